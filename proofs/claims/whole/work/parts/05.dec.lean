theorem dX7_enough_19 : decode cX7_enough 19 = .ok (.iconst 1, 1) := by decide +kernel
theorem dX7_enough_20 : decode cX7_enough 20 = .ok (.sipush 300, 3) := by decide +kernel
theorem dX7_enough_23 : decode cX7_enough 23 = .ok (.invokestatic 45, 3) := by decide +kernel
theorem dX7_enough_26 : decode cX7_enough 26 = .ok (.ifCond .ne 9, 3) := by decide +kernel
theorem dX7_enough_29 : decode cX7_enough 29 = .ok (.aload_n 0, 1) := by decide +kernel
theorem dX7_enough_30 : decode cX7_enough 30 = .ok (.iconst 2, 1) := by decide +kernel
theorem dX7_enough_31 : decode cX7_enough 31 = .ok (.invokevirtual 88, 3) := by decide +kernel
theorem dX7_enough_34 : decode cX7_enough 34 = .ok (.ireturn, 1) := by decide +kernel
theorem dX7_enough_35 : decode cX7_enough 35 = .ok (.aload_n 0, 1) := by decide +kernel
theorem dX7_enough_36 : decode cX7_enough 36 = .ok (.getfield 38, 3) := by decide +kernel
theorem dX7_enough_39 : decode cX7_enough 39 = .ok (.aload_n 0, 1) := by decide +kernel
theorem dX7_enough_40 : decode cX7_enough 40 = .ok (.getfield 34, 3) := by decide +kernel
theorem dX7_enough_43 : decode cX7_enough 43 = .ok (.invokevirtual 138, 3) := by decide +kernel
theorem dX7_enough_46 : decode cX7_enough 46 = .ok (.iconst 0, 1) := by decide +kernel
theorem dX7_enough_47 : decode cX7_enough 47 = .ok (.istore_n 3, 1) := by decide +kernel
theorem dX7_enough_48 : decode cX7_enough 48 = .ok (.iload_n 3, 1) := by decide +kernel
theorem dX7_enough_49 : decode cX7_enough 49 = .ok (.sipush 240, 3) := by decide +kernel
theorem dX7_enough_52 : decode cX7_enough 52 = .ok (.if_icmp .gt 32, 3) := by decide +kernel
theorem dX7_enough_55 : decode cX7_enough 55 = .ok (.aload_n 0, 1) := by decide +kernel
theorem dX7_enough_56 : decode cX7_enough 56 = .ok (.getfield 38, 3) := by decide +kernel
theorem dX7_enough_59 : decode cX7_enough 59 = .ok (.getfield 82, 3) := by decide +kernel
theorem dX7_enough_62 : decode cX7_enough 62 = .ok (.iload_n 1, 1) := by decide +kernel
theorem dX7_enough_63 : decode cX7_enough 63 = .ok (.iaload, 1) := by decide +kernel
theorem dX7_enough_64 : decode cX7_enough 64 = .ok (.iload_n 2, 1) := by decide +kernel
theorem dX7_enough_65 : decode cX7_enough 65 = .ok (.if_icmp .lt 5, 3) := by decide +kernel
theorem dX7_enough_68 : decode cX7_enough 68 = .ok (.iload_n 3, 1) := by decide +kernel
theorem dX7_enough_69 : decode cX7_enough 69 = .ok (.ireturn, 1) := by decide +kernel
theorem dX7_enough_70 : decode cX7_enough 70 = .ok (.aload_n 0, 1) := by decide +kernel
theorem dX7_enough_71 : decode cX7_enough 71 = .ok (.aload_n 0, 1) := by decide +kernel
theorem dX7_enough_72 : decode cX7_enough 72 = .ok (.getfield 38, 3) := by decide +kernel
theorem dX7_enough_75 : decode cX7_enough 75 = .ok (.invokevirtual 134, 3) := by decide +kernel
theorem dX7_enough_78 : decode cX7_enough 78 = .ok (.iinc 3 1, 3) := by decide +kernel
theorem dX7_enough_81 : decode cX7_enough 81 = .ok (.goto (-33), 3) := by decide +kernel
theorem dX7_enough_84 : decode cX7_enough 84 = .ok (.iconst (-1), 1) := by decide +kernel
theorem dX7_enough_85 : decode cX7_enough 85 = .ok (.ireturn, 1) := by decide +kernel
set_option maxRecDepth 20000 in
theorem ggX7_foresee_X7_isIn : GoodIn wsX7_foresee wsX7_isIn := goodIn_r _ [7] (by decide +kernel) (by decide +kernel)
set_option maxRecDepth 20000 in
theorem gX7_foresee_X7_isIn : GoodIn wsX7_foresee (va_wsS RX7 45 yX7_isIn wsX7_isIn) := goodIn_app (goodIn_of _ (by decide +kernel)) ggX7_foresee_X7_isIn
set_option maxRecDepth 20000 in
theorem ggX7_foresee_X7_no : GoodIn wsX7_foresee wsX7_no := goodIn_r _ [11, 1, 66, 67, 68, 69, 70, 71, 72, 73, 74, 75, 76, 77] (by decide +kernel) (by decide +kernel)
set_option maxRecDepth 20000 in
theorem gX7_foresee_X7_no : GoodIn wsX7_foresee (wsV RX7 88 RX7 yX7_no wsX7_no) := goodIn_app (goodIn_of _ (by decide +kernel)) ggX7_foresee_X7_no
set_option maxRecDepth 20000 in
theorem ggX7_foresee_X6_become : GoodIn wsX7_foresee wsX6_become := goodIn_r _ [16, 17, 18, 19, 20, 21, 22, 23, 24, 25, 78, 79, 80, 81, 82] (by decide +kernel) (by decide +kernel)
set_option maxRecDepth 20000 in
theorem gX7_foresee_X6_become : GoodIn wsX7_foresee (wsV RX7 138 RX6 yX6_become wsX6_become) := goodIn_app (goodIn_of _ (by decide +kernel)) ggX7_foresee_X6_become
set_option maxRecDepth 20000 in
theorem ggX7_foresee_X7_pass : GoodIn wsX7_foresee wsX7_pass := goodIn_r _ [29, 30, 31, 32, 33, 34, 35, 36, 37, 38, 6, 39, 40, 41, 42, 43, 44, 45, 46, 47, 48, 49, 50, 51, 52, 15, 53, 19, 54, 5, 7, 78, 79, 80, 81, 82, 66, 67, 68, 69, 70, 71, 72, 73, 74, 75, 76, 77] (by decide +kernel) (by decide +kernel)
set_option maxRecDepth 20000 in
theorem gX7_foresee_X7_pass : GoodIn wsX7_foresee (wsV RX7 134 RX7 yX7_pass wsX7_pass) := goodIn_app (goodIn_of _ (by decide +kernel)) ggX7_foresee_X7_pass
set_option maxRecDepth 20000 in
theorem ggX7_foresee_X7_counted : GoodIn wsX7_foresee wsX7_counted := goodIn_r _ [58, 59, 60, 61, 62, 30, 36, 37, 38, 6, 39, 31, 40, 63, 64, 65, 66, 67, 68, 69, 70, 71, 72, 73, 74, 75, 76, 77, 78, 79, 80, 81, 82] (by decide +kernel) (by decide +kernel)
set_option maxRecDepth 20000 in
theorem gX7_foresee_X7_counted : GoodIn wsX7_foresee (wsV RX7 130 RX7 yX7_counted wsX7_counted) := goodIn_app (goodIn_of _ (by decide +kernel)) ggX7_foresee_X7_counted
theorem dX7_foresee_0 : decode cX7_foresee 0 = .ok (.aload_n 0, 1) := by decide +kernel
theorem dX7_foresee_1 : decode cX7_foresee 1 = .ok (.iconst 0, 1) := by decide +kernel
theorem dX7_foresee_2 : decode cX7_foresee 2 = .ok (.putfield 41, 3) := by decide +kernel
theorem dX7_foresee_5 : decode cX7_foresee 5 = .ok (.iload_n 1, 1) := by decide +kernel
theorem dX7_foresee_6 : decode cX7_foresee 6 = .ok (.iconst 1, 1) := by decide +kernel
theorem dX7_foresee_7 : decode cX7_foresee 7 = .ok (.bipush 96, 2) := by decide +kernel
theorem dX7_foresee_9 : decode cX7_foresee 9 = .ok (.invokestatic 45, 3) := by decide +kernel
theorem dX7_foresee_12 : decode cX7_foresee 12 = .ok (.ifCond .ne 9, 3) := by decide +kernel
theorem dX7_foresee_15 : decode cX7_foresee 15 = .ok (.aload_n 0, 1) := by decide +kernel
theorem dX7_foresee_16 : decode cX7_foresee 16 = .ok (.iconst 1, 1) := by decide +kernel
theorem dX7_foresee_17 : decode cX7_foresee 17 = .ok (.invokevirtual 88, 3) := by decide +kernel
theorem dX7_foresee_20 : decode cX7_foresee 20 = .ok (.ireturn, 1) := by decide +kernel
theorem dX7_foresee_21 : decode cX7_foresee 21 = .ok (.iload_n 2, 1) := by decide +kernel
theorem dX7_foresee_22 : decode cX7_foresee 22 = .ok (.iconst 4, 1) := by decide +kernel
theorem dX7_foresee_23 : decode cX7_foresee 23 = .ok (.if_icmp .eq 21, 3) := by decide +kernel
theorem dX7_foresee_26 : decode cX7_foresee 26 = .ok (.iload_n 2, 1) := by decide +kernel
theorem dX7_foresee_27 : decode cX7_foresee 27 = .ok (.bipush 7, 2) := by decide +kernel
theorem dX7_foresee_29 : decode cX7_foresee 29 = .ok (.if_icmp .eq 15, 3) := by decide +kernel
theorem dX7_foresee_32 : decode cX7_foresee 32 = .ok (.iload_n 2, 1) := by decide +kernel
theorem dX7_foresee_33 : decode cX7_foresee 33 = .ok (.bipush 8, 2) := by decide +kernel
theorem dX7_foresee_35 : decode cX7_foresee 35 = .ok (.if_icmp .eq 9, 3) := by decide +kernel
theorem dX7_foresee_38 : decode cX7_foresee 38 = .ok (.aload_n 0, 1) := by decide +kernel
theorem dX7_foresee_39 : decode cX7_foresee 39 = .ok (.iconst 2, 1) := by decide +kernel
theorem dX7_foresee_40 : decode cX7_foresee 40 = .ok (.invokevirtual 88, 3) := by decide +kernel
theorem dX7_foresee_43 : decode cX7_foresee 43 = .ok (.ireturn, 1) := by decide +kernel
theorem dX7_foresee_44 : decode cX7_foresee 44 = .ok (.aload_n 0, 1) := by decide +kernel
theorem dX7_foresee_45 : decode cX7_foresee 45 = .ok (.getfield 38, 3) := by decide +kernel
theorem dX7_foresee_48 : decode cX7_foresee 48 = .ok (.aload_n 0, 1) := by decide +kernel
theorem dX7_foresee_49 : decode cX7_foresee 49 = .ok (.getfield 34, 3) := by decide +kernel
theorem dX7_foresee_52 : decode cX7_foresee 52 = .ok (.invokevirtual 138, 3) := by decide +kernel
theorem dX7_foresee_55 : decode cX7_foresee 55 = .ok (.iconst 0, 1) := by decide +kernel
theorem dX7_foresee_56 : decode cX7_foresee 56 = .ok (.istore_n 3, 1) := by decide +kernel
theorem dX7_foresee_57 : decode cX7_foresee 57 = .ok (.iload_n 3, 1) := by decide +kernel
theorem dX7_foresee_58 : decode cX7_foresee 58 = .ok (.iload_n 1, 1) := by decide +kernel
theorem dX7_foresee_59 : decode cX7_foresee 59 = .ok (.if_icmp .ge 17, 3) := by decide +kernel
theorem dX7_foresee_62 : decode cX7_foresee 62 = .ok (.aload_n 0, 1) := by decide +kernel
theorem dX7_foresee_63 : decode cX7_foresee 63 = .ok (.aload_n 0, 1) := by decide +kernel
theorem dX7_foresee_64 : decode cX7_foresee 64 = .ok (.getfield 38, 3) := by decide +kernel
theorem dX7_foresee_67 : decode cX7_foresee 67 = .ok (.invokevirtual 134, 3) := by decide +kernel
theorem dX7_foresee_70 : decode cX7_foresee 70 = .ok (.iinc 3 1, 3) := by decide +kernel
theorem dX7_foresee_73 : decode cX7_foresee 73 = .ok (.goto (-16), 3) := by decide +kernel
theorem dX7_foresee_76 : decode cX7_foresee 76 = .ok (.aload_n 0, 1) := by decide +kernel
theorem dX7_foresee_77 : decode cX7_foresee 77 = .ok (.aload_n 0, 1) := by decide +kernel
theorem dX7_foresee_78 : decode cX7_foresee 78 = .ok (.getfield 38, 3) := by decide +kernel
theorem dX7_foresee_81 : decode cX7_foresee 81 = .ok (.iload_n 2, 1) := by decide +kernel
theorem dX7_foresee_82 : decode cX7_foresee 82 = .ok (.invokevirtual 130, 3) := by decide +kernel
theorem dX7_foresee_85 : decode cX7_foresee 85 = .ok (.ireturn, 1) := by decide +kernel
set_option maxRecDepth 20000 in
theorem ggX7_gate_X7_isIn : GoodIn wsX7_gate wsX7_isIn := goodIn_r _ [6] (by decide +kernel) (by decide +kernel)
set_option maxRecDepth 20000 in
theorem gX7_gate_X7_isIn : GoodIn wsX7_gate (va_wsS RX7 45 yX7_isIn wsX7_isIn) := goodIn_app (goodIn_of _ (by decide +kernel)) ggX7_gate_X7_isIn
set_option maxRecDepth 20000 in
theorem ggX7_gate_X7_no : GoodIn wsX7_gate wsX7_no := goodIn_r _ [10, 1, 34, 35, 36, 37, 38, 39, 40, 41, 42, 43, 44, 45] (by decide +kernel) (by decide +kernel)
set_option maxRecDepth 20000 in
theorem gX7_gate_X7_no : GoodIn wsX7_gate (wsV RX7 88 RX7 yX7_no wsX7_no) := goodIn_app (goodIn_of _ (by decide +kernel)) ggX7_gate_X7_no
set_option maxRecDepth 20000 in
theorem ggX7_gate_X7_length : GoodIn wsX7_gate wsX7_length := goodIn_r _ [14, 15, 16, 17, 18, 19, 20, 21, 22, 23, 24, 5, 25, 26, 2, 34, 35, 36, 37, 38, 39, 40, 41, 42, 43, 44, 45, 46, 47, 48, 49, 50] (by decide +kernel) (by decide +kernel)
set_option maxRecDepth 20000 in
theorem gX7_gate_X7_length : GoodIn wsX7_gate (wsV RX7 105 RX7 yX7_length wsX7_length) := goodIn_app (goodIn_of _ (by decide +kernel)) ggX7_gate_X7_length
set_option maxRecDepth 20000 in
theorem ggX7_gate_X6_isBad : GoodIn wsX7_gate wsX6_isBad := goodIn_r _ [31, 32, 33, 46, 47, 48, 49, 50] (by decide +kernel) (by decide +kernel)
set_option maxRecDepth 20000 in
theorem gX7_gate_X6_isBad : GoodIn wsX7_gate (wsV RX7 108 RX6 yX6_isBad wsX6_isBad) := goodIn_app (goodIn_of _ (by decide +kernel)) ggX7_gate_X6_isBad
theorem dX7_gate_0 : decode cX7_gate 0 = .ok (.aload_n 0, 1) := by decide +kernel
theorem dX7_gate_1 : decode cX7_gate 1 = .ok (.iconst 0, 1) := by decide +kernel
theorem dX7_gate_2 : decode cX7_gate 2 = .ok (.putfield 41, 3) := by decide +kernel
theorem dX7_gate_5 : decode cX7_gate 5 = .ok (.iload_n 1, 1) := by decide +kernel
theorem dX7_gate_6 : decode cX7_gate 6 = .ok (.iconst 0, 1) := by decide +kernel
theorem dX7_gate_7 : decode cX7_gate 7 = .ok (.bipush 20, 2) := by decide +kernel
theorem dX7_gate_9 : decode cX7_gate 9 = .ok (.invokestatic 45, 3) := by decide +kernel
theorem dX7_gate_12 : decode cX7_gate 12 = .ok (.ifCond .ne 9, 3) := by decide +kernel
theorem dX7_gate_15 : decode cX7_gate 15 = .ok (.aload_n 0, 1) := by decide +kernel
theorem dX7_gate_16 : decode cX7_gate 16 = .ok (.iconst 1, 1) := by decide +kernel
theorem dX7_gate_17 : decode cX7_gate 17 = .ok (.invokevirtual 88, 3) := by decide +kernel
theorem dX7_gate_20 : decode cX7_gate 20 = .ok (.ireturn, 1) := by decide +kernel
theorem dX7_gate_21 : decode cX7_gate 21 = .ok (.bipush 20, 2) := by decide +kernel
theorem dX7_gate_23 : decode cX7_gate 23 = .ok (.istore_n 2, 1) := by decide +kernel
theorem dX7_gate_24 : decode cX7_gate 24 = .ok (.iload_n 2, 1) := by decide +kernel
theorem dX7_gate_25 : decode cX7_gate 25 = .ok (.ifCond .le 27, 3) := by decide +kernel
theorem dX7_gate_28 : decode cX7_gate 28 = .ok (.aload_n 0, 1) := by decide +kernel
theorem dX7_gate_29 : decode cX7_gate 29 = .ok (.getfield 34, 3) := by decide +kernel
theorem dX7_gate_32 : decode cX7_gate 32 = .ok (.aload_n 0, 1) := by decide +kernel
theorem dX7_gate_33 : decode cX7_gate 33 = .ok (.iload_n 2, 1) := by decide +kernel
theorem dX7_gate_34 : decode cX7_gate 34 = .ok (.iload_n 1, 1) := by decide +kernel
theorem dX7_gate_35 : decode cX7_gate 35 = .ok (.invokevirtual 105, 3) := by decide +kernel
theorem dX7_gate_38 : decode cX7_gate 38 = .ok (.iconst 5, 1) := by decide +kernel
theorem dX7_gate_39 : decode cX7_gate 39 = .ok (.idiv, 1) := by decide +kernel
theorem dX7_gate_40 : decode cX7_gate 40 = .ok (.invokevirtual 108, 3) := by decide +kernel
theorem dX7_gate_43 : decode cX7_gate 43 = .ok (.ifCond .eq 9, 3) := by decide +kernel
theorem dX7_gate_46 : decode cX7_gate 46 = .ok (.iinc 2 (-1), 3) := by decide +kernel
theorem dX7_gate_49 : decode cX7_gate 49 = .ok (.goto (-25), 3) := by decide +kernel
theorem dX7_gate_52 : decode cX7_gate 52 = .ok (.iload_n 2, 1) := by decide +kernel
theorem dX7_gate_53 : decode cX7_gate 53 = .ok (.ireturn, 1) := by decide +kernel
set_option maxRecDepth 20000 in
theorem ggX7_snowWith_X6_become : GoodIn wsX7_snowWith wsX6_become := goodIn_r _ [7, 8, 9, 10, 11, 12, 13, 14, 15, 16, 64, 65, 66, 67, 68] (by decide +kernel) (by decide +kernel)
set_option maxRecDepth 20000 in
theorem gX7_snowWith_X6_become : GoodIn wsX7_snowWith (wsV RX7 138 RX6 yX6_become wsX6_become) := goodIn_app (goodIn_of _ (by decide +kernel)) ggX7_snowWith_X6_become
set_option maxRecDepth 20000 in
theorem ggX7_snowWith_X7_pass : GoodIn wsX7_snowWith wsX7_pass := goodIn_r _ [21, 22, 23, 24, 25, 26, 27, 28, 29, 30, 20, 31, 32, 33, 34, 35, 36, 37, 38, 39, 40, 41, 42, 43, 44, 6, 45, 10, 46, 47, 48, 64, 65, 66, 67, 68, 52, 53, 54, 55, 56, 57, 58, 59, 60, 61, 62, 63] (by decide +kernel) (by decide +kernel)
set_option maxRecDepth 20000 in
theorem gX7_snowWith_X7_pass : GoodIn wsX7_snowWith (wsV RX7 134 RX7 yX7_pass wsX7_pass) := goodIn_app (goodIn_of _ (by decide +kernel)) ggX7_snowWith_X7_pass
set_option maxRecDepth 20000 in
theorem ggX7_snowWith_X7_sum : GoodIn wsX7_snowWith wsX7_sum := goodIn_r _ [51] (by decide +kernel) (by decide +kernel)
set_option maxRecDepth 20000 in
theorem gX7_snowWith_X7_sum : GoodIn wsX7_snowWith (va_wsS RX7 126 yX7_sum wsX7_sum) := goodIn_app (goodIn_of _ (by decide +kernel)) ggX7_snowWith_X7_sum
theorem dX7_snowWith_0 : decode cX7_snowWith 0 = .ok (.aload_n 0, 1) := by decide +kernel
theorem dX7_snowWith_1 : decode cX7_snowWith 1 = .ok (.getfield 38, 3) := by decide +kernel
theorem dX7_snowWith_4 : decode cX7_snowWith 4 = .ok (.aload_n 0, 1) := by decide +kernel
theorem dX7_snowWith_5 : decode cX7_snowWith 5 = .ok (.getfield 34, 3) := by decide +kernel
theorem dX7_snowWith_8 : decode cX7_snowWith 8 = .ok (.invokevirtual 138, 3) := by decide +kernel
theorem dX7_snowWith_11 : decode cX7_snowWith 11 = .ok (.iload_n 1, 1) := by decide +kernel
theorem dX7_snowWith_12 : decode cX7_snowWith 12 = .ok (.iconst (-1), 1) := by decide +kernel
theorem dX7_snowWith_13 : decode cX7_snowWith 13 = .ok (.if_icmp .eq 13, 3) := by decide +kernel
theorem dX7_snowWith_16 : decode cX7_snowWith 16 = .ok (.aload_n 0, 1) := by decide +kernel
theorem dX7_snowWith_17 : decode cX7_snowWith 17 = .ok (.getfield 38, 3) := by decide +kernel
theorem dX7_snowWith_20 : decode cX7_snowWith 20 = .ok (.getfield 52, 3) := by decide +kernel
theorem dX7_snowWith_23 : decode cX7_snowWith 23 = .ok (.iload_n 1, 1) := by decide +kernel
theorem dX7_snowWith_24 : decode cX7_snowWith 24 = .ok (.iconst 1, 1) := by decide +kernel
theorem dX7_snowWith_25 : decode cX7_snowWith 25 = .ok (.iastore, 1) := by decide +kernel
theorem dX7_snowWith_26 : decode cX7_snowWith 26 = .ok (.iconst 0, 1) := by decide +kernel
theorem dX7_snowWith_27 : decode cX7_snowWith 27 = .ok (.istore_n 3, 1) := by decide +kernel
theorem dX7_snowWith_28 : decode cX7_snowWith 28 = .ok (.iload_n 3, 1) := by decide +kernel
theorem dX7_snowWith_29 : decode cX7_snowWith 29 = .ok (.iload_n 2, 1) := by decide +kernel
theorem dX7_snowWith_30 : decode cX7_snowWith 30 = .ok (.if_icmp .ge 17, 3) := by decide +kernel
theorem dX7_snowWith_33 : decode cX7_snowWith 33 = .ok (.aload_n 0, 1) := by decide +kernel
theorem dX7_snowWith_34 : decode cX7_snowWith 34 = .ok (.aload_n 0, 1) := by decide +kernel
theorem dX7_snowWith_35 : decode cX7_snowWith 35 = .ok (.getfield 38, 3) := by decide +kernel
theorem dX7_snowWith_38 : decode cX7_snowWith 38 = .ok (.invokevirtual 134, 3) := by decide +kernel
theorem dX7_snowWith_41 : decode cX7_snowWith 41 = .ok (.iinc 3 1, 3) := by decide +kernel
theorem dX7_snowWith_44 : decode cX7_snowWith 44 = .ok (.goto (-16), 3) := by decide +kernel
theorem dX7_snowWith_47 : decode cX7_snowWith 47 = .ok (.aload_n 0, 1) := by decide +kernel
theorem dX7_snowWith_48 : decode cX7_snowWith 48 = .ok (.getfield 38, 3) := by decide +kernel
theorem dX7_snowWith_51 : decode cX7_snowWith 51 = .ok (.getfield 82, 3) := by decide +kernel
theorem dX7_snowWith_54 : decode cX7_snowWith 54 = .ok (.invokestatic 126, 3) := by decide +kernel
theorem dX7_snowWith_57 : decode cX7_snowWith 57 = .ok (.ireturn, 1) := by decide +kernel
set_option maxRecDepth 20000 in
theorem ggX7_advise_X7_isIn : GoodIn wsX7_advise wsX7_isIn := goodIn_r _ [7] (by decide +kernel) (by decide +kernel)
set_option maxRecDepth 20000 in
theorem gX7_advise_X7_isIn : GoodIn wsX7_advise (va_wsS RX7 45 yX7_isIn wsX7_isIn) := goodIn_app (goodIn_of _ (by decide +kernel)) ggX7_advise_X7_isIn
set_option maxRecDepth 20000 in
theorem ggX7_advise_X7_no : GoodIn wsX7_advise wsX7_no := goodIn_r _ [11, 1, 62, 63, 64, 65, 66, 67, 68, 69, 70, 71, 72, 73] (by decide +kernel) (by decide +kernel)
set_option maxRecDepth 20000 in
theorem gX7_advise_X7_no : GoodIn wsX7_advise (wsV RX7 88 RX7 yX7_no wsX7_no) := goodIn_app (goodIn_of _ (by decide +kernel)) ggX7_advise_X7_no
set_option maxRecDepth 20000 in
theorem ggX7_advise_X7_snowWith : GoodIn wsX7_advise wsX7_snowWith := goodIn_r _ [15, 16, 3, 17, 18, 19, 20, 21, 22, 23, 24, 25, 26, 27, 28, 29, 30, 31, 32, 33, 6, 34, 2, 35, 36, 37, 38, 39, 40, 41, 42, 43, 44, 45, 46, 47, 48, 49, 50, 51, 52, 53, 54, 55, 56, 57, 58, 5, 7, 59, 60, 61, 62, 63, 64, 65, 66, 67, 68, 69, 70, 71, 72, 73, 74, 75, 76, 77, 78] (by decide +kernel) (by decide +kernel)
set_option maxRecDepth 20000 in
theorem gX7_advise_X7_snowWith : GoodIn wsX7_advise (wsV RX7 141 RX7 yX7_snowWith wsX7_snowWith) := goodIn_app (goodIn_of _ (by decide +kernel)) ggX7_advise_X7_snowWith
theorem dX7_advise_0 : decode cX7_advise 0 = .ok (.aload_n 0, 1) := by decide +kernel
theorem dX7_advise_1 : decode cX7_advise 1 = .ok (.iconst 0, 1) := by decide +kernel
theorem dX7_advise_2 : decode cX7_advise 2 = .ok (.putfield 41, 3) := by decide +kernel
theorem dX7_advise_5 : decode cX7_advise 5 = .ok (.iload_n 1, 1) := by decide +kernel
theorem dX7_advise_6 : decode cX7_advise 6 = .ok (.iconst 1, 1) := by decide +kernel
theorem dX7_advise_7 : decode cX7_advise 7 = .ok (.bipush 96, 2) := by decide +kernel
theorem dX7_advise_9 : decode cX7_advise 9 = .ok (.invokestatic 45, 3) := by decide +kernel
theorem dX7_advise_12 : decode cX7_advise 12 = .ok (.ifCond .ne 9, 3) := by decide +kernel
theorem dX7_advise_15 : decode cX7_advise 15 = .ok (.aload_n 0, 1) := by decide +kernel
theorem dX7_advise_16 : decode cX7_advise 16 = .ok (.iconst 1, 1) := by decide +kernel
theorem dX7_advise_17 : decode cX7_advise 17 = .ok (.invokevirtual 88, 3) := by decide +kernel
theorem dX7_advise_20 : decode cX7_advise 20 = .ok (.ireturn, 1) := by decide +kernel
theorem dX7_advise_21 : decode cX7_advise 21 = .ok (.iconst (-1), 1) := by decide +kernel
theorem dX7_advise_22 : decode cX7_advise 22 = .ok (.istore_n 2, 1) := by decide +kernel
theorem dX7_advise_23 : decode cX7_advise 23 = .ok (.aload_n 0, 1) := by decide +kernel
theorem dX7_advise_24 : decode cX7_advise 24 = .ok (.iconst (-1), 1) := by decide +kernel
theorem dX7_advise_25 : decode cX7_advise 25 = .ok (.iload_n 1, 1) := by decide +kernel
theorem dX7_advise_26 : decode cX7_advise 26 = .ok (.invokevirtual 141, 3) := by decide +kernel
theorem dX7_advise_29 : decode cX7_advise 29 = .ok (.istore_n 3, 1) := by decide +kernel
theorem dX7_advise_30 : decode cX7_advise 30 = .ok (.iconst 0, 1) := by decide +kernel
theorem dX7_advise_31 : decode cX7_advise 31 = .ok (.istore 4, 2) := by decide +kernel
theorem dX7_advise_33 : decode cX7_advise 33 = .ok (.iload 4, 2) := by decide +kernel
theorem dX7_advise_35 : decode cX7_advise 35 = .ok (.aload_n 0, 1) := by decide +kernel
theorem dX7_advise_36 : decode cX7_advise 36 = .ok (.getfield 49, 3) := by decide +kernel
theorem dX7_advise_39 : decode cX7_advise 39 = .ok (.if_icmp .ge 50, 3) := by decide +kernel
theorem dX7_advise_42 : decode cX7_advise 42 = .ok (.aload_n 0, 1) := by decide +kernel
theorem dX7_advise_43 : decode cX7_advise 43 = .ok (.getfield 34, 3) := by decide +kernel
theorem dX7_advise_46 : decode cX7_advise 46 = .ok (.getfield 52, 3) := by decide +kernel
theorem dX7_advise_49 : decode cX7_advise 49 = .ok (.iload 4, 2) := by decide +kernel
theorem dX7_advise_51 : decode cX7_advise 51 = .ok (.iaload, 1) := by decide +kernel
theorem dX7_advise_52 : decode cX7_advise 52 = .ok (.iconst 1, 1) := by decide +kernel
theorem dX7_advise_53 : decode cX7_advise 53 = .ok (.if_icmp .ne 6, 3) := by decide +kernel
theorem dX7_advise_56 : decode cX7_advise 56 = .ok (.goto 27, 3) := by decide +kernel
theorem dX7_advise_59 : decode cX7_advise 59 = .ok (.aload_n 0, 1) := by decide +kernel
theorem dX7_advise_60 : decode cX7_advise 60 = .ok (.iload 4, 2) := by decide +kernel
theorem dX7_advise_62 : decode cX7_advise 62 = .ok (.iload_n 1, 1) := by decide +kernel
theorem dX7_advise_63 : decode cX7_advise 63 = .ok (.invokevirtual 141, 3) := by decide +kernel
theorem dX7_advise_66 : decode cX7_advise 66 = .ok (.istore 5, 2) := by decide +kernel
theorem dX7_advise_68 : decode cX7_advise 68 = .ok (.iload 5, 2) := by decide +kernel
theorem dX7_advise_70 : decode cX7_advise 70 = .ok (.iload_n 3, 1) := by decide +kernel
theorem dX7_advise_71 : decode cX7_advise 71 = .ok (.if_icmp .gt 6, 3) := by decide +kernel
theorem dX7_advise_74 : decode cX7_advise 74 = .ok (.goto 9, 3) := by decide +kernel
theorem dX7_advise_77 : decode cX7_advise 77 = .ok (.iload 5, 2) := by decide +kernel
theorem dX7_advise_79 : decode cX7_advise 79 = .ok (.istore_n 3, 1) := by decide +kernel
theorem dX7_advise_80 : decode cX7_advise 80 = .ok (.iload 4, 2) := by decide +kernel
theorem dX7_advise_82 : decode cX7_advise 82 = .ok (.istore_n 2, 1) := by decide +kernel
theorem dX7_advise_83 : decode cX7_advise 83 = .ok (.iinc 4 1, 3) := by decide +kernel
theorem dX7_advise_86 : decode cX7_advise 86 = .ok (.goto (-53), 3) := by decide +kernel
theorem dX7_advise_89 : decode cX7_advise 89 = .ok (.iload_n 2, 1) := by decide +kernel
theorem dX7_advise_90 : decode cX7_advise 90 = .ok (.ireturn, 1) := by decide +kernel
theorem dX7_mean_0 : decode cX7_mean 0 = .ok (.aload_n 0, 1) := by decide +kernel
theorem dX7_mean_1 : decode cX7_mean 1 = .ok (.iconst 0, 1) := by decide +kernel
theorem dX7_mean_2 : decode cX7_mean 2 = .ok (.putfield 41, 3) := by decide +kernel
theorem dX7_mean_5 : decode cX7_mean 5 = .ok (.iconst 0, 1) := by decide +kernel
theorem dX7_mean_6 : decode cX7_mean 6 = .ok (.istore_n 1, 1) := by decide +kernel
theorem dX7_mean_7 : decode cX7_mean 7 = .ok (.iconst 0, 1) := by decide +kernel
theorem dX7_mean_8 : decode cX7_mean 8 = .ok (.istore_n 2, 1) := by decide +kernel
theorem dX7_mean_9 : decode cX7_mean 9 = .ok (.iload_n 2, 1) := by decide +kernel
theorem dX7_mean_10 : decode cX7_mean 10 = .ok (.aload_n 0, 1) := by decide +kernel
theorem dX7_mean_11 : decode cX7_mean 11 = .ok (.getfield 102, 3) := by decide +kernel
theorem dX7_mean_14 : decode cX7_mean 14 = .ok (.if_icmp .ge 22, 3) := by decide +kernel
theorem dX7_mean_17 : decode cX7_mean 17 = .ok (.iload_n 1, 1) := by decide +kernel
theorem dX7_mean_18 : decode cX7_mean 18 = .ok (.aload_n 0, 1) := by decide +kernel
theorem dX7_mean_19 : decode cX7_mean 19 = .ok (.getfield 28, 3) := by decide +kernel
theorem dX7_mean_22 : decode cX7_mean 22 = .ok (.iconst 5, 1) := by decide +kernel
theorem dX7_mean_23 : decode cX7_mean 23 = .ok (.iload_n 2, 1) := by decide +kernel
theorem dX7_mean_24 : decode cX7_mean 24 = .ok (.imul, 1) := by decide +kernel
theorem dX7_mean_25 : decode cX7_mean 25 = .ok (.iconst 2, 1) := by decide +kernel
theorem dX7_mean_26 : decode cX7_mean 26 = .ok (.iadd, 1) := by decide +kernel
theorem dX7_mean_27 : decode cX7_mean 27 = .ok (.iaload, 1) := by decide +kernel
theorem dX7_mean_28 : decode cX7_mean 28 = .ok (.iadd, 1) := by decide +kernel
theorem dX7_mean_29 : decode cX7_mean 29 = .ok (.istore_n 1, 1) := by decide +kernel
theorem dX7_mean_30 : decode cX7_mean 30 = .ok (.iinc 2 1, 3) := by decide +kernel
theorem dX7_mean_33 : decode cX7_mean 33 = .ok (.goto (-24), 3) := by decide +kernel
theorem dX7_mean_36 : decode cX7_mean 36 = .ok (.aload_n 0, 1) := by decide +kernel
theorem dX7_mean_37 : decode cX7_mean 37 = .ok (.getfield 102, 3) := by decide +kernel
theorem dX7_mean_40 : decode cX7_mean 40 = .ok (.ifCond .ne 7, 3) := by decide +kernel
theorem dX7_mean_43 : decode cX7_mean 43 = .ok (.dconst 0, 1) := by decide +kernel
theorem dX7_mean_44 : decode cX7_mean 44 = .ok (.goto 11, 3) := by decide +kernel
theorem dX7_mean_47 : decode cX7_mean 47 = .ok (.iload_n 1, 1) := by decide +kernel
theorem dX7_mean_48 : decode cX7_mean 48 = .ok (.i2d, 1) := by decide +kernel
theorem dX7_mean_49 : decode cX7_mean 49 = .ok (.aload_n 0, 1) := by decide +kernel
theorem dX7_mean_50 : decode cX7_mean 50 = .ok (.getfield 102, 3) := by decide +kernel
theorem dX7_mean_53 : decode cX7_mean 53 = .ok (.i2d, 1) := by decide +kernel
theorem dX7_mean_54 : decode cX7_mean 54 = .ok (.ddiv, 1) := by decide +kernel
theorem dX7_mean_55 : decode cX7_mean 55 = .ok (.dreturn, 1) := by decide +kernel
set_option maxRecDepth 20000 in
theorem ggX7_digest_X7_counted : GoodIn wsX7_digest wsX7_counted := goodIn_r _ [18, 12, 13, 19, 7, 9, 20, 21, 22, 17, 23, 5, 6, 24, 25, 26, 49, 50, 51, 52, 53, 54, 55, 56, 57, 58, 59, 60, 61, 62, 63, 64, 65] (by decide +kernel) (by decide +kernel)
set_option maxRecDepth 20000 in
theorem gX7_digest_X7_counted : GoodIn wsX7_digest (wsV RX7 130 RX7 yX7_counted wsX7_counted) := goodIn_app (goodIn_of _ (by decide +kernel)) ggX7_digest_X7_counted
set_option maxRecDepth 20000 in
theorem ggX7_digest_X7_partTold : GoodIn wsX7_digest wsX7_partTold := goodIn_r _ [30, 9, 10, 4, 31, 32, 33, 34, 35, 36, 37, 49, 50, 51, 52, 53, 54, 55, 56, 57, 58, 59, 60, 61, 62, 63, 64, 65] (by decide +kernel) (by decide +kernel)
set_option maxRecDepth 20000 in
theorem gX7_digest_X7_partTold : GoodIn wsX7_digest (wsV RX7 123 RX7 yX7_partTold wsX7_partTold) := goodIn_app (goodIn_of _ (by decide +kernel)) ggX7_digest_X7_partTold
set_option maxRecDepth 20000 in
theorem ggX7_digest_X7_scoreOf : GoodIn wsX7_digest wsX7_scoreOf := goodIn_r _ [41, 12, 13, 42, 43, 44, 45, 46, 47, 48, 49, 50, 51, 52, 53, 54, 55, 56, 57, 58, 59, 60] (by decide +kernel) (by decide +kernel)
set_option maxRecDepth 20000 in
theorem gX7_digest_X7_scoreOf : GoodIn wsX7_digest (wsV RX7 120 RX7 yX7_scoreOf wsX7_scoreOf) := goodIn_app (goodIn_of _ (by decide +kernel)) ggX7_digest_X7_scoreOf
theorem dX7_digest_0 : decode cX7_digest 0 = .ok (.aload_n 0, 1) := by decide +kernel
theorem dX7_digest_1 : decode cX7_digest 1 = .ok (.iconst 0, 1) := by decide +kernel
theorem dX7_digest_2 : decode cX7_digest 2 = .ok (.putfield 41, 3) := by decide +kernel
theorem dX7_digest_5 : decode cX7_digest 5 = .ok (.ldc2_w 144, 3) := by decide +kernel
theorem dX7_digest_8 : decode cX7_digest 8 = .ok (.lstore_n 1, 1) := by decide +kernel
theorem dX7_digest_9 : decode cX7_digest 9 = .ok (.iconst 0, 1) := by decide +kernel
theorem dX7_digest_10 : decode cX7_digest 10 = .ok (.istore_n 3, 1) := by decide +kernel
theorem dX7_digest_11 : decode cX7_digest 11 = .ok (.iload_n 3, 1) := by decide +kernel
theorem dX7_digest_12 : decode cX7_digest 12 = .ok (.bipush 10, 2) := by decide +kernel
theorem dX7_digest_14 : decode cX7_digest 14 = .ok (.if_icmp .gt 26, 3) := by decide +kernel
theorem dX7_digest_17 : decode cX7_digest 17 = .ok (.lload_n 1, 1) := by decide +kernel
theorem dX7_digest_18 : decode cX7_digest 18 = .ok (.ldc2_w 146, 3) := by decide +kernel
theorem dX7_digest_21 : decode cX7_digest 21 = .ok (.lmul, 1) := by decide +kernel
theorem dX7_digest_22 : decode cX7_digest 22 = .ok (.aload_n 0, 1) := by decide +kernel
theorem dX7_digest_23 : decode cX7_digest 23 = .ok (.aload_n 0, 1) := by decide +kernel
theorem dX7_digest_24 : decode cX7_digest 24 = .ok (.getfield 34, 3) := by decide +kernel
theorem dX7_digest_27 : decode cX7_digest 27 = .ok (.iload_n 3, 1) := by decide +kernel
theorem dX7_digest_28 : decode cX7_digest 28 = .ok (.invokevirtual 130, 3) := by decide +kernel
theorem dX7_digest_31 : decode cX7_digest 31 = .ok (.i2l, 1) := by decide +kernel
theorem dX7_digest_32 : decode cX7_digest 32 = .ok (.ladd, 1) := by decide +kernel
theorem dX7_digest_33 : decode cX7_digest 33 = .ok (.lstore_n 1, 1) := by decide +kernel
theorem dX7_digest_34 : decode cX7_digest 34 = .ok (.iinc 3 1, 3) := by decide +kernel
theorem dX7_digest_37 : decode cX7_digest 37 = .ok (.goto (-26), 3) := by decide +kernel
theorem dX7_digest_40 : decode cX7_digest 40 = .ok (.iconst 0, 1) := by decide +kernel
theorem dX7_digest_41 : decode cX7_digest 41 = .ok (.istore_n 3, 1) := by decide +kernel
theorem dX7_digest_42 : decode cX7_digest 42 = .ok (.iload_n 3, 1) := by decide +kernel
theorem dX7_digest_43 : decode cX7_digest 43 = .ok (.bipush 20, 2) := by decide +kernel
theorem dX7_digest_45 : decode cX7_digest 45 = .ok (.if_icmp .ge 39, 3) := by decide +kernel
theorem dX7_digest_48 : decode cX7_digest 48 = .ok (.iconst 0, 1) := by decide +kernel
theorem dX7_digest_49 : decode cX7_digest 49 = .ok (.istore 4, 2) := by decide +kernel
theorem dX7_digest_51 : decode cX7_digest 51 = .ok (.iload 4, 2) := by decide +kernel
theorem dX7_digest_53 : decode cX7_digest 53 = .ok (.iconst 3, 1) := by decide +kernel
theorem dX7_digest_54 : decode cX7_digest 54 = .ok (.if_icmp .gt 24, 3) := by decide +kernel
theorem dX7_digest_57 : decode cX7_digest 57 = .ok (.lload_n 1, 1) := by decide +kernel
theorem dX7_digest_58 : decode cX7_digest 58 = .ok (.ldc2_w 146, 3) := by decide +kernel
theorem dX7_digest_61 : decode cX7_digest 61 = .ok (.lmul, 1) := by decide +kernel
theorem dX7_digest_62 : decode cX7_digest 62 = .ok (.aload_n 0, 1) := by decide +kernel
theorem dX7_digest_63 : decode cX7_digest 63 = .ok (.iload_n 3, 1) := by decide +kernel
theorem dX7_digest_64 : decode cX7_digest 64 = .ok (.iload 4, 2) := by decide +kernel
theorem dX7_digest_66 : decode cX7_digest 66 = .ok (.invokevirtual 123, 3) := by decide +kernel
theorem dX7_digest_69 : decode cX7_digest 69 = .ok (.i2l, 1) := by decide +kernel
theorem dX7_digest_70 : decode cX7_digest 70 = .ok (.ladd, 1) := by decide +kernel
theorem dX7_digest_71 : decode cX7_digest 71 = .ok (.lstore_n 1, 1) := by decide +kernel
theorem dX7_digest_72 : decode cX7_digest 72 = .ok (.iinc 4 1, 3) := by decide +kernel
theorem dX7_digest_75 : decode cX7_digest 75 = .ok (.goto (-24), 3) := by decide +kernel
theorem dX7_digest_78 : decode cX7_digest 78 = .ok (.iinc 3 1, 3) := by decide +kernel
theorem dX7_digest_81 : decode cX7_digest 81 = .ok (.goto (-39), 3) := by decide +kernel
theorem dX7_digest_84 : decode cX7_digest 84 = .ok (.iconst 0, 1) := by decide +kernel
theorem dX7_digest_85 : decode cX7_digest 85 = .ok (.istore_n 3, 1) := by decide +kernel
theorem dX7_digest_86 : decode cX7_digest 86 = .ok (.iload_n 3, 1) := by decide +kernel
theorem dX7_digest_87 : decode cX7_digest 87 = .ok (.bipush 24, 2) := by decide +kernel
theorem dX7_digest_89 : decode cX7_digest 89 = .ok (.if_icmp .ge 47, 3) := by decide +kernel
theorem dX7_digest_92 : decode cX7_digest 92 = .ok (.lload_n 1, 1) := by decide +kernel
theorem dX7_digest_93 : decode cX7_digest 93 = .ok (.ldc2_w 146, 3) := by decide +kernel
theorem dX7_digest_96 : decode cX7_digest 96 = .ok (.lmul, 1) := by decide +kernel
theorem dX7_digest_97 : decode cX7_digest 97 = .ok (.aload_n 0, 1) := by decide +kernel
theorem dX7_digest_98 : decode cX7_digest 98 = .ok (.getfield 9, 3) := by decide +kernel
theorem dX7_digest_101 : decode cX7_digest 101 = .ok (.iload_n 3, 1) := by decide +kernel
theorem dX7_digest_102 : decode cX7_digest 102 = .ok (.iaload, 1) := by decide +kernel
theorem dX7_digest_103 : decode cX7_digest 103 = .ok (.i2l, 1) := by decide +kernel
theorem dX7_digest_104 : decode cX7_digest 104 = .ok (.ladd, 1) := by decide +kernel
theorem dX7_digest_105 : decode cX7_digest 105 = .ok (.ldc2_w 146, 3) := by decide +kernel
theorem dX7_digest_108 : decode cX7_digest 108 = .ok (.lmul, 1) := by decide +kernel
theorem dX7_digest_109 : decode cX7_digest 109 = .ok (.aload_n 0, 1) := by decide +kernel
theorem dX7_digest_110 : decode cX7_digest 110 = .ok (.getfield 13, 3) := by decide +kernel
theorem dX7_digest_113 : decode cX7_digest 113 = .ok (.iload_n 3, 1) := by decide +kernel
theorem dX7_digest_114 : decode cX7_digest 114 = .ok (.iaload, 1) := by decide +kernel
theorem dX7_digest_115 : decode cX7_digest 115 = .ok (.i2l, 1) := by decide +kernel
theorem dX7_digest_116 : decode cX7_digest 116 = .ok (.ladd, 1) := by decide +kernel
theorem dX7_digest_117 : decode cX7_digest 117 = .ok (.ldc2_w 146, 3) := by decide +kernel
theorem dX7_digest_120 : decode cX7_digest 120 = .ok (.lmul, 1) := by decide +kernel
theorem dX7_digest_121 : decode cX7_digest 121 = .ok (.aload_n 0, 1) := by decide +kernel
theorem dX7_digest_122 : decode cX7_digest 122 = .ok (.getfield 16, 3) := by decide +kernel
theorem dX7_digest_125 : decode cX7_digest 125 = .ok (.iload_n 3, 1) := by decide +kernel
theorem dX7_digest_126 : decode cX7_digest 126 = .ok (.iaload, 1) := by decide +kernel
theorem dX7_digest_127 : decode cX7_digest 127 = .ok (.i2l, 1) := by decide +kernel
theorem dX7_digest_128 : decode cX7_digest 128 = .ok (.ladd, 1) := by decide +kernel
theorem dX7_digest_129 : decode cX7_digest 129 = .ok (.lstore_n 1, 1) := by decide +kernel
theorem dX7_digest_130 : decode cX7_digest 130 = .ok (.iinc 3 1, 3) := by decide +kernel
theorem dX7_digest_133 : decode cX7_digest 133 = .ok (.goto (-47), 3) := by decide +kernel
theorem dX7_digest_136 : decode cX7_digest 136 = .ok (.aload_n 0, 1) := by decide +kernel
theorem dX7_digest_137 : decode cX7_digest 137 = .ok (.getfield 25, 3) := by decide +kernel
theorem dX7_digest_140 : decode cX7_digest 140 = .ok (.astore_n 3, 1) := by decide +kernel
theorem dX7_digest_141 : decode cX7_digest 141 = .ok (.aload_n 3, 1) := by decide +kernel
theorem dX7_digest_142 : decode cX7_digest 142 = .ok (.arraylength, 1) := by decide +kernel
theorem dX7_digest_143 : decode cX7_digest 143 = .ok (.istore 4, 2) := by decide +kernel
theorem dX7_digest_145 : decode cX7_digest 145 = .ok (.iconst 0, 1) := by decide +kernel
theorem dX7_digest_146 : decode cX7_digest 146 = .ok (.istore 5, 2) := by decide +kernel
theorem dX7_digest_148 : decode cX7_digest 148 = .ok (.iload 5, 2) := by decide +kernel
theorem dX7_digest_150 : decode cX7_digest 150 = .ok (.iload 4, 2) := by decide +kernel
theorem dX7_digest_152 : decode cX7_digest 152 = .ok (.if_icmp .ge 25, 3) := by decide +kernel
theorem dX7_digest_155 : decode cX7_digest 155 = .ok (.aload_n 3, 1) := by decide +kernel
theorem dX7_digest_156 : decode cX7_digest 156 = .ok (.iload 5, 2) := by decide +kernel
theorem dX7_digest_158 : decode cX7_digest 158 = .ok (.iaload, 1) := by decide +kernel
theorem dX7_digest_159 : decode cX7_digest 159 = .ok (.istore 6, 2) := by decide +kernel
theorem dX7_digest_161 : decode cX7_digest 161 = .ok (.lload_n 1, 1) := by decide +kernel
theorem dX7_digest_162 : decode cX7_digest 162 = .ok (.ldc2_w 146, 3) := by decide +kernel
theorem dX7_digest_165 : decode cX7_digest 165 = .ok (.lmul, 1) := by decide +kernel
theorem dX7_digest_166 : decode cX7_digest 166 = .ok (.iload 6, 2) := by decide +kernel
theorem dX7_digest_168 : decode cX7_digest 168 = .ok (.i2l, 1) := by decide +kernel
theorem dX7_digest_169 : decode cX7_digest 169 = .ok (.ladd, 1) := by decide +kernel
theorem dX7_digest_170 : decode cX7_digest 170 = .ok (.lstore_n 1, 1) := by decide +kernel
theorem dX7_digest_171 : decode cX7_digest 171 = .ok (.iinc 5 1, 3) := by decide +kernel
theorem dX7_digest_174 : decode cX7_digest 174 = .ok (.goto (-26), 3) := by decide +kernel
theorem dX7_digest_177 : decode cX7_digest 177 = .ok (.iconst 0, 1) := by decide +kernel
theorem dX7_digest_178 : decode cX7_digest 178 = .ok (.istore_n 3, 1) := by decide +kernel
theorem dX7_digest_179 : decode cX7_digest 179 = .ok (.iload_n 3, 1) := by decide +kernel
theorem dX7_digest_180 : decode cX7_digest 180 = .ok (.aload_n 0, 1) := by decide +kernel
theorem dX7_digest_181 : decode cX7_digest 181 = .ok (.getfield 49, 3) := by decide +kernel
theorem dX7_digest_184 : decode cX7_digest 184 = .ok (.if_icmp .ge 50, 3) := by decide +kernel
theorem dX7_digest_187 : decode cX7_digest 187 = .ok (.lload_n 1, 1) := by decide +kernel
theorem dX7_digest_188 : decode cX7_digest 188 = .ok (.ldc2_w 146, 3) := by decide +kernel
theorem dX7_digest_191 : decode cX7_digest 191 = .ok (.lmul, 1) := by decide +kernel
theorem dX7_digest_192 : decode cX7_digest 192 = .ok (.aload_n 0, 1) := by decide +kernel
theorem dX7_digest_193 : decode cX7_digest 193 = .ok (.getfield 19, 3) := by decide +kernel
theorem dX7_digest_196 : decode cX7_digest 196 = .ok (.iload_n 3, 1) := by decide +kernel
theorem dX7_digest_197 : decode cX7_digest 197 = .ok (.iaload, 1) := by decide +kernel
theorem dX7_digest_198 : decode cX7_digest 198 = .ok (.i2l, 1) := by decide +kernel
theorem dX7_digest_199 : decode cX7_digest 199 = .ok (.ladd, 1) := by decide +kernel
theorem dX7_digest_200 : decode cX7_digest 200 = .ok (.ldc2_w 146, 3) := by decide +kernel
theorem dX7_digest_203 : decode cX7_digest 203 = .ok (.lmul, 1) := by decide +kernel
theorem dX7_digest_204 : decode cX7_digest 204 = .ok (.aload_n 0, 1) := by decide +kernel
theorem dX7_digest_205 : decode cX7_digest 205 = .ok (.getfield 22, 3) := by decide +kernel
theorem dX7_digest_208 : decode cX7_digest 208 = .ok (.iload_n 3, 1) := by decide +kernel
theorem dX7_digest_209 : decode cX7_digest 209 = .ok (.iaload, 1) := by decide +kernel
theorem dX7_digest_210 : decode cX7_digest 210 = .ok (.i2l, 1) := by decide +kernel
theorem dX7_digest_211 : decode cX7_digest 211 = .ok (.ladd, 1) := by decide +kernel
theorem dX7_digest_212 : decode cX7_digest 212 = .ok (.ldc2_w 146, 3) := by decide +kernel
theorem dX7_digest_215 : decode cX7_digest 215 = .ok (.lmul, 1) := by decide +kernel
theorem dX7_digest_216 : decode cX7_digest 216 = .ok (.aload_n 0, 1) := by decide +kernel
theorem dX7_digest_217 : decode cX7_digest 217 = .ok (.getfield 34, 3) := by decide +kernel
theorem dX7_digest_220 : decode cX7_digest 220 = .ok (.getfield 52, 3) := by decide +kernel
theorem dX7_digest_223 : decode cX7_digest 223 = .ok (.iload_n 3, 1) := by decide +kernel
theorem dX7_digest_224 : decode cX7_digest 224 = .ok (.iaload, 1) := by decide +kernel
theorem dX7_digest_225 : decode cX7_digest 225 = .ok (.i2l, 1) := by decide +kernel
theorem dX7_digest_226 : decode cX7_digest 226 = .ok (.ladd, 1) := by decide +kernel
theorem dX7_digest_227 : decode cX7_digest 227 = .ok (.lstore_n 1, 1) := by decide +kernel
theorem dX7_digest_228 : decode cX7_digest 228 = .ok (.iinc 3 1, 3) := by decide +kernel
theorem dX7_digest_231 : decode cX7_digest 231 = .ok (.goto (-52), 3) := by decide +kernel
theorem dX7_digest_234 : decode cX7_digest 234 = .ok (.iconst 0, 1) := by decide +kernel
theorem dX7_digest_235 : decode cX7_digest 235 = .ok (.istore_n 3, 1) := by decide +kernel
theorem dX7_digest_236 : decode cX7_digest 236 = .ok (.iload_n 3, 1) := by decide +kernel
theorem dX7_digest_237 : decode cX7_digest 237 = .ok (.iconst 5, 1) := by decide +kernel
theorem dX7_digest_238 : decode cX7_digest 238 = .ok (.aload_n 0, 1) := by decide +kernel
theorem dX7_digest_239 : decode cX7_digest 239 = .ok (.getfield 102, 3) := by decide +kernel
theorem dX7_digest_242 : decode cX7_digest 242 = .ok (.imul, 1) := by decide +kernel
theorem dX7_digest_243 : decode cX7_digest 243 = .ok (.if_icmp .ge 23, 3) := by decide +kernel
theorem dX7_digest_246 : decode cX7_digest 246 = .ok (.lload_n 1, 1) := by decide +kernel
theorem dX7_digest_247 : decode cX7_digest 247 = .ok (.ldc2_w 146, 3) := by decide +kernel
theorem dX7_digest_250 : decode cX7_digest 250 = .ok (.lmul, 1) := by decide +kernel
theorem dX7_digest_251 : decode cX7_digest 251 = .ok (.aload_n 0, 1) := by decide +kernel
theorem dX7_digest_252 : decode cX7_digest 252 = .ok (.getfield 28, 3) := by decide +kernel
theorem dX7_digest_255 : decode cX7_digest 255 = .ok (.iload_n 3, 1) := by decide +kernel
theorem dX7_digest_256 : decode cX7_digest 256 = .ok (.iaload, 1) := by decide +kernel
theorem dX7_digest_257 : decode cX7_digest 257 = .ok (.i2l, 1) := by decide +kernel
theorem dX7_digest_258 : decode cX7_digest 258 = .ok (.ladd, 1) := by decide +kernel
theorem dX7_digest_259 : decode cX7_digest 259 = .ok (.lstore_n 1, 1) := by decide +kernel
theorem dX7_digest_260 : decode cX7_digest 260 = .ok (.iinc 3 1, 3) := by decide +kernel
theorem dX7_digest_263 : decode cX7_digest 263 = .ok (.goto (-27), 3) := by decide +kernel
theorem dX7_digest_266 : decode cX7_digest 266 = .ok (.iconst 0, 1) := by decide +kernel
theorem dX7_digest_267 : decode cX7_digest 267 = .ok (.istore_n 3, 1) := by decide +kernel
theorem dX7_digest_268 : decode cX7_digest 268 = .ok (.iload_n 3, 1) := by decide +kernel
theorem dX7_digest_269 : decode cX7_digest 269 = .ok (.bipush 10, 2) := by decide +kernel
theorem dX7_digest_271 : decode cX7_digest 271 = .ok (.if_icmp .ge 22, 3) := by decide +kernel
theorem dX7_digest_274 : decode cX7_digest 274 = .ok (.lload_n 1, 1) := by decide +kernel
theorem dX7_digest_275 : decode cX7_digest 275 = .ok (.ldc2_w 146, 3) := by decide +kernel
theorem dX7_digest_278 : decode cX7_digest 278 = .ok (.lmul, 1) := by decide +kernel
theorem dX7_digest_279 : decode cX7_digest 279 = .ok (.aload_n 0, 1) := by decide +kernel
theorem dX7_digest_280 : decode cX7_digest 280 = .ok (.iload_n 3, 1) := by decide +kernel
theorem dX7_digest_281 : decode cX7_digest 281 = .ok (.invokevirtual 120, 3) := by decide +kernel
theorem dX7_digest_284 : decode cX7_digest 284 = .ok (.i2l, 1) := by decide +kernel
theorem dX7_digest_285 : decode cX7_digest 285 = .ok (.ladd, 1) := by decide +kernel
theorem dX7_digest_286 : decode cX7_digest 286 = .ok (.lstore_n 1, 1) := by decide +kernel
theorem dX7_digest_287 : decode cX7_digest 287 = .ok (.iinc 3 1, 3) := by decide +kernel
theorem dX7_digest_290 : decode cX7_digest 290 = .ok (.goto (-22), 3) := by decide +kernel
theorem dX7_digest_293 : decode cX7_digest 293 = .ok (.lload_n 1, 1) := by decide +kernel
theorem dX7_digest_294 : decode cX7_digest 294 = .ok (.lreturn, 1) := by decide +kernel
theorem dJ9_floorMod_7cf53_0 : decode cJ9_floorMod_7cf53 0 = .ok (.iload_n 0, 1) := by decide +kernel
theorem dJ9_floorMod_7cf53_1 : decode cJ9_floorMod_7cf53 1 = .ok (.iload_n 1, 1) := by decide +kernel
theorem dJ9_floorMod_7cf53_2 : decode cJ9_floorMod_7cf53 2 = .ok (.irem, 1) := by decide +kernel
theorem dJ9_floorMod_7cf53_3 : decode cJ9_floorMod_7cf53 3 = .ok (.istore_n 2, 1) := by decide +kernel
theorem dJ9_floorMod_7cf53_4 : decode cJ9_floorMod_7cf53 4 = .ok (.iload_n 0, 1) := by decide +kernel
theorem dJ9_floorMod_7cf53_5 : decode cJ9_floorMod_7cf53 5 = .ok (.iload_n 1, 1) := by decide +kernel
theorem dJ9_floorMod_7cf53_6 : decode cJ9_floorMod_7cf53 6 = .ok (.ixor, 1) := by decide +kernel
theorem dJ9_floorMod_7cf53_7 : decode cJ9_floorMod_7cf53 7 = .ok (.ifCond .ge 11, 3) := by decide +kernel
theorem dJ9_floorMod_7cf53_10 : decode cJ9_floorMod_7cf53 10 = .ok (.iload_n 2, 1) := by decide +kernel
theorem dJ9_floorMod_7cf53_11 : decode cJ9_floorMod_7cf53 11 = .ok (.ifCond .eq 7, 3) := by decide +kernel
theorem dJ9_floorMod_7cf53_14 : decode cJ9_floorMod_7cf53 14 = .ok (.iload_n 2, 1) := by decide +kernel
theorem dJ9_floorMod_7cf53_15 : decode cJ9_floorMod_7cf53 15 = .ok (.iload_n 1, 1) := by decide +kernel
theorem dJ9_floorMod_7cf53_16 : decode cJ9_floorMod_7cf53 16 = .ok (.iadd, 1) := by decide +kernel
theorem dJ9_floorMod_7cf53_17 : decode cJ9_floorMod_7cf53 17 = .ok (.ireturn, 1) := by decide +kernel
theorem dJ9_floorMod_7cf53_18 : decode cJ9_floorMod_7cf53 18 = .ok (.iload_n 2, 1) := by decide +kernel
theorem dJ9_floorMod_7cf53_19 : decode cJ9_floorMod_7cf53 19 = .ok (.ireturn, 1) := by decide +kernel
theorem dJ9_abs_0f7a4_0 : decode cJ9_abs_0f7a4 0 = .ok (.iload_n 0, 1) := by decide +kernel
theorem dJ9_abs_0f7a4_1 : decode cJ9_abs_0f7a4 1 = .ok (.ifCond .ge 8, 3) := by decide +kernel
theorem dJ9_abs_0f7a4_4 : decode cJ9_abs_0f7a4 4 = .ok (.iload_n 0, 1) := by decide +kernel
theorem dJ9_abs_0f7a4_5 : decode cJ9_abs_0f7a4 5 = .ok (.ineg, 1) := by decide +kernel
theorem dJ9_abs_0f7a4_6 : decode cJ9_abs_0f7a4 6 = .ok (.goto 4, 3) := by decide +kernel
theorem dJ9_abs_0f7a4_9 : decode cJ9_abs_0f7a4 9 = .ok (.iload_n 0, 1) := by decide +kernel
theorem dJ9_abs_0f7a4_10 : decode cJ9_abs_0f7a4 10 = .ok (.ireturn, 1) := by decide +kernel
theorem dJ9_max_7cf53_0 : decode cJ9_max_7cf53 0 = .ok (.iload_n 0, 1) := by decide +kernel
theorem dJ9_max_7cf53_1 : decode cJ9_max_7cf53 1 = .ok (.iload_n 1, 1) := by decide +kernel
theorem dJ9_max_7cf53_2 : decode cJ9_max_7cf53 2 = .ok (.if_icmp .lt 7, 3) := by decide +kernel
theorem dJ9_max_7cf53_5 : decode cJ9_max_7cf53 5 = .ok (.iload_n 0, 1) := by decide +kernel
theorem dJ9_max_7cf53_6 : decode cJ9_max_7cf53 6 = .ok (.goto 4, 3) := by decide +kernel
theorem dJ9_max_7cf53_9 : decode cJ9_max_7cf53 9 = .ok (.iload_n 1, 1) := by decide +kernel
theorem dJ9_max_7cf53_10 : decode cJ9_max_7cf53 10 = .ok (.ireturn, 1) := by decide +kernel
theorem dJ9_min_7cf53_0 : decode cJ9_min_7cf53 0 = .ok (.iload_n 0, 1) := by decide +kernel
theorem dJ9_min_7cf53_1 : decode cJ9_min_7cf53 1 = .ok (.iload_n 1, 1) := by decide +kernel
theorem dJ9_min_7cf53_2 : decode cJ9_min_7cf53 2 = .ok (.if_icmp .gt 7, 3) := by decide +kernel
theorem dJ9_min_7cf53_5 : decode cJ9_min_7cf53 5 = .ok (.iload_n 0, 1) := by decide +kernel
theorem dJ9_min_7cf53_6 : decode cJ9_min_7cf53 6 = .ok (.goto 4, 3) := by decide +kernel
theorem dJ9_min_7cf53_9 : decode cJ9_min_7cf53 9 = .ok (.iload_n 1, 1) := by decide +kernel
theorem dJ9_min_7cf53_10 : decode cJ9_min_7cf53 10 = .ok (.ireturn, 1) := by decide +kernel
set_option maxRecDepth 20000 in
theorem ggL_setWeather_X5_setWeather : GoodIn wsL_setWeather wsX5_setWeather := goodIn_ca (goodIn_ca (goodIn_r _ [7, 8, 9, 10, 11, 12, 13, 14, 15, 16, 17, 6, 18, 19, 20, 21, 22, 23, 24, 25, 26, 27, 28, 29, 30, 31, 32, 33, 34] (by decide +kernel) (by decide +kernel)) (goodIn_sub (fun _ h => List.mem_cons_of_mem _ (List.mem_append_left _ (List.mem_append_right _ h))) (by decide +kernel))) (goodIn_sub (fun _ h => List.mem_cons_of_mem _ (List.mem_append_right _ h)) (by decide +kernel))
set_option maxRecDepth 20000 in
theorem gL_setWeather_X5_setWeather : GoodIn wsL_setWeather (wsV RL 7 RX5 yX5_setWeather wsX5_setWeather) := goodIn_app (goodIn_of _ (by decide +kernel)) ggL_setWeather_X5_setWeather
theorem dL_setWeather_0 : decode cL_setWeather 0 = .ok (.aload 5, 2) := by decide +kernel
theorem dL_setWeather_2 : decode cL_setWeather 2 = .ok (.iconst 0, 1) := by decide +kernel
theorem dL_setWeather_3 : decode cL_setWeather 3 = .ok (.aload_n 0, 1) := by decide +kernel
theorem dL_setWeather_4 : decode cL_setWeather 4 = .ok (.iload_n 1, 1) := by decide +kernel
theorem dL_setWeather_5 : decode cL_setWeather 5 = .ok (.iload_n 2, 1) := by decide +kernel
theorem dL_setWeather_6 : decode cL_setWeather 6 = .ok (.iload_n 3, 1) := by decide +kernel
theorem dL_setWeather_7 : decode cL_setWeather 7 = .ok (.iload 4, 2) := by decide +kernel
theorem dL_setWeather_9 : decode cL_setWeather 9 = .ok (.invokevirtual 7, 3) := by decide +kernel
theorem dL_setWeather_12 : decode cL_setWeather 12 = .ok (.i2l, 1) := by decide +kernel
theorem dL_setWeather_13 : decode cL_setWeather 13 = .ok (.lastore, 1) := by decide +kernel
theorem dL_setWeather_14 : decode cL_setWeather 14 = .ok (.goto 11, 3) := by decide +kernel
theorem dL_setWeather_17 : decode cL_setWeather 17 = .ok (.astore 6, 2) := by decide +kernel
theorem dL_setWeather_19 : decode cL_setWeather 19 = .ok (.iconst 1, 1) := by decide +kernel
theorem dL_setWeather_20 : decode cL_setWeather 20 = .ok (.ireturn, 1) := by decide +kernel
theorem dL_setWeather_21 : decode cL_setWeather 21 = .ok (.astore 6, 2) := by decide +kernel
theorem dL_setWeather_23 : decode cL_setWeather 23 = .ok (.iconst 2, 1) := by decide +kernel
theorem dL_setWeather_24 : decode cL_setWeather 24 = .ok (.ireturn, 1) := by decide +kernel
theorem dL_setWeather_25 : decode cL_setWeather 25 = .ok (.iconst 0, 1) := by decide +kernel
theorem dL_setWeather_26 : decode cL_setWeather 26 = .ok (.ireturn, 1) := by decide +kernel
set_option maxRecDepth 20000 in
theorem ggL_pump_X5_pump : GoodIn wsL_pump wsX5_pump := goodIn_ca (goodIn_ca (goodIn_ca (goodIn_r _ [8, 9, 10, 11, 12, 13, 14, 15, 16, 17, 18, 7, 19, 20, 21, 22, 23, 24, 25, 26, 27, 28, 29, 30, 31, 32, 33, 34, 35, 36] (by decide +kernel) (by decide +kernel)) (goodIn_sub (fun _ h => List.mem_cons_of_mem _ (List.mem_append_left _ (List.mem_append_left _ (List.mem_append_right _ h)))) (by decide +kernel))) (goodIn_sub (fun _ h => List.mem_cons_of_mem _ (List.mem_append_left _ (List.mem_append_right _ h))) (by decide +kernel))) (goodIn_sub (fun _ h => List.mem_cons_of_mem _ (List.mem_append_right _ h)) (by decide +kernel))
set_option maxRecDepth 20000 in
theorem gL_pump_X5_pump : GoodIn wsL_pump (wsV RL 17 RX5 yX5_pump wsX5_pump) := goodIn_app (goodIn_of _ (by decide +kernel)) ggL_pump_X5_pump
theorem dL_pump_0 : decode cL_pump 0 = .ok (.aload_n 3, 1) := by decide +kernel
theorem dL_pump_1 : decode cL_pump 1 = .ok (.iconst 0, 1) := by decide +kernel
theorem dL_pump_2 : decode cL_pump 2 = .ok (.aload_n 0, 1) := by decide +kernel
theorem dL_pump_3 : decode cL_pump 3 = .ok (.iload_n 1, 1) := by decide +kernel
theorem dL_pump_4 : decode cL_pump 4 = .ok (.iload_n 2, 1) := by decide +kernel
theorem dL_pump_5 : decode cL_pump 5 = .ok (.invokevirtual 17, 3) := by decide +kernel
theorem dL_pump_8 : decode cL_pump 8 = .ok (.i2l, 1) := by decide +kernel
theorem dL_pump_9 : decode cL_pump 9 = .ok (.lastore, 1) := by decide +kernel
theorem dL_pump_10 : decode cL_pump 10 = .ok (.goto 15, 3) := by decide +kernel
theorem dL_pump_13 : decode cL_pump 13 = .ok (.astore 4, 2) := by decide +kernel
theorem dL_pump_15 : decode cL_pump 15 = .ok (.iconst 1, 1) := by decide +kernel
theorem dL_pump_16 : decode cL_pump 16 = .ok (.ireturn, 1) := by decide +kernel
theorem dL_pump_17 : decode cL_pump 17 = .ok (.astore 4, 2) := by decide +kernel
theorem dL_pump_19 : decode cL_pump 19 = .ok (.iconst 2, 1) := by decide +kernel
theorem dL_pump_20 : decode cL_pump 20 = .ok (.ireturn, 1) := by decide +kernel
theorem dL_pump_21 : decode cL_pump 21 = .ok (.astore 4, 2) := by decide +kernel
theorem dL_pump_23 : decode cL_pump 23 = .ok (.iconst 3, 1) := by decide +kernel
theorem dL_pump_24 : decode cL_pump 24 = .ok (.ireturn, 1) := by decide +kernel
theorem dL_pump_25 : decode cL_pump 25 = .ok (.iconst 0, 1) := by decide +kernel
theorem dL_pump_26 : decode cL_pump 26 = .ok (.ireturn, 1) := by decide +kernel
set_option maxRecDepth 20000 in
theorem ggL_run_X5_run : GoodIn wsL_run wsX5_run := goodIn_ca (goodIn_r _ [6, 7, 8, 9, 10, 11, 12, 13, 14, 5, 15, 16, 17, 18, 19, 20, 21, 22, 23, 24, 25, 26, 27, 28, 29, 30, 31] (by decide +kernel) (by decide +kernel)) (goodIn_sub (fun _ h => List.mem_cons_of_mem _ (List.mem_append_right _ h)) (by decide +kernel))
set_option maxRecDepth 20000 in
theorem gL_run_X5_run : GoodIn wsL_run (wsV RL 23 RX5 yX5_run wsX5_run) := goodIn_app (goodIn_of _ (by decide +kernel)) ggL_run_X5_run
theorem dL_run_0 : decode cL_run 0 = .ok (.aload_n 2, 1) := by decide +kernel
theorem dL_run_1 : decode cL_run 1 = .ok (.iconst 0, 1) := by decide +kernel
theorem dL_run_2 : decode cL_run 2 = .ok (.aload_n 0, 1) := by decide +kernel
theorem dL_run_3 : decode cL_run 3 = .ok (.iload_n 1, 1) := by decide +kernel
theorem dL_run_4 : decode cL_run 4 = .ok (.invokevirtual 23, 3) := by decide +kernel
theorem dL_run_7 : decode cL_run 7 = .ok (.ifCond .eq 7, 3) := by decide +kernel
theorem dL_run_10 : decode cL_run 10 = .ok (.lconst 1, 1) := by decide +kernel
theorem dL_run_11 : decode cL_run 11 = .ok (.goto 4, 3) := by decide +kernel
theorem dL_run_14 : decode cL_run 14 = .ok (.lconst 0, 1) := by decide +kernel
theorem dL_run_15 : decode cL_run 15 = .ok (.lastore, 1) := by decide +kernel
theorem dL_run_16 : decode cL_run 16 = .ok (.goto 6, 3) := by decide +kernel
theorem dL_run_19 : decode cL_run 19 = .ok (.astore_n 3, 1) := by decide +kernel
theorem dL_run_20 : decode cL_run 20 = .ok (.iconst 1, 1) := by decide +kernel
theorem dL_run_21 : decode cL_run 21 = .ok (.ireturn, 1) := by decide +kernel
theorem dL_run_22 : decode cL_run 22 = .ok (.iconst 0, 1) := by decide +kernel
theorem dL_run_23 : decode cL_run 23 = .ok (.ireturn, 1) := by decide +kernel
set_option maxRecDepth 20000 in
theorem ggL_fill_X5_fill : GoodIn wsL_fill wsX5_fill := goodIn_ca (goodIn_r _ [6, 7, 8, 9, 10, 11, 12, 13, 14, 15, 16, 5, 17, 18, 19, 20, 21, 22, 23, 24, 25, 26, 27, 28, 29, 30] (by decide +kernel) (by decide +kernel)) (goodIn_sub (fun _ h => List.mem_cons_of_mem _ (List.mem_append_right _ h)) (by decide +kernel))
set_option maxRecDepth 20000 in
theorem gL_fill_X5_fill : GoodIn wsL_fill (wsV RL 27 RX5 yX5_fill wsX5_fill) := goodIn_app (goodIn_of _ (by decide +kernel)) ggL_fill_X5_fill
theorem dL_fill_0 : decode cL_fill 0 = .ok (.aload_n 2, 1) := by decide +kernel
theorem dL_fill_1 : decode cL_fill 1 = .ok (.iconst 0, 1) := by decide +kernel
theorem dL_fill_2 : decode cL_fill 2 = .ok (.aload_n 0, 1) := by decide +kernel
theorem dL_fill_3 : decode cL_fill 3 = .ok (.iload_n 1, 1) := by decide +kernel
theorem dL_fill_4 : decode cL_fill 4 = .ok (.invokevirtual 27, 3) := by decide +kernel
theorem dL_fill_7 : decode cL_fill 7 = .ok (.i2l, 1) := by decide +kernel
theorem dL_fill_8 : decode cL_fill 8 = .ok (.lastore, 1) := by decide +kernel
theorem dL_fill_9 : decode cL_fill 9 = .ok (.goto 6, 3) := by decide +kernel
theorem dL_fill_12 : decode cL_fill 12 = .ok (.astore_n 3, 1) := by decide +kernel
theorem dL_fill_13 : decode cL_fill 13 = .ok (.iconst 1, 1) := by decide +kernel
theorem dL_fill_14 : decode cL_fill 14 = .ok (.ireturn, 1) := by decide +kernel
theorem dL_fill_15 : decode cL_fill 15 = .ok (.iconst 0, 1) := by decide +kernel
theorem dL_fill_16 : decode cL_fill 16 = .ok (.ireturn, 1) := by decide +kernel
set_option maxRecDepth 20000 in
theorem ggL_groom_X5_groom : GoodIn wsL_groom wsX5_groom := goodIn_ca (goodIn_ca (goodIn_r _ [7, 8, 9, 10, 11, 12, 13, 14, 6, 15, 16, 17, 18, 19, 20, 21, 22, 23, 24, 25, 26, 27, 28, 29, 30, 31, 32, 33, 34, 35] (by decide +kernel) (by decide +kernel)) (goodIn_sub (fun _ h => List.mem_cons_of_mem _ (List.mem_append_left _ (List.mem_append_right _ h))) (by decide +kernel))) (goodIn_sub (fun _ h => List.mem_cons_of_mem _ (List.mem_append_right _ h)) (by decide +kernel))
set_option maxRecDepth 20000 in
theorem gL_groom_X5_groom : GoodIn wsL_groom (wsV RL 31 RX5 yX5_groom wsX5_groom) := goodIn_app (goodIn_of _ (by decide +kernel)) ggL_groom_X5_groom
theorem dL_groom_0 : decode cL_groom 0 = .ok (.aload_n 3, 1) := by decide +kernel
theorem dL_groom_1 : decode cL_groom 1 = .ok (.iconst 0, 1) := by decide +kernel
theorem dL_groom_2 : decode cL_groom 2 = .ok (.aload_n 0, 1) := by decide +kernel
theorem dL_groom_3 : decode cL_groom 3 = .ok (.iload_n 1, 1) := by decide +kernel
theorem dL_groom_4 : decode cL_groom 4 = .ok (.iload_n 2, 1) := by decide +kernel
theorem dL_groom_5 : decode cL_groom 5 = .ok (.invokevirtual 31, 3) := by decide +kernel
theorem dL_groom_8 : decode cL_groom 8 = .ok (.i2l, 1) := by decide +kernel
theorem dL_groom_9 : decode cL_groom 9 = .ok (.lastore, 1) := by decide +kernel
theorem dL_groom_10 : decode cL_groom 10 = .ok (.goto 11, 3) := by decide +kernel
theorem dL_groom_13 : decode cL_groom 13 = .ok (.astore 4, 2) := by decide +kernel
theorem dL_groom_15 : decode cL_groom 15 = .ok (.iconst 1, 1) := by decide +kernel
theorem dL_groom_16 : decode cL_groom 16 = .ok (.ireturn, 1) := by decide +kernel
theorem dL_groom_17 : decode cL_groom 17 = .ok (.astore 4, 2) := by decide +kernel
theorem dL_groom_19 : decode cL_groom 19 = .ok (.iconst 2, 1) := by decide +kernel
theorem dL_groom_20 : decode cL_groom 20 = .ok (.ireturn, 1) := by decide +kernel
theorem dL_groom_21 : decode cL_groom 21 = .ok (.iconst 0, 1) := by decide +kernel
theorem dL_groom_22 : decode cL_groom 22 = .ok (.ireturn, 1) := by decide +kernel
set_option maxRecDepth 20000 in
theorem ggL_judge_X5_judge : GoodIn wsL_judge wsX5_judge := goodIn_ca (goodIn_ca (goodIn_r _ [7, 8, 9, 10, 11, 12, 13, 14, 15, 6, 16, 17, 18, 19, 20, 21, 22, 23] (by decide +kernel) (by decide +kernel)) (goodIn_sub (fun _ h => List.mem_cons_of_mem _ (List.mem_append_left _ (List.mem_append_right _ h))) (by decide +kernel))) (goodIn_sub (fun _ h => List.mem_cons_of_mem _ (List.mem_append_right _ h)) (by decide +kernel))
set_option maxRecDepth 20000 in
theorem gL_judge_X5_judge : GoodIn wsL_judge (wsV RL 34 RX5 yX5_judge wsX5_judge) := goodIn_app (goodIn_of _ (by decide +kernel)) ggL_judge_X5_judge
theorem dL_judge_0 : decode cL_judge 0 = .ok (.aload_n 3, 1) := by decide +kernel
theorem dL_judge_1 : decode cL_judge 1 = .ok (.iconst 0, 1) := by decide +kernel
theorem dL_judge_2 : decode cL_judge 2 = .ok (.aload_n 0, 1) := by decide +kernel
theorem dL_judge_3 : decode cL_judge 3 = .ok (.iload_n 1, 1) := by decide +kernel
theorem dL_judge_4 : decode cL_judge 4 = .ok (.iload_n 2, 1) := by decide +kernel
theorem dL_judge_5 : decode cL_judge 5 = .ok (.invokevirtual 34, 3) := by decide +kernel
theorem dL_judge_8 : decode cL_judge 8 = .ok (.i2l, 1) := by decide +kernel
theorem dL_judge_9 : decode cL_judge 9 = .ok (.lastore, 1) := by decide +kernel
theorem dL_judge_10 : decode cL_judge 10 = .ok (.goto 11, 3) := by decide +kernel
theorem dL_judge_13 : decode cL_judge 13 = .ok (.astore 4, 2) := by decide +kernel
theorem dL_judge_15 : decode cL_judge 15 = .ok (.iconst 1, 1) := by decide +kernel
theorem dL_judge_16 : decode cL_judge 16 = .ok (.ireturn, 1) := by decide +kernel
theorem dL_judge_17 : decode cL_judge 17 = .ok (.astore 4, 2) := by decide +kernel
theorem dL_judge_19 : decode cL_judge 19 = .ok (.iconst 2, 1) := by decide +kernel
theorem dL_judge_20 : decode cL_judge 20 = .ok (.ireturn, 1) := by decide +kernel
theorem dL_judge_21 : decode cL_judge 21 = .ok (.iconst 0, 1) := by decide +kernel
theorem dL_judge_22 : decode cL_judge 22 = .ok (.ireturn, 1) := by decide +kernel
set_option maxRecDepth 20000 in
theorem ggL_jump_X5_jump : GoodIn wsL_jump wsX5_jump := goodIn_ca (goodIn_ca (goodIn_r _ [7, 8, 9, 10, 11, 12, 13, 14, 15, 16, 17, 18, 19, 20, 6, 21, 22, 23, 24, 25, 26, 27, 28, 29, 30, 31, 32, 33, 34, 35, 36, 37, 38, 39, 40, 41, 42, 43, 44, 45, 46, 47, 48, 49, 50, 51, 52, 53, 54, 55, 56, 57, 58, 59, 60, 61, 62, 63, 64, 65, 66, 67, 68, 69, 70, 71, 72, 73, 74, 75, 76, 77, 78, 79, 80, 81, 82, 83, 84, 85, 86, 87, 88, 89, 90, 91, 92, 93, 94, 95, 96, 97, 98, 99, 100] (by decide +kernel) (by decide +kernel)) (goodIn_sub (fun _ h => List.mem_cons_of_mem _ (List.mem_append_left _ (List.mem_append_right _ h))) (by decide +kernel))) (goodIn_sub (fun _ h => List.mem_cons_of_mem _ (List.mem_append_right _ h)) (by decide +kernel))
set_option maxRecDepth 20000 in
theorem gL_jump_X5_jump : GoodIn wsL_jump (wsV RL 37 RX5 yX5_jump wsX5_jump) := goodIn_app (goodIn_of _ (by decide +kernel)) ggL_jump_X5_jump
theorem dL_jump_0 : decode cL_jump 0 = .ok (.aload 4, 2) := by decide +kernel
theorem dL_jump_2 : decode cL_jump 2 = .ok (.iconst 0, 1) := by decide +kernel
theorem dL_jump_3 : decode cL_jump 3 = .ok (.aload_n 0, 1) := by decide +kernel
theorem dL_jump_4 : decode cL_jump 4 = .ok (.iload_n 1, 1) := by decide +kernel
theorem dL_jump_5 : decode cL_jump 5 = .ok (.iload_n 2, 1) := by decide +kernel
theorem dL_jump_6 : decode cL_jump 6 = .ok (.iload_n 3, 1) := by decide +kernel
theorem dL_jump_7 : decode cL_jump 7 = .ok (.invokevirtual 37, 3) := by decide +kernel
theorem dL_jump_10 : decode cL_jump 10 = .ok (.i2l, 1) := by decide +kernel
theorem dL_jump_11 : decode cL_jump 11 = .ok (.lastore, 1) := by decide +kernel
theorem dL_jump_12 : decode cL_jump 12 = .ok (.goto 11, 3) := by decide +kernel
theorem dL_jump_15 : decode cL_jump 15 = .ok (.astore 5, 2) := by decide +kernel
theorem dL_jump_17 : decode cL_jump 17 = .ok (.iconst 1, 1) := by decide +kernel
theorem dL_jump_18 : decode cL_jump 18 = .ok (.ireturn, 1) := by decide +kernel
theorem dL_jump_19 : decode cL_jump 19 = .ok (.astore 5, 2) := by decide +kernel
theorem dL_jump_21 : decode cL_jump 21 = .ok (.iconst 2, 1) := by decide +kernel
theorem dL_jump_22 : decode cL_jump 22 = .ok (.ireturn, 1) := by decide +kernel
theorem dL_jump_23 : decode cL_jump 23 = .ok (.iconst 0, 1) := by decide +kernel
theorem dL_jump_24 : decode cL_jump 24 = .ok (.ireturn, 1) := by decide +kernel
set_option maxRecDepth 20000 in
theorem ggL_told_X5_told : GoodIn wsL_told wsX5_told := goodIn_ca (goodIn_r _ [6, 7, 8, 9, 10, 11, 12, 5, 13, 14, 15, 16, 17, 18, 19, 20, 21, 22, 23, 24, 25, 26, 27, 28, 29, 30, 31, 32, 33, 34, 35] (by decide +kernel) (by decide +kernel)) (goodIn_sub (fun _ h => List.mem_cons_of_mem _ (List.mem_append_right _ h)) (by decide +kernel))
set_option maxRecDepth 20000 in
theorem gL_told_X5_told : GoodIn wsL_told (wsV RL 41 RX5 yX5_told wsX5_told) := goodIn_app (goodIn_of _ (by decide +kernel)) ggL_told_X5_told
theorem dL_told_0 : decode cL_told 0 = .ok (.aload_n 3, 1) := by decide +kernel
theorem dL_told_1 : decode cL_told 1 = .ok (.iconst 0, 1) := by decide +kernel
theorem dL_told_2 : decode cL_told 2 = .ok (.aload_n 0, 1) := by decide +kernel
theorem dL_told_3 : decode cL_told 3 = .ok (.iload_n 1, 1) := by decide +kernel
theorem dL_told_4 : decode cL_told 4 = .ok (.iload_n 2, 1) := by decide +kernel
theorem dL_told_5 : decode cL_told 5 = .ok (.invokevirtual 41, 3) := by decide +kernel
theorem dL_told_8 : decode cL_told 8 = .ok (.i2l, 1) := by decide +kernel
theorem dL_told_9 : decode cL_told 9 = .ok (.lastore, 1) := by decide +kernel
theorem dL_told_10 : decode cL_told 10 = .ok (.goto 7, 3) := by decide +kernel
theorem dL_told_13 : decode cL_told 13 = .ok (.astore 4, 2) := by decide +kernel
theorem dL_told_15 : decode cL_told 15 = .ok (.iconst 1, 1) := by decide +kernel
theorem dL_told_16 : decode cL_told 16 = .ok (.ireturn, 1) := by decide +kernel
theorem dL_told_17 : decode cL_told 17 = .ok (.iconst 0, 1) := by decide +kernel
theorem dL_told_18 : decode cL_told 18 = .ok (.ireturn, 1) := by decide +kernel
set_option maxRecDepth 20000 in
theorem ggL_score_X5_score : GoodIn wsL_score wsX5_score := goodIn_ca (goodIn_r _ [6, 7, 8, 9, 10, 11, 5, 12, 13, 14, 15, 16, 17, 18, 19, 20, 21, 22, 23, 24, 25, 26, 27, 28, 29, 30, 31, 32, 33, 34, 35, 36, 37, 38, 39] (by decide +kernel) (by decide +kernel)) (goodIn_sub (fun _ h => List.mem_cons_of_mem _ (List.mem_append_right _ h)) (by decide +kernel))
set_option maxRecDepth 20000 in
theorem gL_score_X5_score : GoodIn wsL_score (wsV RL 44 RX5 yX5_score wsX5_score) := goodIn_app (goodIn_of _ (by decide +kernel)) ggL_score_X5_score
theorem dL_score_0 : decode cL_score 0 = .ok (.aload_n 2, 1) := by decide +kernel
theorem dL_score_1 : decode cL_score 1 = .ok (.iconst 0, 1) := by decide +kernel
theorem dL_score_2 : decode cL_score 2 = .ok (.aload_n 0, 1) := by decide +kernel
theorem dL_score_3 : decode cL_score 3 = .ok (.iload_n 1, 1) := by decide +kernel
theorem dL_score_4 : decode cL_score 4 = .ok (.invokevirtual 44, 3) := by decide +kernel
theorem dL_score_7 : decode cL_score 7 = .ok (.i2l, 1) := by decide +kernel
theorem dL_score_8 : decode cL_score 8 = .ok (.lastore, 1) := by decide +kernel
theorem dL_score_9 : decode cL_score 9 = .ok (.goto 6, 3) := by decide +kernel
theorem dL_score_12 : decode cL_score 12 = .ok (.astore_n 3, 1) := by decide +kernel
theorem dL_score_13 : decode cL_score 13 = .ok (.iconst 1, 1) := by decide +kernel
theorem dL_score_14 : decode cL_score 14 = .ok (.ireturn, 1) := by decide +kernel
theorem dL_score_15 : decode cL_score 15 = .ok (.iconst 0, 1) := by decide +kernel
theorem dL_score_16 : decode cL_score 16 = .ok (.ireturn, 1) := by decide +kernel
set_option maxRecDepth 20000 in
theorem ggL_part_X5_part : GoodIn wsL_part wsX5_part := goodIn_ca (goodIn_r _ [6, 7, 8, 9, 10, 5, 11, 12, 13, 14, 15, 16, 17, 18, 19, 20, 21, 22, 23, 24, 25, 26, 27, 28, 29, 30, 31, 32, 33, 34, 35, 36, 37, 38, 39, 40, 41, 42, 43, 44, 45, 46, 47, 48, 49] (by decide +kernel) (by decide +kernel)) (goodIn_sub (fun _ h => List.mem_cons_of_mem _ (List.mem_append_right _ h)) (by decide +kernel))
set_option maxRecDepth 20000 in
theorem gL_part_X5_part : GoodIn wsL_part (wsV RL 47 RX5 yX5_part wsX5_part) := goodIn_app (goodIn_of _ (by decide +kernel)) ggL_part_X5_part
theorem dL_part_0 : decode cL_part 0 = .ok (.aload_n 3, 1) := by decide +kernel
theorem dL_part_1 : decode cL_part 1 = .ok (.iconst 0, 1) := by decide +kernel
theorem dL_part_2 : decode cL_part 2 = .ok (.aload_n 0, 1) := by decide +kernel
theorem dL_part_3 : decode cL_part 3 = .ok (.iload_n 1, 1) := by decide +kernel
theorem dL_part_4 : decode cL_part 4 = .ok (.iload_n 2, 1) := by decide +kernel
theorem dL_part_5 : decode cL_part 5 = .ok (.invokevirtual 47, 3) := by decide +kernel
theorem dL_part_8 : decode cL_part 8 = .ok (.i2l, 1) := by decide +kernel
theorem dL_part_9 : decode cL_part 9 = .ok (.lastore, 1) := by decide +kernel
theorem dL_part_10 : decode cL_part 10 = .ok (.goto 7, 3) := by decide +kernel
theorem dL_part_13 : decode cL_part 13 = .ok (.astore 4, 2) := by decide +kernel
theorem dL_part_15 : decode cL_part 15 = .ok (.iconst 1, 1) := by decide +kernel
theorem dL_part_16 : decode cL_part 16 = .ok (.ireturn, 1) := by decide +kernel
theorem dL_part_17 : decode cL_part 17 = .ok (.iconst 0, 1) := by decide +kernel
theorem dL_part_18 : decode cL_part 18 = .ok (.ireturn, 1) := by decide +kernel
set_option maxRecDepth 20000 in
theorem ggL_count_X5_count : GoodIn wsL_count wsX5_count := goodIn_ca (goodIn_r _ [6, 7, 8, 9, 10, 5, 11, 12, 13, 14, 15, 16, 17, 18, 19, 20, 21, 22, 23, 24, 25, 26, 27, 28, 29, 30, 31, 32, 33, 34, 35, 36, 37, 38, 39, 40, 41, 42, 43, 44, 45, 46, 47, 48, 49, 50, 51, 52, 53, 54, 55, 56, 57, 58, 59, 60, 61, 62, 63, 64, 65, 66, 67, 68, 69, 70, 71, 72, 73, 74, 75, 76, 77, 78, 79, 80, 81, 82, 83, 84, 85, 86, 87, 88, 89] (by decide +kernel) (by decide +kernel)) (goodIn_sub (fun _ h => List.mem_cons_of_mem _ (List.mem_append_right _ h)) (by decide +kernel))
set_option maxRecDepth 20000 in
theorem gL_count_X5_count : GoodIn wsL_count (wsV RL 50 RX5 yX5_count wsX5_count) := goodIn_app (goodIn_of _ (by decide +kernel)) ggL_count_X5_count
theorem dL_count_0 : decode cL_count 0 = .ok (.aload_n 2, 1) := by decide +kernel
theorem dL_count_1 : decode cL_count 1 = .ok (.iconst 0, 1) := by decide +kernel
theorem dL_count_2 : decode cL_count 2 = .ok (.aload_n 0, 1) := by decide +kernel
theorem dL_count_3 : decode cL_count 3 = .ok (.iload_n 1, 1) := by decide +kernel
theorem dL_count_4 : decode cL_count 4 = .ok (.invokevirtual 50, 3) := by decide +kernel
theorem dL_count_7 : decode cL_count 7 = .ok (.i2l, 1) := by decide +kernel
theorem dL_count_8 : decode cL_count 8 = .ok (.lastore, 1) := by decide +kernel
theorem dL_count_9 : decode cL_count 9 = .ok (.goto 6, 3) := by decide +kernel
theorem dL_count_12 : decode cL_count 12 = .ok (.astore_n 3, 1) := by decide +kernel
theorem dL_count_13 : decode cL_count 13 = .ok (.iconst 1, 1) := by decide +kernel
theorem dL_count_14 : decode cL_count 14 = .ok (.ireturn, 1) := by decide +kernel
theorem dL_count_15 : decode cL_count 15 = .ok (.iconst 0, 1) := by decide +kernel
theorem dL_count_16 : decode cL_count 16 = .ok (.ireturn, 1) := by decide +kernel
set_option maxRecDepth 20000 in
theorem ggL_pass_X5_pass : GoodIn wsL_pass wsX5_pass := goodIn_ca (goodIn_r _ [6, 7, 8, 9, 10, 11, 5, 12, 13, 14, 15, 16, 17, 18, 19, 20, 21, 22, 23, 24, 25, 26, 27, 28, 29, 30, 31, 32, 33, 34, 35, 36, 37, 38, 39, 40, 41, 42, 43, 44, 45, 46, 47, 48, 49, 50, 51, 52, 53, 54, 55, 56, 57, 58, 59, 60, 61, 62, 63, 64, 65, 66, 67, 68, 69, 70, 71, 72, 73, 74, 75, 76, 77, 78, 79, 80, 81, 82, 83, 84, 85, 86, 87, 88, 89, 90, 91, 92, 93, 94, 95, 96, 97, 98] (by decide +kernel) (by decide +kernel)) (goodIn_sub (fun _ h => List.mem_cons_of_mem _ (List.mem_append_right _ h)) (by decide +kernel))
set_option maxRecDepth 20000 in
theorem gL_pass_X5_pass : GoodIn wsL_pass (wsV RL 53 RX5 yX5_pass wsX5_pass) := goodIn_app (goodIn_of _ (by decide +kernel)) ggL_pass_X5_pass
theorem dL_pass_0 : decode cL_pass 0 = .ok (.aload_n 2, 1) := by decide +kernel
theorem dL_pass_1 : decode cL_pass 1 = .ok (.iconst 0, 1) := by decide +kernel
theorem dL_pass_2 : decode cL_pass 2 = .ok (.aload_n 0, 1) := by decide +kernel
theorem dL_pass_3 : decode cL_pass 3 = .ok (.iload_n 1, 1) := by decide +kernel
theorem dL_pass_4 : decode cL_pass 4 = .ok (.invokevirtual 53, 3) := by decide +kernel
theorem dL_pass_7 : decode cL_pass 7 = .ok (.i2l, 1) := by decide +kernel
theorem dL_pass_8 : decode cL_pass 8 = .ok (.lastore, 1) := by decide +kernel
theorem dL_pass_9 : decode cL_pass 9 = .ok (.goto 6, 3) := by decide +kernel
theorem dL_pass_12 : decode cL_pass 12 = .ok (.astore_n 3, 1) := by decide +kernel
theorem dL_pass_13 : decode cL_pass 13 = .ok (.iconst 1, 1) := by decide +kernel
theorem dL_pass_14 : decode cL_pass 14 = .ok (.ireturn, 1) := by decide +kernel
theorem dL_pass_15 : decode cL_pass 15 = .ok (.iconst 0, 1) := by decide +kernel
theorem dL_pass_16 : decode cL_pass 16 = .ok (.ireturn, 1) := by decide +kernel
set_option maxRecDepth 20000 in
theorem ggL_enough_X5_enough : GoodIn wsL_enough wsX5_enough := goodIn_ca (goodIn_ca (goodIn_r _ [7, 8, 9, 10, 11, 12, 13, 14, 15, 16, 6, 17, 18, 19, 20, 21, 22, 23, 24, 25, 26, 27, 28, 29, 30, 31, 32, 33, 34, 35, 36, 37, 38, 39, 40, 41, 42, 43, 44, 45, 46, 47, 48, 49, 50, 51, 52, 53, 54, 55, 56, 57, 58, 59, 60, 61, 62, 63, 64, 65, 66, 67, 68, 69, 70, 71, 72, 73, 74, 75, 76, 77, 78, 79, 80, 81, 82, 83, 84, 85, 86, 87, 88, 89, 90, 91, 92, 93, 94, 95, 96, 97] (by decide +kernel) (by decide +kernel)) (goodIn_sub (fun _ h => List.mem_cons_of_mem _ (List.mem_append_left _ (List.mem_append_right _ h))) (by decide +kernel))) (goodIn_sub (fun _ h => List.mem_cons_of_mem _ (List.mem_append_right _ h)) (by decide +kernel))
set_option maxRecDepth 20000 in
theorem gL_enough_X5_enough : GoodIn wsL_enough (wsV RL 56 RX5 yX5_enough wsX5_enough) := goodIn_app (goodIn_of _ (by decide +kernel)) ggL_enough_X5_enough
theorem dL_enough_0 : decode cL_enough 0 = .ok (.aload_n 3, 1) := by decide +kernel
theorem dL_enough_1 : decode cL_enough 1 = .ok (.iconst 0, 1) := by decide +kernel
theorem dL_enough_2 : decode cL_enough 2 = .ok (.aload_n 0, 1) := by decide +kernel
theorem dL_enough_3 : decode cL_enough 3 = .ok (.iload_n 1, 1) := by decide +kernel
theorem dL_enough_4 : decode cL_enough 4 = .ok (.iload_n 2, 1) := by decide +kernel
theorem dL_enough_5 : decode cL_enough 5 = .ok (.invokevirtual 56, 3) := by decide +kernel
theorem dL_enough_8 : decode cL_enough 8 = .ok (.i2l, 1) := by decide +kernel
theorem dL_enough_9 : decode cL_enough 9 = .ok (.lastore, 1) := by decide +kernel
theorem dL_enough_10 : decode cL_enough 10 = .ok (.goto 11, 3) := by decide +kernel
theorem dL_enough_13 : decode cL_enough 13 = .ok (.astore 4, 2) := by decide +kernel
theorem dL_enough_15 : decode cL_enough 15 = .ok (.iconst 1, 1) := by decide +kernel
theorem dL_enough_16 : decode cL_enough 16 = .ok (.ireturn, 1) := by decide +kernel
theorem dL_enough_17 : decode cL_enough 17 = .ok (.astore 4, 2) := by decide +kernel
theorem dL_enough_19 : decode cL_enough 19 = .ok (.iconst 2, 1) := by decide +kernel
theorem dL_enough_20 : decode cL_enough 20 = .ok (.ireturn, 1) := by decide +kernel
theorem dL_enough_21 : decode cL_enough 21 = .ok (.iconst 0, 1) := by decide +kernel
theorem dL_enough_22 : decode cL_enough 22 = .ok (.ireturn, 1) := by decide +kernel
set_option maxRecDepth 20000 in
theorem ggL_foresee_X5_foresee : GoodIn wsL_foresee wsX5_foresee := goodIn_ca (goodIn_ca (goodIn_r _ [7, 8, 9, 10, 11, 12, 13, 14, 15, 16, 6, 17, 18, 19, 20, 21, 22, 23, 24, 25, 26, 27, 28, 29, 30, 31, 32, 33, 34, 35, 36, 37, 38, 39, 40, 41, 42, 43, 44, 45, 46, 47, 48, 49, 50, 51, 52, 53, 54, 55, 56, 57, 58, 59, 60, 61, 62, 63, 64, 65, 66, 67, 68, 69, 70, 71, 72, 73, 74, 75, 76, 77, 78, 79, 80, 81, 82, 83, 84, 85, 86, 87, 88, 89, 90, 91, 92, 93, 94, 95, 96, 97, 98, 99, 100, 101, 102, 103, 104, 105, 106, 107, 108, 109, 110, 111] (by decide +kernel) (by decide +kernel)) (goodIn_sub (fun _ h => List.mem_cons_of_mem _ (List.mem_append_left _ (List.mem_append_right _ h))) (by decide +kernel))) (goodIn_sub (fun _ h => List.mem_cons_of_mem _ (List.mem_append_right _ h)) (by decide +kernel))
set_option maxRecDepth 20000 in
theorem gL_foresee_X5_foresee : GoodIn wsL_foresee (wsV RL 59 RX5 yX5_foresee wsX5_foresee) := goodIn_app (goodIn_of _ (by decide +kernel)) ggL_foresee_X5_foresee
theorem dL_foresee_0 : decode cL_foresee 0 = .ok (.aload_n 3, 1) := by decide +kernel
theorem dL_foresee_1 : decode cL_foresee 1 = .ok (.iconst 0, 1) := by decide +kernel
theorem dL_foresee_2 : decode cL_foresee 2 = .ok (.aload_n 0, 1) := by decide +kernel
theorem dL_foresee_3 : decode cL_foresee 3 = .ok (.iload_n 1, 1) := by decide +kernel
theorem dL_foresee_4 : decode cL_foresee 4 = .ok (.iload_n 2, 1) := by decide +kernel
theorem dL_foresee_5 : decode cL_foresee 5 = .ok (.invokevirtual 59, 3) := by decide +kernel
theorem dL_foresee_8 : decode cL_foresee 8 = .ok (.i2l, 1) := by decide +kernel
theorem dL_foresee_9 : decode cL_foresee 9 = .ok (.lastore, 1) := by decide +kernel
theorem dL_foresee_10 : decode cL_foresee 10 = .ok (.goto 11, 3) := by decide +kernel
theorem dL_foresee_13 : decode cL_foresee 13 = .ok (.astore 4, 2) := by decide +kernel
theorem dL_foresee_15 : decode cL_foresee 15 = .ok (.iconst 1, 1) := by decide +kernel
theorem dL_foresee_16 : decode cL_foresee 16 = .ok (.ireturn, 1) := by decide +kernel
theorem dL_foresee_17 : decode cL_foresee 17 = .ok (.astore 4, 2) := by decide +kernel
theorem dL_foresee_19 : decode cL_foresee 19 = .ok (.iconst 2, 1) := by decide +kernel
theorem dL_foresee_20 : decode cL_foresee 20 = .ok (.ireturn, 1) := by decide +kernel
theorem dL_foresee_21 : decode cL_foresee 21 = .ok (.iconst 0, 1) := by decide +kernel
theorem dL_foresee_22 : decode cL_foresee 22 = .ok (.ireturn, 1) := by decide +kernel
set_option maxRecDepth 20000 in
theorem ggL_gate_X5_gate : GoodIn wsL_gate wsX5_gate := goodIn_ca (goodIn_r _ [6, 7, 8, 9, 10, 11, 12, 13, 5, 14, 15, 16, 17, 18, 19, 20, 21, 22, 23, 24, 25, 26, 27, 28, 29, 30, 31, 32, 33, 34, 35, 36, 37, 38, 39, 40, 41, 42, 43, 44, 45, 46, 47, 48, 49, 50, 51, 52, 53, 54, 55, 56, 57, 58, 59] (by decide +kernel) (by decide +kernel)) (goodIn_sub (fun _ h => List.mem_cons_of_mem _ (List.mem_append_right _ h)) (by decide +kernel))
set_option maxRecDepth 20000 in
theorem gL_gate_X5_gate : GoodIn wsL_gate (wsV RL 62 RX5 yX5_gate wsX5_gate) := goodIn_app (goodIn_of _ (by decide +kernel)) ggL_gate_X5_gate
theorem dL_gate_0 : decode cL_gate 0 = .ok (.aload_n 2, 1) := by decide +kernel
theorem dL_gate_1 : decode cL_gate 1 = .ok (.iconst 0, 1) := by decide +kernel
theorem dL_gate_2 : decode cL_gate 2 = .ok (.aload_n 0, 1) := by decide +kernel
theorem dL_gate_3 : decode cL_gate 3 = .ok (.iload_n 1, 1) := by decide +kernel
theorem dL_gate_4 : decode cL_gate 4 = .ok (.invokevirtual 62, 3) := by decide +kernel
theorem dL_gate_7 : decode cL_gate 7 = .ok (.i2l, 1) := by decide +kernel
theorem dL_gate_8 : decode cL_gate 8 = .ok (.lastore, 1) := by decide +kernel
theorem dL_gate_9 : decode cL_gate 9 = .ok (.goto 6, 3) := by decide +kernel
theorem dL_gate_12 : decode cL_gate 12 = .ok (.astore_n 3, 1) := by decide +kernel
theorem dL_gate_13 : decode cL_gate 13 = .ok (.iconst 1, 1) := by decide +kernel
theorem dL_gate_14 : decode cL_gate 14 = .ok (.ireturn, 1) := by decide +kernel
theorem dL_gate_15 : decode cL_gate 15 = .ok (.iconst 0, 1) := by decide +kernel
theorem dL_gate_16 : decode cL_gate 16 = .ok (.ireturn, 1) := by decide +kernel
set_option maxRecDepth 20000 in
theorem ggL_advise_X5_advise : GoodIn wsL_advise wsX5_advise := goodIn_ca (goodIn_r _ [6, 7, 8, 9, 10, 11, 12, 13, 14, 15, 5, 16, 17, 18, 19, 20, 21, 22, 23, 24, 25, 26, 27, 28, 29, 30, 31, 32, 33, 34, 35, 36, 37, 38, 39, 40, 41, 42, 43, 44, 45, 46, 47, 48, 49, 50, 51, 52, 53, 54, 55, 56, 57, 58, 59, 60, 61, 62, 63, 64, 65, 66, 67, 68, 69, 70, 71, 72, 73, 74, 75, 76, 77, 78, 79, 80, 81, 82, 83, 84, 85, 86, 87, 88, 89, 90, 91, 92, 93, 94, 95, 96, 97, 98, 99, 100, 101, 102, 103, 104, 105, 106, 107, 108, 109, 110] (by decide +kernel) (by decide +kernel)) (goodIn_sub (fun _ h => List.mem_cons_of_mem _ (List.mem_append_right _ h)) (by decide +kernel))
set_option maxRecDepth 20000 in
theorem gL_advise_X5_advise : GoodIn wsL_advise (wsV RL 65 RX5 yX5_advise wsX5_advise) := goodIn_app (goodIn_of _ (by decide +kernel)) ggL_advise_X5_advise
theorem dL_advise_0 : decode cL_advise 0 = .ok (.aload_n 2, 1) := by decide +kernel
theorem dL_advise_1 : decode cL_advise 1 = .ok (.iconst 0, 1) := by decide +kernel
theorem dL_advise_2 : decode cL_advise 2 = .ok (.aload_n 0, 1) := by decide +kernel
theorem dL_advise_3 : decode cL_advise 3 = .ok (.iload_n 1, 1) := by decide +kernel
theorem dL_advise_4 : decode cL_advise 4 = .ok (.invokevirtual 65, 3) := by decide +kernel
theorem dL_advise_7 : decode cL_advise 7 = .ok (.i2l, 1) := by decide +kernel
theorem dL_advise_8 : decode cL_advise 8 = .ok (.lastore, 1) := by decide +kernel
theorem dL_advise_9 : decode cL_advise 9 = .ok (.goto 6, 3) := by decide +kernel
theorem dL_advise_12 : decode cL_advise 12 = .ok (.astore_n 3, 1) := by decide +kernel
theorem dL_advise_13 : decode cL_advise 13 = .ok (.iconst 1, 1) := by decide +kernel
theorem dL_advise_14 : decode cL_advise 14 = .ok (.ireturn, 1) := by decide +kernel
theorem dL_advise_15 : decode cL_advise 15 = .ok (.iconst 0, 1) := by decide +kernel
theorem dL_advise_16 : decode cL_advise 16 = .ok (.ireturn, 1) := by decide +kernel
set_option maxRecDepth 20000 in
theorem ggL_law_X5_init : GoodIn wsL_law wsX5_init := goodIn_r _ [9, 10, 11, 12, 13, 14, 15, 16, 17, 18, 19, 20, 21, 22, 23, 24, 25, 26, 27, 28, 29, 30, 31, 32, 33, 34, 35, 36, 37, 38, 39, 40, 41, 42, 43, 44, 45, 46, 47, 48, 49, 50, 51, 52, 53, 54, 55, 56, 57, 58, 59, 60, 61, 62, 63, 64, 65, 66, 67, 68, 69, 586, 587, 588, 568, 569, 570, 571, 572, 573, 589, 590, 591, 592, 593, 594, 595, 596, 597, 598, 599, 600, 601, 602, 603, 604, 605] (by decide +kernel) (by decide +kernel)
set_option maxRecDepth 20000 in
theorem gL_law_X5_init : GoodIn wsL_law (wsX5_init) := ggL_law_X5_init
set_option maxRecDepth 20000 in
theorem ggL_law_X7_init : GoodIn wsL_law wsX7_init := goodIn_r _ [72, 73, 11, 12, 38, 74, 75, 76, 77, 78, 79, 80, 81, 82, 83, 84, 85, 86, 87, 88, 89, 90, 91, 574, 575, 576, 577, 578, 579, 580, 581, 582, 583, 584, 585, 606, 607, 608, 609, 610] (by decide +kernel) (by decide +kernel)
set_option maxRecDepth 20000 in
theorem gL_law_X7_init : GoodIn wsL_law (wsX7_init) := ggL_law_X7_init
set_option maxRecDepth 20000 in
theorem ggL_law_L_setWeather : GoodIn wsL_law wsL_setWeather := goodIn_ca (goodIn_ca (goodIn_r _ [95, 96, 97, 98, 99, 100, 2, 101, 102, 103, 104, 105, 16, 106, 107, 108, 109, 110, 111, 112, 113, 114, 15, 115, 39, 40, 568, 569, 570, 571, 572, 573, 586, 587, 588] (by decide +kernel) (by decide +kernel)) (goodIn_sub (fun _ h => List.mem_append_left _ (List.mem_append_left _ (List.mem_append_right _ h))) (by decide +kernel))) (goodIn_sub (fun _ h => List.mem_append_left _ (List.mem_append_right _ h)) (by decide +kernel))
set_option maxRecDepth 20000 in
theorem gL_law_L_setWeather : GoodIn wsL_law (va_wsS RL 72 yL_setWeather wsL_setWeather) := goodIn_app (goodIn_of _ (by decide +kernel)) ggL_law_L_setWeather
set_option maxRecDepth 20000 in
theorem ggL_law_X7_setWeather : GoodIn wsL_law wsX7_setWeather := goodIn_r _ [119, 120, 74, 75, 76, 121, 122, 5, 123, 124, 125, 126, 127, 128, 129, 130, 131, 574, 575, 576, 577, 578, 579, 580, 581, 582, 583, 584, 585] (by decide +kernel) (by decide +kernel)
set_option maxRecDepth 20000 in
theorem gL_law_X7_setWeather : GoodIn wsL_law (wsV RL 77 RX7 yX7_setWeather wsX7_setWeather) := goodIn_app (goodIn_of _ (by decide +kernel)) ggL_law_X7_setWeather
set_option maxRecDepth 20000 in
theorem ggL_law_X7_thrown : GoodIn wsL_law wsX7_thrown := goodIn_r _ [135, 120, 574, 575, 576, 577, 578, 579, 580, 581, 582, 583, 584, 585] (by decide +kernel) (by decide +kernel)
set_option maxRecDepth 20000 in
theorem gL_law_X7_thrown : GoodIn wsL_law (wsV RL 78 RX7 yX7_thrown wsX7_thrown) := goodIn_app (goodIn_of _ (by decide +kernel)) ggL_law_X7_thrown
set_option maxRecDepth 20000 in
theorem ggL_law_L_pump : GoodIn wsL_law wsL_pump := goodIn_ca (goodIn_ca (goodIn_ca (goodIn_r _ [138, 96, 97, 139, 140, 141, 142, 2, 143, 102, 103, 104, 105, 144, 145, 20, 146, 109, 110, 111, 147, 148, 149, 19, 150, 151, 45, 46, 568, 569, 570, 571, 572, 573, 589, 590, 591] (by decide +kernel) (by decide +kernel)) (goodIn_sub (fun _ h => List.mem_append_left _ (List.mem_append_left _ (List.mem_append_right _ h))) (by decide +kernel))) (goodIn_sub (fun _ h => List.mem_append_left _ (List.mem_append_right _ h)) (by decide +kernel))) (goodIn_sub (fun _ h => List.mem_append_right _ h) (by decide +kernel))
set_option maxRecDepth 20000 in
theorem gL_law_L_pump : GoodIn wsL_law (va_wsS RL 82 yL_pump wsL_pump) := goodIn_app (goodIn_of _ (by decide +kernel)) ggL_law_L_pump
set_option maxRecDepth 20000 in
theorem ggL_law_X7_pump : GoodIn wsL_law wsX7_pump := goodIn_r _ [155, 120, 156, 77, 78, 157, 158, 5, 159, 121, 122, 123, 124, 125, 126, 127, 574, 575, 576, 577, 578, 579, 580, 581, 582, 583, 584, 585] (by decide +kernel) (by decide +kernel)
set_option maxRecDepth 20000 in
theorem gL_law_X7_pump : GoodIn wsL_law (wsV RL 85 RX7 yX7_pump wsX7_pump) := goodIn_app (goodIn_of _ (by decide +kernel)) ggL_law_X7_pump
set_option maxRecDepth 20000 in
theorem ggL_law_L_run : GoodIn wsL_law wsL_run := goodIn_ca (goodIn_r _ [162, 96, 163, 164, 165, 2, 166, 102, 103, 20, 146, 24, 167, 109, 110, 111, 568, 569, 570, 571, 572, 573, 589, 590, 591, 592, 593, 594, 595, 596, 597, 598] (by decide +kernel) (by decide +kernel)) (goodIn_sub (fun _ h => List.mem_append_left _ (List.mem_append_left _ (List.mem_append_right _ h))) (by decide +kernel))
set_option maxRecDepth 20000 in
theorem gL_law_L_run : GoodIn wsL_law (va_wsS RL 86 yL_run wsL_run) := goodIn_app (goodIn_of _ (by decide +kernel)) ggL_law_L_run
set_option maxRecDepth 20000 in
theorem ggL_law_X7_run : GoodIn wsL_law wsX7_run := goodIn_r _ [171, 120, 84, 172, 173, 174, 5, 175, 156, 121, 122, 123, 574, 575, 576, 577, 578, 579, 580, 581, 582, 583, 584, 585, 606, 607, 608, 609, 610] (by decide +kernel) (by decide +kernel)
set_option maxRecDepth 20000 in
theorem gL_law_X7_run : GoodIn wsL_law (wsV RL 89 RX7 yX7_run wsX7_run) := goodIn_app (goodIn_of _ (by decide +kernel)) ggL_law_X7_run
set_option maxRecDepth 20000 in
theorem ggL_law_L_fill : GoodIn wsL_law wsL_fill := goodIn_ca (goodIn_r _ [178, 97, 179, 180, 181, 2, 182, 104, 105, 24, 183, 184, 185, 186, 187, 109, 110, 111, 568, 569, 570, 571, 572, 573, 592, 593, 594, 595, 596, 597, 598] (by decide +kernel) (by decide +kernel)) (goodIn_sub (fun _ h => List.mem_append_left _ (List.mem_append_right _ h)) (by decide +kernel))
set_option maxRecDepth 20000 in
theorem gL_law_L_fill : GoodIn wsL_law (va_wsS RL 90 yL_fill wsL_fill) := goodIn_app (goodIn_of _ (by decide +kernel)) ggL_law_L_fill
set_option maxRecDepth 20000 in
theorem ggL_law_X7_fill : GoodIn wsL_law wsX7_fill := goodIn_r _ [191, 120, 84, 192, 185, 186, 187, 121, 122, 5, 123, 124, 125, 126, 127, 574, 575, 576, 577, 578, 579, 580, 581, 582, 583, 584, 585, 606, 607, 608, 609, 610] (by decide +kernel) (by decide +kernel)
set_option maxRecDepth 20000 in
theorem gL_law_X7_fill : GoodIn wsL_law (wsV RL 92 RX7 yX7_fill wsX7_fill) := goodIn_app (goodIn_of _ (by decide +kernel)) ggL_law_X7_fill
set_option maxRecDepth 20000 in
theorem ggL_law_L_groom : GoodIn wsL_law wsL_groom := goodIn_ca (goodIn_ca (goodIn_r _ [195, 96, 97, 196, 197, 198, 2, 199, 102, 103, 104, 105, 24, 109, 110, 111, 200, 201, 202, 23, 203, 51, 52, 568, 569, 570, 571, 572, 573, 592, 593, 594, 595, 596, 597, 598] (by decide +kernel) (by decide +kernel)) (goodIn_sub (fun _ h => List.mem_append_left _ (List.mem_append_left _ (List.mem_append_right _ h))) (by decide +kernel))) (goodIn_sub (fun _ h => List.mem_append_left _ (List.mem_append_right _ h)) (by decide +kernel))
set_option maxRecDepth 20000 in
theorem gL_law_L_groom : GoodIn wsL_law (va_wsS RL 93 yL_groom wsL_groom) := goodIn_app (goodIn_of _ (by decide +kernel)) ggL_law_L_groom
set_option maxRecDepth 20000 in
theorem ggL_law_X7_groom : GoodIn wsL_law wsX7_groom := goodIn_r _ [207, 120, 84, 157, 158, 5, 159, 121, 122, 123, 124, 125, 126, 127, 574, 575, 576, 577, 578, 579, 580, 581, 582, 583, 584, 585, 606, 607, 608, 609, 610] (by decide +kernel) (by decide +kernel)
set_option maxRecDepth 20000 in
theorem gL_law_X7_groom : GoodIn wsL_law (wsV RL 95 RX7 yX7_groom wsX7_groom) := goodIn_app (goodIn_of _ (by decide +kernel)) ggL_law_X7_groom
set_option maxRecDepth 20000 in
theorem ggL_law_L_judge : GoodIn wsL_law wsL_judge := goodIn_ca (goodIn_ca (goodIn_r _ [210, 96, 97, 211, 212, 213, 2, 214, 102, 103, 104, 105, 29, 215, 109, 110, 111, 568, 569, 570, 571, 572, 573, 599] (by decide +kernel) (by decide +kernel)) (goodIn_sub (fun _ h => List.mem_append_left _ (List.mem_append_left _ (List.mem_append_right _ h))) (by decide +kernel))) (goodIn_sub (fun _ h => List.mem_append_left _ (List.mem_append_right _ h)) (by decide +kernel))
set_option maxRecDepth 20000 in
theorem gL_law_L_judge : GoodIn wsL_law (va_wsS RL 96 yL_judge wsL_judge) := goodIn_app (goodIn_of _ (by decide +kernel)) ggL_law_L_judge
set_option maxRecDepth 20000 in
theorem ggL_law_X7_judge : GoodIn wsL_law wsX7_judge := goodIn_r _ [219, 120, 79, 121, 122, 5, 123, 124, 125, 126, 127, 574, 575, 576, 577, 578, 579, 580, 581, 582, 583, 584, 585] (by decide +kernel) (by decide +kernel)
set_option maxRecDepth 20000 in
theorem gL_law_X7_judge : GoodIn wsL_law (wsV RL 98 RX7 yX7_judge wsX7_judge) := goodIn_app (goodIn_of _ (by decide +kernel)) ggL_law_X7_judge
set_option maxRecDepth 20000 in
theorem ggL_law_L_jump : GoodIn wsL_law wsL_jump := goodIn_ca (goodIn_ca (goodIn_r _ [222, 97, 139, 223, 224, 225, 2, 226, 104, 105, 144, 145, 33, 227, 16, 108, 24, 29, 228, 109, 110, 111, 229, 230, 231, 23, 232, 233, 234, 235, 236, 237, 238, 239, 240, 241, 242, 243, 184, 185, 186, 187, 244, 245, 246, 247, 248, 249, 250, 51, 52, 251, 252, 253, 254, 255, 256, 257, 258, 28, 259, 260, 261, 262, 61, 263, 264, 265, 266, 267, 32, 268, 269, 65, 66, 67, 68, 69, 568, 569, 570, 571, 572, 573, 600, 601, 602, 603, 604, 605, 586, 587, 588, 592, 593, 594, 595, 596, 597, 598, 599] (by decide +kernel) (by decide +kernel)) (goodIn_sub (fun _ h => List.mem_append_left _ (List.mem_append_right _ h)) (by decide +kernel))) (goodIn_sub (fun _ h => List.mem_append_right _ h) (by decide +kernel))
set_option maxRecDepth 20000 in
theorem gL_law_L_jump : GoodIn wsL_law (va_wsS RL 99 yL_jump wsL_jump) := goodIn_app (goodIn_of _ (by decide +kernel)) ggL_law_L_jump
set_option maxRecDepth 20000 in
theorem ggL_law_X7_jump : GoodIn wsL_law wsX7_jump := goodIn_r _ [273, 120, 274, 84, 79, 275, 261, 186, 262, 192, 185, 187, 276, 245, 246, 38, 80, 277, 278, 279, 280, 121, 122, 5, 123, 124, 125, 126, 127, 281, 282, 283, 284, 285, 286, 287, 288, 76, 289, 290, 291, 83, 292, 89, 90, 574, 575, 576, 577, 578, 579, 580, 581, 582, 583, 584, 585, 606, 607, 608, 609, 610] (by decide +kernel) (by decide +kernel)
set_option maxRecDepth 20000 in
theorem gL_law_X7_jump : GoodIn wsL_law (wsV RL 102 RX7 yX7_jump wsX7_jump) := goodIn_app (goodIn_of _ (by decide +kernel)) ggL_law_X7_jump
set_option maxRecDepth 20000 in
theorem ggL_law_L_told : GoodIn wsL_law wsL_told := goodIn_ca (goodIn_r _ [295, 96, 296, 297, 298, 2, 299, 102, 103, 33, 227, 109, 110, 111, 300, 301, 302, 32, 303, 65, 66, 67, 68, 69, 568, 569, 570, 571, 572, 573, 600, 601, 602, 603, 604, 605] (by decide +kernel) (by decide +kernel)) (goodIn_sub (fun _ h => List.mem_append_left _ (List.mem_append_left _ (List.mem_append_right _ h))) (by decide +kernel))
set_option maxRecDepth 20000 in
theorem gL_law_L_told : GoodIn wsL_law (va_wsS RL 103 yL_told wsL_told) := goodIn_app (goodIn_of _ (by decide +kernel)) ggL_law_L_told
set_option maxRecDepth 20000 in
theorem ggL_law_X7_told : GoodIn wsL_law wsX7_told := goodIn_r _ [307, 120, 274, 80, 121, 122, 5, 123, 124, 125, 126, 127, 574, 575, 576, 577, 578, 579, 580, 581, 582, 583, 584, 585] (by decide +kernel) (by decide +kernel)
set_option maxRecDepth 20000 in
theorem gL_law_X7_told : GoodIn wsL_law (wsV RL 105 RX7 yX7_told wsX7_told) := goodIn_app (goodIn_of _ (by decide +kernel)) ggL_law_X7_told
set_option maxRecDepth 20000 in
theorem ggL_law_L_score : GoodIn wsL_law wsL_score := goodIn_ca (goodIn_r _ [310, 96, 311, 312, 313, 2, 314, 102, 103, 33, 109, 110, 111, 315, 316, 317, 32, 318, 269, 65, 67, 319, 185, 186, 187, 320, 245, 246, 568, 569, 570, 571, 572, 573, 600, 601, 602, 603, 604, 605] (by decide +kernel) (by decide +kernel)) (goodIn_sub (fun _ h => List.mem_append_left _ (List.mem_append_left _ (List.mem_append_right _ h))) (by decide +kernel))
set_option maxRecDepth 20000 in
theorem gL_law_L_score : GoodIn wsL_law (va_wsS RL 106 yL_score wsL_score) := goodIn_app (goodIn_of _ (by decide +kernel)) ggL_law_L_score
set_option maxRecDepth 20000 in
theorem ggL_law_X7_score : GoodIn wsL_law wsX7_score := goodIn_r _ [324, 120, 121, 122, 5, 123, 325, 326, 327, 328, 274, 80, 192, 185, 186, 187, 276, 245, 246, 124, 125, 126, 127, 574, 575, 576, 577, 578, 579, 580, 581, 582, 583, 584, 585] (by decide +kernel) (by decide +kernel)
set_option maxRecDepth 20000 in
theorem gL_law_X7_score : GoodIn wsL_law (wsV RL 108 RX7 yX7_score wsX7_score) := goodIn_app (goodIn_of _ (by decide +kernel)) ggL_law_X7_score
set_option maxRecDepth 20000 in
theorem ggL_law_X5_leader : GoodIn wsL_law wsX5_leader := goodIn_r _ [332, 33, 227, 315, 316, 317, 32, 318, 269, 65, 67, 319, 185, 186, 187, 320, 245, 246, 568, 569, 570, 571, 572, 573, 600, 601, 602, 603, 604, 605] (by decide +kernel) (by decide +kernel)
set_option maxRecDepth 20000 in
theorem gL_law_X5_leader : GoodIn wsL_law (wsV RL 109 RX5 yX5_leader wsX5_leader) := goodIn_app (goodIn_of _ (by decide +kernel)) ggL_law_X5_leader
set_option maxRecDepth 20000 in
theorem ggL_law_X7_leader : GoodIn wsL_law wsX7_leader := goodIn_r _ [336, 120, 274, 325, 326, 327, 5, 328, 80, 192, 185, 186, 187, 276, 245, 246, 574, 575, 576, 577, 578, 579, 580, 581, 582, 583, 584, 585] (by decide +kernel) (by decide +kernel)
set_option maxRecDepth 20000 in
theorem gL_law_X7_leader : GoodIn wsL_law (wsV RL 112 RX7 yX7_leader wsX7_leader) := goodIn_app (goodIn_of _ (by decide +kernel)) ggL_law_X7_leader
set_option maxRecDepth 20000 in
theorem ggL_law_L_part : GoodIn wsL_law wsL_part := goodIn_ca (goodIn_r _ [339, 96, 340, 341, 342, 2, 343, 102, 103, 109, 110, 111, 344, 345, 346, 347, 24, 348, 349, 20, 350, 351, 352, 19, 353, 151, 45, 247, 248, 249, 23, 250, 51, 52, 568, 569, 570, 571, 572, 573, 592, 593, 594, 595, 596, 597, 598, 589, 590, 591] (by decide +kernel) (by decide +kernel)) (goodIn_sub (fun _ h => List.mem_append_left _ (List.mem_append_left _ (List.mem_append_right _ h))) (by decide +kernel))
set_option maxRecDepth 20000 in
theorem gL_law_L_part : GoodIn wsL_law (va_wsS RL 113 yL_part wsL_part) := goodIn_app (goodIn_of _ (by decide +kernel)) ggL_law_L_part
set_option maxRecDepth 20000 in
theorem ggL_law_X7_part : GoodIn wsL_law wsX7_part := goodIn_r _ [357, 120, 157, 158, 5, 159, 121, 122, 123, 358, 359, 360, 361, 156, 77, 84, 289, 290, 291, 83, 292, 89, 90, 124, 125, 126, 127, 574, 575, 576, 577, 578, 579, 580, 581, 582, 583, 584, 585, 606, 607, 608, 609, 610] (by decide +kernel) (by decide +kernel)
set_option maxRecDepth 20000 in
theorem gL_law_X7_part : GoodIn wsL_law (wsV RL 115 RX7 yX7_part wsX7_part) := goodIn_app (goodIn_of _ (by decide +kernel)) ggL_law_X7_part
set_option maxRecDepth 20000 in
theorem ggL_law_L_count : GoodIn wsL_law wsL_count := goodIn_ca (goodIn_r _ [364, 96, 365, 366, 367, 2, 368, 102, 103, 109, 110, 111, 369, 370, 371, 372, 24, 228, 16, 108, 183, 20, 146, 33, 227, 229, 230, 231, 23, 232, 233, 234, 235, 236, 237, 112, 113, 114, 15, 115, 39, 40, 373, 374, 375, 376, 54, 377, 378, 379, 380, 51, 381, 382, 383, 384, 385, 386, 52, 387, 388, 389, 32, 390, 68, 568, 569, 570, 571, 572, 573, 592, 593, 594, 595, 596, 597, 598, 586, 587, 588, 589, 590, 591, 600, 601, 602, 603, 604, 605] (by decide +kernel) (by decide +kernel)) (goodIn_sub (fun _ h => List.mem_append_left _ (List.mem_append_left _ (List.mem_append_right _ h))) (by decide +kernel))
set_option maxRecDepth 20000 in
theorem gL_law_L_count : GoodIn wsL_law (va_wsS RL 116 yL_count wsL_count) := goodIn_app (goodIn_of _ (by decide +kernel)) ggL_law_L_count
set_option maxRecDepth 20000 in
theorem ggL_law_X7_count : GoodIn wsL_law wsX7_count := goodIn_r _ [394, 120, 84, 121, 122, 5, 123, 395, 396, 397, 398, 274, 80, 38, 76, 156, 128, 129, 130, 131, 74, 75, 399, 400, 401, 124, 125, 126, 127, 574, 575, 576, 577, 578, 579, 580, 581, 582, 583, 584, 585, 606, 607, 608, 609, 610] (by decide +kernel) (by decide +kernel)
set_option maxRecDepth 20000 in
theorem gL_law_X7_count : GoodIn wsL_law (wsV RL 118 RX7 yX7_count wsX7_count) := goodIn_app (goodIn_of _ (by decide +kernel)) ggL_law_X7_count
set_option maxRecDepth 20000 in
theorem ggL_law_L_pass : GoodIn wsL_law wsL_pass := goodIn_ca (goodIn_r _ [404, 97, 405, 406, 407, 2, 408, 104, 105, 24, 109, 110, 111, 377, 378, 379, 23, 380, 51, 381, 382, 409, 410, 411, 412, 413, 414, 415, 416, 55, 417, 54, 56, 418, 419, 233, 420, 230, 231, 232, 234, 235, 236, 237, 421, 113, 114, 15, 115, 39, 40, 422, 423, 424, 425, 426, 427, 185, 186, 187, 428, 429, 430, 431, 52, 432, 433, 434, 435, 436, 437, 438, 439, 255, 245, 246, 440, 252, 253, 254, 568, 569, 570, 571, 572, 573, 592, 593, 594, 595, 596, 597, 598, 586, 587, 588, 589, 590, 591] (by decide +kernel) (by decide +kernel)) (goodIn_sub (fun _ h => List.mem_append_left _ (List.mem_append_right _ h)) (by decide +kernel))
set_option maxRecDepth 20000 in
theorem gL_law_L_pass : GoodIn wsL_law (va_wsS RL 119 yL_pass wsL_pass) := goodIn_app (goodIn_of _ (by decide +kernel)) ggL_law_L_pass
set_option maxRecDepth 20000 in
theorem ggL_law_X7_pass_ : GoodIn wsL_law wsX7_pass_ := goodIn_r _ [444, 120, 84, 121, 122, 5, 123, 124, 125, 126, 127, 399, 400, 401, 445, 446, 447, 448, 156, 74, 276, 245, 186, 246, 128, 129, 130, 131, 75, 449, 450, 451, 452, 78, 77, 192, 185, 187, 453, 454, 455, 83, 456, 89, 457, 574, 575, 576, 577, 578, 579, 580, 581, 582, 583, 584, 585, 606, 607, 608, 609, 610] (by decide +kernel) (by decide +kernel)
set_option maxRecDepth 20000 in
theorem gL_law_X7_pass_ : GoodIn wsL_law (wsV RL 121 RX7 yX7_pass_ wsX7_pass_) := goodIn_app (goodIn_of _ (by decide +kernel)) ggL_law_X7_pass_
set_option maxRecDepth 20000 in
theorem ggL_law_L_enough : GoodIn wsL_law wsL_enough := goodIn_ca (goodIn_ca (goodIn_r _ [460, 96, 97, 461, 462, 463, 2, 464, 102, 103, 104, 105, 25, 24, 348, 109, 110, 111, 465, 466, 467, 23, 468, 51, 52, 54, 426, 233, 469, 414, 415, 416, 55, 417, 56, 418, 419, 420, 230, 231, 232, 234, 235, 236, 237, 421, 113, 114, 15, 115, 39, 40, 422, 423, 424, 425, 427, 185, 186, 187, 428, 429, 430, 431, 432, 433, 434, 435, 436, 437, 438, 439, 255, 245, 246, 440, 252, 253, 254, 568, 569, 570, 571, 572, 573, 592, 593, 594, 595, 596, 597, 598, 586, 587, 588, 589, 590, 591] (by decide +kernel) (by decide +kernel)) (goodIn_sub (fun _ h => List.mem_append_left _ (List.mem_append_left _ (List.mem_append_right _ h))) (by decide +kernel))) (goodIn_sub (fun _ h => List.mem_append_left _ (List.mem_append_right _ h)) (by decide +kernel))
set_option maxRecDepth 20000 in
theorem gL_law_L_enough : GoodIn wsL_law (va_wsS RL 122 yL_enough wsL_enough) := goodIn_app (goodIn_of _ (by decide +kernel)) ggL_law_L_enough
set_option maxRecDepth 20000 in
theorem ggL_law_X7_enough : GoodIn wsL_law wsX7_enough := goodIn_r _ [473, 120, 85, 84, 157, 158, 5, 159, 121, 122, 123, 124, 125, 126, 127, 474, 475, 476, 83, 477, 478, 479, 89, 480, 278, 279, 280, 90, 91, 445, 446, 447, 448, 156, 74, 276, 245, 186, 246, 128, 129, 130, 131, 75, 449, 450, 451, 452, 78, 77, 192, 185, 187, 453, 454, 455, 456, 457, 574, 575, 576, 577, 578, 579, 580, 581, 582, 583, 584, 585, 606, 607, 608, 609, 610] (by decide +kernel) (by decide +kernel)
set_option maxRecDepth 20000 in
theorem gL_law_X7_enough : GoodIn wsL_law (wsV RL 124 RX7 yX7_enough wsX7_enough) := goodIn_app (goodIn_of _ (by decide +kernel)) ggL_law_X7_enough
set_option maxRecDepth 20000 in
theorem ggL_law_L_foresee : GoodIn wsL_law wsL_foresee := goodIn_ca (goodIn_ca (goodIn_r _ [483, 97, 96, 484, 485, 486, 2, 487, 104, 105, 102, 103, 25, 24, 183, 109, 110, 111, 465, 466, 467, 23, 468, 51, 52, 54, 426, 233, 409, 410, 411, 412, 413, 414, 415, 416, 55, 417, 56, 418, 419, 420, 230, 231, 232, 234, 235, 236, 237, 421, 113, 114, 15, 115, 39, 40, 422, 423, 424, 425, 427, 185, 186, 187, 428, 429, 430, 431, 432, 433, 434, 435, 436, 437, 438, 439, 255, 245, 246, 440, 252, 253, 254, 377, 378, 379, 380, 381, 382, 383, 384, 385, 386, 568, 569, 570, 571, 572, 573, 592, 593, 594, 595, 596, 597, 598, 586, 587, 588, 589, 590, 591] (by decide +kernel) (by decide +kernel)) (goodIn_sub (fun _ h => List.mem_append_left _ (List.mem_append_right _ h)) (by decide +kernel))) (goodIn_sub (fun _ h => List.mem_append_left _ (List.mem_append_left _ (List.mem_append_right _ h))) (by decide +kernel))
set_option maxRecDepth 20000 in
theorem gL_law_L_foresee : GoodIn wsL_law (va_wsS RL 125 yL_foresee wsL_foresee) := goodIn_app (goodIn_of _ (by decide +kernel)) ggL_law_L_foresee
set_option maxRecDepth 20000 in
theorem ggL_law_X7_foresee : GoodIn wsL_law wsX7_foresee := goodIn_r _ [491, 120, 85, 84, 121, 122, 5, 123, 124, 125, 126, 127, 474, 475, 476, 83, 477, 478, 479, 89, 480, 278, 279, 280, 90, 91, 445, 446, 447, 448, 156, 74, 276, 245, 186, 246, 128, 129, 130, 131, 75, 449, 450, 451, 452, 78, 77, 192, 185, 187, 453, 454, 455, 456, 457, 395, 396, 397, 398, 274, 80, 38, 76, 399, 400, 401, 574, 575, 576, 577, 578, 579, 580, 581, 582, 583, 584, 585, 606, 607, 608, 609, 610] (by decide +kernel) (by decide +kernel)
set_option maxRecDepth 20000 in
theorem gL_law_X7_foresee : GoodIn wsL_law (wsV RL 127 RX7 yX7_foresee wsX7_foresee) := goodIn_app (goodIn_of _ (by decide +kernel)) ggL_law_X7_foresee
set_option maxRecDepth 20000 in
theorem ggL_law_L_gate : GoodIn wsL_law wsL_gate := goodIn_ca (goodIn_r _ [494, 97, 495, 496, 497, 2, 498, 104, 105, 16, 108, 24, 109, 110, 111, 229, 230, 231, 23, 232, 233, 234, 235, 236, 237, 238, 239, 240, 241, 242, 243, 184, 185, 186, 187, 244, 245, 246, 247, 248, 249, 250, 51, 52, 568, 569, 570, 571, 572, 573, 586, 587, 588, 592, 593, 594, 595, 596, 597, 598] (by decide +kernel) (by decide +kernel)) (goodIn_sub (fun _ h => List.mem_append_left _ (List.mem_append_right _ h)) (by decide +kernel))
set_option maxRecDepth 20000 in
theorem gL_law_L_gate : GoodIn wsL_law (va_wsS RL 128 yL_gate wsL_gate) := goodIn_app (goodIn_of _ (by decide +kernel)) ggL_law_L_gate
set_option maxRecDepth 20000 in
theorem ggL_law_X7_gate : GoodIn wsL_law wsX7_gate := goodIn_r _ [502, 120, 84, 121, 122, 5, 123, 124, 125, 126, 127, 281, 282, 283, 284, 192, 185, 186, 187, 276, 245, 246, 285, 286, 287, 288, 76, 289, 290, 291, 83, 292, 89, 90, 574, 575, 576, 577, 578, 579, 580, 581, 582, 583, 584, 585, 606, 607, 608, 609, 610] (by decide +kernel) (by decide +kernel)
set_option maxRecDepth 20000 in
theorem gL_law_X7_gate : GoodIn wsL_law (wsV RL 130 RX7 yX7_gate wsX7_gate) := goodIn_app (goodIn_of _ (by decide +kernel)) ggL_law_X7_gate
set_option maxRecDepth 20000 in
theorem ggL_law_L_advise : GoodIn wsL_law wsL_advise := goodIn_ca (goodIn_r _ [505, 97, 506, 507, 508, 2, 509, 104, 105, 25, 24, 20, 146, 167, 109, 110, 111, 465, 466, 467, 23, 468, 51, 52, 54, 426, 233, 409, 410, 411, 412, 413, 414, 415, 416, 55, 417, 56, 418, 419, 420, 230, 231, 232, 234, 235, 236, 237, 421, 113, 114, 15, 115, 39, 40, 422, 423, 424, 425, 427, 185, 186, 187, 428, 429, 430, 431, 432, 433, 434, 435, 436, 437, 438, 439, 255, 245, 246, 440, 252, 253, 254, 377, 378, 379, 380, 381, 382, 510, 511, 512, 513, 568, 569, 570, 571, 572, 573, 589, 590, 591, 592, 593, 594, 595, 596, 597, 598, 586, 587, 588] (by decide +kernel) (by decide +kernel)) (goodIn_sub (fun _ h => List.mem_append_left _ (List.mem_append_right _ h)) (by decide +kernel))
set_option maxRecDepth 20000 in
theorem gL_law_L_advise : GoodIn wsL_law (va_wsS RL 131 yL_advise wsL_advise) := goodIn_app (goodIn_of _ (by decide +kernel)) ggL_law_L_advise
set_option maxRecDepth 20000 in
theorem ggL_law_X7_advise : GoodIn wsL_law wsX7_advise := goodIn_r _ [517, 120, 156, 84, 121, 122, 5, 123, 124, 125, 126, 127, 518, 519, 520, 521, 85, 474, 475, 476, 83, 477, 478, 479, 89, 480, 278, 279, 280, 90, 91, 445, 446, 447, 448, 74, 276, 245, 186, 246, 128, 129, 130, 131, 75, 449, 450, 451, 452, 78, 77, 192, 185, 187, 453, 454, 455, 456, 457, 399, 400, 401, 574, 575, 576, 577, 578, 579, 580, 581, 582, 583, 584, 585, 606, 607, 608, 609, 610] (by decide +kernel) (by decide +kernel)
set_option maxRecDepth 20000 in
theorem gL_law_X7_advise : GoodIn wsL_law (wsV RL 133 RX7 yX7_advise wsX7_advise) := goodIn_app (goodIn_of _ (by decide +kernel)) ggL_law_X7_advise
set_option maxRecDepth 20000 in
theorem ggL_law_X5_mean : GoodIn wsL_law wsX5_mean := goodIn_r _ [525, 33, 227, 526, 527, 528, 32, 529, 67, 381, 2, 382, 568, 569, 570, 571, 572, 573, 600, 601, 602, 603, 604, 605] (by decide +kernel) (by decide +kernel)
set_option maxRecDepth 20000 in
theorem gL_law_X5_mean : GoodIn wsL_law (wsV RL 134 RX5 yX5_mean wsX5_mean) := goodIn_app (goodIn_of _ (by decide +kernel)) ggL_law_X5_mean
set_option maxRecDepth 20000 in
theorem ggL_law_X7_mean : GoodIn wsL_law wsX7_mean := goodIn_r _ [533, 120, 274, 80, 574, 575, 576, 577, 578, 579, 580, 581, 582, 583, 584, 585] (by decide +kernel) (by decide +kernel)
set_option maxRecDepth 20000 in
theorem gL_law_X7_mean : GoodIn wsL_law (wsV RL 138 RX7 yX7_mean wsX7_mean) := goodIn_app (goodIn_of _ (by decide +kernel)) ggL_law_X7_mean
set_option maxRecDepth 20000 in
theorem ggL_law_X5_digest : GoodIn wsL_law wsX5_digest := goodIn_r _ [537, 538, 539, 16, 29, 33, 369, 370, 371, 2, 372, 24, 228, 108, 183, 20, 146, 227, 229, 230, 231, 23, 232, 233, 234, 235, 236, 237, 112, 113, 114, 15, 115, 39, 40, 373, 374, 375, 376, 54, 377, 378, 379, 380, 51, 381, 382, 383, 384, 385, 386, 52, 387, 388, 389, 32, 390, 68, 344, 345, 346, 347, 348, 349, 350, 351, 352, 19, 353, 151, 45, 247, 248, 249, 250, 540, 541, 542, 543, 544, 41, 545, 546, 547, 28, 548, 549, 61, 550, 551, 552, 553, 554, 555, 167, 556, 557, 558, 559, 269, 560, 561, 301, 302, 303, 65, 66, 67, 69, 315, 316, 317, 318, 319, 185, 186, 187, 320, 245, 246, 568, 569, 570, 571, 572, 573, 592, 593, 594, 595, 596, 597, 598, 586, 587, 588, 589, 590, 591, 600, 601, 602, 603, 604, 605, 599] (by decide +kernel) (by decide +kernel)
set_option maxRecDepth 20000 in
theorem gL_law_X5_digest : GoodIn wsL_law (wsV RL 139 RX5 yX5_digest wsX5_digest) := goodIn_app (goodIn_of _ (by decide +kernel)) ggL_law_X5_digest
set_option maxRecDepth 20000 in
theorem ggL_law_X7_digest : GoodIn wsL_law wsX7_digest := goodIn_r _ [565, 120, 566, 567, 84, 74, 75, 76, 79, 156, 77, 78, 274, 80, 395, 396, 397, 5, 398, 38, 128, 129, 130, 131, 399, 400, 401, 358, 359, 360, 361, 289, 290, 291, 83, 292, 89, 90, 325, 326, 327, 328, 192, 185, 186, 187, 276, 245, 246, 574, 575, 576, 577, 578, 579, 580, 581, 582, 583, 584, 585, 606, 607, 608, 609, 610] (by decide +kernel) (by decide +kernel)
set_option maxRecDepth 20000 in
theorem gL_law_X7_digest : GoodIn wsL_law (wsV RL 143 RX7 yX7_digest wsX7_digest) := goodIn_app (goodIn_of _ (by decide +kernel)) ggL_law_X7_digest
theorem dL_law_0 : decode cL_law 0 = .ok (.new 8, 3) := by decide +kernel
theorem dL_law_3 : decode cL_law 3 = .ok (.dup, 1) := by decide +kernel
theorem dL_law_4 : decode cL_law 4 = .ok (.invokespecial 68, 3) := by decide +kernel
theorem dL_law_7 : decode cL_law 7 = .ok (.astore_n 1, 1) := by decide +kernel
theorem dL_law_8 : decode cL_law 8 = .ok (.new 69, 3) := by decide +kernel
theorem dL_law_11 : decode cL_law 11 = .ok (.dup, 1) := by decide +kernel
theorem dL_law_12 : decode cL_law 12 = .ok (.invokespecial 71, 3) := by decide +kernel
theorem dL_law_15 : decode cL_law 15 = .ok (.astore_n 2, 1) := by decide +kernel
theorem dL_law_16 : decode cL_law 16 = .ok (.iconst 1, 1) := by decide +kernel
theorem dL_law_17 : decode cL_law 17 = .ok (.newarray .long, 2) := by decide +kernel
theorem dL_law_19 : decode cL_law 19 = .ok (.astore_n 3, 1) := by decide +kernel
theorem dL_law_20 : decode cL_law 20 = .ok (.iconst 0, 1) := by decide +kernel
theorem dL_law_21 : decode cL_law 21 = .ok (.istore 4, 2) := by decide +kernel
theorem dL_law_23 : decode cL_law 23 = .ok (.iload 4, 2) := by decide +kernel
theorem dL_law_25 : decode cL_law 25 = .ok (.aload_n 0, 1) := by decide +kernel
theorem dL_law_26 : decode cL_law 26 = .ok (.arraylength, 1) := by decide +kernel
theorem dL_law_27 : decode cL_law 27 = .ok (.iconst 5, 1) := by decide +kernel
theorem dL_law_28 : decode cL_law 28 = .ok (.isub, 1) := by decide +kernel
theorem dL_law_29 : decode cL_law 29 = .ok (.if_icmp .gt 1220, 3) := by decide +kernel
theorem dL_law_32 : decode cL_law 32 = .ok (.aload_n 0, 1) := by decide +kernel
theorem dL_law_33 : decode cL_law 33 = .ok (.iload 4, 2) := by decide +kernel
theorem dL_law_35 : decode cL_law 35 = .ok (.iaload, 1) := by decide +kernel
theorem dL_law_36 : decode cL_law 36 = .ok (.bipush 31, 2) := by decide +kernel
theorem dL_law_38 : decode cL_law 38 = .ok (.iand, 1) := by decide +kernel
theorem dL_law_39 : decode cL_law 39 = .ok (.tableswitch 1204 0 18 #[89, 181, 249, 312, 368, 436, 504, 584, 652, 708, 721, 789, 845, 901, 969, 1037, 1093, 1149, 1190], 89) := by decide +kernel
theorem dL_law_128 : decode cL_law 128 = .ok (.aload_n 1, 1) := by decide +kernel
theorem dL_law_129 : decode cL_law 129 = .ok (.aload_n 0, 1) := by decide +kernel
theorem dL_law_130 : decode cL_law 130 = .ok (.iload 4, 2) := by decide +kernel
theorem dL_law_132 : decode cL_law 132 = .ok (.iconst 1, 1) := by decide +kernel
theorem dL_law_133 : decode cL_law 133 = .ok (.iadd, 1) := by decide +kernel
theorem dL_law_134 : decode cL_law 134 = .ok (.iaload, 1) := by decide +kernel
theorem dL_law_135 : decode cL_law 135 = .ok (.aload_n 0, 1) := by decide +kernel
theorem dL_law_136 : decode cL_law 136 = .ok (.iload 4, 2) := by decide +kernel
theorem dL_law_138 : decode cL_law 138 = .ok (.iconst 2, 1) := by decide +kernel
theorem dL_law_139 : decode cL_law 139 = .ok (.iadd, 1) := by decide +kernel
theorem dL_law_140 : decode cL_law 140 = .ok (.iaload, 1) := by decide +kernel
theorem dL_law_141 : decode cL_law 141 = .ok (.aload_n 0, 1) := by decide +kernel
theorem dL_law_142 : decode cL_law 142 = .ok (.iload 4, 2) := by decide +kernel
theorem dL_law_144 : decode cL_law 144 = .ok (.iconst 3, 1) := by decide +kernel
theorem dL_law_145 : decode cL_law 145 = .ok (.iadd, 1) := by decide +kernel
theorem dL_law_146 : decode cL_law 146 = .ok (.iaload, 1) := by decide +kernel
theorem dL_law_147 : decode cL_law 147 = .ok (.aload_n 0, 1) := by decide +kernel
theorem dL_law_148 : decode cL_law 148 = .ok (.iload 4, 2) := by decide +kernel
theorem dL_law_150 : decode cL_law 150 = .ok (.iconst 4, 1) := by decide +kernel
theorem dL_law_151 : decode cL_law 151 = .ok (.iadd, 1) := by decide +kernel
theorem dL_law_152 : decode cL_law 152 = .ok (.iaload, 1) := by decide +kernel
theorem dL_law_153 : decode cL_law 153 = .ok (.aload_n 3, 1) := by decide +kernel
theorem dL_law_154 : decode cL_law 154 = .ok (.invokestatic 72, 3) := by decide +kernel
theorem dL_law_157 : decode cL_law 157 = .ok (.istore 5, 2) := by decide +kernel
theorem dL_law_159 : decode cL_law 159 = .ok (.aload_n 2, 1) := by decide +kernel
theorem dL_law_160 : decode cL_law 160 = .ok (.aload_n 0, 1) := by decide +kernel
theorem dL_law_161 : decode cL_law 161 = .ok (.iload 4, 2) := by decide +kernel
theorem dL_law_163 : decode cL_law 163 = .ok (.iconst 1, 1) := by decide +kernel
theorem dL_law_164 : decode cL_law 164 = .ok (.iadd, 1) := by decide +kernel
theorem dL_law_165 : decode cL_law 165 = .ok (.iaload, 1) := by decide +kernel
theorem dL_law_166 : decode cL_law 166 = .ok (.aload_n 0, 1) := by decide +kernel
theorem dL_law_167 : decode cL_law 167 = .ok (.iload 4, 2) := by decide +kernel
theorem dL_law_169 : decode cL_law 169 = .ok (.iconst 2, 1) := by decide +kernel
theorem dL_law_170 : decode cL_law 170 = .ok (.iadd, 1) := by decide +kernel
theorem dL_law_171 : decode cL_law 171 = .ok (.iaload, 1) := by decide +kernel
theorem dL_law_172 : decode cL_law 172 = .ok (.aload_n 0, 1) := by decide +kernel
theorem dL_law_173 : decode cL_law 173 = .ok (.iload 4, 2) := by decide +kernel
theorem dL_law_175 : decode cL_law 175 = .ok (.iconst 3, 1) := by decide +kernel
theorem dL_law_176 : decode cL_law 176 = .ok (.iadd, 1) := by decide +kernel
theorem dL_law_177 : decode cL_law 177 = .ok (.iaload, 1) := by decide +kernel
theorem dL_law_178 : decode cL_law 178 = .ok (.aload_n 0, 1) := by decide +kernel
theorem dL_law_179 : decode cL_law 179 = .ok (.iload 4, 2) := by decide +kernel
theorem dL_law_181 : decode cL_law 181 = .ok (.iconst 4, 1) := by decide +kernel
theorem dL_law_182 : decode cL_law 182 = .ok (.iadd, 1) := by decide +kernel
theorem dL_law_183 : decode cL_law 183 = .ok (.iaload, 1) := by decide +kernel
theorem dL_law_184 : decode cL_law 184 = .ok (.invokevirtual 77, 3) := by decide +kernel
theorem dL_law_187 : decode cL_law 187 = .ok (.istore 6, 2) := by decide +kernel
theorem dL_law_189 : decode cL_law 189 = .ok (.aload_n 2, 1) := by decide +kernel
theorem dL_law_190 : decode cL_law 190 = .ok (.invokevirtual 78, 3) := by decide +kernel
theorem dL_law_193 : decode cL_law 193 = .ok (.iload 5, 2) := by decide +kernel
theorem dL_law_195 : decode cL_law 195 = .ok (.if_icmp .eq 5, 3) := by decide +kernel
theorem dL_law_198 : decode cL_law 198 = .ok (.iconst 0, 1) := by decide +kernel
theorem dL_law_199 : decode cL_law 199 = .ok (.ireturn, 1) := by decide +kernel
theorem dL_law_200 : decode cL_law 200 = .ok (.iload 5, 2) := by decide +kernel
theorem dL_law_202 : decode cL_law 202 = .ok (.ifCond .ne 15, 3) := by decide +kernel
theorem dL_law_205 : decode cL_law 205 = .ok (.aload_n 3, 1) := by decide +kernel
theorem dL_law_206 : decode cL_law 206 = .ok (.iconst 0, 1) := by decide +kernel
theorem dL_law_207 : decode cL_law 207 = .ok (.laload, 1) := by decide +kernel
theorem dL_law_208 : decode cL_law 208 = .ok (.iload 6, 2) := by decide +kernel
theorem dL_law_210 : decode cL_law 210 = .ok (.i2l, 1) := by decide +kernel
theorem dL_law_211 : decode cL_law 211 = .ok (.lcmp, 1) := by decide +kernel
theorem dL_law_212 : decode cL_law 212 = .ok (.ifCond .eq 5, 3) := by decide +kernel
theorem dL_law_215 : decode cL_law 215 = .ok (.iconst 0, 1) := by decide +kernel
theorem dL_law_216 : decode cL_law 216 = .ok (.ireturn, 1) := by decide +kernel
theorem dL_law_217 : decode cL_law 217 = .ok (.goto 1026, 3) := by decide +kernel
theorem dL_law_220 : decode cL_law 220 = .ok (.aload_n 1, 1) := by decide +kernel
theorem dL_law_221 : decode cL_law 221 = .ok (.aload_n 0, 1) := by decide +kernel
theorem dL_law_222 : decode cL_law 222 = .ok (.iload 4, 2) := by decide +kernel
theorem dL_law_224 : decode cL_law 224 = .ok (.iconst 1, 1) := by decide +kernel
theorem dL_law_225 : decode cL_law 225 = .ok (.iadd, 1) := by decide +kernel
theorem dL_law_226 : decode cL_law 226 = .ok (.iaload, 1) := by decide +kernel
theorem dL_law_227 : decode cL_law 227 = .ok (.aload_n 0, 1) := by decide +kernel
theorem dL_law_228 : decode cL_law 228 = .ok (.iload 4, 2) := by decide +kernel
theorem dL_law_230 : decode cL_law 230 = .ok (.iconst 2, 1) := by decide +kernel
theorem dL_law_231 : decode cL_law 231 = .ok (.iadd, 1) := by decide +kernel
theorem dL_law_232 : decode cL_law 232 = .ok (.iaload, 1) := by decide +kernel
theorem dL_law_233 : decode cL_law 233 = .ok (.aload_n 3, 1) := by decide +kernel
theorem dL_law_234 : decode cL_law 234 = .ok (.invokestatic 82, 3) := by decide +kernel
theorem dL_law_237 : decode cL_law 237 = .ok (.istore 5, 2) := by decide +kernel
theorem dL_law_239 : decode cL_law 239 = .ok (.aload_n 2, 1) := by decide +kernel
theorem dL_law_240 : decode cL_law 240 = .ok (.aload_n 0, 1) := by decide +kernel
theorem dL_law_241 : decode cL_law 241 = .ok (.iload 4, 2) := by decide +kernel
theorem dL_law_243 : decode cL_law 243 = .ok (.iconst 1, 1) := by decide +kernel
theorem dL_law_244 : decode cL_law 244 = .ok (.iadd, 1) := by decide +kernel
theorem dL_law_245 : decode cL_law 245 = .ok (.iaload, 1) := by decide +kernel
theorem dL_law_246 : decode cL_law 246 = .ok (.aload_n 0, 1) := by decide +kernel
theorem dL_law_247 : decode cL_law 247 = .ok (.iload 4, 2) := by decide +kernel
theorem dL_law_249 : decode cL_law 249 = .ok (.iconst 2, 1) := by decide +kernel
theorem dL_law_250 : decode cL_law 250 = .ok (.iadd, 1) := by decide +kernel
theorem dL_law_251 : decode cL_law 251 = .ok (.iaload, 1) := by decide +kernel
theorem dL_law_252 : decode cL_law 252 = .ok (.invokevirtual 85, 3) := by decide +kernel
theorem dL_law_255 : decode cL_law 255 = .ok (.istore 6, 2) := by decide +kernel
theorem dL_law_257 : decode cL_law 257 = .ok (.aload_n 2, 1) := by decide +kernel
theorem dL_law_258 : decode cL_law 258 = .ok (.invokevirtual 78, 3) := by decide +kernel
theorem dL_law_261 : decode cL_law 261 = .ok (.iload 5, 2) := by decide +kernel
theorem dL_law_263 : decode cL_law 263 = .ok (.if_icmp .eq 5, 3) := by decide +kernel
theorem dL_law_266 : decode cL_law 266 = .ok (.iconst 0, 1) := by decide +kernel
theorem dL_law_267 : decode cL_law 267 = .ok (.ireturn, 1) := by decide +kernel
theorem dL_law_268 : decode cL_law 268 = .ok (.iload 5, 2) := by decide +kernel
theorem dL_law_270 : decode cL_law 270 = .ok (.ifCond .ne 15, 3) := by decide +kernel
theorem dL_law_273 : decode cL_law 273 = .ok (.aload_n 3, 1) := by decide +kernel
theorem dL_law_274 : decode cL_law 274 = .ok (.iconst 0, 1) := by decide +kernel
theorem dL_law_275 : decode cL_law 275 = .ok (.laload, 1) := by decide +kernel
theorem dL_law_276 : decode cL_law 276 = .ok (.iload 6, 2) := by decide +kernel
theorem dL_law_278 : decode cL_law 278 = .ok (.i2l, 1) := by decide +kernel
theorem dL_law_279 : decode cL_law 279 = .ok (.lcmp, 1) := by decide +kernel
theorem dL_law_280 : decode cL_law 280 = .ok (.ifCond .eq 5, 3) := by decide +kernel
theorem dL_law_283 : decode cL_law 283 = .ok (.iconst 0, 1) := by decide +kernel
theorem dL_law_284 : decode cL_law 284 = .ok (.ireturn, 1) := by decide +kernel
theorem dL_law_285 : decode cL_law 285 = .ok (.goto 958, 3) := by decide +kernel
theorem dL_law_288 : decode cL_law 288 = .ok (.aload_n 1, 1) := by decide +kernel
theorem dL_law_289 : decode cL_law 289 = .ok (.aload_n 0, 1) := by decide +kernel
theorem dL_law_290 : decode cL_law 290 = .ok (.iload 4, 2) := by decide +kernel
theorem dL_law_292 : decode cL_law 292 = .ok (.iconst 1, 1) := by decide +kernel
theorem dL_law_293 : decode cL_law 293 = .ok (.iadd, 1) := by decide +kernel
theorem dL_law_294 : decode cL_law 294 = .ok (.iaload, 1) := by decide +kernel
theorem dL_law_295 : decode cL_law 295 = .ok (.aload_n 3, 1) := by decide +kernel
theorem dL_law_296 : decode cL_law 296 = .ok (.invokestatic 86, 3) := by decide +kernel
theorem dL_law_299 : decode cL_law 299 = .ok (.istore 5, 2) := by decide +kernel
theorem dL_law_301 : decode cL_law 301 = .ok (.aload_n 2, 1) := by decide +kernel
theorem dL_law_302 : decode cL_law 302 = .ok (.aload_n 0, 1) := by decide +kernel
theorem dL_law_303 : decode cL_law 303 = .ok (.iload 4, 2) := by decide +kernel
theorem dL_law_305 : decode cL_law 305 = .ok (.iconst 1, 1) := by decide +kernel
theorem dL_law_306 : decode cL_law 306 = .ok (.iadd, 1) := by decide +kernel
theorem dL_law_307 : decode cL_law 307 = .ok (.iaload, 1) := by decide +kernel
theorem dL_law_308 : decode cL_law 308 = .ok (.invokevirtual 89, 3) := by decide +kernel
theorem dL_law_311 : decode cL_law 311 = .ok (.istore 6, 2) := by decide +kernel
theorem dL_law_313 : decode cL_law 313 = .ok (.aload_n 2, 1) := by decide +kernel
theorem dL_law_314 : decode cL_law 314 = .ok (.invokevirtual 78, 3) := by decide +kernel
theorem dL_law_317 : decode cL_law 317 = .ok (.iload 5, 2) := by decide +kernel
theorem dL_law_319 : decode cL_law 319 = .ok (.if_icmp .eq 5, 3) := by decide +kernel
theorem dL_law_322 : decode cL_law 322 = .ok (.iconst 0, 1) := by decide +kernel
theorem dL_law_323 : decode cL_law 323 = .ok (.ireturn, 1) := by decide +kernel
theorem dL_law_324 : decode cL_law 324 = .ok (.iload 5, 2) := by decide +kernel
theorem dL_law_326 : decode cL_law 326 = .ok (.ifCond .ne 22, 3) := by decide +kernel
theorem dL_law_329 : decode cL_law 329 = .ok (.aload_n 3, 1) := by decide +kernel
theorem dL_law_330 : decode cL_law 330 = .ok (.iconst 0, 1) := by decide +kernel
theorem dL_law_331 : decode cL_law 331 = .ok (.laload, 1) := by decide +kernel
theorem dL_law_332 : decode cL_law 332 = .ok (.iload 6, 2) := by decide +kernel
theorem dL_law_334 : decode cL_law 334 = .ok (.ifCond .eq 7, 3) := by decide +kernel
theorem dL_law_337 : decode cL_law 337 = .ok (.lconst 1, 1) := by decide +kernel
theorem dL_law_338 : decode cL_law 338 = .ok (.goto 4, 3) := by decide +kernel
theorem dL_law_341 : decode cL_law 341 = .ok (.lconst 0, 1) := by decide +kernel
theorem dL_law_342 : decode cL_law 342 = .ok (.lcmp, 1) := by decide +kernel
theorem dL_law_343 : decode cL_law 343 = .ok (.ifCond .eq 5, 3) := by decide +kernel
theorem dL_law_346 : decode cL_law 346 = .ok (.iconst 0, 1) := by decide +kernel
theorem dL_law_347 : decode cL_law 347 = .ok (.ireturn, 1) := by decide +kernel
theorem dL_law_348 : decode cL_law 348 = .ok (.goto 895, 3) := by decide +kernel
theorem dL_law_351 : decode cL_law 351 = .ok (.aload_n 1, 1) := by decide +kernel
theorem dL_law_352 : decode cL_law 352 = .ok (.aload_n 0, 1) := by decide +kernel
theorem dL_law_353 : decode cL_law 353 = .ok (.iload 4, 2) := by decide +kernel
theorem dL_law_355 : decode cL_law 355 = .ok (.iconst 1, 1) := by decide +kernel
theorem dL_law_356 : decode cL_law 356 = .ok (.iadd, 1) := by decide +kernel
theorem dL_law_357 : decode cL_law 357 = .ok (.iaload, 1) := by decide +kernel
theorem dL_law_358 : decode cL_law 358 = .ok (.aload_n 3, 1) := by decide +kernel
theorem dL_law_359 : decode cL_law 359 = .ok (.invokestatic 90, 3) := by decide +kernel
theorem dL_law_362 : decode cL_law 362 = .ok (.istore 5, 2) := by decide +kernel
theorem dL_law_364 : decode cL_law 364 = .ok (.aload_n 2, 1) := by decide +kernel
theorem dL_law_365 : decode cL_law 365 = .ok (.aload_n 0, 1) := by decide +kernel
theorem dL_law_366 : decode cL_law 366 = .ok (.iload 4, 2) := by decide +kernel
theorem dL_law_368 : decode cL_law 368 = .ok (.iconst 1, 1) := by decide +kernel
theorem dL_law_369 : decode cL_law 369 = .ok (.iadd, 1) := by decide +kernel
theorem dL_law_370 : decode cL_law 370 = .ok (.iaload, 1) := by decide +kernel
theorem dL_law_371 : decode cL_law 371 = .ok (.invokevirtual 92, 3) := by decide +kernel
theorem dL_law_374 : decode cL_law 374 = .ok (.istore 6, 2) := by decide +kernel
theorem dL_law_376 : decode cL_law 376 = .ok (.aload_n 2, 1) := by decide +kernel
theorem dL_law_377 : decode cL_law 377 = .ok (.invokevirtual 78, 3) := by decide +kernel
theorem dL_law_380 : decode cL_law 380 = .ok (.iload 5, 2) := by decide +kernel
theorem dL_law_382 : decode cL_law 382 = .ok (.if_icmp .eq 5, 3) := by decide +kernel
theorem dL_law_385 : decode cL_law 385 = .ok (.iconst 0, 1) := by decide +kernel
theorem dL_law_386 : decode cL_law 386 = .ok (.ireturn, 1) := by decide +kernel
theorem dL_law_387 : decode cL_law 387 = .ok (.iload 5, 2) := by decide +kernel
theorem dL_law_389 : decode cL_law 389 = .ok (.ifCond .ne 15, 3) := by decide +kernel
theorem dL_law_392 : decode cL_law 392 = .ok (.aload_n 3, 1) := by decide +kernel
theorem dL_law_393 : decode cL_law 393 = .ok (.iconst 0, 1) := by decide +kernel
theorem dL_law_394 : decode cL_law 394 = .ok (.laload, 1) := by decide +kernel
theorem dL_law_395 : decode cL_law 395 = .ok (.iload 6, 2) := by decide +kernel
theorem dL_law_397 : decode cL_law 397 = .ok (.i2l, 1) := by decide +kernel
theorem dL_law_398 : decode cL_law 398 = .ok (.lcmp, 1) := by decide +kernel
theorem dL_law_399 : decode cL_law 399 = .ok (.ifCond .eq 5, 3) := by decide +kernel
theorem dL_law_402 : decode cL_law 402 = .ok (.iconst 0, 1) := by decide +kernel
theorem dL_law_403 : decode cL_law 403 = .ok (.ireturn, 1) := by decide +kernel
theorem dL_law_404 : decode cL_law 404 = .ok (.goto 839, 3) := by decide +kernel
theorem dL_law_407 : decode cL_law 407 = .ok (.aload_n 1, 1) := by decide +kernel
theorem dL_law_408 : decode cL_law 408 = .ok (.aload_n 0, 1) := by decide +kernel
theorem dL_law_409 : decode cL_law 409 = .ok (.iload 4, 2) := by decide +kernel
theorem dL_law_411 : decode cL_law 411 = .ok (.iconst 1, 1) := by decide +kernel
theorem dL_law_412 : decode cL_law 412 = .ok (.iadd, 1) := by decide +kernel
theorem dL_law_413 : decode cL_law 413 = .ok (.iaload, 1) := by decide +kernel
theorem dL_law_414 : decode cL_law 414 = .ok (.aload_n 0, 1) := by decide +kernel
theorem dL_law_415 : decode cL_law 415 = .ok (.iload 4, 2) := by decide +kernel
theorem dL_law_417 : decode cL_law 417 = .ok (.iconst 2, 1) := by decide +kernel
theorem dL_law_418 : decode cL_law 418 = .ok (.iadd, 1) := by decide +kernel
theorem dL_law_419 : decode cL_law 419 = .ok (.iaload, 1) := by decide +kernel
theorem dL_law_420 : decode cL_law 420 = .ok (.aload_n 3, 1) := by decide +kernel
theorem dL_law_421 : decode cL_law 421 = .ok (.invokestatic 93, 3) := by decide +kernel
theorem dL_law_424 : decode cL_law 424 = .ok (.istore 5, 2) := by decide +kernel
theorem dL_law_426 : decode cL_law 426 = .ok (.aload_n 2, 1) := by decide +kernel
theorem dL_law_427 : decode cL_law 427 = .ok (.aload_n 0, 1) := by decide +kernel
theorem dL_law_428 : decode cL_law 428 = .ok (.iload 4, 2) := by decide +kernel
theorem dL_law_430 : decode cL_law 430 = .ok (.iconst 1, 1) := by decide +kernel
theorem dL_law_431 : decode cL_law 431 = .ok (.iadd, 1) := by decide +kernel
theorem dL_law_432 : decode cL_law 432 = .ok (.iaload, 1) := by decide +kernel
theorem dL_law_433 : decode cL_law 433 = .ok (.aload_n 0, 1) := by decide +kernel
theorem dL_law_434 : decode cL_law 434 = .ok (.iload 4, 2) := by decide +kernel
theorem dL_law_436 : decode cL_law 436 = .ok (.iconst 2, 1) := by decide +kernel
theorem dL_law_437 : decode cL_law 437 = .ok (.iadd, 1) := by decide +kernel
theorem dL_law_438 : decode cL_law 438 = .ok (.iaload, 1) := by decide +kernel
theorem dL_law_439 : decode cL_law 439 = .ok (.invokevirtual 95, 3) := by decide +kernel
theorem dL_law_442 : decode cL_law 442 = .ok (.istore 6, 2) := by decide +kernel
theorem dL_law_444 : decode cL_law 444 = .ok (.aload_n 2, 1) := by decide +kernel
theorem dL_law_445 : decode cL_law 445 = .ok (.invokevirtual 78, 3) := by decide +kernel
theorem dL_law_448 : decode cL_law 448 = .ok (.iload 5, 2) := by decide +kernel
theorem dL_law_450 : decode cL_law 450 = .ok (.if_icmp .eq 5, 3) := by decide +kernel
theorem dL_law_453 : decode cL_law 453 = .ok (.iconst 0, 1) := by decide +kernel
theorem dL_law_454 : decode cL_law 454 = .ok (.ireturn, 1) := by decide +kernel
theorem dL_law_455 : decode cL_law 455 = .ok (.iload 5, 2) := by decide +kernel
theorem dL_law_457 : decode cL_law 457 = .ok (.ifCond .ne 15, 3) := by decide +kernel
theorem dL_law_460 : decode cL_law 460 = .ok (.aload_n 3, 1) := by decide +kernel
theorem dL_law_461 : decode cL_law 461 = .ok (.iconst 0, 1) := by decide +kernel
theorem dL_law_462 : decode cL_law 462 = .ok (.laload, 1) := by decide +kernel
theorem dL_law_463 : decode cL_law 463 = .ok (.iload 6, 2) := by decide +kernel
theorem dL_law_465 : decode cL_law 465 = .ok (.i2l, 1) := by decide +kernel
theorem dL_law_466 : decode cL_law 466 = .ok (.lcmp, 1) := by decide +kernel
theorem dL_law_467 : decode cL_law 467 = .ok (.ifCond .eq 5, 3) := by decide +kernel
theorem dL_law_470 : decode cL_law 470 = .ok (.iconst 0, 1) := by decide +kernel
theorem dL_law_471 : decode cL_law 471 = .ok (.ireturn, 1) := by decide +kernel
theorem dL_law_472 : decode cL_law 472 = .ok (.goto 771, 3) := by decide +kernel
theorem dL_law_475 : decode cL_law 475 = .ok (.aload_n 1, 1) := by decide +kernel
theorem dL_law_476 : decode cL_law 476 = .ok (.aload_n 0, 1) := by decide +kernel
theorem dL_law_477 : decode cL_law 477 = .ok (.iload 4, 2) := by decide +kernel
theorem dL_law_479 : decode cL_law 479 = .ok (.iconst 1, 1) := by decide +kernel
theorem dL_law_480 : decode cL_law 480 = .ok (.iadd, 1) := by decide +kernel
theorem dL_law_481 : decode cL_law 481 = .ok (.iaload, 1) := by decide +kernel
theorem dL_law_482 : decode cL_law 482 = .ok (.aload_n 0, 1) := by decide +kernel
theorem dL_law_483 : decode cL_law 483 = .ok (.iload 4, 2) := by decide +kernel
theorem dL_law_485 : decode cL_law 485 = .ok (.iconst 2, 1) := by decide +kernel
theorem dL_law_486 : decode cL_law 486 = .ok (.iadd, 1) := by decide +kernel
theorem dL_law_487 : decode cL_law 487 = .ok (.iaload, 1) := by decide +kernel
theorem dL_law_488 : decode cL_law 488 = .ok (.aload_n 3, 1) := by decide +kernel
theorem dL_law_489 : decode cL_law 489 = .ok (.invokestatic 96, 3) := by decide +kernel
theorem dL_law_492 : decode cL_law 492 = .ok (.istore 5, 2) := by decide +kernel
theorem dL_law_494 : decode cL_law 494 = .ok (.aload_n 2, 1) := by decide +kernel
theorem dL_law_495 : decode cL_law 495 = .ok (.aload_n 0, 1) := by decide +kernel
theorem dL_law_496 : decode cL_law 496 = .ok (.iload 4, 2) := by decide +kernel
theorem dL_law_498 : decode cL_law 498 = .ok (.iconst 1, 1) := by decide +kernel
theorem dL_law_499 : decode cL_law 499 = .ok (.iadd, 1) := by decide +kernel
theorem dL_law_500 : decode cL_law 500 = .ok (.iaload, 1) := by decide +kernel
theorem dL_law_501 : decode cL_law 501 = .ok (.aload_n 0, 1) := by decide +kernel
theorem dL_law_502 : decode cL_law 502 = .ok (.iload 4, 2) := by decide +kernel
theorem dL_law_504 : decode cL_law 504 = .ok (.iconst 2, 1) := by decide +kernel
theorem dL_law_505 : decode cL_law 505 = .ok (.iadd, 1) := by decide +kernel
theorem dL_law_506 : decode cL_law 506 = .ok (.iaload, 1) := by decide +kernel
theorem dL_law_507 : decode cL_law 507 = .ok (.invokevirtual 98, 3) := by decide +kernel
theorem dL_law_510 : decode cL_law 510 = .ok (.istore 6, 2) := by decide +kernel
theorem dL_law_512 : decode cL_law 512 = .ok (.aload_n 2, 1) := by decide +kernel
theorem dL_law_513 : decode cL_law 513 = .ok (.invokevirtual 78, 3) := by decide +kernel
theorem dL_law_516 : decode cL_law 516 = .ok (.iload 5, 2) := by decide +kernel
theorem dL_law_518 : decode cL_law 518 = .ok (.if_icmp .eq 5, 3) := by decide +kernel
theorem dL_law_521 : decode cL_law 521 = .ok (.iconst 0, 1) := by decide +kernel
theorem dL_law_522 : decode cL_law 522 = .ok (.ireturn, 1) := by decide +kernel
theorem dL_law_523 : decode cL_law 523 = .ok (.iload 5, 2) := by decide +kernel
theorem dL_law_525 : decode cL_law 525 = .ok (.ifCond .ne 15, 3) := by decide +kernel
theorem dL_law_528 : decode cL_law 528 = .ok (.aload_n 3, 1) := by decide +kernel
theorem dL_law_529 : decode cL_law 529 = .ok (.iconst 0, 1) := by decide +kernel
theorem dL_law_530 : decode cL_law 530 = .ok (.laload, 1) := by decide +kernel
theorem dL_law_531 : decode cL_law 531 = .ok (.iload 6, 2) := by decide +kernel
theorem dL_law_533 : decode cL_law 533 = .ok (.i2l, 1) := by decide +kernel
theorem dL_law_534 : decode cL_law 534 = .ok (.lcmp, 1) := by decide +kernel
theorem dL_law_535 : decode cL_law 535 = .ok (.ifCond .eq 5, 3) := by decide +kernel
theorem dL_law_538 : decode cL_law 538 = .ok (.iconst 0, 1) := by decide +kernel
theorem dL_law_539 : decode cL_law 539 = .ok (.ireturn, 1) := by decide +kernel
theorem dL_law_540 : decode cL_law 540 = .ok (.goto 703, 3) := by decide +kernel
theorem dL_law_543 : decode cL_law 543 = .ok (.aload_n 1, 1) := by decide +kernel
theorem dL_law_544 : decode cL_law 544 = .ok (.aload_n 0, 1) := by decide +kernel
theorem dL_law_545 : decode cL_law 545 = .ok (.iload 4, 2) := by decide +kernel
theorem dL_law_547 : decode cL_law 547 = .ok (.iconst 1, 1) := by decide +kernel
theorem dL_law_548 : decode cL_law 548 = .ok (.iadd, 1) := by decide +kernel
theorem dL_law_549 : decode cL_law 549 = .ok (.iaload, 1) := by decide +kernel
theorem dL_law_550 : decode cL_law 550 = .ok (.aload_n 0, 1) := by decide +kernel
theorem dL_law_551 : decode cL_law 551 = .ok (.iload 4, 2) := by decide +kernel
theorem dL_law_553 : decode cL_law 553 = .ok (.iconst 2, 1) := by decide +kernel
theorem dL_law_554 : decode cL_law 554 = .ok (.iadd, 1) := by decide +kernel
theorem dL_law_555 : decode cL_law 555 = .ok (.iaload, 1) := by decide +kernel
theorem dL_law_556 : decode cL_law 556 = .ok (.aload_n 0, 1) := by decide +kernel
theorem dL_law_557 : decode cL_law 557 = .ok (.iload 4, 2) := by decide +kernel
theorem dL_law_559 : decode cL_law 559 = .ok (.iconst 3, 1) := by decide +kernel
theorem dL_law_560 : decode cL_law 560 = .ok (.iadd, 1) := by decide +kernel
theorem dL_law_561 : decode cL_law 561 = .ok (.iaload, 1) := by decide +kernel
theorem dL_law_562 : decode cL_law 562 = .ok (.aload_n 3, 1) := by decide +kernel
theorem dL_law_563 : decode cL_law 563 = .ok (.invokestatic 99, 3) := by decide +kernel
theorem dL_law_566 : decode cL_law 566 = .ok (.istore 5, 2) := by decide +kernel
theorem dL_law_568 : decode cL_law 568 = .ok (.aload_n 2, 1) := by decide +kernel
theorem dL_law_569 : decode cL_law 569 = .ok (.aload_n 0, 1) := by decide +kernel
theorem dL_law_570 : decode cL_law 570 = .ok (.iload 4, 2) := by decide +kernel
theorem dL_law_572 : decode cL_law 572 = .ok (.iconst 1, 1) := by decide +kernel
theorem dL_law_573 : decode cL_law 573 = .ok (.iadd, 1) := by decide +kernel
theorem dL_law_574 : decode cL_law 574 = .ok (.iaload, 1) := by decide +kernel
theorem dL_law_575 : decode cL_law 575 = .ok (.aload_n 0, 1) := by decide +kernel
theorem dL_law_576 : decode cL_law 576 = .ok (.iload 4, 2) := by decide +kernel
theorem dL_law_578 : decode cL_law 578 = .ok (.iconst 2, 1) := by decide +kernel
theorem dL_law_579 : decode cL_law 579 = .ok (.iadd, 1) := by decide +kernel
theorem dL_law_580 : decode cL_law 580 = .ok (.iaload, 1) := by decide +kernel
theorem dL_law_581 : decode cL_law 581 = .ok (.aload_n 0, 1) := by decide +kernel
theorem dL_law_582 : decode cL_law 582 = .ok (.iload 4, 2) := by decide +kernel
theorem dL_law_584 : decode cL_law 584 = .ok (.iconst 3, 1) := by decide +kernel
theorem dL_law_585 : decode cL_law 585 = .ok (.iadd, 1) := by decide +kernel
theorem dL_law_586 : decode cL_law 586 = .ok (.iaload, 1) := by decide +kernel
theorem dL_law_587 : decode cL_law 587 = .ok (.invokevirtual 102, 3) := by decide +kernel
theorem dL_law_590 : decode cL_law 590 = .ok (.istore 6, 2) := by decide +kernel
theorem dL_law_592 : decode cL_law 592 = .ok (.aload_n 2, 1) := by decide +kernel
theorem dL_law_593 : decode cL_law 593 = .ok (.invokevirtual 78, 3) := by decide +kernel
theorem dL_law_596 : decode cL_law 596 = .ok (.iload 5, 2) := by decide +kernel
theorem dL_law_598 : decode cL_law 598 = .ok (.if_icmp .eq 5, 3) := by decide +kernel
theorem dL_law_601 : decode cL_law 601 = .ok (.iconst 0, 1) := by decide +kernel
theorem dL_law_602 : decode cL_law 602 = .ok (.ireturn, 1) := by decide +kernel
theorem dL_law_603 : decode cL_law 603 = .ok (.iload 5, 2) := by decide +kernel
theorem dL_law_605 : decode cL_law 605 = .ok (.ifCond .ne 15, 3) := by decide +kernel
theorem dL_law_608 : decode cL_law 608 = .ok (.aload_n 3, 1) := by decide +kernel
theorem dL_law_609 : decode cL_law 609 = .ok (.iconst 0, 1) := by decide +kernel
theorem dL_law_610 : decode cL_law 610 = .ok (.laload, 1) := by decide +kernel
theorem dL_law_611 : decode cL_law 611 = .ok (.iload 6, 2) := by decide +kernel
theorem dL_law_613 : decode cL_law 613 = .ok (.i2l, 1) := by decide +kernel
theorem dL_law_614 : decode cL_law 614 = .ok (.lcmp, 1) := by decide +kernel
theorem dL_law_615 : decode cL_law 615 = .ok (.ifCond .eq 5, 3) := by decide +kernel
theorem dL_law_618 : decode cL_law 618 = .ok (.iconst 0, 1) := by decide +kernel
theorem dL_law_619 : decode cL_law 619 = .ok (.ireturn, 1) := by decide +kernel
theorem dL_law_620 : decode cL_law 620 = .ok (.goto 623, 3) := by decide +kernel
theorem dL_law_623 : decode cL_law 623 = .ok (.aload_n 1, 1) := by decide +kernel
theorem dL_law_624 : decode cL_law 624 = .ok (.aload_n 0, 1) := by decide +kernel
theorem dL_law_625 : decode cL_law 625 = .ok (.iload 4, 2) := by decide +kernel
theorem dL_law_627 : decode cL_law 627 = .ok (.iconst 1, 1) := by decide +kernel
theorem dL_law_628 : decode cL_law 628 = .ok (.iadd, 1) := by decide +kernel
theorem dL_law_629 : decode cL_law 629 = .ok (.iaload, 1) := by decide +kernel
theorem dL_law_630 : decode cL_law 630 = .ok (.aload_n 0, 1) := by decide +kernel
theorem dL_law_631 : decode cL_law 631 = .ok (.iload 4, 2) := by decide +kernel
theorem dL_law_633 : decode cL_law 633 = .ok (.iconst 2, 1) := by decide +kernel
theorem dL_law_634 : decode cL_law 634 = .ok (.iadd, 1) := by decide +kernel
theorem dL_law_635 : decode cL_law 635 = .ok (.iaload, 1) := by decide +kernel
theorem dL_law_636 : decode cL_law 636 = .ok (.aload_n 3, 1) := by decide +kernel
theorem dL_law_637 : decode cL_law 637 = .ok (.invokestatic 103, 3) := by decide +kernel
theorem dL_law_640 : decode cL_law 640 = .ok (.istore 5, 2) := by decide +kernel
theorem dL_law_642 : decode cL_law 642 = .ok (.aload_n 2, 1) := by decide +kernel
theorem dL_law_643 : decode cL_law 643 = .ok (.aload_n 0, 1) := by decide +kernel
theorem dL_law_644 : decode cL_law 644 = .ok (.iload 4, 2) := by decide +kernel
theorem dL_law_646 : decode cL_law 646 = .ok (.iconst 1, 1) := by decide +kernel
theorem dL_law_647 : decode cL_law 647 = .ok (.iadd, 1) := by decide +kernel
theorem dL_law_648 : decode cL_law 648 = .ok (.iaload, 1) := by decide +kernel
theorem dL_law_649 : decode cL_law 649 = .ok (.aload_n 0, 1) := by decide +kernel
theorem dL_law_650 : decode cL_law 650 = .ok (.iload 4, 2) := by decide +kernel
theorem dL_law_652 : decode cL_law 652 = .ok (.iconst 2, 1) := by decide +kernel
theorem dL_law_653 : decode cL_law 653 = .ok (.iadd, 1) := by decide +kernel
theorem dL_law_654 : decode cL_law 654 = .ok (.iaload, 1) := by decide +kernel
theorem dL_law_655 : decode cL_law 655 = .ok (.invokevirtual 105, 3) := by decide +kernel
theorem dL_law_658 : decode cL_law 658 = .ok (.istore 6, 2) := by decide +kernel
theorem dL_law_660 : decode cL_law 660 = .ok (.aload_n 2, 1) := by decide +kernel
theorem dL_law_661 : decode cL_law 661 = .ok (.invokevirtual 78, 3) := by decide +kernel
theorem dL_law_664 : decode cL_law 664 = .ok (.iload 5, 2) := by decide +kernel
theorem dL_law_666 : decode cL_law 666 = .ok (.if_icmp .eq 5, 3) := by decide +kernel
theorem dL_law_669 : decode cL_law 669 = .ok (.iconst 0, 1) := by decide +kernel
theorem dL_law_670 : decode cL_law 670 = .ok (.ireturn, 1) := by decide +kernel
theorem dL_law_671 : decode cL_law 671 = .ok (.iload 5, 2) := by decide +kernel
theorem dL_law_673 : decode cL_law 673 = .ok (.ifCond .ne 15, 3) := by decide +kernel
theorem dL_law_676 : decode cL_law 676 = .ok (.aload_n 3, 1) := by decide +kernel
theorem dL_law_677 : decode cL_law 677 = .ok (.iconst 0, 1) := by decide +kernel
theorem dL_law_678 : decode cL_law 678 = .ok (.laload, 1) := by decide +kernel
theorem dL_law_679 : decode cL_law 679 = .ok (.iload 6, 2) := by decide +kernel
theorem dL_law_681 : decode cL_law 681 = .ok (.i2l, 1) := by decide +kernel
theorem dL_law_682 : decode cL_law 682 = .ok (.lcmp, 1) := by decide +kernel
theorem dL_law_683 : decode cL_law 683 = .ok (.ifCond .eq 5, 3) := by decide +kernel
theorem dL_law_686 : decode cL_law 686 = .ok (.iconst 0, 1) := by decide +kernel
theorem dL_law_687 : decode cL_law 687 = .ok (.ireturn, 1) := by decide +kernel
theorem dL_law_688 : decode cL_law 688 = .ok (.goto 555, 3) := by decide +kernel
theorem dL_law_691 : decode cL_law 691 = .ok (.aload_n 1, 1) := by decide +kernel
theorem dL_law_692 : decode cL_law 692 = .ok (.aload_n 0, 1) := by decide +kernel
theorem dL_law_693 : decode cL_law 693 = .ok (.iload 4, 2) := by decide +kernel
theorem dL_law_695 : decode cL_law 695 = .ok (.iconst 1, 1) := by decide +kernel
theorem dL_law_696 : decode cL_law 696 = .ok (.iadd, 1) := by decide +kernel
theorem dL_law_697 : decode cL_law 697 = .ok (.iaload, 1) := by decide +kernel
theorem dL_law_698 : decode cL_law 698 = .ok (.aload_n 3, 1) := by decide +kernel
theorem dL_law_699 : decode cL_law 699 = .ok (.invokestatic 106, 3) := by decide +kernel
theorem dL_law_702 : decode cL_law 702 = .ok (.istore 5, 2) := by decide +kernel
theorem dL_law_704 : decode cL_law 704 = .ok (.aload_n 2, 1) := by decide +kernel
theorem dL_law_705 : decode cL_law 705 = .ok (.aload_n 0, 1) := by decide +kernel
theorem dL_law_706 : decode cL_law 706 = .ok (.iload 4, 2) := by decide +kernel
theorem dL_law_708 : decode cL_law 708 = .ok (.iconst 1, 1) := by decide +kernel
theorem dL_law_709 : decode cL_law 709 = .ok (.iadd, 1) := by decide +kernel
theorem dL_law_710 : decode cL_law 710 = .ok (.iaload, 1) := by decide +kernel
theorem dL_law_711 : decode cL_law 711 = .ok (.invokevirtual 108, 3) := by decide +kernel
theorem dL_law_714 : decode cL_law 714 = .ok (.istore 6, 2) := by decide +kernel
theorem dL_law_716 : decode cL_law 716 = .ok (.aload_n 2, 1) := by decide +kernel
theorem dL_law_717 : decode cL_law 717 = .ok (.invokevirtual 78, 3) := by decide +kernel
theorem dL_law_720 : decode cL_law 720 = .ok (.iload 5, 2) := by decide +kernel
theorem dL_law_722 : decode cL_law 722 = .ok (.if_icmp .eq 5, 3) := by decide +kernel
theorem dL_law_725 : decode cL_law 725 = .ok (.iconst 0, 1) := by decide +kernel
theorem dL_law_726 : decode cL_law 726 = .ok (.ireturn, 1) := by decide +kernel
theorem dL_law_727 : decode cL_law 727 = .ok (.iload 5, 2) := by decide +kernel
theorem dL_law_729 : decode cL_law 729 = .ok (.ifCond .ne 15, 3) := by decide +kernel
theorem dL_law_732 : decode cL_law 732 = .ok (.aload_n 3, 1) := by decide +kernel
theorem dL_law_733 : decode cL_law 733 = .ok (.iconst 0, 1) := by decide +kernel
theorem dL_law_734 : decode cL_law 734 = .ok (.laload, 1) := by decide +kernel
theorem dL_law_735 : decode cL_law 735 = .ok (.iload 6, 2) := by decide +kernel
theorem dL_law_737 : decode cL_law 737 = .ok (.i2l, 1) := by decide +kernel
theorem dL_law_738 : decode cL_law 738 = .ok (.lcmp, 1) := by decide +kernel
theorem dL_law_739 : decode cL_law 739 = .ok (.ifCond .eq 5, 3) := by decide +kernel
theorem dL_law_742 : decode cL_law 742 = .ok (.iconst 0, 1) := by decide +kernel
theorem dL_law_743 : decode cL_law 743 = .ok (.ireturn, 1) := by decide +kernel
theorem dL_law_744 : decode cL_law 744 = .ok (.goto 499, 3) := by decide +kernel
theorem dL_law_747 : decode cL_law 747 = .ok (.aload_n 1, 1) := by decide +kernel
theorem dL_law_748 : decode cL_law 748 = .ok (.invokevirtual 109, 3) := by decide +kernel
theorem dL_law_751 : decode cL_law 751 = .ok (.aload_n 2, 1) := by decide +kernel
theorem dL_law_752 : decode cL_law 752 = .ok (.invokevirtual 112, 3) := by decide +kernel
theorem dL_law_755 : decode cL_law 755 = .ok (.if_icmp .eq 488, 3) := by decide +kernel
theorem dL_law_758 : decode cL_law 758 = .ok (.iconst 0, 1) := by decide +kernel
theorem dL_law_759 : decode cL_law 759 = .ok (.ireturn, 1) := by decide +kernel
theorem dL_law_760 : decode cL_law 760 = .ok (.aload_n 1, 1) := by decide +kernel
theorem dL_law_761 : decode cL_law 761 = .ok (.aload_n 0, 1) := by decide +kernel
theorem dL_law_762 : decode cL_law 762 = .ok (.iload 4, 2) := by decide +kernel
theorem dL_law_764 : decode cL_law 764 = .ok (.iconst 1, 1) := by decide +kernel
theorem dL_law_765 : decode cL_law 765 = .ok (.iadd, 1) := by decide +kernel
theorem dL_law_766 : decode cL_law 766 = .ok (.iaload, 1) := by decide +kernel
theorem dL_law_767 : decode cL_law 767 = .ok (.aload_n 0, 1) := by decide +kernel
theorem dL_law_768 : decode cL_law 768 = .ok (.iload 4, 2) := by decide +kernel
theorem dL_law_770 : decode cL_law 770 = .ok (.iconst 2, 1) := by decide +kernel
theorem dL_law_771 : decode cL_law 771 = .ok (.iadd, 1) := by decide +kernel
theorem dL_law_772 : decode cL_law 772 = .ok (.iaload, 1) := by decide +kernel
theorem dL_law_773 : decode cL_law 773 = .ok (.aload_n 3, 1) := by decide +kernel
theorem dL_law_774 : decode cL_law 774 = .ok (.invokestatic 113, 3) := by decide +kernel
theorem dL_law_777 : decode cL_law 777 = .ok (.istore 5, 2) := by decide +kernel
theorem dL_law_779 : decode cL_law 779 = .ok (.aload_n 2, 1) := by decide +kernel
theorem dL_law_780 : decode cL_law 780 = .ok (.aload_n 0, 1) := by decide +kernel
theorem dL_law_781 : decode cL_law 781 = .ok (.iload 4, 2) := by decide +kernel
theorem dL_law_783 : decode cL_law 783 = .ok (.iconst 1, 1) := by decide +kernel
theorem dL_law_784 : decode cL_law 784 = .ok (.iadd, 1) := by decide +kernel
theorem dL_law_785 : decode cL_law 785 = .ok (.iaload, 1) := by decide +kernel
theorem dL_law_786 : decode cL_law 786 = .ok (.aload_n 0, 1) := by decide +kernel
theorem dL_law_787 : decode cL_law 787 = .ok (.iload 4, 2) := by decide +kernel
theorem dL_law_789 : decode cL_law 789 = .ok (.iconst 2, 1) := by decide +kernel
theorem dL_law_790 : decode cL_law 790 = .ok (.iadd, 1) := by decide +kernel
theorem dL_law_791 : decode cL_law 791 = .ok (.iaload, 1) := by decide +kernel
theorem dL_law_792 : decode cL_law 792 = .ok (.invokevirtual 115, 3) := by decide +kernel
theorem dL_law_795 : decode cL_law 795 = .ok (.istore 6, 2) := by decide +kernel
theorem dL_law_797 : decode cL_law 797 = .ok (.aload_n 2, 1) := by decide +kernel
theorem dL_law_798 : decode cL_law 798 = .ok (.invokevirtual 78, 3) := by decide +kernel
theorem dL_law_801 : decode cL_law 801 = .ok (.iload 5, 2) := by decide +kernel
theorem dL_law_803 : decode cL_law 803 = .ok (.if_icmp .eq 5, 3) := by decide +kernel
theorem dL_law_806 : decode cL_law 806 = .ok (.iconst 0, 1) := by decide +kernel
theorem dL_law_807 : decode cL_law 807 = .ok (.ireturn, 1) := by decide +kernel
theorem dL_law_808 : decode cL_law 808 = .ok (.iload 5, 2) := by decide +kernel
theorem dL_law_810 : decode cL_law 810 = .ok (.ifCond .ne 15, 3) := by decide +kernel
theorem dL_law_813 : decode cL_law 813 = .ok (.aload_n 3, 1) := by decide +kernel
theorem dL_law_814 : decode cL_law 814 = .ok (.iconst 0, 1) := by decide +kernel
theorem dL_law_815 : decode cL_law 815 = .ok (.laload, 1) := by decide +kernel
theorem dL_law_816 : decode cL_law 816 = .ok (.iload 6, 2) := by decide +kernel
theorem dL_law_818 : decode cL_law 818 = .ok (.i2l, 1) := by decide +kernel
theorem dL_law_819 : decode cL_law 819 = .ok (.lcmp, 1) := by decide +kernel
theorem dL_law_820 : decode cL_law 820 = .ok (.ifCond .eq 5, 3) := by decide +kernel
theorem dL_law_823 : decode cL_law 823 = .ok (.iconst 0, 1) := by decide +kernel
theorem dL_law_824 : decode cL_law 824 = .ok (.ireturn, 1) := by decide +kernel
theorem dL_law_825 : decode cL_law 825 = .ok (.goto 418, 3) := by decide +kernel
theorem dL_law_828 : decode cL_law 828 = .ok (.aload_n 1, 1) := by decide +kernel
theorem dL_law_829 : decode cL_law 829 = .ok (.aload_n 0, 1) := by decide +kernel
theorem dL_law_830 : decode cL_law 830 = .ok (.iload 4, 2) := by decide +kernel
theorem dL_law_832 : decode cL_law 832 = .ok (.iconst 1, 1) := by decide +kernel
theorem dL_law_833 : decode cL_law 833 = .ok (.iadd, 1) := by decide +kernel
theorem dL_law_834 : decode cL_law 834 = .ok (.iaload, 1) := by decide +kernel
theorem dL_law_835 : decode cL_law 835 = .ok (.aload_n 3, 1) := by decide +kernel
theorem dL_law_836 : decode cL_law 836 = .ok (.invokestatic 116, 3) := by decide +kernel
theorem dL_law_839 : decode cL_law 839 = .ok (.istore 5, 2) := by decide +kernel
theorem dL_law_841 : decode cL_law 841 = .ok (.aload_n 2, 1) := by decide +kernel
theorem dL_law_842 : decode cL_law 842 = .ok (.aload_n 0, 1) := by decide +kernel
theorem dL_law_843 : decode cL_law 843 = .ok (.iload 4, 2) := by decide +kernel
theorem dL_law_845 : decode cL_law 845 = .ok (.iconst 1, 1) := by decide +kernel
theorem dL_law_846 : decode cL_law 846 = .ok (.iadd, 1) := by decide +kernel
theorem dL_law_847 : decode cL_law 847 = .ok (.iaload, 1) := by decide +kernel
theorem dL_law_848 : decode cL_law 848 = .ok (.invokevirtual 118, 3) := by decide +kernel
theorem dL_law_851 : decode cL_law 851 = .ok (.istore 6, 2) := by decide +kernel
theorem dL_law_853 : decode cL_law 853 = .ok (.aload_n 2, 1) := by decide +kernel
theorem dL_law_854 : decode cL_law 854 = .ok (.invokevirtual 78, 3) := by decide +kernel
theorem dL_law_857 : decode cL_law 857 = .ok (.iload 5, 2) := by decide +kernel
theorem dL_law_859 : decode cL_law 859 = .ok (.if_icmp .eq 5, 3) := by decide +kernel
theorem dL_law_862 : decode cL_law 862 = .ok (.iconst 0, 1) := by decide +kernel
theorem dL_law_863 : decode cL_law 863 = .ok (.ireturn, 1) := by decide +kernel
theorem dL_law_864 : decode cL_law 864 = .ok (.iload 5, 2) := by decide +kernel
theorem dL_law_866 : decode cL_law 866 = .ok (.ifCond .ne 15, 3) := by decide +kernel
theorem dL_law_869 : decode cL_law 869 = .ok (.aload_n 3, 1) := by decide +kernel
theorem dL_law_870 : decode cL_law 870 = .ok (.iconst 0, 1) := by decide +kernel
theorem dL_law_871 : decode cL_law 871 = .ok (.laload, 1) := by decide +kernel
theorem dL_law_872 : decode cL_law 872 = .ok (.iload 6, 2) := by decide +kernel
theorem dL_law_874 : decode cL_law 874 = .ok (.i2l, 1) := by decide +kernel
theorem dL_law_875 : decode cL_law 875 = .ok (.lcmp, 1) := by decide +kernel
theorem dL_law_876 : decode cL_law 876 = .ok (.ifCond .eq 5, 3) := by decide +kernel
theorem dL_law_879 : decode cL_law 879 = .ok (.iconst 0, 1) := by decide +kernel
theorem dL_law_880 : decode cL_law 880 = .ok (.ireturn, 1) := by decide +kernel
theorem dL_law_881 : decode cL_law 881 = .ok (.goto 362, 3) := by decide +kernel
theorem dL_law_884 : decode cL_law 884 = .ok (.aload_n 1, 1) := by decide +kernel
theorem dL_law_885 : decode cL_law 885 = .ok (.aload_n 0, 1) := by decide +kernel
theorem dL_law_886 : decode cL_law 886 = .ok (.iload 4, 2) := by decide +kernel
theorem dL_law_888 : decode cL_law 888 = .ok (.iconst 1, 1) := by decide +kernel
theorem dL_law_889 : decode cL_law 889 = .ok (.iadd, 1) := by decide +kernel
theorem dL_law_890 : decode cL_law 890 = .ok (.iaload, 1) := by decide +kernel
theorem dL_law_891 : decode cL_law 891 = .ok (.aload_n 3, 1) := by decide +kernel
theorem dL_law_892 : decode cL_law 892 = .ok (.invokestatic 119, 3) := by decide +kernel
theorem dL_law_895 : decode cL_law 895 = .ok (.istore 5, 2) := by decide +kernel
theorem dL_law_897 : decode cL_law 897 = .ok (.aload_n 2, 1) := by decide +kernel
theorem dL_law_898 : decode cL_law 898 = .ok (.aload_n 0, 1) := by decide +kernel
theorem dL_law_899 : decode cL_law 899 = .ok (.iload 4, 2) := by decide +kernel
theorem dL_law_901 : decode cL_law 901 = .ok (.iconst 1, 1) := by decide +kernel
theorem dL_law_902 : decode cL_law 902 = .ok (.iadd, 1) := by decide +kernel
theorem dL_law_903 : decode cL_law 903 = .ok (.iaload, 1) := by decide +kernel
theorem dL_law_904 : decode cL_law 904 = .ok (.invokevirtual 121, 3) := by decide +kernel
theorem dL_law_907 : decode cL_law 907 = .ok (.istore 6, 2) := by decide +kernel
theorem dL_law_909 : decode cL_law 909 = .ok (.aload_n 2, 1) := by decide +kernel
theorem dL_law_910 : decode cL_law 910 = .ok (.invokevirtual 78, 3) := by decide +kernel
theorem dL_law_913 : decode cL_law 913 = .ok (.iload 5, 2) := by decide +kernel
theorem dL_law_915 : decode cL_law 915 = .ok (.if_icmp .eq 5, 3) := by decide +kernel
theorem dL_law_918 : decode cL_law 918 = .ok (.iconst 0, 1) := by decide +kernel
theorem dL_law_919 : decode cL_law 919 = .ok (.ireturn, 1) := by decide +kernel
theorem dL_law_920 : decode cL_law 920 = .ok (.iload 5, 2) := by decide +kernel
theorem dL_law_922 : decode cL_law 922 = .ok (.ifCond .ne 15, 3) := by decide +kernel
theorem dL_law_925 : decode cL_law 925 = .ok (.aload_n 3, 1) := by decide +kernel
theorem dL_law_926 : decode cL_law 926 = .ok (.iconst 0, 1) := by decide +kernel
theorem dL_law_927 : decode cL_law 927 = .ok (.laload, 1) := by decide +kernel
theorem dL_law_928 : decode cL_law 928 = .ok (.iload 6, 2) := by decide +kernel
theorem dL_law_930 : decode cL_law 930 = .ok (.i2l, 1) := by decide +kernel
theorem dL_law_931 : decode cL_law 931 = .ok (.lcmp, 1) := by decide +kernel
theorem dL_law_932 : decode cL_law 932 = .ok (.ifCond .eq 5, 3) := by decide +kernel
theorem dL_law_935 : decode cL_law 935 = .ok (.iconst 0, 1) := by decide +kernel
theorem dL_law_936 : decode cL_law 936 = .ok (.ireturn, 1) := by decide +kernel
theorem dL_law_937 : decode cL_law 937 = .ok (.goto 306, 3) := by decide +kernel
theorem dL_law_940 : decode cL_law 940 = .ok (.aload_n 1, 1) := by decide +kernel
theorem dL_law_941 : decode cL_law 941 = .ok (.aload_n 0, 1) := by decide +kernel
theorem dL_law_942 : decode cL_law 942 = .ok (.iload 4, 2) := by decide +kernel
theorem dL_law_944 : decode cL_law 944 = .ok (.iconst 1, 1) := by decide +kernel
theorem dL_law_945 : decode cL_law 945 = .ok (.iadd, 1) := by decide +kernel
theorem dL_law_946 : decode cL_law 946 = .ok (.iaload, 1) := by decide +kernel
theorem dL_law_947 : decode cL_law 947 = .ok (.aload_n 0, 1) := by decide +kernel
theorem dL_law_948 : decode cL_law 948 = .ok (.iload 4, 2) := by decide +kernel
theorem dL_law_950 : decode cL_law 950 = .ok (.iconst 2, 1) := by decide +kernel
theorem dL_law_951 : decode cL_law 951 = .ok (.iadd, 1) := by decide +kernel
theorem dL_law_952 : decode cL_law 952 = .ok (.iaload, 1) := by decide +kernel
theorem dL_law_953 : decode cL_law 953 = .ok (.aload_n 3, 1) := by decide +kernel
theorem dL_law_954 : decode cL_law 954 = .ok (.invokestatic 122, 3) := by decide +kernel
theorem dL_law_957 : decode cL_law 957 = .ok (.istore 5, 2) := by decide +kernel
theorem dL_law_959 : decode cL_law 959 = .ok (.aload_n 2, 1) := by decide +kernel
theorem dL_law_960 : decode cL_law 960 = .ok (.aload_n 0, 1) := by decide +kernel
theorem dL_law_961 : decode cL_law 961 = .ok (.iload 4, 2) := by decide +kernel
theorem dL_law_963 : decode cL_law 963 = .ok (.iconst 1, 1) := by decide +kernel
theorem dL_law_964 : decode cL_law 964 = .ok (.iadd, 1) := by decide +kernel
theorem dL_law_965 : decode cL_law 965 = .ok (.iaload, 1) := by decide +kernel
theorem dL_law_966 : decode cL_law 966 = .ok (.aload_n 0, 1) := by decide +kernel
theorem dL_law_967 : decode cL_law 967 = .ok (.iload 4, 2) := by decide +kernel
theorem dL_law_969 : decode cL_law 969 = .ok (.iconst 2, 1) := by decide +kernel
theorem dL_law_970 : decode cL_law 970 = .ok (.iadd, 1) := by decide +kernel
theorem dL_law_971 : decode cL_law 971 = .ok (.iaload, 1) := by decide +kernel
theorem dL_law_972 : decode cL_law 972 = .ok (.invokevirtual 124, 3) := by decide +kernel
theorem dL_law_975 : decode cL_law 975 = .ok (.istore 6, 2) := by decide +kernel
theorem dL_law_977 : decode cL_law 977 = .ok (.aload_n 2, 1) := by decide +kernel
theorem dL_law_978 : decode cL_law 978 = .ok (.invokevirtual 78, 3) := by decide +kernel
theorem dL_law_981 : decode cL_law 981 = .ok (.iload 5, 2) := by decide +kernel
theorem dL_law_983 : decode cL_law 983 = .ok (.if_icmp .eq 5, 3) := by decide +kernel
theorem dL_law_986 : decode cL_law 986 = .ok (.iconst 0, 1) := by decide +kernel
theorem dL_law_987 : decode cL_law 987 = .ok (.ireturn, 1) := by decide +kernel
theorem dL_law_988 : decode cL_law 988 = .ok (.iload 5, 2) := by decide +kernel
theorem dL_law_990 : decode cL_law 990 = .ok (.ifCond .ne 15, 3) := by decide +kernel
theorem dL_law_993 : decode cL_law 993 = .ok (.aload_n 3, 1) := by decide +kernel
theorem dL_law_994 : decode cL_law 994 = .ok (.iconst 0, 1) := by decide +kernel
theorem dL_law_995 : decode cL_law 995 = .ok (.laload, 1) := by decide +kernel
theorem dL_law_996 : decode cL_law 996 = .ok (.iload 6, 2) := by decide +kernel
theorem dL_law_998 : decode cL_law 998 = .ok (.i2l, 1) := by decide +kernel
theorem dL_law_999 : decode cL_law 999 = .ok (.lcmp, 1) := by decide +kernel
theorem dL_law_1000 : decode cL_law 1000 = .ok (.ifCond .eq 5, 3) := by decide +kernel
theorem dL_law_1003 : decode cL_law 1003 = .ok (.iconst 0, 1) := by decide +kernel
theorem dL_law_1004 : decode cL_law 1004 = .ok (.ireturn, 1) := by decide +kernel
theorem dL_law_1005 : decode cL_law 1005 = .ok (.goto 238, 3) := by decide +kernel
theorem dL_law_1008 : decode cL_law 1008 = .ok (.aload_n 1, 1) := by decide +kernel
theorem dL_law_1009 : decode cL_law 1009 = .ok (.aload_n 0, 1) := by decide +kernel
theorem dL_law_1010 : decode cL_law 1010 = .ok (.iload 4, 2) := by decide +kernel
theorem dL_law_1012 : decode cL_law 1012 = .ok (.iconst 1, 1) := by decide +kernel
theorem dL_law_1013 : decode cL_law 1013 = .ok (.iadd, 1) := by decide +kernel
theorem dL_law_1014 : decode cL_law 1014 = .ok (.iaload, 1) := by decide +kernel
theorem dL_law_1015 : decode cL_law 1015 = .ok (.aload_n 0, 1) := by decide +kernel
theorem dL_law_1016 : decode cL_law 1016 = .ok (.iload 4, 2) := by decide +kernel
theorem dL_law_1018 : decode cL_law 1018 = .ok (.iconst 2, 1) := by decide +kernel
theorem dL_law_1019 : decode cL_law 1019 = .ok (.iadd, 1) := by decide +kernel
theorem dL_law_1020 : decode cL_law 1020 = .ok (.iaload, 1) := by decide +kernel
theorem dL_law_1021 : decode cL_law 1021 = .ok (.aload_n 3, 1) := by decide +kernel
theorem dL_law_1022 : decode cL_law 1022 = .ok (.invokestatic 125, 3) := by decide +kernel
theorem dL_law_1025 : decode cL_law 1025 = .ok (.istore 5, 2) := by decide +kernel
theorem dL_law_1027 : decode cL_law 1027 = .ok (.aload_n 2, 1) := by decide +kernel
theorem dL_law_1028 : decode cL_law 1028 = .ok (.aload_n 0, 1) := by decide +kernel
theorem dL_law_1029 : decode cL_law 1029 = .ok (.iload 4, 2) := by decide +kernel
theorem dL_law_1031 : decode cL_law 1031 = .ok (.iconst 1, 1) := by decide +kernel
theorem dL_law_1032 : decode cL_law 1032 = .ok (.iadd, 1) := by decide +kernel
theorem dL_law_1033 : decode cL_law 1033 = .ok (.iaload, 1) := by decide +kernel
theorem dL_law_1034 : decode cL_law 1034 = .ok (.aload_n 0, 1) := by decide +kernel
theorem dL_law_1035 : decode cL_law 1035 = .ok (.iload 4, 2) := by decide +kernel
theorem dL_law_1037 : decode cL_law 1037 = .ok (.iconst 2, 1) := by decide +kernel
theorem dL_law_1038 : decode cL_law 1038 = .ok (.iadd, 1) := by decide +kernel
theorem dL_law_1039 : decode cL_law 1039 = .ok (.iaload, 1) := by decide +kernel
theorem dL_law_1040 : decode cL_law 1040 = .ok (.invokevirtual 127, 3) := by decide +kernel
theorem dL_law_1043 : decode cL_law 1043 = .ok (.istore 6, 2) := by decide +kernel
theorem dL_law_1045 : decode cL_law 1045 = .ok (.aload_n 2, 1) := by decide +kernel
theorem dL_law_1046 : decode cL_law 1046 = .ok (.invokevirtual 78, 3) := by decide +kernel
theorem dL_law_1049 : decode cL_law 1049 = .ok (.iload 5, 2) := by decide +kernel
theorem dL_law_1051 : decode cL_law 1051 = .ok (.if_icmp .eq 5, 3) := by decide +kernel
theorem dL_law_1054 : decode cL_law 1054 = .ok (.iconst 0, 1) := by decide +kernel
theorem dL_law_1055 : decode cL_law 1055 = .ok (.ireturn, 1) := by decide +kernel
theorem dL_law_1056 : decode cL_law 1056 = .ok (.iload 5, 2) := by decide +kernel
theorem dL_law_1058 : decode cL_law 1058 = .ok (.ifCond .ne 15, 3) := by decide +kernel
theorem dL_law_1061 : decode cL_law 1061 = .ok (.aload_n 3, 1) := by decide +kernel
theorem dL_law_1062 : decode cL_law 1062 = .ok (.iconst 0, 1) := by decide +kernel
theorem dL_law_1063 : decode cL_law 1063 = .ok (.laload, 1) := by decide +kernel
theorem dL_law_1064 : decode cL_law 1064 = .ok (.iload 6, 2) := by decide +kernel
theorem dL_law_1066 : decode cL_law 1066 = .ok (.i2l, 1) := by decide +kernel
theorem dL_law_1067 : decode cL_law 1067 = .ok (.lcmp, 1) := by decide +kernel
theorem dL_law_1068 : decode cL_law 1068 = .ok (.ifCond .eq 5, 3) := by decide +kernel
theorem dL_law_1071 : decode cL_law 1071 = .ok (.iconst 0, 1) := by decide +kernel
theorem dL_law_1072 : decode cL_law 1072 = .ok (.ireturn, 1) := by decide +kernel
theorem dL_law_1073 : decode cL_law 1073 = .ok (.goto 170, 3) := by decide +kernel
theorem dL_law_1076 : decode cL_law 1076 = .ok (.aload_n 1, 1) := by decide +kernel
theorem dL_law_1077 : decode cL_law 1077 = .ok (.aload_n 0, 1) := by decide +kernel
theorem dL_law_1078 : decode cL_law 1078 = .ok (.iload 4, 2) := by decide +kernel
theorem dL_law_1080 : decode cL_law 1080 = .ok (.iconst 1, 1) := by decide +kernel
theorem dL_law_1081 : decode cL_law 1081 = .ok (.iadd, 1) := by decide +kernel
theorem dL_law_1082 : decode cL_law 1082 = .ok (.iaload, 1) := by decide +kernel
theorem dL_law_1083 : decode cL_law 1083 = .ok (.aload_n 3, 1) := by decide +kernel
theorem dL_law_1084 : decode cL_law 1084 = .ok (.invokestatic 128, 3) := by decide +kernel
theorem dL_law_1087 : decode cL_law 1087 = .ok (.istore 5, 2) := by decide +kernel
theorem dL_law_1089 : decode cL_law 1089 = .ok (.aload_n 2, 1) := by decide +kernel
theorem dL_law_1090 : decode cL_law 1090 = .ok (.aload_n 0, 1) := by decide +kernel
theorem dL_law_1091 : decode cL_law 1091 = .ok (.iload 4, 2) := by decide +kernel
theorem dL_law_1093 : decode cL_law 1093 = .ok (.iconst 1, 1) := by decide +kernel
theorem dL_law_1094 : decode cL_law 1094 = .ok (.iadd, 1) := by decide +kernel
theorem dL_law_1095 : decode cL_law 1095 = .ok (.iaload, 1) := by decide +kernel
theorem dL_law_1096 : decode cL_law 1096 = .ok (.invokevirtual 130, 3) := by decide +kernel
theorem dL_law_1099 : decode cL_law 1099 = .ok (.istore 6, 2) := by decide +kernel
theorem dL_law_1101 : decode cL_law 1101 = .ok (.aload_n 2, 1) := by decide +kernel
theorem dL_law_1102 : decode cL_law 1102 = .ok (.invokevirtual 78, 3) := by decide +kernel
theorem dL_law_1105 : decode cL_law 1105 = .ok (.iload 5, 2) := by decide +kernel
theorem dL_law_1107 : decode cL_law 1107 = .ok (.if_icmp .eq 5, 3) := by decide +kernel
theorem dL_law_1110 : decode cL_law 1110 = .ok (.iconst 0, 1) := by decide +kernel
theorem dL_law_1111 : decode cL_law 1111 = .ok (.ireturn, 1) := by decide +kernel
theorem dL_law_1112 : decode cL_law 1112 = .ok (.iload 5, 2) := by decide +kernel
theorem dL_law_1114 : decode cL_law 1114 = .ok (.ifCond .ne 15, 3) := by decide +kernel
theorem dL_law_1117 : decode cL_law 1117 = .ok (.aload_n 3, 1) := by decide +kernel
theorem dL_law_1118 : decode cL_law 1118 = .ok (.iconst 0, 1) := by decide +kernel
theorem dL_law_1119 : decode cL_law 1119 = .ok (.laload, 1) := by decide +kernel
theorem dL_law_1120 : decode cL_law 1120 = .ok (.iload 6, 2) := by decide +kernel
theorem dL_law_1122 : decode cL_law 1122 = .ok (.i2l, 1) := by decide +kernel
theorem dL_law_1123 : decode cL_law 1123 = .ok (.lcmp, 1) := by decide +kernel
theorem dL_law_1124 : decode cL_law 1124 = .ok (.ifCond .eq 5, 3) := by decide +kernel
theorem dL_law_1127 : decode cL_law 1127 = .ok (.iconst 0, 1) := by decide +kernel
theorem dL_law_1128 : decode cL_law 1128 = .ok (.ireturn, 1) := by decide +kernel
theorem dL_law_1129 : decode cL_law 1129 = .ok (.goto 114, 3) := by decide +kernel
theorem dL_law_1132 : decode cL_law 1132 = .ok (.aload_n 1, 1) := by decide +kernel
theorem dL_law_1133 : decode cL_law 1133 = .ok (.aload_n 0, 1) := by decide +kernel
theorem dL_law_1134 : decode cL_law 1134 = .ok (.iload 4, 2) := by decide +kernel
theorem dL_law_1136 : decode cL_law 1136 = .ok (.iconst 1, 1) := by decide +kernel
theorem dL_law_1137 : decode cL_law 1137 = .ok (.iadd, 1) := by decide +kernel
theorem dL_law_1138 : decode cL_law 1138 = .ok (.iaload, 1) := by decide +kernel
theorem dL_law_1139 : decode cL_law 1139 = .ok (.aload_n 3, 1) := by decide +kernel
theorem dL_law_1140 : decode cL_law 1140 = .ok (.invokestatic 131, 3) := by decide +kernel
theorem dL_law_1143 : decode cL_law 1143 = .ok (.istore 5, 2) := by decide +kernel
theorem dL_law_1145 : decode cL_law 1145 = .ok (.aload_n 2, 1) := by decide +kernel
theorem dL_law_1146 : decode cL_law 1146 = .ok (.aload_n 0, 1) := by decide +kernel
theorem dL_law_1147 : decode cL_law 1147 = .ok (.iload 4, 2) := by decide +kernel
theorem dL_law_1149 : decode cL_law 1149 = .ok (.iconst 1, 1) := by decide +kernel
theorem dL_law_1150 : decode cL_law 1150 = .ok (.iadd, 1) := by decide +kernel
theorem dL_law_1151 : decode cL_law 1151 = .ok (.iaload, 1) := by decide +kernel
theorem dL_law_1152 : decode cL_law 1152 = .ok (.invokevirtual 133, 3) := by decide +kernel
theorem dL_law_1155 : decode cL_law 1155 = .ok (.istore 6, 2) := by decide +kernel
theorem dL_law_1157 : decode cL_law 1157 = .ok (.aload_n 2, 1) := by decide +kernel
theorem dL_law_1158 : decode cL_law 1158 = .ok (.invokevirtual 78, 3) := by decide +kernel
theorem dL_law_1161 : decode cL_law 1161 = .ok (.iload 5, 2) := by decide +kernel
theorem dL_law_1163 : decode cL_law 1163 = .ok (.if_icmp .eq 5, 3) := by decide +kernel
theorem dL_law_1166 : decode cL_law 1166 = .ok (.iconst 0, 1) := by decide +kernel
theorem dL_law_1167 : decode cL_law 1167 = .ok (.ireturn, 1) := by decide +kernel
theorem dL_law_1168 : decode cL_law 1168 = .ok (.iload 5, 2) := by decide +kernel
theorem dL_law_1170 : decode cL_law 1170 = .ok (.ifCond .ne 15, 3) := by decide +kernel
theorem dL_law_1173 : decode cL_law 1173 = .ok (.aload_n 3, 1) := by decide +kernel
theorem dL_law_1174 : decode cL_law 1174 = .ok (.iconst 0, 1) := by decide +kernel
theorem dL_law_1175 : decode cL_law 1175 = .ok (.laload, 1) := by decide +kernel
theorem dL_law_1176 : decode cL_law 1176 = .ok (.iload 6, 2) := by decide +kernel
theorem dL_law_1178 : decode cL_law 1178 = .ok (.i2l, 1) := by decide +kernel
theorem dL_law_1179 : decode cL_law 1179 = .ok (.lcmp, 1) := by decide +kernel
theorem dL_law_1180 : decode cL_law 1180 = .ok (.ifCond .eq 5, 3) := by decide +kernel
theorem dL_law_1183 : decode cL_law 1183 = .ok (.iconst 0, 1) := by decide +kernel
theorem dL_law_1184 : decode cL_law 1184 = .ok (.ireturn, 1) := by decide +kernel
theorem dL_law_1185 : decode cL_law 1185 = .ok (.goto 58, 3) := by decide +kernel
theorem dL_law_1188 : decode cL_law 1188 = .ok (.aload_n 1, 1) := by decide +kernel
theorem dL_law_1189 : decode cL_law 1189 = .ok (.invokevirtual 134, 3) := by decide +kernel
theorem dL_law_1192 : decode cL_law 1192 = .ok (.dstore 5, 2) := by decide +kernel
theorem dL_law_1194 : decode cL_law 1194 = .ok (.aload_n 2, 1) := by decide +kernel
theorem dL_law_1195 : decode cL_law 1195 = .ok (.invokevirtual 138, 3) := by decide +kernel
theorem dL_law_1198 : decode cL_law 1198 = .ok (.dstore 7, 2) := by decide +kernel
theorem dL_law_1200 : decode cL_law 1200 = .ok (.dload 5, 2) := by decide +kernel
theorem dL_law_1202 : decode cL_law 1202 = .ok (.dload 7, 2) := by decide +kernel
theorem dL_law_1204 : decode cL_law 1204 = .ok (.dcmp .l, 1) := by decide +kernel
theorem dL_law_1205 : decode cL_law 1205 = .ok (.ifCond .eq 21, 3) := by decide +kernel
theorem dL_law_1208 : decode cL_law 1208 = .ok (.dload 5, 2) := by decide +kernel
theorem dL_law_1210 : decode cL_law 1210 = .ok (.dload 5, 2) := by decide +kernel
theorem dL_law_1212 : decode cL_law 1212 = .ok (.dcmp .l, 1) := by decide +kernel
theorem dL_law_1213 : decode cL_law 1213 = .ok (.ifCond .eq 11, 3) := by decide +kernel
theorem dL_law_1216 : decode cL_law 1216 = .ok (.dload 7, 2) := by decide +kernel
theorem dL_law_1218 : decode cL_law 1218 = .ok (.dload 7, 2) := by decide +kernel
theorem dL_law_1220 : decode cL_law 1220 = .ok (.dcmp .l, 1) := by decide +kernel
theorem dL_law_1221 : decode cL_law 1221 = .ok (.ifCond .ne 5, 3) := by decide +kernel
theorem dL_law_1224 : decode cL_law 1224 = .ok (.iconst 0, 1) := by decide +kernel
theorem dL_law_1225 : decode cL_law 1225 = .ok (.ireturn, 1) := by decide +kernel
theorem dL_law_1226 : decode cL_law 1226 = .ok (.goto 17, 3) := by decide +kernel
theorem dL_law_1229 : decode cL_law 1229 = .ok (.aload_n 1, 1) := by decide +kernel
theorem dL_law_1230 : decode cL_law 1230 = .ok (.invokevirtual 139, 3) := by decide +kernel
theorem dL_law_1233 : decode cL_law 1233 = .ok (.aload_n 2, 1) := by decide +kernel
theorem dL_law_1234 : decode cL_law 1234 = .ok (.invokevirtual 143, 3) := by decide +kernel
theorem dL_law_1237 : decode cL_law 1237 = .ok (.lcmp, 1) := by decide +kernel
theorem dL_law_1238 : decode cL_law 1238 = .ok (.ifCond .eq 5, 3) := by decide +kernel
theorem dL_law_1241 : decode cL_law 1241 = .ok (.iconst 0, 1) := by decide +kernel
theorem dL_law_1242 : decode cL_law 1242 = .ok (.ireturn, 1) := by decide +kernel
theorem dL_law_1243 : decode cL_law 1243 = .ok (.iinc 4 5, 3) := by decide +kernel
theorem dL_law_1246 : decode cL_law 1246 = .ok (.goto (-1223), 3) := by decide +kernel
theorem dL_law_1249 : decode cL_law 1249 = .ok (.iconst 1, 1) := by decide +kernel
theorem dL_law_1250 : decode cL_law 1250 = .ok (.ireturn, 1) := by decide +kernel
abbrev vwCl : List vw_C := [(RX0, TX0, 7), (RX1, TX1, 6), (RX2, TX2, 1), (RX3, TX3, 3), (RX4, TX4, 3), (RX5, TX5, 6), (RX6, TX6, 5), (RX7, TX7, 12)]
/-! ===== END printed: names ===== -/

