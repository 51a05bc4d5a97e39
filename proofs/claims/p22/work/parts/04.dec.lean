theorem dX5_foresee_19 : decode cX5_foresee 19 = .ok (.athrow, 1) := by decide +kernel
theorem dX5_foresee_20 : decode cX5_foresee 20 = .ok (.iload_n 2, 1) := by decide +kernel
theorem dX5_foresee_21 : decode cX5_foresee 21 = .ok (.iconst 4, 1) := by decide +kernel
theorem dX5_foresee_22 : decode cX5_foresee 22 = .ok (.if_icmp .eq 25, 3) := by decide +kernel
theorem dX5_foresee_25 : decode cX5_foresee 25 = .ok (.iload_n 2, 1) := by decide +kernel
theorem dX5_foresee_26 : decode cX5_foresee 26 = .ok (.bipush 7, 2) := by decide +kernel
theorem dX5_foresee_28 : decode cX5_foresee 28 = .ok (.if_icmp .eq 19, 3) := by decide +kernel
theorem dX5_foresee_31 : decode cX5_foresee 31 = .ok (.iload_n 2, 1) := by decide +kernel
theorem dX5_foresee_32 : decode cX5_foresee 32 = .ok (.bipush 8, 2) := by decide +kernel
theorem dX5_foresee_34 : decode cX5_foresee 34 = .ok (.if_icmp .eq 13, 3) := by decide +kernel
theorem dX5_foresee_37 : decode cX5_foresee 37 = .ok (.new 53, 3) := by decide +kernel
theorem dX5_foresee_40 : decode cX5_foresee 40 = .ok (.dup, 1) := by decide +kernel
theorem dX5_foresee_41 : decode cX5_foresee 41 = .ok (.ldc 209, 2) := by decide +kernel
theorem dX5_foresee_43 : decode cX5_foresee 43 = .ok (.invokespecial 57, 3) := by decide +kernel
theorem dX5_foresee_46 : decode cX5_foresee 46 = .ok (.athrow, 1) := by decide +kernel
theorem dX5_foresee_47 : decode cX5_foresee 47 = .ok (.aload_n 0, 1) := by decide +kernel
theorem dX5_foresee_48 : decode cX5_foresee 48 = .ok (.getfield 32, 3) := by decide +kernel
theorem dX5_foresee_51 : decode cX5_foresee 51 = .ok (.aload_n 0, 1) := by decide +kernel
theorem dX5_foresee_52 : decode cX5_foresee 52 = .ok (.getfield 28, 3) := by decide +kernel
theorem dX5_foresee_55 : decode cX5_foresee 55 = .ok (.invokevirtual 199, 3) := by decide +kernel
theorem dX5_foresee_58 : decode cX5_foresee 58 = .ok (.aload_n 0, 1) := by decide +kernel
theorem dX5_foresee_59 : decode cX5_foresee 59 = .ok (.getfield 32, 3) := by decide +kernel
theorem dX5_foresee_62 : decode cX5_foresee 62 = .ok (.iload_n 1, 1) := by decide +kernel
theorem dX5_foresee_63 : decode cX5_foresee 63 = .ok (.invokevirtual 193, 3) := by decide +kernel
theorem dX5_foresee_66 : decode cX5_foresee 66 = .ok (.iload_n 2, 1) := by decide +kernel
theorem dX5_foresee_67 : decode cX5_foresee 67 = .ok (.iconst 4, 1) := by decide +kernel
theorem dX5_foresee_68 : decode cX5_foresee 68 = .ok (.if_icmp .ne 11, 3) := by decide +kernel
theorem dX5_foresee_71 : decode cX5_foresee 71 = .ok (.aload_n 0, 1) := by decide +kernel
theorem dX5_foresee_72 : decode cX5_foresee 72 = .ok (.getfield 32, 3) := by decide +kernel
theorem dX5_foresee_75 : decode cX5_foresee 75 = .ok (.getfield 108, 3) := by decide +kernel
theorem dX5_foresee_78 : decode cX5_foresee 78 = .ok (.ireturn, 1) := by decide +kernel
theorem dX5_foresee_79 : decode cX5_foresee 79 = .ok (.iload_n 2, 1) := by decide +kernel
theorem dX5_foresee_80 : decode cX5_foresee 80 = .ok (.bipush 7, 2) := by decide +kernel
theorem dX5_foresee_82 : decode cX5_foresee 82 = .ok (.if_icmp .ne 13, 3) := by decide +kernel
theorem dX5_foresee_85 : decode cX5_foresee 85 = .ok (.aload_n 0, 1) := by decide +kernel
theorem dX5_foresee_86 : decode cX5_foresee 86 = .ok (.getfield 32, 3) := by decide +kernel
theorem dX5_foresee_89 : decode cX5_foresee 89 = .ok (.invokevirtual 190, 3) := by decide +kernel
theorem dX5_foresee_92 : decode cX5_foresee 92 = .ok (.goto 10, 3) := by decide +kernel
theorem dX5_foresee_95 : decode cX5_foresee 95 = .ok (.aload_n 0, 1) := by decide +kernel
theorem dX5_foresee_96 : decode cX5_foresee 96 = .ok (.getfield 32, 3) := by decide +kernel
theorem dX5_foresee_99 : decode cX5_foresee 99 = .ok (.invokevirtual 211, 3) := by decide +kernel
theorem dX5_foresee_102 : decode cX5_foresee 102 = .ok (.ireturn, 1) := by decide +kernel
set_option maxRecDepth 20000 in
theorem ggX5_gate_X5_isOutside : GoodIn wsX5_gate wsX5_isOutside := goodIn_r _ [9] (by decide +kernel) (by decide +kernel)
set_option maxRecDepth 20000 in
theorem gX5_gate_X5_isOutside : GoodIn wsX5_gate (va_wsS RX5 49 yX5_isOutside wsX5_isOutside) := goodIn_app (goodIn_of _ (by decide +kernel)) ggX5_gate_X5_isOutside
set_option maxRecDepth 20000 in
theorem ggX5_gate_X0_hourOfDay : GoodIn wsX5_gate wsX0_hourOfDay := goodIn_r _ [14, 15, 16, 17, 18, 19, 48, 49, 50, 51, 52, 53, 54] (by decide +kernel) (by decide +kernel)
set_option maxRecDepth 20000 in
theorem gX5_gate_X0_hourOfDay : GoodIn wsX5_gate (wsV RX5 141 RX0 yX0_hourOfDay wsX0_hourOfDay) := goodIn_app (goodIn_of _ (by decide +kernel)) ggX5_gate_X0_hourOfDay
set_option maxRecDepth 20000 in
theorem ggX5_gate_X5_lengthFrom : GoodIn wsX5_gate wsX5_lengthFrom := goodIn_r _ [22, 23, 24, 8, 25, 26, 27, 28, 29, 30, 31, 32] (by decide +kernel) (by decide +kernel)
set_option maxRecDepth 20000 in
theorem gX5_gate_X5_lengthFrom : GoodIn wsX5_gate (va_wsS RX5 145 yX5_lengthFrom wsX5_lengthFrom) := goodIn_app (goodIn_of _ (by decide +kernel)) ggX5_gate_X5_lengthFrom
set_option maxRecDepth 20000 in
theorem ggX5_gate_X0_fallsAt : GoodIn wsX5_gate wsX0_fallsAt := goodIn_r _ [36, 37, 38, 48, 49, 50, 51, 52, 53, 54] (by decide +kernel) (by decide +kernel)
set_option maxRecDepth 20000 in
theorem gX5_gate_X0_fallsAt : GoodIn wsX5_gate (wsV RX5 149 RX0 yX0_fallsAt wsX0_fallsAt) := goodIn_app (goodIn_of _ (by decide +kernel)) ggX5_gate_X0_fallsAt
theorem dX5_gate_0 : decode cX5_gate 0 = .ok (.iload_n 1, 1) := by decide +kernel
theorem dX5_gate_1 : decode cX5_gate 1 = .ok (.iconst 0, 1) := by decide +kernel
theorem dX5_gate_2 : decode cX5_gate 2 = .ok (.bipush 20, 2) := by decide +kernel
theorem dX5_gate_4 : decode cX5_gate 4 = .ok (.invokestatic 49, 3) := by decide +kernel
theorem dX5_gate_7 : decode cX5_gate 7 = .ok (.ifCond .eq 13, 3) := by decide +kernel
theorem dX5_gate_10 : decode cX5_gate 10 = .ok (.new 60, 3) := by decide +kernel
theorem dX5_gate_13 : decode cX5_gate 13 = .ok (.dup, 1) := by decide +kernel
theorem dX5_gate_14 : decode cX5_gate 14 = .ok (.ldc 136, 2) := by decide +kernel
theorem dX5_gate_16 : decode cX5_gate 16 = .ok (.invokespecial 64, 3) := by decide +kernel
theorem dX5_gate_19 : decode cX5_gate 19 = .ok (.athrow, 1) := by decide +kernel
theorem dX5_gate_20 : decode cX5_gate 20 = .ok (.aload_n 0, 1) := by decide +kernel
theorem dX5_gate_21 : decode cX5_gate 21 = .ok (.getfield 10, 3) := by decide +kernel
theorem dX5_gate_24 : decode cX5_gate 24 = .ok (.getfield 76, 3) := by decide +kernel
theorem dX5_gate_27 : decode cX5_gate 27 = .ok (.aload_n 0, 1) := by decide +kernel
theorem dX5_gate_28 : decode cX5_gate 28 = .ok (.getfield 28, 3) := by decide +kernel
theorem dX5_gate_31 : decode cX5_gate 31 = .ok (.invokevirtual 141, 3) := by decide +kernel
theorem dX5_gate_34 : decode cX5_gate 34 = .ok (.iaload, 1) := by decide +kernel
theorem dX5_gate_35 : decode cX5_gate 35 = .ok (.istore_n 2, 1) := by decide +kernel
theorem dX5_gate_36 : decode cX5_gate 36 = .ok (.bipush 20, 2) := by decide +kernel
theorem dX5_gate_38 : decode cX5_gate 38 = .ok (.istore_n 3, 1) := by decide +kernel
theorem dX5_gate_39 : decode cX5_gate 39 = .ok (.iload_n 3, 1) := by decide +kernel
theorem dX5_gate_40 : decode cX5_gate 40 = .ok (.iconst 1, 1) := by decide +kernel
theorem dX5_gate_41 : decode cX5_gate 41 = .ok (.if_icmp .lt 29, 3) := by decide +kernel
theorem dX5_gate_44 : decode cX5_gate 44 = .ok (.aload_n 0, 1) := by decide +kernel
theorem dX5_gate_45 : decode cX5_gate 45 = .ok (.getfield 28, 3) := by decide +kernel
theorem dX5_gate_48 : decode cX5_gate 48 = .ok (.iload_n 3, 1) := by decide +kernel
theorem dX5_gate_49 : decode cX5_gate 49 = .ok (.iload_n 2, 1) := by decide +kernel
theorem dX5_gate_50 : decode cX5_gate 50 = .ok (.iload_n 1, 1) := by decide +kernel
theorem dX5_gate_51 : decode cX5_gate 51 = .ok (.invokestatic 145, 3) := by decide +kernel
theorem dX5_gate_54 : decode cX5_gate 54 = .ok (.iconst 5, 1) := by decide +kernel
theorem dX5_gate_55 : decode cX5_gate 55 = .ok (.idiv, 1) := by decide +kernel
theorem dX5_gate_56 : decode cX5_gate 56 = .ok (.invokevirtual 149, 3) := by decide +kernel
theorem dX5_gate_59 : decode cX5_gate 59 = .ok (.ifCond .ne 5, 3) := by decide +kernel
theorem dX5_gate_62 : decode cX5_gate 62 = .ok (.iload_n 3, 1) := by decide +kernel
theorem dX5_gate_63 : decode cX5_gate 63 = .ok (.ireturn, 1) := by decide +kernel
theorem dX5_gate_64 : decode cX5_gate 64 = .ok (.iinc 3 (-1), 3) := by decide +kernel
theorem dX5_gate_67 : decode cX5_gate 67 = .ok (.goto (-28), 3) := by decide +kernel
theorem dX5_gate_70 : decode cX5_gate 70 = .ok (.iconst 0, 1) := by decide +kernel
theorem dX5_gate_71 : decode cX5_gate 71 = .ok (.ireturn, 1) := by decide +kernel
set_option maxRecDepth 20000 in
theorem ggX5_advise_X5_isOutside : GoodIn wsX5_advise wsX5_isOutside := goodIn_r _ [11] (by decide +kernel) (by decide +kernel)
set_option maxRecDepth 20000 in
theorem gX5_advise_X5_isOutside : GoodIn wsX5_advise (va_wsS RX5 49 yX5_isOutside wsX5_isOutside) := goodIn_app (goodIn_of _ (by decide +kernel)) ggX5_advise_X5_isOutside
set_option maxRecDepth 20000 in
theorem ggX5_advise_X0_becomeLike : GoodIn wsX5_advise wsX0_becomeLike := goodIn_r _ [16, 17, 18, 19, 20, 21, 96, 97, 98, 99, 100, 101, 102] (by decide +kernel) (by decide +kernel)
set_option maxRecDepth 20000 in
theorem gX5_advise_X0_becomeLike : GoodIn wsX5_advise (wsV RX5 199 RX0 yX0_becomeLike wsX0_becomeLike) := goodIn_app (goodIn_of _ (by decide +kernel)) ggX5_advise_X0_becomeLike
set_option maxRecDepth 20000 in
theorem ggX5_advise_X0_letHoursGoBy : GoodIn wsX5_advise wsX0_letHoursGoBy := goodIn_r _ [25, 26, 27, 28, 15, 29, 30, 31, 19, 32, 33, 34, 21, 35, 36, 37, 38, 39, 40, 41, 42, 43, 44, 45, 46, 47, 48, 49, 50, 51, 52, 53, 20, 54, 55, 56, 57, 58, 59, 60, 61, 18, 9, 10, 11, 62, 63, 64, 65, 17, 66, 67, 68, 69, 70, 71, 72, 73, 74, 75, 76, 96, 97, 98, 99, 100, 101, 102, 103, 104, 105, 93, 94, 95] (by decide +kernel) (by decide +kernel)
set_option maxRecDepth 20000 in
theorem gX5_advise_X0_letHoursGoBy : GoodIn wsX5_advise (wsV RX5 193 RX0 yX0_letHoursGoBy wsX0_letHoursGoBy) := goodIn_app (goodIn_of _ (by decide +kernel)) ggX5_advise_X0_letHoursGoBy
set_option maxRecDepth 20000 in
theorem ggX5_advise_X0_allSnow : GoodIn wsX5_advise wsX0_allSnow := goodIn_r _ [80, 17, 81, 10, 82, 96, 97, 98, 99, 100, 101, 102] (by decide +kernel) (by decide +kernel)
set_option maxRecDepth 20000 in
theorem gX5_advise_X0_allSnow : GoodIn wsX5_advise (wsV RX5 190 RX0 yX0_allSnow wsX0_allSnow) := goodIn_app (goodIn_of _ (by decide +kernel)) ggX5_advise_X0_allSnow
set_option maxRecDepth 20000 in
theorem ggX5_advise_X5_snowWithPump : GoodIn wsX5_advise wsX5_snowWithPump := goodIn_r _ [86, 3, 4, 7, 12, 13, 14, 15, 16, 17, 18, 19, 20, 21, 22, 23, 24, 25, 26, 27, 28, 29, 30, 31, 32, 33, 34, 35, 36, 37, 38, 39, 40, 41, 42, 43, 44, 45, 46, 47, 48, 49, 50, 51, 52, 53, 54, 55, 56, 57, 58, 59, 60, 61, 9, 10, 11, 62, 63, 64, 65, 66, 67, 68, 69, 70, 71, 72, 73, 74, 75, 76, 77, 78, 79, 80, 81, 82, 87, 88, 89, 90, 91, 92, 96, 97, 98, 99, 100, 101, 102, 103, 104, 105, 93, 94, 95] (by decide +kernel) (by decide +kernel)
set_option maxRecDepth 20000 in
theorem gX5_advise_X5_snowWithPump : GoodIn wsX5_advise (wsV RX5 214 RX5 yX5_snowWithPump wsX5_snowWithPump) := goodIn_app (goodIn_of _ (by decide +kernel)) ggX5_advise_X5_snowWithPump
theorem dX5_advise_0 : decode cX5_advise 0 = .ok (.iload_n 1, 1) := by decide +kernel
theorem dX5_advise_1 : decode cX5_advise 1 = .ok (.iconst 1, 1) := by decide +kernel
theorem dX5_advise_2 : decode cX5_advise 2 = .ok (.bipush 96, 2) := by decide +kernel
theorem dX5_advise_4 : decode cX5_advise 4 = .ok (.invokestatic 49, 3) := by decide +kernel
theorem dX5_advise_7 : decode cX5_advise 7 = .ok (.ifCond .eq 13, 3) := by decide +kernel
theorem dX5_advise_10 : decode cX5_advise 10 = .ok (.new 60, 3) := by decide +kernel
theorem dX5_advise_13 : decode cX5_advise 13 = .ok (.dup, 1) := by decide +kernel
theorem dX5_advise_14 : decode cX5_advise 14 = .ok (.ldc 188, 2) := by decide +kernel
theorem dX5_advise_16 : decode cX5_advise 16 = .ok (.invokespecial 64, 3) := by decide +kernel
theorem dX5_advise_19 : decode cX5_advise 19 = .ok (.athrow, 1) := by decide +kernel
theorem dX5_advise_20 : decode cX5_advise 20 = .ok (.aload_n 0, 1) := by decide +kernel
theorem dX5_advise_21 : decode cX5_advise 21 = .ok (.getfield 32, 3) := by decide +kernel
theorem dX5_advise_24 : decode cX5_advise 24 = .ok (.aload_n 0, 1) := by decide +kernel
theorem dX5_advise_25 : decode cX5_advise 25 = .ok (.getfield 28, 3) := by decide +kernel
theorem dX5_advise_28 : decode cX5_advise 28 = .ok (.invokevirtual 199, 3) := by decide +kernel
theorem dX5_advise_31 : decode cX5_advise 31 = .ok (.aload_n 0, 1) := by decide +kernel
theorem dX5_advise_32 : decode cX5_advise 32 = .ok (.getfield 32, 3) := by decide +kernel
theorem dX5_advise_35 : decode cX5_advise 35 = .ok (.iload_n 1, 1) := by decide +kernel
theorem dX5_advise_36 : decode cX5_advise 36 = .ok (.invokevirtual 193, 3) := by decide +kernel
theorem dX5_advise_39 : decode cX5_advise 39 = .ok (.aload_n 0, 1) := by decide +kernel
theorem dX5_advise_40 : decode cX5_advise 40 = .ok (.getfield 32, 3) := by decide +kernel
theorem dX5_advise_43 : decode cX5_advise 43 = .ok (.invokevirtual 190, 3) := by decide +kernel
theorem dX5_advise_46 : decode cX5_advise 46 = .ok (.istore_n 2, 1) := by decide +kernel
theorem dX5_advise_47 : decode cX5_advise 47 = .ok (.iconst (-1), 1) := by decide +kernel
theorem dX5_advise_48 : decode cX5_advise 48 = .ok (.istore_n 3, 1) := by decide +kernel
theorem dX5_advise_49 : decode cX5_advise 49 = .ok (.iconst 0, 1) := by decide +kernel
theorem dX5_advise_50 : decode cX5_advise 50 = .ok (.istore 4, 2) := by decide +kernel
theorem dX5_advise_52 : decode cX5_advise 52 = .ok (.iload 4, 2) := by decide +kernel
theorem dX5_advise_54 : decode cX5_advise 54 = .ok (.aload_n 0, 1) := by decide +kernel
theorem dX5_advise_55 : decode cX5_advise 55 = .ok (.getfield 19, 3) := by decide +kernel
theorem dX5_advise_58 : decode cX5_advise 58 = .ok (.getfield 87, 3) := by decide +kernel
theorem dX5_advise_61 : decode cX5_advise 61 = .ok (.if_icmp .ge 43, 3) := by decide +kernel
theorem dX5_advise_64 : decode cX5_advise 64 = .ok (.aload_n 0, 1) := by decide +kernel
theorem dX5_advise_65 : decode cX5_advise 65 = .ok (.getfield 28, 3) := by decide +kernel
theorem dX5_advise_68 : decode cX5_advise 68 = .ok (.getfield 102, 3) := by decide +kernel
theorem dX5_advise_71 : decode cX5_advise 71 = .ok (.iload 4, 2) := by decide +kernel
theorem dX5_advise_73 : decode cX5_advise 73 = .ok (.baload, 1) := by decide +kernel
theorem dX5_advise_74 : decode cX5_advise 74 = .ok (.ifCond .ne 24, 3) := by decide +kernel
theorem dX5_advise_77 : decode cX5_advise 77 = .ok (.aload_n 0, 1) := by decide +kernel
theorem dX5_advise_78 : decode cX5_advise 78 = .ok (.iload 4, 2) := by decide +kernel
theorem dX5_advise_80 : decode cX5_advise 80 = .ok (.iload_n 1, 1) := by decide +kernel
theorem dX5_advise_81 : decode cX5_advise 81 = .ok (.invokevirtual 214, 3) := by decide +kernel
theorem dX5_advise_84 : decode cX5_advise 84 = .ok (.istore 5, 2) := by decide +kernel
theorem dX5_advise_86 : decode cX5_advise 86 = .ok (.iload 5, 2) := by decide +kernel
theorem dX5_advise_88 : decode cX5_advise 88 = .ok (.iload_n 2, 1) := by decide +kernel
theorem dX5_advise_89 : decode cX5_advise 89 = .ok (.if_icmp .le 9, 3) := by decide +kernel
theorem dX5_advise_92 : decode cX5_advise 92 = .ok (.iload 5, 2) := by decide +kernel
theorem dX5_advise_94 : decode cX5_advise 94 = .ok (.istore_n 2, 1) := by decide +kernel
theorem dX5_advise_95 : decode cX5_advise 95 = .ok (.iload 4, 2) := by decide +kernel
theorem dX5_advise_97 : decode cX5_advise 97 = .ok (.istore_n 3, 1) := by decide +kernel
theorem dX5_advise_98 : decode cX5_advise 98 = .ok (.iinc 4 1, 3) := by decide +kernel
theorem dX5_advise_101 : decode cX5_advise 101 = .ok (.goto (-49), 3) := by decide +kernel
theorem dX5_advise_104 : decode cX5_advise 104 = .ok (.iload_n 3, 1) := by decide +kernel
theorem dX5_advise_105 : decode cX5_advise 105 = .ok (.ireturn, 1) := by decide +kernel
set_option maxRecDepth 20000 in
theorem ggX5_mean_X1_allPoints : GoodIn wsX5_mean wsX1_allPoints := goodIn_r _ [7, 8, 9, 10, 11, 18, 19, 20, 21, 22, 23] (by decide +kernel) (by decide +kernel)
set_option maxRecDepth 20000 in
theorem gX5_mean_X1_allPoints : GoodIn wsX5_mean (wsV RX5 217 RX1 yX1_allPoints wsX1_allPoints) := goodIn_app (goodIn_of _ (by decide +kernel)) ggX5_mean_X1_allPoints
theorem dX5_mean_0 : decode cX5_mean 0 = .ok (.aload_n 0, 1) := by decide +kernel
theorem dX5_mean_1 : decode cX5_mean 1 = .ok (.getfield 45, 3) := by decide +kernel
theorem dX5_mean_4 : decode cX5_mean 4 = .ok (.getfield 138, 3) := by decide +kernel
theorem dX5_mean_7 : decode cX5_mean 7 = .ok (.ifCond .ne 5, 3) := by decide +kernel
theorem dX5_mean_10 : decode cX5_mean 10 = .ok (.dconst 0, 1) := by decide +kernel
theorem dX5_mean_11 : decode cX5_mean 11 = .ok (.dreturn, 1) := by decide +kernel
theorem dX5_mean_12 : decode cX5_mean 12 = .ok (.aload_n 0, 1) := by decide +kernel
theorem dX5_mean_13 : decode cX5_mean 13 = .ok (.getfield 45, 3) := by decide +kernel
theorem dX5_mean_16 : decode cX5_mean 16 = .ok (.invokevirtual 217, 3) := by decide +kernel
theorem dX5_mean_19 : decode cX5_mean 19 = .ok (.i2d, 1) := by decide +kernel
theorem dX5_mean_20 : decode cX5_mean 20 = .ok (.aload_n 0, 1) := by decide +kernel
theorem dX5_mean_21 : decode cX5_mean 21 = .ok (.getfield 45, 3) := by decide +kernel
theorem dX5_mean_24 : decode cX5_mean 24 = .ok (.getfield 138, 3) := by decide +kernel
theorem dX5_mean_27 : decode cX5_mean 27 = .ok (.i2d, 1) := by decide +kernel
theorem dX5_mean_28 : decode cX5_mean 28 = .ok (.ddiv, 1) := by decide +kernel
theorem dX5_mean_29 : decode cX5_mean 29 = .ok (.dreturn, 1) := by decide +kernel
set_option maxRecDepth 20000 in
theorem ggX5_digest_X5_tellCount : GoodIn wsX5_digest wsX5_tellCount := goodIn_r _ [10, 11, 12, 3, 13, 14, 15, 16, 5, 17, 18, 19, 20, 21, 22, 23, 24, 25, 26, 27, 28, 29, 30, 31, 32, 33, 34, 35, 36, 37, 38, 39, 40, 41, 42, 43, 44, 45, 9, 46, 47, 48, 49, 50, 51, 52, 53, 54, 55, 56, 57, 120, 121, 122, 123, 124, 125, 126, 127, 128, 129, 130, 131, 132, 133, 134, 135, 136, 137, 138, 139, 140, 141, 142, 143, 144] (by decide +kernel) (by decide +kernel)
set_option maxRecDepth 20000 in
theorem gX5_digest_X5_tellCount : GoodIn wsX5_digest (wsV RX5 185 RX5 yX5_tellCount wsX5_tellCount) := goodIn_app (goodIn_of _ (by decide +kernel)) ggX5_digest_X5_tellCount
set_option maxRecDepth 20000 in
theorem ggX5_digest_X5_tellPart : GoodIn wsX5_digest wsX5_tellPart := goodIn_r _ [61, 11, 62, 63, 15, 64, 65, 66, 67, 68, 69, 70, 71, 72, 73, 21, 74, 44, 51, 120, 121, 122, 123, 124, 125, 126, 127, 128, 129, 130, 131, 132, 136, 137, 138] (by decide +kernel) (by decide +kernel)
set_option maxRecDepth 20000 in
theorem gX5_digest_X5_tellPart : GoodIn wsX5_digest (wsV RX5 180 RX5 yX5_tellPart wsX5_tellPart) := goodIn_app (goodIn_of _ (by decide +kernel)) ggX5_digest_X5_tellPart
set_option maxRecDepth 20000 in
theorem ggX5_digest_X4_addTo : GoodIn wsX5_digest wsX4_addTo := goodIn_r _ [78, 79, 33, 34, 80, 133, 134, 135] (by decide +kernel) (by decide +kernel)
set_option maxRecDepth 20000 in
theorem gX5_digest_X4_addTo : GoodIn wsX5_digest (wsV RX5 224 RX4 yX4_addTo wsX4_addTo) := goodIn_app (goodIn_of _ (by decide +kernel)) ggX5_digest_X4_addTo
set_option maxRecDepth 20000 in
theorem ggX5_digest_X2_addTo : GoodIn wsX5_digest wsX2_addTo := goodIn_r _ [85, 86, 87, 145] (by decide +kernel) (by decide +kernel)
set_option maxRecDepth 20000 in
theorem gX5_digest_X2_addTo : GoodIn wsX5_digest (wsV RX5 228 RX2 yX2_addTo wsX2_addTo) := goodIn_app (goodIn_of _ (by decide +kernel)) ggX5_digest_X2_addTo
set_option maxRecDepth 20000 in
theorem ggX5_digest_X5_addPumpsTo : GoodIn wsX5_digest wsX5_addPumpsTo := goodIn_r _ [91, 15, 16, 2, 92, 93, 11, 94, 120, 121, 122, 123, 124, 125, 136, 137, 138, 126, 127, 128, 129, 130, 131, 132] (by decide +kernel) (by decide +kernel)
set_option maxRecDepth 20000 in
theorem gX5_digest_X5_addPumpsTo : GoodIn wsX5_digest (wsV RX5 229 RX5 yX5_addPumpsTo wsX5_addPumpsTo) := goodIn_app (goodIn_of _ (by decide +kernel)) ggX5_digest_X5_addPumpsTo
set_option maxRecDepth 20000 in
theorem ggX5_digest_X1_addTo : GoodIn wsX5_digest wsX1_addTo := goodIn_r _ [98, 99, 100, 101, 102, 103, 55, 104, 105, 106, 107, 57, 108, 139, 140, 141, 142, 143, 144] (by decide +kernel) (by decide +kernel)
set_option maxRecDepth 20000 in
theorem gX5_digest_X1_addTo : GoodIn wsX5_digest (wsV RX5 232 RX1 yX1_addTo wsX1_addTo) := goodIn_app (goodIn_of _ (by decide +kernel)) ggX5_digest_X1_addTo
set_option maxRecDepth 20000 in
theorem ggX5_digest_X1_bestTwo : GoodIn wsX5_digest wsX1_bestTwo := goodIn_r _ [112, 99, 105, 107, 113, 114, 115, 116, 117, 118, 119, 139, 140, 141, 142, 143, 144] (by decide +kernel) (by decide +kernel)
set_option maxRecDepth 20000 in
theorem gX5_digest_X1_bestTwo : GoodIn wsX5_digest (wsV RX5 175 RX1 yX1_bestTwo wsX1_bestTwo) := goodIn_app (goodIn_of _ (by decide +kernel)) ggX5_digest_X1_bestTwo
theorem dX5_digest_0 : decode cX5_digest 0 = .ok (.ldc2_w 220, 3) := by decide +kernel
theorem dX5_digest_3 : decode cX5_digest 3 = .ok (.lstore_n 1, 1) := by decide +kernel
theorem dX5_digest_4 : decode cX5_digest 4 = .ok (.iconst 0, 1) := by decide +kernel
theorem dX5_digest_5 : decode cX5_digest 5 = .ok (.istore_n 3, 1) := by decide +kernel
theorem dX5_digest_6 : decode cX5_digest 6 = .ok (.iload_n 3, 1) := by decide +kernel
theorem dX5_digest_7 : decode cX5_digest 7 = .ok (.bipush 11, 2) := by decide +kernel
theorem dX5_digest_9 : decode cX5_digest 9 = .ok (.if_icmp .ge 22, 3) := by decide +kernel
theorem dX5_digest_12 : decode cX5_digest 12 = .ok (.lload_n 1, 1) := by decide +kernel
theorem dX5_digest_13 : decode cX5_digest 13 = .ok (.ldc2_w 222, 3) := by decide +kernel
theorem dX5_digest_16 : decode cX5_digest 16 = .ok (.lmul, 1) := by decide +kernel
theorem dX5_digest_17 : decode cX5_digest 17 = .ok (.aload_n 0, 1) := by decide +kernel
theorem dX5_digest_18 : decode cX5_digest 18 = .ok (.iload_n 3, 1) := by decide +kernel
theorem dX5_digest_19 : decode cX5_digest 19 = .ok (.invokevirtual 185, 3) := by decide +kernel
theorem dX5_digest_22 : decode cX5_digest 22 = .ok (.i2l, 1) := by decide +kernel
theorem dX5_digest_23 : decode cX5_digest 23 = .ok (.ladd, 1) := by decide +kernel
theorem dX5_digest_24 : decode cX5_digest 24 = .ok (.lstore_n 1, 1) := by decide +kernel
theorem dX5_digest_25 : decode cX5_digest 25 = .ok (.iinc 3 1, 3) := by decide +kernel
theorem dX5_digest_28 : decode cX5_digest 28 = .ok (.goto (-22), 3) := by decide +kernel
theorem dX5_digest_31 : decode cX5_digest 31 = .ok (.iconst 0, 1) := by decide +kernel
theorem dX5_digest_32 : decode cX5_digest 32 = .ok (.istore_n 3, 1) := by decide +kernel
theorem dX5_digest_33 : decode cX5_digest 33 = .ok (.iload_n 3, 1) := by decide +kernel
theorem dX5_digest_34 : decode cX5_digest 34 = .ok (.bipush 20, 2) := by decide +kernel
theorem dX5_digest_36 : decode cX5_digest 36 = .ok (.if_icmp .ge 39, 3) := by decide +kernel
theorem dX5_digest_39 : decode cX5_digest 39 = .ok (.iconst 0, 1) := by decide +kernel
theorem dX5_digest_40 : decode cX5_digest 40 = .ok (.istore 4, 2) := by decide +kernel
theorem dX5_digest_42 : decode cX5_digest 42 = .ok (.iload 4, 2) := by decide +kernel
theorem dX5_digest_44 : decode cX5_digest 44 = .ok (.iconst 4, 1) := by decide +kernel
theorem dX5_digest_45 : decode cX5_digest 45 = .ok (.if_icmp .ge 24, 3) := by decide +kernel
theorem dX5_digest_48 : decode cX5_digest 48 = .ok (.lload_n 1, 1) := by decide +kernel
theorem dX5_digest_49 : decode cX5_digest 49 = .ok (.ldc2_w 222, 3) := by decide +kernel
theorem dX5_digest_52 : decode cX5_digest 52 = .ok (.lmul, 1) := by decide +kernel
theorem dX5_digest_53 : decode cX5_digest 53 = .ok (.aload_n 0, 1) := by decide +kernel
theorem dX5_digest_54 : decode cX5_digest 54 = .ok (.iload_n 3, 1) := by decide +kernel
theorem dX5_digest_55 : decode cX5_digest 55 = .ok (.iload 4, 2) := by decide +kernel
theorem dX5_digest_57 : decode cX5_digest 57 = .ok (.invokevirtual 180, 3) := by decide +kernel
theorem dX5_digest_60 : decode cX5_digest 60 = .ok (.i2l, 1) := by decide +kernel
theorem dX5_digest_61 : decode cX5_digest 61 = .ok (.ladd, 1) := by decide +kernel
theorem dX5_digest_62 : decode cX5_digest 62 = .ok (.lstore_n 1, 1) := by decide +kernel
theorem dX5_digest_63 : decode cX5_digest 63 = .ok (.iinc 4 1, 3) := by decide +kernel
theorem dX5_digest_66 : decode cX5_digest 66 = .ok (.goto (-24), 3) := by decide +kernel
theorem dX5_digest_69 : decode cX5_digest 69 = .ok (.iinc 3 1, 3) := by decide +kernel
theorem dX5_digest_72 : decode cX5_digest 72 = .ok (.goto (-39), 3) := by decide +kernel
theorem dX5_digest_75 : decode cX5_digest 75 = .ok (.aload_n 0, 1) := by decide +kernel
theorem dX5_digest_76 : decode cX5_digest 76 = .ok (.getfield 10, 3) := by decide +kernel
theorem dX5_digest_79 : decode cX5_digest 79 = .ok (.lload_n 1, 1) := by decide +kernel
theorem dX5_digest_80 : decode cX5_digest 80 = .ok (.invokevirtual 224, 3) := by decide +kernel
theorem dX5_digest_83 : decode cX5_digest 83 = .ok (.lstore_n 1, 1) := by decide +kernel
theorem dX5_digest_84 : decode cX5_digest 84 = .ok (.aload_n 0, 1) := by decide +kernel
theorem dX5_digest_85 : decode cX5_digest 85 = .ok (.getfield 38, 3) := by decide +kernel
theorem dX5_digest_88 : decode cX5_digest 88 = .ok (.lload_n 1, 1) := by decide +kernel
theorem dX5_digest_89 : decode cX5_digest 89 = .ok (.invokevirtual 228, 3) := by decide +kernel
theorem dX5_digest_92 : decode cX5_digest 92 = .ok (.lstore_n 1, 1) := by decide +kernel
theorem dX5_digest_93 : decode cX5_digest 93 = .ok (.aload_n 0, 1) := by decide +kernel
theorem dX5_digest_94 : decode cX5_digest 94 = .ok (.lload_n 1, 1) := by decide +kernel
theorem dX5_digest_95 : decode cX5_digest 95 = .ok (.invokevirtual 229, 3) := by decide +kernel
theorem dX5_digest_98 : decode cX5_digest 98 = .ok (.lstore_n 1, 1) := by decide +kernel
theorem dX5_digest_99 : decode cX5_digest 99 = .ok (.aload_n 0, 1) := by decide +kernel
theorem dX5_digest_100 : decode cX5_digest 100 = .ok (.getfield 45, 3) := by decide +kernel
theorem dX5_digest_103 : decode cX5_digest 103 = .ok (.lload_n 1, 1) := by decide +kernel
theorem dX5_digest_104 : decode cX5_digest 104 = .ok (.invokevirtual 232, 3) := by decide +kernel
theorem dX5_digest_107 : decode cX5_digest 107 = .ok (.lstore_n 1, 1) := by decide +kernel
theorem dX5_digest_108 : decode cX5_digest 108 = .ok (.iconst 0, 1) := by decide +kernel
theorem dX5_digest_109 : decode cX5_digest 109 = .ok (.istore_n 3, 1) := by decide +kernel
theorem dX5_digest_110 : decode cX5_digest 110 = .ok (.iload_n 3, 1) := by decide +kernel
theorem dX5_digest_111 : decode cX5_digest 111 = .ok (.bipush 10, 2) := by decide +kernel
theorem dX5_digest_113 : decode cX5_digest 113 = .ok (.if_icmp .ge 25, 3) := by decide +kernel
theorem dX5_digest_116 : decode cX5_digest 116 = .ok (.lload_n 1, 1) := by decide +kernel
theorem dX5_digest_117 : decode cX5_digest 117 = .ok (.ldc2_w 222, 3) := by decide +kernel
theorem dX5_digest_120 : decode cX5_digest 120 = .ok (.lmul, 1) := by decide +kernel
theorem dX5_digest_121 : decode cX5_digest 121 = .ok (.aload_n 0, 1) := by decide +kernel
theorem dX5_digest_122 : decode cX5_digest 122 = .ok (.getfield 45, 3) := by decide +kernel
theorem dX5_digest_125 : decode cX5_digest 125 = .ok (.iload_n 3, 1) := by decide +kernel
theorem dX5_digest_126 : decode cX5_digest 126 = .ok (.invokevirtual 175, 3) := by decide +kernel
theorem dX5_digest_129 : decode cX5_digest 129 = .ok (.i2l, 1) := by decide +kernel
theorem dX5_digest_130 : decode cX5_digest 130 = .ok (.ladd, 1) := by decide +kernel
theorem dX5_digest_131 : decode cX5_digest 131 = .ok (.lstore_n 1, 1) := by decide +kernel
theorem dX5_digest_132 : decode cX5_digest 132 = .ok (.iinc 3 1, 3) := by decide +kernel
theorem dX5_digest_135 : decode cX5_digest 135 = .ok (.goto (-25), 3) := by decide +kernel
theorem dX5_digest_138 : decode cX5_digest 138 = .ok (.lload_n 1, 1) := by decide +kernel
theorem dX5_digest_139 : decode cX5_digest 139 = .ok (.lreturn, 1) := by decide +kernel
theorem dX5_addPumpsTo_0 : decode cX5_addPumpsTo 0 = .ok (.lload_n 1, 1) := by decide +kernel
theorem dX5_addPumpsTo_1 : decode cX5_addPumpsTo 1 = .ok (.lstore_n 3, 1) := by decide +kernel
theorem dX5_addPumpsTo_2 : decode cX5_addPumpsTo 2 = .ok (.iconst 0, 1) := by decide +kernel
theorem dX5_addPumpsTo_3 : decode cX5_addPumpsTo 3 = .ok (.istore 5, 2) := by decide +kernel
theorem dX5_addPumpsTo_5 : decode cX5_addPumpsTo 5 = .ok (.iload 5, 2) := by decide +kernel
theorem dX5_addPumpsTo_7 : decode cX5_addPumpsTo 7 = .ok (.aload_n 0, 1) := by decide +kernel
theorem dX5_addPumpsTo_8 : decode cX5_addPumpsTo 8 = .ok (.getfield 19, 3) := by decide +kernel
theorem dX5_addPumpsTo_11 : decode cX5_addPumpsTo 11 = .ok (.getfield 87, 3) := by decide +kernel
theorem dX5_addPumpsTo_14 : decode cX5_addPumpsTo 14 = .ok (.if_icmp .ge 71, 3) := by decide +kernel
theorem dX5_addPumpsTo_17 : decode cX5_addPumpsTo 17 = .ok (.lload_n 3, 1) := by decide +kernel
theorem dX5_addPumpsTo_18 : decode cX5_addPumpsTo 18 = .ok (.ldc2_w 222, 3) := by decide +kernel
theorem dX5_addPumpsTo_21 : decode cX5_addPumpsTo 21 = .ok (.lmul, 1) := by decide +kernel
theorem dX5_addPumpsTo_22 : decode cX5_addPumpsTo 22 = .ok (.aload_n 0, 1) := by decide +kernel
theorem dX5_addPumpsTo_23 : decode cX5_addPumpsTo 23 = .ok (.getfield 19, 3) := by decide +kernel
theorem dX5_addPumpsTo_26 : decode cX5_addPumpsTo 26 = .ok (.getfield 233, 3) := by decide +kernel
theorem dX5_addPumpsTo_29 : decode cX5_addPumpsTo 29 = .ok (.iload 5, 2) := by decide +kernel
theorem dX5_addPumpsTo_31 : decode cX5_addPumpsTo 31 = .ok (.iaload, 1) := by decide +kernel
theorem dX5_addPumpsTo_32 : decode cX5_addPumpsTo 32 = .ok (.i2l, 1) := by decide +kernel
theorem dX5_addPumpsTo_33 : decode cX5_addPumpsTo 33 = .ok (.ladd, 1) := by decide +kernel
theorem dX5_addPumpsTo_34 : decode cX5_addPumpsTo 34 = .ok (.lstore_n 3, 1) := by decide +kernel
theorem dX5_addPumpsTo_35 : decode cX5_addPumpsTo 35 = .ok (.lload_n 3, 1) := by decide +kernel
theorem dX5_addPumpsTo_36 : decode cX5_addPumpsTo 36 = .ok (.ldc2_w 222, 3) := by decide +kernel
theorem dX5_addPumpsTo_39 : decode cX5_addPumpsTo 39 = .ok (.lmul, 1) := by decide +kernel
theorem dX5_addPumpsTo_40 : decode cX5_addPumpsTo 40 = .ok (.aload_n 0, 1) := by decide +kernel
theorem dX5_addPumpsTo_41 : decode cX5_addPumpsTo 41 = .ok (.getfield 19, 3) := by decide +kernel
theorem dX5_addPumpsTo_44 : decode cX5_addPumpsTo 44 = .ok (.getfield 236, 3) := by decide +kernel
theorem dX5_addPumpsTo_47 : decode cX5_addPumpsTo 47 = .ok (.iload 5, 2) := by decide +kernel
theorem dX5_addPumpsTo_49 : decode cX5_addPumpsTo 49 = .ok (.iaload, 1) := by decide +kernel
theorem dX5_addPumpsTo_50 : decode cX5_addPumpsTo 50 = .ok (.i2l, 1) := by decide +kernel
theorem dX5_addPumpsTo_51 : decode cX5_addPumpsTo 51 = .ok (.ladd, 1) := by decide +kernel
theorem dX5_addPumpsTo_52 : decode cX5_addPumpsTo 52 = .ok (.lstore_n 3, 1) := by decide +kernel
theorem dX5_addPumpsTo_53 : decode cX5_addPumpsTo 53 = .ok (.lload_n 3, 1) := by decide +kernel
theorem dX5_addPumpsTo_54 : decode cX5_addPumpsTo 54 = .ok (.ldc2_w 222, 3) := by decide +kernel
theorem dX5_addPumpsTo_57 : decode cX5_addPumpsTo 57 = .ok (.lmul, 1) := by decide +kernel
theorem dX5_addPumpsTo_58 : decode cX5_addPumpsTo 58 = .ok (.aload_n 0, 1) := by decide +kernel
theorem dX5_addPumpsTo_59 : decode cX5_addPumpsTo 59 = .ok (.getfield 28, 3) := by decide +kernel
theorem dX5_addPumpsTo_62 : decode cX5_addPumpsTo 62 = .ok (.getfield 102, 3) := by decide +kernel
theorem dX5_addPumpsTo_65 : decode cX5_addPumpsTo 65 = .ok (.iload 5, 2) := by decide +kernel
theorem dX5_addPumpsTo_67 : decode cX5_addPumpsTo 67 = .ok (.baload, 1) := by decide +kernel
theorem dX5_addPumpsTo_68 : decode cX5_addPumpsTo 68 = .ok (.ifCond .eq 7, 3) := by decide +kernel
theorem dX5_addPumpsTo_71 : decode cX5_addPumpsTo 71 = .ok (.iconst 1, 1) := by decide +kernel
theorem dX5_addPumpsTo_72 : decode cX5_addPumpsTo 72 = .ok (.goto 4, 3) := by decide +kernel
theorem dX5_addPumpsTo_75 : decode cX5_addPumpsTo 75 = .ok (.iconst 0, 1) := by decide +kernel
theorem dX5_addPumpsTo_76 : decode cX5_addPumpsTo 76 = .ok (.i2l, 1) := by decide +kernel
theorem dX5_addPumpsTo_77 : decode cX5_addPumpsTo 77 = .ok (.ladd, 1) := by decide +kernel
theorem dX5_addPumpsTo_78 : decode cX5_addPumpsTo 78 = .ok (.lstore_n 3, 1) := by decide +kernel
theorem dX5_addPumpsTo_79 : decode cX5_addPumpsTo 79 = .ok (.iinc 5 1, 3) := by decide +kernel
theorem dX5_addPumpsTo_82 : decode cX5_addPumpsTo 82 = .ok (.goto (-77), 3) := by decide +kernel
theorem dX5_addPumpsTo_85 : decode cX5_addPumpsTo 85 = .ok (.lload_n 3, 1) := by decide +kernel
theorem dX5_addPumpsTo_86 : decode cX5_addPumpsTo 86 = .ok (.lreturn, 1) := by decide +kernel
set_option maxRecDepth 20000 in
theorem ggX5_tellPart_X3_countAt : GoodIn wsX5_tellPart wsX3_countAt := goodIn_r _ [9, 10, 11, 32, 33, 34] (by decide +kernel) (by decide +kernel)
set_option maxRecDepth 20000 in
theorem gX5_tellPart_X3_countAt : GoodIn wsX5_tellPart (wsV RX5 242 RX3 yX3_countAt wsX3_countAt) := goodIn_app (goodIn_of _ (by decide +kernel)) ggX5_tellPart_X3_countAt
set_option maxRecDepth 20000 in
theorem ggX5_tellPart_X0_fallsAt : GoodIn wsX5_tellPart wsX0_fallsAt := goodIn_r _ [16, 17, 18, 25, 26, 27, 28, 29, 30, 31] (by decide +kernel) (by decide +kernel)
set_option maxRecDepth 20000 in
theorem gX5_tellPart_X0_fallsAt : GoodIn wsX5_tellPart (wsV RX5 149 RX0 yX0_fallsAt wsX0_fallsAt) := goodIn_app (goodIn_of _ (by decide +kernel)) ggX5_tellPart_X0_fallsAt
theorem dX5_tellPart_0 : decode cX5_tellPart 0 = .ok (.iload_n 2, 1) := by decide +kernel
theorem dX5_tellPart_1 : decode cX5_tellPart 1 = .ok (.tableswitch 56 0 2 #[27, 37, 47], 27) := by decide +kernel
theorem dX5_tellPart_28 : decode cX5_tellPart 28 = .ok (.aload_n 0, 1) := by decide +kernel
theorem dX5_tellPart_29 : decode cX5_tellPart 29 = .ok (.getfield 28, 3) := by decide +kernel
theorem dX5_tellPart_32 : decode cX5_tellPart 32 = .ok (.getfield 203, 3) := by decide +kernel
theorem dX5_tellPart_35 : decode cX5_tellPart 35 = .ok (.iload_n 1, 1) := by decide +kernel
theorem dX5_tellPart_36 : decode cX5_tellPart 36 = .ok (.iaload, 1) := by decide +kernel
theorem dX5_tellPart_37 : decode cX5_tellPart 37 = .ok (.ireturn, 1) := by decide +kernel
theorem dX5_tellPart_38 : decode cX5_tellPart 38 = .ok (.aload_n 0, 1) := by decide +kernel
theorem dX5_tellPart_39 : decode cX5_tellPart 39 = .ok (.getfield 28, 3) := by decide +kernel
theorem dX5_tellPart_42 : decode cX5_tellPart 42 = .ok (.getfield 239, 3) := by decide +kernel
theorem dX5_tellPart_45 : decode cX5_tellPart 45 = .ok (.iload_n 1, 1) := by decide +kernel
theorem dX5_tellPart_46 : decode cX5_tellPart 46 = .ok (.iaload, 1) := by decide +kernel
theorem dX5_tellPart_47 : decode cX5_tellPart 47 = .ok (.ireturn, 1) := by decide +kernel
theorem dX5_tellPart_48 : decode cX5_tellPart 48 = .ok (.aload_n 0, 1) := by decide +kernel
theorem dX5_tellPart_49 : decode cX5_tellPart 49 = .ok (.getfield 19, 3) := by decide +kernel
theorem dX5_tellPart_52 : decode cX5_tellPart 52 = .ok (.iload_n 1, 1) := by decide +kernel
theorem dX5_tellPart_53 : decode cX5_tellPart 53 = .ok (.invokevirtual 242, 3) := by decide +kernel
theorem dX5_tellPart_56 : decode cX5_tellPart 56 = .ok (.ireturn, 1) := by decide +kernel
theorem dX5_tellPart_57 : decode cX5_tellPart 57 = .ok (.aload_n 0, 1) := by decide +kernel
theorem dX5_tellPart_58 : decode cX5_tellPart 58 = .ok (.getfield 28, 3) := by decide +kernel
theorem dX5_tellPart_61 : decode cX5_tellPart 61 = .ok (.iload_n 1, 1) := by decide +kernel
theorem dX5_tellPart_62 : decode cX5_tellPart 62 = .ok (.invokevirtual 149, 3) := by decide +kernel
theorem dX5_tellPart_65 : decode cX5_tellPart 65 = .ok (.ifCond .eq 7, 3) := by decide +kernel
theorem dX5_tellPart_68 : decode cX5_tellPart 68 = .ok (.iconst 1, 1) := by decide +kernel
theorem dX5_tellPart_69 : decode cX5_tellPart 69 = .ok (.goto 4, 3) := by decide +kernel
theorem dX5_tellPart_72 : decode cX5_tellPart 72 = .ok (.iconst 0, 1) := by decide +kernel
theorem dX5_tellPart_73 : decode cX5_tellPart 73 = .ok (.ireturn, 1) := by decide +kernel
set_option maxRecDepth 20000 in
theorem ggX5_tellCount_X0_hourOfDay : GoodIn wsX5_tellCount wsX0_hourOfDay := goodIn_r _ [14, 15, 16, 17, 18, 19, 57, 58, 59, 60, 61, 62, 63] (by decide +kernel) (by decide +kernel)
set_option maxRecDepth 20000 in
theorem gX5_tellCount_X0_hourOfDay : GoodIn wsX5_tellCount (wsV RX5 141 RX0 yX0_hourOfDay wsX0_hourOfDay) := goodIn_app (goodIn_of _ (by decide +kernel)) ggX5_tellCount_X0_hourOfDay
set_option maxRecDepth 20000 in
theorem ggX5_tellCount_X4_wetCold : GoodIn wsX5_tellCount wsX4_wetCold := goodIn_r _ [24, 25, 26, 64, 65, 66] (by decide +kernel) (by decide +kernel)
set_option maxRecDepth 20000 in
theorem gX5_tellCount_X4_wetCold : GoodIn wsX5_tellCount (wsV RX5 79 RX4 yX4_wetCold wsX4_wetCold) := goodIn_app (goodIn_of _ (by decide +kernel)) ggX5_tellCount_X4_wetCold
set_option maxRecDepth 20000 in
theorem ggX5_tellCount_X0_countRunning : GoodIn wsX5_tellCount wsX0_countRunning := goodIn_r _ [30, 31, 57, 58, 59, 60, 61, 62, 63] (by decide +kernel) (by decide +kernel)
set_option maxRecDepth 20000 in
theorem gX5_tellCount_X0_countRunning : GoodIn wsX5_tellCount (wsV RX5 245 RX0 yX0_countRunning wsX0_countRunning) := goodIn_app (goodIn_of _ (by decide +kernel)) ggX5_tellCount_X0_countRunning
set_option maxRecDepth 20000 in
theorem ggX5_tellCount_X0_allSnow : GoodIn wsX5_tellCount wsX0_allSnow := goodIn_r _ [35, 36, 37, 38, 39, 57, 58, 59, 60, 61, 62, 63] (by decide +kernel) (by decide +kernel)
set_option maxRecDepth 20000 in
theorem gX5_tellCount_X0_allSnow : GoodIn wsX5_tellCount (wsV RX5 190 RX0 yX0_allSnow wsX0_allSnow) := goodIn_app (goodIn_of _ (by decide +kernel)) ggX5_tellCount_X0_allSnow
set_option maxRecDepth 20000 in
theorem ggX5_tellCount_X0_allIce : GoodIn wsX5_tellCount wsX0_allIce := goodIn_r _ [43, 44, 37, 38, 39, 57, 58, 59, 60, 61, 62, 63] (by decide +kernel) (by decide +kernel)
set_option maxRecDepth 20000 in
theorem gX5_tellCount_X0_allIce : GoodIn wsX5_tellCount (wsV RX5 211 RX0 yX0_allIce wsX0_allIce) := goodIn_app (goodIn_of _ (by decide +kernel)) ggX5_tellCount_X0_allIce
set_option maxRecDepth 20000 in
theorem ggX5_tellCount_X1_countFalls : GoodIn wsX5_tellCount wsX1_countFalls := goodIn_r _ [49, 50, 37, 38, 39, 70, 71, 72, 73, 74, 75] (by decide +kernel) (by decide +kernel)
set_option maxRecDepth 20000 in
theorem gX5_tellCount_X1_countFalls : GoodIn wsX5_tellCount (wsV RX5 248 RX1 yX1_countFalls wsX1_countFalls) := goodIn_app (goodIn_of _ (by decide +kernel)) ggX5_tellCount_X1_countFalls
theorem dX5_tellCount_0 : decode cX5_tellCount 0 = .ok (.iload_n 1, 1) := by decide +kernel
theorem dX5_tellCount_1 : decode cX5_tellCount 1 = .ok (.tableswitch 150 0 9 #[55, 63, 71, 86, 102, 110, 118, 126, 134, 142], 55) := by decide +kernel
theorem dX5_tellCount_56 : decode cX5_tellCount 56 = .ok (.aload_n 0, 1) := by decide +kernel
theorem dX5_tellCount_57 : decode cX5_tellCount 57 = .ok (.getfield 28, 3) := by decide +kernel
theorem dX5_tellCount_60 : decode cX5_tellCount 60 = .ok (.getfield 161, 3) := by decide +kernel
theorem dX5_tellCount_63 : decode cX5_tellCount 63 = .ok (.ireturn, 1) := by decide +kernel
theorem dX5_tellCount_64 : decode cX5_tellCount 64 = .ok (.aload_n 0, 1) := by decide +kernel
theorem dX5_tellCount_65 : decode cX5_tellCount 65 = .ok (.getfield 28, 3) := by decide +kernel
theorem dX5_tellCount_68 : decode cX5_tellCount 68 = .ok (.invokevirtual 141, 3) := by decide +kernel
theorem dX5_tellCount_71 : decode cX5_tellCount 71 = .ok (.ireturn, 1) := by decide +kernel
theorem dX5_tellCount_72 : decode cX5_tellCount 72 = .ok (.aload_n 0, 1) := by decide +kernel
theorem dX5_tellCount_73 : decode cX5_tellCount 73 = .ok (.getfield 10, 3) := by decide +kernel
theorem dX5_tellCount_76 : decode cX5_tellCount 76 = .ok (.aload_n 0, 1) := by decide +kernel
theorem dX5_tellCount_77 : decode cX5_tellCount 77 = .ok (.getfield 28, 3) := by decide +kernel
theorem dX5_tellCount_80 : decode cX5_tellCount 80 = .ok (.invokevirtual 141, 3) := by decide +kernel
theorem dX5_tellCount_83 : decode cX5_tellCount 83 = .ok (.invokevirtual 79, 3) := by decide +kernel
theorem dX5_tellCount_86 : decode cX5_tellCount 86 = .ok (.ireturn, 1) := by decide +kernel
theorem dX5_tellCount_87 : decode cX5_tellCount 87 = .ok (.aload_n 0, 1) := by decide +kernel
theorem dX5_tellCount_88 : decode cX5_tellCount 88 = .ok (.getfield 10, 3) := by decide +kernel
theorem dX5_tellCount_91 : decode cX5_tellCount 91 = .ok (.getfield 76, 3) := by decide +kernel
theorem dX5_tellCount_94 : decode cX5_tellCount 94 = .ok (.aload_n 0, 1) := by decide +kernel
theorem dX5_tellCount_95 : decode cX5_tellCount 95 = .ok (.getfield 28, 3) := by decide +kernel
theorem dX5_tellCount_98 : decode cX5_tellCount 98 = .ok (.invokevirtual 141, 3) := by decide +kernel
theorem dX5_tellCount_101 : decode cX5_tellCount 101 = .ok (.iaload, 1) := by decide +kernel
theorem dX5_tellCount_102 : decode cX5_tellCount 102 = .ok (.ireturn, 1) := by decide +kernel
theorem dX5_tellCount_103 : decode cX5_tellCount 103 = .ok (.aload_n 0, 1) := by decide +kernel
theorem dX5_tellCount_104 : decode cX5_tellCount 104 = .ok (.getfield 28, 3) := by decide +kernel
theorem dX5_tellCount_107 : decode cX5_tellCount 107 = .ok (.getfield 108, 3) := by decide +kernel
theorem dX5_tellCount_110 : decode cX5_tellCount 110 = .ok (.ireturn, 1) := by decide +kernel
theorem dX5_tellCount_111 : decode cX5_tellCount 111 = .ok (.aload_n 0, 1) := by decide +kernel
theorem dX5_tellCount_112 : decode cX5_tellCount 112 = .ok (.getfield 19, 3) := by decide +kernel
theorem dX5_tellCount_115 : decode cX5_tellCount 115 = .ok (.getfield 87, 3) := by decide +kernel
theorem dX5_tellCount_118 : decode cX5_tellCount 118 = .ok (.ireturn, 1) := by decide +kernel
theorem dX5_tellCount_119 : decode cX5_tellCount 119 = .ok (.aload_n 0, 1) := by decide +kernel
theorem dX5_tellCount_120 : decode cX5_tellCount 120 = .ok (.getfield 28, 3) := by decide +kernel
theorem dX5_tellCount_123 : decode cX5_tellCount 123 = .ok (.invokevirtual 245, 3) := by decide +kernel
theorem dX5_tellCount_126 : decode cX5_tellCount 126 = .ok (.ireturn, 1) := by decide +kernel
theorem dX5_tellCount_127 : decode cX5_tellCount 127 = .ok (.aload_n 0, 1) := by decide +kernel
theorem dX5_tellCount_128 : decode cX5_tellCount 128 = .ok (.getfield 28, 3) := by decide +kernel
theorem dX5_tellCount_131 : decode cX5_tellCount 131 = .ok (.invokevirtual 190, 3) := by decide +kernel
theorem dX5_tellCount_134 : decode cX5_tellCount 134 = .ok (.ireturn, 1) := by decide +kernel
theorem dX5_tellCount_135 : decode cX5_tellCount 135 = .ok (.aload_n 0, 1) := by decide +kernel
theorem dX5_tellCount_136 : decode cX5_tellCount 136 = .ok (.getfield 28, 3) := by decide +kernel
theorem dX5_tellCount_139 : decode cX5_tellCount 139 = .ok (.invokevirtual 211, 3) := by decide +kernel
theorem dX5_tellCount_142 : decode cX5_tellCount 142 = .ok (.ireturn, 1) := by decide +kernel
theorem dX5_tellCount_143 : decode cX5_tellCount 143 = .ok (.aload_n 0, 1) := by decide +kernel
theorem dX5_tellCount_144 : decode cX5_tellCount 144 = .ok (.getfield 45, 3) := by decide +kernel
theorem dX5_tellCount_147 : decode cX5_tellCount 147 = .ok (.getfield 138, 3) := by decide +kernel
theorem dX5_tellCount_150 : decode cX5_tellCount 150 = .ok (.ireturn, 1) := by decide +kernel
theorem dX5_tellCount_151 : decode cX5_tellCount 151 = .ok (.aload_n 0, 1) := by decide +kernel
theorem dX5_tellCount_152 : decode cX5_tellCount 152 = .ok (.getfield 45, 3) := by decide +kernel
theorem dX5_tellCount_155 : decode cX5_tellCount 155 = .ok (.invokevirtual 248, 3) := by decide +kernel
theorem dX5_tellCount_158 : decode cX5_tellCount 158 = .ok (.ireturn, 1) := by decide +kernel
set_option maxRecDepth 20000 in
theorem ggX5_snowWithPump_X0_becomeLike : GoodIn wsX5_snowWithPump wsX0_becomeLike := goodIn_r _ [8, 9, 10, 11, 12, 13, 84, 85, 86, 87, 88, 89, 90] (by decide +kernel) (by decide +kernel)
set_option maxRecDepth 20000 in
theorem gX5_snowWithPump_X0_becomeLike : GoodIn wsX5_snowWithPump (wsV RX5 199 RX0 yX0_becomeLike wsX0_becomeLike) := goodIn_app (goodIn_of _ (by decide +kernel)) ggX5_snowWithPump_X0_becomeLike
set_option maxRecDepth 20000 in
theorem ggX5_snowWithPump_X0_letHoursGoBy : GoodIn wsX5_snowWithPump wsX0_letHoursGoBy := goodIn_r _ [17, 18, 19, 20, 7, 21, 22, 23, 11, 24, 25, 26, 13, 27, 28, 29, 30, 31, 32, 33, 34, 35, 36, 37, 38, 39, 40, 41, 42, 43, 44, 45, 12, 46, 47, 48, 49, 50, 51, 52, 53, 10, 54, 55, 56, 57, 58, 59, 60, 9, 61, 62, 63, 64, 65, 66, 67, 68, 69, 70, 71, 84, 85, 86, 87, 88, 89, 90, 91, 92, 93, 94, 95, 96] (by decide +kernel) (by decide +kernel)
set_option maxRecDepth 20000 in
theorem gX5_snowWithPump_X0_letHoursGoBy : GoodIn wsX5_snowWithPump (wsV RX5 193 RX0 yX0_letHoursGoBy wsX0_letHoursGoBy) := goodIn_app (goodIn_of _ (by decide +kernel)) ggX5_snowWithPump_X0_letHoursGoBy
set_option maxRecDepth 20000 in
theorem ggX5_snowWithPump_X0_allSnow : GoodIn wsX5_snowWithPump wsX0_allSnow := goodIn_r _ [75, 9, 76, 55, 77, 84, 85, 86, 87, 88, 89, 90] (by decide +kernel) (by decide +kernel)
set_option maxRecDepth 20000 in
theorem gX5_snowWithPump_X0_allSnow : GoodIn wsX5_snowWithPump (wsV RX5 190 RX0 yX0_allSnow wsX0_allSnow) := goodIn_app (goodIn_of _ (by decide +kernel)) ggX5_snowWithPump_X0_allSnow
theorem dX5_snowWithPump_0 : decode cX5_snowWithPump 0 = .ok (.aload_n 0, 1) := by decide +kernel
theorem dX5_snowWithPump_1 : decode cX5_snowWithPump 1 = .ok (.getfield 32, 3) := by decide +kernel
theorem dX5_snowWithPump_4 : decode cX5_snowWithPump 4 = .ok (.aload_n 0, 1) := by decide +kernel
theorem dX5_snowWithPump_5 : decode cX5_snowWithPump 5 = .ok (.getfield 28, 3) := by decide +kernel
theorem dX5_snowWithPump_8 : decode cX5_snowWithPump 8 = .ok (.invokevirtual 199, 3) := by decide +kernel
theorem dX5_snowWithPump_11 : decode cX5_snowWithPump 11 = .ok (.aload_n 0, 1) := by decide +kernel
theorem dX5_snowWithPump_12 : decode cX5_snowWithPump 12 = .ok (.getfield 32, 3) := by decide +kernel
theorem dX5_snowWithPump_15 : decode cX5_snowWithPump 15 = .ok (.getfield 102, 3) := by decide +kernel
theorem dX5_snowWithPump_18 : decode cX5_snowWithPump 18 = .ok (.iload_n 1, 1) := by decide +kernel
theorem dX5_snowWithPump_19 : decode cX5_snowWithPump 19 = .ok (.iconst 1, 1) := by decide +kernel
theorem dX5_snowWithPump_20 : decode cX5_snowWithPump 20 = .ok (.bastore, 1) := by decide +kernel
theorem dX5_snowWithPump_21 : decode cX5_snowWithPump 21 = .ok (.aload_n 0, 1) := by decide +kernel
theorem dX5_snowWithPump_22 : decode cX5_snowWithPump 22 = .ok (.getfield 32, 3) := by decide +kernel
theorem dX5_snowWithPump_25 : decode cX5_snowWithPump 25 = .ok (.iload_n 2, 1) := by decide +kernel
theorem dX5_snowWithPump_26 : decode cX5_snowWithPump 26 = .ok (.invokevirtual 193, 3) := by decide +kernel
theorem dX5_snowWithPump_29 : decode cX5_snowWithPump 29 = .ok (.aload_n 0, 1) := by decide +kernel
theorem dX5_snowWithPump_30 : decode cX5_snowWithPump 30 = .ok (.getfield 32, 3) := by decide +kernel
theorem dX5_snowWithPump_33 : decode cX5_snowWithPump 33 = .ok (.invokevirtual 190, 3) := by decide +kernel
theorem dX5_snowWithPump_36 : decode cX5_snowWithPump 36 = .ok (.ireturn, 1) := by decide +kernel
set_option maxRecDepth 20000 in
theorem ggX5_lengthFrom_X5_hold : GoodIn wsX5_lengthFrom wsX5_hold := goodIn_r _ [4, 5, 6, 7, 8, 9, 10, 11] (by decide +kernel) (by decide +kernel)
set_option maxRecDepth 20000 in
theorem gX5_lengthFrom_X5_hold : GoodIn wsX5_lengthFrom (va_wsS RX5 251 yX5_hold wsX5_hold) := goodIn_app (goodIn_of _ (by decide +kernel)) ggX5_lengthFrom_X5_hold
theorem dX5_lengthFrom_0 : decode cX5_lengthFrom 0 = .ok (.iconst 4, 1) := by decide +kernel
theorem dX5_lengthFrom_1 : decode cX5_lengthFrom 1 = .ok (.iload_n 0, 1) := by decide +kernel
theorem dX5_lengthFrom_2 : decode cX5_lengthFrom 2 = .ok (.imul, 1) := by decide +kernel
theorem dX5_lengthFrom_3 : decode cX5_lengthFrom 3 = .ok (.iconst 2, 1) := by decide +kernel
theorem dX5_lengthFrom_4 : decode cX5_lengthFrom 4 = .ok (.iload_n 1, 1) := by decide +kernel
theorem dX5_lengthFrom_5 : decode cX5_lengthFrom 5 = .ok (.imul, 1) := by decide +kernel
theorem dX5_lengthFrom_6 : decode cX5_lengthFrom 6 = .ok (.iadd, 1) := by decide +kernel
theorem dX5_lengthFrom_7 : decode cX5_lengthFrom 7 = .ok (.iload_n 2, 1) := by decide +kernel
theorem dX5_lengthFrom_8 : decode cX5_lengthFrom 8 = .ok (.iconst 4, 1) := by decide +kernel
theorem dX5_lengthFrom_9 : decode cX5_lengthFrom 9 = .ok (.idiv, 1) := by decide +kernel
theorem dX5_lengthFrom_10 : decode cX5_lengthFrom 10 = .ok (.iadd, 1) := by decide +kernel
theorem dX5_lengthFrom_11 : decode cX5_lengthFrom 11 = .ok (.iconst 0, 1) := by decide +kernel
theorem dX5_lengthFrom_12 : decode cX5_lengthFrom 12 = .ok (.bipush 99, 2) := by decide +kernel
theorem dX5_lengthFrom_14 : decode cX5_lengthFrom 14 = .ok (.invokestatic 251, 3) := by decide +kernel
theorem dX5_lengthFrom_17 : decode cX5_lengthFrom 17 = .ok (.ireturn, 1) := by decide +kernel
theorem dX5_isOutside_0 : decode cX5_isOutside 0 = .ok (.iload_n 0, 1) := by decide +kernel
theorem dX5_isOutside_1 : decode cX5_isOutside 1 = .ok (.iload_n 1, 1) := by decide +kernel
theorem dX5_isOutside_2 : decode cX5_isOutside 2 = .ok (.if_icmp .lt 8, 3) := by decide +kernel
theorem dX5_isOutside_5 : decode cX5_isOutside 5 = .ok (.iload_n 0, 1) := by decide +kernel
theorem dX5_isOutside_6 : decode cX5_isOutside 6 = .ok (.iload_n 2, 1) := by decide +kernel
theorem dX5_isOutside_7 : decode cX5_isOutside 7 = .ok (.if_icmp .le 7, 3) := by decide +kernel
theorem dX5_isOutside_10 : decode cX5_isOutside 10 = .ok (.iconst 1, 1) := by decide +kernel
theorem dX5_isOutside_11 : decode cX5_isOutside 11 = .ok (.goto 4, 3) := by decide +kernel
theorem dX5_isOutside_14 : decode cX5_isOutside 14 = .ok (.iconst 0, 1) := by decide +kernel
theorem dX5_isOutside_15 : decode cX5_isOutside 15 = .ok (.ireturn, 1) := by decide +kernel
theorem dX5_hold_0 : decode cX5_hold 0 = .ok (.iload_n 1, 1) := by decide +kernel
theorem dX5_hold_1 : decode cX5_hold 1 = .ok (.iload_n 0, 1) := by decide +kernel
theorem dX5_hold_2 : decode cX5_hold 2 = .ok (.iload_n 2, 1) := by decide +kernel
theorem dX5_hold_3 : decode cX5_hold 3 = .ok (.invokestatic 111, 3) := by decide +kernel
theorem dX5_hold_6 : decode cX5_hold 6 = .ok (.invokestatic 254, 3) := by decide +kernel
theorem dX5_hold_9 : decode cX5_hold 9 = .ok (.ireturn, 1) := by decide +kernel
theorem dX5_sum_0 : decode cX5_sum 0 = .ok (.iconst 0, 1) := by decide +kernel
theorem dX5_sum_1 : decode cX5_sum 1 = .ok (.istore_n 1, 1) := by decide +kernel
theorem dX5_sum_2 : decode cX5_sum 2 = .ok (.aload_n 0, 1) := by decide +kernel
theorem dX5_sum_3 : decode cX5_sum 3 = .ok (.astore_n 2, 1) := by decide +kernel
theorem dX5_sum_4 : decode cX5_sum 4 = .ok (.aload_n 2, 1) := by decide +kernel
theorem dX5_sum_5 : decode cX5_sum 5 = .ok (.arraylength, 1) := by decide +kernel
theorem dX5_sum_6 : decode cX5_sum 6 = .ok (.istore_n 3, 1) := by decide +kernel
theorem dX5_sum_7 : decode cX5_sum 7 = .ok (.iconst 0, 1) := by decide +kernel
theorem dX5_sum_8 : decode cX5_sum 8 = .ok (.istore 4, 2) := by decide +kernel
theorem dX5_sum_10 : decode cX5_sum 10 = .ok (.iload 4, 2) := by decide +kernel
theorem dX5_sum_12 : decode cX5_sum 12 = .ok (.iload_n 3, 1) := by decide +kernel
theorem dX5_sum_13 : decode cX5_sum 13 = .ok (.if_icmp .ge 20, 3) := by decide +kernel
theorem dX5_sum_16 : decode cX5_sum 16 = .ok (.aload_n 2, 1) := by decide +kernel
theorem dX5_sum_17 : decode cX5_sum 17 = .ok (.iload 4, 2) := by decide +kernel
theorem dX5_sum_19 : decode cX5_sum 19 = .ok (.iaload, 1) := by decide +kernel
theorem dX5_sum_20 : decode cX5_sum 20 = .ok (.istore 5, 2) := by decide +kernel
theorem dX5_sum_22 : decode cX5_sum 22 = .ok (.iload_n 1, 1) := by decide +kernel
theorem dX5_sum_23 : decode cX5_sum 23 = .ok (.iload 5, 2) := by decide +kernel
theorem dX5_sum_25 : decode cX5_sum 25 = .ok (.iadd, 1) := by decide +kernel
theorem dX5_sum_26 : decode cX5_sum 26 = .ok (.istore_n 1, 1) := by decide +kernel
theorem dX5_sum_27 : decode cX5_sum 27 = .ok (.iinc 4 1, 3) := by decide +kernel
theorem dX5_sum_30 : decode cX5_sum 30 = .ok (.goto (-20), 3) := by decide +kernel
theorem dX5_sum_33 : decode cX5_sum 33 = .ok (.iload_n 1, 1) := by decide +kernel
theorem dX5_sum_34 : decode cX5_sum 34 = .ok (.ireturn, 1) := by decide +kernel
theorem dX6_init_0 : decode cX6_init 0 = .ok (.aload_n 0, 1) := by decide +kernel
theorem dX6_init_1 : decode cX6_init 1 = .ok (.invokespecial 1, 3) := by decide +kernel
theorem dX6_init_4 : decode cX6_init 4 = .ok (.aload_n 0, 1) := by decide +kernel
theorem dX6_init_5 : decode cX6_init 5 = .ok (.bipush 20, 2) := by decide +kernel
theorem dX6_init_7 : decode cX6_init 7 = .ok (.newarray .int, 2) := by decide +kernel
theorem dX6_init_9 : decode cX6_init 9 = .ok (.putfield 7, 3) := by decide +kernel
theorem dX6_init_12 : decode cX6_init 12 = .ok (.aload_n 0, 1) := by decide +kernel
theorem dX6_init_13 : decode cX6_init 13 = .ok (.bipush 20, 2) := by decide +kernel
theorem dX6_init_15 : decode cX6_init 15 = .ok (.newarray .int, 2) := by decide +kernel
theorem dX6_init_17 : decode cX6_init 17 = .ok (.putfield 13, 3) := by decide +kernel
theorem dX6_init_20 : decode cX6_init 20 = .ok (.aload_n 0, 1) := by decide +kernel
theorem dX6_init_21 : decode cX6_init 21 = .ok (.bipush 24, 2) := by decide +kernel
theorem dX6_init_23 : decode cX6_init 23 = .ok (.anewarray 16, 3) := by decide +kernel
theorem dX6_init_26 : decode cX6_init 26 = .ok (.putfield 17, 3) := by decide +kernel
theorem dX6_init_29 : decode cX6_init 29 = .ok (.aload_n 0, 1) := by decide +kernel
theorem dX6_init_30 : decode cX6_init 30 = .ok (.iconst 5, 1) := by decide +kernel
theorem dX6_init_31 : decode cX6_init 31 = .ok (.anewarray 16, 3) := by decide +kernel
theorem dX6_init_34 : decode cX6_init 34 = .ok (.putfield 21, 3) := by decide +kernel
theorem dX6_init_37 : decode cX6_init 37 = .ok (.aload_n 0, 1) := by decide +kernel
theorem dX6_init_38 : decode cX6_init 38 = .ok (.iconst 5, 1) := by decide +kernel
theorem dX6_init_39 : decode cX6_init 39 = .ok (.newarray .int, 2) := by decide +kernel
theorem dX6_init_41 : decode cX6_init 41 = .ok (.dup, 1) := by decide +kernel
theorem dX6_init_42 : decode cX6_init 42 = .ok (.iconst 0, 1) := by decide +kernel
theorem dX6_init_43 : decode cX6_init 43 = .ok (.iconst 0, 1) := by decide +kernel
theorem dX6_init_44 : decode cX6_init 44 = .ok (.iastore, 1) := by decide +kernel
theorem dX6_init_45 : decode cX6_init 45 = .ok (.dup, 1) := by decide +kernel
theorem dX6_init_46 : decode cX6_init 46 = .ok (.iconst 1, 1) := by decide +kernel
theorem dX6_init_47 : decode cX6_init 47 = .ok (.iconst 1, 1) := by decide +kernel
theorem dX6_init_48 : decode cX6_init 48 = .ok (.iastore, 1) := by decide +kernel
theorem dX6_init_49 : decode cX6_init 49 = .ok (.dup, 1) := by decide +kernel
theorem dX6_init_50 : decode cX6_init 50 = .ok (.iconst 2, 1) := by decide +kernel
theorem dX6_init_51 : decode cX6_init 51 = .ok (.iconst 2, 1) := by decide +kernel
theorem dX6_init_52 : decode cX6_init 52 = .ok (.iastore, 1) := by decide +kernel
theorem dX6_init_53 : decode cX6_init 53 = .ok (.dup, 1) := by decide +kernel
theorem dX6_init_54 : decode cX6_init 54 = .ok (.iconst 3, 1) := by decide +kernel
theorem dX6_init_55 : decode cX6_init 55 = .ok (.iconst 3, 1) := by decide +kernel
theorem dX6_init_56 : decode cX6_init 56 = .ok (.iastore, 1) := by decide +kernel
theorem dX6_init_57 : decode cX6_init 57 = .ok (.dup, 1) := by decide +kernel
theorem dX6_init_58 : decode cX6_init 58 = .ok (.iconst 4, 1) := by decide +kernel
theorem dX6_init_59 : decode cX6_init 59 = .ok (.iconst 4, 1) := by decide +kernel
theorem dX6_init_60 : decode cX6_init 60 = .ok (.iastore, 1) := by decide +kernel
theorem dX6_init_61 : decode cX6_init 61 = .ok (.putfield 24, 3) := by decide +kernel
theorem dX6_init_64 : decode cX6_init 64 = .ok (.aload_n 0, 1) := by decide +kernel
theorem dX6_init_65 : decode cX6_init 65 = .ok (.bipush 30, 2) := by decide +kernel
theorem dX6_init_67 : decode cX6_init 67 = .ok (.anewarray 16, 3) := by decide +kernel
theorem dX6_init_70 : decode cX6_init 70 = .ok (.putfield 27, 3) := by decide +kernel
theorem dX6_init_73 : decode cX6_init 73 = .ok (.iconst 0, 1) := by decide +kernel
theorem dX6_init_74 : decode cX6_init 74 = .ok (.istore_n 1, 1) := by decide +kernel
theorem dX6_init_75 : decode cX6_init 75 = .ok (.iload_n 1, 1) := by decide +kernel
theorem dX6_init_76 : decode cX6_init 76 = .ok (.bipush 24, 2) := by decide +kernel
theorem dX6_init_78 : decode cX6_init 78 = .ok (.if_icmp .ge 32, 3) := by decide +kernel
theorem dX6_init_81 : decode cX6_init 81 = .ok (.aload_n 0, 1) := by decide +kernel
theorem dX6_init_82 : decode cX6_init 82 = .ok (.getfield 17, 3) := by decide +kernel
theorem dX6_init_85 : decode cX6_init 85 = .ok (.iload_n 1, 1) := by decide +kernel
theorem dX6_init_86 : decode cX6_init 86 = .ok (.iconst 3, 1) := by decide +kernel
theorem dX6_init_87 : decode cX6_init 87 = .ok (.newarray .int, 2) := by decide +kernel
theorem dX6_init_89 : decode cX6_init 89 = .ok (.dup, 1) := by decide +kernel
theorem dX6_init_90 : decode cX6_init 90 = .ok (.iconst 0, 1) := by decide +kernel
theorem dX6_init_91 : decode cX6_init 91 = .ok (.bipush (-5), 2) := by decide +kernel
theorem dX6_init_93 : decode cX6_init 93 = .ok (.iastore, 1) := by decide +kernel
theorem dX6_init_94 : decode cX6_init 94 = .ok (.dup, 1) := by decide +kernel
theorem dX6_init_95 : decode cX6_init 95 = .ok (.iconst 1, 1) := by decide +kernel
theorem dX6_init_96 : decode cX6_init 96 = .ok (.bipush 50, 2) := by decide +kernel
theorem dX6_init_98 : decode cX6_init 98 = .ok (.iastore, 1) := by decide +kernel
theorem dX6_init_99 : decode cX6_init 99 = .ok (.dup, 1) := by decide +kernel
theorem dX6_init_100 : decode cX6_init 100 = .ok (.iconst 2, 1) := by decide +kernel
theorem dX6_init_101 : decode cX6_init 101 = .ok (.iconst 0, 1) := by decide +kernel
theorem dX6_init_102 : decode cX6_init 102 = .ok (.iastore, 1) := by decide +kernel
theorem dX6_init_103 : decode cX6_init 103 = .ok (.aastore, 1) := by decide +kernel
theorem dX6_init_104 : decode cX6_init 104 = .ok (.iinc 1 1, 3) := by decide +kernel
theorem dX6_init_107 : decode cX6_init 107 = .ok (.goto (-32), 3) := by decide +kernel
theorem dX6_init_110 : decode cX6_init 110 = .ok (.return_, 1) := by decide +kernel
theorem dX6_wet_0 : decode cX6_wet 0 = .ok (.aload_n 1, 1) := by decide +kernel
theorem dX6_wet_1 : decode cX6_wet 1 = .ok (.iconst 0, 1) := by decide +kernel
theorem dX6_wet_2 : decode cX6_wet 2 = .ok (.iaload, 1) := by decide +kernel
theorem dX6_wet_3 : decode cX6_wet 3 = .ok (.bipush 100, 2) := by decide +kernel
theorem dX6_wet_5 : decode cX6_wet 5 = .ok (.aload_n 1, 1) := by decide +kernel
theorem dX6_wet_6 : decode cX6_wet 6 = .ok (.iconst 1, 1) := by decide +kernel
theorem dX6_wet_7 : decode cX6_wet 7 = .ok (.iaload, 1) := by decide +kernel
theorem dX6_wet_8 : decode cX6_wet 8 = .ok (.isub, 1) := by decide +kernel
theorem dX6_wet_9 : decode cX6_wet 9 = .ok (.bipush 10, 2) := by decide +kernel
theorem dX6_wet_11 : decode cX6_wet 11 = .ok (.idiv, 1) := by decide +kernel
theorem dX6_wet_12 : decode cX6_wet 12 = .ok (.isub, 1) := by decide +kernel
theorem dX6_wet_13 : decode cX6_wet 13 = .ok (.ireturn, 1) := by decide +kernel
theorem dX6_lay_0 : decode cX6_lay 0 = .ok (.iload_n 1, 1) := by decide +kernel
theorem dX6_lay_1 : decode cX6_lay 1 = .ok (.ifCond .lt 9, 3) := by decide +kernel
theorem dX6_lay_4 : decode cX6_lay 4 = .ok (.iload_n 1, 1) := by decide +kernel
theorem dX6_lay_5 : decode cX6_lay 5 = .ok (.bipush 19, 2) := by decide +kernel
theorem dX6_lay_7 : decode cX6_lay 7 = .ok (.if_icmp .le 4, 3) := by decide +kernel
theorem dX6_lay_10 : decode cX6_lay 10 = .ok (.return_, 1) := by decide +kernel
theorem dX6_lay_11 : decode cX6_lay 11 = .ok (.aload_n 0, 1) := by decide +kernel
theorem dX6_lay_12 : decode cX6_lay 12 = .ok (.getfield 7, 3) := by decide +kernel
theorem dX6_lay_15 : decode cX6_lay 15 = .ok (.iload_n 1, 1) := by decide +kernel
theorem dX6_lay_16 : decode cX6_lay 16 = .ok (.dup2, 1) := by decide +kernel
theorem dX6_lay_17 : decode cX6_lay 17 = .ok (.iaload, 1) := by decide +kernel
theorem dX6_lay_18 : decode cX6_lay 18 = .ok (.iload_n 2, 1) := by decide +kernel
theorem dX6_lay_19 : decode cX6_lay 19 = .ok (.iadd, 1) := by decide +kernel
theorem dX6_lay_20 : decode cX6_lay 20 = .ok (.iastore, 1) := by decide +kernel
theorem dX6_lay_21 : decode cX6_lay 21 = .ok (.aload_n 0, 1) := by decide +kernel
theorem dX6_lay_22 : decode cX6_lay 22 = .ok (.getfield 7, 3) := by decide +kernel
theorem dX6_lay_25 : decode cX6_lay 25 = .ok (.iload_n 1, 1) := by decide +kernel
theorem dX6_lay_26 : decode cX6_lay 26 = .ok (.iaload, 1) := by decide +kernel
theorem dX6_lay_27 : decode cX6_lay 27 = .ok (.sipush 300, 3) := by decide +kernel
theorem dX6_lay_30 : decode cX6_lay 30 = .ok (.if_icmp .le 12, 3) := by decide +kernel
theorem dX6_lay_33 : decode cX6_lay 33 = .ok (.aload_n 0, 1) := by decide +kernel
theorem dX6_lay_34 : decode cX6_lay 34 = .ok (.getfield 7, 3) := by decide +kernel
theorem dX6_lay_37 : decode cX6_lay 37 = .ok (.iload_n 1, 1) := by decide +kernel
theorem dX6_lay_38 : decode cX6_lay 38 = .ok (.sipush 300, 3) := by decide +kernel
theorem dX6_lay_41 : decode cX6_lay 41 = .ok (.iastore, 1) := by decide +kernel
theorem dX6_lay_42 : decode cX6_lay 42 = .ok (.return_, 1) := by decide +kernel
set_option maxRecDepth 20000 in
theorem ggX6_pass_X6_wet : GoodIn wsX6_pass wsX6_wet := goodIn_r _ [12] (by decide +kernel) (by decide +kernel)
set_option maxRecDepth 20000 in
theorem gX6_pass_X6_wet : GoodIn wsX6_pass (wsV RX6 34 RX6 yX6_wet wsX6_wet) := goodIn_app (goodIn_of _ (by decide +kernel)) ggX6_pass_X6_wet
set_option maxRecDepth 20000 in
theorem ggX6_pass_X6_lay : GoodIn wsX6_pass wsX6_lay := goodIn_r _ [16, 7, 17, 18, 19, 20, 21, 22, 23, 24, 25, 26] (by decide +kernel) (by decide +kernel)
set_option maxRecDepth 20000 in
theorem gX6_pass_X6_lay : GoodIn wsX6_pass (wsV RX6 44 RX6 yX6_lay wsX6_lay) := goodIn_app (goodIn_of _ (by decide +kernel)) ggX6_pass_X6_lay
theorem dX6_pass_0 : decode cX6_pass 0 = .ok (.aload_n 0, 1) := by decide +kernel
theorem dX6_pass_1 : decode cX6_pass 1 = .ok (.getfield 17, 3) := by decide +kernel
theorem dX6_pass_4 : decode cX6_pass 4 = .ok (.aload_n 0, 1) := by decide +kernel
theorem dX6_pass_5 : decode cX6_pass 5 = .ok (.getfield 30, 3) := by decide +kernel
theorem dX6_pass_8 : decode cX6_pass 8 = .ok (.bipush 24, 2) := by decide +kernel
theorem dX6_pass_10 : decode cX6_pass 10 = .ok (.irem, 1) := by decide +kernel
theorem dX6_pass_11 : decode cX6_pass 11 = .ok (.aaload, 1) := by decide +kernel
theorem dX6_pass_12 : decode cX6_pass 12 = .ok (.astore_n 1, 1) := by decide +kernel
theorem dX6_pass_13 : decode cX6_pass 13 = .ok (.aload_n 0, 1) := by decide +kernel
theorem dX6_pass_14 : decode cX6_pass 14 = .ok (.aload_n 1, 1) := by decide +kernel
theorem dX6_pass_15 : decode cX6_pass 15 = .ok (.invokevirtual 34, 3) := by decide +kernel
theorem dX6_pass_18 : decode cX6_pass 18 = .ok (.ineg, 1) := by decide +kernel
theorem dX6_pass_19 : decode cX6_pass 19 = .ok (.istore_n 2, 1) := by decide +kernel
theorem dX6_pass_20 : decode cX6_pass 20 = .ok (.iconst 0, 1) := by decide +kernel
theorem dX6_pass_21 : decode cX6_pass 21 = .ok (.istore_n 3, 1) := by decide +kernel
theorem dX6_pass_22 : decode cX6_pass 22 = .ok (.iload_n 3, 1) := by decide +kernel
theorem dX6_pass_23 : decode cX6_pass 23 = .ok (.aload_n 0, 1) := by decide +kernel
theorem dX6_pass_24 : decode cX6_pass 24 = .ok (.getfield 38, 3) := by decide +kernel
theorem dX6_pass_27 : decode cX6_pass 27 = .ok (.if_icmp .ge 145, 3) := by decide +kernel
theorem dX6_pass_30 : decode cX6_pass 30 = .ok (.aload_n 0, 1) := by decide +kernel
theorem dX6_pass_31 : decode cX6_pass 31 = .ok (.getfield 21, 3) := by decide +kernel
theorem dX6_pass_34 : decode cX6_pass 34 = .ok (.iload_n 3, 1) := by decide +kernel
theorem dX6_pass_35 : decode cX6_pass 35 = .ok (.aaload, 1) := by decide +kernel
theorem dX6_pass_36 : decode cX6_pass 36 = .ok (.astore 4, 2) := by decide +kernel
theorem dX6_pass_38 : decode cX6_pass 38 = .ok (.aload 4, 2) := by decide +kernel
theorem dX6_pass_40 : decode cX6_pass 40 = .ok (.iconst 2, 1) := by decide +kernel
theorem dX6_pass_41 : decode cX6_pass 41 = .ok (.iaload, 1) := by decide +kernel
theorem dX6_pass_42 : decode cX6_pass 42 = .ok (.ifCond .eq 124, 3) := by decide +kernel
theorem dX6_pass_45 : decode cX6_pass 45 = .ok (.aload_n 0, 1) := by decide +kernel
theorem dX6_pass_46 : decode cX6_pass 46 = .ok (.getfield 41, 3) := by decide +kernel
theorem dX6_pass_49 : decode cX6_pass 49 = .ok (.aload 4, 2) := by decide +kernel
theorem dX6_pass_51 : decode cX6_pass 51 = .ok (.iconst 1, 1) := by decide +kernel
theorem dX6_pass_52 : decode cX6_pass 52 = .ok (.iaload, 1) := by decide +kernel
theorem dX6_pass_53 : decode cX6_pass 53 = .ok (.if_icmp .ge 6, 3) := by decide +kernel
theorem dX6_pass_56 : decode cX6_pass 56 = .ok (.goto 110, 3) := by decide +kernel
theorem dX6_pass_59 : decode cX6_pass 59 = .ok (.aload_n 0, 1) := by decide +kernel
theorem dX6_pass_60 : decode cX6_pass 60 = .ok (.dup, 1) := by decide +kernel
theorem dX6_pass_61 : decode cX6_pass 61 = .ok (.getfield 41, 3) := by decide +kernel
theorem dX6_pass_64 : decode cX6_pass 64 = .ok (.aload 4, 2) := by decide +kernel
theorem dX6_pass_66 : decode cX6_pass 66 = .ok (.iconst 1, 1) := by decide +kernel
theorem dX6_pass_67 : decode cX6_pass 67 = .ok (.iaload, 1) := by decide +kernel
theorem dX6_pass_68 : decode cX6_pass 68 = .ok (.isub, 1) := by decide +kernel
theorem dX6_pass_69 : decode cX6_pass 69 = .ok (.putfield 41, 3) := by decide +kernel
theorem dX6_pass_72 : decode cX6_pass 72 = .ok (.iload_n 2, 1) := by decide +kernel
theorem dX6_pass_73 : decode cX6_pass 73 = .ok (.iconst 2, 1) := by decide +kernel
theorem dX6_pass_74 : decode cX6_pass 74 = .ok (.if_icmp .lt 65, 3) := by decide +kernel
theorem dX6_pass_77 : decode cX6_pass 77 = .ok (.aload 4, 2) := by decide +kernel
theorem dX6_pass_79 : decode cX6_pass 79 = .ok (.iconst 1, 1) := by decide +kernel
theorem dX6_pass_80 : decode cX6_pass 80 = .ok (.iaload, 1) := by decide +kernel
theorem dX6_pass_81 : decode cX6_pass 81 = .ok (.iload_n 2, 1) := by decide +kernel
theorem dX6_pass_82 : decode cX6_pass 82 = .ok (.bipush 8, 2) := by decide +kernel
theorem dX6_pass_84 : decode cX6_pass 84 = .ok (.if_icmp .le 8, 3) := by decide +kernel
theorem dX6_pass_87 : decode cX6_pass 87 = .ok (.bipush 8, 2) := by decide +kernel
theorem dX6_pass_89 : decode cX6_pass 89 = .ok (.goto 4, 3) := by decide +kernel
theorem dX6_pass_92 : decode cX6_pass 92 = .ok (.iload_n 2, 1) := by decide +kernel
theorem dX6_pass_93 : decode cX6_pass 93 = .ok (.imul, 1) := by decide +kernel
theorem dX6_pass_94 : decode cX6_pass 94 = .ok (.istore 5, 2) := by decide +kernel
theorem dX6_pass_96 : decode cX6_pass 96 = .ok (.aload_n 0, 1) := by decide +kernel
theorem dX6_pass_97 : decode cX6_pass 97 = .ok (.aload 4, 2) := by decide +kernel
theorem dX6_pass_99 : decode cX6_pass 99 = .ok (.iconst 0, 1) := by decide +kernel
theorem dX6_pass_100 : decode cX6_pass 100 = .ok (.iaload, 1) := by decide +kernel
theorem dX6_pass_101 : decode cX6_pass 101 = .ok (.iconst 1, 1) := by decide +kernel
theorem dX6_pass_102 : decode cX6_pass 102 = .ok (.isub, 1) := by decide +kernel
theorem dX6_pass_103 : decode cX6_pass 103 = .ok (.iload 5, 2) := by decide +kernel
theorem dX6_pass_105 : decode cX6_pass 105 = .ok (.iconst 4, 1) := by decide +kernel
theorem dX6_pass_106 : decode cX6_pass 106 = .ok (.idiv, 1) := by decide +kernel
theorem dX6_pass_107 : decode cX6_pass 107 = .ok (.invokevirtual 44, 3) := by decide +kernel
theorem dX6_pass_110 : decode cX6_pass 110 = .ok (.aload_n 0, 1) := by decide +kernel
theorem dX6_pass_111 : decode cX6_pass 111 = .ok (.aload 4, 2) := by decide +kernel
theorem dX6_pass_113 : decode cX6_pass 113 = .ok (.iconst 0, 1) := by decide +kernel
theorem dX6_pass_114 : decode cX6_pass 114 = .ok (.iaload, 1) := by decide +kernel
theorem dX6_pass_115 : decode cX6_pass 115 = .ok (.iload 5, 2) := by decide +kernel
theorem dX6_pass_117 : decode cX6_pass 117 = .ok (.iconst 2, 1) := by decide +kernel
theorem dX6_pass_118 : decode cX6_pass 118 = .ok (.idiv, 1) := by decide +kernel
theorem dX6_pass_119 : decode cX6_pass 119 = .ok (.invokevirtual 44, 3) := by decide +kernel
theorem dX6_pass_122 : decode cX6_pass 122 = .ok (.aload_n 0, 1) := by decide +kernel
theorem dX6_pass_123 : decode cX6_pass 123 = .ok (.aload 4, 2) := by decide +kernel
theorem dX6_pass_125 : decode cX6_pass 125 = .ok (.iconst 0, 1) := by decide +kernel
theorem dX6_pass_126 : decode cX6_pass 126 = .ok (.iaload, 1) := by decide +kernel
theorem dX6_pass_127 : decode cX6_pass 127 = .ok (.iconst 1, 1) := by decide +kernel
theorem dX6_pass_128 : decode cX6_pass 128 = .ok (.iadd, 1) := by decide +kernel
theorem dX6_pass_129 : decode cX6_pass 129 = .ok (.iload 5, 2) := by decide +kernel
theorem dX6_pass_131 : decode cX6_pass 131 = .ok (.iconst 4, 1) := by decide +kernel
theorem dX6_pass_132 : decode cX6_pass 132 = .ok (.idiv, 1) := by decide +kernel
theorem dX6_pass_133 : decode cX6_pass 133 = .ok (.invokevirtual 44, 3) := by decide +kernel
theorem dX6_pass_136 : decode cX6_pass 136 = .ok (.goto 30, 3) := by decide +kernel
theorem dX6_pass_139 : decode cX6_pass 139 = .ok (.aload_n 0, 1) := by decide +kernel
theorem dX6_pass_140 : decode cX6_pass 140 = .ok (.getfield 13, 3) := by decide +kernel
theorem dX6_pass_143 : decode cX6_pass 143 = .ok (.aload 4, 2) := by decide +kernel
theorem dX6_pass_145 : decode cX6_pass 145 = .ok (.iconst 0, 1) := by decide +kernel
theorem dX6_pass_146 : decode cX6_pass 146 = .ok (.iaload, 1) := by decide +kernel
theorem dX6_pass_147 : decode cX6_pass 147 = .ok (.iaload, 1) := by decide +kernel
theorem dX6_pass_148 : decode cX6_pass 148 = .ok (.bipush 50, 2) := by decide +kernel
theorem dX6_pass_150 : decode cX6_pass 150 = .ok (.if_icmp .ge 16, 3) := by decide +kernel
theorem dX6_pass_153 : decode cX6_pass 153 = .ok (.aload_n 0, 1) := by decide +kernel
theorem dX6_pass_154 : decode cX6_pass 154 = .ok (.getfield 13, 3) := by decide +kernel
theorem dX6_pass_157 : decode cX6_pass 157 = .ok (.aload 4, 2) := by decide +kernel
theorem dX6_pass_159 : decode cX6_pass 159 = .ok (.iconst 0, 1) := by decide +kernel
theorem dX6_pass_160 : decode cX6_pass 160 = .ok (.iaload, 1) := by decide +kernel
theorem dX6_pass_161 : decode cX6_pass 161 = .ok (.dup2, 1) := by decide +kernel
theorem dX6_pass_162 : decode cX6_pass 162 = .ok (.iaload, 1) := by decide +kernel
theorem dX6_pass_163 : decode cX6_pass 163 = .ok (.iconst 1, 1) := by decide +kernel
theorem dX6_pass_164 : decode cX6_pass 164 = .ok (.iadd, 1) := by decide +kernel
theorem dX6_pass_165 : decode cX6_pass 165 = .ok (.iastore, 1) := by decide +kernel
theorem dX6_pass_166 : decode cX6_pass 166 = .ok (.iinc 3 1, 3) := by decide +kernel
theorem dX6_pass_169 : decode cX6_pass 169 = .ok (.goto (-147), 3) := by decide +kernel
theorem dX6_pass_172 : decode cX6_pass 172 = .ok (.iconst 0, 1) := by decide +kernel
theorem dX6_pass_173 : decode cX6_pass 173 = .ok (.istore_n 3, 1) := by decide +kernel
theorem dX6_pass_174 : decode cX6_pass 174 = .ok (.iload_n 3, 1) := by decide +kernel
theorem dX6_pass_175 : decode cX6_pass 175 = .ok (.bipush 20, 2) := by decide +kernel
theorem dX6_pass_177 : decode cX6_pass 177 = .ok (.if_icmp .ge 69, 3) := by decide +kernel
theorem dX6_pass_180 : decode cX6_pass 180 = .ok (.aload_n 1, 1) := by decide +kernel
theorem dX6_pass_181 : decode cX6_pass 181 = .ok (.iconst 0, 1) := by decide +kernel
theorem dX6_pass_182 : decode cX6_pass 182 = .ok (.iaload, 1) := by decide +kernel
theorem dX6_pass_183 : decode cX6_pass 183 = .ok (.ifCond .gt 6, 3) := by decide +kernel
theorem dX6_pass_186 : decode cX6_pass 186 = .ok (.goto 54, 3) := by decide +kernel
theorem dX6_pass_189 : decode cX6_pass 189 = .ok (.aload_n 0, 1) := by decide +kernel
theorem dX6_pass_190 : decode cX6_pass 190 = .ok (.getfield 7, 3) := by decide +kernel
theorem dX6_pass_193 : decode cX6_pass 193 = .ok (.iload_n 3, 1) := by decide +kernel
theorem dX6_pass_194 : decode cX6_pass 194 = .ok (.aload_n 0, 1) := by decide +kernel
theorem dX6_pass_195 : decode cX6_pass 195 = .ok (.getfield 7, 3) := by decide +kernel
theorem dX6_pass_198 : decode cX6_pass 198 = .ok (.iload_n 3, 1) := by decide +kernel
theorem dX6_pass_199 : decode cX6_pass 199 = .ok (.iaload, 1) := by decide +kernel
theorem dX6_pass_200 : decode cX6_pass 200 = .ok (.aload_n 1, 1) := by decide +kernel
theorem dX6_pass_201 : decode cX6_pass 201 = .ok (.iconst 0, 1) := by decide +kernel
theorem dX6_pass_202 : decode cX6_pass 202 = .ok (.iaload, 1) := by decide +kernel
theorem dX6_pass_203 : decode cX6_pass 203 = .ok (.if_icmp .ge 7, 3) := by decide +kernel
theorem dX6_pass_206 : decode cX6_pass 206 = .ok (.iconst 0, 1) := by decide +kernel
theorem dX6_pass_207 : decode cX6_pass 207 = .ok (.goto 13, 3) := by decide +kernel
theorem dX6_pass_210 : decode cX6_pass 210 = .ok (.aload_n 0, 1) := by decide +kernel
theorem dX6_pass_211 : decode cX6_pass 211 = .ok (.getfield 7, 3) := by decide +kernel
theorem dX6_pass_214 : decode cX6_pass 214 = .ok (.iload_n 3, 1) := by decide +kernel
theorem dX6_pass_215 : decode cX6_pass 215 = .ok (.iaload, 1) := by decide +kernel
theorem dX6_pass_216 : decode cX6_pass 216 = .ok (.aload_n 1, 1) := by decide +kernel
theorem dX6_pass_217 : decode cX6_pass 217 = .ok (.iconst 0, 1) := by decide +kernel
theorem dX6_pass_218 : decode cX6_pass 218 = .ok (.iaload, 1) := by decide +kernel
theorem dX6_pass_219 : decode cX6_pass 219 = .ok (.isub, 1) := by decide +kernel
theorem dX6_pass_220 : decode cX6_pass 220 = .ok (.iastore, 1) := by decide +kernel
theorem dX6_pass_221 : decode cX6_pass 221 = .ok (.aload_n 0, 1) := by decide +kernel
theorem dX6_pass_222 : decode cX6_pass 222 = .ok (.getfield 13, 3) := by decide +kernel
theorem dX6_pass_225 : decode cX6_pass 225 = .ok (.iload_n 3, 1) := by decide +kernel
theorem dX6_pass_226 : decode cX6_pass 226 = .ok (.iaload, 1) := by decide +kernel
theorem dX6_pass_227 : decode cX6_pass 227 = .ok (.ifCond .le 13, 3) := by decide +kernel
theorem dX6_pass_230 : decode cX6_pass 230 = .ok (.aload_n 0, 1) := by decide +kernel
theorem dX6_pass_231 : decode cX6_pass 231 = .ok (.getfield 13, 3) := by decide +kernel
theorem dX6_pass_234 : decode cX6_pass 234 = .ok (.iload_n 3, 1) := by decide +kernel
theorem dX6_pass_235 : decode cX6_pass 235 = .ok (.dup2, 1) := by decide +kernel
theorem dX6_pass_236 : decode cX6_pass 236 = .ok (.iaload, 1) := by decide +kernel
theorem dX6_pass_237 : decode cX6_pass 237 = .ok (.iconst 1, 1) := by decide +kernel
theorem dX6_pass_238 : decode cX6_pass 238 = .ok (.isub, 1) := by decide +kernel
theorem dX6_pass_239 : decode cX6_pass 239 = .ok (.iastore, 1) := by decide +kernel
theorem dX6_pass_240 : decode cX6_pass 240 = .ok (.iinc 3 1, 3) := by decide +kernel
theorem dX6_pass_243 : decode cX6_pass 243 = .ok (.goto (-69), 3) := by decide +kernel
theorem dX6_pass_246 : decode cX6_pass 246 = .ok (.aload_n 0, 1) := by decide +kernel
theorem dX6_pass_247 : decode cX6_pass 247 = .ok (.dup, 1) := by decide +kernel
theorem dX6_pass_248 : decode cX6_pass 248 = .ok (.getfield 30, 3) := by decide +kernel
theorem dX6_pass_251 : decode cX6_pass 251 = .ok (.iconst 1, 1) := by decide +kernel
theorem dX6_pass_252 : decode cX6_pass 252 = .ok (.iadd, 1) := by decide +kernel
theorem dX6_pass_253 : decode cX6_pass 253 = .ok (.putfield 30, 3) := by decide +kernel
theorem dX6_pass_256 : decode cX6_pass 256 = .ok (.return_, 1) := by decide +kernel
theorem dX6_falls_0 : decode cX6_falls 0 = .ok (.aload_n 0, 1) := by decide +kernel
theorem dX6_falls_1 : decode cX6_falls 1 = .ok (.getfield 7, 3) := by decide +kernel
theorem dX6_falls_4 : decode cX6_falls 4 = .ok (.iload_n 1, 1) := by decide +kernel
theorem dX6_falls_5 : decode cX6_falls 5 = .ok (.iaload, 1) := by decide +kernel
theorem dX6_falls_6 : decode cX6_falls 6 = .ok (.bipush 30, 2) := by decide +kernel
theorem dX6_falls_8 : decode cX6_falls 8 = .ok (.if_icmp .lt 14, 3) := by decide +kernel
theorem dX6_falls_11 : decode cX6_falls 11 = .ok (.aload_n 0, 1) := by decide +kernel
theorem dX6_falls_12 : decode cX6_falls 12 = .ok (.getfield 13, 3) := by decide +kernel
theorem dX6_falls_15 : decode cX6_falls 15 = .ok (.iload_n 1, 1) := by decide +kernel
theorem dX6_falls_16 : decode cX6_falls 16 = .ok (.iaload, 1) := by decide +kernel
theorem dX6_falls_17 : decode cX6_falls 17 = .ok (.bipush 9, 2) := by decide +kernel
theorem dX6_falls_19 : decode cX6_falls 19 = .ok (.if_icmp .le 7, 3) := by decide +kernel
theorem dX6_falls_22 : decode cX6_falls 22 = .ok (.iconst 1, 1) := by decide +kernel
theorem dX6_falls_23 : decode cX6_falls 23 = .ok (.goto 4, 3) := by decide +kernel
theorem dX6_falls_26 : decode cX6_falls 26 = .ok (.iconst 0, 1) := by decide +kernel
theorem dX6_falls_27 : decode cX6_falls 27 = .ok (.ireturn, 1) := by decide +kernel
theorem dX6_length_0 : decode cX6_length 0 = .ok (.iconst 4, 1) := by decide +kernel
theorem dX6_length_1 : decode cX6_length 1 = .ok (.iload_n 1, 1) := by decide +kernel
theorem dX6_length_2 : decode cX6_length 2 = .ok (.imul, 1) := by decide +kernel
theorem dX6_length_3 : decode cX6_length 3 = .ok (.iconst 2, 1) := by decide +kernel
theorem dX6_length_4 : decode cX6_length 4 = .ok (.aload_n 0, 1) := by decide +kernel
theorem dX6_length_5 : decode cX6_length 5 = .ok (.getfield 17, 3) := by decide +kernel
theorem dX6_length_8 : decode cX6_length 8 = .ok (.aload_n 0, 1) := by decide +kernel
theorem dX6_length_9 : decode cX6_length 9 = .ok (.getfield 30, 3) := by decide +kernel
theorem dX6_length_12 : decode cX6_length 12 = .ok (.bipush 24, 2) := by decide +kernel
theorem dX6_length_14 : decode cX6_length 14 = .ok (.irem, 1) := by decide +kernel
theorem dX6_length_15 : decode cX6_length 15 = .ok (.aaload, 1) := by decide +kernel
theorem dX6_length_16 : decode cX6_length 16 = .ok (.iconst 2, 1) := by decide +kernel
theorem dX6_length_17 : decode cX6_length 17 = .ok (.iaload, 1) := by decide +kernel
theorem dX6_length_18 : decode cX6_length 18 = .ok (.imul, 1) := by decide +kernel
theorem dX6_length_19 : decode cX6_length 19 = .ok (.iadd, 1) := by decide +kernel
theorem dX6_length_20 : decode cX6_length 20 = .ok (.iload_n 2, 1) := by decide +kernel
theorem dX6_length_21 : decode cX6_length 21 = .ok (.iconst 4, 1) := by decide +kernel
theorem dX6_length_22 : decode cX6_length 22 = .ok (.idiv, 1) := by decide +kernel
theorem dX6_length_23 : decode cX6_length 23 = .ok (.iadd, 1) := by decide +kernel
theorem dX6_length_24 : decode cX6_length 24 = .ok (.istore_n 3, 1) := by decide +kernel
theorem dX6_length_25 : decode cX6_length 25 = .ok (.iload_n 3, 1) := by decide +kernel
theorem dX6_length_26 : decode cX6_length 26 = .ok (.ifCond .ge 7, 3) := by decide +kernel
theorem dX6_length_29 : decode cX6_length 29 = .ok (.iconst 0, 1) := by decide +kernel
theorem dX6_length_30 : decode cX6_length 30 = .ok (.goto 15, 3) := by decide +kernel
theorem dX6_length_33 : decode cX6_length 33 = .ok (.iload_n 3, 1) := by decide +kernel
theorem dX6_length_34 : decode cX6_length 34 = .ok (.bipush 99, 2) := by decide +kernel
theorem dX6_length_36 : decode cX6_length 36 = .ok (.if_icmp .le 8, 3) := by decide +kernel
theorem dX6_length_39 : decode cX6_length 39 = .ok (.bipush 99, 2) := by decide +kernel
theorem dX6_length_41 : decode cX6_length 41 = .ok (.goto 4, 3) := by decide +kernel
theorem dX6_length_44 : decode cX6_length 44 = .ok (.iload_n 3, 1) := by decide +kernel
theorem dX6_length_45 : decode cX6_length 45 = .ok (.ireturn, 1) := by decide +kernel
set_option maxRecDepth 20000 in
theorem ggX6_jump_X6_length : GoodIn wsX6_jump wsX6_length := goodIn_r _ [16, 1, 2, 38, 39, 40, 41, 42, 43, 44, 45, 46, 47] (by decide +kernel) (by decide +kernel)
set_option maxRecDepth 20000 in
theorem gX6_jump_X6_length : GoodIn wsX6_jump (wsV RX6 48 RX6 yX6_length wsX6_length) := goodIn_app (goodIn_of _ (by decide +kernel)) ggX6_jump_X6_length
set_option maxRecDepth 20000 in
theorem ggX6_jump_X6_falls : GoodIn wsX6_jump wsX6_falls := goodIn_r _ [20, 7, 21, 38, 39, 40, 41, 42, 43, 44, 45, 46, 47] (by decide +kernel) (by decide +kernel)
set_option maxRecDepth 20000 in
theorem gX6_jump_X6_falls : GoodIn wsX6_jump (wsV RX6 52 RX6 yX6_falls wsX6_falls) := goodIn_app (goodIn_of _ (by decide +kernel)) ggX6_jump_X6_falls
set_option maxRecDepth 20000 in
theorem ggX6_jump_J7_sort_2022b : GoodIn wsX6_jump wsJ7_sort_2022b := goodIn_hd (goodIn_r [.code yJ7_sort_2022b cJ7_sort_2022b 1 none] [25] (by decide +kernel) (by decide +kernel)) (goodIn_app (goodIn_r _ [26, 27, 28, 29, 3, 30, 31, 32, 33, 34, 24, 35, 10, 36] (by decide +kernel) (by decide +kernel)) (show GoodIn _ hwJ7_sort_2022b from List.forall_mem_cons.mpr ⟨⟨List.mem_cons_of_mem _ (List.mem_append_left _ (List.mem_append_right _ (List.mem_cons_self))), good_of_word (by decide +kernel)⟩, fun _ h => absurd h List.not_mem_nil⟩))
set_option maxRecDepth 20000 in
theorem gX6_jump_J7_sort_2022b : GoodIn wsX6_jump (va_wsS RX6 56 yJ7_sort_2022b wsJ7_sort_2022b) := goodIn_app (goodIn_of _ (by decide +kernel)) ggX6_jump_J7_sort_2022b
theorem dX6_jump_0 : decode cX6_jump 0 = .ok (.aload_n 0, 1) := by decide +kernel
theorem dX6_jump_1 : decode cX6_jump 1 = .ok (.iload_n 2, 1) := by decide +kernel
theorem dX6_jump_2 : decode cX6_jump 2 = .ok (.iload_n 3, 1) := by decide +kernel
theorem dX6_jump_3 : decode cX6_jump 3 = .ok (.invokevirtual 48, 3) := by decide +kernel
theorem dX6_jump_6 : decode cX6_jump 6 = .ok (.istore 4, 2) := by decide +kernel
theorem dX6_jump_8 : decode cX6_jump 8 = .ok (.aload_n 0, 1) := by decide +kernel
theorem dX6_jump_9 : decode cX6_jump 9 = .ok (.getfield 17, 3) := by decide +kernel
theorem dX6_jump_12 : decode cX6_jump 12 = .ok (.aload_n 0, 1) := by decide +kernel
theorem dX6_jump_13 : decode cX6_jump 13 = .ok (.getfield 30, 3) := by decide +kernel
theorem dX6_jump_16 : decode cX6_jump 16 = .ok (.bipush 24, 2) := by decide +kernel
theorem dX6_jump_18 : decode cX6_jump 18 = .ok (.irem, 1) := by decide +kernel
theorem dX6_jump_19 : decode cX6_jump 19 = .ok (.aaload, 1) := by decide +kernel
theorem dX6_jump_20 : decode cX6_jump 20 = .ok (.iconst 2, 1) := by decide +kernel
theorem dX6_jump_21 : decode cX6_jump 21 = .ok (.iaload, 1) := by decide +kernel
theorem dX6_jump_22 : decode cX6_jump 22 = .ok (.istore 5, 2) := by decide +kernel
theorem dX6_jump_24 : decode cX6_jump 24 = .ok (.aload_n 0, 1) := by decide +kernel
theorem dX6_jump_25 : decode cX6_jump 25 = .ok (.iload 4, 2) := by decide +kernel
theorem dX6_jump_27 : decode cX6_jump 27 = .ok (.iconst 5, 1) := by decide +kernel
theorem dX6_jump_28 : decode cX6_jump 28 = .ok (.idiv, 1) := by decide +kernel
theorem dX6_jump_29 : decode cX6_jump 29 = .ok (.invokevirtual 52, 3) := by decide +kernel
theorem dX6_jump_32 : decode cX6_jump 32 = .ok (.istore 6, 2) := by decide +kernel
theorem dX6_jump_34 : decode cX6_jump 34 = .ok (.iconst 5, 1) := by decide +kernel
theorem dX6_jump_35 : decode cX6_jump 35 = .ok (.newarray .int, 2) := by decide +kernel
theorem dX6_jump_37 : decode cX6_jump 37 = .ok (.astore 7, 2) := by decide +kernel
theorem dX6_jump_39 : decode cX6_jump 39 = .ok (.iconst 0, 1) := by decide +kernel
theorem dX6_jump_40 : decode cX6_jump 40 = .ok (.istore 8, 2) := by decide +kernel
theorem dX6_jump_42 : decode cX6_jump 42 = .ok (.iload 8, 2) := by decide +kernel
theorem dX6_jump_44 : decode cX6_jump 44 = .ok (.iconst 5, 1) := by decide +kernel
theorem dX6_jump_45 : decode cX6_jump 45 = .ok (.if_icmp .ge 71, 3) := by decide +kernel
theorem dX6_jump_48 : decode cX6_jump 48 = .ok (.aload 7, 2) := by decide +kernel
theorem dX6_jump_50 : decode cX6_jump 50 = .ok (.iload 8, 2) := by decide +kernel
theorem dX6_jump_52 : decode cX6_jump 52 = .ok (.iload_n 3, 1) := by decide +kernel
theorem dX6_jump_53 : decode cX6_jump 53 = .ok (.iload 5, 2) := by decide +kernel
theorem dX6_jump_55 : decode cX6_jump 55 = .ok (.ifCond .ge 9, 3) := by decide +kernel
theorem dX6_jump_58 : decode cX6_jump 58 = .ok (.iload 5, 2) := by decide +kernel
theorem dX6_jump_60 : decode cX6_jump 60 = .ok (.ineg, 1) := by decide +kernel
theorem dX6_jump_61 : decode cX6_jump 61 = .ok (.goto 5, 3) := by decide +kernel
theorem dX6_jump_64 : decode cX6_jump 64 = .ok (.iload 5, 2) := by decide +kernel
theorem dX6_jump_66 : decode cX6_jump 66 = .ok (.isub, 1) := by decide +kernel
theorem dX6_jump_67 : decode cX6_jump 67 = .ok (.aload_n 0, 1) := by decide +kernel
theorem dX6_jump_68 : decode cX6_jump 68 = .ok (.getfield 24, 3) := by decide +kernel
theorem dX6_jump_71 : decode cX6_jump 71 = .ok (.iload 8, 2) := by decide +kernel
theorem dX6_jump_73 : decode cX6_jump 73 = .ok (.iaload, 1) := by decide +kernel
theorem dX6_jump_74 : decode cX6_jump 74 = .ok (.isub, 1) := by decide +kernel
theorem dX6_jump_75 : decode cX6_jump 75 = .ok (.iload 6, 2) := by decide +kernel
theorem dX6_jump_77 : decode cX6_jump 77 = .ok (.ifCond .eq 8, 3) := by decide +kernel
theorem dX6_jump_80 : decode cX6_jump 80 = .ok (.bipush 8, 2) := by decide +kernel
theorem dX6_jump_82 : decode cX6_jump 82 = .ok (.goto 4, 3) := by decide +kernel
theorem dX6_jump_85 : decode cX6_jump 85 = .ok (.iconst 0, 1) := by decide +kernel
theorem dX6_jump_86 : decode cX6_jump 86 = .ok (.isub, 1) := by decide +kernel
theorem dX6_jump_87 : decode cX6_jump 87 = .ok (.iastore, 1) := by decide +kernel
theorem dX6_jump_88 : decode cX6_jump 88 = .ok (.aload 7, 2) := by decide +kernel
theorem dX6_jump_90 : decode cX6_jump 90 = .ok (.iload 8, 2) := by decide +kernel
theorem dX6_jump_92 : decode cX6_jump 92 = .ok (.aload 7, 2) := by decide +kernel
theorem dX6_jump_94 : decode cX6_jump 94 = .ok (.iload 8, 2) := by decide +kernel
theorem dX6_jump_96 : decode cX6_jump 96 = .ok (.iaload, 1) := by decide +kernel
theorem dX6_jump_97 : decode cX6_jump 97 = .ok (.ifCond .ge 7, 3) := by decide +kernel
theorem dX6_jump_100 : decode cX6_jump 100 = .ok (.iconst 0, 1) := by decide +kernel
theorem dX6_jump_101 : decode cX6_jump 101 = .ok (.goto 8, 3) := by decide +kernel
theorem dX6_jump_104 : decode cX6_jump 104 = .ok (.aload 7, 2) := by decide +kernel
theorem dX6_jump_106 : decode cX6_jump 106 = .ok (.iload 8, 2) := by decide +kernel
theorem dX6_jump_108 : decode cX6_jump 108 = .ok (.iaload, 1) := by decide +kernel
theorem dX6_jump_109 : decode cX6_jump 109 = .ok (.iastore, 1) := by decide +kernel
theorem dX6_jump_110 : decode cX6_jump 110 = .ok (.iinc 8 1, 3) := by decide +kernel
theorem dX6_jump_113 : decode cX6_jump 113 = .ok (.goto (-71), 3) := by decide +kernel
theorem dX6_jump_116 : decode cX6_jump 116 = .ok (.aload 7, 2) := by decide +kernel
theorem dX6_jump_118 : decode cX6_jump 118 = .ok (.invokestatic 56, 3) := by decide +kernel
theorem dX6_jump_121 : decode cX6_jump 121 = .ok (.aload_n 0, 1) := by decide +kernel
theorem dX6_jump_122 : decode cX6_jump 122 = .ok (.getfield 27, 3) := by decide +kernel
theorem dX6_jump_125 : decode cX6_jump 125 = .ok (.aload_n 0, 1) := by decide +kernel
theorem dX6_jump_126 : decode cX6_jump 126 = .ok (.getfield 62, 3) := by decide +kernel
theorem dX6_jump_129 : decode cX6_jump 129 = .ok (.iconst 5, 1) := by decide +kernel
theorem dX6_jump_130 : decode cX6_jump 130 = .ok (.newarray .int, 2) := by decide +kernel
theorem dX6_jump_132 : decode cX6_jump 132 = .ok (.dup, 1) := by decide +kernel
theorem dX6_jump_133 : decode cX6_jump 133 = .ok (.iconst 0, 1) := by decide +kernel
theorem dX6_jump_134 : decode cX6_jump 134 = .ok (.iload_n 1, 1) := by decide +kernel
theorem dX6_jump_135 : decode cX6_jump 135 = .ok (.iastore, 1) := by decide +kernel
theorem dX6_jump_136 : decode cX6_jump 136 = .ok (.dup, 1) := by decide +kernel
theorem dX6_jump_137 : decode cX6_jump 137 = .ok (.iconst 1, 1) := by decide +kernel
theorem dX6_jump_138 : decode cX6_jump 138 = .ok (.iload 4, 2) := by decide +kernel
theorem dX6_jump_140 : decode cX6_jump 140 = .ok (.iastore, 1) := by decide +kernel
theorem dX6_jump_141 : decode cX6_jump 141 = .ok (.dup, 1) := by decide +kernel
theorem dX6_jump_142 : decode cX6_jump 142 = .ok (.iconst 2, 1) := by decide +kernel
theorem dX6_jump_143 : decode cX6_jump 143 = .ok (.iload 4, 2) := by decide +kernel
theorem dX6_jump_145 : decode cX6_jump 145 = .ok (.aload 7, 2) := by decide +kernel
theorem dX6_jump_147 : decode cX6_jump 147 = .ok (.iconst 1, 1) := by decide +kernel
theorem dX6_jump_148 : decode cX6_jump 148 = .ok (.iaload, 1) := by decide +kernel
theorem dX6_jump_149 : decode cX6_jump 149 = .ok (.iadd, 1) := by decide +kernel
theorem dX6_jump_150 : decode cX6_jump 150 = .ok (.aload 7, 2) := by decide +kernel
theorem dX6_jump_152 : decode cX6_jump 152 = .ok (.iconst 2, 1) := by decide +kernel
theorem dX6_jump_153 : decode cX6_jump 153 = .ok (.iaload, 1) := by decide +kernel
theorem dX6_jump_154 : decode cX6_jump 154 = .ok (.iadd, 1) := by decide +kernel
theorem dX6_jump_155 : decode cX6_jump 155 = .ok (.aload 7, 2) := by decide +kernel
theorem dX6_jump_157 : decode cX6_jump 157 = .ok (.iconst 3, 1) := by decide +kernel
theorem dX6_jump_158 : decode cX6_jump 158 = .ok (.iaload, 1) := by decide +kernel
theorem dX6_jump_159 : decode cX6_jump 159 = .ok (.iadd, 1) := by decide +kernel
theorem dX6_jump_160 : decode cX6_jump 160 = .ok (.iastore, 1) := by decide +kernel
theorem dX6_jump_161 : decode cX6_jump 161 = .ok (.dup, 1) := by decide +kernel
theorem dX6_jump_162 : decode cX6_jump 162 = .ok (.iconst 3, 1) := by decide +kernel
theorem dX6_jump_163 : decode cX6_jump 163 = .ok (.iload 6, 2) := by decide +kernel
theorem dX6_jump_165 : decode cX6_jump 165 = .ok (.ifCond .eq 7, 3) := by decide +kernel
theorem dX6_jump_168 : decode cX6_jump 168 = .ok (.iconst 1, 1) := by decide +kernel
theorem dX6_jump_169 : decode cX6_jump 169 = .ok (.goto 4, 3) := by decide +kernel
theorem dX6_jump_172 : decode cX6_jump 172 = .ok (.iconst 0, 1) := by decide +kernel
theorem dX6_jump_173 : decode cX6_jump 173 = .ok (.iastore, 1) := by decide +kernel
theorem dX6_jump_174 : decode cX6_jump 174 = .ok (.dup, 1) := by decide +kernel
theorem dX6_jump_175 : decode cX6_jump 175 = .ok (.iconst 4, 1) := by decide +kernel
theorem dX6_jump_176 : decode cX6_jump 176 = .ok (.aload_n 0, 1) := by decide +kernel
theorem dX6_jump_177 : decode cX6_jump 177 = .ok (.getfield 30, 3) := by decide +kernel
theorem dX6_jump_180 : decode cX6_jump 180 = .ok (.iastore, 1) := by decide +kernel
theorem dX6_jump_181 : decode cX6_jump 181 = .ok (.aastore, 1) := by decide +kernel
theorem dX6_jump_182 : decode cX6_jump 182 = .ok (.aload_n 0, 1) := by decide +kernel
theorem dX6_jump_183 : decode cX6_jump 183 = .ok (.dup, 1) := by decide +kernel
theorem dX6_jump_184 : decode cX6_jump 184 = .ok (.getfield 62, 3) := by decide +kernel
theorem dX6_jump_187 : decode cX6_jump 187 = .ok (.iconst 1, 1) := by decide +kernel
theorem dX6_jump_188 : decode cX6_jump 188 = .ok (.iadd, 1) := by decide +kernel
theorem dX6_jump_189 : decode cX6_jump 189 = .ok (.putfield 62, 3) := by decide +kernel
theorem dX6_jump_192 : decode cX6_jump 192 = .ok (.aload_n 0, 1) := by decide +kernel
theorem dX6_jump_193 : decode cX6_jump 193 = .ok (.getfield 7, 3) := by decide +kernel
theorem dX6_jump_196 : decode cX6_jump 196 = .ok (.iload 4, 2) := by decide +kernel
theorem dX6_jump_198 : decode cX6_jump 198 = .ok (.iconst 5, 1) := by decide +kernel
theorem dX6_jump_199 : decode cX6_jump 199 = .ok (.idiv, 1) := by decide +kernel
theorem dX6_jump_200 : decode cX6_jump 200 = .ok (.iconst 0, 1) := by decide +kernel
theorem dX6_jump_201 : decode cX6_jump 201 = .ok (.aload_n 0, 1) := by decide +kernel
theorem dX6_jump_202 : decode cX6_jump 202 = .ok (.getfield 7, 3) := by decide +kernel
theorem dX6_jump_205 : decode cX6_jump 205 = .ok (.iload 4, 2) := by decide +kernel
theorem dX6_jump_207 : decode cX6_jump 207 = .ok (.iconst 5, 1) := by decide +kernel
theorem dX6_jump_208 : decode cX6_jump 208 = .ok (.idiv, 1) := by decide +kernel
theorem dX6_jump_209 : decode cX6_jump 209 = .ok (.iaload, 1) := by decide +kernel
theorem dX6_jump_210 : decode cX6_jump 210 = .ok (.iconst 3, 1) := by decide +kernel
theorem dX6_jump_211 : decode cX6_jump 211 = .ok (.isub, 1) := by decide +kernel
theorem dX6_jump_212 : decode cX6_jump 212 = .ok (.invokestatic 65, 3) := by decide +kernel
theorem dX6_jump_215 : decode cX6_jump 215 = .ok (.iastore, 1) := by decide +kernel
theorem dX6_jump_216 : decode cX6_jump 216 = .ok (.return_, 1) := by decide +kernel
set_option maxRecDepth 20000 in
theorem ggX6_score_J7_sort_2022b : GoodIn wsX6_score wsJ7_sort_2022b := goodIn_hd (goodIn_r [.code yJ7_sort_2022b cJ7_sort_2022b 1 none] [7] (by decide +kernel) (by decide +kernel)) (goodIn_app (goodIn_r _ [8, 9, 10, 11, 1, 12, 13, 14, 15, 16, 6, 17, 18, 19] (by decide +kernel) (by decide +kernel)) (show GoodIn _ hwJ7_sort_2022b from List.forall_mem_cons.mpr ⟨⟨List.mem_cons_of_mem _ (List.mem_append_left _ (List.mem_append_right _ (List.mem_cons_self))), good_of_word (by decide +kernel)⟩, fun _ h => absurd h List.not_mem_nil⟩))
set_option maxRecDepth 20000 in
theorem gX6_score_J7_sort_2022b : GoodIn wsX6_score (va_wsS RX6 56 yJ7_sort_2022b wsJ7_sort_2022b) := goodIn_app (goodIn_of _ (by decide +kernel)) ggX6_score_J7_sort_2022b
theorem dX6_score_0 : decode cX6_score 0 = .ok (.bipush 32, 2) := by decide +kernel
theorem dX6_score_2 : decode cX6_score 2 = .ok (.newarray .int, 2) := by decide +kernel
theorem dX6_score_4 : decode cX6_score 4 = .ok (.astore_n 2, 1) := by decide +kernel
theorem dX6_score_5 : decode cX6_score 5 = .ok (.iconst 0, 1) := by decide +kernel
theorem dX6_score_6 : decode cX6_score 6 = .ok (.istore_n 3, 1) := by decide +kernel
theorem dX6_score_7 : decode cX6_score 7 = .ok (.iload_n 3, 1) := by decide +kernel
theorem dX6_score_8 : decode cX6_score 8 = .ok (.aload_n 0, 1) := by decide +kernel
theorem dX6_score_9 : decode cX6_score 9 = .ok (.getfield 62, 3) := by decide +kernel
theorem dX6_score_12 : decode cX6_score 12 = .ok (.if_icmp .ge 32, 3) := by decide +kernel
theorem dX6_score_15 : decode cX6_score 15 = .ok (.aload_n 0, 1) := by decide +kernel
theorem dX6_score_16 : decode cX6_score 16 = .ok (.getfield 27, 3) := by decide +kernel
theorem dX6_score_19 : decode cX6_score 19 = .ok (.iload_n 3, 1) := by decide +kernel
theorem dX6_score_20 : decode cX6_score 20 = .ok (.aaload, 1) := by decide +kernel
theorem dX6_score_21 : decode cX6_score 21 = .ok (.iconst 0, 1) := by decide +kernel
theorem dX6_score_22 : decode cX6_score 22 = .ok (.iaload, 1) := by decide +kernel
theorem dX6_score_23 : decode cX6_score 23 = .ok (.iload_n 1, 1) := by decide +kernel
theorem dX6_score_24 : decode cX6_score 24 = .ok (.if_icmp .ne 14, 3) := by decide +kernel
theorem dX6_score_27 : decode cX6_score 27 = .ok (.aload_n 2, 1) := by decide +kernel
theorem dX6_score_28 : decode cX6_score 28 = .ok (.iload_n 3, 1) := by decide +kernel
theorem dX6_score_29 : decode cX6_score 29 = .ok (.aload_n 0, 1) := by decide +kernel
theorem dX6_score_30 : decode cX6_score 30 = .ok (.getfield 27, 3) := by decide +kernel
theorem dX6_score_33 : decode cX6_score 33 = .ok (.iload_n 3, 1) := by decide +kernel
theorem dX6_score_34 : decode cX6_score 34 = .ok (.aaload, 1) := by decide +kernel
theorem dX6_score_35 : decode cX6_score 35 = .ok (.iconst 2, 1) := by decide +kernel
theorem dX6_score_36 : decode cX6_score 36 = .ok (.iaload, 1) := by decide +kernel
theorem dX6_score_37 : decode cX6_score 37 = .ok (.iastore, 1) := by decide +kernel
theorem dX6_score_38 : decode cX6_score 38 = .ok (.iinc 3 1, 3) := by decide +kernel
theorem dX6_score_41 : decode cX6_score 41 = .ok (.goto (-34), 3) := by decide +kernel
theorem dX6_score_44 : decode cX6_score 44 = .ok (.aload_n 2, 1) := by decide +kernel
theorem dX6_score_45 : decode cX6_score 45 = .ok (.invokestatic 56, 3) := by decide +kernel
theorem dX6_score_48 : decode cX6_score 48 = .ok (.aload_n 2, 1) := by decide +kernel
theorem dX6_score_49 : decode cX6_score 49 = .ok (.bipush 31, 2) := by decide +kernel
theorem dX6_score_51 : decode cX6_score 51 = .ok (.iaload, 1) := by decide +kernel
theorem dX6_score_52 : decode cX6_score 52 = .ok (.aload_n 2, 1) := by decide +kernel
theorem dX6_score_53 : decode cX6_score 53 = .ok (.bipush 30, 2) := by decide +kernel
theorem dX6_score_55 : decode cX6_score 55 = .ok (.iaload, 1) := by decide +kernel
theorem dX6_score_56 : decode cX6_score 56 = .ok (.iadd, 1) := by decide +kernel
theorem dX6_score_57 : decode cX6_score 57 = .ok (.ireturn, 1) := by decide +kernel
theorem dX6_sum_0 : decode cX6_sum 0 = .ok (.iconst 0, 1) := by decide +kernel
theorem dX6_sum_1 : decode cX6_sum 1 = .ok (.istore_n 1, 1) := by decide +kernel
theorem dX6_sum_2 : decode cX6_sum 2 = .ok (.aload_n 0, 1) := by decide +kernel
theorem dX6_sum_3 : decode cX6_sum 3 = .ok (.astore_n 2, 1) := by decide +kernel
theorem dX6_sum_4 : decode cX6_sum 4 = .ok (.aload_n 2, 1) := by decide +kernel
theorem dX6_sum_5 : decode cX6_sum 5 = .ok (.arraylength, 1) := by decide +kernel
theorem dX6_sum_6 : decode cX6_sum 6 = .ok (.istore_n 3, 1) := by decide +kernel
theorem dX6_sum_7 : decode cX6_sum 7 = .ok (.iconst 0, 1) := by decide +kernel
theorem dX6_sum_8 : decode cX6_sum 8 = .ok (.istore 4, 2) := by decide +kernel
theorem dX6_sum_10 : decode cX6_sum 10 = .ok (.iload 4, 2) := by decide +kernel
theorem dX6_sum_12 : decode cX6_sum 12 = .ok (.iload_n 3, 1) := by decide +kernel
theorem dX6_sum_13 : decode cX6_sum 13 = .ok (.if_icmp .ge 20, 3) := by decide +kernel
theorem dX6_sum_16 : decode cX6_sum 16 = .ok (.aload_n 2, 1) := by decide +kernel
theorem dX6_sum_17 : decode cX6_sum 17 = .ok (.iload 4, 2) := by decide +kernel
theorem dX6_sum_19 : decode cX6_sum 19 = .ok (.iaload, 1) := by decide +kernel
theorem dX6_sum_20 : decode cX6_sum 20 = .ok (.istore 5, 2) := by decide +kernel
theorem dX6_sum_22 : decode cX6_sum 22 = .ok (.iload_n 1, 1) := by decide +kernel
theorem dX6_sum_23 : decode cX6_sum 23 = .ok (.iload 5, 2) := by decide +kernel
theorem dX6_sum_25 : decode cX6_sum 25 = .ok (.iadd, 1) := by decide +kernel
theorem dX6_sum_26 : decode cX6_sum 26 = .ok (.istore_n 1, 1) := by decide +kernel
theorem dX6_sum_27 : decode cX6_sum 27 = .ok (.iinc 4 1, 3) := by decide +kernel
theorem dX6_sum_30 : decode cX6_sum 30 = .ok (.goto (-20), 3) := by decide +kernel
theorem dX6_sum_33 : decode cX6_sum 33 = .ok (.iload_n 1, 1) := by decide +kernel
theorem dX6_sum_34 : decode cX6_sum 34 = .ok (.ireturn, 1) := by decide +kernel
set_option maxRecDepth 20000 in
theorem ggX6_isSame_X6_falls : GoodIn wsX6_isSame wsX6_falls := goodIn_r _ [15, 4, 5, 165, 166, 167, 168, 169, 170, 171, 172, 173, 174] (by decide +kernel) (by decide +kernel)
set_option maxRecDepth 20000 in
theorem gX6_isSame_X6_falls : GoodIn wsX6_isSame (wsV RX6 52 RX6 yX6_falls wsX6_falls) := goodIn_app (goodIn_of _ (by decide +kernel)) ggX6_isSame_X6_falls
set_option maxRecDepth 20000 in
theorem ggX6_isSame_X5_part : GoodIn wsX6_isSame wsX5_part := goodIn_ca (goodIn_r _ [20, 21, 22, 23, 24, 19, 25, 26, 27, 28, 29, 30, 31, 32, 33, 34, 35, 36, 37, 38, 39, 40, 41, 42, 43, 44, 45, 46, 47, 175, 176, 177, 178, 179, 180, 181, 182, 183, 184, 185, 186, 187, 188, 189, 190] (by decide +kernel) (by decide +kernel)) (goodIn_sub (fun _ h => List.mem_cons_of_mem _ (List.mem_append_right _ h)) (by decide +kernel))
set_option maxRecDepth 20000 in
theorem gX6_isSame_X5_part : GoodIn wsX6_isSame (wsV RX6 75 RX5 yX5_part wsX5_part) := goodIn_app (goodIn_of _ (by decide +kernel)) ggX6_isSame_X5_part
set_option maxRecDepth 20000 in
theorem ggX6_isSame_X5_told : GoodIn wsX6_isSame wsX5_told := goodIn_ca (goodIn_r _ [51, 21, 22, 52, 53, 23, 24, 19, 25, 54, 55, 56, 57, 58, 59, 60, 61, 62, 63, 175, 176, 177, 178, 179, 180, 191, 192, 193, 194, 195, 196] (by decide +kernel) (by decide +kernel)) (goodIn_sub (fun _ h => List.mem_cons_of_mem _ (List.mem_append_right _ h)) (by decide +kernel))
set_option maxRecDepth 20000 in
theorem gX6_isSame_X5_told : GoodIn wsX6_isSame (wsV RX6 80 RX5 yX5_told wsX5_told) := goodIn_app (goodIn_of _ (by decide +kernel)) ggX6_isSame_X5_told
set_option maxRecDepth 20000 in
theorem ggX6_isSame_X5_score : GoodIn wsX6_isSame wsX5_score := goodIn_ca (goodIn_r _ [67, 21, 22, 52, 23, 24, 19, 25, 68, 69, 70, 57, 71, 72, 59, 61, 73, 74, 75, 76, 77, 78, 79, 175, 176, 177, 178, 179, 180, 191, 192, 193, 194, 195, 196] (by decide +kernel) (by decide +kernel)) (goodIn_sub (fun _ h => List.mem_cons_of_mem _ (List.mem_append_right _ h)) (by decide +kernel))
set_option maxRecDepth 20000 in
theorem gX6_isSame_X5_score : GoodIn wsX6_isSame (wsV RX6 83 RX5 yX5_score wsX5_score) := goodIn_app (goodIn_of _ (by decide +kernel)) ggX6_isSame_X5_score
set_option maxRecDepth 20000 in
theorem ggX6_isSame_X6_score : GoodIn wsX6_isSame wsX6_score := goodIn_hd (goodIn_r [.code yX6_score cX6_score 4 (some .int)] [83] (by decide +kernel) (by decide +kernel)) (goodIn_app (goodIn_app (goodIn_r _ [3, 6, 7, 84, 85, 86, 87, 88, 89, 90, 91, 92, 93, 94, 95, 96, 74, 75, 76] (by decide +kernel) (by decide +kernel)) (show GoodIn _ hwX6_score from List.forall_mem_cons.mpr ⟨⟨List.mem_cons_of_mem _ (List.mem_append_left _ (List.mem_append_left _ (List.mem_append_left _ (List.mem_append_left _ (List.mem_append_left _ (List.mem_append_left _ (List.mem_append_left _ (List.mem_append_right _ (List.mem_cons_self))))))))), good_of_word (by decide +kernel)⟩, fun _ h => absurd h List.not_mem_nil⟩)) (goodIn_r _ [165, 166, 167, 168, 169, 170, 171, 172, 173, 174] (by decide +kernel) (by decide +kernel)))
set_option maxRecDepth 20000 in
theorem gX6_isSame_X6_score : GoodIn wsX6_isSame (wsV RX6 87 RX6 yX6_score wsX6_score) := goodIn_app (goodIn_of _ (by decide +kernel)) ggX6_isSame_X6_score
set_option maxRecDepth 20000 in
theorem ggX6_isSame_X6_wet : GoodIn wsX6_isSame wsX6_wet := goodIn_r _ [100] (by decide +kernel) (by decide +kernel)
set_option maxRecDepth 20000 in
theorem gX6_isSame_X6_wet : GoodIn wsX6_isSame (wsV RX6 34 RX6 yX6_wet wsX6_wet) := goodIn_app (goodIn_of _ (by decide +kernel)) ggX6_isSame_X6_wet
set_option maxRecDepth 20000 in
theorem ggX6_isSame_X6_sum : GoodIn wsX6_isSame wsX6_sum := goodIn_r _ [103] (by decide +kernel) (by decide +kernel)
set_option maxRecDepth 20000 in
theorem gX6_isSame_X6_sum : GoodIn wsX6_isSame (va_wsS RX6 88 yX6_sum wsX6_sum) := goodIn_app (goodIn_of _ (by decide +kernel)) ggX6_isSame_X6_sum
set_option maxRecDepth 20000 in
theorem ggX6_isSame_X5_count : GoodIn wsX6_isSame wsX5_count := goodIn_ca (goodIn_r _ [107, 21, 22, 23, 24, 19, 25, 108, 109, 110, 111, 30, 112, 113, 114, 115, 33, 116, 52, 53, 117, 118, 119, 44, 120, 121, 122, 123, 124, 125, 126, 127, 128, 129, 130, 131, 132, 133, 134, 135, 136, 137, 138, 139, 140, 141, 46, 142, 143, 144, 145, 146, 147, 47, 148, 149, 150, 57, 151, 62, 175, 176, 177, 178, 179, 180, 181, 182, 183, 184, 185, 186, 187, 197, 198, 199, 188, 189, 190, 191, 192, 193, 194, 195, 196] (by decide +kernel) (by decide +kernel)) (goodIn_sub (fun _ h => List.mem_cons_of_mem _ (List.mem_append_right _ h)) (by decide +kernel))
set_option maxRecDepth 20000 in
theorem gX6_isSame_X5_count : GoodIn wsX6_isSame (wsV RX6 91 RX5 yX5_count wsX5_count) := goodIn_app (goodIn_of _ (by decide +kernel)) ggX6_isSame_X5_count
set_option maxRecDepth 20000 in
theorem ggX6_isSame_X5_leader : GoodIn wsX6_isSame wsX5_leader := goodIn_r _ [155, 52, 53, 68, 69, 70, 57, 71, 72, 59, 61, 73, 74, 75, 76, 77, 78, 79, 175, 176, 177, 178, 179, 180, 191, 192, 193, 194, 195, 196] (by decide +kernel) (by decide +kernel)
set_option maxRecDepth 20000 in
theorem gX6_isSame_X5_leader : GoodIn wsX6_isSame (wsV RX6 94 RX5 yX5_leader wsX5_leader) := goodIn_app (goodIn_of _ (by decide +kernel)) ggX6_isSame_X5_leader
set_option maxRecDepth 20000 in
theorem ggX6_isSame_X5_mean : GoodIn wsX6_isSame wsX5_mean := goodIn_r _ [159, 52, 53, 160, 161, 162, 57, 163, 61, 142, 19, 143, 175, 176, 177, 178, 179, 180, 191, 192, 193, 194, 195, 196] (by decide +kernel) (by decide +kernel)
set_option maxRecDepth 20000 in
theorem gX6_isSame_X5_mean : GoodIn wsX6_isSame (wsV RX6 98 RX5 yX5_mean wsX5_mean) := goodIn_app (goodIn_of _ (by decide +kernel)) ggX6_isSame_X5_mean
theorem dX6_isSame_0 : decode cX6_isSame 0 = .ok (.iconst 0, 1) := by decide +kernel
theorem dX6_isSame_1 : decode cX6_isSame 1 = .ok (.istore_n 2, 1) := by decide +kernel
theorem dX6_isSame_2 : decode cX6_isSame 2 = .ok (.iload_n 2, 1) := by decide +kernel
theorem dX6_isSame_3 : decode cX6_isSame 3 = .ok (.bipush 20, 2) := by decide +kernel
theorem dX6_isSame_5 : decode cX6_isSame 5 = .ok (.if_icmp .ge 125, 3) := by decide +kernel
theorem dX6_isSame_8 : decode cX6_isSame 8 = .ok (.iconst 0, 1) := by decide +kernel
theorem dX6_isSame_9 : decode cX6_isSame 9 = .ok (.istore_n 3, 1) := by decide +kernel
theorem dX6_isSame_10 : decode cX6_isSame 10 = .ok (.iconst 0, 1) := by decide +kernel
theorem dX6_isSame_11 : decode cX6_isSame 11 = .ok (.istore 4, 2) := by decide +kernel
theorem dX6_isSame_13 : decode cX6_isSame 13 = .ok (.iload 4, 2) := by decide +kernel
theorem dX6_isSame_15 : decode cX6_isSame 15 = .ok (.aload_n 0, 1) := by decide +kernel
theorem dX6_isSame_16 : decode cX6_isSame 16 = .ok (.getfield 38, 3) := by decide +kernel
theorem dX6_isSame_19 : decode cX6_isSame 19 = .ok (.if_icmp .ge 30, 3) := by decide +kernel
theorem dX6_isSame_22 : decode cX6_isSame 22 = .ok (.iload_n 3, 1) := by decide +kernel
theorem dX6_isSame_23 : decode cX6_isSame 23 = .ok (.aload_n 0, 1) := by decide +kernel
theorem dX6_isSame_24 : decode cX6_isSame 24 = .ok (.getfield 21, 3) := by decide +kernel
theorem dX6_isSame_27 : decode cX6_isSame 27 = .ok (.iload 4, 2) := by decide +kernel
theorem dX6_isSame_29 : decode cX6_isSame 29 = .ok (.aaload, 1) := by decide +kernel
theorem dX6_isSame_30 : decode cX6_isSame 30 = .ok (.iconst 0, 1) := by decide +kernel
theorem dX6_isSame_31 : decode cX6_isSame 31 = .ok (.iaload, 1) := by decide +kernel
theorem dX6_isSame_32 : decode cX6_isSame 32 = .ok (.iload_n 2, 1) := by decide +kernel
theorem dX6_isSame_33 : decode cX6_isSame 33 = .ok (.if_icmp .ne 7, 3) := by decide +kernel
theorem dX6_isSame_36 : decode cX6_isSame 36 = .ok (.iconst 1, 1) := by decide +kernel
theorem dX6_isSame_37 : decode cX6_isSame 37 = .ok (.goto 4, 3) := by decide +kernel
theorem dX6_isSame_40 : decode cX6_isSame 40 = .ok (.iconst 0, 1) := by decide +kernel
theorem dX6_isSame_41 : decode cX6_isSame 41 = .ok (.iadd, 1) := by decide +kernel
theorem dX6_isSame_42 : decode cX6_isSame 42 = .ok (.istore_n 3, 1) := by decide +kernel
theorem dX6_isSame_43 : decode cX6_isSame 43 = .ok (.iinc 4 1, 3) := by decide +kernel
theorem dX6_isSame_46 : decode cX6_isSame 46 = .ok (.goto (-33), 3) := by decide +kernel
theorem dX6_isSame_49 : decode cX6_isSame 49 = .ok (.iconst 4, 1) := by decide +kernel
theorem dX6_isSame_50 : decode cX6_isSame 50 = .ok (.newarray .int, 2) := by decide +kernel
theorem dX6_isSame_52 : decode cX6_isSame 52 = .ok (.dup, 1) := by decide +kernel
theorem dX6_isSame_53 : decode cX6_isSame 53 = .ok (.iconst 0, 1) := by decide +kernel
theorem dX6_isSame_54 : decode cX6_isSame 54 = .ok (.aload_n 0, 1) := by decide +kernel
theorem dX6_isSame_55 : decode cX6_isSame 55 = .ok (.getfield 7, 3) := by decide +kernel
theorem dX6_isSame_58 : decode cX6_isSame 58 = .ok (.iload_n 2, 1) := by decide +kernel
theorem dX6_isSame_59 : decode cX6_isSame 59 = .ok (.iaload, 1) := by decide +kernel
theorem dX6_isSame_60 : decode cX6_isSame 60 = .ok (.iastore, 1) := by decide +kernel
theorem dX6_isSame_61 : decode cX6_isSame 61 = .ok (.dup, 1) := by decide +kernel
theorem dX6_isSame_62 : decode cX6_isSame 62 = .ok (.iconst 1, 1) := by decide +kernel
theorem dX6_isSame_63 : decode cX6_isSame 63 = .ok (.aload_n 0, 1) := by decide +kernel
theorem dX6_isSame_64 : decode cX6_isSame 64 = .ok (.getfield 13, 3) := by decide +kernel
theorem dX6_isSame_67 : decode cX6_isSame 67 = .ok (.iload_n 2, 1) := by decide +kernel
theorem dX6_isSame_68 : decode cX6_isSame 68 = .ok (.iaload, 1) := by decide +kernel
theorem dX6_isSame_69 : decode cX6_isSame 69 = .ok (.iastore, 1) := by decide +kernel
theorem dX6_isSame_70 : decode cX6_isSame 70 = .ok (.dup, 1) := by decide +kernel
theorem dX6_isSame_71 : decode cX6_isSame 71 = .ok (.iconst 2, 1) := by decide +kernel
theorem dX6_isSame_72 : decode cX6_isSame 72 = .ok (.iload_n 3, 1) := by decide +kernel
theorem dX6_isSame_73 : decode cX6_isSame 73 = .ok (.iastore, 1) := by decide +kernel
theorem dX6_isSame_74 : decode cX6_isSame 74 = .ok (.dup, 1) := by decide +kernel
theorem dX6_isSame_75 : decode cX6_isSame 75 = .ok (.iconst 3, 1) := by decide +kernel
theorem dX6_isSame_76 : decode cX6_isSame 76 = .ok (.aload_n 0, 1) := by decide +kernel
theorem dX6_isSame_77 : decode cX6_isSame 77 = .ok (.iload_n 2, 1) := by decide +kernel
theorem dX6_isSame_78 : decode cX6_isSame 78 = .ok (.invokevirtual 52, 3) := by decide +kernel
theorem dX6_isSame_81 : decode cX6_isSame 81 = .ok (.ifCond .eq 7, 3) := by decide +kernel
theorem dX6_isSame_84 : decode cX6_isSame 84 = .ok (.iconst 1, 1) := by decide +kernel
theorem dX6_isSame_85 : decode cX6_isSame 85 = .ok (.goto 4, 3) := by decide +kernel
theorem dX6_isSame_88 : decode cX6_isSame 88 = .ok (.iconst 0, 1) := by decide +kernel
theorem dX6_isSame_89 : decode cX6_isSame 89 = .ok (.iastore, 1) := by decide +kernel
theorem dX6_isSame_90 : decode cX6_isSame 90 = .ok (.astore 4, 2) := by decide +kernel
theorem dX6_isSame_92 : decode cX6_isSame 92 = .ok (.iconst 0, 1) := by decide +kernel
theorem dX6_isSame_93 : decode cX6_isSame 93 = .ok (.istore 5, 2) := by decide +kernel
theorem dX6_isSame_95 : decode cX6_isSame 95 = .ok (.iload 5, 2) := by decide +kernel
theorem dX6_isSame_97 : decode cX6_isSame 97 = .ok (.iconst 4, 1) := by decide +kernel
theorem dX6_isSame_98 : decode cX6_isSame 98 = .ok (.if_icmp .ge 26, 3) := by decide +kernel
theorem dX6_isSame_101 : decode cX6_isSame 101 = .ok (.aload_n 1, 1) := by decide +kernel
theorem dX6_isSame_102 : decode cX6_isSame 102 = .ok (.iload_n 2, 1) := by decide +kernel
theorem dX6_isSame_103 : decode cX6_isSame 103 = .ok (.iload 5, 2) := by decide +kernel
theorem dX6_isSame_105 : decode cX6_isSame 105 = .ok (.invokevirtual 75, 3) := by decide +kernel
theorem dX6_isSame_108 : decode cX6_isSame 108 = .ok (.aload 4, 2) := by decide +kernel
theorem dX6_isSame_110 : decode cX6_isSame 110 = .ok (.iload 5, 2) := by decide +kernel
theorem dX6_isSame_112 : decode cX6_isSame 112 = .ok (.iaload, 1) := by decide +kernel
theorem dX6_isSame_113 : decode cX6_isSame 113 = .ok (.if_icmp .eq 5, 3) := by decide +kernel
theorem dX6_isSame_116 : decode cX6_isSame 116 = .ok (.iconst 0, 1) := by decide +kernel
theorem dX6_isSame_117 : decode cX6_isSame 117 = .ok (.ireturn, 1) := by decide +kernel
theorem dX6_isSame_118 : decode cX6_isSame 118 = .ok (.iinc 5 1, 3) := by decide +kernel
theorem dX6_isSame_121 : decode cX6_isSame 121 = .ok (.goto (-26), 3) := by decide +kernel
theorem dX6_isSame_124 : decode cX6_isSame 124 = .ok (.iinc 2 1, 3) := by decide +kernel
theorem dX6_isSame_127 : decode cX6_isSame 127 = .ok (.goto (-125), 3) := by decide +kernel
theorem dX6_isSame_130 : decode cX6_isSame 130 = .ok (.iconst 0, 1) := by decide +kernel
theorem dX6_isSame_131 : decode cX6_isSame 131 = .ok (.istore_n 2, 1) := by decide +kernel
theorem dX6_isSame_132 : decode cX6_isSame 132 = .ok (.iconst 0, 1) := by decide +kernel
theorem dX6_isSame_133 : decode cX6_isSame 133 = .ok (.istore_n 3, 1) := by decide +kernel
theorem dX6_isSame_134 : decode cX6_isSame 134 = .ok (.iload_n 3, 1) := by decide +kernel
theorem dX6_isSame_135 : decode cX6_isSame 135 = .ok (.aload_n 0, 1) := by decide +kernel
theorem dX6_isSame_136 : decode cX6_isSame 136 = .ok (.getfield 38, 3) := by decide +kernel
theorem dX6_isSame_139 : decode cX6_isSame 139 = .ok (.if_icmp .ge 20, 3) := by decide +kernel
theorem dX6_isSame_142 : decode cX6_isSame 142 = .ok (.iload_n 2, 1) := by decide +kernel
theorem dX6_isSame_143 : decode cX6_isSame 143 = .ok (.aload_n 0, 1) := by decide +kernel
theorem dX6_isSame_144 : decode cX6_isSame 144 = .ok (.getfield 21, 3) := by decide +kernel
theorem dX6_isSame_147 : decode cX6_isSame 147 = .ok (.iload_n 3, 1) := by decide +kernel
theorem dX6_isSame_148 : decode cX6_isSame 148 = .ok (.aaload, 1) := by decide +kernel
theorem dX6_isSame_149 : decode cX6_isSame 149 = .ok (.iconst 2, 1) := by decide +kernel
theorem dX6_isSame_150 : decode cX6_isSame 150 = .ok (.iaload, 1) := by decide +kernel
theorem dX6_isSame_151 : decode cX6_isSame 151 = .ok (.iadd, 1) := by decide +kernel
theorem dX6_isSame_152 : decode cX6_isSame 152 = .ok (.istore_n 2, 1) := by decide +kernel
theorem dX6_isSame_153 : decode cX6_isSame 153 = .ok (.iinc 3 1, 3) := by decide +kernel
theorem dX6_isSame_156 : decode cX6_isSame 156 = .ok (.goto (-22), 3) := by decide +kernel
theorem dX6_isSame_159 : decode cX6_isSame 159 = .ok (.iconst 0, 1) := by decide +kernel
theorem dX6_isSame_160 : decode cX6_isSame 160 = .ok (.istore_n 3, 1) := by decide +kernel
theorem dX6_isSame_161 : decode cX6_isSame 161 = .ok (.iconst 0, 1) := by decide +kernel
theorem dX6_isSame_162 : decode cX6_isSame 162 = .ok (.istore 4, 2) := by decide +kernel
theorem dX6_isSame_164 : decode cX6_isSame 164 = .ok (.iconst 0, 1) := by decide +kernel
theorem dX6_isSame_165 : decode cX6_isSame 165 = .ok (.istore 5, 2) := by decide +kernel
theorem dX6_isSame_167 : decode cX6_isSame 167 = .ok (.iload 5, 2) := by decide +kernel
theorem dX6_isSame_169 : decode cX6_isSame 169 = .ok (.aload_n 0, 1) := by decide +kernel
theorem dX6_isSame_170 : decode cX6_isSame 170 = .ok (.getfield 62, 3) := by decide +kernel
theorem dX6_isSame_173 : decode cX6_isSame 173 = .ok (.if_icmp .ge 73, 3) := by decide +kernel
theorem dX6_isSame_176 : decode cX6_isSame 176 = .ok (.iconst 0, 1) := by decide +kernel
theorem dX6_isSame_177 : decode cX6_isSame 177 = .ok (.istore 6, 2) := by decide +kernel
theorem dX6_isSame_179 : decode cX6_isSame 179 = .ok (.iload 6, 2) := by decide +kernel
theorem dX6_isSame_181 : decode cX6_isSame 181 = .ok (.iconst 5, 1) := by decide +kernel
theorem dX6_isSame_182 : decode cX6_isSame 182 = .ok (.if_icmp .ge 32, 3) := by decide +kernel
theorem dX6_isSame_185 : decode cX6_isSame 185 = .ok (.aload_n 1, 1) := by decide +kernel
theorem dX6_isSame_186 : decode cX6_isSame 186 = .ok (.iload 5, 2) := by decide +kernel
theorem dX6_isSame_188 : decode cX6_isSame 188 = .ok (.iload 6, 2) := by decide +kernel
theorem dX6_isSame_190 : decode cX6_isSame 190 = .ok (.invokevirtual 80, 3) := by decide +kernel
theorem dX6_isSame_193 : decode cX6_isSame 193 = .ok (.aload_n 0, 1) := by decide +kernel
theorem dX6_isSame_194 : decode cX6_isSame 194 = .ok (.getfield 27, 3) := by decide +kernel
theorem dX6_isSame_197 : decode cX6_isSame 197 = .ok (.iload 5, 2) := by decide +kernel
theorem dX6_isSame_199 : decode cX6_isSame 199 = .ok (.aaload, 1) := by decide +kernel
theorem dX6_isSame_200 : decode cX6_isSame 200 = .ok (.iload 6, 2) := by decide +kernel
theorem dX6_isSame_202 : decode cX6_isSame 202 = .ok (.iaload, 1) := by decide +kernel
theorem dX6_isSame_203 : decode cX6_isSame 203 = .ok (.if_icmp .eq 5, 3) := by decide +kernel
theorem dX6_isSame_206 : decode cX6_isSame 206 = .ok (.iconst 0, 1) := by decide +kernel
theorem dX6_isSame_207 : decode cX6_isSame 207 = .ok (.ireturn, 1) := by decide +kernel
theorem dX6_isSame_208 : decode cX6_isSame 208 = .ok (.iinc 6 1, 3) := by decide +kernel
theorem dX6_isSame_211 : decode cX6_isSame 211 = .ok (.goto (-32), 3) := by decide +kernel
theorem dX6_isSame_214 : decode cX6_isSame 214 = .ok (.iload_n 3, 1) := by decide +kernel
theorem dX6_isSame_215 : decode cX6_isSame 215 = .ok (.aload_n 0, 1) := by decide +kernel
theorem dX6_isSame_216 : decode cX6_isSame 216 = .ok (.getfield 27, 3) := by decide +kernel
theorem dX6_isSame_219 : decode cX6_isSame 219 = .ok (.iload 5, 2) := by decide +kernel
theorem dX6_isSame_221 : decode cX6_isSame 221 = .ok (.aaload, 1) := by decide +kernel
theorem dX6_isSame_222 : decode cX6_isSame 222 = .ok (.iconst 3, 1) := by decide +kernel
theorem dX6_isSame_223 : decode cX6_isSame 223 = .ok (.iaload, 1) := by decide +kernel
theorem dX6_isSame_224 : decode cX6_isSame 224 = .ok (.iadd, 1) := by decide +kernel
theorem dX6_isSame_225 : decode cX6_isSame 225 = .ok (.istore_n 3, 1) := by decide +kernel
theorem dX6_isSame_226 : decode cX6_isSame 226 = .ok (.iload 4, 2) := by decide +kernel
theorem dX6_isSame_228 : decode cX6_isSame 228 = .ok (.aload_n 0, 1) := by decide +kernel
theorem dX6_isSame_229 : decode cX6_isSame 229 = .ok (.getfield 27, 3) := by decide +kernel
theorem dX6_isSame_232 : decode cX6_isSame 232 = .ok (.iload 5, 2) := by decide +kernel
theorem dX6_isSame_234 : decode cX6_isSame 234 = .ok (.aaload, 1) := by decide +kernel
theorem dX6_isSame_235 : decode cX6_isSame 235 = .ok (.iconst 2, 1) := by decide +kernel
theorem dX6_isSame_236 : decode cX6_isSame 236 = .ok (.iaload, 1) := by decide +kernel
theorem dX6_isSame_237 : decode cX6_isSame 237 = .ok (.iadd, 1) := by decide +kernel
theorem dX6_isSame_238 : decode cX6_isSame 238 = .ok (.istore 4, 2) := by decide +kernel
theorem dX6_isSame_240 : decode cX6_isSame 240 = .ok (.iinc 5 1, 3) := by decide +kernel
theorem dX6_isSame_243 : decode cX6_isSame 243 = .ok (.goto (-76), 3) := by decide +kernel
theorem dX6_isSame_246 : decode cX6_isSame 246 = .ok (.aload_n 0, 1) := by decide +kernel
theorem dX6_isSame_247 : decode cX6_isSame 247 = .ok (.getfield 62, 3) := by decide +kernel
theorem dX6_isSame_250 : decode cX6_isSame 250 = .ok (.ifCond .ne 7, 3) := by decide +kernel
theorem dX6_isSame_253 : decode cX6_isSame 253 = .ok (.iconst (-1), 1) := by decide +kernel
theorem dX6_isSame_254 : decode cX6_isSame 254 = .ok (.goto 4, 3) := by decide +kernel
theorem dX6_isSame_257 : decode cX6_isSame 257 = .ok (.iconst 0, 1) := by decide +kernel
theorem dX6_isSame_258 : decode cX6_isSame 258 = .ok (.istore 5, 2) := by decide +kernel
theorem dX6_isSame_260 : decode cX6_isSame 260 = .ok (.iconst 0, 1) := by decide +kernel
theorem dX6_isSame_261 : decode cX6_isSame 261 = .ok (.istore 6, 2) := by decide +kernel
theorem dX6_isSame_263 : decode cX6_isSame 263 = .ok (.iload 6, 2) := by decide +kernel
theorem dX6_isSame_265 : decode cX6_isSame 265 = .ok (.bipush 10, 2) := by decide +kernel
theorem dX6_isSame_267 : decode cX6_isSame 267 = .ok (.if_icmp .ge 52, 3) := by decide +kernel
theorem dX6_isSame_270 : decode cX6_isSame 270 = .ok (.aload_n 1, 1) := by decide +kernel
theorem dX6_isSame_271 : decode cX6_isSame 271 = .ok (.iload 6, 2) := by decide +kernel
theorem dX6_isSame_273 : decode cX6_isSame 273 = .ok (.invokevirtual 83, 3) := by decide +kernel
theorem dX6_isSame_276 : decode cX6_isSame 276 = .ok (.aload_n 0, 1) := by decide +kernel
theorem dX6_isSame_277 : decode cX6_isSame 277 = .ok (.iload 6, 2) := by decide +kernel
theorem dX6_isSame_279 : decode cX6_isSame 279 = .ok (.invokevirtual 87, 3) := by decide +kernel
theorem dX6_isSame_282 : decode cX6_isSame 282 = .ok (.if_icmp .eq 5, 3) := by decide +kernel
theorem dX6_isSame_285 : decode cX6_isSame 285 = .ok (.iconst 0, 1) := by decide +kernel
theorem dX6_isSame_286 : decode cX6_isSame 286 = .ok (.ireturn, 1) := by decide +kernel
theorem dX6_isSame_287 : decode cX6_isSame 287 = .ok (.aload_n 0, 1) := by decide +kernel
theorem dX6_isSame_288 : decode cX6_isSame 288 = .ok (.getfield 62, 3) := by decide +kernel
theorem dX6_isSame_291 : decode cX6_isSame 291 = .ok (.ifCond .le 22, 3) := by decide +kernel
theorem dX6_isSame_294 : decode cX6_isSame 294 = .ok (.aload_n 0, 1) := by decide +kernel
theorem dX6_isSame_295 : decode cX6_isSame 295 = .ok (.iload 6, 2) := by decide +kernel
theorem dX6_isSame_297 : decode cX6_isSame 297 = .ok (.invokevirtual 87, 3) := by decide +kernel
theorem dX6_isSame_300 : decode cX6_isSame 300 = .ok (.aload_n 0, 1) := by decide +kernel
theorem dX6_isSame_301 : decode cX6_isSame 301 = .ok (.iload 5, 2) := by decide +kernel
theorem dX6_isSame_303 : decode cX6_isSame 303 = .ok (.invokevirtual 87, 3) := by decide +kernel
theorem dX6_isSame_306 : decode cX6_isSame 306 = .ok (.if_icmp .le 7, 3) := by decide +kernel
theorem dX6_isSame_309 : decode cX6_isSame 309 = .ok (.iload 6, 2) := by decide +kernel
theorem dX6_isSame_311 : decode cX6_isSame 311 = .ok (.istore 5, 2) := by decide +kernel
theorem dX6_isSame_313 : decode cX6_isSame 313 = .ok (.iinc 6 1, 3) := by decide +kernel
theorem dX6_isSame_316 : decode cX6_isSame 316 = .ok (.goto (-53), 3) := by decide +kernel
theorem dX6_isSame_319 : decode cX6_isSame 319 = .ok (.aload_n 0, 1) := by decide +kernel
theorem dX6_isSame_320 : decode cX6_isSame 320 = .ok (.getfield 17, 3) := by decide +kernel
theorem dX6_isSame_323 : decode cX6_isSame 323 = .ok (.aload_n 0, 1) := by decide +kernel
theorem dX6_isSame_324 : decode cX6_isSame 324 = .ok (.getfield 30, 3) := by decide +kernel
theorem dX6_isSame_327 : decode cX6_isSame 327 = .ok (.bipush 24, 2) := by decide +kernel
theorem dX6_isSame_329 : decode cX6_isSame 329 = .ok (.irem, 1) := by decide +kernel
theorem dX6_isSame_330 : decode cX6_isSame 330 = .ok (.aaload, 1) := by decide +kernel
theorem dX6_isSame_331 : decode cX6_isSame 331 = .ok (.astore 6, 2) := by decide +kernel
theorem dX6_isSame_333 : decode cX6_isSame 333 = .ok (.bipush 11, 2) := by decide +kernel
theorem dX6_isSame_335 : decode cX6_isSame 335 = .ok (.newarray .int, 2) := by decide +kernel
theorem dX6_isSame_337 : decode cX6_isSame 337 = .ok (.dup, 1) := by decide +kernel
theorem dX6_isSame_338 : decode cX6_isSame 338 = .ok (.iconst 0, 1) := by decide +kernel
theorem dX6_isSame_339 : decode cX6_isSame 339 = .ok (.aload_n 0, 1) := by decide +kernel
theorem dX6_isSame_340 : decode cX6_isSame 340 = .ok (.getfield 30, 3) := by decide +kernel
theorem dX6_isSame_343 : decode cX6_isSame 343 = .ok (.iastore, 1) := by decide +kernel
theorem dX6_isSame_344 : decode cX6_isSame 344 = .ok (.dup, 1) := by decide +kernel
theorem dX6_isSame_345 : decode cX6_isSame 345 = .ok (.iconst 1, 1) := by decide +kernel
theorem dX6_isSame_346 : decode cX6_isSame 346 = .ok (.aload_n 0, 1) := by decide +kernel
theorem dX6_isSame_347 : decode cX6_isSame 347 = .ok (.getfield 30, 3) := by decide +kernel
theorem dX6_isSame_350 : decode cX6_isSame 350 = .ok (.bipush 24, 2) := by decide +kernel
theorem dX6_isSame_352 : decode cX6_isSame 352 = .ok (.irem, 1) := by decide +kernel
theorem dX6_isSame_353 : decode cX6_isSame 353 = .ok (.iastore, 1) := by decide +kernel
theorem dX6_isSame_354 : decode cX6_isSame 354 = .ok (.dup, 1) := by decide +kernel
theorem dX6_isSame_355 : decode cX6_isSame 355 = .ok (.iconst 2, 1) := by decide +kernel
theorem dX6_isSame_356 : decode cX6_isSame 356 = .ok (.aload_n 0, 1) := by decide +kernel
theorem dX6_isSame_357 : decode cX6_isSame 357 = .ok (.aload 6, 2) := by decide +kernel
theorem dX6_isSame_359 : decode cX6_isSame 359 = .ok (.invokevirtual 34, 3) := by decide +kernel
theorem dX6_isSame_362 : decode cX6_isSame 362 = .ok (.iastore, 1) := by decide +kernel
theorem dX6_isSame_363 : decode cX6_isSame 363 = .ok (.dup, 1) := by decide +kernel
theorem dX6_isSame_364 : decode cX6_isSame 364 = .ok (.iconst 3, 1) := by decide +kernel
theorem dX6_isSame_365 : decode cX6_isSame 365 = .ok (.aload 6, 2) := by decide +kernel
theorem dX6_isSame_367 : decode cX6_isSame 367 = .ok (.iconst 2, 1) := by decide +kernel
theorem dX6_isSame_368 : decode cX6_isSame 368 = .ok (.iaload, 1) := by decide +kernel
theorem dX6_isSame_369 : decode cX6_isSame 369 = .ok (.iastore, 1) := by decide +kernel
theorem dX6_isSame_370 : decode cX6_isSame 370 = .ok (.dup, 1) := by decide +kernel
theorem dX6_isSame_371 : decode cX6_isSame 371 = .ok (.iconst 4, 1) := by decide +kernel
theorem dX6_isSame_372 : decode cX6_isSame 372 = .ok (.aload_n 0, 1) := by decide +kernel
theorem dX6_isSame_373 : decode cX6_isSame 373 = .ok (.getfield 41, 3) := by decide +kernel
theorem dX6_isSame_376 : decode cX6_isSame 376 = .ok (.iastore, 1) := by decide +kernel
theorem dX6_isSame_377 : decode cX6_isSame 377 = .ok (.dup, 1) := by decide +kernel
theorem dX6_isSame_378 : decode cX6_isSame 378 = .ok (.iconst 5, 1) := by decide +kernel
theorem dX6_isSame_379 : decode cX6_isSame 379 = .ok (.aload_n 0, 1) := by decide +kernel
theorem dX6_isSame_380 : decode cX6_isSame 380 = .ok (.getfield 38, 3) := by decide +kernel
theorem dX6_isSame_383 : decode cX6_isSame 383 = .ok (.iastore, 1) := by decide +kernel
theorem dX6_isSame_384 : decode cX6_isSame 384 = .ok (.dup, 1) := by decide +kernel
theorem dX6_isSame_385 : decode cX6_isSame 385 = .ok (.bipush 6, 2) := by decide +kernel
theorem dX6_isSame_387 : decode cX6_isSame 387 = .ok (.iload_n 2, 1) := by decide +kernel
theorem dX6_isSame_388 : decode cX6_isSame 388 = .ok (.iastore, 1) := by decide +kernel
theorem dX6_isSame_389 : decode cX6_isSame 389 = .ok (.dup, 1) := by decide +kernel
theorem dX6_isSame_390 : decode cX6_isSame 390 = .ok (.bipush 7, 2) := by decide +kernel
theorem dX6_isSame_392 : decode cX6_isSame 392 = .ok (.aload_n 0, 1) := by decide +kernel
theorem dX6_isSame_393 : decode cX6_isSame 393 = .ok (.getfield 7, 3) := by decide +kernel
theorem dX6_isSame_396 : decode cX6_isSame 396 = .ok (.invokestatic 88, 3) := by decide +kernel
theorem dX6_isSame_399 : decode cX6_isSame 399 = .ok (.iastore, 1) := by decide +kernel
theorem dX6_isSame_400 : decode cX6_isSame 400 = .ok (.dup, 1) := by decide +kernel
theorem dX6_isSame_401 : decode cX6_isSame 401 = .ok (.bipush 8, 2) := by decide +kernel
theorem dX6_isSame_403 : decode cX6_isSame 403 = .ok (.aload_n 0, 1) := by decide +kernel
theorem dX6_isSame_404 : decode cX6_isSame 404 = .ok (.getfield 13, 3) := by decide +kernel
theorem dX6_isSame_407 : decode cX6_isSame 407 = .ok (.invokestatic 88, 3) := by decide +kernel
theorem dX6_isSame_410 : decode cX6_isSame 410 = .ok (.iastore, 1) := by decide +kernel
theorem dX6_isSame_411 : decode cX6_isSame 411 = .ok (.dup, 1) := by decide +kernel
theorem dX6_isSame_412 : decode cX6_isSame 412 = .ok (.bipush 9, 2) := by decide +kernel
theorem dX6_isSame_414 : decode cX6_isSame 414 = .ok (.aload_n 0, 1) := by decide +kernel
theorem dX6_isSame_415 : decode cX6_isSame 415 = .ok (.getfield 62, 3) := by decide +kernel
theorem dX6_isSame_418 : decode cX6_isSame 418 = .ok (.iastore, 1) := by decide +kernel
theorem dX6_isSame_419 : decode cX6_isSame 419 = .ok (.dup, 1) := by decide +kernel
theorem dX6_isSame_420 : decode cX6_isSame 420 = .ok (.bipush 10, 2) := by decide +kernel
theorem dX6_isSame_422 : decode cX6_isSame 422 = .ok (.iload_n 3, 1) := by decide +kernel
theorem dX6_isSame_423 : decode cX6_isSame 423 = .ok (.iastore, 1) := by decide +kernel
theorem dX6_isSame_424 : decode cX6_isSame 424 = .ok (.astore 7, 2) := by decide +kernel
theorem dX6_isSame_426 : decode cX6_isSame 426 = .ok (.iconst 0, 1) := by decide +kernel
theorem dX6_isSame_427 : decode cX6_isSame 427 = .ok (.istore 8, 2) := by decide +kernel
theorem dX6_isSame_429 : decode cX6_isSame 429 = .ok (.iload 8, 2) := by decide +kernel
theorem dX6_isSame_431 : decode cX6_isSame 431 = .ok (.bipush 11, 2) := by decide +kernel
theorem dX6_isSame_433 : decode cX6_isSame 433 = .ok (.if_icmp .ge 25, 3) := by decide +kernel
theorem dX6_isSame_436 : decode cX6_isSame 436 = .ok (.aload_n 1, 1) := by decide +kernel
theorem dX6_isSame_437 : decode cX6_isSame 437 = .ok (.iload 8, 2) := by decide +kernel
theorem dX6_isSame_439 : decode cX6_isSame 439 = .ok (.invokevirtual 91, 3) := by decide +kernel
theorem dX6_isSame_442 : decode cX6_isSame 442 = .ok (.aload 7, 2) := by decide +kernel
theorem dX6_isSame_444 : decode cX6_isSame 444 = .ok (.iload 8, 2) := by decide +kernel
theorem dX6_isSame_446 : decode cX6_isSame 446 = .ok (.iaload, 1) := by decide +kernel
theorem dX6_isSame_447 : decode cX6_isSame 447 = .ok (.if_icmp .eq 5, 3) := by decide +kernel
theorem dX6_isSame_450 : decode cX6_isSame 450 = .ok (.iconst 0, 1) := by decide +kernel
theorem dX6_isSame_451 : decode cX6_isSame 451 = .ok (.ireturn, 1) := by decide +kernel
theorem dX6_isSame_452 : decode cX6_isSame 452 = .ok (.iinc 8 1, 3) := by decide +kernel
theorem dX6_isSame_455 : decode cX6_isSame 455 = .ok (.goto (-26), 3) := by decide +kernel
theorem dX6_isSame_458 : decode cX6_isSame 458 = .ok (.aload_n 1, 1) := by decide +kernel
theorem dX6_isSame_459 : decode cX6_isSame 459 = .ok (.invokevirtual 94, 3) := by decide +kernel
theorem dX6_isSame_462 : decode cX6_isSame 462 = .ok (.iload 5, 2) := by decide +kernel
theorem dX6_isSame_464 : decode cX6_isSame 464 = .ok (.if_icmp .ne 35, 3) := by decide +kernel
theorem dX6_isSame_467 : decode cX6_isSame 467 = .ok (.aload_n 1, 1) := by decide +kernel
theorem dX6_isSame_468 : decode cX6_isSame 468 = .ok (.invokevirtual 98, 3) := by decide +kernel
theorem dX6_isSame_471 : decode cX6_isSame 471 = .ok (.aload_n 0, 1) := by decide +kernel
theorem dX6_isSame_472 : decode cX6_isSame 472 = .ok (.getfield 62, 3) := by decide +kernel
theorem dX6_isSame_475 : decode cX6_isSame 475 = .ok (.ifCond .ne 7, 3) := by decide +kernel
theorem dX6_isSame_478 : decode cX6_isSame 478 = .ok (.dconst 0, 1) := by decide +kernel
theorem dX6_isSame_479 : decode cX6_isSame 479 = .ok (.goto 12, 3) := by decide +kernel
theorem dX6_isSame_482 : decode cX6_isSame 482 = .ok (.iload 4, 2) := by decide +kernel
theorem dX6_isSame_484 : decode cX6_isSame 484 = .ok (.i2d, 1) := by decide +kernel
theorem dX6_isSame_485 : decode cX6_isSame 485 = .ok (.aload_n 0, 1) := by decide +kernel
theorem dX6_isSame_486 : decode cX6_isSame 486 = .ok (.getfield 62, 3) := by decide +kernel
theorem dX6_isSame_489 : decode cX6_isSame 489 = .ok (.i2d, 1) := by decide +kernel
theorem dX6_isSame_490 : decode cX6_isSame 490 = .ok (.ddiv, 1) := by decide +kernel
theorem dX6_isSame_491 : decode cX6_isSame 491 = .ok (.dcmp .l, 1) := by decide +kernel
theorem dX6_isSame_492 : decode cX6_isSame 492 = .ok (.ifCond .ne 7, 3) := by decide +kernel
theorem dX6_isSame_495 : decode cX6_isSame 495 = .ok (.iconst 1, 1) := by decide +kernel
theorem dX6_isSame_496 : decode cX6_isSame 496 = .ok (.goto 4, 3) := by decide +kernel
theorem dX6_isSame_499 : decode cX6_isSame 499 = .ok (.iconst 0, 1) := by decide +kernel
theorem dX6_isSame_500 : decode cX6_isSame 500 = .ok (.ireturn, 1) := by decide +kernel
theorem dJ9_floorMod_7cf53_0 : decode cJ9_floorMod_7cf53 0 = .ok (.iload_n 0, 1) := by decide +kernel
theorem dJ9_floorMod_7cf53_1 : decode cJ9_floorMod_7cf53 1 = .ok (.iload_n 1, 1) := by decide +kernel
theorem dJ9_floorMod_7cf53_2 : decode cJ9_floorMod_7cf53 2 = .ok (.irem, 1) := by decide +kernel
theorem dJ9_floorMod_7cf53_3 : decode cJ9_floorMod_7cf53 3 = .ok (.istore_n 2, 1) := by decide +kernel
theorem dJ9_floorMod_7cf53_4 : decode cJ9_floorMod_7cf53 4 = .ok (.iload_n 0, 1) := by decide +kernel
theorem dJ9_floorMod_7cf53_5 : decode cJ9_floorMod_7cf53 5 = .ok (.iload_n 1, 1) := by decide +kernel
theorem dJ9_floorMod_7cf53_6 : decode cJ9_floorMod_7cf53 6 = .ok (.ixor, 1) := by decide +kernel
theorem dJ9_floorMod_7cf53_7 : decode cJ9_floorMod_7cf53 7 = .ok (.ifCond .ge 11, 3) := by decide +kernel
theorem dJ9_floorMod_7cf53_10 : decode cJ9_floorMod_7cf53 10 = .ok (.iload_n 2, 1) := by decide +kernel
theorem dJ9_floorMod_7cf53_11 : decode cJ9_floorMod_7cf53 11 = .ok (.ifCond .eq 7, 3) := by decide +kernel
theorem dJ9_floorMod_7cf53_14 : decode cJ9_floorMod_7cf53 14 = .ok (.iload_n 2, 1) := by decide +kernel
theorem dJ9_floorMod_7cf53_15 : decode cJ9_floorMod_7cf53 15 = .ok (.iload_n 1, 1) := by decide +kernel
theorem dJ9_floorMod_7cf53_16 : decode cJ9_floorMod_7cf53 16 = .ok (.iadd, 1) := by decide +kernel
theorem dJ9_floorMod_7cf53_17 : decode cJ9_floorMod_7cf53 17 = .ok (.ireturn, 1) := by decide +kernel
theorem dJ9_floorMod_7cf53_18 : decode cJ9_floorMod_7cf53 18 = .ok (.iload_n 2, 1) := by decide +kernel
theorem dJ9_floorMod_7cf53_19 : decode cJ9_floorMod_7cf53 19 = .ok (.ireturn, 1) := by decide +kernel
theorem dJ9_abs_0f7a4_0 : decode cJ9_abs_0f7a4 0 = .ok (.iload_n 0, 1) := by decide +kernel
theorem dJ9_abs_0f7a4_1 : decode cJ9_abs_0f7a4 1 = .ok (.ifCond .ge 8, 3) := by decide +kernel
theorem dJ9_abs_0f7a4_4 : decode cJ9_abs_0f7a4 4 = .ok (.iload_n 0, 1) := by decide +kernel
theorem dJ9_abs_0f7a4_5 : decode cJ9_abs_0f7a4 5 = .ok (.ineg, 1) := by decide +kernel
theorem dJ9_abs_0f7a4_6 : decode cJ9_abs_0f7a4 6 = .ok (.goto 4, 3) := by decide +kernel
theorem dJ9_abs_0f7a4_9 : decode cJ9_abs_0f7a4 9 = .ok (.iload_n 0, 1) := by decide +kernel
theorem dJ9_abs_0f7a4_10 : decode cJ9_abs_0f7a4 10 = .ok (.ireturn, 1) := by decide +kernel
theorem dJ9_max_7cf53_0 : decode cJ9_max_7cf53 0 = .ok (.iload_n 0, 1) := by decide +kernel
theorem dJ9_max_7cf53_1 : decode cJ9_max_7cf53 1 = .ok (.iload_n 1, 1) := by decide +kernel
theorem dJ9_max_7cf53_2 : decode cJ9_max_7cf53 2 = .ok (.if_icmp .lt 7, 3) := by decide +kernel
theorem dJ9_max_7cf53_5 : decode cJ9_max_7cf53 5 = .ok (.iload_n 0, 1) := by decide +kernel
theorem dJ9_max_7cf53_6 : decode cJ9_max_7cf53 6 = .ok (.goto 4, 3) := by decide +kernel
theorem dJ9_max_7cf53_9 : decode cJ9_max_7cf53 9 = .ok (.iload_n 1, 1) := by decide +kernel
theorem dJ9_max_7cf53_10 : decode cJ9_max_7cf53 10 = .ok (.ireturn, 1) := by decide +kernel
theorem dJ9_min_7cf53_0 : decode cJ9_min_7cf53 0 = .ok (.iload_n 0, 1) := by decide +kernel
theorem dJ9_min_7cf53_1 : decode cJ9_min_7cf53 1 = .ok (.iload_n 1, 1) := by decide +kernel
theorem dJ9_min_7cf53_2 : decode cJ9_min_7cf53 2 = .ok (.if_icmp .gt 7, 3) := by decide +kernel
theorem dJ9_min_7cf53_5 : decode cJ9_min_7cf53 5 = .ok (.iload_n 0, 1) := by decide +kernel
theorem dJ9_min_7cf53_6 : decode cJ9_min_7cf53 6 = .ok (.goto 4, 3) := by decide +kernel
theorem dJ9_min_7cf53_9 : decode cJ9_min_7cf53 9 = .ok (.iload_n 1, 1) := by decide +kernel
theorem dJ9_min_7cf53_10 : decode cJ9_min_7cf53 10 = .ok (.ireturn, 1) := by decide +kernel
set_option maxRecDepth 20000 in
theorem ggJ7_sort_2022b_X9_sort : GoodIn wsJ7_sort_2022b wsX9_sort := goodIn_hd (goodIn_r [.code yX9_sort cX9_sort 7 none] [4] (by decide +kernel) (by decide +kernel)) (goodIn_app (goodIn_r _ [5, 6, 7, 3, 8, 9, 10, 11, 12, 13, 14] (by decide +kernel) (by decide +kernel)) (show GoodIn _ hwX9_sort from List.forall_mem_cons.mpr ⟨⟨List.mem_cons_of_mem _ (List.mem_append_right _ (List.mem_cons_self)), good_of_word (by decide +kernel)⟩, fun _ h => absurd h List.not_mem_nil⟩))
set_option maxRecDepth 20000 in
theorem gJ7_sort_2022b_X9_sort : GoodIn wsJ7_sort_2022b (va_wsS RJ7 7 yX9_sort wsX9_sort) := goodIn_app (goodIn_of _ (by decide +kernel)) ggJ7_sort_2022b_X9_sort
theorem dJ7_sort_2022b_0 : decode cJ7_sort_2022b 0 = .ok (.aload_n 0, 1) := by decide +kernel
theorem dJ7_sort_2022b_1 : decode cJ7_sort_2022b 1 = .ok (.iconst 0, 1) := by decide +kernel
theorem dJ7_sort_2022b_2 : decode cJ7_sort_2022b 2 = .ok (.iconst 0, 1) := by decide +kernel
theorem dJ7_sort_2022b_3 : decode cJ7_sort_2022b 3 = .ok (.aload_n 0, 1) := by decide +kernel
theorem dJ7_sort_2022b_4 : decode cJ7_sort_2022b 4 = .ok (.arraylength, 1) := by decide +kernel
theorem dJ7_sort_2022b_5 : decode cJ7_sort_2022b 5 = .ok (.invokestatic 7, 3) := by decide +kernel
theorem dJ7_sort_2022b_8 : decode cJ7_sort_2022b 8 = .ok (.return_, 1) := by decide +kernel
set_option maxRecDepth 20000 in
theorem ggX9_sort_X9_sort_ : GoodIn wsX9_sort wsX9_sort_ := goodIn_hd (List.forall_mem_cons.mpr ⟨⟨List.mem_cons_of_mem _ (List.mem_append_right _ (List.mem_cons_self)), good_of_word (by decide +kernel)⟩, fun _ h => absurd h List.not_mem_nil⟩) (goodIn_app (goodIn_r _ [4, 5, 6, 7, 1, 8, 9, 10, 11] (by decide +kernel) (by decide +kernel)) (show GoodIn _ hwX9_sort_ from fun _ h => absurd h List.not_mem_nil))
set_option maxRecDepth 20000 in
theorem gX9_sort_X9_sort_ : GoodIn wsX9_sort (va_wsS RX9 26 yX9_sort_ wsX9_sort_) := goodIn_app (goodIn_of _ (by decide +kernel)) ggX9_sort_X9_sort_
theorem dX9_sort_0 : decode cX9_sort 0 = .ok (.iload_n 3, 1) := by decide +kernel
theorem dX9_sort_1 : decode cX9_sort 1 = .ok (.iload_n 2, 1) := by decide +kernel
theorem dX9_sort_2 : decode cX9_sort 2 = .ok (.isub, 1) := by decide +kernel
theorem dX9_sort_3 : decode cX9_sort 3 = .ok (.istore 4, 2) := by decide +kernel
theorem dX9_sort_5 : decode cX9_sort 5 = .ok (.iload_n 1, 1) := by decide +kernel
theorem dX9_sort_6 : decode cX9_sort 6 = .ok (.iconst 1, 1) := by decide +kernel
theorem dX9_sort_7 : decode cX9_sort 7 = .ok (.if_icmp .le 61, 3) := by decide +kernel
theorem dX9_sort_10 : decode cX9_sort 10 = .ok (.iload 4, 2) := by decide +kernel
theorem dX9_sort_12 : decode cX9_sort 12 = .ok (.sipush 4096, 3) := by decide +kernel
theorem dX9_sort_15 : decode cX9_sort 15 = .ok (.if_icmp .le 53, 3) := by decide +kernel
theorem dX9_sort_18 : decode cX9_sort 18 = .ok (.iload_n 1, 1) := by decide +kernel
theorem dX9_sort_19 : decode cX9_sort 19 = .ok (.iload 4, 2) := by decide +kernel
theorem dX9_sort_21 : decode cX9_sort 21 = .ok (.bipush 12, 2) := by decide +kernel
theorem dX9_sort_23 : decode cX9_sort 23 = .ok (.ishr, 1) := by decide +kernel
theorem dX9_sort_24 : decode cX9_sort 24 = .ok (.invokestatic 13, 3) := by decide +kernel
theorem dX9_sort_27 : decode cX9_sort 27 = .ok (.istore 5, 2) := by decide +kernel
theorem dX9_sort_29 : decode cX9_sort 29 = .ok (.iload 5, 2) := by decide +kernel
theorem dX9_sort_31 : decode cX9_sort 31 = .ok (.ifCond .ne 7, 3) := by decide +kernel
theorem dX9_sort_34 : decode cX9_sort 34 = .ok (.aconst_null, 1) := by decide +kernel
theorem dX9_sort_35 : decode cX9_sort 35 = .ok (.goto 7, 3) := by decide +kernel
theorem dX9_sort_38 : decode cX9_sort 38 = .ok (.iload 4, 2) := by decide +kernel
theorem dX9_sort_40 : decode cX9_sort 40 = .ok (.newarray .int, 2) := by decide +kernel
theorem dX9_sort_42 : decode cX9_sort 42 = .ok (.astore 6, 2) := by decide +kernel
theorem dX9_sort_44 : decode cX9_sort 44 = .ok (.new 17, 3) := by decide +kernel
theorem dX9_sort_47 : decode cX9_sort 47 = .ok (.dup, 1) := by decide +kernel
theorem dX9_sort_48 : decode cX9_sort 48 = .ok (.aconst_null, 1) := by decide +kernel
theorem dX9_sort_49 : decode cX9_sort 49 = .ok (.aload_n 0, 1) := by decide +kernel
theorem dX9_sort_50 : decode cX9_sort 50 = .ok (.aload 6, 2) := by decide +kernel
theorem dX9_sort_52 : decode cX9_sort 52 = .ok (.iload_n 2, 1) := by decide +kernel
theorem dX9_sort_53 : decode cX9_sort 53 = .ok (.iload 4, 2) := by decide +kernel
theorem dX9_sort_55 : decode cX9_sort 55 = .ok (.iload_n 2, 1) := by decide +kernel
theorem dX9_sort_56 : decode cX9_sort 56 = .ok (.iload 5, 2) := by decide +kernel
theorem dX9_sort_58 : decode cX9_sort 58 = .ok (.invokespecial 19, 3) := by decide +kernel
theorem dX9_sort_61 : decode cX9_sort 61 = .ok (.invokevirtual 22, 3) := by decide +kernel
theorem dX9_sort_64 : decode cX9_sort 64 = .ok (.pop, 1) := by decide +kernel
theorem dX9_sort_65 : decode cX9_sort 65 = .ok (.goto 11, 3) := by decide +kernel
theorem dX9_sort_68 : decode cX9_sort 68 = .ok (.aconst_null, 1) := by decide +kernel
theorem dX9_sort_69 : decode cX9_sort 69 = .ok (.aload_n 0, 1) := by decide +kernel
theorem dX9_sort_70 : decode cX9_sort 70 = .ok (.iconst 0, 1) := by decide +kernel
theorem dX9_sort_71 : decode cX9_sort 71 = .ok (.iload_n 2, 1) := by decide +kernel
theorem dX9_sort_72 : decode cX9_sort 72 = .ok (.iload_n 3, 1) := by decide +kernel
theorem dX9_sort_73 : decode cX9_sort 73 = .ok (.invokestatic 26, 3) := by decide +kernel
theorem dX9_sort_76 : decode cX9_sort 76 = .ok (.return_, 1) := by decide +kernel
set_option maxRecDepth 20000 in
theorem ggX9_sort__X9_insertionSort : GoodIn wsX9_sort_ wsX9_insertionSort := goodIn_r _ [4] (by decide +kernel) (by decide +kernel)
set_option maxRecDepth 20000 in
theorem gX9_sort__X9_insertionSort : GoodIn wsX9_sort_ (va_wsS RX9 34 yX9_insertionSort wsX9_insertionSort) := goodIn_app (goodIn_of _ (by decide +kernel)) ggX9_sort__X9_insertionSort
theorem dX9_sort__0 : decode cX9_sort_ 0 = .ok (.iload 4, 2) := by decide +kernel
theorem dX9_sort__2 : decode cX9_sort_ 2 = .ok (.iconst 1, 1) := by decide +kernel
theorem dX9_sort__3 : decode cX9_sort_ 3 = .ok (.isub, 1) := by decide +kernel
theorem dX9_sort__4 : decode cX9_sort_ 4 = .ok (.istore 5, 2) := by decide +kernel
theorem dX9_sort__6 : decode cX9_sort_ 6 = .ok (.iload 4, 2) := by decide +kernel
theorem dX9_sort__8 : decode cX9_sort_ 8 = .ok (.iload_n 3, 1) := by decide +kernel
theorem dX9_sort__9 : decode cX9_sort_ 9 = .ok (.isub, 1) := by decide +kernel
theorem dX9_sort__10 : decode cX9_sort_ 10 = .ok (.istore 6, 2) := by decide +kernel
theorem dX9_sort__12 : decode cX9_sort_ 12 = .ok (.iload 6, 2) := by decide +kernel
theorem dX9_sort__14 : decode cX9_sort_ 14 = .ok (.bipush 65, 2) := by decide +kernel
theorem dX9_sort__16 : decode cX9_sort_ 16 = .ok (.iload_n 2, 1) := by decide +kernel
theorem dX9_sort__17 : decode cX9_sort_ 17 = .ok (.iadd, 1) := by decide +kernel
theorem dX9_sort__18 : decode cX9_sort_ 18 = .ok (.if_icmp .ge 28, 3) := by decide +kernel
theorem dX9_sort__21 : decode cX9_sort_ 21 = .ok (.iload_n 2, 1) := by decide +kernel
theorem dX9_sort__22 : decode cX9_sort_ 22 = .ok (.iconst 1, 1) := by decide +kernel
theorem dX9_sort__23 : decode cX9_sort_ 23 = .ok (.iand, 1) := by decide +kernel
theorem dX9_sort__24 : decode cX9_sort_ 24 = .ok (.ifCond .le 22, 3) := by decide +kernel
theorem dX9_sort__27 : decode cX9_sort_ 27 = .ok (.aload_n 1, 1) := by decide +kernel
theorem dX9_sort__28 : decode cX9_sort_ 28 = .ok (.iload_n 3, 1) := by decide +kernel
theorem dX9_sort__29 : decode cX9_sort_ 29 = .ok (.iload 4, 2) := by decide +kernel
