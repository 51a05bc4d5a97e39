theorem dX0_init_0 : decode cX0_init 0 = .ok (.aload_n 0, 1) := by decide +kernel
theorem dX0_init_1 : decode cX0_init 1 = .ok (.invokespecial 3, 3) := by decide +kernel
theorem dX0_init_4 : decode cX0_init 4 = .ok (.aload_n 0, 1) := by decide +kernel
theorem dX0_init_5 : decode cX0_init 5 = .ok (.bipush 20, 2) := by decide +kernel
theorem dX0_init_7 : decode cX0_init 7 = .ok (.newarray .int, 2) := by decide +kernel
theorem dX0_init_9 : decode cX0_init 9 = .ok (.putfield 9, 3) := by decide +kernel
theorem dX0_init_12 : decode cX0_init 12 = .ok (.aload_n 0, 1) := by decide +kernel
theorem dX0_init_13 : decode cX0_init 13 = .ok (.bipush 20, 2) := by decide +kernel
theorem dX0_init_15 : decode cX0_init 15 = .ok (.newarray .int, 2) := by decide +kernel
theorem dX0_init_17 : decode cX0_init 17 = .ok (.putfield 15, 3) := by decide +kernel
theorem dX0_init_20 : decode cX0_init 20 = .ok (.aload_n 0, 1) := by decide +kernel
theorem dX0_init_21 : decode cX0_init 21 = .ok (.iconst 5, 1) := by decide +kernel
theorem dX0_init_22 : decode cX0_init 22 = .ok (.newarray .boolean, 2) := by decide +kernel
theorem dX0_init_24 : decode cX0_init 24 = .ok (.putfield 18, 3) := by decide +kernel
theorem dX0_init_27 : decode cX0_init 27 = .ok (.aload_n 0, 1) := by decide +kernel
theorem dX0_init_28 : decode cX0_init 28 = .ok (.aload_n 1, 1) := by decide +kernel
theorem dX0_init_29 : decode cX0_init 29 = .ok (.putfield 22, 3) := by decide +kernel
theorem dX0_init_32 : decode cX0_init 32 = .ok (.aload_n 0, 1) := by decide +kernel
theorem dX0_init_33 : decode cX0_init 33 = .ok (.aload_n 2, 1) := by decide +kernel
theorem dX0_init_34 : decode cX0_init 34 = .ok (.putfield 26, 3) := by decide +kernel
theorem dX0_init_37 : decode cX0_init 37 = .ok (.return_, 1) := by decide +kernel
theorem dX0_becomeLike_0 : decode cX0_becomeLike 0 = .ok (.iconst 0, 1) := by decide +kernel
theorem dX0_becomeLike_1 : decode cX0_becomeLike 1 = .ok (.istore_n 2, 1) := by decide +kernel
theorem dX0_becomeLike_2 : decode cX0_becomeLike 2 = .ok (.iload_n 2, 1) := by decide +kernel
theorem dX0_becomeLike_3 : decode cX0_becomeLike 3 = .ok (.bipush 20, 2) := by decide +kernel
theorem dX0_becomeLike_5 : decode cX0_becomeLike 5 = .ok (.if_icmp .ge 33, 3) := by decide +kernel
theorem dX0_becomeLike_8 : decode cX0_becomeLike 8 = .ok (.aload_n 0, 1) := by decide +kernel
theorem dX0_becomeLike_9 : decode cX0_becomeLike 9 = .ok (.getfield 9, 3) := by decide +kernel
theorem dX0_becomeLike_12 : decode cX0_becomeLike 12 = .ok (.iload_n 2, 1) := by decide +kernel
theorem dX0_becomeLike_13 : decode cX0_becomeLike 13 = .ok (.aload_n 1, 1) := by decide +kernel
theorem dX0_becomeLike_14 : decode cX0_becomeLike 14 = .ok (.getfield 9, 3) := by decide +kernel
theorem dX0_becomeLike_17 : decode cX0_becomeLike 17 = .ok (.iload_n 2, 1) := by decide +kernel
theorem dX0_becomeLike_18 : decode cX0_becomeLike 18 = .ok (.iaload, 1) := by decide +kernel
theorem dX0_becomeLike_19 : decode cX0_becomeLike 19 = .ok (.iastore, 1) := by decide +kernel
theorem dX0_becomeLike_20 : decode cX0_becomeLike 20 = .ok (.aload_n 0, 1) := by decide +kernel
theorem dX0_becomeLike_21 : decode cX0_becomeLike 21 = .ok (.getfield 15, 3) := by decide +kernel
theorem dX0_becomeLike_24 : decode cX0_becomeLike 24 = .ok (.iload_n 2, 1) := by decide +kernel
theorem dX0_becomeLike_25 : decode cX0_becomeLike 25 = .ok (.aload_n 1, 1) := by decide +kernel
theorem dX0_becomeLike_26 : decode cX0_becomeLike 26 = .ok (.getfield 15, 3) := by decide +kernel
theorem dX0_becomeLike_29 : decode cX0_becomeLike 29 = .ok (.iload_n 2, 1) := by decide +kernel
theorem dX0_becomeLike_30 : decode cX0_becomeLike 30 = .ok (.iaload, 1) := by decide +kernel
theorem dX0_becomeLike_31 : decode cX0_becomeLike 31 = .ok (.iastore, 1) := by decide +kernel
theorem dX0_becomeLike_32 : decode cX0_becomeLike 32 = .ok (.iinc 2 1, 3) := by decide +kernel
theorem dX0_becomeLike_35 : decode cX0_becomeLike 35 = .ok (.goto (-33), 3) := by decide +kernel
theorem dX0_becomeLike_38 : decode cX0_becomeLike 38 = .ok (.iconst 0, 1) := by decide +kernel
theorem dX0_becomeLike_39 : decode cX0_becomeLike 39 = .ok (.istore_n 2, 1) := by decide +kernel
theorem dX0_becomeLike_40 : decode cX0_becomeLike 40 = .ok (.iload_n 2, 1) := by decide +kernel
theorem dX0_becomeLike_41 : decode cX0_becomeLike 41 = .ok (.iconst 5, 1) := by decide +kernel
theorem dX0_becomeLike_42 : decode cX0_becomeLike 42 = .ok (.if_icmp .ge 21, 3) := by decide +kernel
theorem dX0_becomeLike_45 : decode cX0_becomeLike 45 = .ok (.aload_n 0, 1) := by decide +kernel
theorem dX0_becomeLike_46 : decode cX0_becomeLike 46 = .ok (.getfield 18, 3) := by decide +kernel
theorem dX0_becomeLike_49 : decode cX0_becomeLike 49 = .ok (.iload_n 2, 1) := by decide +kernel
theorem dX0_becomeLike_50 : decode cX0_becomeLike 50 = .ok (.aload_n 1, 1) := by decide +kernel
theorem dX0_becomeLike_51 : decode cX0_becomeLike 51 = .ok (.getfield 18, 3) := by decide +kernel
theorem dX0_becomeLike_54 : decode cX0_becomeLike 54 = .ok (.iload_n 2, 1) := by decide +kernel
theorem dX0_becomeLike_55 : decode cX0_becomeLike 55 = .ok (.baload, 1) := by decide +kernel
theorem dX0_becomeLike_56 : decode cX0_becomeLike 56 = .ok (.bastore, 1) := by decide +kernel
theorem dX0_becomeLike_57 : decode cX0_becomeLike 57 = .ok (.iinc 2 1, 3) := by decide +kernel
theorem dX0_becomeLike_60 : decode cX0_becomeLike 60 = .ok (.goto (-20), 3) := by decide +kernel
theorem dX0_becomeLike_63 : decode cX0_becomeLike 63 = .ok (.aload_n 0, 1) := by decide +kernel
theorem dX0_becomeLike_64 : decode cX0_becomeLike 64 = .ok (.aload_n 1, 1) := by decide +kernel
theorem dX0_becomeLike_65 : decode cX0_becomeLike 65 = .ok (.getfield 30, 3) := by decide +kernel
theorem dX0_becomeLike_68 : decode cX0_becomeLike 68 = .ok (.putfield 30, 3) := by decide +kernel
theorem dX0_becomeLike_71 : decode cX0_becomeLike 71 = .ok (.aload_n 0, 1) := by decide +kernel
theorem dX0_becomeLike_72 : decode cX0_becomeLike 72 = .ok (.aload_n 1, 1) := by decide +kernel
theorem dX0_becomeLike_73 : decode cX0_becomeLike 73 = .ok (.getfield 34, 3) := by decide +kernel
theorem dX0_becomeLike_76 : decode cX0_becomeLike 76 = .ok (.putfield 34, 3) := by decide +kernel
theorem dX0_becomeLike_79 : decode cX0_becomeLike 79 = .ok (.return_, 1) := by decide +kernel
set_option maxRecDepth 20000 in
theorem ggX0_hourOfDay_J9_floorMod_7cf53 : GoodIn wsX0_hourOfDay wsJ9_floorMod_7cf53 := goodIn_r _ [5] (by decide +kernel) (by decide +kernel)
set_option maxRecDepth 20000 in
theorem gX0_hourOfDay_J9_floorMod_7cf53 : GoodIn wsX0_hourOfDay (va_wsS RX0 37 yJ9_floorMod_7cf53 wsJ9_floorMod_7cf53) := goodIn_app (goodIn_of _ (by decide +kernel)) ggX0_hourOfDay_J9_floorMod_7cf53
theorem dX0_hourOfDay_0 : decode cX0_hourOfDay 0 = .ok (.aload_n 0, 1) := by decide +kernel
theorem dX0_hourOfDay_1 : decode cX0_hourOfDay 1 = .ok (.getfield 34, 3) := by decide +kernel
theorem dX0_hourOfDay_4 : decode cX0_hourOfDay 4 = .ok (.bipush 24, 2) := by decide +kernel
theorem dX0_hourOfDay_6 : decode cX0_hourOfDay 6 = .ok (.invokestatic 37, 3) := by decide +kernel
theorem dX0_hourOfDay_9 : decode cX0_hourOfDay 9 = .ok (.ireturn, 1) := by decide +kernel
set_option maxRecDepth 20000 in
theorem ggX0_allSnow_X5_sum : GoodIn wsX0_allSnow wsX5_sum := goodIn_r _ [4] (by decide +kernel) (by decide +kernel)
set_option maxRecDepth 20000 in
theorem gX0_allSnow_X5_sum_n43 : GoodIn wsX0_allSnow (wsX5_sum) := ggX0_allSnow_X5_sum
theorem dX0_allSnow_0 : decode cX0_allSnow 0 = .ok (.aload_n 0, 1) := by decide +kernel
theorem dX0_allSnow_1 : decode cX0_allSnow 1 = .ok (.getfield 9, 3) := by decide +kernel
theorem dX0_allSnow_4 : decode cX0_allSnow 4 = .ok (.invokestatic 43, 3) := by decide +kernel
theorem dX0_allSnow_7 : decode cX0_allSnow 7 = .ok (.ireturn, 1) := by decide +kernel
set_option maxRecDepth 20000 in
theorem ggX0_allIce_X5_sum : GoodIn wsX0_allIce wsX5_sum := goodIn_r _ [4] (by decide +kernel) (by decide +kernel)
set_option maxRecDepth 20000 in
theorem gX0_allIce_X5_sum_n43 : GoodIn wsX0_allIce (wsX5_sum) := ggX0_allIce_X5_sum
theorem dX0_allIce_0 : decode cX0_allIce 0 = .ok (.aload_n 0, 1) := by decide +kernel
theorem dX0_allIce_1 : decode cX0_allIce 1 = .ok (.getfield 15, 3) := by decide +kernel
theorem dX0_allIce_4 : decode cX0_allIce 4 = .ok (.invokestatic 43, 3) := by decide +kernel
theorem dX0_allIce_7 : decode cX0_allIce 7 = .ok (.ireturn, 1) := by decide +kernel
theorem dX0_countRunning_0 : decode cX0_countRunning 0 = .ok (.iconst 0, 1) := by decide +kernel
theorem dX0_countRunning_1 : decode cX0_countRunning 1 = .ok (.istore_n 1, 1) := by decide +kernel
theorem dX0_countRunning_2 : decode cX0_countRunning 2 = .ok (.aload_n 0, 1) := by decide +kernel
theorem dX0_countRunning_3 : decode cX0_countRunning 3 = .ok (.getfield 18, 3) := by decide +kernel
theorem dX0_countRunning_6 : decode cX0_countRunning 6 = .ok (.astore_n 2, 1) := by decide +kernel
theorem dX0_countRunning_7 : decode cX0_countRunning 7 = .ok (.aload_n 2, 1) := by decide +kernel
theorem dX0_countRunning_8 : decode cX0_countRunning 8 = .ok (.arraylength, 1) := by decide +kernel
theorem dX0_countRunning_9 : decode cX0_countRunning 9 = .ok (.istore_n 3, 1) := by decide +kernel
theorem dX0_countRunning_10 : decode cX0_countRunning 10 = .ok (.iconst 0, 1) := by decide +kernel
theorem dX0_countRunning_11 : decode cX0_countRunning 11 = .ok (.istore 4, 2) := by decide +kernel
theorem dX0_countRunning_13 : decode cX0_countRunning 13 = .ok (.iload 4, 2) := by decide +kernel
theorem dX0_countRunning_15 : decode cX0_countRunning 15 = .ok (.iload_n 3, 1) := by decide +kernel
theorem dX0_countRunning_16 : decode cX0_countRunning 16 = .ok (.if_icmp .ge 23, 3) := by decide +kernel
theorem dX0_countRunning_19 : decode cX0_countRunning 19 = .ok (.aload_n 2, 1) := by decide +kernel
theorem dX0_countRunning_20 : decode cX0_countRunning 20 = .ok (.iload 4, 2) := by decide +kernel
theorem dX0_countRunning_22 : decode cX0_countRunning 22 = .ok (.baload, 1) := by decide +kernel
theorem dX0_countRunning_23 : decode cX0_countRunning 23 = .ok (.istore 5, 2) := by decide +kernel
theorem dX0_countRunning_25 : decode cX0_countRunning 25 = .ok (.iload 5, 2) := by decide +kernel
theorem dX0_countRunning_27 : decode cX0_countRunning 27 = .ok (.ifCond .eq 6, 3) := by decide +kernel
theorem dX0_countRunning_30 : decode cX0_countRunning 30 = .ok (.iinc 1 1, 3) := by decide +kernel
theorem dX0_countRunning_33 : decode cX0_countRunning 33 = .ok (.iinc 4 1, 3) := by decide +kernel
theorem dX0_countRunning_36 : decode cX0_countRunning 36 = .ok (.goto (-23), 3) := by decide +kernel
theorem dX0_countRunning_39 : decode cX0_countRunning 39 = .ok (.iload_n 1, 1) := by decide +kernel
theorem dX0_countRunning_40 : decode cX0_countRunning 40 = .ok (.ireturn, 1) := by decide +kernel
theorem dX0_fallsAt_0 : decode cX0_fallsAt 0 = .ok (.aload_n 0, 1) := by decide +kernel
theorem dX0_fallsAt_1 : decode cX0_fallsAt 1 = .ok (.getfield 9, 3) := by decide +kernel
theorem dX0_fallsAt_4 : decode cX0_fallsAt 4 = .ok (.iload_n 1, 1) := by decide +kernel
theorem dX0_fallsAt_5 : decode cX0_fallsAt 5 = .ok (.iaload, 1) := by decide +kernel
theorem dX0_fallsAt_6 : decode cX0_fallsAt 6 = .ok (.bipush 30, 2) := by decide +kernel
theorem dX0_fallsAt_8 : decode cX0_fallsAt 8 = .ok (.if_icmp .lt 14, 3) := by decide +kernel
theorem dX0_fallsAt_11 : decode cX0_fallsAt 11 = .ok (.aload_n 0, 1) := by decide +kernel
theorem dX0_fallsAt_12 : decode cX0_fallsAt 12 = .ok (.getfield 15, 3) := by decide +kernel
theorem dX0_fallsAt_15 : decode cX0_fallsAt 15 = .ok (.iload_n 1, 1) := by decide +kernel
theorem dX0_fallsAt_16 : decode cX0_fallsAt 16 = .ok (.iaload, 1) := by decide +kernel
theorem dX0_fallsAt_17 : decode cX0_fallsAt 17 = .ok (.bipush 10, 2) := by decide +kernel
theorem dX0_fallsAt_19 : decode cX0_fallsAt 19 = .ok (.if_icmp .lt 7, 3) := by decide +kernel
theorem dX0_fallsAt_22 : decode cX0_fallsAt 22 = .ok (.iconst 1, 1) := by decide +kernel
theorem dX0_fallsAt_23 : decode cX0_fallsAt 23 = .ok (.goto 4, 3) := by decide +kernel
theorem dX0_fallsAt_26 : decode cX0_fallsAt 26 = .ok (.iconst 0, 1) := by decide +kernel
theorem dX0_fallsAt_27 : decode cX0_fallsAt 27 = .ok (.ireturn, 1) := by decide +kernel
theorem dX0_takeSnow_0 : decode cX0_takeSnow 0 = .ok (.aload_n 0, 1) := by decide +kernel
theorem dX0_takeSnow_1 : decode cX0_takeSnow 1 = .ok (.getfield 9, 3) := by decide +kernel
theorem dX0_takeSnow_4 : decode cX0_takeSnow 4 = .ok (.iload_n 1, 1) := by decide +kernel
theorem dX0_takeSnow_5 : decode cX0_takeSnow 5 = .ok (.iconst 0, 1) := by decide +kernel
theorem dX0_takeSnow_6 : decode cX0_takeSnow 6 = .ok (.aload_n 0, 1) := by decide +kernel
theorem dX0_takeSnow_7 : decode cX0_takeSnow 7 = .ok (.getfield 9, 3) := by decide +kernel
theorem dX0_takeSnow_10 : decode cX0_takeSnow 10 = .ok (.iload_n 1, 1) := by decide +kernel
theorem dX0_takeSnow_11 : decode cX0_takeSnow 11 = .ok (.iaload, 1) := by decide +kernel
theorem dX0_takeSnow_12 : decode cX0_takeSnow 12 = .ok (.iload_n 2, 1) := by decide +kernel
theorem dX0_takeSnow_13 : decode cX0_takeSnow 13 = .ok (.isub, 1) := by decide +kernel
theorem dX0_takeSnow_14 : decode cX0_takeSnow 14 = .ok (.invokestatic 47, 3) := by decide +kernel
theorem dX0_takeSnow_17 : decode cX0_takeSnow 17 = .ok (.iastore, 1) := by decide +kernel
theorem dX0_takeSnow_18 : decode cX0_takeSnow 18 = .ok (.return_, 1) := by decide +kernel
theorem dX0_spreadSnow_0 : decode cX0_spreadSnow 0 = .ok (.iconst 0, 1) := by decide +kernel
theorem dX0_spreadSnow_1 : decode cX0_spreadSnow 1 = .ok (.istore_n 3, 1) := by decide +kernel
theorem dX0_spreadSnow_2 : decode cX0_spreadSnow 2 = .ok (.iload_n 1, 1) := by decide +kernel
theorem dX0_spreadSnow_3 : decode cX0_spreadSnow 3 = .ok (.istore 4, 2) := by decide +kernel
theorem dX0_spreadSnow_5 : decode cX0_spreadSnow 5 = .ok (.iload 4, 2) := by decide +kernel
theorem dX0_spreadSnow_7 : decode cX0_spreadSnow 7 = .ok (.iload_n 2, 1) := by decide +kernel
theorem dX0_spreadSnow_8 : decode cX0_spreadSnow 8 = .ok (.if_icmp .gt 19, 3) := by decide +kernel
theorem dX0_spreadSnow_11 : decode cX0_spreadSnow 11 = .ok (.iload_n 3, 1) := by decide +kernel
theorem dX0_spreadSnow_12 : decode cX0_spreadSnow 12 = .ok (.aload_n 0, 1) := by decide +kernel
theorem dX0_spreadSnow_13 : decode cX0_spreadSnow 13 = .ok (.getfield 9, 3) := by decide +kernel
theorem dX0_spreadSnow_16 : decode cX0_spreadSnow 16 = .ok (.iload 4, 2) := by decide +kernel
theorem dX0_spreadSnow_18 : decode cX0_spreadSnow 18 = .ok (.iaload, 1) := by decide +kernel
theorem dX0_spreadSnow_19 : decode cX0_spreadSnow 19 = .ok (.iadd, 1) := by decide +kernel
theorem dX0_spreadSnow_20 : decode cX0_spreadSnow 20 = .ok (.istore_n 3, 1) := by decide +kernel
theorem dX0_spreadSnow_21 : decode cX0_spreadSnow 21 = .ok (.iinc 4 1, 3) := by decide +kernel
theorem dX0_spreadSnow_24 : decode cX0_spreadSnow 24 = .ok (.goto (-19), 3) := by decide +kernel
theorem dX0_spreadSnow_27 : decode cX0_spreadSnow 27 = .ok (.iload_n 2, 1) := by decide +kernel
theorem dX0_spreadSnow_28 : decode cX0_spreadSnow 28 = .ok (.iload_n 1, 1) := by decide +kernel
theorem dX0_spreadSnow_29 : decode cX0_spreadSnow 29 = .ok (.isub, 1) := by decide +kernel
theorem dX0_spreadSnow_30 : decode cX0_spreadSnow 30 = .ok (.iconst 1, 1) := by decide +kernel
theorem dX0_spreadSnow_31 : decode cX0_spreadSnow 31 = .ok (.iadd, 1) := by decide +kernel
theorem dX0_spreadSnow_32 : decode cX0_spreadSnow 32 = .ok (.istore 4, 2) := by decide +kernel
theorem dX0_spreadSnow_34 : decode cX0_spreadSnow 34 = .ok (.iload 4, 2) := by decide +kernel
theorem dX0_spreadSnow_36 : decode cX0_spreadSnow 36 = .ok (.iconst 1, 1) := by decide +kernel
theorem dX0_spreadSnow_37 : decode cX0_spreadSnow 37 = .ok (.if_icmp .ge 5, 3) := by decide +kernel
theorem dX0_spreadSnow_40 : decode cX0_spreadSnow 40 = .ok (.iload_n 3, 1) := by decide +kernel
theorem dX0_spreadSnow_41 : decode cX0_spreadSnow 41 = .ok (.ireturn, 1) := by decide +kernel
theorem dX0_spreadSnow_42 : decode cX0_spreadSnow 42 = .ok (.iload_n 3, 1) := by decide +kernel
theorem dX0_spreadSnow_43 : decode cX0_spreadSnow 43 = .ok (.iload 4, 2) := by decide +kernel
theorem dX0_spreadSnow_45 : decode cX0_spreadSnow 45 = .ok (.idiv, 1) := by decide +kernel
theorem dX0_spreadSnow_46 : decode cX0_spreadSnow 46 = .ok (.istore 5, 2) := by decide +kernel
theorem dX0_spreadSnow_48 : decode cX0_spreadSnow 48 = .ok (.iload_n 3, 1) := by decide +kernel
theorem dX0_spreadSnow_49 : decode cX0_spreadSnow 49 = .ok (.iload 4, 2) := by decide +kernel
theorem dX0_spreadSnow_51 : decode cX0_spreadSnow 51 = .ok (.irem, 1) := by decide +kernel
theorem dX0_spreadSnow_52 : decode cX0_spreadSnow 52 = .ok (.istore 6, 2) := by decide +kernel
theorem dX0_spreadSnow_54 : decode cX0_spreadSnow 54 = .ok (.iload_n 1, 1) := by decide +kernel
theorem dX0_spreadSnow_55 : decode cX0_spreadSnow 55 = .ok (.istore 7, 2) := by decide +kernel
theorem dX0_spreadSnow_57 : decode cX0_spreadSnow 57 = .ok (.iload 7, 2) := by decide +kernel
theorem dX0_spreadSnow_59 : decode cX0_spreadSnow 59 = .ok (.iload_n 2, 1) := by decide +kernel
theorem dX0_spreadSnow_60 : decode cX0_spreadSnow 60 = .ok (.if_icmp .gt 42, 3) := by decide +kernel
theorem dX0_spreadSnow_63 : decode cX0_spreadSnow 63 = .ok (.aload_n 0, 1) := by decide +kernel
theorem dX0_spreadSnow_64 : decode cX0_spreadSnow 64 = .ok (.getfield 9, 3) := by decide +kernel
theorem dX0_spreadSnow_67 : decode cX0_spreadSnow 67 = .ok (.iload 7, 2) := by decide +kernel
theorem dX0_spreadSnow_69 : decode cX0_spreadSnow 69 = .ok (.iload 7, 2) := by decide +kernel
theorem dX0_spreadSnow_71 : decode cX0_spreadSnow 71 = .ok (.iload_n 1, 1) := by decide +kernel
theorem dX0_spreadSnow_72 : decode cX0_spreadSnow 72 = .ok (.isub, 1) := by decide +kernel
theorem dX0_spreadSnow_73 : decode cX0_spreadSnow 73 = .ok (.iload 6, 2) := by decide +kernel
theorem dX0_spreadSnow_75 : decode cX0_spreadSnow 75 = .ok (.if_icmp .ge 10, 3) := by decide +kernel
theorem dX0_spreadSnow_78 : decode cX0_spreadSnow 78 = .ok (.iload 5, 2) := by decide +kernel
theorem dX0_spreadSnow_80 : decode cX0_spreadSnow 80 = .ok (.iconst 1, 1) := by decide +kernel
theorem dX0_spreadSnow_81 : decode cX0_spreadSnow 81 = .ok (.iadd, 1) := by decide +kernel
theorem dX0_spreadSnow_82 : decode cX0_spreadSnow 82 = .ok (.goto 5, 3) := by decide +kernel
theorem dX0_spreadSnow_85 : decode cX0_spreadSnow 85 = .ok (.iload 5, 2) := by decide +kernel
theorem dX0_spreadSnow_87 : decode cX0_spreadSnow 87 = .ok (.iastore, 1) := by decide +kernel
theorem dX0_spreadSnow_88 : decode cX0_spreadSnow 88 = .ok (.aload_n 0, 1) := by decide +kernel
theorem dX0_spreadSnow_89 : decode cX0_spreadSnow 89 = .ok (.getfield 15, 3) := by decide +kernel
theorem dX0_spreadSnow_92 : decode cX0_spreadSnow 92 = .ok (.iload 7, 2) := by decide +kernel
theorem dX0_spreadSnow_94 : decode cX0_spreadSnow 94 = .ok (.iconst 0, 1) := by decide +kernel
theorem dX0_spreadSnow_95 : decode cX0_spreadSnow 95 = .ok (.iastore, 1) := by decide +kernel
theorem dX0_spreadSnow_96 : decode cX0_spreadSnow 96 = .ok (.iinc 7 1, 3) := by decide +kernel
theorem dX0_spreadSnow_99 : decode cX0_spreadSnow 99 = .ok (.goto (-42), 3) := by decide +kernel
theorem dX0_spreadSnow_102 : decode cX0_spreadSnow 102 = .ok (.iload_n 3, 1) := by decide +kernel
theorem dX0_spreadSnow_103 : decode cX0_spreadSnow 103 = .ok (.ireturn, 1) := by decide +kernel
set_option maxRecDepth 20000 in
theorem ggX0_letHoursGoBy_X0_letHourGoBy : GoodIn wsX0_letHoursGoBy wsX0_letHourGoBy := goodIn_r _ [5, 6, 7, 8, 9, 10, 11, 12, 13, 14, 15, 4, 16, 17, 18, 19, 20, 21, 22, 23, 24, 25, 26, 27, 28, 29, 30, 31, 32, 33, 34, 35, 36, 37, 38, 39, 40, 41, 42, 43, 44, 45, 46, 47, 48, 49, 50, 51, 52, 53, 54, 55, 56, 57, 58, 59, 60, 61, 62, 63, 64, 65, 66, 67, 68, 69, 70, 71, 72, 73] (by decide +kernel) (by decide +kernel)
set_option maxRecDepth 20000 in
theorem gX0_letHoursGoBy_X0_letHourGoBy : GoodIn wsX0_letHoursGoBy (wsV RX0 50 RX0 yX0_letHourGoBy wsX0_letHourGoBy) := goodIn_app (goodIn_of _ (by decide +kernel)) ggX0_letHoursGoBy_X0_letHourGoBy
theorem dX0_letHoursGoBy_0 : decode cX0_letHoursGoBy 0 = .ok (.iconst 0, 1) := by decide +kernel
theorem dX0_letHoursGoBy_1 : decode cX0_letHoursGoBy 1 = .ok (.istore_n 2, 1) := by decide +kernel
theorem dX0_letHoursGoBy_2 : decode cX0_letHoursGoBy 2 = .ok (.iload_n 2, 1) := by decide +kernel
theorem dX0_letHoursGoBy_3 : decode cX0_letHoursGoBy 3 = .ok (.iload_n 1, 1) := by decide +kernel
theorem dX0_letHoursGoBy_4 : decode cX0_letHoursGoBy 4 = .ok (.if_icmp .ge 13, 3) := by decide +kernel
theorem dX0_letHoursGoBy_7 : decode cX0_letHoursGoBy 7 = .ok (.aload_n 0, 1) := by decide +kernel
theorem dX0_letHoursGoBy_8 : decode cX0_letHoursGoBy 8 = .ok (.invokevirtual 50, 3) := by decide +kernel
theorem dX0_letHoursGoBy_11 : decode cX0_letHoursGoBy 11 = .ok (.iinc 2 1, 3) := by decide +kernel
theorem dX0_letHoursGoBy_14 : decode cX0_letHoursGoBy 14 = .ok (.goto (-12), 3) := by decide +kernel
theorem dX0_letHoursGoBy_17 : decode cX0_letHoursGoBy 17 = .ok (.return_, 1) := by decide +kernel
set_option maxRecDepth 20000 in
theorem ggX0_letHourGoBy_X0_hourOfDay : GoodIn wsX0_letHourGoBy wsX0_hourOfDay := goodIn_r _ [12, 7, 13, 14, 15, 16, 57, 58, 59, 60, 61, 62, 63] (by decide +kernel) (by decide +kernel)
set_option maxRecDepth 20000 in
theorem gX0_letHourGoBy_X0_hourOfDay : GoodIn wsX0_letHourGoBy (wsV RX0 53 RX0 yX0_hourOfDay wsX0_hourOfDay) := goodIn_app (goodIn_of _ (by decide +kernel)) ggX0_letHourGoBy_X0_hourOfDay
set_option maxRecDepth 20000 in
theorem ggX0_letHourGoBy_X4_wetCold : GoodIn wsX0_letHourGoBy wsX4_wetCold := goodIn_r _ [21, 22, 23, 64, 65, 66] (by decide +kernel) (by decide +kernel)
set_option maxRecDepth 20000 in
theorem gX0_letHourGoBy_X4_wetCold : GoodIn wsX0_letHourGoBy (wsV RX0 62 RX4 yX4_wetCold wsX4_wetCold) := goodIn_app (goodIn_of _ (by decide +kernel)) ggX0_letHourGoBy_X4_wetCold
set_option maxRecDepth 20000 in
theorem ggX0_letHourGoBy_X0_work : GoodIn wsX0_letHourGoBy wsX0_work := goodIn_r _ [27, 28, 29, 30, 31, 32, 33, 34, 35, 11, 36, 37, 38, 39, 40, 41, 42, 43, 44, 45, 57, 58, 59, 60, 61, 62, 63] (by decide +kernel) (by decide +kernel)
set_option maxRecDepth 20000 in
theorem gX0_letHourGoBy_X0_work : GoodIn wsX0_letHourGoBy (wsV RX0 74 RX0 yX0_work wsX0_work) := goodIn_app (goodIn_of _ (by decide +kernel)) ggX0_letHourGoBy_X0_work
set_option maxRecDepth 20000 in
theorem ggX0_letHourGoBy_X0_melt : GoodIn wsX0_letHourGoBy wsX0_melt := goodIn_r _ [49, 37, 50, 51, 31, 52, 53, 54, 55, 11, 56, 45, 57, 58, 59, 60, 61, 62, 63] (by decide +kernel) (by decide +kernel)
set_option maxRecDepth 20000 in
theorem gX0_letHourGoBy_X0_melt : GoodIn wsX0_letHourGoBy (wsV RX0 78 RX0 yX0_melt wsX0_melt) := goodIn_app (goodIn_of _ (by decide +kernel)) ggX0_letHourGoBy_X0_melt
theorem dX0_letHourGoBy_0 : decode cX0_letHourGoBy 0 = .ok (.aload_n 0, 1) := by decide +kernel
theorem dX0_letHourGoBy_1 : decode cX0_letHourGoBy 1 = .ok (.invokevirtual 53, 3) := by decide +kernel
theorem dX0_letHourGoBy_4 : decode cX0_letHourGoBy 4 = .ok (.istore_n 1, 1) := by decide +kernel
theorem dX0_letHourGoBy_5 : decode cX0_letHourGoBy 5 = .ok (.aload_n 0, 1) := by decide +kernel
theorem dX0_letHourGoBy_6 : decode cX0_letHourGoBy 6 = .ok (.getfield 22, 3) := by decide +kernel
theorem dX0_letHourGoBy_9 : decode cX0_letHourGoBy 9 = .ok (.getfield 57, 3) := by decide +kernel
theorem dX0_letHourGoBy_12 : decode cX0_letHourGoBy 12 = .ok (.iload_n 1, 1) := by decide +kernel
theorem dX0_letHourGoBy_13 : decode cX0_letHourGoBy 13 = .ok (.iaload, 1) := by decide +kernel
theorem dX0_letHourGoBy_14 : decode cX0_letHourGoBy 14 = .ok (.istore_n 2, 1) := by decide +kernel
theorem dX0_letHourGoBy_15 : decode cX0_letHourGoBy 15 = .ok (.aload_n 0, 1) := by decide +kernel
theorem dX0_letHourGoBy_16 : decode cX0_letHourGoBy 16 = .ok (.getfield 22, 3) := by decide +kernel
theorem dX0_letHourGoBy_19 : decode cX0_letHourGoBy 19 = .ok (.iload_n 1, 1) := by decide +kernel
theorem dX0_letHourGoBy_20 : decode cX0_letHourGoBy 20 = .ok (.invokevirtual 62, 3) := by decide +kernel
theorem dX0_letHourGoBy_23 : decode cX0_letHourGoBy 23 = .ok (.istore_n 3, 1) := by decide +kernel
theorem dX0_letHourGoBy_24 : decode cX0_letHourGoBy 24 = .ok (.iconst 0, 1) := by decide +kernel
theorem dX0_letHourGoBy_25 : decode cX0_letHourGoBy 25 = .ok (.istore 4, 2) := by decide +kernel
theorem dX0_letHourGoBy_27 : decode cX0_letHourGoBy 27 = .ok (.iload 4, 2) := by decide +kernel
theorem dX0_letHourGoBy_29 : decode cX0_letHourGoBy 29 = .ok (.iconst 5, 1) := by decide +kernel
theorem dX0_letHourGoBy_30 : decode cX0_letHourGoBy 30 = .ok (.if_icmp .ge 44, 3) := by decide +kernel
theorem dX0_letHourGoBy_33 : decode cX0_letHourGoBy 33 = .ok (.aload_n 0, 1) := by decide +kernel
theorem dX0_letHourGoBy_34 : decode cX0_letHourGoBy 34 = .ok (.getfield 18, 3) := by decide +kernel
theorem dX0_letHourGoBy_37 : decode cX0_letHourGoBy 37 = .ok (.iload 4, 2) := by decide +kernel
theorem dX0_letHourGoBy_39 : decode cX0_letHourGoBy 39 = .ok (.baload, 1) := by decide +kernel
theorem dX0_letHourGoBy_40 : decode cX0_letHourGoBy 40 = .ok (.ifCond .eq 28, 3) := by decide +kernel
theorem dX0_letHourGoBy_43 : decode cX0_letHourGoBy 43 = .ok (.aload_n 0, 1) := by decide +kernel
theorem dX0_letHourGoBy_44 : decode cX0_letHourGoBy 44 = .ok (.aload_n 0, 1) := by decide +kernel
theorem dX0_letHourGoBy_45 : decode cX0_letHourGoBy 45 = .ok (.getfield 26, 3) := by decide +kernel
theorem dX0_letHourGoBy_48 : decode cX0_letHourGoBy 48 = .ok (.getfield 66, 3) := by decide +kernel
theorem dX0_letHourGoBy_51 : decode cX0_letHourGoBy 51 = .ok (.iload 4, 2) := by decide +kernel
theorem dX0_letHourGoBy_53 : decode cX0_letHourGoBy 53 = .ok (.iaload, 1) := by decide +kernel
theorem dX0_letHourGoBy_54 : decode cX0_letHourGoBy 54 = .ok (.aload_n 0, 1) := by decide +kernel
theorem dX0_letHourGoBy_55 : decode cX0_letHourGoBy 55 = .ok (.getfield 26, 3) := by decide +kernel
theorem dX0_letHourGoBy_58 : decode cX0_letHourGoBy 58 = .ok (.getfield 71, 3) := by decide +kernel
theorem dX0_letHourGoBy_61 : decode cX0_letHourGoBy 61 = .ok (.iload 4, 2) := by decide +kernel
theorem dX0_letHourGoBy_63 : decode cX0_letHourGoBy 63 = .ok (.iaload, 1) := by decide +kernel
theorem dX0_letHourGoBy_64 : decode cX0_letHourGoBy 64 = .ok (.iload_n 3, 1) := by decide +kernel
theorem dX0_letHourGoBy_65 : decode cX0_letHourGoBy 65 = .ok (.invokevirtual 74, 3) := by decide +kernel
theorem dX0_letHourGoBy_68 : decode cX0_letHourGoBy 68 = .ok (.iinc 4 1, 3) := by decide +kernel
theorem dX0_letHourGoBy_71 : decode cX0_letHourGoBy 71 = .ok (.goto (-44), 3) := by decide +kernel
theorem dX0_letHourGoBy_74 : decode cX0_letHourGoBy 74 = .ok (.iload_n 2, 1) := by decide +kernel
theorem dX0_letHourGoBy_75 : decode cX0_letHourGoBy 75 = .ok (.ifCond .le 8, 3) := by decide +kernel
theorem dX0_letHourGoBy_78 : decode cX0_letHourGoBy 78 = .ok (.aload_n 0, 1) := by decide +kernel
theorem dX0_letHourGoBy_79 : decode cX0_letHourGoBy 79 = .ok (.iload_n 2, 1) := by decide +kernel
theorem dX0_letHourGoBy_80 : decode cX0_letHourGoBy 80 = .ok (.invokevirtual 78, 3) := by decide +kernel
theorem dX0_letHourGoBy_83 : decode cX0_letHourGoBy 83 = .ok (.aload_n 0, 1) := by decide +kernel
theorem dX0_letHourGoBy_84 : decode cX0_letHourGoBy 84 = .ok (.dup, 1) := by decide +kernel
theorem dX0_letHourGoBy_85 : decode cX0_letHourGoBy 85 = .ok (.getfield 34, 3) := by decide +kernel
theorem dX0_letHourGoBy_88 : decode cX0_letHourGoBy 88 = .ok (.iconst 1, 1) := by decide +kernel
theorem dX0_letHourGoBy_89 : decode cX0_letHourGoBy 89 = .ok (.iadd, 1) := by decide +kernel
theorem dX0_letHourGoBy_90 : decode cX0_letHourGoBy 90 = .ok (.putfield 34, 3) := by decide +kernel
theorem dX0_letHourGoBy_93 : decode cX0_letHourGoBy 93 = .ok (.return_, 1) := by decide +kernel
set_option maxRecDepth 20000 in
theorem ggX0_work_X0_addIce : GoodIn wsX0_work wsX0_addIce := goodIn_r _ [10, 11, 2, 3, 4, 5, 12, 13, 14, 20, 21, 22, 23, 24, 25, 26] (by decide +kernel) (by decide +kernel)
set_option maxRecDepth 20000 in
theorem gX0_work_X0_addIce : GoodIn wsX0_work (wsV RX0 82 RX0 yX0_addIce wsX0_addIce) := goodIn_app (goodIn_of _ (by decide +kernel)) ggX0_work_X0_addIce
set_option maxRecDepth 20000 in
theorem ggX0_work_X0_addSnow : GoodIn wsX0_work wsX0_addSnow := goodIn_r _ [18, 19, 2, 3, 4, 5, 12, 13, 14, 20, 21, 22, 23, 24, 25, 26] (by decide +kernel) (by decide +kernel)
set_option maxRecDepth 20000 in
theorem gX0_work_X0_addSnow : GoodIn wsX0_work (wsV RX0 88 RX0 yX0_addSnow wsX0_addSnow) := goodIn_app (goodIn_of _ (by decide +kernel)) ggX0_work_X0_addSnow
theorem dX0_work_0 : decode cX0_work 0 = .ok (.iload_n 2, 1) := by decide +kernel
theorem dX0_work_1 : decode cX0_work 1 = .ok (.aload_n 0, 1) := by decide +kernel
theorem dX0_work_2 : decode cX0_work 2 = .ok (.getfield 30, 3) := by decide +kernel
theorem dX0_work_5 : decode cX0_work 5 = .ok (.if_icmp .le 4, 3) := by decide +kernel
theorem dX0_work_8 : decode cX0_work 8 = .ok (.return_, 1) := by decide +kernel
theorem dX0_work_9 : decode cX0_work 9 = .ok (.aload_n 0, 1) := by decide +kernel
theorem dX0_work_10 : decode cX0_work 10 = .ok (.dup, 1) := by decide +kernel
theorem dX0_work_11 : decode cX0_work 11 = .ok (.getfield 30, 3) := by decide +kernel
theorem dX0_work_14 : decode cX0_work 14 = .ok (.iload_n 2, 1) := by decide +kernel
theorem dX0_work_15 : decode cX0_work 15 = .ok (.isub, 1) := by decide +kernel
theorem dX0_work_16 : decode cX0_work 16 = .ok (.putfield 30, 3) := by decide +kernel
theorem dX0_work_19 : decode cX0_work 19 = .ok (.iload_n 3, 1) := by decide +kernel
theorem dX0_work_20 : decode cX0_work 20 = .ok (.bipush (-2), 2) := by decide +kernel
theorem dX0_work_22 : decode cX0_work 22 = .ok (.if_icmp .le 9, 3) := by decide +kernel
theorem dX0_work_25 : decode cX0_work 25 = .ok (.aload_n 0, 1) := by decide +kernel
theorem dX0_work_26 : decode cX0_work 26 = .ok (.iload_n 1, 1) := by decide +kernel
theorem dX0_work_27 : decode cX0_work 27 = .ok (.invokevirtual 82, 3) := by decide +kernel
theorem dX0_work_30 : decode cX0_work 30 = .ok (.return_, 1) := by decide +kernel
theorem dX0_work_31 : decode cX0_work 31 = .ok (.iload_n 2, 1) := by decide +kernel
theorem dX0_work_32 : decode cX0_work 32 = .ok (.iload_n 3, 1) := by decide +kernel
theorem dX0_work_33 : decode cX0_work 33 = .ok (.ineg, 1) := by decide +kernel
theorem dX0_work_34 : decode cX0_work 34 = .ok (.bipush 8, 2) := by decide +kernel
theorem dX0_work_36 : decode cX0_work 36 = .ok (.invokestatic 85, 3) := by decide +kernel
theorem dX0_work_39 : decode cX0_work 39 = .ok (.imul, 1) := by decide +kernel
theorem dX0_work_40 : decode cX0_work 40 = .ok (.istore 4, 2) := by decide +kernel
theorem dX0_work_42 : decode cX0_work 42 = .ok (.aload_n 0, 1) := by decide +kernel
theorem dX0_work_43 : decode cX0_work 43 = .ok (.iload_n 1, 1) := by decide +kernel
theorem dX0_work_44 : decode cX0_work 44 = .ok (.iload 4, 2) := by decide +kernel
theorem dX0_work_46 : decode cX0_work 46 = .ok (.iconst 2, 1) := by decide +kernel
theorem dX0_work_47 : decode cX0_work 47 = .ok (.idiv, 1) := by decide +kernel
theorem dX0_work_48 : decode cX0_work 48 = .ok (.invokevirtual 88, 3) := by decide +kernel
theorem dX0_work_51 : decode cX0_work 51 = .ok (.aload_n 0, 1) := by decide +kernel
theorem dX0_work_52 : decode cX0_work 52 = .ok (.iload_n 1, 1) := by decide +kernel
theorem dX0_work_53 : decode cX0_work 53 = .ok (.iconst 1, 1) := by decide +kernel
theorem dX0_work_54 : decode cX0_work 54 = .ok (.isub, 1) := by decide +kernel
theorem dX0_work_55 : decode cX0_work 55 = .ok (.iload 4, 2) := by decide +kernel
theorem dX0_work_57 : decode cX0_work 57 = .ok (.iconst 4, 1) := by decide +kernel
theorem dX0_work_58 : decode cX0_work 58 = .ok (.idiv, 1) := by decide +kernel
theorem dX0_work_59 : decode cX0_work 59 = .ok (.invokevirtual 88, 3) := by decide +kernel
theorem dX0_work_62 : decode cX0_work 62 = .ok (.aload_n 0, 1) := by decide +kernel
theorem dX0_work_63 : decode cX0_work 63 = .ok (.iload_n 1, 1) := by decide +kernel
theorem dX0_work_64 : decode cX0_work 64 = .ok (.iconst 1, 1) := by decide +kernel
theorem dX0_work_65 : decode cX0_work 65 = .ok (.iadd, 1) := by decide +kernel
theorem dX0_work_66 : decode cX0_work 66 = .ok (.iload 4, 2) := by decide +kernel
theorem dX0_work_68 : decode cX0_work 68 = .ok (.iconst 4, 1) := by decide +kernel
theorem dX0_work_69 : decode cX0_work 69 = .ok (.idiv, 1) := by decide +kernel
theorem dX0_work_70 : decode cX0_work 70 = .ok (.invokevirtual 88, 3) := by decide +kernel
theorem dX0_work_73 : decode cX0_work 73 = .ok (.return_, 1) := by decide +kernel
set_option maxRecDepth 20000 in
theorem ggX0_addSnow_X5_isOutside : GoodIn wsX0_addSnow wsX5_isOutside := goodIn_r _ [8] (by decide +kernel) (by decide +kernel)
set_option maxRecDepth 20000 in
theorem gX0_addSnow_X5_isOutside_n92 : GoodIn wsX0_addSnow (wsX5_isOutside) := ggX0_addSnow_X5_isOutside
theorem dX0_addSnow_0 : decode cX0_addSnow 0 = .ok (.iload_n 1, 1) := by decide +kernel
theorem dX0_addSnow_1 : decode cX0_addSnow 1 = .ok (.iconst 0, 1) := by decide +kernel
theorem dX0_addSnow_2 : decode cX0_addSnow 2 = .ok (.bipush 19, 2) := by decide +kernel
theorem dX0_addSnow_4 : decode cX0_addSnow 4 = .ok (.invokestatic 92, 3) := by decide +kernel
theorem dX0_addSnow_7 : decode cX0_addSnow 7 = .ok (.ifCond .ne 23, 3) := by decide +kernel
theorem dX0_addSnow_10 : decode cX0_addSnow 10 = .ok (.aload_n 0, 1) := by decide +kernel
theorem dX0_addSnow_11 : decode cX0_addSnow 11 = .ok (.getfield 9, 3) := by decide +kernel
theorem dX0_addSnow_14 : decode cX0_addSnow 14 = .ok (.iload_n 1, 1) := by decide +kernel
theorem dX0_addSnow_15 : decode cX0_addSnow 15 = .ok (.aload_n 0, 1) := by decide +kernel
theorem dX0_addSnow_16 : decode cX0_addSnow 16 = .ok (.getfield 9, 3) := by decide +kernel
theorem dX0_addSnow_19 : decode cX0_addSnow 19 = .ok (.iload_n 1, 1) := by decide +kernel
theorem dX0_addSnow_20 : decode cX0_addSnow 20 = .ok (.iaload, 1) := by decide +kernel
theorem dX0_addSnow_21 : decode cX0_addSnow 21 = .ok (.iload_n 2, 1) := by decide +kernel
theorem dX0_addSnow_22 : decode cX0_addSnow 22 = .ok (.iadd, 1) := by decide +kernel
theorem dX0_addSnow_23 : decode cX0_addSnow 23 = .ok (.sipush 300, 3) := by decide +kernel
theorem dX0_addSnow_26 : decode cX0_addSnow 26 = .ok (.invokestatic 85, 3) := by decide +kernel
theorem dX0_addSnow_29 : decode cX0_addSnow 29 = .ok (.iastore, 1) := by decide +kernel
theorem dX0_addSnow_30 : decode cX0_addSnow 30 = .ok (.return_, 1) := by decide +kernel
set_option maxRecDepth 20000 in
theorem ggX0_addIce_X5_isOutside : GoodIn wsX0_addIce wsX5_isOutside := goodIn_r _ [8] (by decide +kernel) (by decide +kernel)
set_option maxRecDepth 20000 in
theorem gX0_addIce_X5_isOutside_n92 : GoodIn wsX0_addIce (wsX5_isOutside) := ggX0_addIce_X5_isOutside
theorem dX0_addIce_0 : decode cX0_addIce 0 = .ok (.iload_n 1, 1) := by decide +kernel
theorem dX0_addIce_1 : decode cX0_addIce 1 = .ok (.iconst 0, 1) := by decide +kernel
theorem dX0_addIce_2 : decode cX0_addIce 2 = .ok (.bipush 19, 2) := by decide +kernel
theorem dX0_addIce_4 : decode cX0_addIce 4 = .ok (.invokestatic 92, 3) := by decide +kernel
theorem dX0_addIce_7 : decode cX0_addIce 7 = .ok (.ifCond .ne 22, 3) := by decide +kernel
theorem dX0_addIce_10 : decode cX0_addIce 10 = .ok (.aload_n 0, 1) := by decide +kernel
theorem dX0_addIce_11 : decode cX0_addIce 11 = .ok (.getfield 15, 3) := by decide +kernel
theorem dX0_addIce_14 : decode cX0_addIce 14 = .ok (.iload_n 1, 1) := by decide +kernel
theorem dX0_addIce_15 : decode cX0_addIce 15 = .ok (.aload_n 0, 1) := by decide +kernel
theorem dX0_addIce_16 : decode cX0_addIce 16 = .ok (.getfield 15, 3) := by decide +kernel
theorem dX0_addIce_19 : decode cX0_addIce 19 = .ok (.iload_n 1, 1) := by decide +kernel
theorem dX0_addIce_20 : decode cX0_addIce 20 = .ok (.iaload, 1) := by decide +kernel
theorem dX0_addIce_21 : decode cX0_addIce 21 = .ok (.iconst 1, 1) := by decide +kernel
theorem dX0_addIce_22 : decode cX0_addIce 22 = .ok (.iadd, 1) := by decide +kernel
theorem dX0_addIce_23 : decode cX0_addIce 23 = .ok (.bipush 50, 2) := by decide +kernel
theorem dX0_addIce_25 : decode cX0_addIce 25 = .ok (.invokestatic 85, 3) := by decide +kernel
theorem dX0_addIce_28 : decode cX0_addIce 28 = .ok (.iastore, 1) := by decide +kernel
theorem dX0_addIce_29 : decode cX0_addIce 29 = .ok (.return_, 1) := by decide +kernel
set_option maxRecDepth 20000 in
theorem ggX0_melt_X0_takeSnow : GoodIn wsX0_melt wsX0_takeSnow := goodIn_r _ [10, 11, 2, 3, 4, 5, 12, 13, 14, 15, 16, 17, 18] (by decide +kernel) (by decide +kernel)
set_option maxRecDepth 20000 in
theorem gX0_melt_X0_takeSnow : GoodIn wsX0_melt (wsV RX0 96 RX0 yX0_takeSnow wsX0_takeSnow) := goodIn_app (goodIn_of _ (by decide +kernel)) ggX0_melt_X0_takeSnow
theorem dX0_melt_0 : decode cX0_melt 0 = .ok (.iconst 0, 1) := by decide +kernel
theorem dX0_melt_1 : decode cX0_melt 1 = .ok (.istore_n 2, 1) := by decide +kernel
theorem dX0_melt_2 : decode cX0_melt 2 = .ok (.iload_n 2, 1) := by decide +kernel
theorem dX0_melt_3 : decode cX0_melt 3 = .ok (.bipush 20, 2) := by decide +kernel
theorem dX0_melt_5 : decode cX0_melt 5 = .ok (.if_icmp .ge 33, 3) := by decide +kernel
theorem dX0_melt_8 : decode cX0_melt 8 = .ok (.aload_n 0, 1) := by decide +kernel
theorem dX0_melt_9 : decode cX0_melt 9 = .ok (.iload_n 2, 1) := by decide +kernel
theorem dX0_melt_10 : decode cX0_melt 10 = .ok (.iload_n 1, 1) := by decide +kernel
theorem dX0_melt_11 : decode cX0_melt 11 = .ok (.invokevirtual 96, 3) := by decide +kernel
theorem dX0_melt_14 : decode cX0_melt 14 = .ok (.aload_n 0, 1) := by decide +kernel
theorem dX0_melt_15 : decode cX0_melt 15 = .ok (.getfield 15, 3) := by decide +kernel
theorem dX0_melt_18 : decode cX0_melt 18 = .ok (.iload_n 2, 1) := by decide +kernel
theorem dX0_melt_19 : decode cX0_melt 19 = .ok (.iconst 0, 1) := by decide +kernel
theorem dX0_melt_20 : decode cX0_melt 20 = .ok (.aload_n 0, 1) := by decide +kernel
theorem dX0_melt_21 : decode cX0_melt 21 = .ok (.getfield 15, 3) := by decide +kernel
theorem dX0_melt_24 : decode cX0_melt 24 = .ok (.iload_n 2, 1) := by decide +kernel
theorem dX0_melt_25 : decode cX0_melt 25 = .ok (.iaload, 1) := by decide +kernel
theorem dX0_melt_26 : decode cX0_melt 26 = .ok (.iconst 1, 1) := by decide +kernel
theorem dX0_melt_27 : decode cX0_melt 27 = .ok (.isub, 1) := by decide +kernel
theorem dX0_melt_28 : decode cX0_melt 28 = .ok (.invokestatic 47, 3) := by decide +kernel
theorem dX0_melt_31 : decode cX0_melt 31 = .ok (.iastore, 1) := by decide +kernel
theorem dX0_melt_32 : decode cX0_melt 32 = .ok (.iinc 2 1, 3) := by decide +kernel
theorem dX0_melt_35 : decode cX0_melt 35 = .ok (.goto (-33), 3) := by decide +kernel
theorem dX0_melt_38 : decode cX0_melt 38 = .ok (.return_, 1) := by decide +kernel
theorem dX1_init_0 : decode cX1_init 0 = .ok (.aload_n 0, 1) := by decide +kernel
theorem dX1_init_1 : decode cX1_init 1 = .ok (.invokespecial 3, 3) := by decide +kernel
theorem dX1_init_4 : decode cX1_init 4 = .ok (.aload_n 0, 1) := by decide +kernel
theorem dX1_init_5 : decode cX1_init 5 = .ok (.bipush 30, 2) := by decide +kernel
theorem dX1_init_7 : decode cX1_init 7 = .ok (.newarray .int, 2) := by decide +kernel
theorem dX1_init_9 : decode cX1_init 9 = .ok (.putfield 9, 3) := by decide +kernel
theorem dX1_init_12 : decode cX1_init 12 = .ok (.aload_n 0, 1) := by decide +kernel
theorem dX1_init_13 : decode cX1_init 13 = .ok (.bipush 30, 2) := by decide +kernel
theorem dX1_init_15 : decode cX1_init 15 = .ok (.newarray .int, 2) := by decide +kernel
theorem dX1_init_17 : decode cX1_init 17 = .ok (.putfield 15, 3) := by decide +kernel
theorem dX1_init_20 : decode cX1_init 20 = .ok (.aload_n 0, 1) := by decide +kernel
theorem dX1_init_21 : decode cX1_init 21 = .ok (.bipush 30, 2) := by decide +kernel
theorem dX1_init_23 : decode cX1_init 23 = .ok (.newarray .int, 2) := by decide +kernel
theorem dX1_init_25 : decode cX1_init 25 = .ok (.putfield 18, 3) := by decide +kernel
theorem dX1_init_28 : decode cX1_init 28 = .ok (.aload_n 0, 1) := by decide +kernel
theorem dX1_init_29 : decode cX1_init 29 = .ok (.bipush 30, 2) := by decide +kernel
theorem dX1_init_31 : decode cX1_init 31 = .ok (.newarray .int, 2) := by decide +kernel
theorem dX1_init_33 : decode cX1_init 33 = .ok (.putfield 21, 3) := by decide +kernel
theorem dX1_init_36 : decode cX1_init 36 = .ok (.aload_n 0, 1) := by decide +kernel
theorem dX1_init_37 : decode cX1_init 37 = .ok (.bipush 30, 2) := by decide +kernel
theorem dX1_init_39 : decode cX1_init 39 = .ok (.newarray .int, 2) := by decide +kernel
theorem dX1_init_41 : decode cX1_init 41 = .ok (.putfield 24, 3) := by decide +kernel
theorem dX1_init_44 : decode cX1_init 44 = .ok (.return_, 1) := by decide +kernel
theorem dX1_add_0 : decode cX1_add 0 = .ok (.aload_n 0, 1) := by decide +kernel
theorem dX1_add_1 : decode cX1_add 1 = .ok (.getfield 27, 3) := by decide +kernel
theorem dX1_add_4 : decode cX1_add 4 = .ok (.istore 6, 2) := by decide +kernel
theorem dX1_add_6 : decode cX1_add 6 = .ok (.aload_n 0, 1) := by decide +kernel
theorem dX1_add_7 : decode cX1_add 7 = .ok (.getfield 9, 3) := by decide +kernel
theorem dX1_add_10 : decode cX1_add 10 = .ok (.iload 6, 2) := by decide +kernel
theorem dX1_add_12 : decode cX1_add 12 = .ok (.iload_n 1, 1) := by decide +kernel
theorem dX1_add_13 : decode cX1_add 13 = .ok (.iastore, 1) := by decide +kernel
theorem dX1_add_14 : decode cX1_add 14 = .ok (.aload_n 0, 1) := by decide +kernel
theorem dX1_add_15 : decode cX1_add 15 = .ok (.getfield 15, 3) := by decide +kernel
theorem dX1_add_18 : decode cX1_add 18 = .ok (.iload 6, 2) := by decide +kernel
theorem dX1_add_20 : decode cX1_add 20 = .ok (.iload_n 2, 1) := by decide +kernel
theorem dX1_add_21 : decode cX1_add 21 = .ok (.iastore, 1) := by decide +kernel
theorem dX1_add_22 : decode cX1_add 22 = .ok (.aload_n 0, 1) := by decide +kernel
theorem dX1_add_23 : decode cX1_add 23 = .ok (.getfield 18, 3) := by decide +kernel
theorem dX1_add_26 : decode cX1_add 26 = .ok (.iload 6, 2) := by decide +kernel
theorem dX1_add_28 : decode cX1_add 28 = .ok (.iload_n 3, 1) := by decide +kernel
theorem dX1_add_29 : decode cX1_add 29 = .ok (.iastore, 1) := by decide +kernel
theorem dX1_add_30 : decode cX1_add 30 = .ok (.aload_n 0, 1) := by decide +kernel
theorem dX1_add_31 : decode cX1_add 31 = .ok (.getfield 21, 3) := by decide +kernel
theorem dX1_add_34 : decode cX1_add 34 = .ok (.iload 6, 2) := by decide +kernel
theorem dX1_add_36 : decode cX1_add 36 = .ok (.iload 4, 2) := by decide +kernel
theorem dX1_add_38 : decode cX1_add 38 = .ok (.ifCond .eq 7, 3) := by decide +kernel
theorem dX1_add_41 : decode cX1_add 41 = .ok (.iconst 1, 1) := by decide +kernel
theorem dX1_add_42 : decode cX1_add 42 = .ok (.goto 4, 3) := by decide +kernel
theorem dX1_add_45 : decode cX1_add 45 = .ok (.iconst 0, 1) := by decide +kernel
theorem dX1_add_46 : decode cX1_add 46 = .ok (.iastore, 1) := by decide +kernel
theorem dX1_add_47 : decode cX1_add 47 = .ok (.aload_n 0, 1) := by decide +kernel
theorem dX1_add_48 : decode cX1_add 48 = .ok (.getfield 24, 3) := by decide +kernel
theorem dX1_add_51 : decode cX1_add 51 = .ok (.iload 6, 2) := by decide +kernel
theorem dX1_add_53 : decode cX1_add 53 = .ok (.iload 5, 2) := by decide +kernel
theorem dX1_add_55 : decode cX1_add 55 = .ok (.iastore, 1) := by decide +kernel
theorem dX1_add_56 : decode cX1_add 56 = .ok (.aload_n 0, 1) := by decide +kernel
theorem dX1_add_57 : decode cX1_add 57 = .ok (.iload 6, 2) := by decide +kernel
theorem dX1_add_59 : decode cX1_add 59 = .ok (.iconst 1, 1) := by decide +kernel
theorem dX1_add_60 : decode cX1_add 60 = .ok (.iadd, 1) := by decide +kernel
theorem dX1_add_61 : decode cX1_add 61 = .ok (.putfield 27, 3) := by decide +kernel
theorem dX1_add_64 : decode cX1_add 64 = .ok (.iload 6, 2) := by decide +kernel
theorem dX1_add_66 : decode cX1_add 66 = .ok (.ireturn, 1) := by decide +kernel
theorem dX1_tell_0 : decode cX1_tell 0 = .ok (.iload_n 2, 1) := by decide +kernel
theorem dX1_tell_1 : decode cX1_tell 1 = .ok (.tableswitch 59 0 3 #[31, 38, 45, 52], 31) := by decide +kernel
theorem dX1_tell_32 : decode cX1_tell 32 = .ok (.aload_n 0, 1) := by decide +kernel
theorem dX1_tell_33 : decode cX1_tell 33 = .ok (.getfield 9, 3) := by decide +kernel
theorem dX1_tell_36 : decode cX1_tell 36 = .ok (.iload_n 1, 1) := by decide +kernel
theorem dX1_tell_37 : decode cX1_tell 37 = .ok (.iaload, 1) := by decide +kernel
theorem dX1_tell_38 : decode cX1_tell 38 = .ok (.ireturn, 1) := by decide +kernel
theorem dX1_tell_39 : decode cX1_tell 39 = .ok (.aload_n 0, 1) := by decide +kernel
theorem dX1_tell_40 : decode cX1_tell 40 = .ok (.getfield 15, 3) := by decide +kernel
theorem dX1_tell_43 : decode cX1_tell 43 = .ok (.iload_n 1, 1) := by decide +kernel
theorem dX1_tell_44 : decode cX1_tell 44 = .ok (.iaload, 1) := by decide +kernel
theorem dX1_tell_45 : decode cX1_tell 45 = .ok (.ireturn, 1) := by decide +kernel
theorem dX1_tell_46 : decode cX1_tell 46 = .ok (.aload_n 0, 1) := by decide +kernel
theorem dX1_tell_47 : decode cX1_tell 47 = .ok (.getfield 18, 3) := by decide +kernel
theorem dX1_tell_50 : decode cX1_tell 50 = .ok (.iload_n 1, 1) := by decide +kernel
theorem dX1_tell_51 : decode cX1_tell 51 = .ok (.iaload, 1) := by decide +kernel
theorem dX1_tell_52 : decode cX1_tell 52 = .ok (.ireturn, 1) := by decide +kernel
theorem dX1_tell_53 : decode cX1_tell 53 = .ok (.aload_n 0, 1) := by decide +kernel
theorem dX1_tell_54 : decode cX1_tell 54 = .ok (.getfield 21, 3) := by decide +kernel
theorem dX1_tell_57 : decode cX1_tell 57 = .ok (.iload_n 1, 1) := by decide +kernel
theorem dX1_tell_58 : decode cX1_tell 58 = .ok (.iaload, 1) := by decide +kernel
theorem dX1_tell_59 : decode cX1_tell 59 = .ok (.ireturn, 1) := by decide +kernel
theorem dX1_tell_60 : decode cX1_tell 60 = .ok (.aload_n 0, 1) := by decide +kernel
theorem dX1_tell_61 : decode cX1_tell 61 = .ok (.getfield 24, 3) := by decide +kernel
theorem dX1_tell_64 : decode cX1_tell 64 = .ok (.iload_n 1, 1) := by decide +kernel
theorem dX1_tell_65 : decode cX1_tell 65 = .ok (.iaload, 1) := by decide +kernel
theorem dX1_tell_66 : decode cX1_tell 66 = .ok (.ireturn, 1) := by decide +kernel
theorem dX1_bestTwo_0 : decode cX1_bestTwo 0 = .ok (.iconst 0, 1) := by decide +kernel
theorem dX1_bestTwo_1 : decode cX1_bestTwo 1 = .ok (.istore_n 2, 1) := by decide +kernel
theorem dX1_bestTwo_2 : decode cX1_bestTwo 2 = .ok (.iconst 0, 1) := by decide +kernel
theorem dX1_bestTwo_3 : decode cX1_bestTwo 3 = .ok (.istore_n 3, 1) := by decide +kernel
theorem dX1_bestTwo_4 : decode cX1_bestTwo 4 = .ok (.iconst 0, 1) := by decide +kernel
theorem dX1_bestTwo_5 : decode cX1_bestTwo 5 = .ok (.istore 4, 2) := by decide +kernel
theorem dX1_bestTwo_7 : decode cX1_bestTwo 7 = .ok (.iload 4, 2) := by decide +kernel
theorem dX1_bestTwo_9 : decode cX1_bestTwo 9 = .ok (.aload_n 0, 1) := by decide +kernel
theorem dX1_bestTwo_10 : decode cX1_bestTwo 10 = .ok (.getfield 27, 3) := by decide +kernel
theorem dX1_bestTwo_13 : decode cX1_bestTwo 13 = .ok (.if_icmp .ge 48, 3) := by decide +kernel
theorem dX1_bestTwo_16 : decode cX1_bestTwo 16 = .ok (.aload_n 0, 1) := by decide +kernel
theorem dX1_bestTwo_17 : decode cX1_bestTwo 17 = .ok (.getfield 9, 3) := by decide +kernel
theorem dX1_bestTwo_20 : decode cX1_bestTwo 20 = .ok (.iload 4, 2) := by decide +kernel
theorem dX1_bestTwo_22 : decode cX1_bestTwo 22 = .ok (.iaload, 1) := by decide +kernel
theorem dX1_bestTwo_23 : decode cX1_bestTwo 23 = .ok (.iload_n 1, 1) := by decide +kernel
theorem dX1_bestTwo_24 : decode cX1_bestTwo 24 = .ok (.if_icmp .ne 31, 3) := by decide +kernel
theorem dX1_bestTwo_27 : decode cX1_bestTwo 27 = .ok (.iload_n 3, 1) := by decide +kernel
theorem dX1_bestTwo_28 : decode cX1_bestTwo 28 = .ok (.iload_n 2, 1) := by decide +kernel
theorem dX1_bestTwo_29 : decode cX1_bestTwo 29 = .ok (.aload_n 0, 1) := by decide +kernel
theorem dX1_bestTwo_30 : decode cX1_bestTwo 30 = .ok (.getfield 18, 3) := by decide +kernel
theorem dX1_bestTwo_33 : decode cX1_bestTwo 33 = .ok (.iload 4, 2) := by decide +kernel
theorem dX1_bestTwo_35 : decode cX1_bestTwo 35 = .ok (.iaload, 1) := by decide +kernel
theorem dX1_bestTwo_36 : decode cX1_bestTwo 36 = .ok (.invokestatic 31, 3) := by decide +kernel
theorem dX1_bestTwo_39 : decode cX1_bestTwo 39 = .ok (.invokestatic 37, 3) := by decide +kernel
theorem dX1_bestTwo_42 : decode cX1_bestTwo 42 = .ok (.istore_n 3, 1) := by decide +kernel
theorem dX1_bestTwo_43 : decode cX1_bestTwo 43 = .ok (.iload_n 2, 1) := by decide +kernel
theorem dX1_bestTwo_44 : decode cX1_bestTwo 44 = .ok (.aload_n 0, 1) := by decide +kernel
theorem dX1_bestTwo_45 : decode cX1_bestTwo 45 = .ok (.getfield 18, 3) := by decide +kernel
theorem dX1_bestTwo_48 : decode cX1_bestTwo 48 = .ok (.iload 4, 2) := by decide +kernel
theorem dX1_bestTwo_50 : decode cX1_bestTwo 50 = .ok (.iaload, 1) := by decide +kernel
theorem dX1_bestTwo_51 : decode cX1_bestTwo 51 = .ok (.invokestatic 37, 3) := by decide +kernel
theorem dX1_bestTwo_54 : decode cX1_bestTwo 54 = .ok (.istore_n 2, 1) := by decide +kernel
theorem dX1_bestTwo_55 : decode cX1_bestTwo 55 = .ok (.iinc 4 1, 3) := by decide +kernel
theorem dX1_bestTwo_58 : decode cX1_bestTwo 58 = .ok (.goto (-51), 3) := by decide +kernel
theorem dX1_bestTwo_61 : decode cX1_bestTwo 61 = .ok (.iload_n 2, 1) := by decide +kernel
theorem dX1_bestTwo_62 : decode cX1_bestTwo 62 = .ok (.iload_n 3, 1) := by decide +kernel
theorem dX1_bestTwo_63 : decode cX1_bestTwo 63 = .ok (.iadd, 1) := by decide +kernel
theorem dX1_bestTwo_64 : decode cX1_bestTwo 64 = .ok (.ireturn, 1) := by decide +kernel
set_option maxRecDepth 20000 in
theorem ggX1_countFalls_X5_sum : GoodIn wsX1_countFalls wsX5_sum := goodIn_r _ [4] (by decide +kernel) (by decide +kernel)
set_option maxRecDepth 20000 in
theorem gX1_countFalls_X5_sum_n40 : GoodIn wsX1_countFalls (wsX5_sum) := ggX1_countFalls_X5_sum
theorem dX1_countFalls_0 : decode cX1_countFalls 0 = .ok (.aload_n 0, 1) := by decide +kernel
theorem dX1_countFalls_1 : decode cX1_countFalls 1 = .ok (.getfield 21, 3) := by decide +kernel
theorem dX1_countFalls_4 : decode cX1_countFalls 4 = .ok (.invokestatic 40, 3) := by decide +kernel
theorem dX1_countFalls_7 : decode cX1_countFalls 7 = .ok (.ireturn, 1) := by decide +kernel
set_option maxRecDepth 20000 in
theorem ggX1_allPoints_X5_sum : GoodIn wsX1_allPoints wsX5_sum := goodIn_r _ [4] (by decide +kernel) (by decide +kernel)
set_option maxRecDepth 20000 in
theorem gX1_allPoints_X5_sum_n40 : GoodIn wsX1_allPoints (wsX5_sum) := ggX1_allPoints_X5_sum
theorem dX1_allPoints_0 : decode cX1_allPoints 0 = .ok (.aload_n 0, 1) := by decide +kernel
theorem dX1_allPoints_1 : decode cX1_allPoints 1 = .ok (.getfield 18, 3) := by decide +kernel
theorem dX1_allPoints_4 : decode cX1_allPoints 4 = .ok (.invokestatic 40, 3) := by decide +kernel
theorem dX1_allPoints_7 : decode cX1_allPoints 7 = .ok (.ireturn, 1) := by decide +kernel
set_option maxRecDepth 20000 in
theorem ggX1_addTo_X1_tell : GoodIn wsX1_addTo wsX1_tell := goodIn_r _ [7, 8, 9, 10, 11, 12, 13, 14, 15, 16, 17, 18] (by decide +kernel) (by decide +kernel)
set_option maxRecDepth 20000 in
theorem gX1_addTo_X1_tell : GoodIn wsX1_addTo (wsV RX1 46 RX1 yX1_tell wsX1_tell) := goodIn_app (goodIn_of _ (by decide +kernel)) ggX1_addTo_X1_tell
theorem dX1_addTo_0 : decode cX1_addTo 0 = .ok (.lload_n 1, 1) := by decide +kernel
theorem dX1_addTo_1 : decode cX1_addTo 1 = .ok (.lstore_n 3, 1) := by decide +kernel
theorem dX1_addTo_2 : decode cX1_addTo 2 = .ok (.iconst 0, 1) := by decide +kernel
theorem dX1_addTo_3 : decode cX1_addTo 3 = .ok (.istore 5, 2) := by decide +kernel
theorem dX1_addTo_5 : decode cX1_addTo 5 = .ok (.iload 5, 2) := by decide +kernel
theorem dX1_addTo_7 : decode cX1_addTo 7 = .ok (.aload_n 0, 1) := by decide +kernel
theorem dX1_addTo_8 : decode cX1_addTo 8 = .ok (.getfield 27, 3) := by decide +kernel
theorem dX1_addTo_11 : decode cX1_addTo 11 = .ok (.if_icmp .ge 40, 3) := by decide +kernel
theorem dX1_addTo_14 : decode cX1_addTo 14 = .ok (.iconst 0, 1) := by decide +kernel
theorem dX1_addTo_15 : decode cX1_addTo 15 = .ok (.istore 6, 2) := by decide +kernel
theorem dX1_addTo_17 : decode cX1_addTo 17 = .ok (.iload 6, 2) := by decide +kernel
theorem dX1_addTo_19 : decode cX1_addTo 19 = .ok (.iconst 5, 1) := by decide +kernel
theorem dX1_addTo_20 : decode cX1_addTo 20 = .ok (.if_icmp .ge 25, 3) := by decide +kernel
theorem dX1_addTo_23 : decode cX1_addTo 23 = .ok (.lload_n 3, 1) := by decide +kernel
theorem dX1_addTo_24 : decode cX1_addTo 24 = .ok (.ldc2_w 44, 3) := by decide +kernel
theorem dX1_addTo_27 : decode cX1_addTo 27 = .ok (.lmul, 1) := by decide +kernel
theorem dX1_addTo_28 : decode cX1_addTo 28 = .ok (.aload_n 0, 1) := by decide +kernel
theorem dX1_addTo_29 : decode cX1_addTo 29 = .ok (.iload 5, 2) := by decide +kernel
theorem dX1_addTo_31 : decode cX1_addTo 31 = .ok (.iload 6, 2) := by decide +kernel
theorem dX1_addTo_33 : decode cX1_addTo 33 = .ok (.invokevirtual 46, 3) := by decide +kernel
theorem dX1_addTo_36 : decode cX1_addTo 36 = .ok (.i2l, 1) := by decide +kernel
theorem dX1_addTo_37 : decode cX1_addTo 37 = .ok (.ladd, 1) := by decide +kernel
theorem dX1_addTo_38 : decode cX1_addTo 38 = .ok (.lstore_n 3, 1) := by decide +kernel
theorem dX1_addTo_39 : decode cX1_addTo 39 = .ok (.iinc 6 1, 3) := by decide +kernel
theorem dX1_addTo_42 : decode cX1_addTo 42 = .ok (.goto (-25), 3) := by decide +kernel
theorem dX1_addTo_45 : decode cX1_addTo 45 = .ok (.iinc 5 1, 3) := by decide +kernel
theorem dX1_addTo_48 : decode cX1_addTo 48 = .ok (.goto (-43), 3) := by decide +kernel
theorem dX1_addTo_51 : decode cX1_addTo 51 = .ok (.lload_n 3, 1) := by decide +kernel
theorem dX1_addTo_52 : decode cX1_addTo 52 = .ok (.lreturn, 1) := by decide +kernel
theorem dX2_init_0 : decode cX2_init 0 = .ok (.aload_n 0, 1) := by decide +kernel
theorem dX2_init_1 : decode cX2_init 1 = .ok (.invokespecial 3, 3) := by decide +kernel
theorem dX2_init_4 : decode cX2_init 4 = .ok (.aload_n 0, 1) := by decide +kernel
theorem dX2_init_5 : decode cX2_init 5 = .ok (.iconst 5, 1) := by decide +kernel
theorem dX2_init_6 : decode cX2_init 6 = .ok (.newarray .int, 2) := by decide +kernel
theorem dX2_init_8 : decode cX2_init 8 = .ok (.putfield 9, 3) := by decide +kernel
theorem dX2_init_11 : decode cX2_init 11 = .ok (.iconst 0, 1) := by decide +kernel
theorem dX2_init_12 : decode cX2_init 12 = .ok (.istore_n 1, 1) := by decide +kernel
theorem dX2_init_13 : decode cX2_init 13 = .ok (.iload_n 1, 1) := by decide +kernel
theorem dX2_init_14 : decode cX2_init 14 = .ok (.iconst 5, 1) := by decide +kernel
theorem dX2_init_15 : decode cX2_init 15 = .ok (.if_icmp .ge 16, 3) := by decide +kernel
theorem dX2_init_18 : decode cX2_init 18 = .ok (.aload_n 0, 1) := by decide +kernel
theorem dX2_init_19 : decode cX2_init 19 = .ok (.getfield 9, 3) := by decide +kernel
theorem dX2_init_22 : decode cX2_init 22 = .ok (.iload_n 1, 1) := by decide +kernel
theorem dX2_init_23 : decode cX2_init 23 = .ok (.iload_n 1, 1) := by decide +kernel
theorem dX2_init_24 : decode cX2_init 24 = .ok (.iastore, 1) := by decide +kernel
theorem dX2_init_25 : decode cX2_init 25 = .ok (.iinc 1 1, 3) := by decide +kernel
theorem dX2_init_28 : decode cX2_init 28 = .ok (.goto (-15), 3) := by decide +kernel
theorem dX2_init_31 : decode cX2_init 31 = .ok (.return_, 1) := by decide +kernel
set_option maxRecDepth 20000 in
theorem ggX2_marks_X5_hold : GoodIn wsX2_marks wsX5_hold := goodIn_r _ [14, 15, 10, 3, 11, 16, 7, 8] (by decide +kernel) (by decide +kernel)
set_option maxRecDepth 20000 in
theorem gX2_marks_X5_hold_n21 : GoodIn wsX2_marks (wsX5_hold) := ggX2_marks_X5_hold
theorem dX2_marks_0 : decode cX2_marks 0 = .ok (.iconst 0, 1) := by decide +kernel
theorem dX2_marks_1 : decode cX2_marks 1 = .ok (.istore 4, 2) := by decide +kernel
theorem dX2_marks_3 : decode cX2_marks 3 = .ok (.iconst 0, 1) := by decide +kernel
theorem dX2_marks_4 : decode cX2_marks 4 = .ok (.istore 5, 2) := by decide +kernel
theorem dX2_marks_6 : decode cX2_marks 6 = .ok (.bipush 20, 2) := by decide +kernel
theorem dX2_marks_8 : decode cX2_marks 8 = .ok (.istore 6, 2) := by decide +kernel
theorem dX2_marks_10 : decode cX2_marks 10 = .ok (.iload_n 1, 1) := by decide +kernel
theorem dX2_marks_11 : decode cX2_marks 11 = .ok (.iload_n 2, 1) := by decide +kernel
theorem dX2_marks_12 : decode cX2_marks 12 = .ok (.invokestatic 15, 3) := by decide +kernel
theorem dX2_marks_15 : decode cX2_marks 15 = .ok (.isub, 1) := by decide +kernel
theorem dX2_marks_16 : decode cX2_marks 16 = .ok (.iload_n 3, 1) := by decide +kernel
theorem dX2_marks_17 : decode cX2_marks 17 = .ok (.ifCond .eq 8, 3) := by decide +kernel
theorem dX2_marks_20 : decode cX2_marks 20 = .ok (.bipush 8, 2) := by decide +kernel
theorem dX2_marks_22 : decode cX2_marks 22 = .ok (.goto 4, 3) := by decide +kernel
theorem dX2_marks_25 : decode cX2_marks 25 = .ok (.iconst 0, 1) := by decide +kernel
theorem dX2_marks_26 : decode cX2_marks 26 = .ok (.isub, 1) := by decide +kernel
theorem dX2_marks_27 : decode cX2_marks 27 = .ok (.istore 7, 2) := by decide +kernel
theorem dX2_marks_29 : decode cX2_marks 29 = .ok (.iconst 0, 1) := by decide +kernel
theorem dX2_marks_30 : decode cX2_marks 30 = .ok (.istore 8, 2) := by decide +kernel
theorem dX2_marks_32 : decode cX2_marks 32 = .ok (.iload 8, 2) := by decide +kernel
theorem dX2_marks_34 : decode cX2_marks 34 = .ok (.iconst 5, 1) := by decide +kernel
theorem dX2_marks_35 : decode cX2_marks 35 = .ok (.if_icmp .ge 52, 3) := by decide +kernel
theorem dX2_marks_38 : decode cX2_marks 38 = .ok (.iload 7, 2) := by decide +kernel
theorem dX2_marks_40 : decode cX2_marks 40 = .ok (.aload_n 0, 1) := by decide +kernel
theorem dX2_marks_41 : decode cX2_marks 41 = .ok (.getfield 9, 3) := by decide +kernel
theorem dX2_marks_44 : decode cX2_marks 44 = .ok (.iload 8, 2) := by decide +kernel
theorem dX2_marks_46 : decode cX2_marks 46 = .ok (.iaload, 1) := by decide +kernel
theorem dX2_marks_47 : decode cX2_marks 47 = .ok (.isub, 1) := by decide +kernel
theorem dX2_marks_48 : decode cX2_marks 48 = .ok (.iconst 0, 1) := by decide +kernel
theorem dX2_marks_49 : decode cX2_marks 49 = .ok (.bipush 20, 2) := by decide +kernel
theorem dX2_marks_51 : decode cX2_marks 51 = .ok (.invokestatic 21, 3) := by decide +kernel
theorem dX2_marks_54 : decode cX2_marks 54 = .ok (.istore 9, 2) := by decide +kernel
theorem dX2_marks_56 : decode cX2_marks 56 = .ok (.iload 4, 2) := by decide +kernel
theorem dX2_marks_58 : decode cX2_marks 58 = .ok (.iload 9, 2) := by decide +kernel
theorem dX2_marks_60 : decode cX2_marks 60 = .ok (.iadd, 1) := by decide +kernel
theorem dX2_marks_61 : decode cX2_marks 61 = .ok (.istore 4, 2) := by decide +kernel
theorem dX2_marks_63 : decode cX2_marks 63 = .ok (.iload 5, 2) := by decide +kernel
theorem dX2_marks_65 : decode cX2_marks 65 = .ok (.iload 9, 2) := by decide +kernel
theorem dX2_marks_67 : decode cX2_marks 67 = .ok (.invokestatic 25, 3) := by decide +kernel
theorem dX2_marks_70 : decode cX2_marks 70 = .ok (.istore 5, 2) := by decide +kernel
theorem dX2_marks_72 : decode cX2_marks 72 = .ok (.iload 6, 2) := by decide +kernel
theorem dX2_marks_74 : decode cX2_marks 74 = .ok (.iload 9, 2) := by decide +kernel
theorem dX2_marks_76 : decode cX2_marks 76 = .ok (.invokestatic 29, 3) := by decide +kernel
theorem dX2_marks_79 : decode cX2_marks 79 = .ok (.istore 6, 2) := by decide +kernel
theorem dX2_marks_81 : decode cX2_marks 81 = .ok (.iinc 8 1, 3) := by decide +kernel
theorem dX2_marks_84 : decode cX2_marks 84 = .ok (.goto (-52), 3) := by decide +kernel
theorem dX2_marks_87 : decode cX2_marks 87 = .ok (.iload 4, 2) := by decide +kernel
theorem dX2_marks_89 : decode cX2_marks 89 = .ok (.iload 5, 2) := by decide +kernel
theorem dX2_marks_91 : decode cX2_marks 91 = .ok (.isub, 1) := by decide +kernel
theorem dX2_marks_92 : decode cX2_marks 92 = .ok (.iload 6, 2) := by decide +kernel
theorem dX2_marks_94 : decode cX2_marks 94 = .ok (.isub, 1) := by decide +kernel
theorem dX2_marks_95 : decode cX2_marks 95 = .ok (.ireturn, 1) := by decide +kernel
theorem dX2_addTo_0 : decode cX2_addTo 0 = .ok (.lload_n 1, 1) := by decide +kernel
theorem dX2_addTo_1 : decode cX2_addTo 1 = .ok (.lstore_n 3, 1) := by decide +kernel
theorem dX2_addTo_2 : decode cX2_addTo 2 = .ok (.iconst 0, 1) := by decide +kernel
theorem dX2_addTo_3 : decode cX2_addTo 3 = .ok (.istore 5, 2) := by decide +kernel
theorem dX2_addTo_5 : decode cX2_addTo 5 = .ok (.iload 5, 2) := by decide +kernel
theorem dX2_addTo_7 : decode cX2_addTo 7 = .ok (.iconst 5, 1) := by decide +kernel
theorem dX2_addTo_8 : decode cX2_addTo 8 = .ok (.if_icmp .ge 24, 3) := by decide +kernel
theorem dX2_addTo_11 : decode cX2_addTo 11 = .ok (.lload_n 3, 1) := by decide +kernel
theorem dX2_addTo_12 : decode cX2_addTo 12 = .ok (.ldc2_w 32, 3) := by decide +kernel
theorem dX2_addTo_15 : decode cX2_addTo 15 = .ok (.lmul, 1) := by decide +kernel
theorem dX2_addTo_16 : decode cX2_addTo 16 = .ok (.aload_n 0, 1) := by decide +kernel
theorem dX2_addTo_17 : decode cX2_addTo 17 = .ok (.getfield 9, 3) := by decide +kernel
theorem dX2_addTo_20 : decode cX2_addTo 20 = .ok (.iload 5, 2) := by decide +kernel
theorem dX2_addTo_22 : decode cX2_addTo 22 = .ok (.iaload, 1) := by decide +kernel
theorem dX2_addTo_23 : decode cX2_addTo 23 = .ok (.i2l, 1) := by decide +kernel
theorem dX2_addTo_24 : decode cX2_addTo 24 = .ok (.ladd, 1) := by decide +kernel
theorem dX2_addTo_25 : decode cX2_addTo 25 = .ok (.lstore_n 3, 1) := by decide +kernel
theorem dX2_addTo_26 : decode cX2_addTo 26 = .ok (.iinc 5 1, 3) := by decide +kernel
theorem dX2_addTo_29 : decode cX2_addTo 29 = .ok (.goto (-24), 3) := by decide +kernel
theorem dX2_addTo_32 : decode cX2_addTo 32 = .ok (.lload_n 3, 1) := by decide +kernel
theorem dX2_addTo_33 : decode cX2_addTo 33 = .ok (.lreturn, 1) := by decide +kernel
theorem dX3_init_0 : decode cX3_init 0 = .ok (.aload_n 0, 1) := by decide +kernel
theorem dX3_init_1 : decode cX3_init 1 = .ok (.invokespecial 3, 3) := by decide +kernel
theorem dX3_init_4 : decode cX3_init 4 = .ok (.aload_n 0, 1) := by decide +kernel
theorem dX3_init_5 : decode cX3_init 5 = .ok (.iconst 5, 1) := by decide +kernel
theorem dX3_init_6 : decode cX3_init 6 = .ok (.newarray .int, 2) := by decide +kernel
theorem dX3_init_8 : decode cX3_init 8 = .ok (.putfield 9, 3) := by decide +kernel
theorem dX3_init_11 : decode cX3_init 11 = .ok (.aload_n 0, 1) := by decide +kernel
theorem dX3_init_12 : decode cX3_init 12 = .ok (.iconst 5, 1) := by decide +kernel
theorem dX3_init_13 : decode cX3_init 13 = .ok (.newarray .int, 2) := by decide +kernel
theorem dX3_init_15 : decode cX3_init 15 = .ok (.putfield 15, 3) := by decide +kernel
theorem dX3_init_18 : decode cX3_init 18 = .ok (.return_, 1) := by decide +kernel
theorem dX3_setUp_0 : decode cX3_setUp 0 = .ok (.aload_n 0, 1) := by decide +kernel
theorem dX3_setUp_1 : decode cX3_setUp 1 = .ok (.getfield 18, 3) := by decide +kernel
theorem dX3_setUp_4 : decode cX3_setUp 4 = .ok (.istore_n 3, 1) := by decide +kernel
theorem dX3_setUp_5 : decode cX3_setUp 5 = .ok (.aload_n 0, 1) := by decide +kernel
theorem dX3_setUp_6 : decode cX3_setUp 6 = .ok (.getfield 9, 3) := by decide +kernel
theorem dX3_setUp_9 : decode cX3_setUp 9 = .ok (.iload_n 3, 1) := by decide +kernel
theorem dX3_setUp_10 : decode cX3_setUp 10 = .ok (.iload_n 1, 1) := by decide +kernel
theorem dX3_setUp_11 : decode cX3_setUp 11 = .ok (.iastore, 1) := by decide +kernel
theorem dX3_setUp_12 : decode cX3_setUp 12 = .ok (.aload_n 0, 1) := by decide +kernel
theorem dX3_setUp_13 : decode cX3_setUp 13 = .ok (.getfield 15, 3) := by decide +kernel
theorem dX3_setUp_16 : decode cX3_setUp 16 = .ok (.iload_n 3, 1) := by decide +kernel
theorem dX3_setUp_17 : decode cX3_setUp 17 = .ok (.iload_n 2, 1) := by decide +kernel
theorem dX3_setUp_18 : decode cX3_setUp 18 = .ok (.iastore, 1) := by decide +kernel
theorem dX3_setUp_19 : decode cX3_setUp 19 = .ok (.aload_n 0, 1) := by decide +kernel
theorem dX3_setUp_20 : decode cX3_setUp 20 = .ok (.iload_n 3, 1) := by decide +kernel
theorem dX3_setUp_21 : decode cX3_setUp 21 = .ok (.iconst 1, 1) := by decide +kernel
theorem dX3_setUp_22 : decode cX3_setUp 22 = .ok (.iadd, 1) := by decide +kernel
theorem dX3_setUp_23 : decode cX3_setUp 23 = .ok (.putfield 18, 3) := by decide +kernel
theorem dX3_setUp_26 : decode cX3_setUp 26 = .ok (.iload_n 3, 1) := by decide +kernel
theorem dX3_setUp_27 : decode cX3_setUp 27 = .ok (.ireturn, 1) := by decide +kernel
theorem dX3_countAt_0 : decode cX3_countAt 0 = .ok (.iconst 0, 1) := by decide +kernel
theorem dX3_countAt_1 : decode cX3_countAt 1 = .ok (.istore_n 2, 1) := by decide +kernel
theorem dX3_countAt_2 : decode cX3_countAt 2 = .ok (.iconst 0, 1) := by decide +kernel
theorem dX3_countAt_3 : decode cX3_countAt 3 = .ok (.istore_n 3, 1) := by decide +kernel
theorem dX3_countAt_4 : decode cX3_countAt 4 = .ok (.iload_n 3, 1) := by decide +kernel
theorem dX3_countAt_5 : decode cX3_countAt 5 = .ok (.aload_n 0, 1) := by decide +kernel
theorem dX3_countAt_6 : decode cX3_countAt 6 = .ok (.getfield 18, 3) := by decide +kernel
theorem dX3_countAt_9 : decode cX3_countAt 9 = .ok (.if_icmp .ge 22, 3) := by decide +kernel
theorem dX3_countAt_12 : decode cX3_countAt 12 = .ok (.aload_n 0, 1) := by decide +kernel
theorem dX3_countAt_13 : decode cX3_countAt 13 = .ok (.getfield 9, 3) := by decide +kernel
theorem dX3_countAt_16 : decode cX3_countAt 16 = .ok (.iload_n 3, 1) := by decide +kernel
theorem dX3_countAt_17 : decode cX3_countAt 17 = .ok (.iaload, 1) := by decide +kernel
theorem dX3_countAt_18 : decode cX3_countAt 18 = .ok (.iload_n 1, 1) := by decide +kernel
theorem dX3_countAt_19 : decode cX3_countAt 19 = .ok (.if_icmp .ne 6, 3) := by decide +kernel
theorem dX3_countAt_22 : decode cX3_countAt 22 = .ok (.iinc 2 1, 3) := by decide +kernel
theorem dX3_countAt_25 : decode cX3_countAt 25 = .ok (.iinc 3 1, 3) := by decide +kernel
theorem dX3_countAt_28 : decode cX3_countAt 28 = .ok (.goto (-24), 3) := by decide +kernel
theorem dX3_countAt_31 : decode cX3_countAt 31 = .ok (.iload_n 2, 1) := by decide +kernel
theorem dX3_countAt_32 : decode cX3_countAt 32 = .ok (.ireturn, 1) := by decide +kernel
theorem dX4_init_0 : decode cX4_init 0 = .ok (.aload_n 0, 1) := by decide +kernel
theorem dX4_init_1 : decode cX4_init 1 = .ok (.invokespecial 3, 3) := by decide +kernel
theorem dX4_init_4 : decode cX4_init 4 = .ok (.aload_n 0, 1) := by decide +kernel
theorem dX4_init_5 : decode cX4_init 5 = .ok (.bipush 24, 2) := by decide +kernel
theorem dX4_init_7 : decode cX4_init 7 = .ok (.newarray .int, 2) := by decide +kernel
theorem dX4_init_9 : decode cX4_init 9 = .ok (.putfield 9, 3) := by decide +kernel
theorem dX4_init_12 : decode cX4_init 12 = .ok (.aload_n 0, 1) := by decide +kernel
theorem dX4_init_13 : decode cX4_init 13 = .ok (.bipush 24, 2) := by decide +kernel
theorem dX4_init_15 : decode cX4_init 15 = .ok (.newarray .int, 2) := by decide +kernel
theorem dX4_init_17 : decode cX4_init 17 = .ok (.putfield 15, 3) := by decide +kernel
theorem dX4_init_20 : decode cX4_init 20 = .ok (.aload_n 0, 1) := by decide +kernel
theorem dX4_init_21 : decode cX4_init 21 = .ok (.bipush 24, 2) := by decide +kernel
theorem dX4_init_23 : decode cX4_init 23 = .ok (.newarray .int, 2) := by decide +kernel
theorem dX4_init_25 : decode cX4_init 25 = .ok (.putfield 18, 3) := by decide +kernel
theorem dX4_init_28 : decode cX4_init 28 = .ok (.iconst 0, 1) := by decide +kernel
theorem dX4_init_29 : decode cX4_init 29 = .ok (.istore_n 1, 1) := by decide +kernel
theorem dX4_init_30 : decode cX4_init 30 = .ok (.iload_n 1, 1) := by decide +kernel
theorem dX4_init_31 : decode cX4_init 31 = .ok (.bipush 24, 2) := by decide +kernel
theorem dX4_init_33 : decode cX4_init 33 = .ok (.if_icmp .ge 25, 3) := by decide +kernel
theorem dX4_init_36 : decode cX4_init 36 = .ok (.aload_n 0, 1) := by decide +kernel
theorem dX4_init_37 : decode cX4_init 37 = .ok (.getfield 9, 3) := by decide +kernel
theorem dX4_init_40 : decode cX4_init 40 = .ok (.iload_n 1, 1) := by decide +kernel
theorem dX4_init_41 : decode cX4_init 41 = .ok (.bipush (-5), 2) := by decide +kernel
theorem dX4_init_43 : decode cX4_init 43 = .ok (.iastore, 1) := by decide +kernel
theorem dX4_init_44 : decode cX4_init 44 = .ok (.aload_n 0, 1) := by decide +kernel
theorem dX4_init_45 : decode cX4_init 45 = .ok (.getfield 15, 3) := by decide +kernel
theorem dX4_init_48 : decode cX4_init 48 = .ok (.iload_n 1, 1) := by decide +kernel
theorem dX4_init_49 : decode cX4_init 49 = .ok (.bipush 50, 2) := by decide +kernel
theorem dX4_init_51 : decode cX4_init 51 = .ok (.iastore, 1) := by decide +kernel
theorem dX4_init_52 : decode cX4_init 52 = .ok (.iinc 1 1, 3) := by decide +kernel
theorem dX4_init_55 : decode cX4_init 55 = .ok (.goto (-25), 3) := by decide +kernel
theorem dX4_init_58 : decode cX4_init 58 = .ok (.return_, 1) := by decide +kernel
theorem dX4_wetCold_0 : decode cX4_wetCold 0 = .ok (.aload_n 0, 1) := by decide +kernel
theorem dX4_wetCold_1 : decode cX4_wetCold 1 = .ok (.getfield 9, 3) := by decide +kernel
theorem dX4_wetCold_4 : decode cX4_wetCold 4 = .ok (.iload_n 1, 1) := by decide +kernel
theorem dX4_wetCold_5 : decode cX4_wetCold 5 = .ok (.iaload, 1) := by decide +kernel
theorem dX4_wetCold_6 : decode cX4_wetCold 6 = .ok (.bipush 100, 2) := by decide +kernel
theorem dX4_wetCold_8 : decode cX4_wetCold 8 = .ok (.aload_n 0, 1) := by decide +kernel
theorem dX4_wetCold_9 : decode cX4_wetCold 9 = .ok (.getfield 15, 3) := by decide +kernel
theorem dX4_wetCold_12 : decode cX4_wetCold 12 = .ok (.iload_n 1, 1) := by decide +kernel
theorem dX4_wetCold_13 : decode cX4_wetCold 13 = .ok (.iaload, 1) := by decide +kernel
theorem dX4_wetCold_14 : decode cX4_wetCold 14 = .ok (.isub, 1) := by decide +kernel
theorem dX4_wetCold_15 : decode cX4_wetCold 15 = .ok (.bipush 10, 2) := by decide +kernel
theorem dX4_wetCold_17 : decode cX4_wetCold 17 = .ok (.idiv, 1) := by decide +kernel
theorem dX4_wetCold_18 : decode cX4_wetCold 18 = .ok (.isub, 1) := by decide +kernel
theorem dX4_wetCold_19 : decode cX4_wetCold 19 = .ok (.ireturn, 1) := by decide +kernel
theorem dX4_addTo_0 : decode cX4_addTo 0 = .ok (.lload_n 1, 1) := by decide +kernel
theorem dX4_addTo_1 : decode cX4_addTo 1 = .ok (.lstore_n 3, 1) := by decide +kernel
theorem dX4_addTo_2 : decode cX4_addTo 2 = .ok (.iconst 0, 1) := by decide +kernel
theorem dX4_addTo_3 : decode cX4_addTo 3 = .ok (.istore 5, 2) := by decide +kernel
theorem dX4_addTo_5 : decode cX4_addTo 5 = .ok (.iload 5, 2) := by decide +kernel
theorem dX4_addTo_7 : decode cX4_addTo 7 = .ok (.bipush 24, 2) := by decide +kernel
theorem dX4_addTo_9 : decode cX4_addTo 9 = .ok (.if_icmp .ge 54, 3) := by decide +kernel
theorem dX4_addTo_12 : decode cX4_addTo 12 = .ok (.lload_n 3, 1) := by decide +kernel
theorem dX4_addTo_13 : decode cX4_addTo 13 = .ok (.ldc2_w 21, 3) := by decide +kernel
theorem dX4_addTo_16 : decode cX4_addTo 16 = .ok (.lmul, 1) := by decide +kernel
theorem dX4_addTo_17 : decode cX4_addTo 17 = .ok (.aload_n 0, 1) := by decide +kernel
theorem dX4_addTo_18 : decode cX4_addTo 18 = .ok (.getfield 9, 3) := by decide +kernel
theorem dX4_addTo_21 : decode cX4_addTo 21 = .ok (.iload 5, 2) := by decide +kernel
theorem dX4_addTo_23 : decode cX4_addTo 23 = .ok (.iaload, 1) := by decide +kernel
theorem dX4_addTo_24 : decode cX4_addTo 24 = .ok (.i2l, 1) := by decide +kernel
theorem dX4_addTo_25 : decode cX4_addTo 25 = .ok (.ladd, 1) := by decide +kernel
theorem dX4_addTo_26 : decode cX4_addTo 26 = .ok (.lstore_n 3, 1) := by decide +kernel
theorem dX4_addTo_27 : decode cX4_addTo 27 = .ok (.lload_n 3, 1) := by decide +kernel
theorem dX4_addTo_28 : decode cX4_addTo 28 = .ok (.ldc2_w 21, 3) := by decide +kernel
theorem dX4_addTo_31 : decode cX4_addTo 31 = .ok (.lmul, 1) := by decide +kernel
theorem dX4_addTo_32 : decode cX4_addTo 32 = .ok (.aload_n 0, 1) := by decide +kernel
theorem dX4_addTo_33 : decode cX4_addTo 33 = .ok (.getfield 15, 3) := by decide +kernel
theorem dX4_addTo_36 : decode cX4_addTo 36 = .ok (.iload 5, 2) := by decide +kernel
theorem dX4_addTo_38 : decode cX4_addTo 38 = .ok (.iaload, 1) := by decide +kernel
theorem dX4_addTo_39 : decode cX4_addTo 39 = .ok (.i2l, 1) := by decide +kernel
theorem dX4_addTo_40 : decode cX4_addTo 40 = .ok (.ladd, 1) := by decide +kernel
theorem dX4_addTo_41 : decode cX4_addTo 41 = .ok (.lstore_n 3, 1) := by decide +kernel
theorem dX4_addTo_42 : decode cX4_addTo 42 = .ok (.lload_n 3, 1) := by decide +kernel
theorem dX4_addTo_43 : decode cX4_addTo 43 = .ok (.ldc2_w 21, 3) := by decide +kernel
theorem dX4_addTo_46 : decode cX4_addTo 46 = .ok (.lmul, 1) := by decide +kernel
theorem dX4_addTo_47 : decode cX4_addTo 47 = .ok (.aload_n 0, 1) := by decide +kernel
theorem dX4_addTo_48 : decode cX4_addTo 48 = .ok (.getfield 18, 3) := by decide +kernel
theorem dX4_addTo_51 : decode cX4_addTo 51 = .ok (.iload 5, 2) := by decide +kernel
theorem dX4_addTo_53 : decode cX4_addTo 53 = .ok (.iaload, 1) := by decide +kernel
theorem dX4_addTo_54 : decode cX4_addTo 54 = .ok (.i2l, 1) := by decide +kernel
theorem dX4_addTo_55 : decode cX4_addTo 55 = .ok (.ladd, 1) := by decide +kernel
theorem dX4_addTo_56 : decode cX4_addTo 56 = .ok (.lstore_n 3, 1) := by decide +kernel
theorem dX4_addTo_57 : decode cX4_addTo 57 = .ok (.iinc 5 1, 3) := by decide +kernel
theorem dX4_addTo_60 : decode cX4_addTo 60 = .ok (.goto (-55), 3) := by decide +kernel
theorem dX4_addTo_63 : decode cX4_addTo 63 = .ok (.lload_n 3, 1) := by decide +kernel
theorem dX4_addTo_64 : decode cX4_addTo 64 = .ok (.lreturn, 1) := by decide +kernel
set_option maxRecDepth 20000 in
theorem ggX5_init_X4_init : GoodIn wsX5_init wsX4_init := goodIn_r _ [27, 28, 2, 3, 29, 30, 31, 32, 61, 62, 63] (by decide +kernel) (by decide +kernel)
set_option maxRecDepth 20000 in
theorem gX5_init_X4_init : GoodIn wsX5_init (wsX4_init) := ggX5_init_X4_init
set_option maxRecDepth 20000 in
theorem ggX5_init_X3_init : GoodIn wsX5_init wsX3_init := goodIn_r _ [34, 35, 2, 3, 29, 36, 37, 70, 71, 72] (by decide +kernel) (by decide +kernel)
set_option maxRecDepth 20000 in
theorem gX5_init_X3_init_n18 : GoodIn wsX5_init (wsX3_init) := ggX5_init_X3_init
set_option maxRecDepth 20000 in
theorem ggX5_init_X0_init : GoodIn wsX5_init wsX0_init := goodIn_r _ [40, 41, 2, 3, 29, 42, 43, 44, 45, 46, 47, 73, 74, 75, 76, 77, 78, 79] (by decide +kernel) (by decide +kernel)
set_option maxRecDepth 20000 in
theorem gX5_init_X0_init : GoodIn wsX5_init (wsX0_init) := ggX5_init_X0_init
set_option maxRecDepth 20000 in
theorem ggX5_init_X2_init : GoodIn wsX5_init wsX2_init := goodIn_r _ [50, 51, 2, 3, 29, 52, 80] (by decide +kernel) (by decide +kernel)
set_option maxRecDepth 20000 in
theorem gX5_init_X2_init : GoodIn wsX5_init (wsX2_init) := ggX5_init_X2_init
set_option maxRecDepth 20000 in
theorem ggX5_init_X1_init : GoodIn wsX5_init wsX1_init := goodIn_r _ [54, 55, 2, 3, 29, 56, 57, 58, 59, 60, 81, 82, 83, 84, 85, 86] (by decide +kernel) (by decide +kernel)
set_option maxRecDepth 20000 in
theorem gX5_init_X1_init_n44 : GoodIn wsX5_init (wsX1_init) := ggX5_init_X1_init
theorem dX5_init_0 : decode cX5_init 0 = .ok (.aload_n 0, 1) := by decide +kernel
theorem dX5_init_1 : decode cX5_init 1 = .ok (.invokespecial 1, 3) := by decide +kernel
theorem dX5_init_4 : decode cX5_init 4 = .ok (.aload_n 0, 1) := by decide +kernel
theorem dX5_init_5 : decode cX5_init 5 = .ok (.new 7, 3) := by decide +kernel
theorem dX5_init_8 : decode cX5_init 8 = .ok (.dup, 1) := by decide +kernel
theorem dX5_init_9 : decode cX5_init 9 = .ok (.invokespecial 9, 3) := by decide +kernel
theorem dX5_init_12 : decode cX5_init 12 = .ok (.putfield 10, 3) := by decide +kernel
theorem dX5_init_15 : decode cX5_init 15 = .ok (.aload_n 0, 1) := by decide +kernel
theorem dX5_init_16 : decode cX5_init 16 = .ok (.new 16, 3) := by decide +kernel
theorem dX5_init_19 : decode cX5_init 19 = .ok (.dup, 1) := by decide +kernel
theorem dX5_init_20 : decode cX5_init 20 = .ok (.invokespecial 18, 3) := by decide +kernel
theorem dX5_init_23 : decode cX5_init 23 = .ok (.putfield 19, 3) := by decide +kernel
theorem dX5_init_26 : decode cX5_init 26 = .ok (.aload_n 0, 1) := by decide +kernel
theorem dX5_init_27 : decode cX5_init 27 = .ok (.new 23, 3) := by decide +kernel
theorem dX5_init_30 : decode cX5_init 30 = .ok (.dup, 1) := by decide +kernel
theorem dX5_init_31 : decode cX5_init 31 = .ok (.aload_n 0, 1) := by decide +kernel
theorem dX5_init_32 : decode cX5_init 32 = .ok (.getfield 10, 3) := by decide +kernel
theorem dX5_init_35 : decode cX5_init 35 = .ok (.aload_n 0, 1) := by decide +kernel
theorem dX5_init_36 : decode cX5_init 36 = .ok (.getfield 19, 3) := by decide +kernel
theorem dX5_init_39 : decode cX5_init 39 = .ok (.invokespecial 25, 3) := by decide +kernel
theorem dX5_init_42 : decode cX5_init 42 = .ok (.putfield 28, 3) := by decide +kernel
theorem dX5_init_45 : decode cX5_init 45 = .ok (.aload_n 0, 1) := by decide +kernel
theorem dX5_init_46 : decode cX5_init 46 = .ok (.new 23, 3) := by decide +kernel
theorem dX5_init_49 : decode cX5_init 49 = .ok (.dup, 1) := by decide +kernel
theorem dX5_init_50 : decode cX5_init 50 = .ok (.aload_n 0, 1) := by decide +kernel
theorem dX5_init_51 : decode cX5_init 51 = .ok (.getfield 10, 3) := by decide +kernel
theorem dX5_init_54 : decode cX5_init 54 = .ok (.aload_n 0, 1) := by decide +kernel
theorem dX5_init_55 : decode cX5_init 55 = .ok (.getfield 19, 3) := by decide +kernel
theorem dX5_init_58 : decode cX5_init 58 = .ok (.invokespecial 25, 3) := by decide +kernel
theorem dX5_init_61 : decode cX5_init 61 = .ok (.putfield 32, 3) := by decide +kernel
theorem dX5_init_64 : decode cX5_init 64 = .ok (.aload_n 0, 1) := by decide +kernel
theorem dX5_init_65 : decode cX5_init 65 = .ok (.new 35, 3) := by decide +kernel
theorem dX5_init_68 : decode cX5_init 68 = .ok (.dup, 1) := by decide +kernel
theorem dX5_init_69 : decode cX5_init 69 = .ok (.invokespecial 37, 3) := by decide +kernel
theorem dX5_init_72 : decode cX5_init 72 = .ok (.putfield 38, 3) := by decide +kernel
theorem dX5_init_75 : decode cX5_init 75 = .ok (.aload_n 0, 1) := by decide +kernel
theorem dX5_init_76 : decode cX5_init 76 = .ok (.new 42, 3) := by decide +kernel
theorem dX5_init_79 : decode cX5_init 79 = .ok (.dup, 1) := by decide +kernel
theorem dX5_init_80 : decode cX5_init 80 = .ok (.invokespecial 44, 3) := by decide +kernel
theorem dX5_init_83 : decode cX5_init 83 = .ok (.putfield 45, 3) := by decide +kernel
theorem dX5_init_86 : decode cX5_init 86 = .ok (.return_, 1) := by decide +kernel
set_option maxRecDepth 20000 in
theorem ggX5_setWeather_X5_isOutside : GoodIn wsX5_setWeather wsX5_isOutside := goodIn_r _ [12] (by decide +kernel) (by decide +kernel)
set_option maxRecDepth 20000 in
theorem gX5_setWeather_X5_isOutside : GoodIn wsX5_setWeather (va_wsS RX5 49 yX5_isOutside wsX5_isOutside) := goodIn_app (goodIn_of _ (by decide +kernel)) ggX5_setWeather_X5_isOutside
set_option maxRecDepth 20000 in
theorem ggX5_setWeather_X4_wetCold : GoodIn wsX5_setWeather wsX4_wetCold := goodIn_r _ [17, 18, 19, 26, 27, 28] (by decide +kernel) (by decide +kernel)
set_option maxRecDepth 20000 in
theorem gX5_setWeather_X4_wetCold : GoodIn wsX5_setWeather (wsV RX5 79 RX4 yX4_wetCold wsX4_wetCold) := goodIn_app (goodIn_of _ (by decide +kernel)) ggX5_setWeather_X4_wetCold
theorem dX5_setWeather_0 : decode cX5_setWeather 0 = .ok (.iload_n 1, 1) := by decide +kernel
theorem dX5_setWeather_1 : decode cX5_setWeather 1 = .ok (.iconst 0, 1) := by decide +kernel
theorem dX5_setWeather_2 : decode cX5_setWeather 2 = .ok (.bipush 23, 2) := by decide +kernel
theorem dX5_setWeather_4 : decode cX5_setWeather 4 = .ok (.invokestatic 49, 3) := by decide +kernel
theorem dX5_setWeather_7 : decode cX5_setWeather 7 = .ok (.ifCond .eq 13, 3) := by decide +kernel
theorem dX5_setWeather_10 : decode cX5_setWeather 10 = .ok (.new 53, 3) := by decide +kernel
theorem dX5_setWeather_13 : decode cX5_setWeather 13 = .ok (.dup, 1) := by decide +kernel
theorem dX5_setWeather_14 : decode cX5_setWeather 14 = .ok (.ldc 55, 2) := by decide +kernel
theorem dX5_setWeather_16 : decode cX5_setWeather 16 = .ok (.invokespecial 57, 3) := by decide +kernel
theorem dX5_setWeather_19 : decode cX5_setWeather 19 = .ok (.athrow, 1) := by decide +kernel
theorem dX5_setWeather_20 : decode cX5_setWeather 20 = .ok (.iload_n 2, 1) := by decide +kernel
theorem dX5_setWeather_21 : decode cX5_setWeather 21 = .ok (.bipush (-30), 2) := by decide +kernel
theorem dX5_setWeather_23 : decode cX5_setWeather 23 = .ok (.bipush 20, 2) := by decide +kernel
theorem dX5_setWeather_25 : decode cX5_setWeather 25 = .ok (.invokestatic 49, 3) := by decide +kernel
theorem dX5_setWeather_28 : decode cX5_setWeather 28 = .ok (.ifCond .eq 13, 3) := by decide +kernel
theorem dX5_setWeather_31 : decode cX5_setWeather 31 = .ok (.new 60, 3) := by decide +kernel
theorem dX5_setWeather_34 : decode cX5_setWeather 34 = .ok (.dup, 1) := by decide +kernel
theorem dX5_setWeather_35 : decode cX5_setWeather 35 = .ok (.ldc 62, 2) := by decide +kernel
theorem dX5_setWeather_37 : decode cX5_setWeather 37 = .ok (.invokespecial 64, 3) := by decide +kernel
theorem dX5_setWeather_40 : decode cX5_setWeather 40 = .ok (.athrow, 1) := by decide +kernel
theorem dX5_setWeather_41 : decode cX5_setWeather 41 = .ok (.iload_n 3, 1) := by decide +kernel
theorem dX5_setWeather_42 : decode cX5_setWeather 42 = .ok (.iconst 0, 1) := by decide +kernel
theorem dX5_setWeather_43 : decode cX5_setWeather 43 = .ok (.bipush 100, 2) := by decide +kernel
theorem dX5_setWeather_45 : decode cX5_setWeather 45 = .ok (.invokestatic 49, 3) := by decide +kernel
theorem dX5_setWeather_48 : decode cX5_setWeather 48 = .ok (.ifCond .eq 13, 3) := by decide +kernel
theorem dX5_setWeather_51 : decode cX5_setWeather 51 = .ok (.new 60, 3) := by decide +kernel
theorem dX5_setWeather_54 : decode cX5_setWeather 54 = .ok (.dup, 1) := by decide +kernel
theorem dX5_setWeather_55 : decode cX5_setWeather 55 = .ok (.ldc 65, 2) := by decide +kernel
theorem dX5_setWeather_57 : decode cX5_setWeather 57 = .ok (.invokespecial 64, 3) := by decide +kernel
theorem dX5_setWeather_60 : decode cX5_setWeather 60 = .ok (.athrow, 1) := by decide +kernel
theorem dX5_setWeather_61 : decode cX5_setWeather 61 = .ok (.iload 4, 2) := by decide +kernel
theorem dX5_setWeather_63 : decode cX5_setWeather 63 = .ok (.bipush (-9), 2) := by decide +kernel
theorem dX5_setWeather_65 : decode cX5_setWeather 65 = .ok (.bipush 9, 2) := by decide +kernel
theorem dX5_setWeather_67 : decode cX5_setWeather 67 = .ok (.invokestatic 49, 3) := by decide +kernel
theorem dX5_setWeather_70 : decode cX5_setWeather 70 = .ok (.ifCond .eq 13, 3) := by decide +kernel
theorem dX5_setWeather_73 : decode cX5_setWeather 73 = .ok (.new 60, 3) := by decide +kernel
theorem dX5_setWeather_76 : decode cX5_setWeather 76 = .ok (.dup, 1) := by decide +kernel
theorem dX5_setWeather_77 : decode cX5_setWeather 77 = .ok (.ldc 67, 2) := by decide +kernel
theorem dX5_setWeather_79 : decode cX5_setWeather 79 = .ok (.invokespecial 64, 3) := by decide +kernel
theorem dX5_setWeather_82 : decode cX5_setWeather 82 = .ok (.athrow, 1) := by decide +kernel
theorem dX5_setWeather_83 : decode cX5_setWeather 83 = .ok (.aload_n 0, 1) := by decide +kernel
theorem dX5_setWeather_84 : decode cX5_setWeather 84 = .ok (.getfield 10, 3) := by decide +kernel
theorem dX5_setWeather_87 : decode cX5_setWeather 87 = .ok (.getfield 69, 3) := by decide +kernel
theorem dX5_setWeather_90 : decode cX5_setWeather 90 = .ok (.iload_n 1, 1) := by decide +kernel
theorem dX5_setWeather_91 : decode cX5_setWeather 91 = .ok (.iload_n 2, 1) := by decide +kernel
theorem dX5_setWeather_92 : decode cX5_setWeather 92 = .ok (.iastore, 1) := by decide +kernel
theorem dX5_setWeather_93 : decode cX5_setWeather 93 = .ok (.aload_n 0, 1) := by decide +kernel
theorem dX5_setWeather_94 : decode cX5_setWeather 94 = .ok (.getfield 10, 3) := by decide +kernel
theorem dX5_setWeather_97 : decode cX5_setWeather 97 = .ok (.getfield 73, 3) := by decide +kernel
theorem dX5_setWeather_100 : decode cX5_setWeather 100 = .ok (.iload_n 1, 1) := by decide +kernel
theorem dX5_setWeather_101 : decode cX5_setWeather 101 = .ok (.iload_n 3, 1) := by decide +kernel
theorem dX5_setWeather_102 : decode cX5_setWeather 102 = .ok (.iastore, 1) := by decide +kernel
theorem dX5_setWeather_103 : decode cX5_setWeather 103 = .ok (.aload_n 0, 1) := by decide +kernel
theorem dX5_setWeather_104 : decode cX5_setWeather 104 = .ok (.getfield 10, 3) := by decide +kernel
theorem dX5_setWeather_107 : decode cX5_setWeather 107 = .ok (.getfield 76, 3) := by decide +kernel
theorem dX5_setWeather_110 : decode cX5_setWeather 110 = .ok (.iload_n 1, 1) := by decide +kernel
theorem dX5_setWeather_111 : decode cX5_setWeather 111 = .ok (.iload 4, 2) := by decide +kernel
theorem dX5_setWeather_113 : decode cX5_setWeather 113 = .ok (.iastore, 1) := by decide +kernel
theorem dX5_setWeather_114 : decode cX5_setWeather 114 = .ok (.aload_n 0, 1) := by decide +kernel
theorem dX5_setWeather_115 : decode cX5_setWeather 115 = .ok (.getfield 10, 3) := by decide +kernel
theorem dX5_setWeather_118 : decode cX5_setWeather 118 = .ok (.iload_n 1, 1) := by decide +kernel
theorem dX5_setWeather_119 : decode cX5_setWeather 119 = .ok (.invokevirtual 79, 3) := by decide +kernel
theorem dX5_setWeather_122 : decode cX5_setWeather 122 = .ok (.ireturn, 1) := by decide +kernel
set_option maxRecDepth 20000 in
theorem ggX5_pump_X5_isOutside : GoodIn wsX5_pump wsX5_isOutside := goodIn_r _ [12] (by decide +kernel) (by decide +kernel)
set_option maxRecDepth 20000 in
theorem gX5_pump_X5_isOutside : GoodIn wsX5_pump (va_wsS RX5 49 yX5_isOutside wsX5_isOutside) := goodIn_app (goodIn_of _ (by decide +kernel)) ggX5_pump_X5_isOutside
set_option maxRecDepth 20000 in
theorem ggX5_pump_X3_setUp : GoodIn wsX5_pump wsX3_setUp := goodIn_r _ [17, 18, 19, 20, 27, 28, 29] (by decide +kernel) (by decide +kernel)
set_option maxRecDepth 20000 in
theorem gX5_pump_X3_setUp : GoodIn wsX5_pump (wsV RX5 96 RX3 yX3_setUp wsX3_setUp) := goodIn_app (goodIn_of _ (by decide +kernel)) ggX5_pump_X3_setUp
theorem dX5_pump_0 : decode cX5_pump 0 = .ok (.iload_n 1, 1) := by decide +kernel
theorem dX5_pump_1 : decode cX5_pump 1 = .ok (.iconst 0, 1) := by decide +kernel
theorem dX5_pump_2 : decode cX5_pump 2 = .ok (.bipush 19, 2) := by decide +kernel
theorem dX5_pump_4 : decode cX5_pump 4 = .ok (.invokestatic 49, 3) := by decide +kernel
theorem dX5_pump_7 : decode cX5_pump 7 = .ok (.ifCond .eq 13, 3) := by decide +kernel
theorem dX5_pump_10 : decode cX5_pump 10 = .ok (.new 53, 3) := by decide +kernel
theorem dX5_pump_13 : decode cX5_pump 13 = .ok (.dup, 1) := by decide +kernel
theorem dX5_pump_14 : decode cX5_pump 14 = .ok (.ldc 83, 2) := by decide +kernel
theorem dX5_pump_16 : decode cX5_pump 16 = .ok (.invokespecial 57, 3) := by decide +kernel
theorem dX5_pump_19 : decode cX5_pump 19 = .ok (.athrow, 1) := by decide +kernel
theorem dX5_pump_20 : decode cX5_pump 20 = .ok (.iload_n 2, 1) := by decide +kernel
theorem dX5_pump_21 : decode cX5_pump 21 = .ok (.iconst 1, 1) := by decide +kernel
theorem dX5_pump_22 : decode cX5_pump 22 = .ok (.bipush 9, 2) := by decide +kernel
theorem dX5_pump_24 : decode cX5_pump 24 = .ok (.invokestatic 49, 3) := by decide +kernel
theorem dX5_pump_27 : decode cX5_pump 27 = .ok (.ifCond .eq 13, 3) := by decide +kernel
theorem dX5_pump_30 : decode cX5_pump 30 = .ok (.new 60, 3) := by decide +kernel
theorem dX5_pump_33 : decode cX5_pump 33 = .ok (.dup, 1) := by decide +kernel
theorem dX5_pump_34 : decode cX5_pump 34 = .ok (.ldc 85, 2) := by decide +kernel
theorem dX5_pump_36 : decode cX5_pump 36 = .ok (.invokespecial 64, 3) := by decide +kernel
theorem dX5_pump_39 : decode cX5_pump 39 = .ok (.athrow, 1) := by decide +kernel
theorem dX5_pump_40 : decode cX5_pump 40 = .ok (.aload_n 0, 1) := by decide +kernel
theorem dX5_pump_41 : decode cX5_pump 41 = .ok (.getfield 19, 3) := by decide +kernel
theorem dX5_pump_44 : decode cX5_pump 44 = .ok (.getfield 87, 3) := by decide +kernel
theorem dX5_pump_47 : decode cX5_pump 47 = .ok (.iconst 5, 1) := by decide +kernel
theorem dX5_pump_48 : decode cX5_pump 48 = .ok (.if_icmp .lt 13, 3) := by decide +kernel
theorem dX5_pump_51 : decode cX5_pump 51 = .ok (.new 91, 3) := by decide +kernel
theorem dX5_pump_54 : decode cX5_pump 54 = .ok (.dup, 1) := by decide +kernel
theorem dX5_pump_55 : decode cX5_pump 55 = .ok (.ldc 93, 2) := by decide +kernel
theorem dX5_pump_57 : decode cX5_pump 57 = .ok (.invokespecial 95, 3) := by decide +kernel
theorem dX5_pump_60 : decode cX5_pump 60 = .ok (.athrow, 1) := by decide +kernel
theorem dX5_pump_61 : decode cX5_pump 61 = .ok (.aload_n 0, 1) := by decide +kernel
theorem dX5_pump_62 : decode cX5_pump 62 = .ok (.getfield 19, 3) := by decide +kernel
theorem dX5_pump_65 : decode cX5_pump 65 = .ok (.iload_n 1, 1) := by decide +kernel
theorem dX5_pump_66 : decode cX5_pump 66 = .ok (.iload_n 2, 1) := by decide +kernel
theorem dX5_pump_67 : decode cX5_pump 67 = .ok (.invokevirtual 96, 3) := by decide +kernel
theorem dX5_pump_70 : decode cX5_pump 70 = .ok (.ireturn, 1) := by decide +kernel
set_option maxRecDepth 20000 in
theorem ggX5_run_X5_isOutside : GoodIn wsX5_run wsX5_isOutside := goodIn_r _ [10] (by decide +kernel) (by decide +kernel)
set_option maxRecDepth 20000 in
theorem gX5_run_X5_isOutside : GoodIn wsX5_run (va_wsS RX5 49 yX5_isOutside wsX5_isOutside) := goodIn_app (goodIn_of _ (by decide +kernel)) ggX5_run_X5_isOutside
theorem dX5_run_0 : decode cX5_run 0 = .ok (.iload_n 1, 1) := by decide +kernel
theorem dX5_run_1 : decode cX5_run 1 = .ok (.iconst 0, 1) := by decide +kernel
theorem dX5_run_2 : decode cX5_run 2 = .ok (.aload_n 0, 1) := by decide +kernel
theorem dX5_run_3 : decode cX5_run 3 = .ok (.getfield 19, 3) := by decide +kernel
theorem dX5_run_6 : decode cX5_run 6 = .ok (.getfield 87, 3) := by decide +kernel
theorem dX5_run_9 : decode cX5_run 9 = .ok (.iconst 1, 1) := by decide +kernel
theorem dX5_run_10 : decode cX5_run 10 = .ok (.isub, 1) := by decide +kernel
theorem dX5_run_11 : decode cX5_run 11 = .ok (.invokestatic 49, 3) := by decide +kernel
theorem dX5_run_14 : decode cX5_run 14 = .ok (.ifCond .eq 13, 3) := by decide +kernel
theorem dX5_run_17 : decode cX5_run 17 = .ok (.new 53, 3) := by decide +kernel
theorem dX5_run_20 : decode cX5_run 20 = .ok (.dup, 1) := by decide +kernel
theorem dX5_run_21 : decode cX5_run 21 = .ok (.ldc 100, 2) := by decide +kernel
theorem dX5_run_23 : decode cX5_run 23 = .ok (.invokespecial 57, 3) := by decide +kernel
theorem dX5_run_26 : decode cX5_run 26 = .ok (.athrow, 1) := by decide +kernel
theorem dX5_run_27 : decode cX5_run 27 = .ok (.aload_n 0, 1) := by decide +kernel
theorem dX5_run_28 : decode cX5_run 28 = .ok (.getfield 28, 3) := by decide +kernel
theorem dX5_run_31 : decode cX5_run 31 = .ok (.getfield 102, 3) := by decide +kernel
theorem dX5_run_34 : decode cX5_run 34 = .ok (.iload_n 1, 1) := by decide +kernel
theorem dX5_run_35 : decode cX5_run 35 = .ok (.aload_n 0, 1) := by decide +kernel
theorem dX5_run_36 : decode cX5_run 36 = .ok (.getfield 28, 3) := by decide +kernel
theorem dX5_run_39 : decode cX5_run 39 = .ok (.getfield 102, 3) := by decide +kernel
theorem dX5_run_42 : decode cX5_run 42 = .ok (.iload_n 1, 1) := by decide +kernel
theorem dX5_run_43 : decode cX5_run 43 = .ok (.baload, 1) := by decide +kernel
theorem dX5_run_44 : decode cX5_run 44 = .ok (.ifCond .ne 7, 3) := by decide +kernel
theorem dX5_run_47 : decode cX5_run 47 = .ok (.iconst 1, 1) := by decide +kernel
theorem dX5_run_48 : decode cX5_run 48 = .ok (.goto 4, 3) := by decide +kernel
theorem dX5_run_51 : decode cX5_run 51 = .ok (.iconst 0, 1) := by decide +kernel
theorem dX5_run_52 : decode cX5_run 52 = .ok (.bastore, 1) := by decide +kernel
theorem dX5_run_53 : decode cX5_run 53 = .ok (.aload_n 0, 1) := by decide +kernel
theorem dX5_run_54 : decode cX5_run 54 = .ok (.getfield 28, 3) := by decide +kernel
theorem dX5_run_57 : decode cX5_run 57 = .ok (.getfield 102, 3) := by decide +kernel
theorem dX5_run_60 : decode cX5_run 60 = .ok (.iload_n 1, 1) := by decide +kernel
theorem dX5_run_61 : decode cX5_run 61 = .ok (.baload, 1) := by decide +kernel
theorem dX5_run_62 : decode cX5_run 62 = .ok (.ireturn, 1) := by decide +kernel
set_option maxRecDepth 20000 in
theorem ggX5_fill_X5_isOutside : GoodIn wsX5_fill wsX5_isOutside := goodIn_r _ [12] (by decide +kernel) (by decide +kernel)
set_option maxRecDepth 20000 in
theorem gX5_fill_X5_isOutside : GoodIn wsX5_fill (va_wsS RX5 49 yX5_isOutside wsX5_isOutside) := goodIn_app (goodIn_of _ (by decide +kernel)) ggX5_fill_X5_isOutside
theorem dX5_fill_0 : decode cX5_fill 0 = .ok (.iload_n 1, 1) := by decide +kernel
theorem dX5_fill_1 : decode cX5_fill 1 = .ok (.iconst 1, 1) := by decide +kernel
theorem dX5_fill_2 : decode cX5_fill 2 = .ok (.sipush 9999, 3) := by decide +kernel
theorem dX5_fill_5 : decode cX5_fill 5 = .ok (.invokestatic 49, 3) := by decide +kernel
theorem dX5_fill_8 : decode cX5_fill 8 = .ok (.ifCond .eq 13, 3) := by decide +kernel
theorem dX5_fill_11 : decode cX5_fill 11 = .ok (.new 60, 3) := by decide +kernel
theorem dX5_fill_14 : decode cX5_fill 14 = .ok (.dup, 1) := by decide +kernel
theorem dX5_fill_15 : decode cX5_fill 15 = .ok (.ldc 106, 2) := by decide +kernel
theorem dX5_fill_17 : decode cX5_fill 17 = .ok (.invokespecial 64, 3) := by decide +kernel
theorem dX5_fill_20 : decode cX5_fill 20 = .ok (.athrow, 1) := by decide +kernel
theorem dX5_fill_21 : decode cX5_fill 21 = .ok (.aload_n 0, 1) := by decide +kernel
theorem dX5_fill_22 : decode cX5_fill 22 = .ok (.getfield 28, 3) := by decide +kernel
theorem dX5_fill_25 : decode cX5_fill 25 = .ok (.aload_n 0, 1) := by decide +kernel
theorem dX5_fill_26 : decode cX5_fill 26 = .ok (.getfield 28, 3) := by decide +kernel
theorem dX5_fill_29 : decode cX5_fill 29 = .ok (.getfield 108, 3) := by decide +kernel
theorem dX5_fill_32 : decode cX5_fill 32 = .ok (.iload_n 1, 1) := by decide +kernel
theorem dX5_fill_33 : decode cX5_fill 33 = .ok (.iadd, 1) := by decide +kernel
theorem dX5_fill_34 : decode cX5_fill 34 = .ok (.sipush 9999, 3) := by decide +kernel
theorem dX5_fill_37 : decode cX5_fill 37 = .ok (.invokestatic 111, 3) := by decide +kernel
theorem dX5_fill_40 : decode cX5_fill 40 = .ok (.putfield 108, 3) := by decide +kernel
theorem dX5_fill_43 : decode cX5_fill 43 = .ok (.aload_n 0, 1) := by decide +kernel
theorem dX5_fill_44 : decode cX5_fill 44 = .ok (.getfield 28, 3) := by decide +kernel
theorem dX5_fill_47 : decode cX5_fill 47 = .ok (.getfield 108, 3) := by decide +kernel
theorem dX5_fill_50 : decode cX5_fill 50 = .ok (.ireturn, 1) := by decide +kernel
set_option maxRecDepth 20000 in
theorem ggX5_groom_X5_isOutside : GoodIn wsX5_groom wsX5_isOutside := goodIn_r _ [9] (by decide +kernel) (by decide +kernel)
set_option maxRecDepth 20000 in
theorem gX5_groom_X5_isOutside : GoodIn wsX5_groom (va_wsS RX5 49 yX5_isOutside wsX5_isOutside) := goodIn_app (goodIn_of _ (by decide +kernel)) ggX5_groom_X5_isOutside
set_option maxRecDepth 20000 in
theorem ggX5_groom_X0_spreadSnow : GoodIn wsX5_groom wsX0_spreadSnow := goodIn_r _ [14, 15, 16, 23, 24, 25, 26, 27, 28, 29] (by decide +kernel) (by decide +kernel)
set_option maxRecDepth 20000 in
theorem gX5_groom_X0_spreadSnow : GoodIn wsX5_groom (wsV RX5 122 RX0 yX0_spreadSnow wsX0_spreadSnow) := goodIn_app (goodIn_of _ (by decide +kernel)) ggX5_groom_X0_spreadSnow
theorem dX5_groom_0 : decode cX5_groom 0 = .ok (.iload_n 1, 1) := by decide +kernel
theorem dX5_groom_1 : decode cX5_groom 1 = .ok (.iconst 0, 1) := by decide +kernel
theorem dX5_groom_2 : decode cX5_groom 2 = .ok (.bipush 19, 2) := by decide +kernel
theorem dX5_groom_4 : decode cX5_groom 4 = .ok (.invokestatic 49, 3) := by decide +kernel
theorem dX5_groom_7 : decode cX5_groom 7 = .ok (.ifCond .eq 13, 3) := by decide +kernel
theorem dX5_groom_10 : decode cX5_groom 10 = .ok (.new 53, 3) := by decide +kernel
theorem dX5_groom_13 : decode cX5_groom 13 = .ok (.dup, 1) := by decide +kernel
theorem dX5_groom_14 : decode cX5_groom 14 = .ok (.ldc 116, 2) := by decide +kernel
theorem dX5_groom_16 : decode cX5_groom 16 = .ok (.invokespecial 57, 3) := by decide +kernel
theorem dX5_groom_19 : decode cX5_groom 19 = .ok (.athrow, 1) := by decide +kernel
theorem dX5_groom_20 : decode cX5_groom 20 = .ok (.iload_n 2, 1) := by decide +kernel
theorem dX5_groom_21 : decode cX5_groom 21 = .ok (.iconst 0, 1) := by decide +kernel
theorem dX5_groom_22 : decode cX5_groom 22 = .ok (.bipush 19, 2) := by decide +kernel
theorem dX5_groom_24 : decode cX5_groom 24 = .ok (.invokestatic 49, 3) := by decide +kernel
theorem dX5_groom_27 : decode cX5_groom 27 = .ok (.ifCond .eq 13, 3) := by decide +kernel
theorem dX5_groom_30 : decode cX5_groom 30 = .ok (.new 53, 3) := by decide +kernel
theorem dX5_groom_33 : decode cX5_groom 33 = .ok (.dup, 1) := by decide +kernel
theorem dX5_groom_34 : decode cX5_groom 34 = .ok (.ldc 118, 2) := by decide +kernel
theorem dX5_groom_36 : decode cX5_groom 36 = .ok (.invokespecial 57, 3) := by decide +kernel
theorem dX5_groom_39 : decode cX5_groom 39 = .ok (.athrow, 1) := by decide +kernel
theorem dX5_groom_40 : decode cX5_groom 40 = .ok (.iload_n 1, 1) := by decide +kernel
theorem dX5_groom_41 : decode cX5_groom 41 = .ok (.iload_n 2, 1) := by decide +kernel
theorem dX5_groom_42 : decode cX5_groom 42 = .ok (.if_icmp .le 13, 3) := by decide +kernel
theorem dX5_groom_45 : decode cX5_groom 45 = .ok (.new 60, 3) := by decide +kernel
theorem dX5_groom_48 : decode cX5_groom 48 = .ok (.dup, 1) := by decide +kernel
theorem dX5_groom_49 : decode cX5_groom 49 = .ok (.ldc 120, 2) := by decide +kernel
theorem dX5_groom_51 : decode cX5_groom 51 = .ok (.invokespecial 64, 3) := by decide +kernel
theorem dX5_groom_54 : decode cX5_groom 54 = .ok (.athrow, 1) := by decide +kernel
theorem dX5_groom_55 : decode cX5_groom 55 = .ok (.aload_n 0, 1) := by decide +kernel
theorem dX5_groom_56 : decode cX5_groom 56 = .ok (.getfield 28, 3) := by decide +kernel
theorem dX5_groom_59 : decode cX5_groom 59 = .ok (.iload_n 1, 1) := by decide +kernel
theorem dX5_groom_60 : decode cX5_groom 60 = .ok (.iload_n 2, 1) := by decide +kernel
theorem dX5_groom_61 : decode cX5_groom 61 = .ok (.invokevirtual 122, 3) := by decide +kernel
theorem dX5_groom_64 : decode cX5_groom 64 = .ok (.ireturn, 1) := by decide +kernel
set_option maxRecDepth 20000 in
theorem ggX5_judge_X5_isOutside : GoodIn wsX5_judge wsX5_isOutside := goodIn_r _ [10] (by decide +kernel) (by decide +kernel)
set_option maxRecDepth 20000 in
theorem gX5_judge_X5_isOutside : GoodIn wsX5_judge (va_wsS RX5 49 yX5_isOutside wsX5_isOutside) := goodIn_app (goodIn_of _ (by decide +kernel)) ggX5_judge_X5_isOutside
theorem dX5_judge_0 : decode cX5_judge 0 = .ok (.iload_n 1, 1) := by decide +kernel
theorem dX5_judge_1 : decode cX5_judge 1 = .ok (.iconst 0, 1) := by decide +kernel
theorem dX5_judge_2 : decode cX5_judge 2 = .ok (.iconst 4, 1) := by decide +kernel
theorem dX5_judge_3 : decode cX5_judge 3 = .ok (.invokestatic 49, 3) := by decide +kernel
theorem dX5_judge_6 : decode cX5_judge 6 = .ok (.ifCond .eq 13, 3) := by decide +kernel
theorem dX5_judge_9 : decode cX5_judge 9 = .ok (.new 53, 3) := by decide +kernel
theorem dX5_judge_12 : decode cX5_judge 12 = .ok (.dup, 1) := by decide +kernel
theorem dX5_judge_13 : decode cX5_judge 13 = .ok (.ldc 125, 2) := by decide +kernel
theorem dX5_judge_15 : decode cX5_judge 15 = .ok (.invokespecial 57, 3) := by decide +kernel
theorem dX5_judge_18 : decode cX5_judge 18 = .ok (.athrow, 1) := by decide +kernel
theorem dX5_judge_19 : decode cX5_judge 19 = .ok (.iload_n 2, 1) := by decide +kernel
theorem dX5_judge_20 : decode cX5_judge 20 = .ok (.iconst 0, 1) := by decide +kernel
theorem dX5_judge_21 : decode cX5_judge 21 = .ok (.iconst 4, 1) := by decide +kernel
theorem dX5_judge_22 : decode cX5_judge 22 = .ok (.invokestatic 49, 3) := by decide +kernel
theorem dX5_judge_25 : decode cX5_judge 25 = .ok (.ifCond .eq 13, 3) := by decide +kernel
theorem dX5_judge_28 : decode cX5_judge 28 = .ok (.new 60, 3) := by decide +kernel
theorem dX5_judge_31 : decode cX5_judge 31 = .ok (.dup, 1) := by decide +kernel
theorem dX5_judge_32 : decode cX5_judge 32 = .ok (.ldc 127, 2) := by decide +kernel
theorem dX5_judge_34 : decode cX5_judge 34 = .ok (.invokespecial 64, 3) := by decide +kernel
theorem dX5_judge_37 : decode cX5_judge 37 = .ok (.athrow, 1) := by decide +kernel
theorem dX5_judge_38 : decode cX5_judge 38 = .ok (.aload_n 0, 1) := by decide +kernel
theorem dX5_judge_39 : decode cX5_judge 39 = .ok (.getfield 38, 3) := by decide +kernel
theorem dX5_judge_42 : decode cX5_judge 42 = .ok (.getfield 129, 3) := by decide +kernel
theorem dX5_judge_45 : decode cX5_judge 45 = .ok (.iload_n 1, 1) := by decide +kernel
theorem dX5_judge_46 : decode cX5_judge 46 = .ok (.iaload, 1) := by decide +kernel
theorem dX5_judge_47 : decode cX5_judge 47 = .ok (.istore_n 3, 1) := by decide +kernel
theorem dX5_judge_48 : decode cX5_judge 48 = .ok (.aload_n 0, 1) := by decide +kernel
theorem dX5_judge_49 : decode cX5_judge 49 = .ok (.getfield 38, 3) := by decide +kernel
theorem dX5_judge_52 : decode cX5_judge 52 = .ok (.getfield 129, 3) := by decide +kernel
theorem dX5_judge_55 : decode cX5_judge 55 = .ok (.iload_n 1, 1) := by decide +kernel
theorem dX5_judge_56 : decode cX5_judge 56 = .ok (.iload_n 2, 1) := by decide +kernel
theorem dX5_judge_57 : decode cX5_judge 57 = .ok (.iastore, 1) := by decide +kernel
theorem dX5_judge_58 : decode cX5_judge 58 = .ok (.iload_n 3, 1) := by decide +kernel
theorem dX5_judge_59 : decode cX5_judge 59 = .ok (.ireturn, 1) := by decide +kernel
set_option maxRecDepth 20000 in
theorem ggX5_jump_X5_isOutside : GoodIn wsX5_jump wsX5_isOutside := goodIn_r _ [15] (by decide +kernel) (by decide +kernel)
set_option maxRecDepth 20000 in
theorem gX5_jump_X5_isOutside : GoodIn wsX5_jump (va_wsS RX5 49 yX5_isOutside wsX5_isOutside) := goodIn_app (goodIn_of _ (by decide +kernel)) ggX5_jump_X5_isOutside
set_option maxRecDepth 20000 in
theorem ggX5_jump_X0_hourOfDay : GoodIn wsX5_jump wsX0_hourOfDay := goodIn_r _ [20, 21, 22, 23, 24, 25, 87, 88, 89, 90, 91, 92, 93] (by decide +kernel) (by decide +kernel)
set_option maxRecDepth 20000 in
theorem gX5_jump_X0_hourOfDay : GoodIn wsX5_jump (wsV RX5 141 RX0 yX0_hourOfDay wsX0_hourOfDay) := goodIn_app (goodIn_of _ (by decide +kernel)) ggX5_jump_X0_hourOfDay
set_option maxRecDepth 20000 in
theorem ggX5_jump_X5_lengthFrom : GoodIn wsX5_jump wsX5_lengthFrom := goodIn_r _ [28, 29, 30, 14, 31, 32, 33, 34, 35, 36, 37, 38] (by decide +kernel) (by decide +kernel)
set_option maxRecDepth 20000 in
theorem gX5_jump_X5_lengthFrom : GoodIn wsX5_jump (va_wsS RX5 145 yX5_lengthFrom wsX5_lengthFrom) := goodIn_app (goodIn_of _ (by decide +kernel)) ggX5_jump_X5_lengthFrom
set_option maxRecDepth 20000 in
theorem ggX5_jump_X0_fallsAt : GoodIn wsX5_jump wsX0_fallsAt := goodIn_r _ [42, 43, 44, 87, 88, 89, 90, 91, 92, 93] (by decide +kernel) (by decide +kernel)
set_option maxRecDepth 20000 in
theorem gX5_jump_X0_fallsAt : GoodIn wsX5_jump (wsV RX5 149 RX0 yX0_fallsAt wsX0_fallsAt) := goodIn_app (goodIn_of _ (by decide +kernel)) ggX5_jump_X0_fallsAt
set_option maxRecDepth 20000 in
theorem ggX5_jump_X0_takeSnow : GoodIn wsX5_jump wsX0_takeSnow := goodIn_r _ [48, 43, 49, 37, 34, 38, 87, 88, 89, 90, 91, 92, 93] (by decide +kernel) (by decide +kernel)
set_option maxRecDepth 20000 in
theorem gX5_jump_X0_takeSnow : GoodIn wsX5_jump (wsV RX5 153 RX0 yX0_takeSnow wsX0_takeSnow) := goodIn_app (goodIn_of _ (by decide +kernel)) ggX5_jump_X0_takeSnow
set_option maxRecDepth 20000 in
theorem ggX5_jump_X2_marks : GoodIn wsX5_jump wsX2_marks := goodIn_r _ [54, 55, 56, 34, 57, 58, 59, 37, 38, 60, 33, 35, 30, 14, 31, 32, 36, 94] (by decide +kernel) (by decide +kernel)
set_option maxRecDepth 20000 in
theorem gX5_jump_X2_marks : GoodIn wsX5_jump (wsV RX5 157 RX2 yX2_marks wsX2_marks) := goodIn_app (goodIn_of _ (by decide +kernel)) ggX5_jump_X2_marks
set_option maxRecDepth 20000 in
theorem ggX5_jump_X1_add : GoodIn wsX5_jump wsX1_add := goodIn_r _ [65, 66, 67, 68, 69, 70, 71, 78, 79, 80, 81, 82, 83] (by decide +kernel) (by decide +kernel)
set_option maxRecDepth 20000 in
theorem gX5_jump_X1_add : GoodIn wsX5_jump (wsV RX5 164 RX1 yX1_add wsX1_add) := goodIn_app (goodIn_of _ (by decide +kernel)) ggX5_jump_X1_add
theorem dX5_jump_0 : decode cX5_jump 0 = .ok (.iload_n 1, 1) := by decide +kernel
theorem dX5_jump_1 : decode cX5_jump 1 = .ok (.iconst 0, 1) := by decide +kernel
theorem dX5_jump_2 : decode cX5_jump 2 = .ok (.bipush 9, 2) := by decide +kernel
theorem dX5_jump_4 : decode cX5_jump 4 = .ok (.invokestatic 49, 3) := by decide +kernel
theorem dX5_jump_7 : decode cX5_jump 7 = .ok (.ifCond .eq 13, 3) := by decide +kernel
theorem dX5_jump_10 : decode cX5_jump 10 = .ok (.new 60, 3) := by decide +kernel
theorem dX5_jump_13 : decode cX5_jump 13 = .ok (.dup, 1) := by decide +kernel
theorem dX5_jump_14 : decode cX5_jump 14 = .ok (.ldc 132, 2) := by decide +kernel
theorem dX5_jump_16 : decode cX5_jump 16 = .ok (.invokespecial 64, 3) := by decide +kernel
theorem dX5_jump_19 : decode cX5_jump 19 = .ok (.athrow, 1) := by decide +kernel
theorem dX5_jump_20 : decode cX5_jump 20 = .ok (.iload_n 2, 1) := by decide +kernel
theorem dX5_jump_21 : decode cX5_jump 21 = .ok (.iconst 1, 1) := by decide +kernel
theorem dX5_jump_22 : decode cX5_jump 22 = .ok (.bipush 20, 2) := by decide +kernel
theorem dX5_jump_24 : decode cX5_jump 24 = .ok (.invokestatic 49, 3) := by decide +kernel
theorem dX5_jump_27 : decode cX5_jump 27 = .ok (.ifCond .eq 13, 3) := by decide +kernel
theorem dX5_jump_30 : decode cX5_jump 30 = .ok (.new 60, 3) := by decide +kernel
theorem dX5_jump_33 : decode cX5_jump 33 = .ok (.dup, 1) := by decide +kernel
theorem dX5_jump_34 : decode cX5_jump 34 = .ok (.ldc 134, 2) := by decide +kernel
theorem dX5_jump_36 : decode cX5_jump 36 = .ok (.invokespecial 64, 3) := by decide +kernel
theorem dX5_jump_39 : decode cX5_jump 39 = .ok (.athrow, 1) := by decide +kernel
theorem dX5_jump_40 : decode cX5_jump 40 = .ok (.iload_n 3, 1) := by decide +kernel
theorem dX5_jump_41 : decode cX5_jump 41 = .ok (.iconst 0, 1) := by decide +kernel
theorem dX5_jump_42 : decode cX5_jump 42 = .ok (.bipush 20, 2) := by decide +kernel
theorem dX5_jump_44 : decode cX5_jump 44 = .ok (.invokestatic 49, 3) := by decide +kernel
theorem dX5_jump_47 : decode cX5_jump 47 = .ok (.ifCond .eq 13, 3) := by decide +kernel
theorem dX5_jump_50 : decode cX5_jump 50 = .ok (.new 60, 3) := by decide +kernel
theorem dX5_jump_53 : decode cX5_jump 53 = .ok (.dup, 1) := by decide +kernel
theorem dX5_jump_54 : decode cX5_jump 54 = .ok (.ldc 136, 2) := by decide +kernel
theorem dX5_jump_56 : decode cX5_jump 56 = .ok (.invokespecial 64, 3) := by decide +kernel
theorem dX5_jump_59 : decode cX5_jump 59 = .ok (.athrow, 1) := by decide +kernel
theorem dX5_jump_60 : decode cX5_jump 60 = .ok (.aload_n 0, 1) := by decide +kernel
theorem dX5_jump_61 : decode cX5_jump 61 = .ok (.getfield 45, 3) := by decide +kernel
theorem dX5_jump_64 : decode cX5_jump 64 = .ok (.getfield 138, 3) := by decide +kernel
theorem dX5_jump_67 : decode cX5_jump 67 = .ok (.bipush 30, 2) := by decide +kernel
theorem dX5_jump_69 : decode cX5_jump 69 = .ok (.if_icmp .lt 13, 3) := by decide +kernel
theorem dX5_jump_72 : decode cX5_jump 72 = .ok (.new 91, 3) := by decide +kernel
theorem dX5_jump_75 : decode cX5_jump 75 = .ok (.dup, 1) := by decide +kernel
theorem dX5_jump_76 : decode cX5_jump 76 = .ok (.ldc 139, 2) := by decide +kernel
theorem dX5_jump_78 : decode cX5_jump 78 = .ok (.invokespecial 95, 3) := by decide +kernel
theorem dX5_jump_81 : decode cX5_jump 81 = .ok (.athrow, 1) := by decide +kernel
theorem dX5_jump_82 : decode cX5_jump 82 = .ok (.aload_n 0, 1) := by decide +kernel
theorem dX5_jump_83 : decode cX5_jump 83 = .ok (.getfield 10, 3) := by decide +kernel
theorem dX5_jump_86 : decode cX5_jump 86 = .ok (.getfield 76, 3) := by decide +kernel
theorem dX5_jump_89 : decode cX5_jump 89 = .ok (.aload_n 0, 1) := by decide +kernel
theorem dX5_jump_90 : decode cX5_jump 90 = .ok (.getfield 28, 3) := by decide +kernel
theorem dX5_jump_93 : decode cX5_jump 93 = .ok (.invokevirtual 141, 3) := by decide +kernel
theorem dX5_jump_96 : decode cX5_jump 96 = .ok (.iaload, 1) := by decide +kernel
theorem dX5_jump_97 : decode cX5_jump 97 = .ok (.istore 4, 2) := by decide +kernel
theorem dX5_jump_99 : decode cX5_jump 99 = .ok (.iload_n 2, 1) := by decide +kernel
theorem dX5_jump_100 : decode cX5_jump 100 = .ok (.iload 4, 2) := by decide +kernel
theorem dX5_jump_102 : decode cX5_jump 102 = .ok (.iload_n 3, 1) := by decide +kernel
theorem dX5_jump_103 : decode cX5_jump 103 = .ok (.invokestatic 145, 3) := by decide +kernel
theorem dX5_jump_106 : decode cX5_jump 106 = .ok (.istore 5, 2) := by decide +kernel
theorem dX5_jump_108 : decode cX5_jump 108 = .ok (.iload 5, 2) := by decide +kernel
theorem dX5_jump_110 : decode cX5_jump 110 = .ok (.iconst 5, 1) := by decide +kernel
theorem dX5_jump_111 : decode cX5_jump 111 = .ok (.idiv, 1) := by decide +kernel
theorem dX5_jump_112 : decode cX5_jump 112 = .ok (.istore 6, 2) := by decide +kernel
theorem dX5_jump_114 : decode cX5_jump 114 = .ok (.aload_n 0, 1) := by decide +kernel
theorem dX5_jump_115 : decode cX5_jump 115 = .ok (.getfield 28, 3) := by decide +kernel
theorem dX5_jump_118 : decode cX5_jump 118 = .ok (.iload 6, 2) := by decide +kernel
theorem dX5_jump_120 : decode cX5_jump 120 = .ok (.invokevirtual 149, 3) := by decide +kernel
theorem dX5_jump_123 : decode cX5_jump 123 = .ok (.istore 7, 2) := by decide +kernel
theorem dX5_jump_125 : decode cX5_jump 125 = .ok (.aload_n 0, 1) := by decide +kernel
theorem dX5_jump_126 : decode cX5_jump 126 = .ok (.getfield 28, 3) := by decide +kernel
theorem dX5_jump_129 : decode cX5_jump 129 = .ok (.iload 6, 2) := by decide +kernel
theorem dX5_jump_131 : decode cX5_jump 131 = .ok (.iconst 3, 1) := by decide +kernel
theorem dX5_jump_132 : decode cX5_jump 132 = .ok (.invokevirtual 153, 3) := by decide +kernel
theorem dX5_jump_135 : decode cX5_jump 135 = .ok (.aload_n 0, 1) := by decide +kernel
theorem dX5_jump_136 : decode cX5_jump 136 = .ok (.getfield 45, 3) := by decide +kernel
theorem dX5_jump_139 : decode cX5_jump 139 = .ok (.iload_n 1, 1) := by decide +kernel
theorem dX5_jump_140 : decode cX5_jump 140 = .ok (.iload 5, 2) := by decide +kernel
theorem dX5_jump_142 : decode cX5_jump 142 = .ok (.iload 5, 2) := by decide +kernel
theorem dX5_jump_144 : decode cX5_jump 144 = .ok (.aload_n 0, 1) := by decide +kernel
theorem dX5_jump_145 : decode cX5_jump 145 = .ok (.getfield 38, 3) := by decide +kernel
theorem dX5_jump_148 : decode cX5_jump 148 = .ok (.iload_n 3, 1) := by decide +kernel
theorem dX5_jump_149 : decode cX5_jump 149 = .ok (.iload 4, 2) := by decide +kernel
theorem dX5_jump_151 : decode cX5_jump 151 = .ok (.iload 7, 2) := by decide +kernel
theorem dX5_jump_153 : decode cX5_jump 153 = .ok (.invokevirtual 157, 3) := by decide +kernel
theorem dX5_jump_156 : decode cX5_jump 156 = .ok (.iadd, 1) := by decide +kernel
theorem dX5_jump_157 : decode cX5_jump 157 = .ok (.iload 7, 2) := by decide +kernel
theorem dX5_jump_159 : decode cX5_jump 159 = .ok (.aload_n 0, 1) := by decide +kernel
theorem dX5_jump_160 : decode cX5_jump 160 = .ok (.getfield 28, 3) := by decide +kernel
theorem dX5_jump_163 : decode cX5_jump 163 = .ok (.getfield 161, 3) := by decide +kernel
theorem dX5_jump_166 : decode cX5_jump 166 = .ok (.invokevirtual 164, 3) := by decide +kernel
theorem dX5_jump_169 : decode cX5_jump 169 = .ok (.ireturn, 1) := by decide +kernel
set_option maxRecDepth 20000 in
theorem ggX5_told_X5_isOutside : GoodIn wsX5_told wsX5_isOutside := goodIn_r _ [8] (by decide +kernel) (by decide +kernel)
set_option maxRecDepth 20000 in
theorem gX5_told_X5_isOutside : GoodIn wsX5_told (va_wsS RX5 49 yX5_isOutside wsX5_isOutside) := goodIn_app (goodIn_of _ (by decide +kernel)) ggX5_told_X5_isOutside
set_option maxRecDepth 20000 in
theorem ggX5_told_X1_tell : GoodIn wsX5_told wsX1_tell := goodIn_r _ [13, 14, 15, 16, 17, 18, 25, 26, 27, 28, 29, 30] (by decide +kernel) (by decide +kernel)
set_option maxRecDepth 20000 in
theorem gX5_told_X1_tell : GoodIn wsX5_told (wsV RX5 172 RX1 yX1_tell wsX1_tell) := goodIn_app (goodIn_of _ (by decide +kernel)) ggX5_told_X1_tell
theorem dX5_told_0 : decode cX5_told 0 = .ok (.iload_n 1, 1) := by decide +kernel
theorem dX5_told_1 : decode cX5_told 1 = .ok (.iconst 0, 1) := by decide +kernel
theorem dX5_told_2 : decode cX5_told 2 = .ok (.aload_n 0, 1) := by decide +kernel
theorem dX5_told_3 : decode cX5_told 3 = .ok (.getfield 45, 3) := by decide +kernel
theorem dX5_told_6 : decode cX5_told 6 = .ok (.getfield 138, 3) := by decide +kernel
theorem dX5_told_9 : decode cX5_told 9 = .ok (.iconst 1, 1) := by decide +kernel
theorem dX5_told_10 : decode cX5_told 10 = .ok (.isub, 1) := by decide +kernel
theorem dX5_told_11 : decode cX5_told 11 = .ok (.invokestatic 49, 3) := by decide +kernel
theorem dX5_told_14 : decode cX5_told 14 = .ok (.ifCond .eq 13, 3) := by decide +kernel
theorem dX5_told_17 : decode cX5_told 17 = .ok (.new 53, 3) := by decide +kernel
theorem dX5_told_20 : decode cX5_told 20 = .ok (.dup, 1) := by decide +kernel
theorem dX5_told_21 : decode cX5_told 21 = .ok (.ldc 168, 2) := by decide +kernel
theorem dX5_told_23 : decode cX5_told 23 = .ok (.invokespecial 57, 3) := by decide +kernel
theorem dX5_told_26 : decode cX5_told 26 = .ok (.athrow, 1) := by decide +kernel
theorem dX5_told_27 : decode cX5_told 27 = .ok (.iload_n 2, 1) := by decide +kernel
theorem dX5_told_28 : decode cX5_told 28 = .ok (.iconst 0, 1) := by decide +kernel
theorem dX5_told_29 : decode cX5_told 29 = .ok (.iconst 4, 1) := by decide +kernel
theorem dX5_told_30 : decode cX5_told 30 = .ok (.invokestatic 49, 3) := by decide +kernel
theorem dX5_told_33 : decode cX5_told 33 = .ok (.ifCond .eq 13, 3) := by decide +kernel
theorem dX5_told_36 : decode cX5_told 36 = .ok (.new 53, 3) := by decide +kernel
theorem dX5_told_39 : decode cX5_told 39 = .ok (.dup, 1) := by decide +kernel
theorem dX5_told_40 : decode cX5_told 40 = .ok (.ldc 170, 2) := by decide +kernel
theorem dX5_told_42 : decode cX5_told 42 = .ok (.invokespecial 57, 3) := by decide +kernel
theorem dX5_told_45 : decode cX5_told 45 = .ok (.athrow, 1) := by decide +kernel
theorem dX5_told_46 : decode cX5_told 46 = .ok (.aload_n 0, 1) := by decide +kernel
theorem dX5_told_47 : decode cX5_told 47 = .ok (.getfield 45, 3) := by decide +kernel
theorem dX5_told_50 : decode cX5_told 50 = .ok (.iload_n 1, 1) := by decide +kernel
theorem dX5_told_51 : decode cX5_told 51 = .ok (.iload_n 2, 1) := by decide +kernel
theorem dX5_told_52 : decode cX5_told 52 = .ok (.invokevirtual 172, 3) := by decide +kernel
theorem dX5_told_55 : decode cX5_told 55 = .ok (.ireturn, 1) := by decide +kernel
set_option maxRecDepth 20000 in
theorem ggX5_score_X5_isOutside : GoodIn wsX5_score wsX5_isOutside := goodIn_r _ [7] (by decide +kernel) (by decide +kernel)
set_option maxRecDepth 20000 in
theorem gX5_score_X5_isOutside : GoodIn wsX5_score (va_wsS RX5 49 yX5_isOutside wsX5_isOutside) := goodIn_app (goodIn_of _ (by decide +kernel)) ggX5_score_X5_isOutside
set_option maxRecDepth 20000 in
theorem ggX5_score_X1_bestTwo : GoodIn wsX5_score wsX1_bestTwo := goodIn_r _ [12, 13, 14, 15, 16, 17, 18, 19, 20, 21, 22, 29, 30, 31, 32, 33, 34] (by decide +kernel) (by decide +kernel)
set_option maxRecDepth 20000 in
theorem gX5_score_X1_bestTwo : GoodIn wsX5_score (wsV RX5 175 RX1 yX1_bestTwo wsX1_bestTwo) := goodIn_app (goodIn_of _ (by decide +kernel)) ggX5_score_X1_bestTwo
theorem dX5_score_0 : decode cX5_score 0 = .ok (.iload_n 1, 1) := by decide +kernel
theorem dX5_score_1 : decode cX5_score 1 = .ok (.iconst 0, 1) := by decide +kernel
theorem dX5_score_2 : decode cX5_score 2 = .ok (.bipush 9, 2) := by decide +kernel
theorem dX5_score_4 : decode cX5_score 4 = .ok (.invokestatic 49, 3) := by decide +kernel
theorem dX5_score_7 : decode cX5_score 7 = .ok (.ifCond .eq 13, 3) := by decide +kernel
theorem dX5_score_10 : decode cX5_score 10 = .ok (.new 53, 3) := by decide +kernel
theorem dX5_score_13 : decode cX5_score 13 = .ok (.dup, 1) := by decide +kernel
theorem dX5_score_14 : decode cX5_score 14 = .ok (.ldc 132, 2) := by decide +kernel
theorem dX5_score_16 : decode cX5_score 16 = .ok (.invokespecial 57, 3) := by decide +kernel
theorem dX5_score_19 : decode cX5_score 19 = .ok (.athrow, 1) := by decide +kernel
theorem dX5_score_20 : decode cX5_score 20 = .ok (.aload_n 0, 1) := by decide +kernel
theorem dX5_score_21 : decode cX5_score 21 = .ok (.getfield 45, 3) := by decide +kernel
theorem dX5_score_24 : decode cX5_score 24 = .ok (.iload_n 1, 1) := by decide +kernel
theorem dX5_score_25 : decode cX5_score 25 = .ok (.invokevirtual 175, 3) := by decide +kernel
theorem dX5_score_28 : decode cX5_score 28 = .ok (.ireturn, 1) := by decide +kernel
set_option maxRecDepth 20000 in
theorem ggX5_leader_X1_bestTwo : GoodIn wsX5_leader wsX1_bestTwo := goodIn_r _ [7, 8, 9, 10, 11, 12, 13, 14, 15, 16, 17, 24, 25, 26, 27, 28, 29] (by decide +kernel) (by decide +kernel)
set_option maxRecDepth 20000 in
theorem gX5_leader_X1_bestTwo : GoodIn wsX5_leader (wsV RX5 175 RX1 yX1_bestTwo wsX1_bestTwo) := goodIn_app (goodIn_of _ (by decide +kernel)) ggX5_leader_X1_bestTwo
theorem dX5_leader_0 : decode cX5_leader 0 = .ok (.aload_n 0, 1) := by decide +kernel
theorem dX5_leader_1 : decode cX5_leader 1 = .ok (.getfield 45, 3) := by decide +kernel
theorem dX5_leader_4 : decode cX5_leader 4 = .ok (.getfield 138, 3) := by decide +kernel
theorem dX5_leader_7 : decode cX5_leader 7 = .ok (.ifCond .ne 5, 3) := by decide +kernel
theorem dX5_leader_10 : decode cX5_leader 10 = .ok (.iconst (-1), 1) := by decide +kernel
theorem dX5_leader_11 : decode cX5_leader 11 = .ok (.ireturn, 1) := by decide +kernel
theorem dX5_leader_12 : decode cX5_leader 12 = .ok (.iconst 0, 1) := by decide +kernel
theorem dX5_leader_13 : decode cX5_leader 13 = .ok (.istore_n 1, 1) := by decide +kernel
theorem dX5_leader_14 : decode cX5_leader 14 = .ok (.aload_n 0, 1) := by decide +kernel
theorem dX5_leader_15 : decode cX5_leader 15 = .ok (.getfield 45, 3) := by decide +kernel
theorem dX5_leader_18 : decode cX5_leader 18 = .ok (.iconst 0, 1) := by decide +kernel
theorem dX5_leader_19 : decode cX5_leader 19 = .ok (.invokevirtual 175, 3) := by decide +kernel
theorem dX5_leader_22 : decode cX5_leader 22 = .ok (.istore_n 2, 1) := by decide +kernel
theorem dX5_leader_23 : decode cX5_leader 23 = .ok (.iconst 1, 1) := by decide +kernel
theorem dX5_leader_24 : decode cX5_leader 24 = .ok (.istore_n 3, 1) := by decide +kernel
theorem dX5_leader_25 : decode cX5_leader 25 = .ok (.iload_n 3, 1) := by decide +kernel
theorem dX5_leader_26 : decode cX5_leader 26 = .ok (.bipush 10, 2) := by decide +kernel
theorem dX5_leader_28 : decode cX5_leader 28 = .ok (.if_icmp .ge 30, 3) := by decide +kernel
theorem dX5_leader_31 : decode cX5_leader 31 = .ok (.aload_n 0, 1) := by decide +kernel
theorem dX5_leader_32 : decode cX5_leader 32 = .ok (.getfield 45, 3) := by decide +kernel
theorem dX5_leader_35 : decode cX5_leader 35 = .ok (.iload_n 3, 1) := by decide +kernel
theorem dX5_leader_36 : decode cX5_leader 36 = .ok (.invokevirtual 175, 3) := by decide +kernel
theorem dX5_leader_39 : decode cX5_leader 39 = .ok (.istore 4, 2) := by decide +kernel
theorem dX5_leader_41 : decode cX5_leader 41 = .ok (.iload 4, 2) := by decide +kernel
theorem dX5_leader_43 : decode cX5_leader 43 = .ok (.iload_n 2, 1) := by decide +kernel
theorem dX5_leader_44 : decode cX5_leader 44 = .ok (.if_icmp .le 8, 3) := by decide +kernel
theorem dX5_leader_47 : decode cX5_leader 47 = .ok (.iload 4, 2) := by decide +kernel
theorem dX5_leader_49 : decode cX5_leader 49 = .ok (.istore_n 2, 1) := by decide +kernel
theorem dX5_leader_50 : decode cX5_leader 50 = .ok (.iload_n 3, 1) := by decide +kernel
theorem dX5_leader_51 : decode cX5_leader 51 = .ok (.istore_n 1, 1) := by decide +kernel
theorem dX5_leader_52 : decode cX5_leader 52 = .ok (.iinc 3 1, 3) := by decide +kernel
theorem dX5_leader_55 : decode cX5_leader 55 = .ok (.goto (-30), 3) := by decide +kernel
theorem dX5_leader_58 : decode cX5_leader 58 = .ok (.iload_n 1, 1) := by decide +kernel
theorem dX5_leader_59 : decode cX5_leader 59 = .ok (.ireturn, 1) := by decide +kernel
set_option maxRecDepth 20000 in
theorem ggX5_part_X5_isOutside : GoodIn wsX5_part wsX5_isOutside := goodIn_r _ [6] (by decide +kernel) (by decide +kernel)
set_option maxRecDepth 20000 in
theorem gX5_part_X5_isOutside : GoodIn wsX5_part (va_wsS RX5 49 yX5_isOutside wsX5_isOutside) := goodIn_app (goodIn_of _ (by decide +kernel)) ggX5_part_X5_isOutside
set_option maxRecDepth 20000 in
theorem ggX5_part_X5_tellPart : GoodIn wsX5_part wsX5_tellPart := goodIn_r _ [10, 11, 12, 13, 14, 15, 16, 17, 18, 19, 20, 21, 22, 23, 24, 25, 26, 27, 28, 29, 30, 31, 32, 33, 34, 35, 36, 37, 38, 39, 40, 41, 42, 43, 44] (by decide +kernel) (by decide +kernel)
set_option maxRecDepth 20000 in
theorem gX5_part_X5_tellPart : GoodIn wsX5_part (wsV RX5 180 RX5 yX5_tellPart wsX5_tellPart) := goodIn_app (goodIn_of _ (by decide +kernel)) ggX5_part_X5_tellPart
theorem dX5_part_0 : decode cX5_part 0 = .ok (.iload_n 1, 1) := by decide +kernel
theorem dX5_part_1 : decode cX5_part 1 = .ok (.iconst 0, 1) := by decide +kernel
theorem dX5_part_2 : decode cX5_part 2 = .ok (.bipush 19, 2) := by decide +kernel
theorem dX5_part_4 : decode cX5_part 4 = .ok (.invokestatic 49, 3) := by decide +kernel
theorem dX5_part_7 : decode cX5_part 7 = .ok (.ifCond .eq 13, 3) := by decide +kernel
theorem dX5_part_10 : decode cX5_part 10 = .ok (.new 53, 3) := by decide +kernel
theorem dX5_part_13 : decode cX5_part 13 = .ok (.dup, 1) := by decide +kernel
theorem dX5_part_14 : decode cX5_part 14 = .ok (.ldc 83, 2) := by decide +kernel
theorem dX5_part_16 : decode cX5_part 16 = .ok (.invokespecial 57, 3) := by decide +kernel
theorem dX5_part_19 : decode cX5_part 19 = .ok (.athrow, 1) := by decide +kernel
theorem dX5_part_20 : decode cX5_part 20 = .ok (.iload_n 2, 1) := by decide +kernel
theorem dX5_part_21 : decode cX5_part 21 = .ok (.iconst 0, 1) := by decide +kernel
theorem dX5_part_22 : decode cX5_part 22 = .ok (.iconst 3, 1) := by decide +kernel
theorem dX5_part_23 : decode cX5_part 23 = .ok (.invokestatic 49, 3) := by decide +kernel
theorem dX5_part_26 : decode cX5_part 26 = .ok (.ifCond .eq 13, 3) := by decide +kernel
theorem dX5_part_29 : decode cX5_part 29 = .ok (.new 53, 3) := by decide +kernel
theorem dX5_part_32 : decode cX5_part 32 = .ok (.dup, 1) := by decide +kernel
theorem dX5_part_33 : decode cX5_part 33 = .ok (.ldc 178, 2) := by decide +kernel
theorem dX5_part_35 : decode cX5_part 35 = .ok (.invokespecial 57, 3) := by decide +kernel
theorem dX5_part_38 : decode cX5_part 38 = .ok (.athrow, 1) := by decide +kernel
theorem dX5_part_39 : decode cX5_part 39 = .ok (.aload_n 0, 1) := by decide +kernel
theorem dX5_part_40 : decode cX5_part 40 = .ok (.iload_n 1, 1) := by decide +kernel
theorem dX5_part_41 : decode cX5_part 41 = .ok (.iload_n 2, 1) := by decide +kernel
theorem dX5_part_42 : decode cX5_part 42 = .ok (.invokevirtual 180, 3) := by decide +kernel
theorem dX5_part_45 : decode cX5_part 45 = .ok (.ireturn, 1) := by decide +kernel
set_option maxRecDepth 20000 in
theorem ggX5_count_X5_isOutside : GoodIn wsX5_count wsX5_isOutside := goodIn_r _ [6] (by decide +kernel) (by decide +kernel)
set_option maxRecDepth 20000 in
theorem gX5_count_X5_isOutside : GoodIn wsX5_count (va_wsS RX5 49 yX5_isOutside wsX5_isOutside) := goodIn_app (goodIn_of _ (by decide +kernel)) ggX5_count_X5_isOutside
set_option maxRecDepth 20000 in
theorem ggX5_count_X5_tellCount : GoodIn wsX5_count wsX5_tellCount := goodIn_r _ [10, 11, 12, 13, 14, 15, 16, 17, 18, 19, 20, 21, 22, 23, 24, 25, 26, 27, 28, 29, 30, 31, 32, 33, 34, 35, 36, 37, 38, 39, 40, 41, 42, 43, 44, 45, 46, 47, 5, 48, 49, 50, 51, 52, 53, 54, 55, 56, 57, 58, 59, 60, 61, 62, 63, 64, 65, 66, 67, 68, 69, 70, 71, 72, 73, 74, 75, 76, 77, 78, 79, 80, 81, 82, 83, 84] (by decide +kernel) (by decide +kernel)
set_option maxRecDepth 20000 in
theorem gX5_count_X5_tellCount : GoodIn wsX5_count (wsV RX5 185 RX5 yX5_tellCount wsX5_tellCount) := goodIn_app (goodIn_of _ (by decide +kernel)) ggX5_count_X5_tellCount
theorem dX5_count_0 : decode cX5_count 0 = .ok (.iload_n 1, 1) := by decide +kernel
theorem dX5_count_1 : decode cX5_count 1 = .ok (.iconst 0, 1) := by decide +kernel
theorem dX5_count_2 : decode cX5_count 2 = .ok (.bipush 10, 2) := by decide +kernel
theorem dX5_count_4 : decode cX5_count 4 = .ok (.invokestatic 49, 3) := by decide +kernel
theorem dX5_count_7 : decode cX5_count 7 = .ok (.ifCond .eq 13, 3) := by decide +kernel
theorem dX5_count_10 : decode cX5_count 10 = .ok (.new 53, 3) := by decide +kernel
theorem dX5_count_13 : decode cX5_count 13 = .ok (.dup, 1) := by decide +kernel
theorem dX5_count_14 : decode cX5_count 14 = .ok (.ldc 183, 2) := by decide +kernel
theorem dX5_count_16 : decode cX5_count 16 = .ok (.invokespecial 57, 3) := by decide +kernel
theorem dX5_count_19 : decode cX5_count 19 = .ok (.athrow, 1) := by decide +kernel
theorem dX5_count_20 : decode cX5_count 20 = .ok (.aload_n 0, 1) := by decide +kernel
theorem dX5_count_21 : decode cX5_count 21 = .ok (.iload_n 1, 1) := by decide +kernel
theorem dX5_count_22 : decode cX5_count 22 = .ok (.invokevirtual 185, 3) := by decide +kernel
theorem dX5_count_25 : decode cX5_count 25 = .ok (.ireturn, 1) := by decide +kernel
set_option maxRecDepth 20000 in
theorem ggX5_pass_X5_isOutside : GoodIn wsX5_pass wsX5_isOutside := goodIn_r _ [7] (by decide +kernel) (by decide +kernel)
set_option maxRecDepth 20000 in
theorem gX5_pass_X5_isOutside : GoodIn wsX5_pass (va_wsS RX5 49 yX5_isOutside wsX5_isOutside) := goodIn_app (goodIn_of _ (by decide +kernel)) ggX5_pass_X5_isOutside
set_option maxRecDepth 20000 in
theorem ggX5_pass_X0_allSnow : GoodIn wsX5_pass wsX0_allSnow := goodIn_r _ [12, 13, 14, 6, 15, 81, 82, 83, 84, 85, 86, 87] (by decide +kernel) (by decide +kernel)
set_option maxRecDepth 20000 in
theorem gX5_pass_X0_allSnow : GoodIn wsX5_pass (wsV RX5 190 RX0 yX0_allSnow wsX0_allSnow) := goodIn_app (goodIn_of _ (by decide +kernel)) ggX5_pass_X0_allSnow
set_option maxRecDepth 20000 in
theorem ggX5_pass_X0_letHoursGoBy : GoodIn wsX5_pass wsX0_letHoursGoBy := goodIn_r _ [19, 20, 21, 22, 11, 23, 24, 25, 26, 27, 28, 29, 30, 31, 32, 33, 34, 35, 36, 37, 38, 39, 40, 41, 42, 43, 44, 45, 46, 47, 48, 49, 50, 51, 52, 53, 54, 55, 56, 57, 58, 59, 5, 6, 7, 60, 61, 62, 63, 13, 64, 65, 66, 67, 68, 69, 70, 71, 72, 73, 74, 81, 82, 83, 84, 85, 86, 87, 88, 89, 90, 91, 92, 93] (by decide +kernel) (by decide +kernel)
set_option maxRecDepth 20000 in
theorem gX5_pass_X0_letHoursGoBy : GoodIn wsX5_pass (wsV RX5 193 RX0 yX0_letHoursGoBy wsX0_letHoursGoBy) := goodIn_app (goodIn_of _ (by decide +kernel)) ggX5_pass_X0_letHoursGoBy
theorem dX5_pass_0 : decode cX5_pass 0 = .ok (.iload_n 1, 1) := by decide +kernel
theorem dX5_pass_1 : decode cX5_pass 1 = .ok (.iconst 1, 1) := by decide +kernel
theorem dX5_pass_2 : decode cX5_pass 2 = .ok (.bipush 96, 2) := by decide +kernel
theorem dX5_pass_4 : decode cX5_pass 4 = .ok (.invokestatic 49, 3) := by decide +kernel
theorem dX5_pass_7 : decode cX5_pass 7 = .ok (.ifCond .eq 13, 3) := by decide +kernel
theorem dX5_pass_10 : decode cX5_pass 10 = .ok (.new 60, 3) := by decide +kernel
theorem dX5_pass_13 : decode cX5_pass 13 = .ok (.dup, 1) := by decide +kernel
theorem dX5_pass_14 : decode cX5_pass 14 = .ok (.ldc 188, 2) := by decide +kernel
theorem dX5_pass_16 : decode cX5_pass 16 = .ok (.invokespecial 64, 3) := by decide +kernel
theorem dX5_pass_19 : decode cX5_pass 19 = .ok (.athrow, 1) := by decide +kernel
theorem dX5_pass_20 : decode cX5_pass 20 = .ok (.aload_n 0, 1) := by decide +kernel
theorem dX5_pass_21 : decode cX5_pass 21 = .ok (.getfield 28, 3) := by decide +kernel
theorem dX5_pass_24 : decode cX5_pass 24 = .ok (.invokevirtual 190, 3) := by decide +kernel
theorem dX5_pass_27 : decode cX5_pass 27 = .ok (.istore_n 2, 1) := by decide +kernel
theorem dX5_pass_28 : decode cX5_pass 28 = .ok (.aload_n 0, 1) := by decide +kernel
theorem dX5_pass_29 : decode cX5_pass 29 = .ok (.getfield 28, 3) := by decide +kernel
theorem dX5_pass_32 : decode cX5_pass 32 = .ok (.iload_n 1, 1) := by decide +kernel
theorem dX5_pass_33 : decode cX5_pass 33 = .ok (.invokevirtual 193, 3) := by decide +kernel
theorem dX5_pass_36 : decode cX5_pass 36 = .ok (.aload_n 0, 1) := by decide +kernel
theorem dX5_pass_37 : decode cX5_pass 37 = .ok (.getfield 28, 3) := by decide +kernel
theorem dX5_pass_40 : decode cX5_pass 40 = .ok (.invokevirtual 190, 3) := by decide +kernel
theorem dX5_pass_43 : decode cX5_pass 43 = .ok (.iload_n 2, 1) := by decide +kernel
theorem dX5_pass_44 : decode cX5_pass 44 = .ok (.isub, 1) := by decide +kernel
theorem dX5_pass_45 : decode cX5_pass 45 = .ok (.ireturn, 1) := by decide +kernel
set_option maxRecDepth 20000 in
theorem ggX5_enough_X5_isOutside : GoodIn wsX5_enough wsX5_isOutside := goodIn_r _ [11] (by decide +kernel) (by decide +kernel)
set_option maxRecDepth 20000 in
theorem gX5_enough_X5_isOutside : GoodIn wsX5_enough (va_wsS RX5 49 yX5_isOutside wsX5_isOutside) := goodIn_app (goodIn_of _ (by decide +kernel)) ggX5_enough_X5_isOutside
set_option maxRecDepth 20000 in
theorem ggX5_enough_X0_becomeLike : GoodIn wsX5_enough wsX0_becomeLike := goodIn_r _ [16, 17, 18, 19, 20, 21, 79, 80, 81, 82, 83, 84, 85] (by decide +kernel) (by decide +kernel)
set_option maxRecDepth 20000 in
theorem gX5_enough_X0_becomeLike : GoodIn wsX5_enough (wsV RX5 199 RX0 yX0_becomeLike wsX0_becomeLike) := goodIn_app (goodIn_of _ (by decide +kernel)) ggX5_enough_X0_becomeLike
set_option maxRecDepth 20000 in
theorem ggX5_enough_X0_letHourGoBy : GoodIn wsX5_enough wsX0_letHourGoBy := goodIn_r _ [25, 26, 27, 19, 28, 29, 30, 21, 31, 32, 33, 15, 34, 35, 36, 37, 38, 39, 40, 41, 42, 43, 44, 45, 46, 47, 48, 49, 20, 50, 51, 52, 53, 54, 55, 56, 57, 18, 9, 10, 11, 58, 59, 60, 61, 17, 62, 63, 64, 65, 66, 67, 68, 69, 70, 71, 72, 79, 80, 81, 82, 83, 84, 85, 86, 87, 88, 89, 90, 91] (by decide +kernel) (by decide +kernel)
set_option maxRecDepth 20000 in
theorem gX5_enough_X0_letHourGoBy : GoodIn wsX5_enough (wsV RX5 206 RX0 yX0_letHourGoBy wsX0_letHourGoBy) := goodIn_app (goodIn_of _ (by decide +kernel)) ggX5_enough_X0_letHourGoBy
theorem dX5_enough_0 : decode cX5_enough 0 = .ok (.iload_n 1, 1) := by decide +kernel
theorem dX5_enough_1 : decode cX5_enough 1 = .ok (.iconst 0, 1) := by decide +kernel
theorem dX5_enough_2 : decode cX5_enough 2 = .ok (.bipush 19, 2) := by decide +kernel
theorem dX5_enough_4 : decode cX5_enough 4 = .ok (.invokestatic 49, 3) := by decide +kernel
theorem dX5_enough_7 : decode cX5_enough 7 = .ok (.ifCond .eq 13, 3) := by decide +kernel
theorem dX5_enough_10 : decode cX5_enough 10 = .ok (.new 53, 3) := by decide +kernel
theorem dX5_enough_13 : decode cX5_enough 13 = .ok (.dup, 1) := by decide +kernel
theorem dX5_enough_14 : decode cX5_enough 14 = .ok (.ldc 83, 2) := by decide +kernel
theorem dX5_enough_16 : decode cX5_enough 16 = .ok (.invokespecial 57, 3) := by decide +kernel
theorem dX5_enough_19 : decode cX5_enough 19 = .ok (.athrow, 1) := by decide +kernel
theorem dX5_enough_20 : decode cX5_enough 20 = .ok (.iload_n 2, 1) := by decide +kernel
theorem dX5_enough_21 : decode cX5_enough 21 = .ok (.iconst 1, 1) := by decide +kernel
theorem dX5_enough_22 : decode cX5_enough 22 = .ok (.sipush 300, 3) := by decide +kernel
theorem dX5_enough_25 : decode cX5_enough 25 = .ok (.invokestatic 49, 3) := by decide +kernel
theorem dX5_enough_28 : decode cX5_enough 28 = .ok (.ifCond .eq 13, 3) := by decide +kernel
theorem dX5_enough_31 : decode cX5_enough 31 = .ok (.new 60, 3) := by decide +kernel
theorem dX5_enough_34 : decode cX5_enough 34 = .ok (.dup, 1) := by decide +kernel
theorem dX5_enough_35 : decode cX5_enough 35 = .ok (.ldc 197, 2) := by decide +kernel
theorem dX5_enough_37 : decode cX5_enough 37 = .ok (.invokespecial 64, 3) := by decide +kernel
theorem dX5_enough_40 : decode cX5_enough 40 = .ok (.athrow, 1) := by decide +kernel
theorem dX5_enough_41 : decode cX5_enough 41 = .ok (.aload_n 0, 1) := by decide +kernel
theorem dX5_enough_42 : decode cX5_enough 42 = .ok (.getfield 32, 3) := by decide +kernel
theorem dX5_enough_45 : decode cX5_enough 45 = .ok (.aload_n 0, 1) := by decide +kernel
theorem dX5_enough_46 : decode cX5_enough 46 = .ok (.getfield 28, 3) := by decide +kernel
theorem dX5_enough_49 : decode cX5_enough 49 = .ok (.invokevirtual 199, 3) := by decide +kernel
theorem dX5_enough_52 : decode cX5_enough 52 = .ok (.iconst 0, 1) := by decide +kernel
theorem dX5_enough_53 : decode cX5_enough 53 = .ok (.istore_n 3, 1) := by decide +kernel
theorem dX5_enough_54 : decode cX5_enough 54 = .ok (.iload_n 3, 1) := by decide +kernel
theorem dX5_enough_55 : decode cX5_enough 55 = .ok (.sipush 240, 3) := by decide +kernel
theorem dX5_enough_58 : decode cX5_enough 58 = .ok (.if_icmp .gt 31, 3) := by decide +kernel
theorem dX5_enough_61 : decode cX5_enough 61 = .ok (.aload_n 0, 1) := by decide +kernel
theorem dX5_enough_62 : decode cX5_enough 62 = .ok (.getfield 32, 3) := by decide +kernel
theorem dX5_enough_65 : decode cX5_enough 65 = .ok (.getfield 203, 3) := by decide +kernel
theorem dX5_enough_68 : decode cX5_enough 68 = .ok (.iload_n 1, 1) := by decide +kernel
theorem dX5_enough_69 : decode cX5_enough 69 = .ok (.iaload, 1) := by decide +kernel
theorem dX5_enough_70 : decode cX5_enough 70 = .ok (.iload_n 2, 1) := by decide +kernel
theorem dX5_enough_71 : decode cX5_enough 71 = .ok (.if_icmp .lt 5, 3) := by decide +kernel
theorem dX5_enough_74 : decode cX5_enough 74 = .ok (.iload_n 3, 1) := by decide +kernel
theorem dX5_enough_75 : decode cX5_enough 75 = .ok (.ireturn, 1) := by decide +kernel
theorem dX5_enough_76 : decode cX5_enough 76 = .ok (.aload_n 0, 1) := by decide +kernel
theorem dX5_enough_77 : decode cX5_enough 77 = .ok (.getfield 32, 3) := by decide +kernel
theorem dX5_enough_80 : decode cX5_enough 80 = .ok (.invokevirtual 206, 3) := by decide +kernel
theorem dX5_enough_83 : decode cX5_enough 83 = .ok (.iinc 3 1, 3) := by decide +kernel
theorem dX5_enough_86 : decode cX5_enough 86 = .ok (.goto (-32), 3) := by decide +kernel
theorem dX5_enough_89 : decode cX5_enough 89 = .ok (.iconst (-1), 1) := by decide +kernel
theorem dX5_enough_90 : decode cX5_enough 90 = .ok (.ireturn, 1) := by decide +kernel
set_option maxRecDepth 20000 in
theorem ggX5_foresee_X5_isOutside : GoodIn wsX5_foresee wsX5_isOutside := goodIn_r _ [11] (by decide +kernel) (by decide +kernel)
set_option maxRecDepth 20000 in
theorem gX5_foresee_X5_isOutside : GoodIn wsX5_foresee (va_wsS RX5 49 yX5_isOutside wsX5_isOutside) := goodIn_app (goodIn_of _ (by decide +kernel)) ggX5_foresee_X5_isOutside
set_option maxRecDepth 20000 in
theorem ggX5_foresee_X0_becomeLike : GoodIn wsX5_foresee wsX0_becomeLike := goodIn_r _ [16, 17, 18, 19, 20, 21, 93, 94, 95, 96, 97, 98, 99] (by decide +kernel) (by decide +kernel)
set_option maxRecDepth 20000 in
theorem gX5_foresee_X0_becomeLike : GoodIn wsX5_foresee (wsV RX5 199 RX0 yX0_becomeLike wsX0_becomeLike) := goodIn_app (goodIn_of _ (by decide +kernel)) ggX5_foresee_X0_becomeLike
set_option maxRecDepth 20000 in
theorem ggX5_foresee_X0_letHoursGoBy : GoodIn wsX5_foresee wsX0_letHoursGoBy := goodIn_r _ [25, 26, 27, 28, 15, 29, 30, 31, 19, 32, 33, 34, 21, 35, 36, 37, 38, 39, 40, 41, 42, 43, 44, 45, 46, 47, 48, 49, 50, 51, 52, 53, 20, 54, 55, 56, 57, 58, 59, 60, 61, 18, 9, 10, 11, 62, 63, 64, 65, 17, 66, 67, 68, 69, 70, 71, 72, 73, 74, 75, 76, 93, 94, 95, 96, 97, 98, 99, 100, 101, 102, 103, 104, 105] (by decide +kernel) (by decide +kernel)
set_option maxRecDepth 20000 in
theorem gX5_foresee_X0_letHoursGoBy : GoodIn wsX5_foresee (wsV RX5 193 RX0 yX0_letHoursGoBy wsX0_letHoursGoBy) := goodIn_app (goodIn_of _ (by decide +kernel)) ggX5_foresee_X0_letHoursGoBy
set_option maxRecDepth 20000 in
theorem ggX5_foresee_X0_allSnow : GoodIn wsX5_foresee wsX0_allSnow := goodIn_r _ [80, 17, 81, 10, 82, 93, 94, 95, 96, 97, 98, 99] (by decide +kernel) (by decide +kernel)
set_option maxRecDepth 20000 in
theorem gX5_foresee_X0_allSnow : GoodIn wsX5_foresee (wsV RX5 190 RX0 yX0_allSnow wsX0_allSnow) := goodIn_app (goodIn_of _ (by decide +kernel)) ggX5_foresee_X0_allSnow
set_option maxRecDepth 20000 in
theorem ggX5_foresee_X0_allIce : GoodIn wsX5_foresee wsX0_allIce := goodIn_r _ [86, 18, 81, 10, 82, 93, 94, 95, 96, 97, 98, 99] (by decide +kernel) (by decide +kernel)
set_option maxRecDepth 20000 in
theorem gX5_foresee_X0_allIce : GoodIn wsX5_foresee (wsV RX5 211 RX0 yX0_allIce wsX0_allIce) := goodIn_app (goodIn_of _ (by decide +kernel)) ggX5_foresee_X0_allIce
theorem dX5_foresee_0 : decode cX5_foresee 0 = .ok (.iload_n 1, 1) := by decide +kernel
theorem dX5_foresee_1 : decode cX5_foresee 1 = .ok (.iconst 1, 1) := by decide +kernel
theorem dX5_foresee_2 : decode cX5_foresee 2 = .ok (.bipush 96, 2) := by decide +kernel
theorem dX5_foresee_4 : decode cX5_foresee 4 = .ok (.invokestatic 49, 3) := by decide +kernel
theorem dX5_foresee_7 : decode cX5_foresee 7 = .ok (.ifCond .eq 13, 3) := by decide +kernel
theorem dX5_foresee_10 : decode cX5_foresee 10 = .ok (.new 60, 3) := by decide +kernel
theorem dX5_foresee_13 : decode cX5_foresee 13 = .ok (.dup, 1) := by decide +kernel
theorem dX5_foresee_14 : decode cX5_foresee 14 = .ok (.ldc 188, 2) := by decide +kernel
theorem dX5_foresee_16 : decode cX5_foresee 16 = .ok (.invokespecial 64, 3) := by decide +kernel
