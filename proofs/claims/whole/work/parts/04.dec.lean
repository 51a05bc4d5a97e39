theorem dX5_digest_0 : decode cX5_digest 0 = .ok (.ldc2_w 220, 3) := by decide +kernel
theorem dX5_digest_3 : decode cX5_digest 3 = .ok (.lstore_n 1, 1) := by decide +kernel
theorem dX5_digest_4 : decode cX5_digest 4 = .ok (.iconst 0, 1) := by decide +kernel
theorem dX5_digest_5 : decode cX5_digest 5 = .ok (.istore_n 3, 1) := by decide +kernel
theorem dX5_digest_6 : decode cX5_digest 6 = .ok (.iload_n 3, 1) := by decide +kernel
theorem dX5_digest_7 : decode cX5_digest 7 = .ok (.bipush 11, 2) := by decide +kernel
theorem dX5_digest_9 : decode cX5_digest 9 = .ok (.if_icmp .ge 22, 3) := by decide +kernel
theorem dX5_digest_12 : decode cX5_digest 12 = .ok (.lload_n 1, 1) := by decide +kernel
theorem dX5_digest_13 : decode cX5_digest 13 = .ok (.ldc2_w 222, 3) := by decide +kernel
theorem dX5_digest_16 : decode cX5_digest 16 = .ok (.lmul, 1) := by decide +kernel
theorem dX5_digest_17 : decode cX5_digest 17 = .ok (.aload_n 0, 1) := by decide +kernel
theorem dX5_digest_18 : decode cX5_digest 18 = .ok (.iload_n 3, 1) := by decide +kernel
theorem dX5_digest_19 : decode cX5_digest 19 = .ok (.invokevirtual 185, 3) := by decide +kernel
theorem dX5_digest_22 : decode cX5_digest 22 = .ok (.i2l, 1) := by decide +kernel
theorem dX5_digest_23 : decode cX5_digest 23 = .ok (.ladd, 1) := by decide +kernel
theorem dX5_digest_24 : decode cX5_digest 24 = .ok (.lstore_n 1, 1) := by decide +kernel
theorem dX5_digest_25 : decode cX5_digest 25 = .ok (.iinc 3 1, 3) := by decide +kernel
theorem dX5_digest_28 : decode cX5_digest 28 = .ok (.goto (-22), 3) := by decide +kernel
theorem dX5_digest_31 : decode cX5_digest 31 = .ok (.iconst 0, 1) := by decide +kernel
theorem dX5_digest_32 : decode cX5_digest 32 = .ok (.istore_n 3, 1) := by decide +kernel
theorem dX5_digest_33 : decode cX5_digest 33 = .ok (.iload_n 3, 1) := by decide +kernel
theorem dX5_digest_34 : decode cX5_digest 34 = .ok (.bipush 20, 2) := by decide +kernel
theorem dX5_digest_36 : decode cX5_digest 36 = .ok (.if_icmp .ge 39, 3) := by decide +kernel
theorem dX5_digest_39 : decode cX5_digest 39 = .ok (.iconst 0, 1) := by decide +kernel
theorem dX5_digest_40 : decode cX5_digest 40 = .ok (.istore 4, 2) := by decide +kernel
theorem dX5_digest_42 : decode cX5_digest 42 = .ok (.iload 4, 2) := by decide +kernel
theorem dX5_digest_44 : decode cX5_digest 44 = .ok (.iconst 4, 1) := by decide +kernel
theorem dX5_digest_45 : decode cX5_digest 45 = .ok (.if_icmp .ge 24, 3) := by decide +kernel
theorem dX5_digest_48 : decode cX5_digest 48 = .ok (.lload_n 1, 1) := by decide +kernel
theorem dX5_digest_49 : decode cX5_digest 49 = .ok (.ldc2_w 222, 3) := by decide +kernel
theorem dX5_digest_52 : decode cX5_digest 52 = .ok (.lmul, 1) := by decide +kernel
theorem dX5_digest_53 : decode cX5_digest 53 = .ok (.aload_n 0, 1) := by decide +kernel
theorem dX5_digest_54 : decode cX5_digest 54 = .ok (.iload_n 3, 1) := by decide +kernel
theorem dX5_digest_55 : decode cX5_digest 55 = .ok (.iload 4, 2) := by decide +kernel
theorem dX5_digest_57 : decode cX5_digest 57 = .ok (.invokevirtual 180, 3) := by decide +kernel
theorem dX5_digest_60 : decode cX5_digest 60 = .ok (.i2l, 1) := by decide +kernel
theorem dX5_digest_61 : decode cX5_digest 61 = .ok (.ladd, 1) := by decide +kernel
theorem dX5_digest_62 : decode cX5_digest 62 = .ok (.lstore_n 1, 1) := by decide +kernel
theorem dX5_digest_63 : decode cX5_digest 63 = .ok (.iinc 4 1, 3) := by decide +kernel
theorem dX5_digest_66 : decode cX5_digest 66 = .ok (.goto (-24), 3) := by decide +kernel
theorem dX5_digest_69 : decode cX5_digest 69 = .ok (.iinc 3 1, 3) := by decide +kernel
theorem dX5_digest_72 : decode cX5_digest 72 = .ok (.goto (-39), 3) := by decide +kernel
theorem dX5_digest_75 : decode cX5_digest 75 = .ok (.aload_n 0, 1) := by decide +kernel
theorem dX5_digest_76 : decode cX5_digest 76 = .ok (.getfield 10, 3) := by decide +kernel
theorem dX5_digest_79 : decode cX5_digest 79 = .ok (.lload_n 1, 1) := by decide +kernel
theorem dX5_digest_80 : decode cX5_digest 80 = .ok (.invokevirtual 224, 3) := by decide +kernel
theorem dX5_digest_83 : decode cX5_digest 83 = .ok (.lstore_n 1, 1) := by decide +kernel
theorem dX5_digest_84 : decode cX5_digest 84 = .ok (.aload_n 0, 1) := by decide +kernel
theorem dX5_digest_85 : decode cX5_digest 85 = .ok (.getfield 38, 3) := by decide +kernel
theorem dX5_digest_88 : decode cX5_digest 88 = .ok (.lload_n 1, 1) := by decide +kernel
theorem dX5_digest_89 : decode cX5_digest 89 = .ok (.invokevirtual 228, 3) := by decide +kernel
theorem dX5_digest_92 : decode cX5_digest 92 = .ok (.lstore_n 1, 1) := by decide +kernel
theorem dX5_digest_93 : decode cX5_digest 93 = .ok (.aload_n 0, 1) := by decide +kernel
theorem dX5_digest_94 : decode cX5_digest 94 = .ok (.lload_n 1, 1) := by decide +kernel
theorem dX5_digest_95 : decode cX5_digest 95 = .ok (.invokevirtual 229, 3) := by decide +kernel
theorem dX5_digest_98 : decode cX5_digest 98 = .ok (.lstore_n 1, 1) := by decide +kernel
theorem dX5_digest_99 : decode cX5_digest 99 = .ok (.aload_n 0, 1) := by decide +kernel
theorem dX5_digest_100 : decode cX5_digest 100 = .ok (.getfield 45, 3) := by decide +kernel
theorem dX5_digest_103 : decode cX5_digest 103 = .ok (.lload_n 1, 1) := by decide +kernel
theorem dX5_digest_104 : decode cX5_digest 104 = .ok (.invokevirtual 232, 3) := by decide +kernel
theorem dX5_digest_107 : decode cX5_digest 107 = .ok (.lstore_n 1, 1) := by decide +kernel
theorem dX5_digest_108 : decode cX5_digest 108 = .ok (.iconst 0, 1) := by decide +kernel
theorem dX5_digest_109 : decode cX5_digest 109 = .ok (.istore_n 3, 1) := by decide +kernel
theorem dX5_digest_110 : decode cX5_digest 110 = .ok (.iload_n 3, 1) := by decide +kernel
theorem dX5_digest_111 : decode cX5_digest 111 = .ok (.bipush 10, 2) := by decide +kernel
theorem dX5_digest_113 : decode cX5_digest 113 = .ok (.if_icmp .ge 25, 3) := by decide +kernel
theorem dX5_digest_116 : decode cX5_digest 116 = .ok (.lload_n 1, 1) := by decide +kernel
theorem dX5_digest_117 : decode cX5_digest 117 = .ok (.ldc2_w 222, 3) := by decide +kernel
theorem dX5_digest_120 : decode cX5_digest 120 = .ok (.lmul, 1) := by decide +kernel
theorem dX5_digest_121 : decode cX5_digest 121 = .ok (.aload_n 0, 1) := by decide +kernel
theorem dX5_digest_122 : decode cX5_digest 122 = .ok (.getfield 45, 3) := by decide +kernel
theorem dX5_digest_125 : decode cX5_digest 125 = .ok (.iload_n 3, 1) := by decide +kernel
theorem dX5_digest_126 : decode cX5_digest 126 = .ok (.invokevirtual 175, 3) := by decide +kernel
theorem dX5_digest_129 : decode cX5_digest 129 = .ok (.i2l, 1) := by decide +kernel
theorem dX5_digest_130 : decode cX5_digest 130 = .ok (.ladd, 1) := by decide +kernel
theorem dX5_digest_131 : decode cX5_digest 131 = .ok (.lstore_n 1, 1) := by decide +kernel
theorem dX5_digest_132 : decode cX5_digest 132 = .ok (.iinc 3 1, 3) := by decide +kernel
theorem dX5_digest_135 : decode cX5_digest 135 = .ok (.goto (-25), 3) := by decide +kernel
theorem dX5_digest_138 : decode cX5_digest 138 = .ok (.lload_n 1, 1) := by decide +kernel
theorem dX5_digest_139 : decode cX5_digest 139 = .ok (.lreturn, 1) := by decide +kernel
theorem dX5_addPumpsTo_0 : decode cX5_addPumpsTo 0 = .ok (.lload_n 1, 1) := by decide +kernel
theorem dX5_addPumpsTo_1 : decode cX5_addPumpsTo 1 = .ok (.lstore_n 3, 1) := by decide +kernel
theorem dX5_addPumpsTo_2 : decode cX5_addPumpsTo 2 = .ok (.iconst 0, 1) := by decide +kernel
theorem dX5_addPumpsTo_3 : decode cX5_addPumpsTo 3 = .ok (.istore 5, 2) := by decide +kernel
theorem dX5_addPumpsTo_5 : decode cX5_addPumpsTo 5 = .ok (.iload 5, 2) := by decide +kernel
theorem dX5_addPumpsTo_7 : decode cX5_addPumpsTo 7 = .ok (.aload_n 0, 1) := by decide +kernel
theorem dX5_addPumpsTo_8 : decode cX5_addPumpsTo 8 = .ok (.getfield 19, 3) := by decide +kernel
theorem dX5_addPumpsTo_11 : decode cX5_addPumpsTo 11 = .ok (.getfield 87, 3) := by decide +kernel
theorem dX5_addPumpsTo_14 : decode cX5_addPumpsTo 14 = .ok (.if_icmp .ge 71, 3) := by decide +kernel
theorem dX5_addPumpsTo_17 : decode cX5_addPumpsTo 17 = .ok (.lload_n 3, 1) := by decide +kernel
theorem dX5_addPumpsTo_18 : decode cX5_addPumpsTo 18 = .ok (.ldc2_w 222, 3) := by decide +kernel
theorem dX5_addPumpsTo_21 : decode cX5_addPumpsTo 21 = .ok (.lmul, 1) := by decide +kernel
theorem dX5_addPumpsTo_22 : decode cX5_addPumpsTo 22 = .ok (.aload_n 0, 1) := by decide +kernel
theorem dX5_addPumpsTo_23 : decode cX5_addPumpsTo 23 = .ok (.getfield 19, 3) := by decide +kernel
theorem dX5_addPumpsTo_26 : decode cX5_addPumpsTo 26 = .ok (.getfield 233, 3) := by decide +kernel
theorem dX5_addPumpsTo_29 : decode cX5_addPumpsTo 29 = .ok (.iload 5, 2) := by decide +kernel
theorem dX5_addPumpsTo_31 : decode cX5_addPumpsTo 31 = .ok (.iaload, 1) := by decide +kernel
theorem dX5_addPumpsTo_32 : decode cX5_addPumpsTo 32 = .ok (.i2l, 1) := by decide +kernel
theorem dX5_addPumpsTo_33 : decode cX5_addPumpsTo 33 = .ok (.ladd, 1) := by decide +kernel
theorem dX5_addPumpsTo_34 : decode cX5_addPumpsTo 34 = .ok (.lstore_n 3, 1) := by decide +kernel
theorem dX5_addPumpsTo_35 : decode cX5_addPumpsTo 35 = .ok (.lload_n 3, 1) := by decide +kernel
theorem dX5_addPumpsTo_36 : decode cX5_addPumpsTo 36 = .ok (.ldc2_w 222, 3) := by decide +kernel
theorem dX5_addPumpsTo_39 : decode cX5_addPumpsTo 39 = .ok (.lmul, 1) := by decide +kernel
theorem dX5_addPumpsTo_40 : decode cX5_addPumpsTo 40 = .ok (.aload_n 0, 1) := by decide +kernel
theorem dX5_addPumpsTo_41 : decode cX5_addPumpsTo 41 = .ok (.getfield 19, 3) := by decide +kernel
theorem dX5_addPumpsTo_44 : decode cX5_addPumpsTo 44 = .ok (.getfield 236, 3) := by decide +kernel
theorem dX5_addPumpsTo_47 : decode cX5_addPumpsTo 47 = .ok (.iload 5, 2) := by decide +kernel
theorem dX5_addPumpsTo_49 : decode cX5_addPumpsTo 49 = .ok (.iaload, 1) := by decide +kernel
theorem dX5_addPumpsTo_50 : decode cX5_addPumpsTo 50 = .ok (.i2l, 1) := by decide +kernel
theorem dX5_addPumpsTo_51 : decode cX5_addPumpsTo 51 = .ok (.ladd, 1) := by decide +kernel
theorem dX5_addPumpsTo_52 : decode cX5_addPumpsTo 52 = .ok (.lstore_n 3, 1) := by decide +kernel
theorem dX5_addPumpsTo_53 : decode cX5_addPumpsTo 53 = .ok (.lload_n 3, 1) := by decide +kernel
theorem dX5_addPumpsTo_54 : decode cX5_addPumpsTo 54 = .ok (.ldc2_w 222, 3) := by decide +kernel
theorem dX5_addPumpsTo_57 : decode cX5_addPumpsTo 57 = .ok (.lmul, 1) := by decide +kernel
theorem dX5_addPumpsTo_58 : decode cX5_addPumpsTo 58 = .ok (.aload_n 0, 1) := by decide +kernel
theorem dX5_addPumpsTo_59 : decode cX5_addPumpsTo 59 = .ok (.getfield 28, 3) := by decide +kernel
theorem dX5_addPumpsTo_62 : decode cX5_addPumpsTo 62 = .ok (.getfield 102, 3) := by decide +kernel
theorem dX5_addPumpsTo_65 : decode cX5_addPumpsTo 65 = .ok (.iload 5, 2) := by decide +kernel
theorem dX5_addPumpsTo_67 : decode cX5_addPumpsTo 67 = .ok (.baload, 1) := by decide +kernel
theorem dX5_addPumpsTo_68 : decode cX5_addPumpsTo 68 = .ok (.ifCond .eq 7, 3) := by decide +kernel
theorem dX5_addPumpsTo_71 : decode cX5_addPumpsTo 71 = .ok (.iconst 1, 1) := by decide +kernel
theorem dX5_addPumpsTo_72 : decode cX5_addPumpsTo 72 = .ok (.goto 4, 3) := by decide +kernel
theorem dX5_addPumpsTo_75 : decode cX5_addPumpsTo 75 = .ok (.iconst 0, 1) := by decide +kernel
theorem dX5_addPumpsTo_76 : decode cX5_addPumpsTo 76 = .ok (.i2l, 1) := by decide +kernel
theorem dX5_addPumpsTo_77 : decode cX5_addPumpsTo 77 = .ok (.ladd, 1) := by decide +kernel
theorem dX5_addPumpsTo_78 : decode cX5_addPumpsTo 78 = .ok (.lstore_n 3, 1) := by decide +kernel
theorem dX5_addPumpsTo_79 : decode cX5_addPumpsTo 79 = .ok (.iinc 5 1, 3) := by decide +kernel
theorem dX5_addPumpsTo_82 : decode cX5_addPumpsTo 82 = .ok (.goto (-77), 3) := by decide +kernel
theorem dX5_addPumpsTo_85 : decode cX5_addPumpsTo 85 = .ok (.lload_n 3, 1) := by decide +kernel
theorem dX5_addPumpsTo_86 : decode cX5_addPumpsTo 86 = .ok (.lreturn, 1) := by decide +kernel
set_option maxRecDepth 20000 in
theorem ggX5_tellPart_X3_countAt : GoodIn wsX5_tellPart wsX3_countAt := goodIn_r _ [9, 10, 11, 32, 33, 34] (by decide +kernel) (by decide +kernel)
set_option maxRecDepth 20000 in
theorem gX5_tellPart_X3_countAt : GoodIn wsX5_tellPart (wsV RX5 242 RX3 yX3_countAt wsX3_countAt) := goodIn_app (goodIn_of _ (by decide +kernel)) ggX5_tellPart_X3_countAt
set_option maxRecDepth 20000 in
theorem ggX5_tellPart_X0_fallsAt : GoodIn wsX5_tellPart wsX0_fallsAt := goodIn_r _ [16, 17, 18, 25, 26, 27, 28, 29, 30, 31] (by decide +kernel) (by decide +kernel)
set_option maxRecDepth 20000 in
theorem gX5_tellPart_X0_fallsAt : GoodIn wsX5_tellPart (wsV RX5 149 RX0 yX0_fallsAt wsX0_fallsAt) := goodIn_app (goodIn_of _ (by decide +kernel)) ggX5_tellPart_X0_fallsAt
theorem dX5_tellPart_0 : decode cX5_tellPart 0 = .ok (.iload_n 2, 1) := by decide +kernel
theorem dX5_tellPart_1 : decode cX5_tellPart 1 = .ok (.tableswitch 56 0 2 #[27, 37, 47], 27) := by decide +kernel
theorem dX5_tellPart_28 : decode cX5_tellPart 28 = .ok (.aload_n 0, 1) := by decide +kernel
theorem dX5_tellPart_29 : decode cX5_tellPart 29 = .ok (.getfield 28, 3) := by decide +kernel
theorem dX5_tellPart_32 : decode cX5_tellPart 32 = .ok (.getfield 203, 3) := by decide +kernel
theorem dX5_tellPart_35 : decode cX5_tellPart 35 = .ok (.iload_n 1, 1) := by decide +kernel
theorem dX5_tellPart_36 : decode cX5_tellPart 36 = .ok (.iaload, 1) := by decide +kernel
theorem dX5_tellPart_37 : decode cX5_tellPart 37 = .ok (.ireturn, 1) := by decide +kernel
theorem dX5_tellPart_38 : decode cX5_tellPart 38 = .ok (.aload_n 0, 1) := by decide +kernel
theorem dX5_tellPart_39 : decode cX5_tellPart 39 = .ok (.getfield 28, 3) := by decide +kernel
theorem dX5_tellPart_42 : decode cX5_tellPart 42 = .ok (.getfield 239, 3) := by decide +kernel
theorem dX5_tellPart_45 : decode cX5_tellPart 45 = .ok (.iload_n 1, 1) := by decide +kernel
theorem dX5_tellPart_46 : decode cX5_tellPart 46 = .ok (.iaload, 1) := by decide +kernel
theorem dX5_tellPart_47 : decode cX5_tellPart 47 = .ok (.ireturn, 1) := by decide +kernel
theorem dX5_tellPart_48 : decode cX5_tellPart 48 = .ok (.aload_n 0, 1) := by decide +kernel
theorem dX5_tellPart_49 : decode cX5_tellPart 49 = .ok (.getfield 19, 3) := by decide +kernel
theorem dX5_tellPart_52 : decode cX5_tellPart 52 = .ok (.iload_n 1, 1) := by decide +kernel
theorem dX5_tellPart_53 : decode cX5_tellPart 53 = .ok (.invokevirtual 242, 3) := by decide +kernel
theorem dX5_tellPart_56 : decode cX5_tellPart 56 = .ok (.ireturn, 1) := by decide +kernel
theorem dX5_tellPart_57 : decode cX5_tellPart 57 = .ok (.aload_n 0, 1) := by decide +kernel
theorem dX5_tellPart_58 : decode cX5_tellPart 58 = .ok (.getfield 28, 3) := by decide +kernel
theorem dX5_tellPart_61 : decode cX5_tellPart 61 = .ok (.iload_n 1, 1) := by decide +kernel
theorem dX5_tellPart_62 : decode cX5_tellPart 62 = .ok (.invokevirtual 149, 3) := by decide +kernel
theorem dX5_tellPart_65 : decode cX5_tellPart 65 = .ok (.ifCond .eq 7, 3) := by decide +kernel
theorem dX5_tellPart_68 : decode cX5_tellPart 68 = .ok (.iconst 1, 1) := by decide +kernel
theorem dX5_tellPart_69 : decode cX5_tellPart 69 = .ok (.goto 4, 3) := by decide +kernel
theorem dX5_tellPart_72 : decode cX5_tellPart 72 = .ok (.iconst 0, 1) := by decide +kernel
theorem dX5_tellPart_73 : decode cX5_tellPart 73 = .ok (.ireturn, 1) := by decide +kernel
set_option maxRecDepth 20000 in
theorem ggX5_tellCount_X0_hourOfDay : GoodIn wsX5_tellCount wsX0_hourOfDay := goodIn_r _ [14, 15, 16, 17, 18, 19, 57, 58, 59, 60, 61, 62, 63] (by decide +kernel) (by decide +kernel)
set_option maxRecDepth 20000 in
theorem gX5_tellCount_X0_hourOfDay : GoodIn wsX5_tellCount (wsV RX5 141 RX0 yX0_hourOfDay wsX0_hourOfDay) := goodIn_app (goodIn_of _ (by decide +kernel)) ggX5_tellCount_X0_hourOfDay
set_option maxRecDepth 20000 in
theorem ggX5_tellCount_X4_wetCold : GoodIn wsX5_tellCount wsX4_wetCold := goodIn_r _ [24, 25, 26, 64, 65, 66] (by decide +kernel) (by decide +kernel)
set_option maxRecDepth 20000 in
theorem gX5_tellCount_X4_wetCold : GoodIn wsX5_tellCount (wsV RX5 79 RX4 yX4_wetCold wsX4_wetCold) := goodIn_app (goodIn_of _ (by decide +kernel)) ggX5_tellCount_X4_wetCold
set_option maxRecDepth 20000 in
theorem ggX5_tellCount_X0_countRunning : GoodIn wsX5_tellCount wsX0_countRunning := goodIn_r _ [30, 31, 57, 58, 59, 60, 61, 62, 63] (by decide +kernel) (by decide +kernel)
set_option maxRecDepth 20000 in
theorem gX5_tellCount_X0_countRunning : GoodIn wsX5_tellCount (wsV RX5 245 RX0 yX0_countRunning wsX0_countRunning) := goodIn_app (goodIn_of _ (by decide +kernel)) ggX5_tellCount_X0_countRunning
set_option maxRecDepth 20000 in
theorem ggX5_tellCount_X0_allSnow : GoodIn wsX5_tellCount wsX0_allSnow := goodIn_r _ [35, 36, 37, 38, 39, 57, 58, 59, 60, 61, 62, 63] (by decide +kernel) (by decide +kernel)
set_option maxRecDepth 20000 in
theorem gX5_tellCount_X0_allSnow : GoodIn wsX5_tellCount (wsV RX5 190 RX0 yX0_allSnow wsX0_allSnow) := goodIn_app (goodIn_of _ (by decide +kernel)) ggX5_tellCount_X0_allSnow
set_option maxRecDepth 20000 in
theorem ggX5_tellCount_X0_allIce : GoodIn wsX5_tellCount wsX0_allIce := goodIn_r _ [43, 44, 37, 38, 39, 57, 58, 59, 60, 61, 62, 63] (by decide +kernel) (by decide +kernel)
set_option maxRecDepth 20000 in
theorem gX5_tellCount_X0_allIce : GoodIn wsX5_tellCount (wsV RX5 211 RX0 yX0_allIce wsX0_allIce) := goodIn_app (goodIn_of _ (by decide +kernel)) ggX5_tellCount_X0_allIce
set_option maxRecDepth 20000 in
theorem ggX5_tellCount_X1_countFalls : GoodIn wsX5_tellCount wsX1_countFalls := goodIn_r _ [49, 50, 37, 38, 39, 70, 71, 72, 73, 74, 75] (by decide +kernel) (by decide +kernel)
set_option maxRecDepth 20000 in
theorem gX5_tellCount_X1_countFalls : GoodIn wsX5_tellCount (wsV RX5 248 RX1 yX1_countFalls wsX1_countFalls) := goodIn_app (goodIn_of _ (by decide +kernel)) ggX5_tellCount_X1_countFalls
theorem dX5_tellCount_0 : decode cX5_tellCount 0 = .ok (.iload_n 1, 1) := by decide +kernel
theorem dX5_tellCount_1 : decode cX5_tellCount 1 = .ok (.tableswitch 150 0 9 #[55, 63, 71, 86, 102, 110, 118, 126, 134, 142], 55) := by decide +kernel
theorem dX5_tellCount_56 : decode cX5_tellCount 56 = .ok (.aload_n 0, 1) := by decide +kernel
theorem dX5_tellCount_57 : decode cX5_tellCount 57 = .ok (.getfield 28, 3) := by decide +kernel
theorem dX5_tellCount_60 : decode cX5_tellCount 60 = .ok (.getfield 161, 3) := by decide +kernel
theorem dX5_tellCount_63 : decode cX5_tellCount 63 = .ok (.ireturn, 1) := by decide +kernel
theorem dX5_tellCount_64 : decode cX5_tellCount 64 = .ok (.aload_n 0, 1) := by decide +kernel
theorem dX5_tellCount_65 : decode cX5_tellCount 65 = .ok (.getfield 28, 3) := by decide +kernel
theorem dX5_tellCount_68 : decode cX5_tellCount 68 = .ok (.invokevirtual 141, 3) := by decide +kernel
theorem dX5_tellCount_71 : decode cX5_tellCount 71 = .ok (.ireturn, 1) := by decide +kernel
theorem dX5_tellCount_72 : decode cX5_tellCount 72 = .ok (.aload_n 0, 1) := by decide +kernel
theorem dX5_tellCount_73 : decode cX5_tellCount 73 = .ok (.getfield 10, 3) := by decide +kernel
theorem dX5_tellCount_76 : decode cX5_tellCount 76 = .ok (.aload_n 0, 1) := by decide +kernel
theorem dX5_tellCount_77 : decode cX5_tellCount 77 = .ok (.getfield 28, 3) := by decide +kernel
theorem dX5_tellCount_80 : decode cX5_tellCount 80 = .ok (.invokevirtual 141, 3) := by decide +kernel
theorem dX5_tellCount_83 : decode cX5_tellCount 83 = .ok (.invokevirtual 79, 3) := by decide +kernel
theorem dX5_tellCount_86 : decode cX5_tellCount 86 = .ok (.ireturn, 1) := by decide +kernel
theorem dX5_tellCount_87 : decode cX5_tellCount 87 = .ok (.aload_n 0, 1) := by decide +kernel
theorem dX5_tellCount_88 : decode cX5_tellCount 88 = .ok (.getfield 10, 3) := by decide +kernel
theorem dX5_tellCount_91 : decode cX5_tellCount 91 = .ok (.getfield 76, 3) := by decide +kernel
theorem dX5_tellCount_94 : decode cX5_tellCount 94 = .ok (.aload_n 0, 1) := by decide +kernel
theorem dX5_tellCount_95 : decode cX5_tellCount 95 = .ok (.getfield 28, 3) := by decide +kernel
theorem dX5_tellCount_98 : decode cX5_tellCount 98 = .ok (.invokevirtual 141, 3) := by decide +kernel
theorem dX5_tellCount_101 : decode cX5_tellCount 101 = .ok (.iaload, 1) := by decide +kernel
theorem dX5_tellCount_102 : decode cX5_tellCount 102 = .ok (.ireturn, 1) := by decide +kernel
theorem dX5_tellCount_103 : decode cX5_tellCount 103 = .ok (.aload_n 0, 1) := by decide +kernel
theorem dX5_tellCount_104 : decode cX5_tellCount 104 = .ok (.getfield 28, 3) := by decide +kernel
theorem dX5_tellCount_107 : decode cX5_tellCount 107 = .ok (.getfield 108, 3) := by decide +kernel
theorem dX5_tellCount_110 : decode cX5_tellCount 110 = .ok (.ireturn, 1) := by decide +kernel
theorem dX5_tellCount_111 : decode cX5_tellCount 111 = .ok (.aload_n 0, 1) := by decide +kernel
theorem dX5_tellCount_112 : decode cX5_tellCount 112 = .ok (.getfield 19, 3) := by decide +kernel
theorem dX5_tellCount_115 : decode cX5_tellCount 115 = .ok (.getfield 87, 3) := by decide +kernel
theorem dX5_tellCount_118 : decode cX5_tellCount 118 = .ok (.ireturn, 1) := by decide +kernel
theorem dX5_tellCount_119 : decode cX5_tellCount 119 = .ok (.aload_n 0, 1) := by decide +kernel
theorem dX5_tellCount_120 : decode cX5_tellCount 120 = .ok (.getfield 28, 3) := by decide +kernel
theorem dX5_tellCount_123 : decode cX5_tellCount 123 = .ok (.invokevirtual 245, 3) := by decide +kernel
theorem dX5_tellCount_126 : decode cX5_tellCount 126 = .ok (.ireturn, 1) := by decide +kernel
theorem dX5_tellCount_127 : decode cX5_tellCount 127 = .ok (.aload_n 0, 1) := by decide +kernel
theorem dX5_tellCount_128 : decode cX5_tellCount 128 = .ok (.getfield 28, 3) := by decide +kernel
theorem dX5_tellCount_131 : decode cX5_tellCount 131 = .ok (.invokevirtual 190, 3) := by decide +kernel
theorem dX5_tellCount_134 : decode cX5_tellCount 134 = .ok (.ireturn, 1) := by decide +kernel
theorem dX5_tellCount_135 : decode cX5_tellCount 135 = .ok (.aload_n 0, 1) := by decide +kernel
theorem dX5_tellCount_136 : decode cX5_tellCount 136 = .ok (.getfield 28, 3) := by decide +kernel
theorem dX5_tellCount_139 : decode cX5_tellCount 139 = .ok (.invokevirtual 211, 3) := by decide +kernel
theorem dX5_tellCount_142 : decode cX5_tellCount 142 = .ok (.ireturn, 1) := by decide +kernel
theorem dX5_tellCount_143 : decode cX5_tellCount 143 = .ok (.aload_n 0, 1) := by decide +kernel
theorem dX5_tellCount_144 : decode cX5_tellCount 144 = .ok (.getfield 45, 3) := by decide +kernel
theorem dX5_tellCount_147 : decode cX5_tellCount 147 = .ok (.getfield 138, 3) := by decide +kernel
theorem dX5_tellCount_150 : decode cX5_tellCount 150 = .ok (.ireturn, 1) := by decide +kernel
theorem dX5_tellCount_151 : decode cX5_tellCount 151 = .ok (.aload_n 0, 1) := by decide +kernel
theorem dX5_tellCount_152 : decode cX5_tellCount 152 = .ok (.getfield 45, 3) := by decide +kernel
theorem dX5_tellCount_155 : decode cX5_tellCount 155 = .ok (.invokevirtual 248, 3) := by decide +kernel
theorem dX5_tellCount_158 : decode cX5_tellCount 158 = .ok (.ireturn, 1) := by decide +kernel
set_option maxRecDepth 20000 in
theorem ggX5_snowWithPump_X0_becomeLike : GoodIn wsX5_snowWithPump wsX0_becomeLike := goodIn_r _ [8, 9, 10, 11, 12, 13, 84, 85, 86, 87, 88, 89, 90] (by decide +kernel) (by decide +kernel)
set_option maxRecDepth 20000 in
theorem gX5_snowWithPump_X0_becomeLike : GoodIn wsX5_snowWithPump (wsV RX5 199 RX0 yX0_becomeLike wsX0_becomeLike) := goodIn_app (goodIn_of _ (by decide +kernel)) ggX5_snowWithPump_X0_becomeLike
set_option maxRecDepth 20000 in
theorem ggX5_snowWithPump_X0_letHoursGoBy : GoodIn wsX5_snowWithPump wsX0_letHoursGoBy := goodIn_r _ [17, 18, 19, 20, 7, 21, 22, 23, 11, 24, 25, 26, 13, 27, 28, 29, 30, 31, 32, 33, 34, 35, 36, 37, 38, 39, 40, 41, 42, 43, 44, 45, 12, 46, 47, 48, 49, 50, 51, 52, 53, 10, 54, 55, 56, 57, 58, 59, 60, 9, 61, 62, 63, 64, 65, 66, 67, 68, 69, 70, 71, 84, 85, 86, 87, 88, 89, 90, 91, 92, 93, 94, 95, 96] (by decide +kernel) (by decide +kernel)
set_option maxRecDepth 20000 in
theorem gX5_snowWithPump_X0_letHoursGoBy : GoodIn wsX5_snowWithPump (wsV RX5 193 RX0 yX0_letHoursGoBy wsX0_letHoursGoBy) := goodIn_app (goodIn_of _ (by decide +kernel)) ggX5_snowWithPump_X0_letHoursGoBy
set_option maxRecDepth 20000 in
theorem ggX5_snowWithPump_X0_allSnow : GoodIn wsX5_snowWithPump wsX0_allSnow := goodIn_r _ [75, 9, 76, 55, 77, 84, 85, 86, 87, 88, 89, 90] (by decide +kernel) (by decide +kernel)
set_option maxRecDepth 20000 in
theorem gX5_snowWithPump_X0_allSnow : GoodIn wsX5_snowWithPump (wsV RX5 190 RX0 yX0_allSnow wsX0_allSnow) := goodIn_app (goodIn_of _ (by decide +kernel)) ggX5_snowWithPump_X0_allSnow
theorem dX5_snowWithPump_0 : decode cX5_snowWithPump 0 = .ok (.aload_n 0, 1) := by decide +kernel
theorem dX5_snowWithPump_1 : decode cX5_snowWithPump 1 = .ok (.getfield 32, 3) := by decide +kernel
theorem dX5_snowWithPump_4 : decode cX5_snowWithPump 4 = .ok (.aload_n 0, 1) := by decide +kernel
theorem dX5_snowWithPump_5 : decode cX5_snowWithPump 5 = .ok (.getfield 28, 3) := by decide +kernel
theorem dX5_snowWithPump_8 : decode cX5_snowWithPump 8 = .ok (.invokevirtual 199, 3) := by decide +kernel
theorem dX5_snowWithPump_11 : decode cX5_snowWithPump 11 = .ok (.aload_n 0, 1) := by decide +kernel
theorem dX5_snowWithPump_12 : decode cX5_snowWithPump 12 = .ok (.getfield 32, 3) := by decide +kernel
theorem dX5_snowWithPump_15 : decode cX5_snowWithPump 15 = .ok (.getfield 102, 3) := by decide +kernel
theorem dX5_snowWithPump_18 : decode cX5_snowWithPump 18 = .ok (.iload_n 1, 1) := by decide +kernel
theorem dX5_snowWithPump_19 : decode cX5_snowWithPump 19 = .ok (.iconst 1, 1) := by decide +kernel
theorem dX5_snowWithPump_20 : decode cX5_snowWithPump 20 = .ok (.bastore, 1) := by decide +kernel
theorem dX5_snowWithPump_21 : decode cX5_snowWithPump 21 = .ok (.aload_n 0, 1) := by decide +kernel
theorem dX5_snowWithPump_22 : decode cX5_snowWithPump 22 = .ok (.getfield 32, 3) := by decide +kernel
theorem dX5_snowWithPump_25 : decode cX5_snowWithPump 25 = .ok (.iload_n 2, 1) := by decide +kernel
theorem dX5_snowWithPump_26 : decode cX5_snowWithPump 26 = .ok (.invokevirtual 193, 3) := by decide +kernel
theorem dX5_snowWithPump_29 : decode cX5_snowWithPump 29 = .ok (.aload_n 0, 1) := by decide +kernel
theorem dX5_snowWithPump_30 : decode cX5_snowWithPump 30 = .ok (.getfield 32, 3) := by decide +kernel
theorem dX5_snowWithPump_33 : decode cX5_snowWithPump 33 = .ok (.invokevirtual 190, 3) := by decide +kernel
theorem dX5_snowWithPump_36 : decode cX5_snowWithPump 36 = .ok (.ireturn, 1) := by decide +kernel
set_option maxRecDepth 20000 in
theorem ggX5_lengthFrom_X5_hold : GoodIn wsX5_lengthFrom wsX5_hold := goodIn_r _ [4, 5, 6, 7, 8, 9, 10, 11] (by decide +kernel) (by decide +kernel)
set_option maxRecDepth 20000 in
theorem gX5_lengthFrom_X5_hold : GoodIn wsX5_lengthFrom (va_wsS RX5 251 yX5_hold wsX5_hold) := goodIn_app (goodIn_of _ (by decide +kernel)) ggX5_lengthFrom_X5_hold
theorem dX5_lengthFrom_0 : decode cX5_lengthFrom 0 = .ok (.iconst 4, 1) := by decide +kernel
theorem dX5_lengthFrom_1 : decode cX5_lengthFrom 1 = .ok (.iload_n 0, 1) := by decide +kernel
theorem dX5_lengthFrom_2 : decode cX5_lengthFrom 2 = .ok (.imul, 1) := by decide +kernel
theorem dX5_lengthFrom_3 : decode cX5_lengthFrom 3 = .ok (.iconst 2, 1) := by decide +kernel
theorem dX5_lengthFrom_4 : decode cX5_lengthFrom 4 = .ok (.iload_n 1, 1) := by decide +kernel
theorem dX5_lengthFrom_5 : decode cX5_lengthFrom 5 = .ok (.imul, 1) := by decide +kernel
theorem dX5_lengthFrom_6 : decode cX5_lengthFrom 6 = .ok (.iadd, 1) := by decide +kernel
theorem dX5_lengthFrom_7 : decode cX5_lengthFrom 7 = .ok (.iload_n 2, 1) := by decide +kernel
theorem dX5_lengthFrom_8 : decode cX5_lengthFrom 8 = .ok (.iconst 4, 1) := by decide +kernel
theorem dX5_lengthFrom_9 : decode cX5_lengthFrom 9 = .ok (.idiv, 1) := by decide +kernel
theorem dX5_lengthFrom_10 : decode cX5_lengthFrom 10 = .ok (.iadd, 1) := by decide +kernel
theorem dX5_lengthFrom_11 : decode cX5_lengthFrom 11 = .ok (.iconst 0, 1) := by decide +kernel
theorem dX5_lengthFrom_12 : decode cX5_lengthFrom 12 = .ok (.bipush 99, 2) := by decide +kernel
theorem dX5_lengthFrom_14 : decode cX5_lengthFrom 14 = .ok (.invokestatic 251, 3) := by decide +kernel
theorem dX5_lengthFrom_17 : decode cX5_lengthFrom 17 = .ok (.ireturn, 1) := by decide +kernel
theorem dX5_isOutside_0 : decode cX5_isOutside 0 = .ok (.iload_n 0, 1) := by decide +kernel
theorem dX5_isOutside_1 : decode cX5_isOutside 1 = .ok (.iload_n 1, 1) := by decide +kernel
theorem dX5_isOutside_2 : decode cX5_isOutside 2 = .ok (.if_icmp .lt 8, 3) := by decide +kernel
theorem dX5_isOutside_5 : decode cX5_isOutside 5 = .ok (.iload_n 0, 1) := by decide +kernel
theorem dX5_isOutside_6 : decode cX5_isOutside 6 = .ok (.iload_n 2, 1) := by decide +kernel
theorem dX5_isOutside_7 : decode cX5_isOutside 7 = .ok (.if_icmp .le 7, 3) := by decide +kernel
theorem dX5_isOutside_10 : decode cX5_isOutside 10 = .ok (.iconst 1, 1) := by decide +kernel
theorem dX5_isOutside_11 : decode cX5_isOutside 11 = .ok (.goto 4, 3) := by decide +kernel
theorem dX5_isOutside_14 : decode cX5_isOutside 14 = .ok (.iconst 0, 1) := by decide +kernel
theorem dX5_isOutside_15 : decode cX5_isOutside 15 = .ok (.ireturn, 1) := by decide +kernel
theorem dX5_hold_0 : decode cX5_hold 0 = .ok (.iload_n 1, 1) := by decide +kernel
theorem dX5_hold_1 : decode cX5_hold 1 = .ok (.iload_n 0, 1) := by decide +kernel
theorem dX5_hold_2 : decode cX5_hold 2 = .ok (.iload_n 2, 1) := by decide +kernel
theorem dX5_hold_3 : decode cX5_hold 3 = .ok (.invokestatic 111, 3) := by decide +kernel
theorem dX5_hold_6 : decode cX5_hold 6 = .ok (.invokestatic 254, 3) := by decide +kernel
theorem dX5_hold_9 : decode cX5_hold 9 = .ok (.ireturn, 1) := by decide +kernel
theorem dX5_sum_0 : decode cX5_sum 0 = .ok (.iconst 0, 1) := by decide +kernel
theorem dX5_sum_1 : decode cX5_sum 1 = .ok (.istore_n 1, 1) := by decide +kernel
theorem dX5_sum_2 : decode cX5_sum 2 = .ok (.aload_n 0, 1) := by decide +kernel
theorem dX5_sum_3 : decode cX5_sum 3 = .ok (.astore_n 2, 1) := by decide +kernel
theorem dX5_sum_4 : decode cX5_sum 4 = .ok (.aload_n 2, 1) := by decide +kernel
theorem dX5_sum_5 : decode cX5_sum 5 = .ok (.arraylength, 1) := by decide +kernel
theorem dX5_sum_6 : decode cX5_sum 6 = .ok (.istore_n 3, 1) := by decide +kernel
theorem dX5_sum_7 : decode cX5_sum 7 = .ok (.iconst 0, 1) := by decide +kernel
theorem dX5_sum_8 : decode cX5_sum 8 = .ok (.istore 4, 2) := by decide +kernel
theorem dX5_sum_10 : decode cX5_sum 10 = .ok (.iload 4, 2) := by decide +kernel
theorem dX5_sum_12 : decode cX5_sum 12 = .ok (.iload_n 3, 1) := by decide +kernel
theorem dX5_sum_13 : decode cX5_sum 13 = .ok (.if_icmp .ge 20, 3) := by decide +kernel
theorem dX5_sum_16 : decode cX5_sum 16 = .ok (.aload_n 2, 1) := by decide +kernel
theorem dX5_sum_17 : decode cX5_sum 17 = .ok (.iload 4, 2) := by decide +kernel
theorem dX5_sum_19 : decode cX5_sum 19 = .ok (.iaload, 1) := by decide +kernel
theorem dX5_sum_20 : decode cX5_sum 20 = .ok (.istore 5, 2) := by decide +kernel
theorem dX5_sum_22 : decode cX5_sum 22 = .ok (.iload_n 1, 1) := by decide +kernel
theorem dX5_sum_23 : decode cX5_sum 23 = .ok (.iload 5, 2) := by decide +kernel
theorem dX5_sum_25 : decode cX5_sum 25 = .ok (.iadd, 1) := by decide +kernel
theorem dX5_sum_26 : decode cX5_sum 26 = .ok (.istore_n 1, 1) := by decide +kernel
theorem dX5_sum_27 : decode cX5_sum 27 = .ok (.iinc 4 1, 3) := by decide +kernel
theorem dX5_sum_30 : decode cX5_sum 30 = .ok (.goto (-20), 3) := by decide +kernel
theorem dX5_sum_33 : decode cX5_sum 33 = .ok (.iload_n 1, 1) := by decide +kernel
theorem dX5_sum_34 : decode cX5_sum 34 = .ok (.ireturn, 1) := by decide +kernel
theorem dX6_init_0 : decode cX6_init 0 = .ok (.aload_n 0, 1) := by decide +kernel
theorem dX6_init_1 : decode cX6_init 1 = .ok (.invokespecial 3, 3) := by decide +kernel
theorem dX6_init_4 : decode cX6_init 4 = .ok (.aload_n 0, 1) := by decide +kernel
theorem dX6_init_5 : decode cX6_init 5 = .ok (.bipush 20, 2) := by decide +kernel
theorem dX6_init_7 : decode cX6_init 7 = .ok (.newarray .int, 2) := by decide +kernel
theorem dX6_init_9 : decode cX6_init 9 = .ok (.putfield 9, 3) := by decide +kernel
theorem dX6_init_12 : decode cX6_init 12 = .ok (.aload_n 0, 1) := by decide +kernel
theorem dX6_init_13 : decode cX6_init 13 = .ok (.bipush 20, 2) := by decide +kernel
theorem dX6_init_15 : decode cX6_init 15 = .ok (.newarray .int, 2) := by decide +kernel
theorem dX6_init_17 : decode cX6_init 17 = .ok (.putfield 15, 3) := by decide +kernel
theorem dX6_init_20 : decode cX6_init 20 = .ok (.aload_n 0, 1) := by decide +kernel
theorem dX6_init_21 : decode cX6_init 21 = .ok (.iconst 5, 1) := by decide +kernel
theorem dX6_init_22 : decode cX6_init 22 = .ok (.newarray .int, 2) := by decide +kernel
theorem dX6_init_24 : decode cX6_init 24 = .ok (.putfield 18, 3) := by decide +kernel
theorem dX6_init_27 : decode cX6_init 27 = .ok (.return_, 1) := by decide +kernel
theorem dX6_become_0 : decode cX6_become 0 = .ok (.aload_n 0, 1) := by decide +kernel
theorem dX6_become_1 : decode cX6_become 1 = .ok (.aload_n 1, 1) := by decide +kernel
theorem dX6_become_2 : decode cX6_become 2 = .ok (.getfield 21, 3) := by decide +kernel
theorem dX6_become_5 : decode cX6_become 5 = .ok (.putfield 21, 3) := by decide +kernel
theorem dX6_become_8 : decode cX6_become 8 = .ok (.aload_n 0, 1) := by decide +kernel
theorem dX6_become_9 : decode cX6_become 9 = .ok (.aload_n 1, 1) := by decide +kernel
theorem dX6_become_10 : decode cX6_become 10 = .ok (.getfield 25, 3) := by decide +kernel
theorem dX6_become_13 : decode cX6_become 13 = .ok (.putfield 25, 3) := by decide +kernel
theorem dX6_become_16 : decode cX6_become 16 = .ok (.aload_n 1, 1) := by decide +kernel
theorem dX6_become_17 : decode cX6_become 17 = .ok (.getfield 9, 3) := by decide +kernel
theorem dX6_become_20 : decode cX6_become 20 = .ok (.iconst 0, 1) := by decide +kernel
theorem dX6_become_21 : decode cX6_become 21 = .ok (.aload_n 0, 1) := by decide +kernel
theorem dX6_become_22 : decode cX6_become 22 = .ok (.getfield 9, 3) := by decide +kernel
theorem dX6_become_25 : decode cX6_become 25 = .ok (.iconst 0, 1) := by decide +kernel
theorem dX6_become_26 : decode cX6_become 26 = .ok (.bipush 20, 2) := by decide +kernel
theorem dX6_become_28 : decode cX6_become 28 = .ok (.invokestatic 28, 3) := by decide +kernel
theorem dX6_become_31 : decode cX6_become 31 = .ok (.aload_n 1, 1) := by decide +kernel
theorem dX6_become_32 : decode cX6_become 32 = .ok (.getfield 15, 3) := by decide +kernel
theorem dX6_become_35 : decode cX6_become 35 = .ok (.iconst 0, 1) := by decide +kernel
theorem dX6_become_36 : decode cX6_become 36 = .ok (.aload_n 0, 1) := by decide +kernel
theorem dX6_become_37 : decode cX6_become 37 = .ok (.getfield 15, 3) := by decide +kernel
theorem dX6_become_40 : decode cX6_become 40 = .ok (.iconst 0, 1) := by decide +kernel
theorem dX6_become_41 : decode cX6_become 41 = .ok (.bipush 20, 2) := by decide +kernel
theorem dX6_become_43 : decode cX6_become 43 = .ok (.invokestatic 28, 3) := by decide +kernel
theorem dX6_become_46 : decode cX6_become 46 = .ok (.aload_n 1, 1) := by decide +kernel
theorem dX6_become_47 : decode cX6_become 47 = .ok (.getfield 18, 3) := by decide +kernel
theorem dX6_become_50 : decode cX6_become 50 = .ok (.iconst 0, 1) := by decide +kernel
theorem dX6_become_51 : decode cX6_become 51 = .ok (.aload_n 0, 1) := by decide +kernel
theorem dX6_become_52 : decode cX6_become 52 = .ok (.getfield 18, 3) := by decide +kernel
theorem dX6_become_55 : decode cX6_become 55 = .ok (.iconst 0, 1) := by decide +kernel
theorem dX6_become_56 : decode cX6_become 56 = .ok (.iconst 5, 1) := by decide +kernel
theorem dX6_become_57 : decode cX6_become 57 = .ok (.invokestatic 28, 3) := by decide +kernel
theorem dX6_become_60 : decode cX6_become 60 = .ok (.return_, 1) := by decide +kernel
set_option maxRecDepth 20000 in
theorem ggX6_lay_X7_isIn : GoodIn wsX6_lay wsX7_isIn := goodIn_r _ [8] (by decide +kernel) (by decide +kernel)
set_option maxRecDepth 20000 in
theorem gX6_lay_X7_isIn_n34 : GoodIn wsX6_lay (wsX7_isIn) := ggX6_lay_X7_isIn
theorem dX6_lay_0 : decode cX6_lay 0 = .ok (.iload_n 1, 1) := by decide +kernel
theorem dX6_lay_1 : decode cX6_lay 1 = .ok (.iconst 0, 1) := by decide +kernel
theorem dX6_lay_2 : decode cX6_lay 2 = .ok (.bipush 19, 2) := by decide +kernel
theorem dX6_lay_4 : decode cX6_lay 4 = .ok (.invokestatic 34, 3) := by decide +kernel
theorem dX6_lay_7 : decode cX6_lay 7 = .ok (.ifCond .eq 23, 3) := by decide +kernel
theorem dX6_lay_10 : decode cX6_lay 10 = .ok (.aload_n 0, 1) := by decide +kernel
theorem dX6_lay_11 : decode cX6_lay 11 = .ok (.getfield 9, 3) := by decide +kernel
theorem dX6_lay_14 : decode cX6_lay 14 = .ok (.iload_n 1, 1) := by decide +kernel
theorem dX6_lay_15 : decode cX6_lay 15 = .ok (.sipush 300, 3) := by decide +kernel
theorem dX6_lay_18 : decode cX6_lay 18 = .ok (.aload_n 0, 1) := by decide +kernel
theorem dX6_lay_19 : decode cX6_lay 19 = .ok (.getfield 9, 3) := by decide +kernel
theorem dX6_lay_22 : decode cX6_lay 22 = .ok (.iload_n 1, 1) := by decide +kernel
theorem dX6_lay_23 : decode cX6_lay 23 = .ok (.iaload, 1) := by decide +kernel
theorem dX6_lay_24 : decode cX6_lay 24 = .ok (.iload_n 2, 1) := by decide +kernel
theorem dX6_lay_25 : decode cX6_lay 25 = .ok (.iadd, 1) := by decide +kernel
theorem dX6_lay_26 : decode cX6_lay 26 = .ok (.invokestatic 38, 3) := by decide +kernel
theorem dX6_lay_29 : decode cX6_lay 29 = .ok (.iastore, 1) := by decide +kernel
theorem dX6_lay_30 : decode cX6_lay 30 = .ok (.return_, 1) := by decide +kernel
theorem dX6_isBad_0 : decode cX6_isBad 0 = .ok (.aload_n 0, 1) := by decide +kernel
theorem dX6_isBad_1 : decode cX6_isBad 1 = .ok (.getfield 9, 3) := by decide +kernel
theorem dX6_isBad_4 : decode cX6_isBad 4 = .ok (.iload_n 1, 1) := by decide +kernel
theorem dX6_isBad_5 : decode cX6_isBad 5 = .ok (.iaload, 1) := by decide +kernel
theorem dX6_isBad_6 : decode cX6_isBad 6 = .ok (.bipush 30, 2) := by decide +kernel
theorem dX6_isBad_8 : decode cX6_isBad 8 = .ok (.if_icmp .lt 14, 3) := by decide +kernel
theorem dX6_isBad_11 : decode cX6_isBad 11 = .ok (.aload_n 0, 1) := by decide +kernel
theorem dX6_isBad_12 : decode cX6_isBad 12 = .ok (.getfield 15, 3) := by decide +kernel
theorem dX6_isBad_15 : decode cX6_isBad 15 = .ok (.iload_n 1, 1) := by decide +kernel
theorem dX6_isBad_16 : decode cX6_isBad 16 = .ok (.iaload, 1) := by decide +kernel
theorem dX6_isBad_17 : decode cX6_isBad 17 = .ok (.bipush 10, 2) := by decide +kernel
theorem dX6_isBad_19 : decode cX6_isBad 19 = .ok (.if_icmp .lt 7, 3) := by decide +kernel
theorem dX6_isBad_22 : decode cX6_isBad 22 = .ok (.iconst 1, 1) := by decide +kernel
theorem dX6_isBad_23 : decode cX6_isBad 23 = .ok (.goto 4, 3) := by decide +kernel
theorem dX6_isBad_26 : decode cX6_isBad 26 = .ok (.iconst 0, 1) := by decide +kernel
theorem dX6_isBad_27 : decode cX6_isBad 27 = .ok (.ireturn, 1) := by decide +kernel
set_option maxRecDepth 20000 in
theorem ggX7_init_X6_init : GoodIn wsX7_init wsX6_init := goodIn_r _ [18, 19, 2, 3, 4, 20, 21, 22, 35, 36, 37, 38, 39] (by decide +kernel) (by decide +kernel)
set_option maxRecDepth 20000 in
theorem gX7_init_X6_init_n33 : GoodIn wsX7_init (wsX6_init) := ggX7_init_X6_init
theorem dX7_init_0 : decode cX7_init 0 = .ok (.aload_n 0, 1) := by decide +kernel
theorem dX7_init_1 : decode cX7_init 1 = .ok (.invokespecial 1, 3) := by decide +kernel
theorem dX7_init_4 : decode cX7_init 4 = .ok (.aload_n 0, 1) := by decide +kernel
theorem dX7_init_5 : decode cX7_init 5 = .ok (.bipush 24, 2) := by decide +kernel
theorem dX7_init_7 : decode cX7_init 7 = .ok (.newarray .int, 2) := by decide +kernel
theorem dX7_init_9 : decode cX7_init 9 = .ok (.putfield 9, 3) := by decide +kernel
theorem dX7_init_12 : decode cX7_init 12 = .ok (.aload_n 0, 1) := by decide +kernel
theorem dX7_init_13 : decode cX7_init 13 = .ok (.bipush 24, 2) := by decide +kernel
theorem dX7_init_15 : decode cX7_init 15 = .ok (.newarray .int, 2) := by decide +kernel
theorem dX7_init_17 : decode cX7_init 17 = .ok (.putfield 13, 3) := by decide +kernel
theorem dX7_init_20 : decode cX7_init 20 = .ok (.aload_n 0, 1) := by decide +kernel
theorem dX7_init_21 : decode cX7_init 21 = .ok (.bipush 24, 2) := by decide +kernel
theorem dX7_init_23 : decode cX7_init 23 = .ok (.newarray .int, 2) := by decide +kernel
theorem dX7_init_25 : decode cX7_init 25 = .ok (.putfield 16, 3) := by decide +kernel
theorem dX7_init_28 : decode cX7_init 28 = .ok (.aload_n 0, 1) := by decide +kernel
theorem dX7_init_29 : decode cX7_init 29 = .ok (.iconst 5, 1) := by decide +kernel
theorem dX7_init_30 : decode cX7_init 30 = .ok (.newarray .int, 2) := by decide +kernel
theorem dX7_init_32 : decode cX7_init 32 = .ok (.putfield 19, 3) := by decide +kernel
theorem dX7_init_35 : decode cX7_init 35 = .ok (.aload_n 0, 1) := by decide +kernel
theorem dX7_init_36 : decode cX7_init 36 = .ok (.iconst 5, 1) := by decide +kernel
theorem dX7_init_37 : decode cX7_init 37 = .ok (.newarray .int, 2) := by decide +kernel
theorem dX7_init_39 : decode cX7_init 39 = .ok (.putfield 22, 3) := by decide +kernel
theorem dX7_init_42 : decode cX7_init 42 = .ok (.aload_n 0, 1) := by decide +kernel
theorem dX7_init_43 : decode cX7_init 43 = .ok (.iconst 5, 1) := by decide +kernel
theorem dX7_init_44 : decode cX7_init 44 = .ok (.newarray .int, 2) := by decide +kernel
theorem dX7_init_46 : decode cX7_init 46 = .ok (.dup, 1) := by decide +kernel
theorem dX7_init_47 : decode cX7_init 47 = .ok (.iconst 0, 1) := by decide +kernel
theorem dX7_init_48 : decode cX7_init 48 = .ok (.iconst 0, 1) := by decide +kernel
theorem dX7_init_49 : decode cX7_init 49 = .ok (.iastore, 1) := by decide +kernel
theorem dX7_init_50 : decode cX7_init 50 = .ok (.dup, 1) := by decide +kernel
theorem dX7_init_51 : decode cX7_init 51 = .ok (.iconst 1, 1) := by decide +kernel
theorem dX7_init_52 : decode cX7_init 52 = .ok (.iconst 1, 1) := by decide +kernel
theorem dX7_init_53 : decode cX7_init 53 = .ok (.iastore, 1) := by decide +kernel
theorem dX7_init_54 : decode cX7_init 54 = .ok (.dup, 1) := by decide +kernel
theorem dX7_init_55 : decode cX7_init 55 = .ok (.iconst 2, 1) := by decide +kernel
theorem dX7_init_56 : decode cX7_init 56 = .ok (.iconst 2, 1) := by decide +kernel
theorem dX7_init_57 : decode cX7_init 57 = .ok (.iastore, 1) := by decide +kernel
theorem dX7_init_58 : decode cX7_init 58 = .ok (.dup, 1) := by decide +kernel
theorem dX7_init_59 : decode cX7_init 59 = .ok (.iconst 3, 1) := by decide +kernel
theorem dX7_init_60 : decode cX7_init 60 = .ok (.iconst 3, 1) := by decide +kernel
theorem dX7_init_61 : decode cX7_init 61 = .ok (.iastore, 1) := by decide +kernel
theorem dX7_init_62 : decode cX7_init 62 = .ok (.dup, 1) := by decide +kernel
theorem dX7_init_63 : decode cX7_init 63 = .ok (.iconst 4, 1) := by decide +kernel
theorem dX7_init_64 : decode cX7_init 64 = .ok (.iconst 4, 1) := by decide +kernel
theorem dX7_init_65 : decode cX7_init 65 = .ok (.iastore, 1) := by decide +kernel
theorem dX7_init_66 : decode cX7_init 66 = .ok (.putfield 25, 3) := by decide +kernel
theorem dX7_init_69 : decode cX7_init 69 = .ok (.aload_n 0, 1) := by decide +kernel
theorem dX7_init_70 : decode cX7_init 70 = .ok (.sipush 150, 3) := by decide +kernel
theorem dX7_init_73 : decode cX7_init 73 = .ok (.newarray .int, 2) := by decide +kernel
theorem dX7_init_75 : decode cX7_init 75 = .ok (.putfield 28, 3) := by decide +kernel
theorem dX7_init_78 : decode cX7_init 78 = .ok (.aload_n 0, 1) := by decide +kernel
theorem dX7_init_79 : decode cX7_init 79 = .ok (.new 31, 3) := by decide +kernel
theorem dX7_init_82 : decode cX7_init 82 = .ok (.dup, 1) := by decide +kernel
theorem dX7_init_83 : decode cX7_init 83 = .ok (.invokespecial 33, 3) := by decide +kernel
theorem dX7_init_86 : decode cX7_init 86 = .ok (.putfield 34, 3) := by decide +kernel
theorem dX7_init_89 : decode cX7_init 89 = .ok (.aload_n 0, 1) := by decide +kernel
theorem dX7_init_90 : decode cX7_init 90 = .ok (.new 31, 3) := by decide +kernel
theorem dX7_init_93 : decode cX7_init 93 = .ok (.dup, 1) := by decide +kernel
theorem dX7_init_94 : decode cX7_init 94 = .ok (.invokespecial 33, 3) := by decide +kernel
theorem dX7_init_97 : decode cX7_init 97 = .ok (.putfield 38, 3) := by decide +kernel
theorem dX7_init_100 : decode cX7_init 100 = .ok (.iconst 0, 1) := by decide +kernel
theorem dX7_init_101 : decode cX7_init 101 = .ok (.istore_n 1, 1) := by decide +kernel
theorem dX7_init_102 : decode cX7_init 102 = .ok (.iload_n 1, 1) := by decide +kernel
theorem dX7_init_103 : decode cX7_init 103 = .ok (.bipush 24, 2) := by decide +kernel
theorem dX7_init_105 : decode cX7_init 105 = .ok (.if_icmp .ge 25, 3) := by decide +kernel
theorem dX7_init_108 : decode cX7_init 108 = .ok (.aload_n 0, 1) := by decide +kernel
theorem dX7_init_109 : decode cX7_init 109 = .ok (.getfield 9, 3) := by decide +kernel
theorem dX7_init_112 : decode cX7_init 112 = .ok (.iload_n 1, 1) := by decide +kernel
theorem dX7_init_113 : decode cX7_init 113 = .ok (.bipush (-5), 2) := by decide +kernel
theorem dX7_init_115 : decode cX7_init 115 = .ok (.iastore, 1) := by decide +kernel
theorem dX7_init_116 : decode cX7_init 116 = .ok (.aload_n 0, 1) := by decide +kernel
theorem dX7_init_117 : decode cX7_init 117 = .ok (.getfield 13, 3) := by decide +kernel
theorem dX7_init_120 : decode cX7_init 120 = .ok (.iload_n 1, 1) := by decide +kernel
theorem dX7_init_121 : decode cX7_init 121 = .ok (.bipush 50, 2) := by decide +kernel
theorem dX7_init_123 : decode cX7_init 123 = .ok (.iastore, 1) := by decide +kernel
theorem dX7_init_124 : decode cX7_init 124 = .ok (.iinc 1 1, 3) := by decide +kernel
theorem dX7_init_127 : decode cX7_init 127 = .ok (.goto (-25), 3) := by decide +kernel
theorem dX7_init_130 : decode cX7_init 130 = .ok (.return_, 1) := by decide +kernel
theorem dX7_thrown_0 : decode cX7_thrown 0 = .ok (.aload_n 0, 1) := by decide +kernel
theorem dX7_thrown_1 : decode cX7_thrown 1 = .ok (.getfield 41, 3) := by decide +kernel
theorem dX7_thrown_4 : decode cX7_thrown 4 = .ok (.ireturn, 1) := by decide +kernel
theorem dX7_no_0 : decode cX7_no 0 = .ok (.aload_n 0, 1) := by decide +kernel
theorem dX7_no_1 : decode cX7_no 1 = .ok (.iload_n 1, 1) := by decide +kernel
theorem dX7_no_2 : decode cX7_no 2 = .ok (.putfield 41, 3) := by decide +kernel
theorem dX7_no_5 : decode cX7_no 5 = .ok (.iconst 0, 1) := by decide +kernel
theorem dX7_no_6 : decode cX7_no 6 = .ok (.ireturn, 1) := by decide +kernel
theorem dX7_isIn_0 : decode cX7_isIn 0 = .ok (.iload_n 0, 1) := by decide +kernel
theorem dX7_isIn_1 : decode cX7_isIn 1 = .ok (.iload_n 1, 1) := by decide +kernel
theorem dX7_isIn_2 : decode cX7_isIn 2 = .ok (.if_icmp .lt 12, 3) := by decide +kernel
theorem dX7_isIn_5 : decode cX7_isIn 5 = .ok (.iload_n 0, 1) := by decide +kernel
theorem dX7_isIn_6 : decode cX7_isIn 6 = .ok (.iload_n 2, 1) := by decide +kernel
theorem dX7_isIn_7 : decode cX7_isIn 7 = .ok (.if_icmp .gt 7, 3) := by decide +kernel
theorem dX7_isIn_10 : decode cX7_isIn 10 = .ok (.iconst 1, 1) := by decide +kernel
theorem dX7_isIn_11 : decode cX7_isIn 11 = .ok (.goto 4, 3) := by decide +kernel
theorem dX7_isIn_14 : decode cX7_isIn 14 = .ok (.iconst 0, 1) := by decide +kernel
theorem dX7_isIn_15 : decode cX7_isIn 15 = .ok (.ireturn, 1) := by decide +kernel
set_option maxRecDepth 20000 in
theorem ggX7_isPart_X7_isIn : GoodIn wsX7_isPart wsX7_isIn := goodIn_r _ [4] (by decide +kernel) (by decide +kernel)
set_option maxRecDepth 20000 in
theorem gX7_isPart_X7_isIn : GoodIn wsX7_isPart (va_wsS RX7 45 yX7_isIn wsX7_isIn) := goodIn_app (goodIn_of _ (by decide +kernel)) ggX7_isPart_X7_isIn
theorem dX7_isPart_0 : decode cX7_isPart 0 = .ok (.iload_n 0, 1) := by decide +kernel
theorem dX7_isPart_1 : decode cX7_isPart 1 = .ok (.iconst 0, 1) := by decide +kernel
theorem dX7_isPart_2 : decode cX7_isPart 2 = .ok (.bipush 19, 2) := by decide +kernel
theorem dX7_isPart_4 : decode cX7_isPart 4 = .ok (.invokestatic 45, 3) := by decide +kernel
theorem dX7_isPart_7 : decode cX7_isPart 7 = .ok (.ireturn, 1) := by decide +kernel
set_option maxRecDepth 20000 in
theorem ggX7_isPump_X7_isIn : GoodIn wsX7_isPump wsX7_isIn := goodIn_r _ [5] (by decide +kernel) (by decide +kernel)
set_option maxRecDepth 20000 in
theorem gX7_isPump_X7_isIn : GoodIn wsX7_isPump (va_wsS RX7 45 yX7_isIn wsX7_isIn) := goodIn_app (goodIn_of _ (by decide +kernel)) ggX7_isPump_X7_isIn
theorem dX7_isPump_0 : decode cX7_isPump 0 = .ok (.iload_n 1, 1) := by decide +kernel
theorem dX7_isPump_1 : decode cX7_isPump 1 = .ok (.iconst 0, 1) := by decide +kernel
theorem dX7_isPump_2 : decode cX7_isPump 2 = .ok (.aload_n 0, 1) := by decide +kernel
theorem dX7_isPump_3 : decode cX7_isPump 3 = .ok (.getfield 49, 3) := by decide +kernel
theorem dX7_isPump_6 : decode cX7_isPump 6 = .ok (.iconst 1, 1) := by decide +kernel
theorem dX7_isPump_7 : decode cX7_isPump 7 = .ok (.isub, 1) := by decide +kernel
theorem dX7_isPump_8 : decode cX7_isPump 8 = .ok (.invokestatic 45, 3) := by decide +kernel
theorem dX7_isPump_11 : decode cX7_isPump 11 = .ok (.ireturn, 1) := by decide +kernel
theorem dX7_sum_0 : decode cX7_sum 0 = .ok (.iconst 0, 1) := by decide +kernel
theorem dX7_sum_1 : decode cX7_sum 1 = .ok (.istore_n 1, 1) := by decide +kernel
theorem dX7_sum_2 : decode cX7_sum 2 = .ok (.aload_n 0, 1) := by decide +kernel
theorem dX7_sum_3 : decode cX7_sum 3 = .ok (.astore_n 2, 1) := by decide +kernel
theorem dX7_sum_4 : decode cX7_sum 4 = .ok (.aload_n 2, 1) := by decide +kernel
theorem dX7_sum_5 : decode cX7_sum 5 = .ok (.arraylength, 1) := by decide +kernel
theorem dX7_sum_6 : decode cX7_sum 6 = .ok (.istore_n 3, 1) := by decide +kernel
theorem dX7_sum_7 : decode cX7_sum 7 = .ok (.iconst 0, 1) := by decide +kernel
theorem dX7_sum_8 : decode cX7_sum 8 = .ok (.istore 4, 2) := by decide +kernel
theorem dX7_sum_10 : decode cX7_sum 10 = .ok (.iload 4, 2) := by decide +kernel
theorem dX7_sum_12 : decode cX7_sum 12 = .ok (.iload_n 3, 1) := by decide +kernel
theorem dX7_sum_13 : decode cX7_sum 13 = .ok (.if_icmp .ge 20, 3) := by decide +kernel
theorem dX7_sum_16 : decode cX7_sum 16 = .ok (.aload_n 2, 1) := by decide +kernel
theorem dX7_sum_17 : decode cX7_sum 17 = .ok (.iload 4, 2) := by decide +kernel
theorem dX7_sum_19 : decode cX7_sum 19 = .ok (.iaload, 1) := by decide +kernel
theorem dX7_sum_20 : decode cX7_sum 20 = .ok (.istore 5, 2) := by decide +kernel
theorem dX7_sum_22 : decode cX7_sum 22 = .ok (.iload_n 1, 1) := by decide +kernel
theorem dX7_sum_23 : decode cX7_sum 23 = .ok (.iload 5, 2) := by decide +kernel
theorem dX7_sum_25 : decode cX7_sum 25 = .ok (.iadd, 1) := by decide +kernel
theorem dX7_sum_26 : decode cX7_sum 26 = .ok (.istore_n 1, 1) := by decide +kernel
theorem dX7_sum_27 : decode cX7_sum 27 = .ok (.iinc 4 1, 3) := by decide +kernel
theorem dX7_sum_30 : decode cX7_sum 30 = .ok (.goto (-20), 3) := by decide +kernel
theorem dX7_sum_33 : decode cX7_sum 33 = .ok (.iload_n 1, 1) := by decide +kernel
theorem dX7_sum_34 : decode cX7_sum 34 = .ok (.ireturn, 1) := by decide +kernel
theorem dX7_wet_0 : decode cX7_wet 0 = .ok (.aload_n 0, 1) := by decide +kernel
theorem dX7_wet_1 : decode cX7_wet 1 = .ok (.getfield 9, 3) := by decide +kernel
theorem dX7_wet_4 : decode cX7_wet 4 = .ok (.iload_n 1, 1) := by decide +kernel
theorem dX7_wet_5 : decode cX7_wet 5 = .ok (.iaload, 1) := by decide +kernel
theorem dX7_wet_6 : decode cX7_wet 6 = .ok (.bipush 100, 2) := by decide +kernel
theorem dX7_wet_8 : decode cX7_wet 8 = .ok (.aload_n 0, 1) := by decide +kernel
theorem dX7_wet_9 : decode cX7_wet 9 = .ok (.getfield 13, 3) := by decide +kernel
theorem dX7_wet_12 : decode cX7_wet 12 = .ok (.iload_n 1, 1) := by decide +kernel
theorem dX7_wet_13 : decode cX7_wet 13 = .ok (.iaload, 1) := by decide +kernel
theorem dX7_wet_14 : decode cX7_wet 14 = .ok (.isub, 1) := by decide +kernel
theorem dX7_wet_15 : decode cX7_wet 15 = .ok (.bipush 10, 2) := by decide +kernel
theorem dX7_wet_17 : decode cX7_wet 17 = .ok (.idiv, 1) := by decide +kernel
theorem dX7_wet_18 : decode cX7_wet 18 = .ok (.isub, 1) := by decide +kernel
theorem dX7_wet_19 : decode cX7_wet 19 = .ok (.ireturn, 1) := by decide +kernel
set_option maxRecDepth 20000 in
theorem ggX7_work_X6_lay : GoodIn wsX7_work wsX6_lay := goodIn_r _ [11, 12, 13, 4, 5, 6, 14, 15, 16, 17, 18, 19, 20, 21] (by decide +kernel) (by decide +kernel)
set_option maxRecDepth 20000 in
theorem gX7_work_X6_lay : GoodIn wsX7_work (wsV RX7 67 RX6 yX6_lay wsX6_lay) := goodIn_app (goodIn_of _ (by decide +kernel)) ggX7_work_X6_lay
theorem dX7_work_0 : decode cX7_work 0 = .ok (.aload_n 1, 1) := by decide +kernel
theorem dX7_work_1 : decode cX7_work 1 = .ok (.getfield 52, 3) := by decide +kernel
theorem dX7_work_4 : decode cX7_work 4 = .ok (.iload_n 2, 1) := by decide +kernel
theorem dX7_work_5 : decode cX7_work 5 = .ok (.iaload, 1) := by decide +kernel
theorem dX7_work_6 : decode cX7_work 6 = .ok (.ifCond .eq 16, 3) := by decide +kernel
theorem dX7_work_9 : decode cX7_work 9 = .ok (.aload_n 0, 1) := by decide +kernel
theorem dX7_work_10 : decode cX7_work 10 = .ok (.getfield 22, 3) := by decide +kernel
theorem dX7_work_13 : decode cX7_work 13 = .ok (.iload_n 2, 1) := by decide +kernel
theorem dX7_work_14 : decode cX7_work 14 = .ok (.iaload, 1) := by decide +kernel
theorem dX7_work_15 : decode cX7_work 15 = .ok (.aload_n 1, 1) := by decide +kernel
theorem dX7_work_16 : decode cX7_work 16 = .ok (.getfield 55, 3) := by decide +kernel
theorem dX7_work_19 : decode cX7_work 19 = .ok (.if_icmp .le 4, 3) := by decide +kernel
theorem dX7_work_22 : decode cX7_work 22 = .ok (.return_, 1) := by decide +kernel
theorem dX7_work_23 : decode cX7_work 23 = .ok (.aload_n 1, 1) := by decide +kernel
theorem dX7_work_24 : decode cX7_work 24 = .ok (.dup, 1) := by decide +kernel
theorem dX7_work_25 : decode cX7_work 25 = .ok (.getfield 55, 3) := by decide +kernel
theorem dX7_work_28 : decode cX7_work 28 = .ok (.aload_n 0, 1) := by decide +kernel
theorem dX7_work_29 : decode cX7_work 29 = .ok (.getfield 22, 3) := by decide +kernel
theorem dX7_work_32 : decode cX7_work 32 = .ok (.iload_n 2, 1) := by decide +kernel
theorem dX7_work_33 : decode cX7_work 33 = .ok (.iaload, 1) := by decide +kernel
theorem dX7_work_34 : decode cX7_work 34 = .ok (.isub, 1) := by decide +kernel
theorem dX7_work_35 : decode cX7_work 35 = .ok (.putfield 55, 3) := by decide +kernel
theorem dX7_work_38 : decode cX7_work 38 = .ok (.aload_n 0, 1) := by decide +kernel
theorem dX7_work_39 : decode cX7_work 39 = .ok (.getfield 19, 3) := by decide +kernel
theorem dX7_work_42 : decode cX7_work 42 = .ok (.iload_n 2, 1) := by decide +kernel
theorem dX7_work_43 : decode cX7_work 43 = .ok (.iaload, 1) := by decide +kernel
theorem dX7_work_44 : decode cX7_work 44 = .ok (.istore 4, 2) := by decide +kernel
theorem dX7_work_46 : decode cX7_work 46 = .ok (.iload_n 3, 1) := by decide +kernel
theorem dX7_work_47 : decode cX7_work 47 = .ok (.bipush (-2), 2) := by decide +kernel
theorem dX7_work_49 : decode cX7_work 49 = .ok (.if_icmp .le 25, 3) := by decide +kernel
theorem dX7_work_52 : decode cX7_work 52 = .ok (.aload_n 1, 1) := by decide +kernel
theorem dX7_work_53 : decode cX7_work 53 = .ok (.getfield 58, 3) := by decide +kernel
theorem dX7_work_56 : decode cX7_work 56 = .ok (.iload 4, 2) := by decide +kernel
theorem dX7_work_58 : decode cX7_work 58 = .ok (.bipush 50, 2) := by decide +kernel
theorem dX7_work_60 : decode cX7_work 60 = .ok (.aload_n 1, 1) := by decide +kernel
theorem dX7_work_61 : decode cX7_work 61 = .ok (.getfield 58, 3) := by decide +kernel
theorem dX7_work_64 : decode cX7_work 64 = .ok (.iload 4, 2) := by decide +kernel
theorem dX7_work_66 : decode cX7_work 66 = .ok (.iaload, 1) := by decide +kernel
theorem dX7_work_67 : decode cX7_work 67 = .ok (.iconst 1, 1) := by decide +kernel
theorem dX7_work_68 : decode cX7_work 68 = .ok (.iadd, 1) := by decide +kernel
theorem dX7_work_69 : decode cX7_work 69 = .ok (.invokestatic 61, 3) := by decide +kernel
theorem dX7_work_72 : decode cX7_work 72 = .ok (.iastore, 1) := by decide +kernel
theorem dX7_work_73 : decode cX7_work 73 = .ok (.return_, 1) := by decide +kernel
theorem dX7_work_74 : decode cX7_work 74 = .ok (.aload_n 0, 1) := by decide +kernel
theorem dX7_work_75 : decode cX7_work 75 = .ok (.getfield 22, 3) := by decide +kernel
theorem dX7_work_78 : decode cX7_work 78 = .ok (.iload_n 2, 1) := by decide +kernel
theorem dX7_work_79 : decode cX7_work 79 = .ok (.iaload, 1) := by decide +kernel
theorem dX7_work_80 : decode cX7_work 80 = .ok (.bipush 8, 2) := by decide +kernel
theorem dX7_work_82 : decode cX7_work 82 = .ok (.iload_n 3, 1) := by decide +kernel
theorem dX7_work_83 : decode cX7_work 83 = .ok (.ineg, 1) := by decide +kernel
theorem dX7_work_84 : decode cX7_work 84 = .ok (.invokestatic 61, 3) := by decide +kernel
theorem dX7_work_87 : decode cX7_work 87 = .ok (.imul, 1) := by decide +kernel
theorem dX7_work_88 : decode cX7_work 88 = .ok (.istore 5, 2) := by decide +kernel
theorem dX7_work_90 : decode cX7_work 90 = .ok (.aload_n 1, 1) := by decide +kernel
theorem dX7_work_91 : decode cX7_work 91 = .ok (.iload 4, 2) := by decide +kernel
theorem dX7_work_93 : decode cX7_work 93 = .ok (.iload 5, 2) := by decide +kernel
theorem dX7_work_95 : decode cX7_work 95 = .ok (.iconst 2, 1) := by decide +kernel
theorem dX7_work_96 : decode cX7_work 96 = .ok (.idiv, 1) := by decide +kernel
theorem dX7_work_97 : decode cX7_work 97 = .ok (.invokevirtual 67, 3) := by decide +kernel
theorem dX7_work_100 : decode cX7_work 100 = .ok (.aload_n 1, 1) := by decide +kernel
theorem dX7_work_101 : decode cX7_work 101 = .ok (.iload 4, 2) := by decide +kernel
theorem dX7_work_103 : decode cX7_work 103 = .ok (.iconst 1, 1) := by decide +kernel
theorem dX7_work_104 : decode cX7_work 104 = .ok (.isub, 1) := by decide +kernel
theorem dX7_work_105 : decode cX7_work 105 = .ok (.iload 5, 2) := by decide +kernel
theorem dX7_work_107 : decode cX7_work 107 = .ok (.iconst 4, 1) := by decide +kernel
theorem dX7_work_108 : decode cX7_work 108 = .ok (.idiv, 1) := by decide +kernel
theorem dX7_work_109 : decode cX7_work 109 = .ok (.invokevirtual 67, 3) := by decide +kernel
theorem dX7_work_112 : decode cX7_work 112 = .ok (.aload_n 1, 1) := by decide +kernel
theorem dX7_work_113 : decode cX7_work 113 = .ok (.iload 4, 2) := by decide +kernel
theorem dX7_work_115 : decode cX7_work 115 = .ok (.iconst 1, 1) := by decide +kernel
theorem dX7_work_116 : decode cX7_work 116 = .ok (.iadd, 1) := by decide +kernel
theorem dX7_work_117 : decode cX7_work 117 = .ok (.iload 5, 2) := by decide +kernel
theorem dX7_work_119 : decode cX7_work 119 = .ok (.iconst 4, 1) := by decide +kernel
theorem dX7_work_120 : decode cX7_work 120 = .ok (.idiv, 1) := by decide +kernel
theorem dX7_work_121 : decode cX7_work 121 = .ok (.invokevirtual 67, 3) := by decide +kernel
theorem dX7_work_124 : decode cX7_work 124 = .ok (.return_, 1) := by decide +kernel
set_option maxRecDepth 20000 in
theorem ggX7_pass_X7_wet : GoodIn wsX7_pass wsX7_wet := goodIn_r _ [11, 2, 12, 36, 37, 38, 39, 40, 41, 42, 43, 44, 45, 46, 47] (by decide +kernel) (by decide +kernel)
set_option maxRecDepth 20000 in
theorem gX7_pass_X7_wet : GoodIn wsX7_pass (wsV RX7 74 RX7 yX7_wet wsX7_wet) := goodIn_app (goodIn_of _ (by decide +kernel)) ggX7_pass_X7_wet
set_option maxRecDepth 20000 in
theorem ggX7_pass_X7_work : GoodIn wsX7_pass wsX7_work := goodIn_r _ [16, 17, 18, 19, 20, 5, 21, 22, 23, 24, 25, 26, 27, 28, 29, 10, 30, 31, 32, 33, 34, 35, 36, 37, 38, 39, 40, 41, 42, 43, 44, 45, 46, 47] (by decide +kernel) (by decide +kernel)
set_option maxRecDepth 20000 in
theorem gX7_pass_X7_work : GoodIn wsX7_pass (wsV RX7 78 RX7 yX7_work wsX7_work) := goodIn_app (goodIn_of _ (by decide +kernel)) ggX7_pass_X7_work
theorem dX7_pass_0 : decode cX7_pass 0 = .ok (.aload_n 1, 1) := by decide +kernel
theorem dX7_pass_1 : decode cX7_pass 1 = .ok (.getfield 71, 3) := by decide +kernel
theorem dX7_pass_4 : decode cX7_pass 4 = .ok (.bipush 24, 2) := by decide +kernel
theorem dX7_pass_6 : decode cX7_pass 6 = .ok (.irem, 1) := by decide +kernel
theorem dX7_pass_7 : decode cX7_pass 7 = .ok (.istore_n 2, 1) := by decide +kernel
theorem dX7_pass_8 : decode cX7_pass 8 = .ok (.iconst 0, 1) := by decide +kernel
theorem dX7_pass_9 : decode cX7_pass 9 = .ok (.istore_n 3, 1) := by decide +kernel
theorem dX7_pass_10 : decode cX7_pass 10 = .ok (.iload_n 3, 1) := by decide +kernel
theorem dX7_pass_11 : decode cX7_pass 11 = .ok (.aload_n 0, 1) := by decide +kernel
theorem dX7_pass_12 : decode cX7_pass 12 = .ok (.getfield 49, 3) := by decide +kernel
theorem dX7_pass_15 : decode cX7_pass 15 = .ok (.if_icmp .ge 20, 3) := by decide +kernel
theorem dX7_pass_18 : decode cX7_pass 18 = .ok (.aload_n 0, 1) := by decide +kernel
theorem dX7_pass_19 : decode cX7_pass 19 = .ok (.aload_n 1, 1) := by decide +kernel
theorem dX7_pass_20 : decode cX7_pass 20 = .ok (.iload_n 3, 1) := by decide +kernel
theorem dX7_pass_21 : decode cX7_pass 21 = .ok (.aload_n 0, 1) := by decide +kernel
theorem dX7_pass_22 : decode cX7_pass 22 = .ok (.iload_n 2, 1) := by decide +kernel
theorem dX7_pass_23 : decode cX7_pass 23 = .ok (.invokevirtual 74, 3) := by decide +kernel
theorem dX7_pass_26 : decode cX7_pass 26 = .ok (.invokevirtual 78, 3) := by decide +kernel
theorem dX7_pass_29 : decode cX7_pass 29 = .ok (.iinc 3 1, 3) := by decide +kernel
theorem dX7_pass_32 : decode cX7_pass 32 = .ok (.goto (-22), 3) := by decide +kernel
theorem dX7_pass_35 : decode cX7_pass 35 = .ok (.iconst 0, 1) := by decide +kernel
theorem dX7_pass_36 : decode cX7_pass 36 = .ok (.istore_n 3, 1) := by decide +kernel
theorem dX7_pass_37 : decode cX7_pass 37 = .ok (.iload_n 3, 1) := by decide +kernel
theorem dX7_pass_38 : decode cX7_pass 38 = .ok (.bipush 20, 2) := by decide +kernel
theorem dX7_pass_40 : decode cX7_pass 40 = .ok (.if_icmp .ge 59, 3) := by decide +kernel
theorem dX7_pass_43 : decode cX7_pass 43 = .ok (.aload_n 0, 1) := by decide +kernel
theorem dX7_pass_44 : decode cX7_pass 44 = .ok (.getfield 9, 3) := by decide +kernel
theorem dX7_pass_47 : decode cX7_pass 47 = .ok (.iload_n 2, 1) := by decide +kernel
theorem dX7_pass_48 : decode cX7_pass 48 = .ok (.iaload, 1) := by decide +kernel
theorem dX7_pass_49 : decode cX7_pass 49 = .ok (.ifCond .le 50, 3) := by decide +kernel
theorem dX7_pass_52 : decode cX7_pass 52 = .ok (.aload_n 1, 1) := by decide +kernel
theorem dX7_pass_53 : decode cX7_pass 53 = .ok (.getfield 82, 3) := by decide +kernel
theorem dX7_pass_56 : decode cX7_pass 56 = .ok (.iload_n 3, 1) := by decide +kernel
theorem dX7_pass_57 : decode cX7_pass 57 = .ok (.iconst 0, 1) := by decide +kernel
theorem dX7_pass_58 : decode cX7_pass 58 = .ok (.aload_n 1, 1) := by decide +kernel
theorem dX7_pass_59 : decode cX7_pass 59 = .ok (.getfield 82, 3) := by decide +kernel
theorem dX7_pass_62 : decode cX7_pass 62 = .ok (.iload_n 3, 1) := by decide +kernel
theorem dX7_pass_63 : decode cX7_pass 63 = .ok (.iaload, 1) := by decide +kernel
theorem dX7_pass_64 : decode cX7_pass 64 = .ok (.aload_n 0, 1) := by decide +kernel
theorem dX7_pass_65 : decode cX7_pass 65 = .ok (.getfield 9, 3) := by decide +kernel
theorem dX7_pass_68 : decode cX7_pass 68 = .ok (.iload_n 2, 1) := by decide +kernel
theorem dX7_pass_69 : decode cX7_pass 69 = .ok (.iaload, 1) := by decide +kernel
theorem dX7_pass_70 : decode cX7_pass 70 = .ok (.isub, 1) := by decide +kernel
theorem dX7_pass_71 : decode cX7_pass 71 = .ok (.invokestatic 85, 3) := by decide +kernel
theorem dX7_pass_74 : decode cX7_pass 74 = .ok (.iastore, 1) := by decide +kernel
theorem dX7_pass_75 : decode cX7_pass 75 = .ok (.aload_n 1, 1) := by decide +kernel
theorem dX7_pass_76 : decode cX7_pass 76 = .ok (.getfield 58, 3) := by decide +kernel
theorem dX7_pass_79 : decode cX7_pass 79 = .ok (.iload_n 3, 1) := by decide +kernel
theorem dX7_pass_80 : decode cX7_pass 80 = .ok (.iconst 0, 1) := by decide +kernel
theorem dX7_pass_81 : decode cX7_pass 81 = .ok (.aload_n 1, 1) := by decide +kernel
theorem dX7_pass_82 : decode cX7_pass 82 = .ok (.getfield 58, 3) := by decide +kernel
theorem dX7_pass_85 : decode cX7_pass 85 = .ok (.iload_n 3, 1) := by decide +kernel
theorem dX7_pass_86 : decode cX7_pass 86 = .ok (.iaload, 1) := by decide +kernel
theorem dX7_pass_87 : decode cX7_pass 87 = .ok (.iconst 1, 1) := by decide +kernel
theorem dX7_pass_88 : decode cX7_pass 88 = .ok (.isub, 1) := by decide +kernel
theorem dX7_pass_89 : decode cX7_pass 89 = .ok (.invokestatic 85, 3) := by decide +kernel
theorem dX7_pass_92 : decode cX7_pass 92 = .ok (.iastore, 1) := by decide +kernel
theorem dX7_pass_93 : decode cX7_pass 93 = .ok (.iinc 3 1, 3) := by decide +kernel
theorem dX7_pass_96 : decode cX7_pass 96 = .ok (.goto (-59), 3) := by decide +kernel
theorem dX7_pass_99 : decode cX7_pass 99 = .ok (.aload_n 1, 1) := by decide +kernel
theorem dX7_pass_100 : decode cX7_pass 100 = .ok (.dup, 1) := by decide +kernel
theorem dX7_pass_101 : decode cX7_pass 101 = .ok (.getfield 71, 3) := by decide +kernel
theorem dX7_pass_104 : decode cX7_pass 104 = .ok (.iconst 1, 1) := by decide +kernel
theorem dX7_pass_105 : decode cX7_pass 105 = .ok (.iadd, 1) := by decide +kernel
theorem dX7_pass_106 : decode cX7_pass 106 = .ok (.putfield 71, 3) := by decide +kernel
theorem dX7_pass_109 : decode cX7_pass 109 = .ok (.return_, 1) := by decide +kernel
set_option maxRecDepth 20000 in
theorem ggX7_setWeather_X7_isIn : GoodIn wsX7_setWeather wsX7_isIn := goodIn_r _ [8] (by decide +kernel) (by decide +kernel)
set_option maxRecDepth 20000 in
theorem gX7_setWeather_X7_isIn : GoodIn wsX7_setWeather (va_wsS RX7 45 yX7_isIn wsX7_isIn) := goodIn_app (goodIn_of _ (by decide +kernel)) ggX7_setWeather_X7_isIn
set_option maxRecDepth 20000 in
theorem ggX7_setWeather_X7_no : GoodIn wsX7_setWeather wsX7_no := goodIn_r _ [12, 1, 17, 18, 19, 20, 21, 22, 23, 24, 25, 26, 27, 28] (by decide +kernel) (by decide +kernel)
set_option maxRecDepth 20000 in
theorem gX7_setWeather_X7_no : GoodIn wsX7_setWeather (wsV RX7 88 RX7 yX7_no wsX7_no) := goodIn_app (goodIn_of _ (by decide +kernel)) ggX7_setWeather_X7_no
set_option maxRecDepth 20000 in
theorem ggX7_setWeather_X7_wet : GoodIn wsX7_setWeather wsX7_wet := goodIn_r _ [16, 2, 3, 17, 18, 19, 20, 21, 22, 23, 24, 25, 26, 27, 28] (by decide +kernel) (by decide +kernel)
set_option maxRecDepth 20000 in
theorem gX7_setWeather_X7_wet : GoodIn wsX7_setWeather (wsV RX7 74 RX7 yX7_wet wsX7_wet) := goodIn_app (goodIn_of _ (by decide +kernel)) ggX7_setWeather_X7_wet
theorem dX7_setWeather_0 : decode cX7_setWeather 0 = .ok (.aload_n 0, 1) := by decide +kernel
theorem dX7_setWeather_1 : decode cX7_setWeather 1 = .ok (.iconst 0, 1) := by decide +kernel
theorem dX7_setWeather_2 : decode cX7_setWeather 2 = .ok (.putfield 41, 3) := by decide +kernel
theorem dX7_setWeather_5 : decode cX7_setWeather 5 = .ok (.iload_n 1, 1) := by decide +kernel
theorem dX7_setWeather_6 : decode cX7_setWeather 6 = .ok (.iconst 0, 1) := by decide +kernel
theorem dX7_setWeather_7 : decode cX7_setWeather 7 = .ok (.bipush 23, 2) := by decide +kernel
theorem dX7_setWeather_9 : decode cX7_setWeather 9 = .ok (.invokestatic 45, 3) := by decide +kernel
theorem dX7_setWeather_12 : decode cX7_setWeather 12 = .ok (.ifCond .ne 9, 3) := by decide +kernel
theorem dX7_setWeather_15 : decode cX7_setWeather 15 = .ok (.aload_n 0, 1) := by decide +kernel
theorem dX7_setWeather_16 : decode cX7_setWeather 16 = .ok (.iconst 1, 1) := by decide +kernel
theorem dX7_setWeather_17 : decode cX7_setWeather 17 = .ok (.invokevirtual 88, 3) := by decide +kernel
theorem dX7_setWeather_20 : decode cX7_setWeather 20 = .ok (.ireturn, 1) := by decide +kernel
theorem dX7_setWeather_21 : decode cX7_setWeather 21 = .ok (.iload_n 2, 1) := by decide +kernel
theorem dX7_setWeather_22 : decode cX7_setWeather 22 = .ok (.bipush (-30), 2) := by decide +kernel
theorem dX7_setWeather_24 : decode cX7_setWeather 24 = .ok (.bipush 20, 2) := by decide +kernel
theorem dX7_setWeather_26 : decode cX7_setWeather 26 = .ok (.invokestatic 45, 3) := by decide +kernel
theorem dX7_setWeather_29 : decode cX7_setWeather 29 = .ok (.ifCond .eq 25, 3) := by decide +kernel
theorem dX7_setWeather_32 : decode cX7_setWeather 32 = .ok (.iload_n 3, 1) := by decide +kernel
theorem dX7_setWeather_33 : decode cX7_setWeather 33 = .ok (.iconst 0, 1) := by decide +kernel
theorem dX7_setWeather_34 : decode cX7_setWeather 34 = .ok (.bipush 100, 2) := by decide +kernel
theorem dX7_setWeather_36 : decode cX7_setWeather 36 = .ok (.invokestatic 45, 3) := by decide +kernel
theorem dX7_setWeather_39 : decode cX7_setWeather 39 = .ok (.ifCond .eq 15, 3) := by decide +kernel
theorem dX7_setWeather_42 : decode cX7_setWeather 42 = .ok (.iload 4, 2) := by decide +kernel
theorem dX7_setWeather_44 : decode cX7_setWeather 44 = .ok (.bipush (-9), 2) := by decide +kernel
theorem dX7_setWeather_46 : decode cX7_setWeather 46 = .ok (.bipush 9, 2) := by decide +kernel
theorem dX7_setWeather_48 : decode cX7_setWeather 48 = .ok (.invokestatic 45, 3) := by decide +kernel
theorem dX7_setWeather_51 : decode cX7_setWeather 51 = .ok (.ifCond .ne 9, 3) := by decide +kernel
theorem dX7_setWeather_54 : decode cX7_setWeather 54 = .ok (.aload_n 0, 1) := by decide +kernel
theorem dX7_setWeather_55 : decode cX7_setWeather 55 = .ok (.iconst 2, 1) := by decide +kernel
theorem dX7_setWeather_56 : decode cX7_setWeather 56 = .ok (.invokevirtual 88, 3) := by decide +kernel
theorem dX7_setWeather_59 : decode cX7_setWeather 59 = .ok (.ireturn, 1) := by decide +kernel
theorem dX7_setWeather_60 : decode cX7_setWeather 60 = .ok (.aload_n 0, 1) := by decide +kernel
theorem dX7_setWeather_61 : decode cX7_setWeather 61 = .ok (.getfield 9, 3) := by decide +kernel
theorem dX7_setWeather_64 : decode cX7_setWeather 64 = .ok (.iload_n 1, 1) := by decide +kernel
theorem dX7_setWeather_65 : decode cX7_setWeather 65 = .ok (.iload_n 2, 1) := by decide +kernel
theorem dX7_setWeather_66 : decode cX7_setWeather 66 = .ok (.iastore, 1) := by decide +kernel
theorem dX7_setWeather_67 : decode cX7_setWeather 67 = .ok (.aload_n 0, 1) := by decide +kernel
theorem dX7_setWeather_68 : decode cX7_setWeather 68 = .ok (.getfield 13, 3) := by decide +kernel
theorem dX7_setWeather_71 : decode cX7_setWeather 71 = .ok (.iload_n 1, 1) := by decide +kernel
theorem dX7_setWeather_72 : decode cX7_setWeather 72 = .ok (.iload_n 3, 1) := by decide +kernel
theorem dX7_setWeather_73 : decode cX7_setWeather 73 = .ok (.iastore, 1) := by decide +kernel
theorem dX7_setWeather_74 : decode cX7_setWeather 74 = .ok (.aload_n 0, 1) := by decide +kernel
theorem dX7_setWeather_75 : decode cX7_setWeather 75 = .ok (.getfield 16, 3) := by decide +kernel
theorem dX7_setWeather_78 : decode cX7_setWeather 78 = .ok (.iload_n 1, 1) := by decide +kernel
theorem dX7_setWeather_79 : decode cX7_setWeather 79 = .ok (.iload 4, 2) := by decide +kernel
theorem dX7_setWeather_81 : decode cX7_setWeather 81 = .ok (.iastore, 1) := by decide +kernel
theorem dX7_setWeather_82 : decode cX7_setWeather 82 = .ok (.aload_n 0, 1) := by decide +kernel
theorem dX7_setWeather_83 : decode cX7_setWeather 83 = .ok (.iload_n 1, 1) := by decide +kernel
theorem dX7_setWeather_84 : decode cX7_setWeather 84 = .ok (.invokevirtual 74, 3) := by decide +kernel
theorem dX7_setWeather_87 : decode cX7_setWeather 87 = .ok (.ireturn, 1) := by decide +kernel
set_option maxRecDepth 20000 in
theorem ggX7_pump_X7_isPart : GoodIn wsX7_pump wsX7_isPart := goodIn_r _ [8, 9, 10, 7, 11] (by decide +kernel) (by decide +kernel)
set_option maxRecDepth 20000 in
theorem gX7_pump_X7_isPart : GoodIn wsX7_pump (va_wsS RX7 91 yX7_isPart wsX7_isPart) := goodIn_app (goodIn_of _ (by decide +kernel)) ggX7_pump_X7_isPart
set_option maxRecDepth 20000 in
theorem ggX7_pump_X7_no : GoodIn wsX7_pump wsX7_no := goodIn_r _ [15, 1, 16, 17, 18, 19, 20, 21, 22, 23, 24, 25, 26, 27] (by decide +kernel) (by decide +kernel)
set_option maxRecDepth 20000 in
theorem gX7_pump_X7_no : GoodIn wsX7_pump (wsV RX7 88 RX7 yX7_no wsX7_no) := goodIn_app (goodIn_of _ (by decide +kernel)) ggX7_pump_X7_no
set_option maxRecDepth 20000 in
theorem ggX7_pump_X7_isIn : GoodIn wsX7_pump wsX7_isIn := goodIn_r _ [11] (by decide +kernel) (by decide +kernel)
set_option maxRecDepth 20000 in
theorem gX7_pump_X7_isIn : GoodIn wsX7_pump (va_wsS RX7 45 yX7_isIn wsX7_isIn) := goodIn_app (goodIn_of _ (by decide +kernel)) ggX7_pump_X7_isIn
theorem dX7_pump_0 : decode cX7_pump 0 = .ok (.aload_n 0, 1) := by decide +kernel
theorem dX7_pump_1 : decode cX7_pump 1 = .ok (.iconst 0, 1) := by decide +kernel
theorem dX7_pump_2 : decode cX7_pump 2 = .ok (.putfield 41, 3) := by decide +kernel
theorem dX7_pump_5 : decode cX7_pump 5 = .ok (.iload_n 1, 1) := by decide +kernel
theorem dX7_pump_6 : decode cX7_pump 6 = .ok (.invokestatic 91, 3) := by decide +kernel
theorem dX7_pump_9 : decode cX7_pump 9 = .ok (.ifCond .ne 9, 3) := by decide +kernel
theorem dX7_pump_12 : decode cX7_pump 12 = .ok (.aload_n 0, 1) := by decide +kernel
theorem dX7_pump_13 : decode cX7_pump 13 = .ok (.iconst 1, 1) := by decide +kernel
theorem dX7_pump_14 : decode cX7_pump 14 = .ok (.invokevirtual 88, 3) := by decide +kernel
theorem dX7_pump_17 : decode cX7_pump 17 = .ok (.ireturn, 1) := by decide +kernel
theorem dX7_pump_18 : decode cX7_pump 18 = .ok (.iload_n 2, 1) := by decide +kernel
theorem dX7_pump_19 : decode cX7_pump 19 = .ok (.iconst 1, 1) := by decide +kernel
theorem dX7_pump_20 : decode cX7_pump 20 = .ok (.bipush 9, 2) := by decide +kernel
theorem dX7_pump_22 : decode cX7_pump 22 = .ok (.invokestatic 45, 3) := by decide +kernel
theorem dX7_pump_25 : decode cX7_pump 25 = .ok (.ifCond .ne 9, 3) := by decide +kernel
theorem dX7_pump_28 : decode cX7_pump 28 = .ok (.aload_n 0, 1) := by decide +kernel
theorem dX7_pump_29 : decode cX7_pump 29 = .ok (.iconst 2, 1) := by decide +kernel
theorem dX7_pump_30 : decode cX7_pump 30 = .ok (.invokevirtual 88, 3) := by decide +kernel
theorem dX7_pump_33 : decode cX7_pump 33 = .ok (.ireturn, 1) := by decide +kernel
theorem dX7_pump_34 : decode cX7_pump 34 = .ok (.aload_n 0, 1) := by decide +kernel
theorem dX7_pump_35 : decode cX7_pump 35 = .ok (.getfield 49, 3) := by decide +kernel
theorem dX7_pump_38 : decode cX7_pump 38 = .ok (.iconst 5, 1) := by decide +kernel
theorem dX7_pump_39 : decode cX7_pump 39 = .ok (.if_icmp .ne 9, 3) := by decide +kernel
theorem dX7_pump_42 : decode cX7_pump 42 = .ok (.aload_n 0, 1) := by decide +kernel
theorem dX7_pump_43 : decode cX7_pump 43 = .ok (.iconst 3, 1) := by decide +kernel
theorem dX7_pump_44 : decode cX7_pump 44 = .ok (.invokevirtual 88, 3) := by decide +kernel
theorem dX7_pump_47 : decode cX7_pump 47 = .ok (.ireturn, 1) := by decide +kernel
theorem dX7_pump_48 : decode cX7_pump 48 = .ok (.aload_n 0, 1) := by decide +kernel
theorem dX7_pump_49 : decode cX7_pump 49 = .ok (.getfield 19, 3) := by decide +kernel
theorem dX7_pump_52 : decode cX7_pump 52 = .ok (.aload_n 0, 1) := by decide +kernel
theorem dX7_pump_53 : decode cX7_pump 53 = .ok (.getfield 49, 3) := by decide +kernel
theorem dX7_pump_56 : decode cX7_pump 56 = .ok (.iload_n 1, 1) := by decide +kernel
theorem dX7_pump_57 : decode cX7_pump 57 = .ok (.iastore, 1) := by decide +kernel
theorem dX7_pump_58 : decode cX7_pump 58 = .ok (.aload_n 0, 1) := by decide +kernel
theorem dX7_pump_59 : decode cX7_pump 59 = .ok (.getfield 22, 3) := by decide +kernel
theorem dX7_pump_62 : decode cX7_pump 62 = .ok (.aload_n 0, 1) := by decide +kernel
theorem dX7_pump_63 : decode cX7_pump 63 = .ok (.getfield 49, 3) := by decide +kernel
theorem dX7_pump_66 : decode cX7_pump 66 = .ok (.iload_n 2, 1) := by decide +kernel
theorem dX7_pump_67 : decode cX7_pump 67 = .ok (.iastore, 1) := by decide +kernel
theorem dX7_pump_68 : decode cX7_pump 68 = .ok (.aload_n 0, 1) := by decide +kernel
theorem dX7_pump_69 : decode cX7_pump 69 = .ok (.dup, 1) := by decide +kernel
theorem dX7_pump_70 : decode cX7_pump 70 = .ok (.getfield 49, 3) := by decide +kernel
theorem dX7_pump_73 : decode cX7_pump 73 = .ok (.iconst 1, 1) := by decide +kernel
theorem dX7_pump_74 : decode cX7_pump 74 = .ok (.iadd, 1) := by decide +kernel
theorem dX7_pump_75 : decode cX7_pump 75 = .ok (.putfield 49, 3) := by decide +kernel
theorem dX7_pump_78 : decode cX7_pump 78 = .ok (.aload_n 0, 1) := by decide +kernel
theorem dX7_pump_79 : decode cX7_pump 79 = .ok (.getfield 49, 3) := by decide +kernel
theorem dX7_pump_82 : decode cX7_pump 82 = .ok (.iconst 1, 1) := by decide +kernel
theorem dX7_pump_83 : decode cX7_pump 83 = .ok (.isub, 1) := by decide +kernel
theorem dX7_pump_84 : decode cX7_pump 84 = .ok (.ireturn, 1) := by decide +kernel
set_option maxRecDepth 20000 in
theorem ggX7_run_X7_isPump : GoodIn wsX7_run wsX7_isPump := goodIn_r _ [7, 8, 9, 10, 6, 11, 12, 13, 14, 15, 16, 17, 18, 19, 20, 21, 22, 23] (by decide +kernel) (by decide +kernel)
set_option maxRecDepth 20000 in
theorem gX7_run_X7_isPump : GoodIn wsX7_run (wsV RX7 95 RX7 yX7_isPump wsX7_isPump) := goodIn_app (goodIn_of _ (by decide +kernel)) ggX7_run_X7_isPump
theorem dX7_run_0 : decode cX7_run 0 = .ok (.aload_n 0, 1) := by decide +kernel
theorem dX7_run_1 : decode cX7_run 1 = .ok (.aload_n 0, 1) := by decide +kernel
theorem dX7_run_2 : decode cX7_run 2 = .ok (.iload_n 1, 1) := by decide +kernel
theorem dX7_run_3 : decode cX7_run 3 = .ok (.invokevirtual 95, 3) := by decide +kernel
theorem dX7_run_6 : decode cX7_run 6 = .ok (.ifCond .eq 7, 3) := by decide +kernel
theorem dX7_run_9 : decode cX7_run 9 = .ok (.iconst 0, 1) := by decide +kernel
theorem dX7_run_10 : decode cX7_run 10 = .ok (.goto 4, 3) := by decide +kernel
theorem dX7_run_13 : decode cX7_run 13 = .ok (.iconst 1, 1) := by decide +kernel
theorem dX7_run_14 : decode cX7_run 14 = .ok (.putfield 41, 3) := by decide +kernel
theorem dX7_run_17 : decode cX7_run 17 = .ok (.aload_n 0, 1) := by decide +kernel
theorem dX7_run_18 : decode cX7_run 18 = .ok (.getfield 41, 3) := by decide +kernel
theorem dX7_run_21 : decode cX7_run 21 = .ok (.ifCond .eq 5, 3) := by decide +kernel
theorem dX7_run_24 : decode cX7_run 24 = .ok (.iconst 0, 1) := by decide +kernel
theorem dX7_run_25 : decode cX7_run 25 = .ok (.ireturn, 1) := by decide +kernel
theorem dX7_run_26 : decode cX7_run 26 = .ok (.aload_n 0, 1) := by decide +kernel
theorem dX7_run_27 : decode cX7_run 27 = .ok (.getfield 34, 3) := by decide +kernel
theorem dX7_run_30 : decode cX7_run 30 = .ok (.getfield 52, 3) := by decide +kernel
theorem dX7_run_33 : decode cX7_run 33 = .ok (.iload_n 1, 1) := by decide +kernel
theorem dX7_run_34 : decode cX7_run 34 = .ok (.iconst 1, 1) := by decide +kernel
theorem dX7_run_35 : decode cX7_run 35 = .ok (.aload_n 0, 1) := by decide +kernel
theorem dX7_run_36 : decode cX7_run 36 = .ok (.getfield 34, 3) := by decide +kernel
theorem dX7_run_39 : decode cX7_run 39 = .ok (.getfield 52, 3) := by decide +kernel
theorem dX7_run_42 : decode cX7_run 42 = .ok (.iload_n 1, 1) := by decide +kernel
theorem dX7_run_43 : decode cX7_run 43 = .ok (.iaload, 1) := by decide +kernel
theorem dX7_run_44 : decode cX7_run 44 = .ok (.isub, 1) := by decide +kernel
theorem dX7_run_45 : decode cX7_run 45 = .ok (.iastore, 1) := by decide +kernel
theorem dX7_run_46 : decode cX7_run 46 = .ok (.aload_n 0, 1) := by decide +kernel
theorem dX7_run_47 : decode cX7_run 47 = .ok (.getfield 34, 3) := by decide +kernel
theorem dX7_run_50 : decode cX7_run 50 = .ok (.getfield 52, 3) := by decide +kernel
theorem dX7_run_53 : decode cX7_run 53 = .ok (.iload_n 1, 1) := by decide +kernel
theorem dX7_run_54 : decode cX7_run 54 = .ok (.iaload, 1) := by decide +kernel
theorem dX7_run_55 : decode cX7_run 55 = .ok (.iconst 1, 1) := by decide +kernel
theorem dX7_run_56 : decode cX7_run 56 = .ok (.if_icmp .ne 7, 3) := by decide +kernel
theorem dX7_run_59 : decode cX7_run 59 = .ok (.iconst 1, 1) := by decide +kernel
theorem dX7_run_60 : decode cX7_run 60 = .ok (.goto 4, 3) := by decide +kernel
theorem dX7_run_63 : decode cX7_run 63 = .ok (.iconst 0, 1) := by decide +kernel
theorem dX7_run_64 : decode cX7_run 64 = .ok (.ireturn, 1) := by decide +kernel
set_option maxRecDepth 20000 in
theorem ggX7_fill_X7_isIn : GoodIn wsX7_fill wsX7_isIn := goodIn_r _ [10] (by decide +kernel) (by decide +kernel)
set_option maxRecDepth 20000 in
theorem gX7_fill_X7_isIn : GoodIn wsX7_fill (va_wsS RX7 45 yX7_isIn wsX7_isIn) := goodIn_app (goodIn_of _ (by decide +kernel)) ggX7_fill_X7_isIn
set_option maxRecDepth 20000 in
theorem ggX7_fill_X7_no : GoodIn wsX7_fill wsX7_no := goodIn_r _ [14, 1, 15, 16, 17, 18, 19, 20, 21, 22, 23, 24, 25, 26] (by decide +kernel) (by decide +kernel)
set_option maxRecDepth 20000 in
theorem gX7_fill_X7_no : GoodIn wsX7_fill (wsV RX7 88 RX7 yX7_no wsX7_no) := goodIn_app (goodIn_of _ (by decide +kernel)) ggX7_fill_X7_no
theorem dX7_fill_0 : decode cX7_fill 0 = .ok (.aload_n 0, 1) := by decide +kernel
theorem dX7_fill_1 : decode cX7_fill 1 = .ok (.iconst 0, 1) := by decide +kernel
theorem dX7_fill_2 : decode cX7_fill 2 = .ok (.putfield 41, 3) := by decide +kernel
theorem dX7_fill_5 : decode cX7_fill 5 = .ok (.iload_n 1, 1) := by decide +kernel
theorem dX7_fill_6 : decode cX7_fill 6 = .ok (.iconst 1, 1) := by decide +kernel
theorem dX7_fill_7 : decode cX7_fill 7 = .ok (.sipush 9999, 3) := by decide +kernel
theorem dX7_fill_10 : decode cX7_fill 10 = .ok (.invokestatic 45, 3) := by decide +kernel
theorem dX7_fill_13 : decode cX7_fill 13 = .ok (.ifCond .ne 9, 3) := by decide +kernel
theorem dX7_fill_16 : decode cX7_fill 16 = .ok (.aload_n 0, 1) := by decide +kernel
theorem dX7_fill_17 : decode cX7_fill 17 = .ok (.iconst 1, 1) := by decide +kernel
theorem dX7_fill_18 : decode cX7_fill 18 = .ok (.invokevirtual 88, 3) := by decide +kernel
theorem dX7_fill_21 : decode cX7_fill 21 = .ok (.ireturn, 1) := by decide +kernel
theorem dX7_fill_22 : decode cX7_fill 22 = .ok (.aload_n 0, 1) := by decide +kernel
theorem dX7_fill_23 : decode cX7_fill 23 = .ok (.getfield 34, 3) := by decide +kernel
theorem dX7_fill_26 : decode cX7_fill 26 = .ok (.sipush 9999, 3) := by decide +kernel
theorem dX7_fill_29 : decode cX7_fill 29 = .ok (.aload_n 0, 1) := by decide +kernel
theorem dX7_fill_30 : decode cX7_fill 30 = .ok (.getfield 34, 3) := by decide +kernel
theorem dX7_fill_33 : decode cX7_fill 33 = .ok (.getfield 55, 3) := by decide +kernel
theorem dX7_fill_36 : decode cX7_fill 36 = .ok (.iload_n 1, 1) := by decide +kernel
theorem dX7_fill_37 : decode cX7_fill 37 = .ok (.iadd, 1) := by decide +kernel
theorem dX7_fill_38 : decode cX7_fill 38 = .ok (.invokestatic 61, 3) := by decide +kernel
theorem dX7_fill_41 : decode cX7_fill 41 = .ok (.putfield 55, 3) := by decide +kernel
theorem dX7_fill_44 : decode cX7_fill 44 = .ok (.aload_n 0, 1) := by decide +kernel
theorem dX7_fill_45 : decode cX7_fill 45 = .ok (.getfield 34, 3) := by decide +kernel
theorem dX7_fill_48 : decode cX7_fill 48 = .ok (.getfield 55, 3) := by decide +kernel
theorem dX7_fill_51 : decode cX7_fill 51 = .ok (.ireturn, 1) := by decide +kernel
set_option maxRecDepth 20000 in
theorem ggX7_groom_X7_isPart : GoodIn wsX7_groom wsX7_isPart := goodIn_r _ [6, 7, 8, 5, 9] (by decide +kernel) (by decide +kernel)
set_option maxRecDepth 20000 in
theorem gX7_groom_X7_isPart : GoodIn wsX7_groom (va_wsS RX7 91 yX7_isPart wsX7_isPart) := goodIn_app (goodIn_of _ (by decide +kernel)) ggX7_groom_X7_isPart
set_option maxRecDepth 20000 in
theorem ggX7_groom_X7_no : GoodIn wsX7_groom wsX7_no := goodIn_r _ [13, 1, 14, 15, 16, 17, 18, 19, 20, 21, 22, 23, 24, 25] (by decide +kernel) (by decide +kernel)
set_option maxRecDepth 20000 in
theorem gX7_groom_X7_no : GoodIn wsX7_groom (wsV RX7 88 RX7 yX7_no wsX7_no) := goodIn_app (goodIn_of _ (by decide +kernel)) ggX7_groom_X7_no
theorem dX7_groom_0 : decode cX7_groom 0 = .ok (.aload_n 0, 1) := by decide +kernel
theorem dX7_groom_1 : decode cX7_groom 1 = .ok (.iconst 0, 1) := by decide +kernel
theorem dX7_groom_2 : decode cX7_groom 2 = .ok (.putfield 41, 3) := by decide +kernel
theorem dX7_groom_5 : decode cX7_groom 5 = .ok (.iload_n 1, 1) := by decide +kernel
theorem dX7_groom_6 : decode cX7_groom 6 = .ok (.invokestatic 91, 3) := by decide +kernel
theorem dX7_groom_9 : decode cX7_groom 9 = .ok (.ifCond .eq 10, 3) := by decide +kernel
theorem dX7_groom_12 : decode cX7_groom 12 = .ok (.iload_n 2, 1) := by decide +kernel
theorem dX7_groom_13 : decode cX7_groom 13 = .ok (.invokestatic 91, 3) := by decide +kernel
theorem dX7_groom_16 : decode cX7_groom 16 = .ok (.ifCond .ne 9, 3) := by decide +kernel
theorem dX7_groom_19 : decode cX7_groom 19 = .ok (.aload_n 0, 1) := by decide +kernel
theorem dX7_groom_20 : decode cX7_groom 20 = .ok (.iconst 1, 1) := by decide +kernel
theorem dX7_groom_21 : decode cX7_groom 21 = .ok (.invokevirtual 88, 3) := by decide +kernel
theorem dX7_groom_24 : decode cX7_groom 24 = .ok (.ireturn, 1) := by decide +kernel
theorem dX7_groom_25 : decode cX7_groom 25 = .ok (.iload_n 1, 1) := by decide +kernel
theorem dX7_groom_26 : decode cX7_groom 26 = .ok (.iload_n 2, 1) := by decide +kernel
theorem dX7_groom_27 : decode cX7_groom 27 = .ok (.if_icmp .le 9, 3) := by decide +kernel
theorem dX7_groom_30 : decode cX7_groom 30 = .ok (.aload_n 0, 1) := by decide +kernel
theorem dX7_groom_31 : decode cX7_groom 31 = .ok (.iconst 2, 1) := by decide +kernel
theorem dX7_groom_32 : decode cX7_groom 32 = .ok (.invokevirtual 88, 3) := by decide +kernel
theorem dX7_groom_35 : decode cX7_groom 35 = .ok (.ireturn, 1) := by decide +kernel
theorem dX7_groom_36 : decode cX7_groom 36 = .ok (.iconst 0, 1) := by decide +kernel
theorem dX7_groom_37 : decode cX7_groom 37 = .ok (.istore_n 3, 1) := by decide +kernel
theorem dX7_groom_38 : decode cX7_groom 38 = .ok (.iload_n 1, 1) := by decide +kernel
theorem dX7_groom_39 : decode cX7_groom 39 = .ok (.istore 4, 2) := by decide +kernel
theorem dX7_groom_41 : decode cX7_groom 41 = .ok (.iload 4, 2) := by decide +kernel
theorem dX7_groom_43 : decode cX7_groom 43 = .ok (.iload_n 2, 1) := by decide +kernel
theorem dX7_groom_44 : decode cX7_groom 44 = .ok (.if_icmp .gt 33, 3) := by decide +kernel
theorem dX7_groom_47 : decode cX7_groom 47 = .ok (.iload_n 3, 1) := by decide +kernel
theorem dX7_groom_48 : decode cX7_groom 48 = .ok (.aload_n 0, 1) := by decide +kernel
theorem dX7_groom_49 : decode cX7_groom 49 = .ok (.getfield 34, 3) := by decide +kernel
theorem dX7_groom_52 : decode cX7_groom 52 = .ok (.getfield 82, 3) := by decide +kernel
theorem dX7_groom_55 : decode cX7_groom 55 = .ok (.iload 4, 2) := by decide +kernel
theorem dX7_groom_57 : decode cX7_groom 57 = .ok (.iaload, 1) := by decide +kernel
theorem dX7_groom_58 : decode cX7_groom 58 = .ok (.iadd, 1) := by decide +kernel
theorem dX7_groom_59 : decode cX7_groom 59 = .ok (.istore_n 3, 1) := by decide +kernel
theorem dX7_groom_60 : decode cX7_groom 60 = .ok (.aload_n 0, 1) := by decide +kernel
theorem dX7_groom_61 : decode cX7_groom 61 = .ok (.getfield 34, 3) := by decide +kernel
theorem dX7_groom_64 : decode cX7_groom 64 = .ok (.getfield 58, 3) := by decide +kernel
theorem dX7_groom_67 : decode cX7_groom 67 = .ok (.iload 4, 2) := by decide +kernel
theorem dX7_groom_69 : decode cX7_groom 69 = .ok (.iconst 0, 1) := by decide +kernel
theorem dX7_groom_70 : decode cX7_groom 70 = .ok (.iastore, 1) := by decide +kernel
theorem dX7_groom_71 : decode cX7_groom 71 = .ok (.iinc 4 1, 3) := by decide +kernel
theorem dX7_groom_74 : decode cX7_groom 74 = .ok (.goto (-33), 3) := by decide +kernel
theorem dX7_groom_77 : decode cX7_groom 77 = .ok (.iload_n 3, 1) := by decide +kernel
theorem dX7_groom_78 : decode cX7_groom 78 = .ok (.istore 4, 2) := by decide +kernel
theorem dX7_groom_80 : decode cX7_groom 80 = .ok (.iload_n 2, 1) := by decide +kernel
theorem dX7_groom_81 : decode cX7_groom 81 = .ok (.istore 5, 2) := by decide +kernel
theorem dX7_groom_83 : decode cX7_groom 83 = .ok (.iload 5, 2) := by decide +kernel
theorem dX7_groom_85 : decode cX7_groom 85 = .ok (.iload_n 1, 1) := by decide +kernel
theorem dX7_groom_86 : decode cX7_groom 86 = .ok (.if_icmp .lt 43, 3) := by decide +kernel
theorem dX7_groom_89 : decode cX7_groom 89 = .ok (.aload_n 0, 1) := by decide +kernel
theorem dX7_groom_90 : decode cX7_groom 90 = .ok (.getfield 34, 3) := by decide +kernel
theorem dX7_groom_93 : decode cX7_groom 93 = .ok (.getfield 82, 3) := by decide +kernel
theorem dX7_groom_96 : decode cX7_groom 96 = .ok (.iload 5, 2) := by decide +kernel
theorem dX7_groom_98 : decode cX7_groom 98 = .ok (.iload 4, 2) := by decide +kernel
theorem dX7_groom_100 : decode cX7_groom 100 = .ok (.iload 5, 2) := by decide +kernel
theorem dX7_groom_102 : decode cX7_groom 102 = .ok (.iload_n 1, 1) := by decide +kernel
theorem dX7_groom_103 : decode cX7_groom 103 = .ok (.isub, 1) := by decide +kernel
theorem dX7_groom_104 : decode cX7_groom 104 = .ok (.iconst 1, 1) := by decide +kernel
theorem dX7_groom_105 : decode cX7_groom 105 = .ok (.iadd, 1) := by decide +kernel
theorem dX7_groom_106 : decode cX7_groom 106 = .ok (.idiv, 1) := by decide +kernel
theorem dX7_groom_107 : decode cX7_groom 107 = .ok (.iastore, 1) := by decide +kernel
theorem dX7_groom_108 : decode cX7_groom 108 = .ok (.iload 4, 2) := by decide +kernel
theorem dX7_groom_110 : decode cX7_groom 110 = .ok (.aload_n 0, 1) := by decide +kernel
theorem dX7_groom_111 : decode cX7_groom 111 = .ok (.getfield 34, 3) := by decide +kernel
theorem dX7_groom_114 : decode cX7_groom 114 = .ok (.getfield 82, 3) := by decide +kernel
theorem dX7_groom_117 : decode cX7_groom 117 = .ok (.iload 5, 2) := by decide +kernel
theorem dX7_groom_119 : decode cX7_groom 119 = .ok (.iaload, 1) := by decide +kernel
theorem dX7_groom_120 : decode cX7_groom 120 = .ok (.isub, 1) := by decide +kernel
theorem dX7_groom_121 : decode cX7_groom 121 = .ok (.istore 4, 2) := by decide +kernel
theorem dX7_groom_123 : decode cX7_groom 123 = .ok (.iinc 5 (-1), 3) := by decide +kernel
theorem dX7_groom_126 : decode cX7_groom 126 = .ok (.goto (-43), 3) := by decide +kernel
theorem dX7_groom_129 : decode cX7_groom 129 = .ok (.iload_n 3, 1) := by decide +kernel
theorem dX7_groom_130 : decode cX7_groom 130 = .ok (.ireturn, 1) := by decide +kernel
set_option maxRecDepth 20000 in
theorem ggX7_judge_X7_isIn : GoodIn wsX7_judge wsX7_isIn := goodIn_r _ [6] (by decide +kernel) (by decide +kernel)
set_option maxRecDepth 20000 in
theorem gX7_judge_X7_isIn : GoodIn wsX7_judge (va_wsS RX7 45 yX7_isIn wsX7_isIn) := goodIn_app (goodIn_of _ (by decide +kernel)) ggX7_judge_X7_isIn
set_option maxRecDepth 20000 in
theorem ggX7_judge_X7_no : GoodIn wsX7_judge wsX7_no := goodIn_r _ [10, 1, 11, 12, 13, 14, 15, 16, 17, 18, 19, 20, 21, 22] (by decide +kernel) (by decide +kernel)
set_option maxRecDepth 20000 in
theorem gX7_judge_X7_no : GoodIn wsX7_judge (wsV RX7 88 RX7 yX7_no wsX7_no) := goodIn_app (goodIn_of _ (by decide +kernel)) ggX7_judge_X7_no
theorem dX7_judge_0 : decode cX7_judge 0 = .ok (.aload_n 0, 1) := by decide +kernel
theorem dX7_judge_1 : decode cX7_judge 1 = .ok (.iconst 0, 1) := by decide +kernel
theorem dX7_judge_2 : decode cX7_judge 2 = .ok (.putfield 41, 3) := by decide +kernel
theorem dX7_judge_5 : decode cX7_judge 5 = .ok (.iload_n 1, 1) := by decide +kernel
theorem dX7_judge_6 : decode cX7_judge 6 = .ok (.iconst 0, 1) := by decide +kernel
theorem dX7_judge_7 : decode cX7_judge 7 = .ok (.iconst 4, 1) := by decide +kernel
theorem dX7_judge_8 : decode cX7_judge 8 = .ok (.invokestatic 45, 3) := by decide +kernel
theorem dX7_judge_11 : decode cX7_judge 11 = .ok (.ifCond .ne 9, 3) := by decide +kernel
theorem dX7_judge_14 : decode cX7_judge 14 = .ok (.aload_n 0, 1) := by decide +kernel
theorem dX7_judge_15 : decode cX7_judge 15 = .ok (.iconst 1, 1) := by decide +kernel
theorem dX7_judge_16 : decode cX7_judge 16 = .ok (.invokevirtual 88, 3) := by decide +kernel
theorem dX7_judge_19 : decode cX7_judge 19 = .ok (.ireturn, 1) := by decide +kernel
theorem dX7_judge_20 : decode cX7_judge 20 = .ok (.iload_n 2, 1) := by decide +kernel
theorem dX7_judge_21 : decode cX7_judge 21 = .ok (.iconst 0, 1) := by decide +kernel
theorem dX7_judge_22 : decode cX7_judge 22 = .ok (.iconst 4, 1) := by decide +kernel
theorem dX7_judge_23 : decode cX7_judge 23 = .ok (.invokestatic 45, 3) := by decide +kernel
theorem dX7_judge_26 : decode cX7_judge 26 = .ok (.ifCond .ne 9, 3) := by decide +kernel
theorem dX7_judge_29 : decode cX7_judge 29 = .ok (.aload_n 0, 1) := by decide +kernel
theorem dX7_judge_30 : decode cX7_judge 30 = .ok (.iconst 2, 1) := by decide +kernel
theorem dX7_judge_31 : decode cX7_judge 31 = .ok (.invokevirtual 88, 3) := by decide +kernel
theorem dX7_judge_34 : decode cX7_judge 34 = .ok (.ireturn, 1) := by decide +kernel
theorem dX7_judge_35 : decode cX7_judge 35 = .ok (.aload_n 0, 1) := by decide +kernel
theorem dX7_judge_36 : decode cX7_judge 36 = .ok (.getfield 25, 3) := by decide +kernel
theorem dX7_judge_39 : decode cX7_judge 39 = .ok (.iload_n 1, 1) := by decide +kernel
theorem dX7_judge_40 : decode cX7_judge 40 = .ok (.iaload, 1) := by decide +kernel
theorem dX7_judge_41 : decode cX7_judge 41 = .ok (.istore_n 3, 1) := by decide +kernel
theorem dX7_judge_42 : decode cX7_judge 42 = .ok (.aload_n 0, 1) := by decide +kernel
theorem dX7_judge_43 : decode cX7_judge 43 = .ok (.getfield 25, 3) := by decide +kernel
theorem dX7_judge_46 : decode cX7_judge 46 = .ok (.iload_n 1, 1) := by decide +kernel
theorem dX7_judge_47 : decode cX7_judge 47 = .ok (.iload_n 2, 1) := by decide +kernel
theorem dX7_judge_48 : decode cX7_judge 48 = .ok (.iastore, 1) := by decide +kernel
theorem dX7_judge_49 : decode cX7_judge 49 = .ok (.iload_n 3, 1) := by decide +kernel
theorem dX7_judge_50 : decode cX7_judge 50 = .ok (.ireturn, 1) := by decide +kernel
theorem dX7_gustNow_0 : decode cX7_gustNow 0 = .ok (.aload_n 0, 1) := by decide +kernel
theorem dX7_gustNow_1 : decode cX7_gustNow 1 = .ok (.getfield 16, 3) := by decide +kernel
theorem dX7_gustNow_4 : decode cX7_gustNow 4 = .ok (.aload_n 0, 1) := by decide +kernel
theorem dX7_gustNow_5 : decode cX7_gustNow 5 = .ok (.getfield 34, 3) := by decide +kernel
theorem dX7_gustNow_8 : decode cX7_gustNow 8 = .ok (.getfield 71, 3) := by decide +kernel
theorem dX7_gustNow_11 : decode cX7_gustNow 11 = .ok (.bipush 24, 2) := by decide +kernel
theorem dX7_gustNow_13 : decode cX7_gustNow 13 = .ok (.irem, 1) := by decide +kernel
theorem dX7_gustNow_14 : decode cX7_gustNow 14 = .ok (.iaload, 1) := by decide +kernel
theorem dX7_gustNow_15 : decode cX7_gustNow 15 = .ok (.ireturn, 1) := by decide +kernel
set_option maxRecDepth 20000 in
theorem ggX7_length_X7_gustNow : GoodIn wsX7_length wsX7_gustNow := goodIn_r _ [12, 13, 14, 15, 16, 17, 18, 19, 20, 21, 22, 23, 24, 25, 26, 27, 28, 29, 30, 31] (by decide +kernel) (by decide +kernel)
set_option maxRecDepth 20000 in
theorem gX7_length_X7_gustNow : GoodIn wsX7_length (wsV RX7 98 RX7 yX7_gustNow wsX7_gustNow) := goodIn_app (goodIn_of _ (by decide +kernel)) ggX7_length_X7_gustNow
theorem dX7_length_0 : decode cX7_length 0 = .ok (.iconst 0, 1) := by decide +kernel
theorem dX7_length_1 : decode cX7_length 1 = .ok (.bipush 99, 2) := by decide +kernel
theorem dX7_length_3 : decode cX7_length 3 = .ok (.iconst 4, 1) := by decide +kernel
theorem dX7_length_4 : decode cX7_length 4 = .ok (.iload_n 1, 1) := by decide +kernel
theorem dX7_length_5 : decode cX7_length 5 = .ok (.imul, 1) := by decide +kernel
theorem dX7_length_6 : decode cX7_length 6 = .ok (.iconst 2, 1) := by decide +kernel
theorem dX7_length_7 : decode cX7_length 7 = .ok (.aload_n 0, 1) := by decide +kernel
theorem dX7_length_8 : decode cX7_length 8 = .ok (.invokevirtual 98, 3) := by decide +kernel
theorem dX7_length_11 : decode cX7_length 11 = .ok (.imul, 1) := by decide +kernel
theorem dX7_length_12 : decode cX7_length 12 = .ok (.iadd, 1) := by decide +kernel
theorem dX7_length_13 : decode cX7_length 13 = .ok (.iload_n 2, 1) := by decide +kernel
theorem dX7_length_14 : decode cX7_length 14 = .ok (.iconst 4, 1) := by decide +kernel
theorem dX7_length_15 : decode cX7_length 15 = .ok (.idiv, 1) := by decide +kernel
theorem dX7_length_16 : decode cX7_length 16 = .ok (.iadd, 1) := by decide +kernel
theorem dX7_length_17 : decode cX7_length 17 = .ok (.invokestatic 61, 3) := by decide +kernel
theorem dX7_length_20 : decode cX7_length 20 = .ok (.invokestatic 85, 3) := by decide +kernel
theorem dX7_length_23 : decode cX7_length 23 = .ok (.ireturn, 1) := by decide +kernel
set_option maxRecDepth 20000 in
theorem ggX7_jump_X7_isIn : GoodIn wsX7_jump wsX7_isIn := goodIn_r _ [24] (by decide +kernel) (by decide +kernel)
set_option maxRecDepth 20000 in
theorem gX7_jump_X7_isIn : GoodIn wsX7_jump (va_wsS RX7 45 yX7_isIn wsX7_isIn) := goodIn_app (goodIn_of _ (by decide +kernel)) ggX7_jump_X7_isIn
set_option maxRecDepth 20000 in
theorem ggX7_jump_X7_no : GoodIn wsX7_jump wsX7_no := goodIn_r _ [28, 1, 45, 46, 47, 48, 49, 50, 51, 52, 53, 54, 55, 56] (by decide +kernel) (by decide +kernel)
set_option maxRecDepth 20000 in
theorem gX7_jump_X7_no : GoodIn wsX7_jump (wsV RX7 88 RX7 yX7_no wsX7_no) := goodIn_app (goodIn_of _ (by decide +kernel)) ggX7_jump_X7_no
set_option maxRecDepth 20000 in
theorem ggX7_jump_X7_length : GoodIn wsX7_jump wsX7_length := goodIn_r _ [32, 9, 10, 7, 11, 12, 13, 14, 33, 34, 35, 23, 36, 37, 3, 45, 46, 47, 48, 49, 50, 51, 52, 53, 54, 55, 56, 57, 58, 59, 60, 61] (by decide +kernel) (by decide +kernel)
set_option maxRecDepth 20000 in
theorem gX7_jump_X7_length : GoodIn wsX7_jump (wsV RX7 105 RX7 yX7_length wsX7_length) := goodIn_app (goodIn_of _ (by decide +kernel)) ggX7_jump_X7_length
set_option maxRecDepth 20000 in
theorem ggX7_jump_X6_isBad : GoodIn wsX7_jump wsX6_isBad := goodIn_r _ [42, 43, 44, 57, 58, 59, 60, 61] (by decide +kernel) (by decide +kernel)
set_option maxRecDepth 20000 in
theorem gX7_jump_X6_isBad : GoodIn wsX7_jump (wsV RX7 108 RX6 yX6_isBad wsX6_isBad) := goodIn_app (goodIn_of _ (by decide +kernel)) ggX7_jump_X6_isBad
set_option maxRecDepth 20000 in
theorem ggX7_jump_X7_gustNow : GoodIn wsX7_jump wsX7_gustNow := goodIn_r _ [36, 37, 3, 45, 46, 47, 48, 49, 50, 51, 52, 53, 54, 55, 56, 57, 58, 59, 60, 61] (by decide +kernel) (by decide +kernel)
set_option maxRecDepth 20000 in
theorem gX7_jump_X7_gustNow : GoodIn wsX7_jump (wsV RX7 98 RX7 yX7_gustNow wsX7_gustNow) := goodIn_app (goodIn_of _ (by decide +kernel)) ggX7_jump_X7_gustNow
theorem dX7_jump_0 : decode cX7_jump 0 = .ok (.aload_n 0, 1) := by decide +kernel
theorem dX7_jump_1 : decode cX7_jump 1 = .ok (.iconst 0, 1) := by decide +kernel
theorem dX7_jump_2 : decode cX7_jump 2 = .ok (.putfield 41, 3) := by decide +kernel
theorem dX7_jump_5 : decode cX7_jump 5 = .ok (.iload_n 1, 1) := by decide +kernel
theorem dX7_jump_6 : decode cX7_jump 6 = .ok (.iconst 0, 1) := by decide +kernel
theorem dX7_jump_7 : decode cX7_jump 7 = .ok (.bipush 9, 2) := by decide +kernel
theorem dX7_jump_9 : decode cX7_jump 9 = .ok (.invokestatic 45, 3) := by decide +kernel
theorem dX7_jump_12 : decode cX7_jump 12 = .ok (.ifCond .eq 23, 3) := by decide +kernel
theorem dX7_jump_15 : decode cX7_jump 15 = .ok (.iload_n 2, 1) := by decide +kernel
theorem dX7_jump_16 : decode cX7_jump 16 = .ok (.iconst 1, 1) := by decide +kernel
theorem dX7_jump_17 : decode cX7_jump 17 = .ok (.bipush 20, 2) := by decide +kernel
theorem dX7_jump_19 : decode cX7_jump 19 = .ok (.invokestatic 45, 3) := by decide +kernel
theorem dX7_jump_22 : decode cX7_jump 22 = .ok (.ifCond .eq 13, 3) := by decide +kernel
theorem dX7_jump_25 : decode cX7_jump 25 = .ok (.iload_n 3, 1) := by decide +kernel
theorem dX7_jump_26 : decode cX7_jump 26 = .ok (.iconst 0, 1) := by decide +kernel
theorem dX7_jump_27 : decode cX7_jump 27 = .ok (.bipush 20, 2) := by decide +kernel
theorem dX7_jump_29 : decode cX7_jump 29 = .ok (.invokestatic 45, 3) := by decide +kernel
theorem dX7_jump_32 : decode cX7_jump 32 = .ok (.ifCond .ne 9, 3) := by decide +kernel
theorem dX7_jump_35 : decode cX7_jump 35 = .ok (.aload_n 0, 1) := by decide +kernel
theorem dX7_jump_36 : decode cX7_jump 36 = .ok (.iconst 1, 1) := by decide +kernel
theorem dX7_jump_37 : decode cX7_jump 37 = .ok (.invokevirtual 88, 3) := by decide +kernel
theorem dX7_jump_40 : decode cX7_jump 40 = .ok (.ireturn, 1) := by decide +kernel
theorem dX7_jump_41 : decode cX7_jump 41 = .ok (.aload_n 0, 1) := by decide +kernel
theorem dX7_jump_42 : decode cX7_jump 42 = .ok (.getfield 102, 3) := by decide +kernel
theorem dX7_jump_45 : decode cX7_jump 45 = .ok (.bipush 30, 2) := by decide +kernel
theorem dX7_jump_47 : decode cX7_jump 47 = .ok (.if_icmp .ne 9, 3) := by decide +kernel
theorem dX7_jump_50 : decode cX7_jump 50 = .ok (.aload_n 0, 1) := by decide +kernel
theorem dX7_jump_51 : decode cX7_jump 51 = .ok (.iconst 2, 1) := by decide +kernel
theorem dX7_jump_52 : decode cX7_jump 52 = .ok (.invokevirtual 88, 3) := by decide +kernel
theorem dX7_jump_55 : decode cX7_jump 55 = .ok (.ireturn, 1) := by decide +kernel
theorem dX7_jump_56 : decode cX7_jump 56 = .ok (.aload_n 0, 1) := by decide +kernel
theorem dX7_jump_57 : decode cX7_jump 57 = .ok (.iload_n 2, 1) := by decide +kernel
theorem dX7_jump_58 : decode cX7_jump 58 = .ok (.iload_n 3, 1) := by decide +kernel
theorem dX7_jump_59 : decode cX7_jump 59 = .ok (.invokevirtual 105, 3) := by decide +kernel
theorem dX7_jump_62 : decode cX7_jump 62 = .ok (.istore 4, 2) := by decide +kernel
theorem dX7_jump_64 : decode cX7_jump 64 = .ok (.iload 4, 2) := by decide +kernel
theorem dX7_jump_66 : decode cX7_jump 66 = .ok (.iconst 5, 1) := by decide +kernel
theorem dX7_jump_67 : decode cX7_jump 67 = .ok (.idiv, 1) := by decide +kernel
theorem dX7_jump_68 : decode cX7_jump 68 = .ok (.istore 5, 2) := by decide +kernel
theorem dX7_jump_70 : decode cX7_jump 70 = .ok (.aload_n 0, 1) := by decide +kernel
theorem dX7_jump_71 : decode cX7_jump 71 = .ok (.getfield 34, 3) := by decide +kernel
theorem dX7_jump_74 : decode cX7_jump 74 = .ok (.iload 5, 2) := by decide +kernel
theorem dX7_jump_76 : decode cX7_jump 76 = .ok (.invokevirtual 108, 3) := by decide +kernel
theorem dX7_jump_79 : decode cX7_jump 79 = .ok (.istore 6, 2) := by decide +kernel
theorem dX7_jump_81 : decode cX7_jump 81 = .ok (.iconst 0, 1) := by decide +kernel
theorem dX7_jump_82 : decode cX7_jump 82 = .ok (.istore 7, 2) := by decide +kernel
theorem dX7_jump_84 : decode cX7_jump 84 = .ok (.iconst 0, 1) := by decide +kernel
theorem dX7_jump_85 : decode cX7_jump 85 = .ok (.istore 8, 2) := by decide +kernel
theorem dX7_jump_87 : decode cX7_jump 87 = .ok (.bipush 20, 2) := by decide +kernel
theorem dX7_jump_89 : decode cX7_jump 89 = .ok (.istore 9, 2) := by decide +kernel
theorem dX7_jump_91 : decode cX7_jump 91 = .ok (.aload_n 0, 1) := by decide +kernel
theorem dX7_jump_92 : decode cX7_jump 92 = .ok (.getfield 25, 3) := by decide +kernel
theorem dX7_jump_95 : decode cX7_jump 95 = .ok (.astore 10, 2) := by decide +kernel
theorem dX7_jump_97 : decode cX7_jump 97 = .ok (.aload 10, 2) := by decide +kernel
theorem dX7_jump_99 : decode cX7_jump 99 = .ok (.arraylength, 1) := by decide +kernel
theorem dX7_jump_100 : decode cX7_jump 100 = .ok (.istore 11, 2) := by decide +kernel
theorem dX7_jump_102 : decode cX7_jump 102 = .ok (.iconst 0, 1) := by decide +kernel
theorem dX7_jump_103 : decode cX7_jump 103 = .ok (.istore 12, 2) := by decide +kernel
theorem dX7_jump_105 : decode cX7_jump 105 = .ok (.iload 12, 2) := by decide +kernel
theorem dX7_jump_107 : decode cX7_jump 107 = .ok (.iload 11, 2) := by decide +kernel
theorem dX7_jump_109 : decode cX7_jump 109 = .ok (.if_icmp .ge 76, 3) := by decide +kernel
theorem dX7_jump_112 : decode cX7_jump 112 = .ok (.aload 10, 2) := by decide +kernel
theorem dX7_jump_114 : decode cX7_jump 114 = .ok (.iload 12, 2) := by decide +kernel
theorem dX7_jump_116 : decode cX7_jump 116 = .ok (.iaload, 1) := by decide +kernel
theorem dX7_jump_117 : decode cX7_jump 117 = .ok (.istore 13, 2) := by decide +kernel
theorem dX7_jump_119 : decode cX7_jump 119 = .ok (.iconst 0, 1) := by decide +kernel
theorem dX7_jump_120 : decode cX7_jump 120 = .ok (.bipush 20, 2) := by decide +kernel
theorem dX7_jump_122 : decode cX7_jump 122 = .ok (.iload_n 3, 1) := by decide +kernel
theorem dX7_jump_123 : decode cX7_jump 123 = .ok (.aload_n 0, 1) := by decide +kernel
theorem dX7_jump_124 : decode cX7_jump 124 = .ok (.invokevirtual 98, 3) := by decide +kernel
theorem dX7_jump_127 : decode cX7_jump 127 = .ok (.invokestatic 111, 3) := by decide +kernel
theorem dX7_jump_130 : decode cX7_jump 130 = .ok (.isub, 1) := by decide +kernel
theorem dX7_jump_131 : decode cX7_jump 131 = .ok (.iload 13, 2) := by decide +kernel
theorem dX7_jump_133 : decode cX7_jump 133 = .ok (.isub, 1) := by decide +kernel
theorem dX7_jump_134 : decode cX7_jump 134 = .ok (.iload 6, 2) := by decide +kernel
theorem dX7_jump_136 : decode cX7_jump 136 = .ok (.ifCond .eq 8, 3) := by decide +kernel
theorem dX7_jump_139 : decode cX7_jump 139 = .ok (.bipush 8, 2) := by decide +kernel
theorem dX7_jump_141 : decode cX7_jump 141 = .ok (.goto 4, 3) := by decide +kernel
theorem dX7_jump_144 : decode cX7_jump 144 = .ok (.iconst 0, 1) := by decide +kernel
theorem dX7_jump_145 : decode cX7_jump 145 = .ok (.isub, 1) := by decide +kernel
theorem dX7_jump_146 : decode cX7_jump 146 = .ok (.invokestatic 61, 3) := by decide +kernel
theorem dX7_jump_149 : decode cX7_jump 149 = .ok (.invokestatic 85, 3) := by decide +kernel
theorem dX7_jump_152 : decode cX7_jump 152 = .ok (.istore 14, 2) := by decide +kernel
theorem dX7_jump_154 : decode cX7_jump 154 = .ok (.iload 7, 2) := by decide +kernel
theorem dX7_jump_156 : decode cX7_jump 156 = .ok (.iload 14, 2) := by decide +kernel
theorem dX7_jump_158 : decode cX7_jump 158 = .ok (.iadd, 1) := by decide +kernel
theorem dX7_jump_159 : decode cX7_jump 159 = .ok (.istore 7, 2) := by decide +kernel
theorem dX7_jump_161 : decode cX7_jump 161 = .ok (.iload 8, 2) := by decide +kernel
theorem dX7_jump_163 : decode cX7_jump 163 = .ok (.iload 14, 2) := by decide +kernel
theorem dX7_jump_165 : decode cX7_jump 165 = .ok (.invokestatic 85, 3) := by decide +kernel
theorem dX7_jump_168 : decode cX7_jump 168 = .ok (.istore 8, 2) := by decide +kernel
theorem dX7_jump_170 : decode cX7_jump 170 = .ok (.iload 9, 2) := by decide +kernel
theorem dX7_jump_172 : decode cX7_jump 172 = .ok (.iload 14, 2) := by decide +kernel
theorem dX7_jump_174 : decode cX7_jump 174 = .ok (.invokestatic 61, 3) := by decide +kernel
theorem dX7_jump_177 : decode cX7_jump 177 = .ok (.istore 9, 2) := by decide +kernel
theorem dX7_jump_179 : decode cX7_jump 179 = .ok (.iinc 12 1, 3) := by decide +kernel
theorem dX7_jump_182 : decode cX7_jump 182 = .ok (.goto (-77), 3) := by decide +kernel
theorem dX7_jump_185 : decode cX7_jump 185 = .ok (.iconst 5, 1) := by decide +kernel
theorem dX7_jump_186 : decode cX7_jump 186 = .ok (.newarray .int, 2) := by decide +kernel
theorem dX7_jump_188 : decode cX7_jump 188 = .ok (.dup, 1) := by decide +kernel
theorem dX7_jump_189 : decode cX7_jump 189 = .ok (.iconst 0, 1) := by decide +kernel
theorem dX7_jump_190 : decode cX7_jump 190 = .ok (.iload_n 1, 1) := by decide +kernel
theorem dX7_jump_191 : decode cX7_jump 191 = .ok (.iastore, 1) := by decide +kernel
theorem dX7_jump_192 : decode cX7_jump 192 = .ok (.dup, 1) := by decide +kernel
theorem dX7_jump_193 : decode cX7_jump 193 = .ok (.iconst 1, 1) := by decide +kernel
theorem dX7_jump_194 : decode cX7_jump 194 = .ok (.iload 4, 2) := by decide +kernel
theorem dX7_jump_196 : decode cX7_jump 196 = .ok (.iastore, 1) := by decide +kernel
theorem dX7_jump_197 : decode cX7_jump 197 = .ok (.dup, 1) := by decide +kernel
theorem dX7_jump_198 : decode cX7_jump 198 = .ok (.iconst 2, 1) := by decide +kernel
theorem dX7_jump_199 : decode cX7_jump 199 = .ok (.iload 4, 2) := by decide +kernel
theorem dX7_jump_201 : decode cX7_jump 201 = .ok (.iload 7, 2) := by decide +kernel
theorem dX7_jump_203 : decode cX7_jump 203 = .ok (.iadd, 1) := by decide +kernel
theorem dX7_jump_204 : decode cX7_jump 204 = .ok (.iload 8, 2) := by decide +kernel
theorem dX7_jump_206 : decode cX7_jump 206 = .ok (.isub, 1) := by decide +kernel
theorem dX7_jump_207 : decode cX7_jump 207 = .ok (.iload 9, 2) := by decide +kernel
theorem dX7_jump_209 : decode cX7_jump 209 = .ok (.isub, 1) := by decide +kernel
theorem dX7_jump_210 : decode cX7_jump 210 = .ok (.iastore, 1) := by decide +kernel
theorem dX7_jump_211 : decode cX7_jump 211 = .ok (.dup, 1) := by decide +kernel
theorem dX7_jump_212 : decode cX7_jump 212 = .ok (.iconst 3, 1) := by decide +kernel
theorem dX7_jump_213 : decode cX7_jump 213 = .ok (.iload 6, 2) := by decide +kernel
theorem dX7_jump_215 : decode cX7_jump 215 = .ok (.ifCond .eq 7, 3) := by decide +kernel
theorem dX7_jump_218 : decode cX7_jump 218 = .ok (.iconst 1, 1) := by decide +kernel
theorem dX7_jump_219 : decode cX7_jump 219 = .ok (.goto 4, 3) := by decide +kernel
theorem dX7_jump_222 : decode cX7_jump 222 = .ok (.iconst 0, 1) := by decide +kernel
theorem dX7_jump_223 : decode cX7_jump 223 = .ok (.iastore, 1) := by decide +kernel
theorem dX7_jump_224 : decode cX7_jump 224 = .ok (.dup, 1) := by decide +kernel
theorem dX7_jump_225 : decode cX7_jump 225 = .ok (.iconst 4, 1) := by decide +kernel
theorem dX7_jump_226 : decode cX7_jump 226 = .ok (.aload_n 0, 1) := by decide +kernel
theorem dX7_jump_227 : decode cX7_jump 227 = .ok (.getfield 34, 3) := by decide +kernel
theorem dX7_jump_230 : decode cX7_jump 230 = .ok (.getfield 71, 3) := by decide +kernel
theorem dX7_jump_233 : decode cX7_jump 233 = .ok (.iastore, 1) := by decide +kernel
theorem dX7_jump_234 : decode cX7_jump 234 = .ok (.astore 10, 2) := by decide +kernel
theorem dX7_jump_236 : decode cX7_jump 236 = .ok (.aload 10, 2) := by decide +kernel
theorem dX7_jump_238 : decode cX7_jump 238 = .ok (.iconst 0, 1) := by decide +kernel
theorem dX7_jump_239 : decode cX7_jump 239 = .ok (.aload_n 0, 1) := by decide +kernel
theorem dX7_jump_240 : decode cX7_jump 240 = .ok (.getfield 28, 3) := by decide +kernel
theorem dX7_jump_243 : decode cX7_jump 243 = .ok (.iconst 5, 1) := by decide +kernel
theorem dX7_jump_244 : decode cX7_jump 244 = .ok (.aload_n 0, 1) := by decide +kernel
theorem dX7_jump_245 : decode cX7_jump 245 = .ok (.getfield 102, 3) := by decide +kernel
theorem dX7_jump_248 : decode cX7_jump 248 = .ok (.imul, 1) := by decide +kernel
theorem dX7_jump_249 : decode cX7_jump 249 = .ok (.iconst 5, 1) := by decide +kernel
theorem dX7_jump_250 : decode cX7_jump 250 = .ok (.invokestatic 114, 3) := by decide +kernel
theorem dX7_jump_253 : decode cX7_jump 253 = .ok (.aload_n 0, 1) := by decide +kernel
theorem dX7_jump_254 : decode cX7_jump 254 = .ok (.dup, 1) := by decide +kernel
theorem dX7_jump_255 : decode cX7_jump 255 = .ok (.getfield 102, 3) := by decide +kernel
theorem dX7_jump_258 : decode cX7_jump 258 = .ok (.iconst 1, 1) := by decide +kernel
theorem dX7_jump_259 : decode cX7_jump 259 = .ok (.iadd, 1) := by decide +kernel
theorem dX7_jump_260 : decode cX7_jump 260 = .ok (.putfield 102, 3) := by decide +kernel
theorem dX7_jump_263 : decode cX7_jump 263 = .ok (.aload_n 0, 1) := by decide +kernel
theorem dX7_jump_264 : decode cX7_jump 264 = .ok (.getfield 34, 3) := by decide +kernel
theorem dX7_jump_267 : decode cX7_jump 267 = .ok (.getfield 82, 3) := by decide +kernel
theorem dX7_jump_270 : decode cX7_jump 270 = .ok (.iload 5, 2) := by decide +kernel
theorem dX7_jump_272 : decode cX7_jump 272 = .ok (.iconst 0, 1) := by decide +kernel
theorem dX7_jump_273 : decode cX7_jump 273 = .ok (.aload_n 0, 1) := by decide +kernel
theorem dX7_jump_274 : decode cX7_jump 274 = .ok (.getfield 34, 3) := by decide +kernel
theorem dX7_jump_277 : decode cX7_jump 277 = .ok (.getfield 82, 3) := by decide +kernel
theorem dX7_jump_280 : decode cX7_jump 280 = .ok (.iload 5, 2) := by decide +kernel
theorem dX7_jump_282 : decode cX7_jump 282 = .ok (.iaload, 1) := by decide +kernel
theorem dX7_jump_283 : decode cX7_jump 283 = .ok (.iconst 3, 1) := by decide +kernel
theorem dX7_jump_284 : decode cX7_jump 284 = .ok (.isub, 1) := by decide +kernel
theorem dX7_jump_285 : decode cX7_jump 285 = .ok (.invokestatic 85, 3) := by decide +kernel
theorem dX7_jump_288 : decode cX7_jump 288 = .ok (.iastore, 1) := by decide +kernel
theorem dX7_jump_289 : decode cX7_jump 289 = .ok (.aload_n 0, 1) := by decide +kernel
theorem dX7_jump_290 : decode cX7_jump 290 = .ok (.getfield 102, 3) := by decide +kernel
theorem dX7_jump_293 : decode cX7_jump 293 = .ok (.iconst 1, 1) := by decide +kernel
theorem dX7_jump_294 : decode cX7_jump 294 = .ok (.isub, 1) := by decide +kernel
theorem dX7_jump_295 : decode cX7_jump 295 = .ok (.ireturn, 1) := by decide +kernel
set_option maxRecDepth 20000 in
theorem ggX7_told_X7_isIn : GoodIn wsX7_told wsX7_isIn := goodIn_r _ [7] (by decide +kernel) (by decide +kernel)
set_option maxRecDepth 20000 in
theorem gX7_told_X7_isIn : GoodIn wsX7_told (va_wsS RX7 45 yX7_isIn wsX7_isIn) := goodIn_app (goodIn_of _ (by decide +kernel)) ggX7_told_X7_isIn
set_option maxRecDepth 20000 in
theorem ggX7_told_X7_no : GoodIn wsX7_told wsX7_no := goodIn_r _ [11, 1, 12, 13, 14, 15, 16, 17, 18, 19, 20, 21, 22, 23] (by decide +kernel) (by decide +kernel)
set_option maxRecDepth 20000 in
theorem gX7_told_X7_no : GoodIn wsX7_told (wsV RX7 88 RX7 yX7_no wsX7_no) := goodIn_app (goodIn_of _ (by decide +kernel)) ggX7_told_X7_no
theorem dX7_told_0 : decode cX7_told 0 = .ok (.aload_n 0, 1) := by decide +kernel
theorem dX7_told_1 : decode cX7_told 1 = .ok (.iconst 0, 1) := by decide +kernel
theorem dX7_told_2 : decode cX7_told 2 = .ok (.putfield 41, 3) := by decide +kernel
theorem dX7_told_5 : decode cX7_told 5 = .ok (.iload_n 1, 1) := by decide +kernel
theorem dX7_told_6 : decode cX7_told 6 = .ok (.iconst 0, 1) := by decide +kernel
theorem dX7_told_7 : decode cX7_told 7 = .ok (.aload_n 0, 1) := by decide +kernel
theorem dX7_told_8 : decode cX7_told 8 = .ok (.getfield 102, 3) := by decide +kernel
theorem dX7_told_11 : decode cX7_told 11 = .ok (.iconst 1, 1) := by decide +kernel
theorem dX7_told_12 : decode cX7_told 12 = .ok (.isub, 1) := by decide +kernel
theorem dX7_told_13 : decode cX7_told 13 = .ok (.invokestatic 45, 3) := by decide +kernel
theorem dX7_told_16 : decode cX7_told 16 = .ok (.ifCond .eq 25, 3) := by decide +kernel
theorem dX7_told_19 : decode cX7_told 19 = .ok (.iload_n 2, 1) := by decide +kernel
theorem dX7_told_20 : decode cX7_told 20 = .ok (.iconst 0, 1) := by decide +kernel
theorem dX7_told_21 : decode cX7_told 21 = .ok (.iconst 4, 1) := by decide +kernel
theorem dX7_told_22 : decode cX7_told 22 = .ok (.invokestatic 45, 3) := by decide +kernel
theorem dX7_told_25 : decode cX7_told 25 = .ok (.ifCond .eq 16, 3) := by decide +kernel
theorem dX7_told_28 : decode cX7_told 28 = .ok (.aload_n 0, 1) := by decide +kernel
theorem dX7_told_29 : decode cX7_told 29 = .ok (.getfield 28, 3) := by decide +kernel
theorem dX7_told_32 : decode cX7_told 32 = .ok (.iconst 5, 1) := by decide +kernel
theorem dX7_told_33 : decode cX7_told 33 = .ok (.iload_n 1, 1) := by decide +kernel
theorem dX7_told_34 : decode cX7_told 34 = .ok (.imul, 1) := by decide +kernel
theorem dX7_told_35 : decode cX7_told 35 = .ok (.iload_n 2, 1) := by decide +kernel
theorem dX7_told_36 : decode cX7_told 36 = .ok (.iadd, 1) := by decide +kernel
theorem dX7_told_37 : decode cX7_told 37 = .ok (.iaload, 1) := by decide +kernel
theorem dX7_told_38 : decode cX7_told 38 = .ok (.goto 8, 3) := by decide +kernel
theorem dX7_told_41 : decode cX7_told 41 = .ok (.aload_n 0, 1) := by decide +kernel
theorem dX7_told_42 : decode cX7_told 42 = .ok (.iconst 1, 1) := by decide +kernel
theorem dX7_told_43 : decode cX7_told 43 = .ok (.invokevirtual 88, 3) := by decide +kernel
theorem dX7_told_46 : decode cX7_told 46 = .ok (.ireturn, 1) := by decide +kernel
theorem dX7_scoreOf_0 : decode cX7_scoreOf 0 = .ok (.iconst 0, 1) := by decide +kernel
theorem dX7_scoreOf_1 : decode cX7_scoreOf 1 = .ok (.istore_n 2, 1) := by decide +kernel
theorem dX7_scoreOf_2 : decode cX7_scoreOf 2 = .ok (.iconst 0, 1) := by decide +kernel
theorem dX7_scoreOf_3 : decode cX7_scoreOf 3 = .ok (.istore_n 3, 1) := by decide +kernel
theorem dX7_scoreOf_4 : decode cX7_scoreOf 4 = .ok (.iconst 0, 1) := by decide +kernel
theorem dX7_scoreOf_5 : decode cX7_scoreOf 5 = .ok (.istore 4, 2) := by decide +kernel
theorem dX7_scoreOf_7 : decode cX7_scoreOf 7 = .ok (.iload 4, 2) := by decide +kernel
theorem dX7_scoreOf_9 : decode cX7_scoreOf 9 = .ok (.aload_n 0, 1) := by decide +kernel
theorem dX7_scoreOf_10 : decode cX7_scoreOf 10 = .ok (.getfield 102, 3) := by decide +kernel
theorem dX7_scoreOf_13 : decode cX7_scoreOf 13 = .ok (.if_icmp .ge 56, 3) := by decide +kernel
theorem dX7_scoreOf_16 : decode cX7_scoreOf 16 = .ok (.aload_n 0, 1) := by decide +kernel
theorem dX7_scoreOf_17 : decode cX7_scoreOf 17 = .ok (.getfield 28, 3) := by decide +kernel
theorem dX7_scoreOf_20 : decode cX7_scoreOf 20 = .ok (.iconst 5, 1) := by decide +kernel
theorem dX7_scoreOf_21 : decode cX7_scoreOf 21 = .ok (.iload 4, 2) := by decide +kernel
theorem dX7_scoreOf_23 : decode cX7_scoreOf 23 = .ok (.imul, 1) := by decide +kernel
theorem dX7_scoreOf_24 : decode cX7_scoreOf 24 = .ok (.iaload, 1) := by decide +kernel
theorem dX7_scoreOf_25 : decode cX7_scoreOf 25 = .ok (.iload_n 1, 1) := by decide +kernel
theorem dX7_scoreOf_26 : decode cX7_scoreOf 26 = .ok (.if_icmp .eq 6, 3) := by decide +kernel
theorem dX7_scoreOf_29 : decode cX7_scoreOf 29 = .ok (.goto 34, 3) := by decide +kernel
theorem dX7_scoreOf_32 : decode cX7_scoreOf 32 = .ok (.aload_n 0, 1) := by decide +kernel
theorem dX7_scoreOf_33 : decode cX7_scoreOf 33 = .ok (.getfield 28, 3) := by decide +kernel
theorem dX7_scoreOf_36 : decode cX7_scoreOf 36 = .ok (.iconst 5, 1) := by decide +kernel
theorem dX7_scoreOf_37 : decode cX7_scoreOf 37 = .ok (.iload 4, 2) := by decide +kernel
theorem dX7_scoreOf_39 : decode cX7_scoreOf 39 = .ok (.imul, 1) := by decide +kernel
theorem dX7_scoreOf_40 : decode cX7_scoreOf 40 = .ok (.iconst 2, 1) := by decide +kernel
theorem dX7_scoreOf_41 : decode cX7_scoreOf 41 = .ok (.iadd, 1) := by decide +kernel
theorem dX7_scoreOf_42 : decode cX7_scoreOf 42 = .ok (.iaload, 1) := by decide +kernel
theorem dX7_scoreOf_43 : decode cX7_scoreOf 43 = .ok (.istore 5, 2) := by decide +kernel
theorem dX7_scoreOf_45 : decode cX7_scoreOf 45 = .ok (.iload_n 3, 1) := by decide +kernel
theorem dX7_scoreOf_46 : decode cX7_scoreOf 46 = .ok (.iload_n 2, 1) := by decide +kernel
theorem dX7_scoreOf_47 : decode cX7_scoreOf 47 = .ok (.iload 5, 2) := by decide +kernel
theorem dX7_scoreOf_49 : decode cX7_scoreOf 49 = .ok (.invokestatic 61, 3) := by decide +kernel
theorem dX7_scoreOf_52 : decode cX7_scoreOf 52 = .ok (.invokestatic 85, 3) := by decide +kernel
theorem dX7_scoreOf_55 : decode cX7_scoreOf 55 = .ok (.istore_n 3, 1) := by decide +kernel
theorem dX7_scoreOf_56 : decode cX7_scoreOf 56 = .ok (.iload_n 2, 1) := by decide +kernel
theorem dX7_scoreOf_57 : decode cX7_scoreOf 57 = .ok (.iload 5, 2) := by decide +kernel
theorem dX7_scoreOf_59 : decode cX7_scoreOf 59 = .ok (.invokestatic 85, 3) := by decide +kernel
theorem dX7_scoreOf_62 : decode cX7_scoreOf 62 = .ok (.istore_n 2, 1) := by decide +kernel
theorem dX7_scoreOf_63 : decode cX7_scoreOf 63 = .ok (.iinc 4 1, 3) := by decide +kernel
theorem dX7_scoreOf_66 : decode cX7_scoreOf 66 = .ok (.goto (-59), 3) := by decide +kernel
theorem dX7_scoreOf_69 : decode cX7_scoreOf 69 = .ok (.iload_n 2, 1) := by decide +kernel
theorem dX7_scoreOf_70 : decode cX7_scoreOf 70 = .ok (.iload_n 3, 1) := by decide +kernel
theorem dX7_scoreOf_71 : decode cX7_scoreOf 71 = .ok (.iadd, 1) := by decide +kernel
theorem dX7_scoreOf_72 : decode cX7_scoreOf 72 = .ok (.ireturn, 1) := by decide +kernel
set_option maxRecDepth 20000 in
theorem ggX7_score_X7_isIn : GoodIn wsX7_score wsX7_isIn := goodIn_r _ [5] (by decide +kernel) (by decide +kernel)
set_option maxRecDepth 20000 in
theorem gX7_score_X7_isIn : GoodIn wsX7_score (va_wsS RX7 45 yX7_isIn wsX7_isIn) := goodIn_app (goodIn_of _ (by decide +kernel)) ggX7_score_X7_isIn
set_option maxRecDepth 20000 in
theorem ggX7_score_X7_scoreOf : GoodIn wsX7_score wsX7_scoreOf := goodIn_r _ [9, 10, 11, 12, 13, 14, 15, 16, 17, 18, 23, 24, 25, 26, 27, 28, 29, 30, 31, 32, 33, 34] (by decide +kernel) (by decide +kernel)
set_option maxRecDepth 20000 in
theorem gX7_score_X7_scoreOf : GoodIn wsX7_score (wsV RX7 120 RX7 yX7_scoreOf wsX7_scoreOf) := goodIn_app (goodIn_of _ (by decide +kernel)) ggX7_score_X7_scoreOf
set_option maxRecDepth 20000 in
theorem ggX7_score_X7_no : GoodIn wsX7_score wsX7_no := goodIn_r _ [22, 1, 23, 24, 25, 26, 27, 28, 29, 30, 31, 32, 33, 34] (by decide +kernel) (by decide +kernel)
set_option maxRecDepth 20000 in
theorem gX7_score_X7_no : GoodIn wsX7_score (wsV RX7 88 RX7 yX7_no wsX7_no) := goodIn_app (goodIn_of _ (by decide +kernel)) ggX7_score_X7_no
theorem dX7_score_0 : decode cX7_score 0 = .ok (.aload_n 0, 1) := by decide +kernel
theorem dX7_score_1 : decode cX7_score 1 = .ok (.iconst 0, 1) := by decide +kernel
theorem dX7_score_2 : decode cX7_score 2 = .ok (.putfield 41, 3) := by decide +kernel
theorem dX7_score_5 : decode cX7_score 5 = .ok (.iload_n 1, 1) := by decide +kernel
theorem dX7_score_6 : decode cX7_score 6 = .ok (.iconst 0, 1) := by decide +kernel
theorem dX7_score_7 : decode cX7_score 7 = .ok (.bipush 9, 2) := by decide +kernel
theorem dX7_score_9 : decode cX7_score 9 = .ok (.invokestatic 45, 3) := by decide +kernel
theorem dX7_score_12 : decode cX7_score 12 = .ok (.ifCond .eq 11, 3) := by decide +kernel
theorem dX7_score_15 : decode cX7_score 15 = .ok (.aload_n 0, 1) := by decide +kernel
theorem dX7_score_16 : decode cX7_score 16 = .ok (.iload_n 1, 1) := by decide +kernel
theorem dX7_score_17 : decode cX7_score 17 = .ok (.invokevirtual 120, 3) := by decide +kernel
theorem dX7_score_20 : decode cX7_score 20 = .ok (.goto 8, 3) := by decide +kernel
theorem dX7_score_23 : decode cX7_score 23 = .ok (.aload_n 0, 1) := by decide +kernel
theorem dX7_score_24 : decode cX7_score 24 = .ok (.iconst 1, 1) := by decide +kernel
theorem dX7_score_25 : decode cX7_score 25 = .ok (.invokevirtual 88, 3) := by decide +kernel
theorem dX7_score_28 : decode cX7_score 28 = .ok (.ireturn, 1) := by decide +kernel
set_option maxRecDepth 20000 in
theorem ggX7_leader_X7_scoreOf : GoodIn wsX7_leader wsX7_scoreOf := goodIn_r _ [7, 2, 8, 9, 10, 11, 12, 13, 14, 15, 16, 17, 18, 19, 20, 21, 22, 23, 24, 25, 26, 27] (by decide +kernel) (by decide +kernel)
set_option maxRecDepth 20000 in
theorem gX7_leader_X7_scoreOf : GoodIn wsX7_leader (wsV RX7 120 RX7 yX7_scoreOf wsX7_scoreOf) := goodIn_app (goodIn_of _ (by decide +kernel)) ggX7_leader_X7_scoreOf
theorem dX7_leader_0 : decode cX7_leader 0 = .ok (.aload_n 0, 1) := by decide +kernel
theorem dX7_leader_1 : decode cX7_leader 1 = .ok (.iconst 0, 1) := by decide +kernel
theorem dX7_leader_2 : decode cX7_leader 2 = .ok (.putfield 41, 3) := by decide +kernel
theorem dX7_leader_5 : decode cX7_leader 5 = .ok (.aload_n 0, 1) := by decide +kernel
theorem dX7_leader_6 : decode cX7_leader 6 = .ok (.getfield 102, 3) := by decide +kernel
theorem dX7_leader_9 : decode cX7_leader 9 = .ok (.ifCond .ne 5, 3) := by decide +kernel
theorem dX7_leader_12 : decode cX7_leader 12 = .ok (.iconst (-1), 1) := by decide +kernel
theorem dX7_leader_13 : decode cX7_leader 13 = .ok (.ireturn, 1) := by decide +kernel
theorem dX7_leader_14 : decode cX7_leader 14 = .ok (.iconst 0, 1) := by decide +kernel
theorem dX7_leader_15 : decode cX7_leader 15 = .ok (.istore_n 1, 1) := by decide +kernel
theorem dX7_leader_16 : decode cX7_leader 16 = .ok (.iconst 1, 1) := by decide +kernel
theorem dX7_leader_17 : decode cX7_leader 17 = .ok (.istore_n 2, 1) := by decide +kernel
theorem dX7_leader_18 : decode cX7_leader 18 = .ok (.iload_n 2, 1) := by decide +kernel
theorem dX7_leader_19 : decode cX7_leader 19 = .ok (.bipush 10, 2) := by decide +kernel
theorem dX7_leader_21 : decode cX7_leader 21 = .ok (.if_icmp .ge 24, 3) := by decide +kernel
theorem dX7_leader_24 : decode cX7_leader 24 = .ok (.aload_n 0, 1) := by decide +kernel
theorem dX7_leader_25 : decode cX7_leader 25 = .ok (.iload_n 2, 1) := by decide +kernel
theorem dX7_leader_26 : decode cX7_leader 26 = .ok (.invokevirtual 120, 3) := by decide +kernel
theorem dX7_leader_29 : decode cX7_leader 29 = .ok (.aload_n 0, 1) := by decide +kernel
theorem dX7_leader_30 : decode cX7_leader 30 = .ok (.iload_n 1, 1) := by decide +kernel
theorem dX7_leader_31 : decode cX7_leader 31 = .ok (.invokevirtual 120, 3) := by decide +kernel
theorem dX7_leader_34 : decode cX7_leader 34 = .ok (.if_icmp .le 5, 3) := by decide +kernel
theorem dX7_leader_37 : decode cX7_leader 37 = .ok (.iload_n 2, 1) := by decide +kernel
theorem dX7_leader_38 : decode cX7_leader 38 = .ok (.istore_n 1, 1) := by decide +kernel
theorem dX7_leader_39 : decode cX7_leader 39 = .ok (.iinc 2 1, 3) := by decide +kernel
theorem dX7_leader_42 : decode cX7_leader 42 = .ok (.goto (-24), 3) := by decide +kernel
theorem dX7_leader_45 : decode cX7_leader 45 = .ok (.iload_n 1, 1) := by decide +kernel
theorem dX7_leader_46 : decode cX7_leader 46 = .ok (.ireturn, 1) := by decide +kernel
set_option maxRecDepth 20000 in
theorem ggX7_partTold_X6_isBad : GoodIn wsX7_partTold wsX6_isBad := goodIn_r _ [8, 9, 10, 23, 24, 25, 26, 27] (by decide +kernel) (by decide +kernel)
set_option maxRecDepth 20000 in
theorem gX7_partTold_X6_isBad : GoodIn wsX7_partTold (wsV RX7 108 RX6 yX6_isBad wsX6_isBad) := goodIn_app (goodIn_of _ (by decide +kernel)) ggX7_partTold_X6_isBad
theorem dX7_partTold_0 : decode cX7_partTold 0 = .ok (.iconst 0, 1) := by decide +kernel
theorem dX7_partTold_1 : decode cX7_partTold 1 = .ok (.istore_n 3, 1) := by decide +kernel
theorem dX7_partTold_2 : decode cX7_partTold 2 = .ok (.iconst 0, 1) := by decide +kernel
theorem dX7_partTold_3 : decode cX7_partTold 3 = .ok (.istore 4, 2) := by decide +kernel
theorem dX7_partTold_5 : decode cX7_partTold 5 = .ok (.iload 4, 2) := by decide +kernel
theorem dX7_partTold_7 : decode cX7_partTold 7 = .ok (.aload_n 0, 1) := by decide +kernel
theorem dX7_partTold_8 : decode cX7_partTold 8 = .ok (.getfield 49, 3) := by decide +kernel
theorem dX7_partTold_11 : decode cX7_partTold 11 = .ok (.if_icmp .ge 28, 3) := by decide +kernel
theorem dX7_partTold_14 : decode cX7_partTold 14 = .ok (.iload_n 3, 1) := by decide +kernel
theorem dX7_partTold_15 : decode cX7_partTold 15 = .ok (.aload_n 0, 1) := by decide +kernel
theorem dX7_partTold_16 : decode cX7_partTold 16 = .ok (.getfield 19, 3) := by decide +kernel
theorem dX7_partTold_19 : decode cX7_partTold 19 = .ok (.iload 4, 2) := by decide +kernel
theorem dX7_partTold_21 : decode cX7_partTold 21 = .ok (.iaload, 1) := by decide +kernel
theorem dX7_partTold_22 : decode cX7_partTold 22 = .ok (.iload_n 1, 1) := by decide +kernel
theorem dX7_partTold_23 : decode cX7_partTold 23 = .ok (.if_icmp .ne 7, 3) := by decide +kernel
theorem dX7_partTold_26 : decode cX7_partTold 26 = .ok (.iconst 1, 1) := by decide +kernel
theorem dX7_partTold_27 : decode cX7_partTold 27 = .ok (.goto 4, 3) := by decide +kernel
theorem dX7_partTold_30 : decode cX7_partTold 30 = .ok (.iconst 0, 1) := by decide +kernel
theorem dX7_partTold_31 : decode cX7_partTold 31 = .ok (.iadd, 1) := by decide +kernel
theorem dX7_partTold_32 : decode cX7_partTold 32 = .ok (.istore_n 3, 1) := by decide +kernel
theorem dX7_partTold_33 : decode cX7_partTold 33 = .ok (.iinc 4 1, 3) := by decide +kernel
theorem dX7_partTold_36 : decode cX7_partTold 36 = .ok (.goto (-31), 3) := by decide +kernel
theorem dX7_partTold_39 : decode cX7_partTold 39 = .ok (.iload_n 2, 1) := by decide +kernel
theorem dX7_partTold_40 : decode cX7_partTold 40 = .ok (.ifCond .ne 15, 3) := by decide +kernel
theorem dX7_partTold_43 : decode cX7_partTold 43 = .ok (.aload_n 0, 1) := by decide +kernel
theorem dX7_partTold_44 : decode cX7_partTold 44 = .ok (.getfield 34, 3) := by decide +kernel
theorem dX7_partTold_47 : decode cX7_partTold 47 = .ok (.getfield 82, 3) := by decide +kernel
theorem dX7_partTold_50 : decode cX7_partTold 50 = .ok (.iload_n 1, 1) := by decide +kernel
theorem dX7_partTold_51 : decode cX7_partTold 51 = .ok (.iaload, 1) := by decide +kernel
theorem dX7_partTold_52 : decode cX7_partTold 52 = .ok (.goto 45, 3) := by decide +kernel
theorem dX7_partTold_55 : decode cX7_partTold 55 = .ok (.iload_n 2, 1) := by decide +kernel
theorem dX7_partTold_56 : decode cX7_partTold 56 = .ok (.iconst 1, 1) := by decide +kernel
theorem dX7_partTold_57 : decode cX7_partTold 57 = .ok (.if_icmp .ne 15, 3) := by decide +kernel
theorem dX7_partTold_60 : decode cX7_partTold 60 = .ok (.aload_n 0, 1) := by decide +kernel
theorem dX7_partTold_61 : decode cX7_partTold 61 = .ok (.getfield 34, 3) := by decide +kernel
theorem dX7_partTold_64 : decode cX7_partTold 64 = .ok (.getfield 58, 3) := by decide +kernel
theorem dX7_partTold_67 : decode cX7_partTold 67 = .ok (.iload_n 1, 1) := by decide +kernel
theorem dX7_partTold_68 : decode cX7_partTold 68 = .ok (.iaload, 1) := by decide +kernel
theorem dX7_partTold_69 : decode cX7_partTold 69 = .ok (.goto 28, 3) := by decide +kernel
theorem dX7_partTold_72 : decode cX7_partTold 72 = .ok (.iload_n 2, 1) := by decide +kernel
theorem dX7_partTold_73 : decode cX7_partTold 73 = .ok (.iconst 2, 1) := by decide +kernel
theorem dX7_partTold_74 : decode cX7_partTold 74 = .ok (.if_icmp .ne 7, 3) := by decide +kernel
theorem dX7_partTold_77 : decode cX7_partTold 77 = .ok (.iload_n 3, 1) := by decide +kernel
theorem dX7_partTold_78 : decode cX7_partTold 78 = .ok (.goto 19, 3) := by decide +kernel
theorem dX7_partTold_81 : decode cX7_partTold 81 = .ok (.aload_n 0, 1) := by decide +kernel
theorem dX7_partTold_82 : decode cX7_partTold 82 = .ok (.getfield 34, 3) := by decide +kernel
theorem dX7_partTold_85 : decode cX7_partTold 85 = .ok (.iload_n 1, 1) := by decide +kernel
theorem dX7_partTold_86 : decode cX7_partTold 86 = .ok (.invokevirtual 108, 3) := by decide +kernel
theorem dX7_partTold_89 : decode cX7_partTold 89 = .ok (.ifCond .eq 7, 3) := by decide +kernel
theorem dX7_partTold_92 : decode cX7_partTold 92 = .ok (.iconst 1, 1) := by decide +kernel
theorem dX7_partTold_93 : decode cX7_partTold 93 = .ok (.goto 4, 3) := by decide +kernel
theorem dX7_partTold_96 : decode cX7_partTold 96 = .ok (.iconst 0, 1) := by decide +kernel
theorem dX7_partTold_97 : decode cX7_partTold 97 = .ok (.ireturn, 1) := by decide +kernel
set_option maxRecDepth 20000 in
theorem ggX7_part_X7_isPart : GoodIn wsX7_part wsX7_isPart := goodIn_r _ [5, 6, 7, 4, 8] (by decide +kernel) (by decide +kernel)
set_option maxRecDepth 20000 in
theorem gX7_part_X7_isPart : GoodIn wsX7_part (va_wsS RX7 91 yX7_isPart wsX7_isPart) := goodIn_app (goodIn_of _ (by decide +kernel)) ggX7_part_X7_isPart
set_option maxRecDepth 20000 in
theorem ggX7_part_X7_isIn : GoodIn wsX7_part wsX7_isIn := goodIn_r _ [8] (by decide +kernel) (by decide +kernel)
set_option maxRecDepth 20000 in
theorem gX7_part_X7_isIn : GoodIn wsX7_part (va_wsS RX7 45 yX7_isIn wsX7_isIn) := goodIn_app (goodIn_of _ (by decide +kernel)) ggX7_part_X7_isIn
set_option maxRecDepth 20000 in
theorem ggX7_part_X7_partTold : GoodIn wsX7_part wsX7_partTold := goodIn_r _ [12, 13, 14, 15, 16, 17, 18, 19, 20, 21, 22, 27, 28, 29, 30, 31, 32, 33, 34, 35, 36, 37, 38, 39, 40, 41, 42, 43] (by decide +kernel) (by decide +kernel)
set_option maxRecDepth 20000 in
theorem gX7_part_X7_partTold : GoodIn wsX7_part (wsV RX7 123 RX7 yX7_partTold wsX7_partTold) := goodIn_app (goodIn_of _ (by decide +kernel)) ggX7_part_X7_partTold
set_option maxRecDepth 20000 in
theorem ggX7_part_X7_no : GoodIn wsX7_part wsX7_no := goodIn_r _ [26, 1, 27, 28, 29, 30, 31, 32, 33, 34, 35, 36, 37, 38] (by decide +kernel) (by decide +kernel)
set_option maxRecDepth 20000 in
theorem gX7_part_X7_no : GoodIn wsX7_part (wsV RX7 88 RX7 yX7_no wsX7_no) := goodIn_app (goodIn_of _ (by decide +kernel)) ggX7_part_X7_no
theorem dX7_part_0 : decode cX7_part 0 = .ok (.aload_n 0, 1) := by decide +kernel
theorem dX7_part_1 : decode cX7_part 1 = .ok (.iconst 0, 1) := by decide +kernel
theorem dX7_part_2 : decode cX7_part 2 = .ok (.putfield 41, 3) := by decide +kernel
theorem dX7_part_5 : decode cX7_part 5 = .ok (.iload_n 1, 1) := by decide +kernel
theorem dX7_part_6 : decode cX7_part 6 = .ok (.invokestatic 91, 3) := by decide +kernel
theorem dX7_part_9 : decode cX7_part 9 = .ok (.ifCond .eq 21, 3) := by decide +kernel
theorem dX7_part_12 : decode cX7_part 12 = .ok (.iload_n 2, 1) := by decide +kernel
theorem dX7_part_13 : decode cX7_part 13 = .ok (.iconst 0, 1) := by decide +kernel
theorem dX7_part_14 : decode cX7_part 14 = .ok (.iconst 3, 1) := by decide +kernel
theorem dX7_part_15 : decode cX7_part 15 = .ok (.invokestatic 45, 3) := by decide +kernel
theorem dX7_part_18 : decode cX7_part 18 = .ok (.ifCond .eq 12, 3) := by decide +kernel
theorem dX7_part_21 : decode cX7_part 21 = .ok (.aload_n 0, 1) := by decide +kernel
theorem dX7_part_22 : decode cX7_part 22 = .ok (.iload_n 1, 1) := by decide +kernel
theorem dX7_part_23 : decode cX7_part 23 = .ok (.iload_n 2, 1) := by decide +kernel
theorem dX7_part_24 : decode cX7_part 24 = .ok (.invokevirtual 123, 3) := by decide +kernel
theorem dX7_part_27 : decode cX7_part 27 = .ok (.goto 8, 3) := by decide +kernel
theorem dX7_part_30 : decode cX7_part 30 = .ok (.aload_n 0, 1) := by decide +kernel
theorem dX7_part_31 : decode cX7_part 31 = .ok (.iconst 1, 1) := by decide +kernel
theorem dX7_part_32 : decode cX7_part 32 = .ok (.invokevirtual 88, 3) := by decide +kernel
theorem dX7_part_35 : decode cX7_part 35 = .ok (.ireturn, 1) := by decide +kernel
set_option maxRecDepth 20000 in
theorem ggX7_counted_X7_wet : GoodIn wsX7_counted wsX7_wet := goodIn_r _ [10, 11, 12, 16, 17, 18, 19, 20, 21, 22, 23, 24, 25, 26, 27] (by decide +kernel) (by decide +kernel)
set_option maxRecDepth 20000 in
theorem gX7_counted_X7_wet : GoodIn wsX7_counted (wsV RX7 74 RX7 yX7_wet wsX7_wet) := goodIn_app (goodIn_of _ (by decide +kernel)) ggX7_counted_X7_wet
set_option maxRecDepth 20000 in
theorem ggX7_counted_X7_sum : GoodIn wsX7_counted wsX7_sum := goodIn_r _ [15] (by decide +kernel) (by decide +kernel)
set_option maxRecDepth 20000 in
theorem gX7_counted_X7_sum : GoodIn wsX7_counted (va_wsS RX7 126 yX7_sum wsX7_sum) := goodIn_app (goodIn_of _ (by decide +kernel)) ggX7_counted_X7_sum
theorem dX7_counted_0 : decode cX7_counted 0 = .ok (.iconst 0, 1) := by decide +kernel
theorem dX7_counted_1 : decode cX7_counted 1 = .ok (.istore_n 3, 1) := by decide +kernel
theorem dX7_counted_2 : decode cX7_counted 2 = .ok (.iconst 0, 1) := by decide +kernel
theorem dX7_counted_3 : decode cX7_counted 3 = .ok (.istore 4, 2) := by decide +kernel
theorem dX7_counted_5 : decode cX7_counted 5 = .ok (.iload 4, 2) := by decide +kernel
theorem dX7_counted_7 : decode cX7_counted 7 = .ok (.aload_n 0, 1) := by decide +kernel
theorem dX7_counted_8 : decode cX7_counted 8 = .ok (.getfield 102, 3) := by decide +kernel
theorem dX7_counted_11 : decode cX7_counted 11 = .ok (.if_icmp .ge 23, 3) := by decide +kernel
theorem dX7_counted_14 : decode cX7_counted 14 = .ok (.iload_n 3, 1) := by decide +kernel
theorem dX7_counted_15 : decode cX7_counted 15 = .ok (.aload_n 0, 1) := by decide +kernel
theorem dX7_counted_16 : decode cX7_counted 16 = .ok (.getfield 28, 3) := by decide +kernel
theorem dX7_counted_19 : decode cX7_counted 19 = .ok (.iconst 5, 1) := by decide +kernel
theorem dX7_counted_20 : decode cX7_counted 20 = .ok (.iload 4, 2) := by decide +kernel
theorem dX7_counted_22 : decode cX7_counted 22 = .ok (.imul, 1) := by decide +kernel
theorem dX7_counted_23 : decode cX7_counted 23 = .ok (.iconst 3, 1) := by decide +kernel
theorem dX7_counted_24 : decode cX7_counted 24 = .ok (.iadd, 1) := by decide +kernel
theorem dX7_counted_25 : decode cX7_counted 25 = .ok (.iaload, 1) := by decide +kernel
theorem dX7_counted_26 : decode cX7_counted 26 = .ok (.iadd, 1) := by decide +kernel
theorem dX7_counted_27 : decode cX7_counted 27 = .ok (.istore_n 3, 1) := by decide +kernel
theorem dX7_counted_28 : decode cX7_counted 28 = .ok (.iinc 4 1, 3) := by decide +kernel
theorem dX7_counted_31 : decode cX7_counted 31 = .ok (.goto (-26), 3) := by decide +kernel
theorem dX7_counted_34 : decode cX7_counted 34 = .ok (.aload_n 1, 1) := by decide +kernel
theorem dX7_counted_35 : decode cX7_counted 35 = .ok (.getfield 71, 3) := by decide +kernel
theorem dX7_counted_38 : decode cX7_counted 38 = .ok (.bipush 24, 2) := by decide +kernel
theorem dX7_counted_40 : decode cX7_counted 40 = .ok (.irem, 1) := by decide +kernel
theorem dX7_counted_41 : decode cX7_counted 41 = .ok (.istore 4, 2) := by decide +kernel
theorem dX7_counted_43 : decode cX7_counted 43 = .ok (.bipush 11, 2) := by decide +kernel
theorem dX7_counted_45 : decode cX7_counted 45 = .ok (.newarray .int, 2) := by decide +kernel
theorem dX7_counted_47 : decode cX7_counted 47 = .ok (.dup, 1) := by decide +kernel
theorem dX7_counted_48 : decode cX7_counted 48 = .ok (.iconst 0, 1) := by decide +kernel
theorem dX7_counted_49 : decode cX7_counted 49 = .ok (.aload_n 1, 1) := by decide +kernel
theorem dX7_counted_50 : decode cX7_counted 50 = .ok (.getfield 71, 3) := by decide +kernel
theorem dX7_counted_53 : decode cX7_counted 53 = .ok (.iastore, 1) := by decide +kernel
theorem dX7_counted_54 : decode cX7_counted 54 = .ok (.dup, 1) := by decide +kernel
theorem dX7_counted_55 : decode cX7_counted 55 = .ok (.iconst 1, 1) := by decide +kernel
theorem dX7_counted_56 : decode cX7_counted 56 = .ok (.iload 4, 2) := by decide +kernel
theorem dX7_counted_58 : decode cX7_counted 58 = .ok (.iastore, 1) := by decide +kernel
theorem dX7_counted_59 : decode cX7_counted 59 = .ok (.dup, 1) := by decide +kernel
theorem dX7_counted_60 : decode cX7_counted 60 = .ok (.iconst 2, 1) := by decide +kernel
theorem dX7_counted_61 : decode cX7_counted 61 = .ok (.aload_n 0, 1) := by decide +kernel
theorem dX7_counted_62 : decode cX7_counted 62 = .ok (.iload 4, 2) := by decide +kernel
theorem dX7_counted_64 : decode cX7_counted 64 = .ok (.invokevirtual 74, 3) := by decide +kernel
theorem dX7_counted_67 : decode cX7_counted 67 = .ok (.iastore, 1) := by decide +kernel
theorem dX7_counted_68 : decode cX7_counted 68 = .ok (.dup, 1) := by decide +kernel
theorem dX7_counted_69 : decode cX7_counted 69 = .ok (.iconst 3, 1) := by decide +kernel
theorem dX7_counted_70 : decode cX7_counted 70 = .ok (.aload_n 0, 1) := by decide +kernel
theorem dX7_counted_71 : decode cX7_counted 71 = .ok (.getfield 16, 3) := by decide +kernel
theorem dX7_counted_74 : decode cX7_counted 74 = .ok (.iload 4, 2) := by decide +kernel
theorem dX7_counted_76 : decode cX7_counted 76 = .ok (.iaload, 1) := by decide +kernel
theorem dX7_counted_77 : decode cX7_counted 77 = .ok (.iastore, 1) := by decide +kernel
theorem dX7_counted_78 : decode cX7_counted 78 = .ok (.dup, 1) := by decide +kernel
theorem dX7_counted_79 : decode cX7_counted 79 = .ok (.iconst 4, 1) := by decide +kernel
theorem dX7_counted_80 : decode cX7_counted 80 = .ok (.aload_n 1, 1) := by decide +kernel
theorem dX7_counted_81 : decode cX7_counted 81 = .ok (.getfield 55, 3) := by decide +kernel
theorem dX7_counted_84 : decode cX7_counted 84 = .ok (.iastore, 1) := by decide +kernel
theorem dX7_counted_85 : decode cX7_counted 85 = .ok (.dup, 1) := by decide +kernel
theorem dX7_counted_86 : decode cX7_counted 86 = .ok (.iconst 5, 1) := by decide +kernel
theorem dX7_counted_87 : decode cX7_counted 87 = .ok (.aload_n 0, 1) := by decide +kernel
theorem dX7_counted_88 : decode cX7_counted 88 = .ok (.getfield 49, 3) := by decide +kernel
theorem dX7_counted_91 : decode cX7_counted 91 = .ok (.iastore, 1) := by decide +kernel
theorem dX7_counted_92 : decode cX7_counted 92 = .ok (.dup, 1) := by decide +kernel
theorem dX7_counted_93 : decode cX7_counted 93 = .ok (.bipush 6, 2) := by decide +kernel
theorem dX7_counted_95 : decode cX7_counted 95 = .ok (.aload_n 1, 1) := by decide +kernel
theorem dX7_counted_96 : decode cX7_counted 96 = .ok (.getfield 52, 3) := by decide +kernel
theorem dX7_counted_99 : decode cX7_counted 99 = .ok (.invokestatic 126, 3) := by decide +kernel
theorem dX7_counted_102 : decode cX7_counted 102 = .ok (.iastore, 1) := by decide +kernel
theorem dX7_counted_103 : decode cX7_counted 103 = .ok (.dup, 1) := by decide +kernel
theorem dX7_counted_104 : decode cX7_counted 104 = .ok (.bipush 7, 2) := by decide +kernel
theorem dX7_counted_106 : decode cX7_counted 106 = .ok (.aload_n 1, 1) := by decide +kernel
theorem dX7_counted_107 : decode cX7_counted 107 = .ok (.getfield 82, 3) := by decide +kernel
theorem dX7_counted_110 : decode cX7_counted 110 = .ok (.invokestatic 126, 3) := by decide +kernel
theorem dX7_counted_113 : decode cX7_counted 113 = .ok (.iastore, 1) := by decide +kernel
theorem dX7_counted_114 : decode cX7_counted 114 = .ok (.dup, 1) := by decide +kernel
theorem dX7_counted_115 : decode cX7_counted 115 = .ok (.bipush 8, 2) := by decide +kernel
theorem dX7_counted_117 : decode cX7_counted 117 = .ok (.aload_n 1, 1) := by decide +kernel
theorem dX7_counted_118 : decode cX7_counted 118 = .ok (.getfield 58, 3) := by decide +kernel
theorem dX7_counted_121 : decode cX7_counted 121 = .ok (.invokestatic 126, 3) := by decide +kernel
theorem dX7_counted_124 : decode cX7_counted 124 = .ok (.iastore, 1) := by decide +kernel
theorem dX7_counted_125 : decode cX7_counted 125 = .ok (.dup, 1) := by decide +kernel
theorem dX7_counted_126 : decode cX7_counted 126 = .ok (.bipush 9, 2) := by decide +kernel
theorem dX7_counted_128 : decode cX7_counted 128 = .ok (.aload_n 0, 1) := by decide +kernel
theorem dX7_counted_129 : decode cX7_counted 129 = .ok (.getfield 102, 3) := by decide +kernel
theorem dX7_counted_132 : decode cX7_counted 132 = .ok (.iastore, 1) := by decide +kernel
theorem dX7_counted_133 : decode cX7_counted 133 = .ok (.dup, 1) := by decide +kernel
theorem dX7_counted_134 : decode cX7_counted 134 = .ok (.bipush 10, 2) := by decide +kernel
theorem dX7_counted_136 : decode cX7_counted 136 = .ok (.iload_n 3, 1) := by decide +kernel
theorem dX7_counted_137 : decode cX7_counted 137 = .ok (.iastore, 1) := by decide +kernel
theorem dX7_counted_138 : decode cX7_counted 138 = .ok (.astore 5, 2) := by decide +kernel
theorem dX7_counted_140 : decode cX7_counted 140 = .ok (.aload 5, 2) := by decide +kernel
theorem dX7_counted_142 : decode cX7_counted 142 = .ok (.iload_n 2, 1) := by decide +kernel
theorem dX7_counted_143 : decode cX7_counted 143 = .ok (.iaload, 1) := by decide +kernel
theorem dX7_counted_144 : decode cX7_counted 144 = .ok (.ireturn, 1) := by decide +kernel
set_option maxRecDepth 20000 in
theorem ggX7_count_X7_isIn : GoodIn wsX7_count wsX7_isIn := goodIn_r _ [6] (by decide +kernel) (by decide +kernel)
set_option maxRecDepth 20000 in
theorem gX7_count_X7_isIn : GoodIn wsX7_count (va_wsS RX7 45 yX7_isIn wsX7_isIn) := goodIn_app (goodIn_of _ (by decide +kernel)) ggX7_count_X7_isIn
set_option maxRecDepth 20000 in
theorem ggX7_count_X7_counted : GoodIn wsX7_count wsX7_counted := goodIn_r _ [10, 11, 12, 13, 14, 15, 16, 17, 18, 5, 19, 20, 21, 22, 23, 24, 29, 30, 31, 32, 33, 34, 35, 36, 37, 38, 39, 40, 41, 42, 43, 44, 45] (by decide +kernel) (by decide +kernel)
set_option maxRecDepth 20000 in
theorem gX7_count_X7_counted : GoodIn wsX7_count (wsV RX7 130 RX7 yX7_counted wsX7_counted) := goodIn_app (goodIn_of _ (by decide +kernel)) ggX7_count_X7_counted
set_option maxRecDepth 20000 in
theorem ggX7_count_X7_no : GoodIn wsX7_count wsX7_no := goodIn_r _ [28, 1, 29, 30, 31, 32, 33, 34, 35, 36, 37, 38, 39, 40] (by decide +kernel) (by decide +kernel)
set_option maxRecDepth 20000 in
theorem gX7_count_X7_no : GoodIn wsX7_count (wsV RX7 88 RX7 yX7_no wsX7_no) := goodIn_app (goodIn_of _ (by decide +kernel)) ggX7_count_X7_no
theorem dX7_count_0 : decode cX7_count 0 = .ok (.aload_n 0, 1) := by decide +kernel
theorem dX7_count_1 : decode cX7_count 1 = .ok (.iconst 0, 1) := by decide +kernel
theorem dX7_count_2 : decode cX7_count 2 = .ok (.putfield 41, 3) := by decide +kernel
theorem dX7_count_5 : decode cX7_count 5 = .ok (.iload_n 1, 1) := by decide +kernel
theorem dX7_count_6 : decode cX7_count 6 = .ok (.iconst 0, 1) := by decide +kernel
theorem dX7_count_7 : decode cX7_count 7 = .ok (.bipush 10, 2) := by decide +kernel
theorem dX7_count_9 : decode cX7_count 9 = .ok (.invokestatic 45, 3) := by decide +kernel
theorem dX7_count_12 : decode cX7_count 12 = .ok (.ifCond .eq 15, 3) := by decide +kernel
theorem dX7_count_15 : decode cX7_count 15 = .ok (.aload_n 0, 1) := by decide +kernel
theorem dX7_count_16 : decode cX7_count 16 = .ok (.aload_n 0, 1) := by decide +kernel
theorem dX7_count_17 : decode cX7_count 17 = .ok (.getfield 34, 3) := by decide +kernel
theorem dX7_count_20 : decode cX7_count 20 = .ok (.iload_n 1, 1) := by decide +kernel
theorem dX7_count_21 : decode cX7_count 21 = .ok (.invokevirtual 130, 3) := by decide +kernel
theorem dX7_count_24 : decode cX7_count 24 = .ok (.goto 8, 3) := by decide +kernel
theorem dX7_count_27 : decode cX7_count 27 = .ok (.aload_n 0, 1) := by decide +kernel
theorem dX7_count_28 : decode cX7_count 28 = .ok (.iconst 1, 1) := by decide +kernel
theorem dX7_count_29 : decode cX7_count 29 = .ok (.invokevirtual 88, 3) := by decide +kernel
theorem dX7_count_32 : decode cX7_count 32 = .ok (.ireturn, 1) := by decide +kernel
set_option maxRecDepth 20000 in
theorem ggX7_pass__X7_isIn : GoodIn wsX7_pass_ wsX7_isIn := goodIn_r _ [6] (by decide +kernel) (by decide +kernel)
set_option maxRecDepth 20000 in
theorem gX7_pass__X7_isIn : GoodIn wsX7_pass_ (va_wsS RX7 45 yX7_isIn wsX7_isIn) := goodIn_app (goodIn_of _ (by decide +kernel)) ggX7_pass__X7_isIn
set_option maxRecDepth 20000 in
theorem ggX7_pass__X7_no : GoodIn wsX7_pass_ wsX7_no := goodIn_r _ [10, 1, 45, 46, 47, 48, 49, 50, 51, 52, 53, 54, 55, 56] (by decide +kernel) (by decide +kernel)
set_option maxRecDepth 20000 in
theorem gX7_pass__X7_no : GoodIn wsX7_pass_ (wsV RX7 88 RX7 yX7_no wsX7_no) := goodIn_app (goodIn_of _ (by decide +kernel)) ggX7_pass__X7_no
set_option maxRecDepth 20000 in
theorem ggX7_pass__X7_sum : GoodIn wsX7_pass_ wsX7_sum := goodIn_r _ [13] (by decide +kernel) (by decide +kernel)
set_option maxRecDepth 20000 in
theorem gX7_pass__X7_sum : GoodIn wsX7_pass_ (va_wsS RX7 126 yX7_sum wsX7_sum) := goodIn_app (goodIn_of _ (by decide +kernel)) ggX7_pass__X7_sum
set_option maxRecDepth 20000 in
theorem ggX7_pass__X7_pass : GoodIn wsX7_pass_ wsX7_pass := goodIn_r _ [17, 18, 19, 20, 21, 22, 23, 24, 25, 26, 5, 27, 28, 29, 30, 31, 32, 33, 34, 35, 36, 37, 38, 39, 40, 41, 42, 43, 44, 4, 6, 57, 58, 59, 60, 61, 45, 46, 47, 48, 49, 50, 51, 52, 53, 54, 55, 56] (by decide +kernel) (by decide +kernel)
set_option maxRecDepth 20000 in
theorem gX7_pass__X7_pass : GoodIn wsX7_pass_ (wsV RX7 134 RX7 yX7_pass wsX7_pass) := goodIn_app (goodIn_of _ (by decide +kernel)) ggX7_pass__X7_pass
theorem dX7_pass__0 : decode cX7_pass_ 0 = .ok (.aload_n 0, 1) := by decide +kernel
theorem dX7_pass__1 : decode cX7_pass_ 1 = .ok (.iconst 0, 1) := by decide +kernel
theorem dX7_pass__2 : decode cX7_pass_ 2 = .ok (.putfield 41, 3) := by decide +kernel
theorem dX7_pass__5 : decode cX7_pass_ 5 = .ok (.iload_n 1, 1) := by decide +kernel
theorem dX7_pass__6 : decode cX7_pass_ 6 = .ok (.iconst 1, 1) := by decide +kernel
theorem dX7_pass__7 : decode cX7_pass_ 7 = .ok (.bipush 96, 2) := by decide +kernel
theorem dX7_pass__9 : decode cX7_pass_ 9 = .ok (.invokestatic 45, 3) := by decide +kernel
theorem dX7_pass__12 : decode cX7_pass_ 12 = .ok (.ifCond .ne 9, 3) := by decide +kernel
theorem dX7_pass__15 : decode cX7_pass_ 15 = .ok (.aload_n 0, 1) := by decide +kernel
theorem dX7_pass__16 : decode cX7_pass_ 16 = .ok (.iconst 1, 1) := by decide +kernel
theorem dX7_pass__17 : decode cX7_pass_ 17 = .ok (.invokevirtual 88, 3) := by decide +kernel
theorem dX7_pass__20 : decode cX7_pass_ 20 = .ok (.ireturn, 1) := by decide +kernel
theorem dX7_pass__21 : decode cX7_pass_ 21 = .ok (.aload_n 0, 1) := by decide +kernel
theorem dX7_pass__22 : decode cX7_pass_ 22 = .ok (.getfield 34, 3) := by decide +kernel
theorem dX7_pass__25 : decode cX7_pass_ 25 = .ok (.getfield 82, 3) := by decide +kernel
theorem dX7_pass__28 : decode cX7_pass_ 28 = .ok (.invokestatic 126, 3) := by decide +kernel
theorem dX7_pass__31 : decode cX7_pass_ 31 = .ok (.istore_n 2, 1) := by decide +kernel
theorem dX7_pass__32 : decode cX7_pass_ 32 = .ok (.iconst 0, 1) := by decide +kernel
theorem dX7_pass__33 : decode cX7_pass_ 33 = .ok (.istore_n 3, 1) := by decide +kernel
theorem dX7_pass__34 : decode cX7_pass_ 34 = .ok (.iload_n 3, 1) := by decide +kernel
theorem dX7_pass__35 : decode cX7_pass_ 35 = .ok (.iload_n 1, 1) := by decide +kernel
theorem dX7_pass__36 : decode cX7_pass_ 36 = .ok (.if_icmp .ge 17, 3) := by decide +kernel
theorem dX7_pass__39 : decode cX7_pass_ 39 = .ok (.aload_n 0, 1) := by decide +kernel
theorem dX7_pass__40 : decode cX7_pass_ 40 = .ok (.aload_n 0, 1) := by decide +kernel
theorem dX7_pass__41 : decode cX7_pass_ 41 = .ok (.getfield 34, 3) := by decide +kernel
theorem dX7_pass__44 : decode cX7_pass_ 44 = .ok (.invokevirtual 134, 3) := by decide +kernel
theorem dX7_pass__47 : decode cX7_pass_ 47 = .ok (.iinc 3 1, 3) := by decide +kernel
theorem dX7_pass__50 : decode cX7_pass_ 50 = .ok (.goto (-16), 3) := by decide +kernel
theorem dX7_pass__53 : decode cX7_pass_ 53 = .ok (.aload_n 0, 1) := by decide +kernel
theorem dX7_pass__54 : decode cX7_pass_ 54 = .ok (.getfield 34, 3) := by decide +kernel
theorem dX7_pass__57 : decode cX7_pass_ 57 = .ok (.getfield 82, 3) := by decide +kernel
theorem dX7_pass__60 : decode cX7_pass_ 60 = .ok (.invokestatic 126, 3) := by decide +kernel
theorem dX7_pass__63 : decode cX7_pass_ 63 = .ok (.iload_n 2, 1) := by decide +kernel
theorem dX7_pass__64 : decode cX7_pass_ 64 = .ok (.isub, 1) := by decide +kernel
theorem dX7_pass__65 : decode cX7_pass_ 65 = .ok (.ireturn, 1) := by decide +kernel
set_option maxRecDepth 20000 in
theorem ggX7_enough_X7_isPart : GoodIn wsX7_enough wsX7_isPart := goodIn_r _ [7, 8, 9, 6, 10] (by decide +kernel) (by decide +kernel)
set_option maxRecDepth 20000 in
theorem gX7_enough_X7_isPart : GoodIn wsX7_enough (va_wsS RX7 91 yX7_isPart wsX7_isPart) := goodIn_app (goodIn_of _ (by decide +kernel)) ggX7_enough_X7_isPart
set_option maxRecDepth 20000 in
theorem ggX7_enough_X7_no : GoodIn wsX7_enough wsX7_no := goodIn_r _ [14, 1, 58, 59, 60, 61, 62, 63, 64, 65, 66, 67, 68, 69] (by decide +kernel) (by decide +kernel)
set_option maxRecDepth 20000 in
theorem gX7_enough_X7_no : GoodIn wsX7_enough (wsV RX7 88 RX7 yX7_no wsX7_no) := goodIn_app (goodIn_of _ (by decide +kernel)) ggX7_enough_X7_no
set_option maxRecDepth 20000 in
theorem ggX7_enough_X7_isIn : GoodIn wsX7_enough wsX7_isIn := goodIn_r _ [10] (by decide +kernel) (by decide +kernel)
set_option maxRecDepth 20000 in
theorem gX7_enough_X7_isIn : GoodIn wsX7_enough (va_wsS RX7 45 yX7_isIn wsX7_isIn) := goodIn_app (goodIn_of _ (by decide +kernel)) ggX7_enough_X7_isIn
set_option maxRecDepth 20000 in
theorem ggX7_enough_X6_become : GoodIn wsX7_enough wsX6_become := goodIn_r _ [19, 20, 21, 22, 23, 24, 25, 26, 27, 28, 70, 71, 72, 73, 74] (by decide +kernel) (by decide +kernel)
set_option maxRecDepth 20000 in
theorem gX7_enough_X6_become : GoodIn wsX7_enough (wsV RX7 138 RX6 yX6_become wsX6_become) := goodIn_app (goodIn_of _ (by decide +kernel)) ggX7_enough_X6_become
set_option maxRecDepth 20000 in
theorem ggX7_enough_X7_pass : GoodIn wsX7_enough wsX7_pass := goodIn_r _ [32, 33, 34, 35, 36, 37, 38, 39, 40, 41, 6, 42, 43, 44, 45, 46, 47, 48, 49, 50, 51, 52, 53, 54, 55, 18, 56, 22, 57, 9, 10, 70, 71, 72, 73, 74, 58, 59, 60, 61, 62, 63, 64, 65, 66, 67, 68, 69] (by decide +kernel) (by decide +kernel)
set_option maxRecDepth 20000 in
theorem gX7_enough_X7_pass : GoodIn wsX7_enough (wsV RX7 134 RX7 yX7_pass wsX7_pass) := goodIn_app (goodIn_of _ (by decide +kernel)) ggX7_enough_X7_pass
theorem dX7_enough_0 : decode cX7_enough 0 = .ok (.aload_n 0, 1) := by decide +kernel
theorem dX7_enough_1 : decode cX7_enough 1 = .ok (.iconst 0, 1) := by decide +kernel
theorem dX7_enough_2 : decode cX7_enough 2 = .ok (.putfield 41, 3) := by decide +kernel
theorem dX7_enough_5 : decode cX7_enough 5 = .ok (.iload_n 1, 1) := by decide +kernel
theorem dX7_enough_6 : decode cX7_enough 6 = .ok (.invokestatic 91, 3) := by decide +kernel
theorem dX7_enough_9 : decode cX7_enough 9 = .ok (.ifCond .ne 9, 3) := by decide +kernel
theorem dX7_enough_12 : decode cX7_enough 12 = .ok (.aload_n 0, 1) := by decide +kernel
theorem dX7_enough_13 : decode cX7_enough 13 = .ok (.iconst 1, 1) := by decide +kernel
theorem dX7_enough_14 : decode cX7_enough 14 = .ok (.invokevirtual 88, 3) := by decide +kernel
theorem dX7_enough_17 : decode cX7_enough 17 = .ok (.ireturn, 1) := by decide +kernel
theorem dX7_enough_18 : decode cX7_enough 18 = .ok (.iload_n 2, 1) := by decide +kernel
