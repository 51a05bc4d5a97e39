theorem dX9_sort__31 : decode cX9_sort_ 31 = .ok (.iconst 3, 1) := by decide +kernel
theorem dX9_sort__32 : decode cX9_sort_ 32 = .ok (.iload 6, 2) := by decide +kernel
theorem dX9_sort__34 : decode cX9_sort_ 34 = .ok (.iconst 5, 1) := by decide +kernel
theorem dX9_sort__35 : decode cX9_sort_ 35 = .ok (.ishr, 1) := by decide +kernel
theorem dX9_sort__36 : decode cX9_sort_ 36 = .ok (.iconst 3, 1) := by decide +kernel
theorem dX9_sort__37 : decode cX9_sort_ 37 = .ok (.ishl, 1) := by decide +kernel
theorem dX9_sort__38 : decode cX9_sort_ 38 = .ok (.imul, 1) := by decide +kernel
theorem dX9_sort__39 : decode cX9_sort_ 39 = .ok (.isub, 1) := by decide +kernel
theorem dX9_sort__40 : decode cX9_sort_ 40 = .ok (.iload 4, 2) := by decide +kernel
theorem dX9_sort__42 : decode cX9_sort_ 42 = .ok (.invokestatic 30, 3) := by decide +kernel
theorem dX9_sort__45 : decode cX9_sort_ 45 = .ok (.return_, 1) := by decide +kernel
theorem dX9_sort__46 : decode cX9_sort_ 46 = .ok (.iload 6, 2) := by decide +kernel
theorem dX9_sort__48 : decode cX9_sort_ 48 = .ok (.bipush 44, 2) := by decide +kernel
theorem dX9_sort__50 : decode cX9_sort_ 50 = .ok (.if_icmp .ge 11, 3) := by decide +kernel
theorem dX9_sort__53 : decode cX9_sort_ 53 = .ok (.aload_n 1, 1) := by decide +kernel
theorem dX9_sort__54 : decode cX9_sort_ 54 = .ok (.iload_n 3, 1) := by decide +kernel
theorem dX9_sort__55 : decode cX9_sort_ 55 = .ok (.iload 4, 2) := by decide +kernel
theorem dX9_sort__57 : decode cX9_sort_ 57 = .ok (.invokestatic 34, 3) := by decide +kernel
theorem dX9_sort__60 : decode cX9_sort_ 60 = .ok (.return_, 1) := by decide +kernel
theorem dX9_sort__61 : decode cX9_sort_ 61 = .ok (.iload_n 2, 1) := by decide +kernel
theorem dX9_insertionSort_0 : decode cX9_insertionSort 0 = .ok (.iload_n 1, 1) := by decide +kernel
theorem dX9_insertionSort_1 : decode cX9_insertionSort 1 = .ok (.istore 4, 2) := by decide +kernel
theorem dX9_insertionSort_3 : decode cX9_insertionSort 3 = .ok (.iinc 4 1, 3) := by decide +kernel
theorem dX9_insertionSort_6 : decode cX9_insertionSort 6 = .ok (.iload 4, 2) := by decide +kernel
theorem dX9_insertionSort_8 : decode cX9_insertionSort 8 = .ok (.iload_n 2, 1) := by decide +kernel
theorem dX9_insertionSort_9 : decode cX9_insertionSort 9 = .ok (.if_icmp .ge 58, 3) := by decide +kernel
theorem dX9_insertionSort_12 : decode cX9_insertionSort 12 = .ok (.aload_n 0, 1) := by decide +kernel
theorem dX9_insertionSort_13 : decode cX9_insertionSort 13 = .ok (.iload 4, 2) := by decide +kernel
theorem dX9_insertionSort_15 : decode cX9_insertionSort 15 = .ok (.dup, 1) := by decide +kernel
theorem dX9_insertionSort_16 : decode cX9_insertionSort 16 = .ok (.istore_n 3, 1) := by decide +kernel
theorem dX9_insertionSort_17 : decode cX9_insertionSort 17 = .ok (.iaload, 1) := by decide +kernel
theorem dX9_insertionSort_18 : decode cX9_insertionSort 18 = .ok (.istore 5, 2) := by decide +kernel
theorem dX9_insertionSort_20 : decode cX9_insertionSort 20 = .ok (.iload 5, 2) := by decide +kernel
theorem dX9_insertionSort_22 : decode cX9_insertionSort 22 = .ok (.aload_n 0, 1) := by decide +kernel
theorem dX9_insertionSort_23 : decode cX9_insertionSort 23 = .ok (.iload_n 3, 1) := by decide +kernel
theorem dX9_insertionSort_24 : decode cX9_insertionSort 24 = .ok (.iconst 1, 1) := by decide +kernel
theorem dX9_insertionSort_25 : decode cX9_insertionSort 25 = .ok (.isub, 1) := by decide +kernel
theorem dX9_insertionSort_26 : decode cX9_insertionSort 26 = .ok (.iaload, 1) := by decide +kernel
theorem dX9_insertionSort_27 : decode cX9_insertionSort 27 = .ok (.if_icmp .ge 37, 3) := by decide +kernel
theorem dX9_insertionSort_30 : decode cX9_insertionSort 30 = .ok (.iinc 3 (-1), 3) := by decide +kernel
theorem dX9_insertionSort_33 : decode cX9_insertionSort 33 = .ok (.iload_n 3, 1) := by decide +kernel
theorem dX9_insertionSort_34 : decode cX9_insertionSort 34 = .ok (.iload_n 1, 1) := by decide +kernel
theorem dX9_insertionSort_35 : decode cX9_insertionSort 35 = .ok (.if_icmp .lt 22, 3) := by decide +kernel
theorem dX9_insertionSort_38 : decode cX9_insertionSort 38 = .ok (.iload 5, 2) := by decide +kernel
theorem dX9_insertionSort_40 : decode cX9_insertionSort 40 = .ok (.aload_n 0, 1) := by decide +kernel
theorem dX9_insertionSort_41 : decode cX9_insertionSort 41 = .ok (.iload_n 3, 1) := by decide +kernel
theorem dX9_insertionSort_42 : decode cX9_insertionSort 42 = .ok (.iaload, 1) := by decide +kernel
theorem dX9_insertionSort_43 : decode cX9_insertionSort 43 = .ok (.if_icmp .ge 14, 3) := by decide +kernel
theorem dX9_insertionSort_46 : decode cX9_insertionSort 46 = .ok (.aload_n 0, 1) := by decide +kernel
theorem dX9_insertionSort_47 : decode cX9_insertionSort 47 = .ok (.iload_n 3, 1) := by decide +kernel
theorem dX9_insertionSort_48 : decode cX9_insertionSort 48 = .ok (.iconst 1, 1) := by decide +kernel
theorem dX9_insertionSort_49 : decode cX9_insertionSort 49 = .ok (.iadd, 1) := by decide +kernel
theorem dX9_insertionSort_50 : decode cX9_insertionSort 50 = .ok (.aload_n 0, 1) := by decide +kernel
theorem dX9_insertionSort_51 : decode cX9_insertionSort 51 = .ok (.iload_n 3, 1) := by decide +kernel
theorem dX9_insertionSort_52 : decode cX9_insertionSort 52 = .ok (.iaload, 1) := by decide +kernel
theorem dX9_insertionSort_53 : decode cX9_insertionSort 53 = .ok (.iastore, 1) := by decide +kernel
theorem dX9_insertionSort_54 : decode cX9_insertionSort 54 = .ok (.goto (-24), 3) := by decide +kernel
theorem dX9_insertionSort_57 : decode cX9_insertionSort 57 = .ok (.aload_n 0, 1) := by decide +kernel
theorem dX9_insertionSort_58 : decode cX9_insertionSort 58 = .ok (.iload_n 3, 1) := by decide +kernel
theorem dX9_insertionSort_59 : decode cX9_insertionSort 59 = .ok (.iconst 1, 1) := by decide +kernel
theorem dX9_insertionSort_60 : decode cX9_insertionSort 60 = .ok (.iadd, 1) := by decide +kernel
theorem dX9_insertionSort_61 : decode cX9_insertionSort 61 = .ok (.iload 5, 2) := by decide +kernel
theorem dX9_insertionSort_63 : decode cX9_insertionSort 63 = .ok (.iastore, 1) := by decide +kernel
theorem dX9_insertionSort_64 : decode cX9_insertionSort 64 = .ok (.goto (-61), 3) := by decide +kernel
theorem dX9_insertionSort_67 : decode cX9_insertionSort 67 = .ok (.return_, 1) := by decide +kernel
theorem dL_below_0 : decode cL_below 0 = .ok (.iload_n 0, 1) := by decide +kernel
theorem dL_below_1 : decode cL_below 1 = .ok (.ldc 7, 2) := by decide +kernel
theorem dL_below_3 : decode cL_below 3 = .ok (.iand, 1) := by decide +kernel
theorem dL_below_4 : decode cL_below 4 = .ok (.iload_n 1, 1) := by decide +kernel
theorem dL_below_5 : decode cL_below 5 = .ok (.irem, 1) := by decide +kernel
theorem dL_below_6 : decode cL_below 6 = .ok (.ireturn, 1) := by decide +kernel
theorem dL_cell_0 : decode cL_cell 0 = .ok (.iload_n 1, 1) := by decide +kernel
theorem dL_cell_1 : decode cL_cell 1 = .ok (.aload_n 0, 1) := by decide +kernel
theorem dL_cell_2 : decode cL_cell 2 = .ok (.arraylength, 1) := by decide +kernel
theorem dL_cell_3 : decode cL_cell 3 = .ok (.if_icmp .ge 9, 3) := by decide +kernel
theorem dL_cell_6 : decode cL_cell 6 = .ok (.aload_n 0, 1) := by decide +kernel
theorem dL_cell_7 : decode cL_cell 7 = .ok (.iload_n 1, 1) := by decide +kernel
theorem dL_cell_8 : decode cL_cell 8 = .ok (.iaload, 1) := by decide +kernel
theorem dL_cell_9 : decode cL_cell 9 = .ok (.goto 9, 3) := by decide +kernel
theorem dL_cell_12 : decode cL_cell 12 = .ok (.ldc 8, 2) := by decide +kernel
theorem dL_cell_14 : decode cL_cell 14 = .ok (.iload_n 1, 1) := by decide +kernel
theorem dL_cell_15 : decode cL_cell 15 = .ok (.iconst 3, 1) := by decide +kernel
theorem dL_cell_16 : decode cL_cell 16 = .ok (.iadd, 1) := by decide +kernel
theorem dL_cell_17 : decode cL_cell 17 = .ok (.imul, 1) := by decide +kernel
theorem dL_cell_18 : decode cL_cell 18 = .ok (.ireturn, 1) := by decide +kernel
set_option maxRecDepth 20000 in
theorem ggL_act_L_below : GoodIn wsL_act wsL_below := goodIn_r _ [19, 20] (by decide +kernel) (by decide +kernel)
set_option maxRecDepth 20000 in
theorem gL_act_L_below : GoodIn wsL_act (va_wsS RL 9 yL_below wsL_below) := goodIn_app (goodIn_of _ (by decide +kernel)) ggL_act_L_below
set_option maxRecDepth 20000 in
theorem ggL_act_X5_setWeather : GoodIn wsL_act wsX5_setWeather := goodIn_ca (goodIn_ca (goodIn_r _ [25, 26, 27, 28, 29, 30, 31, 32, 33, 34, 35, 24, 36, 37, 38, 39, 40, 41, 42, 43, 194, 195, 196, 197, 198, 199, 200, 201, 202] (by decide +kernel) (by decide +kernel)) (goodIn_sub (fun _ h => List.mem_cons_of_mem _ (List.mem_append_left _ (List.mem_append_left _ (List.mem_append_right _ h)))) (by decide +kernel))) (goodIn_sub (fun _ h => List.mem_cons_of_mem _ (List.mem_append_left _ (List.mem_append_right _ h))) (by decide +kernel))
set_option maxRecDepth 20000 in
theorem gL_act_X5_setWeather : GoodIn wsL_act (wsV RL 25 RX5 yX5_setWeather wsX5_setWeather) := goodIn_app (goodIn_of _ (by decide +kernel)) ggL_act_X5_setWeather
set_option maxRecDepth 20000 in
theorem ggL_act_X6_wet : GoodIn wsL_act wsX6_wet := goodIn_r _ [48] (by decide +kernel) (by decide +kernel)
set_option maxRecDepth 20000 in
theorem gL_act_X6_wet : GoodIn wsL_act (wsV RL 31 RX6 yX6_wet wsX6_wet) := goodIn_app (goodIn_of _ (by decide +kernel)) ggL_act_X6_wet
set_option maxRecDepth 20000 in
theorem ggL_act_X5_pump : GoodIn wsL_act wsX5_pump := goodIn_ca (goodIn_ca (goodIn_ca (goodIn_r _ [52, 26, 27, 28, 29, 53, 54, 55, 56, 34, 35, 24, 36, 57, 58, 59, 60, 61, 62, 63, 64, 194, 195, 196, 197, 198, 199, 203, 204, 205] (by decide +kernel) (by decide +kernel)) (goodIn_sub (fun _ h => List.mem_cons_of_mem _ (List.mem_append_left _ (List.mem_append_left _ (List.mem_append_right _ h)))) (by decide +kernel))) (goodIn_sub (fun _ h => List.mem_cons_of_mem _ (List.mem_append_left _ (List.mem_append_right _ h))) (by decide +kernel))) (goodIn_sub (fun _ h => List.mem_cons_of_mem _ (List.mem_append_right _ h)) (by decide +kernel))
set_option maxRecDepth 20000 in
theorem gL_act_X5_pump : GoodIn wsL_act (wsV RL 38 RX5 yX5_pump wsX5_pump) := goodIn_app (goodIn_of _ (by decide +kernel)) ggL_act_X5_pump
set_option maxRecDepth 20000 in
theorem ggL_act_X5_run : GoodIn wsL_act wsX5_run := goodIn_ca (goodIn_r _ [68, 26, 27, 55, 56, 69, 70, 34, 35, 24, 36, 194, 195, 196, 197, 198, 199, 203, 204, 205, 206, 207, 208, 209, 210, 211, 212] (by decide +kernel) (by decide +kernel)) (goodIn_sub (fun _ h => List.mem_cons_of_mem _ (List.mem_append_left _ (List.mem_append_left _ (List.mem_append_right _ h)))) (by decide +kernel))
set_option maxRecDepth 20000 in
theorem gL_act_X5_run : GoodIn wsL_act (wsV RL 46 RX5 yX5_run wsX5_run) := goodIn_app (goodIn_of _ (by decide +kernel)) ggL_act_X5_run
set_option maxRecDepth 20000 in
theorem ggL_act_X5_fill : GoodIn wsL_act wsX5_fill := goodIn_ca (goodIn_r _ [74, 28, 29, 69, 75, 76, 9, 10, 11, 34, 35, 24, 36, 194, 195, 196, 197, 198, 199, 206, 207, 208, 209, 210, 211, 212] (by decide +kernel) (by decide +kernel)) (goodIn_sub (fun _ h => List.mem_cons_of_mem _ (List.mem_append_left _ (List.mem_append_right _ h))) (by decide +kernel))
set_option maxRecDepth 20000 in
theorem gL_act_X5_fill : GoodIn wsL_act (wsV RL 58 RX5 yX5_fill wsX5_fill) := goodIn_app (goodIn_of _ (by decide +kernel)) ggL_act_X5_fill
set_option maxRecDepth 20000 in
theorem ggL_act_X5_groom : GoodIn wsL_act wsX5_groom := goodIn_ca (goodIn_ca (goodIn_r _ [80, 26, 27, 28, 29, 69, 34, 35, 24, 36, 81, 82, 83, 84, 85, 86, 87, 194, 195, 196, 197, 198, 199, 206, 207, 208, 209, 210, 211, 212] (by decide +kernel) (by decide +kernel)) (goodIn_sub (fun _ h => List.mem_cons_of_mem _ (List.mem_append_left _ (List.mem_append_left _ (List.mem_append_right _ h)))) (by decide +kernel))) (goodIn_sub (fun _ h => List.mem_cons_of_mem _ (List.mem_append_left _ (List.mem_append_right _ h))) (by decide +kernel))
set_option maxRecDepth 20000 in
theorem gL_act_X5_groom : GoodIn wsL_act (wsV RL 69 RX5 yX5_groom wsX5_groom) := goodIn_app (goodIn_of _ (by decide +kernel)) ggL_act_X5_groom
set_option maxRecDepth 20000 in
theorem ggL_act_X5_judge : GoodIn wsL_act wsX5_judge := goodIn_ca (goodIn_ca (goodIn_r _ [91, 26, 27, 28, 29, 92, 93, 34, 35, 24, 36, 194, 195, 196, 197, 198, 199, 213] (by decide +kernel) (by decide +kernel)) (goodIn_sub (fun _ h => List.mem_cons_of_mem _ (List.mem_append_left _ (List.mem_append_left _ (List.mem_append_right _ h)))) (by decide +kernel))) (goodIn_sub (fun _ h => List.mem_cons_of_mem _ (List.mem_append_left _ (List.mem_append_right _ h))) (by decide +kernel))
set_option maxRecDepth 20000 in
theorem gL_act_X5_judge : GoodIn wsL_act (wsV RL 75 RX5 yX5_judge wsX5_judge) := goodIn_app (goodIn_of _ (by decide +kernel)) ggL_act_X5_judge
set_option maxRecDepth 20000 in
theorem ggL_act_X5_jump : GoodIn wsL_act wsX5_jump := goodIn_ca (goodIn_ca (goodIn_r _ [97, 28, 29, 53, 54, 98, 99, 30, 33, 69, 92, 100, 34, 35, 24, 36, 101, 102, 103, 84, 104, 105, 106, 107, 108, 109, 110, 111, 112, 113, 114, 115, 76, 9, 10, 11, 116, 117, 118, 119, 120, 121, 122, 86, 87, 123, 124, 125, 126, 127, 128, 129, 130, 131, 132, 133, 134, 135, 136, 137, 138, 139, 140, 141, 142, 143, 144, 145, 146, 147, 148, 149, 194, 195, 196, 197, 198, 199, 214, 215, 216, 217, 218, 219, 200, 201, 202, 206, 207, 208, 209, 210, 211, 212, 213] (by decide +kernel) (by decide +kernel)) (goodIn_sub (fun _ h => List.mem_cons_of_mem _ (List.mem_append_left _ (List.mem_append_right _ h))) (by decide +kernel))) (goodIn_sub (fun _ h => List.mem_cons_of_mem _ (List.mem_append_right _ h)) (by decide +kernel))
set_option maxRecDepth 20000 in
theorem gL_act_X5_jump : GoodIn wsL_act (wsV RL 81 RX5 yX5_jump wsX5_jump) := goodIn_app (goodIn_of _ (by decide +kernel)) ggL_act_X5_jump
set_option maxRecDepth 20000 in
theorem ggL_act_X6_jump : GoodIn wsL_act wsX6_jump := goodIn_hd (goodIn_r [.code yX6_jump cX6_jump 9 none] [153] (by decide +kernel) (by decide +kernel)) (goodIn_app (goodIn_app (goodIn_r _ [154, 155, 2, 156, 157, 158, 159, 160, 117, 10, 118, 161, 162, 163, 47, 164, 165, 166, 167, 168, 169, 170, 171, 172, 173, 174, 175, 176, 177, 178, 179, 180, 181, 182, 9, 11] (by decide +kernel) (by decide +kernel)) (show GoodIn _ hwX6_jump from List.forall_mem_cons.mpr ⟨⟨List.mem_cons_of_mem _ (List.mem_append_left _ (List.mem_append_left _ (List.mem_append_left _ (List.mem_append_left _ (List.mem_append_left _ (List.mem_append_left _ (List.mem_append_left _ (List.mem_append_left _ (List.mem_append_left _ (List.mem_append_left _ (List.mem_append_right _ (List.mem_cons_self)))))))))))), good_of_word (by decide +kernel)⟩, fun _ h => absurd h List.not_mem_nil⟩)) (goodIn_r _ [184, 185, 186, 187, 188, 189, 190, 191, 192, 193] (by decide +kernel) (by decide +kernel)))
set_option maxRecDepth 20000 in
theorem gL_act_X6_jump : GoodIn wsL_act (wsV RL 85 RX6 yX6_jump wsX6_jump) := goodIn_app (goodIn_of _ (by decide +kernel)) ggL_act_X6_jump
theorem dL_act_0 : decode cL_act 0 = .ok (.iload_n 2, 1) := by decide +kernel
theorem dL_act_1 : decode cL_act 1 = .ok (.bipush 14, 2) := by decide +kernel
theorem dL_act_3 : decode cL_act 3 = .ok (.invokestatic 9, 3) := by decide +kernel
theorem dL_act_6 : decode cL_act 6 = .ok (.tableswitch 651 0 8 #[50, 50, 50, 201, 314, 314, 386, 451, 594], 50) := by decide +kernel
theorem dL_act_56 : decode cL_act 56 = .ok (.iconst 3, 1) := by decide +kernel
theorem dL_act_57 : decode cL_act 57 = .ok (.newarray .int, 2) := by decide +kernel
theorem dL_act_59 : decode cL_act 59 = .ok (.dup, 1) := by decide +kernel
theorem dL_act_60 : decode cL_act 60 = .ok (.iconst 0, 1) := by decide +kernel
theorem dL_act_61 : decode cL_act 61 = .ok (.iload_n 2, 1) := by decide +kernel
theorem dL_act_62 : decode cL_act 62 = .ok (.iconst 5, 1) := by decide +kernel
theorem dL_act_63 : decode cL_act 63 = .ok (.ishr, 1) := by decide +kernel
theorem dL_act_64 : decode cL_act 64 = .ok (.iload_n 2, 1) := by decide +kernel
theorem dL_act_65 : decode cL_act 65 = .ok (.bipush 9, 2) := by decide +kernel
theorem dL_act_67 : decode cL_act 67 = .ok (.ishr, 1) := by decide +kernel
theorem dL_act_68 : decode cL_act 68 = .ok (.iconst 2, 1) := by decide +kernel
theorem dL_act_69 : decode cL_act 69 = .ok (.invokestatic 9, 3) := by decide +kernel
theorem dL_act_72 : decode cL_act 72 = .ok (.ifCond .ne 8, 3) := by decide +kernel
theorem dL_act_75 : decode cL_act 75 = .ok (.bipush 51, 2) := by decide +kernel
theorem dL_act_77 : decode cL_act 77 = .ok (.goto 5, 3) := by decide +kernel
theorem dL_act_80 : decode cL_act 80 = .ok (.bipush 20, 2) := by decide +kernel
theorem dL_act_82 : decode cL_act 82 = .ok (.invokestatic 9, 3) := by decide +kernel
theorem dL_act_85 : decode cL_act 85 = .ok (.bipush 30, 2) := by decide +kernel
theorem dL_act_87 : decode cL_act 87 = .ok (.isub, 1) := by decide +kernel
theorem dL_act_88 : decode cL_act 88 = .ok (.iload_n 2, 1) := by decide +kernel
theorem dL_act_89 : decode cL_act 89 = .ok (.bipush 9, 2) := by decide +kernel
theorem dL_act_91 : decode cL_act 91 = .ok (.ishr, 1) := by decide +kernel
theorem dL_act_92 : decode cL_act 92 = .ok (.iconst 2, 1) := by decide +kernel
theorem dL_act_93 : decode cL_act 93 = .ok (.invokestatic 9, 3) := by decide +kernel
theorem dL_act_96 : decode cL_act 96 = .ok (.ifCond .ne 7, 3) := by decide +kernel
theorem dL_act_99 : decode cL_act 99 = .ok (.iconst 0, 1) := by decide +kernel
theorem dL_act_100 : decode cL_act 100 = .ok (.goto 5, 3) := by decide +kernel
theorem dL_act_103 : decode cL_act 103 = .ok (.bipush 12, 2) := by decide +kernel
theorem dL_act_105 : decode cL_act 105 = .ok (.iadd, 1) := by decide +kernel
theorem dL_act_106 : decode cL_act 106 = .ok (.iastore, 1) := by decide +kernel
theorem dL_act_107 : decode cL_act 107 = .ok (.dup, 1) := by decide +kernel
theorem dL_act_108 : decode cL_act 108 = .ok (.iconst 1, 1) := by decide +kernel
theorem dL_act_109 : decode cL_act 109 = .ok (.iload_n 2, 1) := by decide +kernel
theorem dL_act_110 : decode cL_act 110 = .ok (.iconst 4, 1) := by decide +kernel
theorem dL_act_111 : decode cL_act 111 = .ok (.ishr, 1) := by decide +kernel
theorem dL_act_112 : decode cL_act 112 = .ok (.bipush 101, 2) := by decide +kernel
theorem dL_act_114 : decode cL_act 114 = .ok (.invokestatic 9, 3) := by decide +kernel
theorem dL_act_117 : decode cL_act 117 = .ok (.iastore, 1) := by decide +kernel
theorem dL_act_118 : decode cL_act 118 = .ok (.dup, 1) := by decide +kernel
theorem dL_act_119 : decode cL_act 119 = .ok (.iconst 2, 1) := by decide +kernel
theorem dL_act_120 : decode cL_act 120 = .ok (.iload_n 2, 1) := by decide +kernel
theorem dL_act_121 : decode cL_act 121 = .ok (.bipush 6, 2) := by decide +kernel
theorem dL_act_123 : decode cL_act 123 = .ok (.ishr, 1) := by decide +kernel
theorem dL_act_124 : decode cL_act 124 = .ok (.bipush 19, 2) := by decide +kernel
theorem dL_act_126 : decode cL_act 126 = .ok (.invokestatic 9, 3) := by decide +kernel
theorem dL_act_129 : decode cL_act 129 = .ok (.bipush 9, 2) := by decide +kernel
theorem dL_act_131 : decode cL_act 131 = .ok (.isub, 1) := by decide +kernel
theorem dL_act_132 : decode cL_act 132 = .ok (.iastore, 1) := by decide +kernel
theorem dL_act_133 : decode cL_act 133 = .ok (.astore 4, 2) := by decide +kernel
theorem dL_act_135 : decode cL_act 135 = .ok (.iload_n 2, 1) := by decide +kernel
theorem dL_act_136 : decode cL_act 136 = .ok (.iconst 3, 1) := by decide +kernel
theorem dL_act_137 : decode cL_act 137 = .ok (.ishr, 1) := by decide +kernel
theorem dL_act_138 : decode cL_act 138 = .ok (.bipush 24, 2) := by decide +kernel
theorem dL_act_140 : decode cL_act 140 = .ok (.invokestatic 9, 3) := by decide +kernel
theorem dL_act_143 : decode cL_act 143 = .ok (.istore 5, 2) := by decide +kernel
theorem dL_act_145 : decode cL_act 145 = .ok (.iload_n 2, 1) := by decide +kernel
theorem dL_act_146 : decode cL_act 146 = .ok (.bipush 8, 2) := by decide +kernel
theorem dL_act_148 : decode cL_act 148 = .ok (.ishr, 1) := by decide +kernel
theorem dL_act_149 : decode cL_act 149 = .ok (.iconst 3, 1) := by decide +kernel
theorem dL_act_150 : decode cL_act 150 = .ok (.invokestatic 9, 3) := by decide +kernel
theorem dL_act_153 : decode cL_act 153 = .ok (.ifCond .ne 12, 3) := by decide +kernel
theorem dL_act_156 : decode cL_act 156 = .ok (.aload_n 1, 1) := by decide +kernel
theorem dL_act_157 : decode cL_act 157 = .ok (.getfield 15, 3) := by decide +kernel
theorem dL_act_160 : decode cL_act 160 = .ok (.bipush 24, 2) := by decide +kernel
theorem dL_act_162 : decode cL_act 162 = .ok (.irem, 1) := by decide +kernel
theorem dL_act_163 : decode cL_act 163 = .ok (.istore 5, 2) := by decide +kernel
theorem dL_act_165 : decode cL_act 165 = .ok (.aload_n 1, 1) := by decide +kernel
theorem dL_act_166 : decode cL_act 166 = .ok (.getfield 21, 3) := by decide +kernel
theorem dL_act_169 : decode cL_act 169 = .ok (.iload 5, 2) := by decide +kernel
theorem dL_act_171 : decode cL_act 171 = .ok (.aload 4, 2) := by decide +kernel
theorem dL_act_173 : decode cL_act 173 = .ok (.aastore, 1) := by decide +kernel
theorem dL_act_174 : decode cL_act 174 = .ok (.aload_n 0, 1) := by decide +kernel
theorem dL_act_175 : decode cL_act 175 = .ok (.iload 5, 2) := by decide +kernel
theorem dL_act_177 : decode cL_act 177 = .ok (.aload 4, 2) := by decide +kernel
theorem dL_act_179 : decode cL_act 179 = .ok (.iconst 0, 1) := by decide +kernel
theorem dL_act_180 : decode cL_act 180 = .ok (.iaload, 1) := by decide +kernel
theorem dL_act_181 : decode cL_act 181 = .ok (.aload 4, 2) := by decide +kernel
theorem dL_act_183 : decode cL_act 183 = .ok (.iconst 1, 1) := by decide +kernel
theorem dL_act_184 : decode cL_act 184 = .ok (.iaload, 1) := by decide +kernel
theorem dL_act_185 : decode cL_act 185 = .ok (.aload 4, 2) := by decide +kernel
theorem dL_act_187 : decode cL_act 187 = .ok (.iconst 2, 1) := by decide +kernel
theorem dL_act_188 : decode cL_act 188 = .ok (.iaload, 1) := by decide +kernel
theorem dL_act_189 : decode cL_act 189 = .ok (.invokevirtual 25, 3) := by decide +kernel
theorem dL_act_192 : decode cL_act 192 = .ok (.aload_n 1, 1) := by decide +kernel
theorem dL_act_193 : decode cL_act 193 = .ok (.aload 4, 2) := by decide +kernel
theorem dL_act_195 : decode cL_act 195 = .ok (.invokevirtual 31, 3) := by decide +kernel
theorem dL_act_198 : decode cL_act 198 = .ok (.if_icmp .ne 7, 3) := by decide +kernel
theorem dL_act_201 : decode cL_act 201 = .ok (.iconst 1, 1) := by decide +kernel
theorem dL_act_202 : decode cL_act 202 = .ok (.goto 4, 3) := by decide +kernel
theorem dL_act_205 : decode cL_act 205 = .ok (.iconst 0, 1) := by decide +kernel
theorem dL_act_206 : decode cL_act 206 = .ok (.ireturn, 1) := by decide +kernel
theorem dL_act_207 : decode cL_act 207 = .ok (.iconst 3, 1) := by decide +kernel
theorem dL_act_208 : decode cL_act 208 = .ok (.newarray .int, 2) := by decide +kernel
theorem dL_act_210 : decode cL_act 210 = .ok (.dup, 1) := by decide +kernel
theorem dL_act_211 : decode cL_act 211 = .ok (.iconst 0, 1) := by decide +kernel
theorem dL_act_212 : decode cL_act 212 = .ok (.iload_n 2, 1) := by decide +kernel
theorem dL_act_213 : decode cL_act 213 = .ok (.iconst 4, 1) := by decide +kernel
theorem dL_act_214 : decode cL_act 214 = .ok (.ishr, 1) := by decide +kernel
theorem dL_act_215 : decode cL_act 215 = .ok (.bipush 20, 2) := by decide +kernel
theorem dL_act_217 : decode cL_act 217 = .ok (.invokestatic 9, 3) := by decide +kernel
theorem dL_act_220 : decode cL_act 220 = .ok (.iastore, 1) := by decide +kernel
theorem dL_act_221 : decode cL_act 221 = .ok (.dup, 1) := by decide +kernel
theorem dL_act_222 : decode cL_act 222 = .ok (.iconst 1, 1) := by decide +kernel
theorem dL_act_223 : decode cL_act 223 = .ok (.iconst 1, 1) := by decide +kernel
theorem dL_act_224 : decode cL_act 224 = .ok (.iload_n 2, 1) := by decide +kernel
theorem dL_act_225 : decode cL_act 225 = .ok (.bipush 6, 2) := by decide +kernel
theorem dL_act_227 : decode cL_act 227 = .ok (.ishr, 1) := by decide +kernel
theorem dL_act_228 : decode cL_act 228 = .ok (.bipush 9, 2) := by decide +kernel
theorem dL_act_230 : decode cL_act 230 = .ok (.invokestatic 9, 3) := by decide +kernel
theorem dL_act_233 : decode cL_act 233 = .ok (.iadd, 1) := by decide +kernel
theorem dL_act_234 : decode cL_act 234 = .ok (.iastore, 1) := by decide +kernel
theorem dL_act_235 : decode cL_act 235 = .ok (.dup, 1) := by decide +kernel
theorem dL_act_236 : decode cL_act 236 = .ok (.iconst 2, 1) := by decide +kernel
theorem dL_act_237 : decode cL_act 237 = .ok (.iconst 0, 1) := by decide +kernel
theorem dL_act_238 : decode cL_act 238 = .ok (.iastore, 1) := by decide +kernel
theorem dL_act_239 : decode cL_act 239 = .ok (.astore 4, 2) := by decide +kernel
theorem dL_act_241 : decode cL_act 241 = .ok (.aload_n 1, 1) := by decide +kernel
theorem dL_act_242 : decode cL_act 242 = .ok (.getfield 35, 3) := by decide +kernel
theorem dL_act_245 : decode cL_act 245 = .ok (.iconst 5, 1) := by decide +kernel
theorem dL_act_246 : decode cL_act 246 = .ok (.if_icmp .ge 7, 3) := by decide +kernel
theorem dL_act_249 : decode cL_act 249 = .ok (.iconst 1, 1) := by decide +kernel
theorem dL_act_250 : decode cL_act 250 = .ok (.goto 4, 3) := by decide +kernel
theorem dL_act_253 : decode cL_act 253 = .ok (.iconst 0, 1) := by decide +kernel
theorem dL_act_254 : decode cL_act 254 = .ok (.istore 5, 2) := by decide +kernel
theorem dL_act_256 : decode cL_act 256 = .ok (.aload_n 0, 1) := by decide +kernel
theorem dL_act_257 : decode cL_act 257 = .ok (.aload 4, 2) := by decide +kernel
theorem dL_act_259 : decode cL_act 259 = .ok (.iconst 0, 1) := by decide +kernel
theorem dL_act_260 : decode cL_act 260 = .ok (.iaload, 1) := by decide +kernel
theorem dL_act_261 : decode cL_act 261 = .ok (.aload 4, 2) := by decide +kernel
theorem dL_act_263 : decode cL_act 263 = .ok (.iconst 1, 1) := by decide +kernel
theorem dL_act_264 : decode cL_act 264 = .ok (.iaload, 1) := by decide +kernel
theorem dL_act_265 : decode cL_act 265 = .ok (.invokevirtual 38, 3) := by decide +kernel
theorem dL_act_268 : decode cL_act 268 = .ok (.istore_n 3, 1) := by decide +kernel
theorem dL_act_269 : decode cL_act 269 = .ok (.goto 7, 3) := by decide +kernel
theorem dL_act_272 : decode cL_act 272 = .ok (.astore 6, 2) := by decide +kernel
theorem dL_act_274 : decode cL_act 274 = .ok (.iconst (-1), 1) := by decide +kernel
theorem dL_act_275 : decode cL_act 275 = .ok (.istore_n 3, 1) := by decide +kernel
theorem dL_act_276 : decode cL_act 276 = .ok (.iload_n 3, 1) := by decide +kernel
theorem dL_act_277 : decode cL_act 277 = .ok (.iload 5, 2) := by decide +kernel
theorem dL_act_279 : decode cL_act 279 = .ok (.ifCond .eq 10, 3) := by decide +kernel
theorem dL_act_282 : decode cL_act 282 = .ok (.aload_n 1, 1) := by decide +kernel
theorem dL_act_283 : decode cL_act 283 = .ok (.getfield 35, 3) := by decide +kernel
theorem dL_act_286 : decode cL_act 286 = .ok (.goto 4, 3) := by decide +kernel
theorem dL_act_289 : decode cL_act 289 = .ok (.iconst (-1), 1) := by decide +kernel
theorem dL_act_290 : decode cL_act 290 = .ok (.if_icmp .eq 5, 3) := by decide +kernel
theorem dL_act_293 : decode cL_act 293 = .ok (.iconst 0, 1) := by decide +kernel
theorem dL_act_294 : decode cL_act 294 = .ok (.ireturn, 1) := by decide +kernel
theorem dL_act_295 : decode cL_act 295 = .ok (.iload 5, 2) := by decide +kernel
theorem dL_act_297 : decode cL_act 297 = .ok (.ifCond .eq 21, 3) := by decide +kernel
theorem dL_act_300 : decode cL_act 300 = .ok (.aload_n 1, 1) := by decide +kernel
theorem dL_act_301 : decode cL_act 301 = .ok (.getfield 43, 3) := by decide +kernel
theorem dL_act_304 : decode cL_act 304 = .ok (.aload_n 1, 1) := by decide +kernel
theorem dL_act_305 : decode cL_act 305 = .ok (.dup, 1) := by decide +kernel
theorem dL_act_306 : decode cL_act 306 = .ok (.getfield 35, 3) := by decide +kernel
theorem dL_act_309 : decode cL_act 309 = .ok (.dup_x1, 1) := by decide +kernel
theorem dL_act_310 : decode cL_act 310 = .ok (.iconst 1, 1) := by decide +kernel
theorem dL_act_311 : decode cL_act 311 = .ok (.iadd, 1) := by decide +kernel
theorem dL_act_312 : decode cL_act 312 = .ok (.putfield 35, 3) := by decide +kernel
theorem dL_act_315 : decode cL_act 315 = .ok (.aload 4, 2) := by decide +kernel
theorem dL_act_317 : decode cL_act 317 = .ok (.aastore, 1) := by decide +kernel
theorem dL_act_318 : decode cL_act 318 = .ok (.iconst 1, 1) := by decide +kernel
theorem dL_act_319 : decode cL_act 319 = .ok (.ireturn, 1) := by decide +kernel
theorem dL_act_320 : decode cL_act 320 = .ok (.aload_n 1, 1) := by decide +kernel
theorem dL_act_321 : decode cL_act 321 = .ok (.getfield 35, 3) := by decide +kernel
theorem dL_act_324 : decode cL_act 324 = .ok (.ifCond .ne 5, 3) := by decide +kernel
theorem dL_act_327 : decode cL_act 327 = .ok (.iconst 1, 1) := by decide +kernel
theorem dL_act_328 : decode cL_act 328 = .ok (.ireturn, 1) := by decide +kernel
theorem dL_act_329 : decode cL_act 329 = .ok (.aload_n 1, 1) := by decide +kernel
theorem dL_act_330 : decode cL_act 330 = .ok (.getfield 43, 3) := by decide +kernel
theorem dL_act_333 : decode cL_act 333 = .ok (.iload_n 2, 1) := by decide +kernel
theorem dL_act_334 : decode cL_act 334 = .ok (.iconst 4, 1) := by decide +kernel
theorem dL_act_335 : decode cL_act 335 = .ok (.ishr, 1) := by decide +kernel
theorem dL_act_336 : decode cL_act 336 = .ok (.aload_n 1, 1) := by decide +kernel
theorem dL_act_337 : decode cL_act 337 = .ok (.getfield 35, 3) := by decide +kernel
theorem dL_act_340 : decode cL_act 340 = .ok (.invokestatic 9, 3) := by decide +kernel
theorem dL_act_343 : decode cL_act 343 = .ok (.aaload, 1) := by decide +kernel
theorem dL_act_344 : decode cL_act 344 = .ok (.astore 4, 2) := by decide +kernel
theorem dL_act_346 : decode cL_act 346 = .ok (.aload 4, 2) := by decide +kernel
theorem dL_act_348 : decode cL_act 348 = .ok (.iconst 2, 1) := by decide +kernel
theorem dL_act_349 : decode cL_act 349 = .ok (.iconst 1, 1) := by decide +kernel
theorem dL_act_350 : decode cL_act 350 = .ok (.aload 4, 2) := by decide +kernel
theorem dL_act_352 : decode cL_act 352 = .ok (.iconst 2, 1) := by decide +kernel
theorem dL_act_353 : decode cL_act 353 = .ok (.iaload, 1) := by decide +kernel
theorem dL_act_354 : decode cL_act 354 = .ok (.isub, 1) := by decide +kernel
theorem dL_act_355 : decode cL_act 355 = .ok (.iastore, 1) := by decide +kernel
theorem dL_act_356 : decode cL_act 356 = .ok (.aload_n 0, 1) := by decide +kernel
theorem dL_act_357 : decode cL_act 357 = .ok (.iload_n 2, 1) := by decide +kernel
theorem dL_act_358 : decode cL_act 358 = .ok (.iconst 4, 1) := by decide +kernel
theorem dL_act_359 : decode cL_act 359 = .ok (.ishr, 1) := by decide +kernel
theorem dL_act_360 : decode cL_act 360 = .ok (.aload_n 1, 1) := by decide +kernel
theorem dL_act_361 : decode cL_act 361 = .ok (.getfield 35, 3) := by decide +kernel
theorem dL_act_364 : decode cL_act 364 = .ok (.invokestatic 9, 3) := by decide +kernel
theorem dL_act_367 : decode cL_act 367 = .ok (.invokevirtual 46, 3) := by decide +kernel
theorem dL_act_370 : decode cL_act 370 = .ok (.aload 4, 2) := by decide +kernel
theorem dL_act_372 : decode cL_act 372 = .ok (.iconst 2, 1) := by decide +kernel
theorem dL_act_373 : decode cL_act 373 = .ok (.iaload, 1) := by decide +kernel
theorem dL_act_374 : decode cL_act 374 = .ok (.iconst 1, 1) := by decide +kernel
theorem dL_act_375 : decode cL_act 375 = .ok (.if_icmp .ne 7, 3) := by decide +kernel
theorem dL_act_378 : decode cL_act 378 = .ok (.iconst 1, 1) := by decide +kernel
theorem dL_act_379 : decode cL_act 379 = .ok (.goto 4, 3) := by decide +kernel
theorem dL_act_382 : decode cL_act 382 = .ok (.iconst 0, 1) := by decide +kernel
theorem dL_act_383 : decode cL_act 383 = .ok (.if_icmp .ne 7, 3) := by decide +kernel
theorem dL_act_386 : decode cL_act 386 = .ok (.iconst 1, 1) := by decide +kernel
theorem dL_act_387 : decode cL_act 387 = .ok (.goto 4, 3) := by decide +kernel
theorem dL_act_390 : decode cL_act 390 = .ok (.iconst 0, 1) := by decide +kernel
theorem dL_act_391 : decode cL_act 391 = .ok (.ireturn, 1) := by decide +kernel
theorem dL_act_392 : decode cL_act 392 = .ok (.iconst 1, 1) := by decide +kernel
theorem dL_act_393 : decode cL_act 393 = .ok (.iload_n 2, 1) := by decide +kernel
theorem dL_act_394 : decode cL_act 394 = .ok (.iconst 4, 1) := by decide +kernel
theorem dL_act_395 : decode cL_act 395 = .ok (.ishr, 1) := by decide +kernel
theorem dL_act_396 : decode cL_act 396 = .ok (.iload_n 2, 1) := by decide +kernel
theorem dL_act_397 : decode cL_act 397 = .ok (.bipush 7, 2) := by decide +kernel
theorem dL_act_399 : decode cL_act 399 = .ok (.ishr, 1) := by decide +kernel
theorem dL_act_400 : decode cL_act 400 = .ok (.iconst 4, 1) := by decide +kernel
theorem dL_act_401 : decode cL_act 401 = .ok (.invokestatic 9, 3) := by decide +kernel
theorem dL_act_404 : decode cL_act 404 = .ok (.ifCond .ne 9, 3) := by decide +kernel
theorem dL_act_407 : decode cL_act 407 = .ok (.sipush 9999, 3) := by decide +kernel
theorem dL_act_410 : decode cL_act 410 = .ok (.goto 5, 3) := by decide +kernel
theorem dL_act_413 : decode cL_act 413 = .ok (.bipush 60, 2) := by decide +kernel
theorem dL_act_415 : decode cL_act 415 = .ok (.invokestatic 9, 3) := by decide +kernel
theorem dL_act_418 : decode cL_act 418 = .ok (.iadd, 1) := by decide +kernel
theorem dL_act_419 : decode cL_act 419 = .ok (.istore 4, 2) := by decide +kernel
theorem dL_act_421 : decode cL_act 421 = .ok (.aload_n 1, 1) := by decide +kernel
theorem dL_act_422 : decode cL_act 422 = .ok (.sipush 9999, 3) := by decide +kernel
theorem dL_act_425 : decode cL_act 425 = .ok (.aload_n 1, 1) := by decide +kernel
theorem dL_act_426 : decode cL_act 426 = .ok (.getfield 50, 3) := by decide +kernel
theorem dL_act_429 : decode cL_act 429 = .ok (.iload 4, 2) := by decide +kernel
theorem dL_act_431 : decode cL_act 431 = .ok (.iadd, 1) := by decide +kernel
theorem dL_act_432 : decode cL_act 432 = .ok (.invokestatic 53, 3) := by decide +kernel
theorem dL_act_435 : decode cL_act 435 = .ok (.putfield 50, 3) := by decide +kernel
theorem dL_act_438 : decode cL_act 438 = .ok (.aload_n 0, 1) := by decide +kernel
theorem dL_act_439 : decode cL_act 439 = .ok (.iload 4, 2) := by decide +kernel
theorem dL_act_441 : decode cL_act 441 = .ok (.invokevirtual 58, 3) := by decide +kernel
theorem dL_act_444 : decode cL_act 444 = .ok (.aload_n 1, 1) := by decide +kernel
theorem dL_act_445 : decode cL_act 445 = .ok (.getfield 50, 3) := by decide +kernel
theorem dL_act_448 : decode cL_act 448 = .ok (.if_icmp .ne 7, 3) := by decide +kernel
theorem dL_act_451 : decode cL_act 451 = .ok (.iconst 1, 1) := by decide +kernel
theorem dL_act_452 : decode cL_act 452 = .ok (.goto 4, 3) := by decide +kernel
theorem dL_act_455 : decode cL_act 455 = .ok (.iconst 0, 1) := by decide +kernel
theorem dL_act_456 : decode cL_act 456 = .ok (.ireturn, 1) := by decide +kernel
theorem dL_act_457 : decode cL_act 457 = .ok (.iload_n 2, 1) := by decide +kernel
theorem dL_act_458 : decode cL_act 458 = .ok (.iconst 4, 1) := by decide +kernel
theorem dL_act_459 : decode cL_act 459 = .ok (.ishr, 1) := by decide +kernel
theorem dL_act_460 : decode cL_act 460 = .ok (.bipush 20, 2) := by decide +kernel
theorem dL_act_462 : decode cL_act 462 = .ok (.invokestatic 9, 3) := by decide +kernel
theorem dL_act_465 : decode cL_act 465 = .ok (.istore 4, 2) := by decide +kernel
theorem dL_act_467 : decode cL_act 467 = .ok (.iload 4, 2) := by decide +kernel
theorem dL_act_469 : decode cL_act 469 = .ok (.iload_n 2, 1) := by decide +kernel
theorem dL_act_470 : decode cL_act 470 = .ok (.bipush 7, 2) := by decide +kernel
theorem dL_act_472 : decode cL_act 472 = .ok (.ishr, 1) := by decide +kernel
theorem dL_act_473 : decode cL_act 473 = .ok (.bipush 20, 2) := by decide +kernel
theorem dL_act_475 : decode cL_act 475 = .ok (.iload 4, 2) := by decide +kernel
theorem dL_act_477 : decode cL_act 477 = .ok (.isub, 1) := by decide +kernel
theorem dL_act_478 : decode cL_act 478 = .ok (.invokestatic 9, 3) := by decide +kernel
theorem dL_act_481 : decode cL_act 481 = .ok (.iadd, 1) := by decide +kernel
theorem dL_act_482 : decode cL_act 482 = .ok (.istore 5, 2) := by decide +kernel
theorem dL_act_484 : decode cL_act 484 = .ok (.iconst 0, 1) := by decide +kernel
theorem dL_act_485 : decode cL_act 485 = .ok (.istore 6, 2) := by decide +kernel
theorem dL_act_487 : decode cL_act 487 = .ok (.iload 4, 2) := by decide +kernel
theorem dL_act_489 : decode cL_act 489 = .ok (.istore 7, 2) := by decide +kernel
theorem dL_act_491 : decode cL_act 491 = .ok (.iload 7, 2) := by decide +kernel
theorem dL_act_493 : decode cL_act 493 = .ok (.iload 5, 2) := by decide +kernel
theorem dL_act_495 : decode cL_act 495 = .ok (.if_icmp .gt 29, 3) := by decide +kernel
theorem dL_act_498 : decode cL_act 498 = .ok (.iload 6, 2) := by decide +kernel
theorem dL_act_500 : decode cL_act 500 = .ok (.aload_n 1, 1) := by decide +kernel
theorem dL_act_501 : decode cL_act 501 = .ok (.getfield 62, 3) := by decide +kernel
theorem dL_act_504 : decode cL_act 504 = .ok (.iload 7, 2) := by decide +kernel
theorem dL_act_506 : decode cL_act 506 = .ok (.iaload, 1) := by decide +kernel
theorem dL_act_507 : decode cL_act 507 = .ok (.iadd, 1) := by decide +kernel
theorem dL_act_508 : decode cL_act 508 = .ok (.istore 6, 2) := by decide +kernel
theorem dL_act_510 : decode cL_act 510 = .ok (.aload_n 1, 1) := by decide +kernel
theorem dL_act_511 : decode cL_act 511 = .ok (.getfield 66, 3) := by decide +kernel
theorem dL_act_514 : decode cL_act 514 = .ok (.iload 7, 2) := by decide +kernel
theorem dL_act_516 : decode cL_act 516 = .ok (.iconst 0, 1) := by decide +kernel
theorem dL_act_517 : decode cL_act 517 = .ok (.iastore, 1) := by decide +kernel
theorem dL_act_518 : decode cL_act 518 = .ok (.iinc 7 1, 3) := by decide +kernel
theorem dL_act_521 : decode cL_act 521 = .ok (.goto (-30), 3) := by decide +kernel
theorem dL_act_524 : decode cL_act 524 = .ok (.iload 5, 2) := by decide +kernel
theorem dL_act_526 : decode cL_act 526 = .ok (.iload 4, 2) := by decide +kernel
theorem dL_act_528 : decode cL_act 528 = .ok (.isub, 1) := by decide +kernel
theorem dL_act_529 : decode cL_act 529 = .ok (.iconst 1, 1) := by decide +kernel
theorem dL_act_530 : decode cL_act 530 = .ok (.iadd, 1) := by decide +kernel
theorem dL_act_531 : decode cL_act 531 = .ok (.istore 7, 2) := by decide +kernel
theorem dL_act_533 : decode cL_act 533 = .ok (.iload 4, 2) := by decide +kernel
theorem dL_act_535 : decode cL_act 535 = .ok (.istore 8, 2) := by decide +kernel
theorem dL_act_537 : decode cL_act 537 = .ok (.iload 8, 2) := by decide +kernel
theorem dL_act_539 : decode cL_act 539 = .ok (.iload 5, 2) := by decide +kernel
theorem dL_act_541 : decode cL_act 541 = .ok (.if_icmp .gt 40, 3) := by decide +kernel
theorem dL_act_544 : decode cL_act 544 = .ok (.aload_n 1, 1) := by decide +kernel
theorem dL_act_545 : decode cL_act 545 = .ok (.getfield 62, 3) := by decide +kernel
theorem dL_act_548 : decode cL_act 548 = .ok (.iload 8, 2) := by decide +kernel
theorem dL_act_550 : decode cL_act 550 = .ok (.iload 6, 2) := by decide +kernel
theorem dL_act_552 : decode cL_act 552 = .ok (.iload 7, 2) := by decide +kernel
theorem dL_act_554 : decode cL_act 554 = .ok (.idiv, 1) := by decide +kernel
theorem dL_act_555 : decode cL_act 555 = .ok (.iload 8, 2) := by decide +kernel
theorem dL_act_557 : decode cL_act 557 = .ok (.iload 4, 2) := by decide +kernel
theorem dL_act_559 : decode cL_act 559 = .ok (.isub, 1) := by decide +kernel
theorem dL_act_560 : decode cL_act 560 = .ok (.iload 6, 2) := by decide +kernel
theorem dL_act_562 : decode cL_act 562 = .ok (.iload 7, 2) := by decide +kernel
theorem dL_act_564 : decode cL_act 564 = .ok (.irem, 1) := by decide +kernel
theorem dL_act_565 : decode cL_act 565 = .ok (.if_icmp .ge 7, 3) := by decide +kernel
theorem dL_act_568 : decode cL_act 568 = .ok (.iconst 1, 1) := by decide +kernel
theorem dL_act_569 : decode cL_act 569 = .ok (.goto 4, 3) := by decide +kernel
theorem dL_act_572 : decode cL_act 572 = .ok (.iconst 0, 1) := by decide +kernel
theorem dL_act_573 : decode cL_act 573 = .ok (.iadd, 1) := by decide +kernel
theorem dL_act_574 : decode cL_act 574 = .ok (.iastore, 1) := by decide +kernel
theorem dL_act_575 : decode cL_act 575 = .ok (.iinc 8 1, 3) := by decide +kernel
theorem dL_act_578 : decode cL_act 578 = .ok (.goto (-41), 3) := by decide +kernel
theorem dL_act_581 : decode cL_act 581 = .ok (.aload_n 0, 1) := by decide +kernel
theorem dL_act_582 : decode cL_act 582 = .ok (.iload 4, 2) := by decide +kernel
theorem dL_act_584 : decode cL_act 584 = .ok (.iload 5, 2) := by decide +kernel
theorem dL_act_586 : decode cL_act 586 = .ok (.invokevirtual 69, 3) := by decide +kernel
theorem dL_act_589 : decode cL_act 589 = .ok (.iload 6, 2) := by decide +kernel
theorem dL_act_591 : decode cL_act 591 = .ok (.if_icmp .ne 7, 3) := by decide +kernel
theorem dL_act_594 : decode cL_act 594 = .ok (.iconst 1, 1) := by decide +kernel
theorem dL_act_595 : decode cL_act 595 = .ok (.goto 4, 3) := by decide +kernel
theorem dL_act_598 : decode cL_act 598 = .ok (.iconst 0, 1) := by decide +kernel
theorem dL_act_599 : decode cL_act 599 = .ok (.ireturn, 1) := by decide +kernel
theorem dL_act_600 : decode cL_act 600 = .ok (.iload_n 2, 1) := by decide +kernel
theorem dL_act_601 : decode cL_act 601 = .ok (.iconst 4, 1) := by decide +kernel
theorem dL_act_602 : decode cL_act 602 = .ok (.ishr, 1) := by decide +kernel
theorem dL_act_603 : decode cL_act 603 = .ok (.iconst 5, 1) := by decide +kernel
theorem dL_act_604 : decode cL_act 604 = .ok (.invokestatic 9, 3) := by decide +kernel
theorem dL_act_607 : decode cL_act 607 = .ok (.istore 4, 2) := by decide +kernel
theorem dL_act_609 : decode cL_act 609 = .ok (.aload_n 1, 1) := by decide +kernel
theorem dL_act_610 : decode cL_act 610 = .ok (.getfield 72, 3) := by decide +kernel
theorem dL_act_613 : decode cL_act 613 = .ok (.iload 4, 2) := by decide +kernel
theorem dL_act_615 : decode cL_act 615 = .ok (.iaload, 1) := by decide +kernel
theorem dL_act_616 : decode cL_act 616 = .ok (.istore 5, 2) := by decide +kernel
theorem dL_act_618 : decode cL_act 618 = .ok (.aload_n 1, 1) := by decide +kernel
theorem dL_act_619 : decode cL_act 619 = .ok (.getfield 72, 3) := by decide +kernel
theorem dL_act_622 : decode cL_act 622 = .ok (.iload 4, 2) := by decide +kernel
theorem dL_act_624 : decode cL_act 624 = .ok (.iload_n 2, 1) := by decide +kernel
theorem dL_act_625 : decode cL_act 625 = .ok (.bipush 6, 2) := by decide +kernel
theorem dL_act_627 : decode cL_act 627 = .ok (.ishr, 1) := by decide +kernel
theorem dL_act_628 : decode cL_act 628 = .ok (.iconst 5, 1) := by decide +kernel
theorem dL_act_629 : decode cL_act 629 = .ok (.invokestatic 9, 3) := by decide +kernel
theorem dL_act_632 : decode cL_act 632 = .ok (.iastore, 1) := by decide +kernel
theorem dL_act_633 : decode cL_act 633 = .ok (.aload_n 0, 1) := by decide +kernel
theorem dL_act_634 : decode cL_act 634 = .ok (.iload 4, 2) := by decide +kernel
theorem dL_act_636 : decode cL_act 636 = .ok (.aload_n 1, 1) := by decide +kernel
theorem dL_act_637 : decode cL_act 637 = .ok (.getfield 72, 3) := by decide +kernel
theorem dL_act_640 : decode cL_act 640 = .ok (.iload 4, 2) := by decide +kernel
theorem dL_act_642 : decode cL_act 642 = .ok (.iaload, 1) := by decide +kernel
theorem dL_act_643 : decode cL_act 643 = .ok (.invokevirtual 75, 3) := by decide +kernel
theorem dL_act_646 : decode cL_act 646 = .ok (.iload 5, 2) := by decide +kernel
theorem dL_act_648 : decode cL_act 648 = .ok (.if_icmp .ne 7, 3) := by decide +kernel
theorem dL_act_651 : decode cL_act 651 = .ok (.iconst 1, 1) := by decide +kernel
theorem dL_act_652 : decode cL_act 652 = .ok (.goto 4, 3) := by decide +kernel
theorem dL_act_655 : decode cL_act 655 = .ok (.iconst 0, 1) := by decide +kernel
theorem dL_act_656 : decode cL_act 656 = .ok (.ireturn, 1) := by decide +kernel
theorem dL_act_657 : decode cL_act 657 = .ok (.iload_n 2, 1) := by decide +kernel
theorem dL_act_658 : decode cL_act 658 = .ok (.iconst 4, 1) := by decide +kernel
theorem dL_act_659 : decode cL_act 659 = .ok (.ishr, 1) := by decide +kernel
theorem dL_act_660 : decode cL_act 660 = .ok (.bipush 10, 2) := by decide +kernel
theorem dL_act_662 : decode cL_act 662 = .ok (.invokestatic 9, 3) := by decide +kernel
theorem dL_act_665 : decode cL_act 665 = .ok (.istore 4, 2) := by decide +kernel
theorem dL_act_667 : decode cL_act 667 = .ok (.iconst 1, 1) := by decide +kernel
theorem dL_act_668 : decode cL_act 668 = .ok (.iload_n 2, 1) := by decide +kernel
theorem dL_act_669 : decode cL_act 669 = .ok (.iconst 5, 1) := by decide +kernel
theorem dL_act_670 : decode cL_act 670 = .ok (.ishr, 1) := by decide +kernel
theorem dL_act_671 : decode cL_act 671 = .ok (.bipush 20, 2) := by decide +kernel
theorem dL_act_673 : decode cL_act 673 = .ok (.invokestatic 9, 3) := by decide +kernel
theorem dL_act_676 : decode cL_act 676 = .ok (.iadd, 1) := by decide +kernel
theorem dL_act_677 : decode cL_act 677 = .ok (.istore 5, 2) := by decide +kernel
theorem dL_act_679 : decode cL_act 679 = .ok (.iload_n 2, 1) := by decide +kernel
theorem dL_act_680 : decode cL_act 680 = .ok (.bipush 7, 2) := by decide +kernel
theorem dL_act_682 : decode cL_act 682 = .ok (.ishr, 1) := by decide +kernel
theorem dL_act_683 : decode cL_act 683 = .ok (.bipush 21, 2) := by decide +kernel
theorem dL_act_685 : decode cL_act 685 = .ok (.invokestatic 9, 3) := by decide +kernel
theorem dL_act_688 : decode cL_act 688 = .ok (.istore 6, 2) := by decide +kernel
theorem dL_act_690 : decode cL_act 690 = .ok (.aload_n 1, 1) := by decide +kernel
theorem dL_act_691 : decode cL_act 691 = .ok (.getfield 78, 3) := by decide +kernel
theorem dL_act_694 : decode cL_act 694 = .ok (.bipush 30, 2) := by decide +kernel
theorem dL_act_696 : decode cL_act 696 = .ok (.if_icmp .ge 7, 3) := by decide +kernel
theorem dL_act_699 : decode cL_act 699 = .ok (.iconst 1, 1) := by decide +kernel
theorem dL_act_700 : decode cL_act 700 = .ok (.goto 4, 3) := by decide +kernel
theorem dL_act_703 : decode cL_act 703 = .ok (.iconst 0, 1) := by decide +kernel
theorem dL_act_704 : decode cL_act 704 = .ok (.istore 7, 2) := by decide +kernel
theorem dL_act_706 : decode cL_act 706 = .ok (.aload_n 0, 1) := by decide +kernel
theorem dL_act_707 : decode cL_act 707 = .ok (.iload 4, 2) := by decide +kernel
theorem dL_act_709 : decode cL_act 709 = .ok (.iload 5, 2) := by decide +kernel
theorem dL_act_711 : decode cL_act 711 = .ok (.iload 6, 2) := by decide +kernel
theorem dL_act_713 : decode cL_act 713 = .ok (.invokevirtual 81, 3) := by decide +kernel
theorem dL_act_716 : decode cL_act 716 = .ok (.istore_n 3, 1) := by decide +kernel
theorem dL_act_717 : decode cL_act 717 = .ok (.goto 7, 3) := by decide +kernel
theorem dL_act_720 : decode cL_act 720 = .ok (.astore 8, 2) := by decide +kernel
theorem dL_act_722 : decode cL_act 722 = .ok (.iconst (-1), 1) := by decide +kernel
theorem dL_act_723 : decode cL_act 723 = .ok (.istore_n 3, 1) := by decide +kernel
theorem dL_act_724 : decode cL_act 724 = .ok (.iload_n 3, 1) := by decide +kernel
theorem dL_act_725 : decode cL_act 725 = .ok (.iload 7, 2) := by decide +kernel
theorem dL_act_727 : decode cL_act 727 = .ok (.ifCond .eq 10, 3) := by decide +kernel
theorem dL_act_730 : decode cL_act 730 = .ok (.aload_n 1, 1) := by decide +kernel
theorem dL_act_731 : decode cL_act 731 = .ok (.getfield 78, 3) := by decide +kernel
theorem dL_act_734 : decode cL_act 734 = .ok (.goto 4, 3) := by decide +kernel
theorem dL_act_737 : decode cL_act 737 = .ok (.iconst (-1), 1) := by decide +kernel
theorem dL_act_738 : decode cL_act 738 = .ok (.if_icmp .eq 5, 3) := by decide +kernel
theorem dL_act_741 : decode cL_act 741 = .ok (.iconst 0, 1) := by decide +kernel
theorem dL_act_742 : decode cL_act 742 = .ok (.ireturn, 1) := by decide +kernel
theorem dL_act_743 : decode cL_act 743 = .ok (.iload 7, 2) := by decide +kernel
theorem dL_act_745 : decode cL_act 745 = .ok (.ifCond .eq 13, 3) := by decide +kernel
theorem dL_act_748 : decode cL_act 748 = .ok (.aload_n 1, 1) := by decide +kernel
theorem dL_act_749 : decode cL_act 749 = .ok (.iload 4, 2) := by decide +kernel
theorem dL_act_751 : decode cL_act 751 = .ok (.iload 5, 2) := by decide +kernel
theorem dL_act_753 : decode cL_act 753 = .ok (.iload 6, 2) := by decide +kernel
theorem dL_act_755 : decode cL_act 755 = .ok (.invokevirtual 85, 3) := by decide +kernel
theorem dL_act_758 : decode cL_act 758 = .ok (.iconst 1, 1) := by decide +kernel
theorem dL_act_759 : decode cL_act 759 = .ok (.ireturn, 1) := by decide +kernel
set_option maxRecDepth 20000 in
theorem ggL_build_X6_init : GoodIn wsL_build wsX6_init := goodIn_r _ [8, 9, 10, 11, 12, 13, 14, 15, 16, 17, 18, 19, 258, 259, 260, 261, 262, 263, 264, 265, 266, 267] (by decide +kernel) (by decide +kernel)
set_option maxRecDepth 20000 in
theorem gL_build_X6_init : GoodIn wsL_build (wsX6_init) := ggL_build_X6_init
set_option maxRecDepth 20000 in
theorem ggL_build_L_cell : GoodIn wsL_build wsL_cell := goodIn_r _ [23, 24] (by decide +kernel) (by decide +kernel)
set_option maxRecDepth 20000 in
theorem gL_build_L_cell : GoodIn wsL_build (va_wsS RL 89 yL_cell wsL_cell) := goodIn_app (goodIn_of _ (by decide +kernel)) ggL_build_L_cell
set_option maxRecDepth 20000 in
theorem ggL_build_L_below : GoodIn wsL_build wsL_below := goodIn_r _ [27, 28] (by decide +kernel) (by decide +kernel)
set_option maxRecDepth 20000 in
theorem gL_build_L_below : GoodIn wsL_build (va_wsS RL 9 yL_below wsL_below) := goodIn_app (goodIn_of _ (by decide +kernel)) ggL_build_L_below
set_option maxRecDepth 20000 in
theorem ggL_build_X5_fill : GoodIn wsL_build wsX5_fill := goodIn_ca (goodIn_r _ [33, 34, 35, 36, 37, 38, 39, 40, 41, 42, 43, 32, 44, 268, 269, 270, 271, 272, 273, 274, 275, 276, 277, 278, 279, 280] (by decide +kernel) (by decide +kernel)) (goodIn_sub (fun _ h => List.mem_cons_of_mem _ (List.mem_append_left _ (List.mem_append_left _ (List.mem_append_right _ h)))) (by decide +kernel))
set_option maxRecDepth 20000 in
theorem gL_build_X5_fill : GoodIn wsL_build (wsV RL 58 RX5 yX5_fill wsX5_fill) := goodIn_app (goodIn_of _ (by decide +kernel)) ggL_build_X5_fill
set_option maxRecDepth 20000 in
theorem ggL_build_L_act : GoodIn wsL_build wsL_act := goodIn_hd (List.forall_mem_cons.mpr ⟨⟨List.mem_cons_of_mem _ (List.mem_append_left _ (List.mem_append_left _ (List.mem_append_left _ (List.mem_append_left _ (List.mem_append_left _ (List.mem_append_left _ (List.mem_append_left _ (List.mem_append_left _ (List.mem_append_left _ (List.mem_append_left _ (List.mem_append_right _ (List.mem_cons_of_mem _ (List.mem_cons_self))))))))))))), good_of_word (by decide +kernel)⟩, fun _ h => absurd h List.not_mem_nil⟩) (goodIn_app (goodIn_app (goodIn_app (goodIn_app (goodIn_app (goodIn_app (goodIn_app (goodIn_app (goodIn_app (goodIn_app (goodIn_app (goodIn_r _ [47, 12, 48, 49, 50, 51, 4, 52, 39, 40, 41, 53, 54, 55, 56, 25, 26, 22, 27, 28, 57, 58, 59, 32, 60, 61, 62, 34, 35, 63, 64, 65, 66, 42, 43, 44, 67, 68, 69, 70, 71, 72, 73, 74, 75, 76, 3, 77, 78, 79, 80, 81, 82, 83, 84, 85, 86, 87, 88, 89, 90, 91, 92, 93, 94, 95, 96, 97, 36, 98, 29, 30, 31, 33, 37, 38, 99, 100, 101, 102, 103, 104, 105, 106, 107, 108, 109, 110, 111, 112, 113, 114, 115, 116, 117, 118, 119, 120, 121, 122, 123, 124, 125, 126, 127, 128, 129, 130, 131, 132, 133, 134, 135, 136, 137, 138, 139, 140, 141, 142, 143, 144, 145, 146, 147, 148, 149, 150, 151, 152, 153, 154, 155, 156, 157, 158, 159, 160, 161, 162, 163, 164, 165, 166, 167, 168, 169, 170, 171, 172, 173, 174, 175, 16, 176, 18, 19, 177, 13, 178, 179, 180, 181, 182, 183, 184, 185, 186, 14, 187, 188, 189, 190, 191, 192, 193, 194, 195, 196, 197, 198, 199] (by decide +kernel) (by decide +kernel)) (show GoodIn _ hwL_act from List.forall_mem_cons.mpr ⟨⟨List.mem_cons_of_mem _ (List.mem_append_left _ (List.mem_append_left _ (List.mem_append_left _ (List.mem_append_left _ (List.mem_append_left _ (List.mem_append_left _ (List.mem_append_left _ (List.mem_append_left _ (List.mem_append_left _ (List.mem_append_left _ (List.mem_append_right _ (List.mem_cons_self)))))))))))), good_of_word (by decide +kernel)⟩, fun _ h => absurd h List.not_mem_nil⟩)) (goodIn_r _ [258, 259, 260, 261, 262, 263, 264, 265, 266, 267] (by decide +kernel) (by decide +kernel))) (goodIn_r _ [268, 269, 270, 271, 272, 273] (by decide +kernel) (by decide +kernel))) (goodIn_r _ [281, 282, 283] (by decide +kernel) (by decide +kernel))) (goodIn_r _ [284, 285, 286] (by decide +kernel) (by decide +kernel))) (goodIn_r _ [274, 275, 276, 277, 278, 279, 280] (by decide +kernel) (by decide +kernel))) (goodIn_r _ [287] (by decide +kernel) (by decide +kernel))) (goodIn_r _ [288, 289, 290, 291, 292, 293] (by decide +kernel) (by decide +kernel))) (goodIn_sub (fun _ h => List.mem_cons_of_mem _ (List.mem_append_left _ (List.mem_append_right _ h))) (by decide +kernel))) (goodIn_sub (fun _ h => List.mem_cons_of_mem _ (List.mem_append_left _ (List.mem_append_left _ (List.mem_append_right _ h)))) (by decide +kernel))) (goodIn_sub (fun _ h => List.mem_cons_of_mem _ (List.mem_append_right _ h)) (by decide +kernel)))
set_option maxRecDepth 20000 in
theorem gL_build_L_act : GoodIn wsL_build (va_wsS RL 94 yL_act wsL_act) := goodIn_app (goodIn_of _ (by decide +kernel)) ggL_build_L_act
set_option maxRecDepth 20000 in
theorem ggL_build_X6_pass : GoodIn wsL_build wsX6_pass := goodIn_r _ [203, 16, 176, 204, 17, 205, 14, 13, 206, 75, 76, 3, 77, 207, 208, 209, 210, 258, 259, 260, 261, 262, 263, 264, 265, 266, 267] (by decide +kernel) (by decide +kernel)
set_option maxRecDepth 20000 in
theorem gL_build_X6_pass : GoodIn wsL_build (wsV RL 98 RX6 yX6_pass wsX6_pass) := goodIn_app (goodIn_of _ (by decide +kernel)) ggL_build_X6_pass
set_option maxRecDepth 20000 in
theorem ggL_build_X5_pass : GoodIn wsL_build wsX5_pass := goodIn_ca (goodIn_r _ [214, 34, 35, 36, 42, 43, 32, 44, 215, 216, 217, 106, 218, 108, 219, 220, 221, 222, 223, 224, 225, 226, 227, 228, 229, 230, 231, 232, 233, 234, 127, 235, 124, 125, 126, 128, 129, 130, 131, 236, 68, 69, 70, 71, 72, 73, 237, 238, 239, 240, 241, 242, 39, 40, 41, 243, 244, 245, 246, 109, 247, 248, 249, 250, 251, 252, 253, 254, 149, 139, 140, 255, 146, 147, 148, 268, 269, 270, 271, 272, 273, 274, 275, 276, 277, 278, 279, 280, 281, 282, 283, 284, 285, 286] (by decide +kernel) (by decide +kernel)) (goodIn_sub (fun _ h => List.mem_cons_of_mem _ (List.mem_append_left _ (List.mem_append_left _ (List.mem_append_right _ h)))) (by decide +kernel))
set_option maxRecDepth 20000 in
theorem gL_build_X5_pass : GoodIn wsL_build (wsV RL 101 RX5 yX5_pass wsX5_pass) := goodIn_app (goodIn_of _ (by decide +kernel)) ggL_build_X5_pass
theorem dL_build_0 : decode cL_build 0 = .ok (.new 16, 3) := by decide +kernel
theorem dL_build_3 : decode cL_build 3 = .ok (.dup, 1) := by decide +kernel
theorem dL_build_4 : decode cL_build 4 = .ok (.invokespecial 88, 3) := by decide +kernel
theorem dL_build_7 : decode cL_build 7 = .ok (.astore_n 2, 1) := by decide +kernel
theorem dL_build_8 : decode cL_build 8 = .ok (.aload_n 0, 1) := by decide +kernel
theorem dL_build_9 : decode cL_build 9 = .ok (.iconst 1, 1) := by decide +kernel
theorem dL_build_10 : decode cL_build 10 = .ok (.aload_n 1, 1) := by decide +kernel
theorem dL_build_11 : decode cL_build 11 = .ok (.iconst 0, 1) := by decide +kernel
theorem dL_build_12 : decode cL_build 12 = .ok (.invokestatic 89, 3) := by decide +kernel
theorem dL_build_15 : decode cL_build 15 = .ok (.sipush 2000, 3) := by decide +kernel
theorem dL_build_18 : decode cL_build 18 = .ok (.invokestatic 9, 3) := by decide +kernel
theorem dL_build_21 : decode cL_build 21 = .ok (.iadd, 1) := by decide +kernel
theorem dL_build_22 : decode cL_build 22 = .ok (.invokevirtual 58, 3) := by decide +kernel
theorem dL_build_25 : decode cL_build 25 = .ok (.aload_n 2, 1) := by decide +kernel
theorem dL_build_26 : decode cL_build 26 = .ok (.iconst 1, 1) := by decide +kernel
theorem dL_build_27 : decode cL_build 27 = .ok (.aload_n 1, 1) := by decide +kernel
theorem dL_build_28 : decode cL_build 28 = .ok (.iconst 0, 1) := by decide +kernel
theorem dL_build_29 : decode cL_build 29 = .ok (.invokestatic 89, 3) := by decide +kernel
theorem dL_build_32 : decode cL_build 32 = .ok (.sipush 2000, 3) := by decide +kernel
theorem dL_build_35 : decode cL_build 35 = .ok (.invokestatic 9, 3) := by decide +kernel
theorem dL_build_38 : decode cL_build 38 = .ok (.iadd, 1) := by decide +kernel
theorem dL_build_39 : decode cL_build 39 = .ok (.dup_x1, 1) := by decide +kernel
theorem dL_build_40 : decode cL_build 40 = .ok (.putfield 50, 3) := by decide +kernel
theorem dL_build_43 : decode cL_build 43 = .ok (.if_icmp .eq 5, 3) := by decide +kernel
theorem dL_build_46 : decode cL_build 46 = .ok (.aconst_null, 1) := by decide +kernel
theorem dL_build_47 : decode cL_build 47 = .ok (.areturn, 1) := by decide +kernel
theorem dL_build_48 : decode cL_build 48 = .ok (.iconst 0, 1) := by decide +kernel
theorem dL_build_49 : decode cL_build 49 = .ok (.istore_n 3, 1) := by decide +kernel
theorem dL_build_50 : decode cL_build 50 = .ok (.iload_n 3, 1) := by decide +kernel
theorem dL_build_51 : decode cL_build 51 = .ok (.bipush 30, 2) := by decide +kernel
theorem dL_build_53 : decode cL_build 53 = .ok (.if_icmp .ge 110, 3) := by decide +kernel
theorem dL_build_56 : decode cL_build 56 = .ok (.aload_n 1, 1) := by decide +kernel
theorem dL_build_57 : decode cL_build 57 = .ok (.iload_n 3, 1) := by decide +kernel
theorem dL_build_58 : decode cL_build 58 = .ok (.bipush 16, 2) := by decide +kernel
theorem dL_build_60 : decode cL_build 60 = .ok (.irem, 1) := by decide +kernel
theorem dL_build_61 : decode cL_build 61 = .ok (.invokestatic 89, 3) := by decide +kernel
theorem dL_build_64 : decode cL_build 64 = .ok (.iload_n 3, 1) := by decide +kernel
theorem dL_build_65 : decode cL_build 65 = .ok (.bipush 16, 2) := by decide +kernel
theorem dL_build_67 : decode cL_build 67 = .ok (.idiv, 1) := by decide +kernel
theorem dL_build_68 : decode cL_build 68 = .ok (.iconst 5, 1) := by decide +kernel
theorem dL_build_69 : decode cL_build 69 = .ok (.imul, 1) := by decide +kernel
theorem dL_build_70 : decode cL_build 70 = .ok (.ishr, 1) := by decide +kernel
theorem dL_build_71 : decode cL_build 71 = .ok (.bipush 43, 2) := by decide +kernel
theorem dL_build_73 : decode cL_build 73 = .ok (.iload_n 3, 1) := by decide +kernel
theorem dL_build_74 : decode cL_build 74 = .ok (.imul, 1) := by decide +kernel
theorem dL_build_75 : decode cL_build 75 = .ok (.iadd, 1) := by decide +kernel
theorem dL_build_76 : decode cL_build 76 = .ok (.istore 4, 2) := by decide +kernel
theorem dL_build_78 : decode cL_build 78 = .ok (.iload_n 3, 1) := by decide +kernel
theorem dL_build_79 : decode cL_build 79 = .ok (.bipush 6, 2) := by decide +kernel
theorem dL_build_81 : decode cL_build 81 = .ok (.if_icmp .ge 21, 3) := by decide +kernel
theorem dL_build_84 : decode cL_build 84 = .ok (.iload 4, 2) := by decide +kernel
theorem dL_build_86 : decode cL_build 86 = .ok (.ldc 93, 2) := by decide +kernel
theorem dL_build_88 : decode cL_build 88 = .ok (.invokestatic 9, 3) := by decide +kernel
theorem dL_build_91 : decode cL_build 91 = .ok (.bipush 14, 2) := by decide +kernel
theorem dL_build_93 : decode cL_build 93 = .ok (.imul, 1) := by decide +kernel
theorem dL_build_94 : decode cL_build 94 = .ok (.iconst 3, 1) := by decide +kernel
theorem dL_build_95 : decode cL_build 95 = .ok (.iadd, 1) := by decide +kernel
theorem dL_build_96 : decode cL_build 96 = .ok (.iload_n 3, 1) := by decide +kernel
theorem dL_build_97 : decode cL_build 97 = .ok (.iconst 2, 1) := by decide +kernel
theorem dL_build_98 : decode cL_build 98 = .ok (.irem, 1) := by decide +kernel
theorem dL_build_99 : decode cL_build 99 = .ok (.iadd, 1) := by decide +kernel
theorem dL_build_100 : decode cL_build 100 = .ok (.istore 4, 2) := by decide +kernel
theorem dL_build_102 : decode cL_build 102 = .ok (.iload_n 3, 1) := by decide +kernel
theorem dL_build_103 : decode cL_build 103 = .ok (.bipush 6, 2) := by decide +kernel
theorem dL_build_105 : decode cL_build 105 = .ok (.if_icmp .lt 24, 3) := by decide +kernel
theorem dL_build_108 : decode cL_build 108 = .ok (.iload 4, 2) := by decide +kernel
theorem dL_build_110 : decode cL_build 110 = .ok (.bipush 14, 2) := by decide +kernel
theorem dL_build_112 : decode cL_build 112 = .ok (.invokestatic 9, 3) := by decide +kernel
theorem dL_build_115 : decode cL_build 115 = .ok (.bipush 8, 2) := by decide +kernel
theorem dL_build_117 : decode cL_build 117 = .ok (.if_icmp .le 12, 3) := by decide +kernel
theorem dL_build_120 : decode cL_build 120 = .ok (.iload_n 3, 1) := by decide +kernel
theorem dL_build_121 : decode cL_build 121 = .ok (.iconst 3, 1) := by decide +kernel
theorem dL_build_122 : decode cL_build 122 = .ok (.irem, 1) := by decide +kernel
theorem dL_build_123 : decode cL_build 123 = .ok (.ifCond .le 6, 3) := by decide +kernel
theorem dL_build_126 : decode cL_build 126 = .ok (.iinc 4 5, 3) := by decide +kernel
theorem dL_build_129 : decode cL_build 129 = .ok (.aload_n 0, 1) := by decide +kernel
theorem dL_build_130 : decode cL_build 130 = .ok (.aload_n 2, 1) := by decide +kernel
theorem dL_build_131 : decode cL_build 131 = .ok (.iload 4, 2) := by decide +kernel
theorem dL_build_133 : decode cL_build 133 = .ok (.invokestatic 94, 3) := by decide +kernel
theorem dL_build_136 : decode cL_build 136 = .ok (.ifCond .ne 5, 3) := by decide +kernel
theorem dL_build_139 : decode cL_build 139 = .ok (.aconst_null, 1) := by decide +kernel
theorem dL_build_140 : decode cL_build 140 = .ok (.areturn, 1) := by decide +kernel
theorem dL_build_141 : decode cL_build 141 = .ok (.iload_n 3, 1) := by decide +kernel
theorem dL_build_142 : decode cL_build 142 = .ok (.iconst 2, 1) := by decide +kernel
theorem dL_build_143 : decode cL_build 143 = .ok (.irem, 1) := by decide +kernel
theorem dL_build_144 : decode cL_build 144 = .ok (.ifCond .ne 13, 3) := by decide +kernel
theorem dL_build_147 : decode cL_build 147 = .ok (.aload_n 2, 1) := by decide +kernel
theorem dL_build_148 : decode cL_build 148 = .ok (.invokevirtual 98, 3) := by decide +kernel
theorem dL_build_151 : decode cL_build 151 = .ok (.aload_n 0, 1) := by decide +kernel
theorem dL_build_152 : decode cL_build 152 = .ok (.iconst 1, 1) := by decide +kernel
theorem dL_build_153 : decode cL_build 153 = .ok (.invokevirtual 101, 3) := by decide +kernel
theorem dL_build_156 : decode cL_build 156 = .ok (.pop, 1) := by decide +kernel
theorem dL_build_157 : decode cL_build 157 = .ok (.iinc 3 1, 3) := by decide +kernel
theorem dL_build_160 : decode cL_build 160 = .ok (.goto (-110), 3) := by decide +kernel
theorem dL_build_163 : decode cL_build 163 = .ok (.aload_n 2, 1) := by decide +kernel
theorem dL_build_164 : decode cL_build 164 = .ok (.areturn, 1) := by decide +kernel
set_option maxRecDepth 20000 in
theorem ggL_law_X5_init : GoodIn wsL_law wsX5_init := goodIn_r _ [16, 17, 18, 19, 20, 21, 22, 23, 24, 25, 26, 27, 28, 29, 30, 31, 32, 33, 34, 35, 36, 37, 38, 39, 40, 41, 42, 43, 44, 3, 45, 46, 47, 48, 49, 50, 51, 52, 53, 54, 55, 56, 57, 58, 59, 60, 61, 62, 63, 64, 65, 66, 67, 68, 69, 70, 71, 72, 73, 74, 75, 448, 449, 450, 432, 433, 434, 435, 436, 437, 451, 452, 453, 454, 455, 456, 457, 458, 459, 460, 461, 462, 463, 464, 465, 466, 467] (by decide +kernel) (by decide +kernel)
set_option maxRecDepth 20000 in
theorem gL_law_X5_init : GoodIn wsL_law (wsX5_init) := ggL_law_X5_init
set_option maxRecDepth 20000 in
theorem ggL_law_L_build : GoodIn wsL_law wsL_build := goodIn_hd (goodIn_r [.code yL_build cL_build 5 (some (.object "SnowPumpsLaw$Sim"))] [79] (by decide +kernel) (by decide +kernel)) (goodIn_app (goodIn_app (goodIn_app (goodIn_app (goodIn_app (goodIn_app (goodIn_app (goodIn_app (goodIn_app (goodIn_app (goodIn_app (goodIn_r _ [80, 81, 82, 83, 84, 85, 86, 87, 88, 18, 19, 3, 89, 90, 91, 92, 93, 94, 95, 96, 97, 78, 98, 99, 100, 101, 102, 103, 104, 105, 106, 2, 107, 108, 109, 31, 110, 111, 5, 6, 7, 112, 113, 114, 115, 116, 117, 118, 11, 119, 120, 4, 12, 13, 121, 122, 123, 124, 125, 126, 127, 128, 23, 129, 130, 131, 132, 133, 134, 22, 135, 45, 46, 136, 137, 138, 139, 140, 141, 142, 143, 144, 145, 27, 146, 147, 148, 149, 26, 150, 151, 51, 52, 152, 153, 154, 155, 156, 157, 158, 159, 160, 161, 162, 163, 30, 164, 57, 58, 165, 166, 167, 168, 36, 169, 170, 171, 172, 173, 40, 174, 175, 176, 177, 178, 179, 180, 181, 182, 183, 184, 185, 186, 187, 188, 189, 190, 191, 9, 10, 192, 193, 194, 195, 196, 197, 198, 199, 200, 201, 202, 203, 35, 204, 205, 206, 207, 67, 208, 209, 210, 211, 212, 39, 213, 214, 71, 72, 73, 74, 75, 215, 216, 217, 218, 219, 220, 221, 222, 223, 224, 225, 226, 227, 228, 229, 230, 231, 232, 233, 234, 235, 236, 237, 238, 239, 240, 241, 242, 243, 244, 245, 246, 247, 248, 249, 250, 251, 252, 253, 254, 255, 256, 257, 258, 259, 260, 261, 262, 263, 264, 265, 266, 267, 268, 269, 270, 271, 61, 272, 60, 62, 273, 274, 275, 276, 277, 278, 279, 280, 281, 282, 283, 284, 285, 286, 287, 288, 289, 290, 291, 292, 293, 294, 295] (by decide +kernel) (by decide +kernel)) (show GoodIn _ hwL_build from List.forall_mem_cons.mpr ⟨⟨List.mem_append_left _ (List.mem_append_left _ (List.mem_append_left _ (List.mem_append_left _ (List.mem_append_left _ (List.mem_append_left _ (List.mem_append_left _ (List.mem_append_left _ (List.mem_append_left _ (List.mem_append_left _ (List.mem_append_left _ (List.mem_append_right _ (List.mem_cons_self)))))))))))), good_of_word (by decide +kernel)⟩, List.forall_mem_cons.mpr ⟨⟨List.mem_append_left _ (List.mem_append_left _ (List.mem_append_left _ (List.mem_append_left _ (List.mem_append_left _ (List.mem_append_left _ (List.mem_append_left _ (List.mem_append_left _ (List.mem_append_left _ (List.mem_append_left _ (List.mem_append_left _ (List.mem_append_right _ (List.mem_cons_of_mem _ (List.mem_cons_self))))))))))))), good_of_word (by decide +kernel)⟩, fun _ h => absurd h List.not_mem_nil⟩⟩)) (goodIn_r _ [438, 439, 440, 441, 442, 443, 444, 445, 446, 447] (by decide +kernel) (by decide +kernel))) (goodIn_r _ [432, 433, 434, 435, 436, 437] (by decide +kernel) (by decide +kernel))) (goodIn_r _ [454, 455, 456, 457, 458, 459, 460] (by decide +kernel) (by decide +kernel))) (goodIn_r _ [448, 449, 450] (by decide +kernel) (by decide +kernel))) (goodIn_r _ [451, 452, 453] (by decide +kernel) (by decide +kernel))) (goodIn_r _ [461] (by decide +kernel) (by decide +kernel))) (goodIn_r _ [462, 463, 464, 465, 466, 467] (by decide +kernel) (by decide +kernel))) (goodIn_sub (fun _ h => List.mem_append_left _ (List.mem_append_left _ (List.mem_append_right _ h))) (by decide +kernel))) (goodIn_sub (fun _ h => List.mem_append_left _ (List.mem_append_right _ h)) (by decide +kernel))) (goodIn_sub (fun _ h => List.mem_append_right _ h) (by decide +kernel)))
set_option maxRecDepth 20000 in
theorem gL_law_L_build : GoodIn wsL_law (va_wsS RL 104 yL_build wsL_build) := goodIn_app (goodIn_of _ (by decide +kernel)) ggL_law_L_build
set_option maxRecDepth 20000 in
theorem ggL_law_L_cell : GoodIn wsL_law wsL_cell := goodIn_r _ [98, 99] (by decide +kernel) (by decide +kernel)
set_option maxRecDepth 20000 in
theorem gL_law_L_cell : GoodIn wsL_law (va_wsS RL 89 yL_cell wsL_cell) := goodIn_app (goodIn_of _ (by decide +kernel)) ggL_law_L_cell
set_option maxRecDepth 20000 in
theorem ggL_law_X5_count : GoodIn wsL_law wsX5_count := goodIn_ca (goodIn_r _ [299, 127, 128, 112, 113, 2, 114, 300, 301, 302, 303, 31, 175, 23, 131, 110, 27, 146, 40, 174, 176, 177, 178, 30, 179, 180, 181, 182, 183, 184, 132, 133, 134, 22, 135, 45, 46, 304, 305, 306, 307, 60, 258, 259, 260, 261, 57, 262, 263, 308, 309, 310, 311, 58, 312, 313, 314, 39, 315, 74, 432, 433, 434, 435, 436, 437, 454, 455, 456, 457, 458, 459, 460, 448, 449, 450, 451, 452, 453, 462, 463, 464, 465, 466, 467] (by decide +kernel) (by decide +kernel)) (goodIn_sub (fun _ h => List.mem_append_left _ (List.mem_append_right _ h)) (by decide +kernel))
set_option maxRecDepth 20000 in
theorem gL_law_X5_count : GoodIn wsL_law (wsV RL 108 RX5 yX5_count wsX5_count) := goodIn_app (goodIn_of _ (by decide +kernel)) ggL_law_X5_count
set_option maxRecDepth 20000 in
theorem ggL_law_X5_leader : GoodIn wsL_law wsX5_leader := goodIn_r _ [319, 40, 174, 320, 321, 322, 39, 323, 214, 71, 73, 324, 5, 6, 7, 325, 9, 10, 432, 433, 434, 435, 436, 437, 462, 463, 464, 465, 466, 467] (by decide +kernel) (by decide +kernel)
set_option maxRecDepth 20000 in
theorem gL_law_X5_leader : GoodIn wsL_law (wsV RL 111 RX5 yX5_leader wsX5_leader) := goodIn_app (goodIn_of _ (by decide +kernel)) ggL_law_X5_leader
set_option maxRecDepth 20000 in
theorem ggL_law_L_below : GoodIn wsL_law wsL_below := goodIn_r _ [102, 103] (by decide +kernel) (by decide +kernel)
set_option maxRecDepth 20000 in
theorem gL_law_L_below : GoodIn wsL_law (va_wsS RL 9 yL_below wsL_below) := goodIn_app (goodIn_of _ (by decide +kernel)) ggL_law_L_below
set_option maxRecDepth 20000 in
theorem ggL_law_L_act : GoodIn wsL_law wsL_act := goodIn_hd (List.forall_mem_cons.mpr ⟨⟨List.mem_append_left _ (List.mem_append_left _ (List.mem_append_left _ (List.mem_append_left _ (List.mem_append_left _ (List.mem_append_left _ (List.mem_append_left _ (List.mem_append_left _ (List.mem_append_left _ (List.mem_append_left _ (List.mem_append_left _ (List.mem_append_right _ (List.mem_cons_of_mem _ (List.mem_cons_self))))))))))))), good_of_word (by decide +kernel)⟩, fun _ h => absurd h List.not_mem_nil⟩) (goodIn_app (goodIn_app (goodIn_app (goodIn_app (goodIn_app (goodIn_app (goodIn_app (goodIn_app (goodIn_app (goodIn_app (goodIn_app (goodIn_r _ [117, 3, 118, 11, 119, 120, 83, 4, 5, 6, 7, 12, 13, 121, 122, 100, 101, 78, 102, 103, 123, 124, 125, 2, 126, 127, 128, 108, 109, 23, 129, 130, 131, 112, 113, 114, 132, 133, 134, 22, 135, 45, 46, 136, 137, 138, 82, 139, 140, 141, 142, 143, 144, 145, 27, 146, 147, 148, 149, 26, 150, 151, 51, 52, 152, 153, 154, 155, 31, 156, 104, 105, 106, 107, 110, 111, 157, 158, 159, 160, 161, 162, 163, 30, 164, 57, 58, 165, 166, 167, 168, 36, 169, 170, 171, 172, 173, 40, 174, 175, 176, 177, 178, 179, 180, 181, 182, 183, 184, 185, 186, 187, 188, 189, 190, 191, 9, 10, 192, 193, 194, 195, 196, 197, 198, 199, 200, 201, 202, 203, 35, 204, 205, 206, 207, 67, 208, 209, 210, 211, 212, 39, 213, 214, 71, 72, 73, 74, 75, 215, 216, 217, 218, 92, 219, 94, 95, 220, 89, 221, 222, 223, 224, 225, 226, 227, 228, 229, 90, 230, 231, 232, 233, 234, 235, 236, 237, 238, 239, 240, 241, 242] (by decide +kernel) (by decide +kernel)) (show GoodIn _ hwL_act from List.forall_mem_cons.mpr ⟨⟨List.mem_append_left _ (List.mem_append_left _ (List.mem_append_left _ (List.mem_append_left _ (List.mem_append_left _ (List.mem_append_left _ (List.mem_append_left _ (List.mem_append_left _ (List.mem_append_left _ (List.mem_append_left _ (List.mem_append_left _ (List.mem_append_right _ (List.mem_cons_self)))))))))))), good_of_word (by decide +kernel)⟩, fun _ h => absurd h List.not_mem_nil⟩)) (goodIn_r _ [438, 439, 440, 441, 442, 443, 444, 445, 446, 447] (by decide +kernel) (by decide +kernel))) (goodIn_r _ [432, 433, 434, 435, 436, 437] (by decide +kernel) (by decide +kernel))) (goodIn_r _ [448, 449, 450] (by decide +kernel) (by decide +kernel))) (goodIn_r _ [451, 452, 453] (by decide +kernel) (by decide +kernel))) (goodIn_r _ [454, 455, 456, 457, 458, 459, 460] (by decide +kernel) (by decide +kernel))) (goodIn_r _ [461] (by decide +kernel) (by decide +kernel))) (goodIn_r _ [462, 463, 464, 465, 466, 467] (by decide +kernel) (by decide +kernel))) (goodIn_sub (fun _ h => List.mem_append_left _ (List.mem_append_right _ h)) (by decide +kernel))) (goodIn_sub (fun _ h => List.mem_append_left _ (List.mem_append_left _ (List.mem_append_right _ h))) (by decide +kernel))) (goodIn_sub (fun _ h => List.mem_append_right _ h) (by decide +kernel)))
set_option maxRecDepth 20000 in
theorem gL_law_L_act : GoodIn wsL_law (va_wsS RL 94 yL_act wsL_act) := goodIn_app (goodIn_of _ (by decide +kernel)) ggL_law_L_act
set_option maxRecDepth 20000 in
theorem ggL_law_X5_told : GoodIn wsL_law wsX5_told := goodIn_ca (goodIn_r _ [329, 127, 128, 40, 174, 112, 113, 2, 114, 330, 331, 332, 39, 333, 71, 72, 73, 74, 75, 432, 433, 434, 435, 436, 437, 462, 463, 464, 465, 466, 467] (by decide +kernel) (by decide +kernel)) (goodIn_sub (fun _ h => List.mem_append_left _ (List.mem_append_right _ h)) (by decide +kernel))
set_option maxRecDepth 20000 in
theorem gL_law_X5_told : GoodIn wsL_law (wsV RL 115 RX5 yX5_told wsX5_told) := goodIn_app (goodIn_of _ (by decide +kernel)) ggL_law_X5_told
set_option maxRecDepth 20000 in
theorem ggL_law_X5_score : GoodIn wsL_law wsX5_score := goodIn_ca (goodIn_r _ [337, 127, 128, 40, 112, 113, 2, 114, 320, 321, 322, 39, 323, 214, 71, 73, 324, 5, 6, 7, 325, 9, 10, 432, 433, 434, 435, 436, 437, 462, 463, 464, 465, 466, 467] (by decide +kernel) (by decide +kernel)) (goodIn_sub (fun _ h => List.mem_append_left _ (List.mem_append_right _ h)) (by decide +kernel))
set_option maxRecDepth 20000 in
theorem gL_law_X5_score : GoodIn wsL_law (wsV RL 118 RX5 yX5_score wsX5_score) := goodIn_app (goodIn_of _ (by decide +kernel)) ggL_law_X5_score
set_option maxRecDepth 20000 in
theorem ggL_law_X5_part : GoodIn wsL_law wsX5_part := goodIn_ca (goodIn_r _ [341, 127, 128, 112, 113, 2, 114, 342, 343, 344, 345, 31, 346, 347, 27, 348, 349, 350, 26, 351, 151, 51, 192, 193, 194, 30, 195, 57, 58, 432, 433, 434, 435, 436, 437, 454, 455, 456, 457, 458, 459, 460, 451, 452, 453] (by decide +kernel) (by decide +kernel)) (goodIn_sub (fun _ h => List.mem_append_left _ (List.mem_append_right _ h)) (by decide +kernel))
set_option maxRecDepth 20000 in
theorem gL_law_X5_part : GoodIn wsL_law (wsV RL 121 RX5 yX5_part wsX5_part) := goodIn_app (goodIn_of _ (by decide +kernel)) ggL_law_X5_part
set_option maxRecDepth 20000 in
theorem ggL_law_X6_sum : GoodIn wsL_law wsX6_sum := goodIn_r _ [354] (by decide +kernel) (by decide +kernel)
set_option maxRecDepth 20000 in
theorem gL_law_X6_sum : GoodIn wsL_law (va_wsS RL 124 yX6_sum wsX6_sum) := goodIn_app (goodIn_of _ (by decide +kernel)) ggL_law_X6_sum
set_option maxRecDepth 20000 in
theorem ggL_law_X5_digest : GoodIn wsL_law wsX5_digest := goodIn_r _ [358, 359, 360, 23, 36, 40, 300, 301, 302, 2, 303, 31, 175, 131, 110, 27, 146, 174, 176, 177, 178, 30, 179, 180, 181, 182, 183, 184, 132, 133, 134, 22, 135, 45, 46, 304, 305, 306, 307, 60, 258, 259, 260, 261, 57, 262, 263, 308, 309, 310, 311, 58, 312, 313, 314, 39, 315, 74, 342, 343, 344, 345, 346, 347, 348, 349, 350, 26, 351, 151, 51, 192, 193, 194, 195, 361, 362, 363, 364, 365, 47, 366, 367, 368, 35, 369, 370, 67, 371, 372, 373, 374, 375, 376, 156, 377, 378, 379, 380, 214, 381, 382, 331, 332, 333, 71, 72, 73, 75, 320, 321, 322, 323, 324, 5, 6, 7, 325, 9, 10, 432, 433, 434, 435, 436, 437, 454, 455, 456, 457, 458, 459, 460, 448, 449, 450, 451, 452, 453, 462, 463, 464, 465, 466, 467, 461] (by decide +kernel) (by decide +kernel)
set_option maxRecDepth 20000 in
theorem gL_law_X5_digest : GoodIn wsL_law (wsV RL 127 RX5 yX5_digest wsX5_digest) := goodIn_app (goodIn_of _ (by decide +kernel)) ggL_law_X5_digest
set_option maxRecDepth 20000 in
theorem ggL_law_X5_gate : GoodIn wsL_law wsX5_gate := goodIn_ca (goodIn_r _ [386, 108, 109, 23, 131, 31, 112, 113, 2, 114, 176, 177, 178, 30, 179, 180, 181, 182, 183, 184, 185, 186, 187, 188, 189, 190, 111, 5, 6, 7, 191, 9, 10, 192, 193, 194, 195, 57, 58, 432, 433, 434, 435, 436, 437, 448, 449, 450, 454, 455, 456, 457, 458, 459, 460] (by decide +kernel) (by decide +kernel)) (goodIn_sub (fun _ h => List.mem_append_left _ (List.mem_append_left _ (List.mem_append_right _ h))) (by decide +kernel))
set_option maxRecDepth 20000 in
theorem gL_law_X5_gate : GoodIn wsL_law (wsV RL 131 RX5 yX5_gate wsX5_gate) := goodIn_app (goodIn_of _ (by decide +kernel)) ggL_law_X5_gate
set_option maxRecDepth 20000 in
theorem ggL_law_X5_foresee : GoodIn wsL_law wsX5_foresee := goodIn_ca (goodIn_ca (goodIn_r _ [390, 108, 109, 127, 128, 32, 31, 110, 112, 113, 2, 114, 391, 392, 393, 30, 394, 57, 58, 60, 281, 180, 264, 265, 266, 267, 268, 269, 270, 271, 61, 272, 62, 273, 274, 275, 177, 178, 179, 181, 182, 183, 184, 276, 133, 134, 22, 135, 45, 46, 277, 278, 279, 280, 282, 5, 6, 7, 283, 284, 285, 286, 287, 288, 289, 290, 291, 292, 293, 294, 200, 9, 10, 295, 197, 198, 199, 258, 259, 260, 261, 262, 263, 308, 309, 310, 311, 432, 433, 434, 435, 436, 437, 454, 455, 456, 457, 458, 459, 460, 448, 449, 450, 451, 452, 453] (by decide +kernel) (by decide +kernel)) (goodIn_sub (fun _ h => List.mem_append_left _ (List.mem_append_left _ (List.mem_append_right _ h))) (by decide +kernel))) (goodIn_sub (fun _ h => List.mem_append_left _ (List.mem_append_right _ h)) (by decide +kernel))
set_option maxRecDepth 20000 in
theorem gL_law_X5_foresee : GoodIn wsL_law (wsV RL 137 RX5 yX5_foresee wsX5_foresee) := goodIn_app (goodIn_of _ (by decide +kernel)) ggL_law_X5_foresee
set_option maxRecDepth 20000 in
theorem ggL_law_X5_enough : GoodIn wsL_law wsX5_enough := goodIn_ca (goodIn_ca (goodIn_r _ [398, 127, 128, 108, 109, 32, 31, 346, 112, 113, 2, 114, 391, 392, 393, 30, 394, 57, 58, 60, 281, 180, 399, 269, 270, 271, 61, 272, 62, 273, 274, 275, 177, 178, 179, 181, 182, 183, 184, 276, 133, 134, 22, 135, 45, 46, 277, 278, 279, 280, 282, 5, 6, 7, 283, 284, 285, 286, 287, 288, 289, 290, 291, 292, 293, 294, 200, 9, 10, 295, 197, 198, 199, 432, 433, 434, 435, 436, 437, 454, 455, 456, 457, 458, 459, 460, 448, 449, 450, 451, 452, 453] (by decide +kernel) (by decide +kernel)) (goodIn_sub (fun _ h => List.mem_append_left _ (List.mem_append_right _ h)) (by decide +kernel))) (goodIn_sub (fun _ h => List.mem_append_left _ (List.mem_append_left _ (List.mem_append_right _ h))) (by decide +kernel))
set_option maxRecDepth 20000 in
theorem gL_law_X5_enough : GoodIn wsL_law (wsV RL 140 RX5 yX5_enough wsX5_enough) := goodIn_app (goodIn_of _ (by decide +kernel)) ggL_law_X5_enough
set_option maxRecDepth 20000 in
theorem ggL_law_X5_advise : GoodIn wsL_law wsX5_advise := goodIn_ca (goodIn_r _ [403, 108, 109, 32, 31, 27, 146, 156, 112, 113, 2, 114, 391, 392, 393, 30, 394, 57, 58, 60, 281, 180, 264, 265, 266, 267, 268, 269, 270, 271, 61, 272, 62, 273, 274, 275, 177, 178, 179, 181, 182, 183, 184, 276, 133, 134, 22, 135, 45, 46, 277, 278, 279, 280, 282, 5, 6, 7, 283, 284, 285, 286, 287, 288, 289, 290, 291, 292, 293, 294, 200, 9, 10, 295, 197, 198, 199, 258, 259, 260, 261, 262, 263, 404, 405, 406, 407, 432, 433, 434, 435, 436, 437, 451, 452, 453, 454, 455, 456, 457, 458, 459, 460, 448, 449, 450] (by decide +kernel) (by decide +kernel)) (goodIn_sub (fun _ h => List.mem_append_left _ (List.mem_append_left _ (List.mem_append_right _ h))) (by decide +kernel))
set_option maxRecDepth 20000 in
theorem gL_law_X5_advise : GoodIn wsL_law (wsV RL 143 RX5 yX5_advise wsX5_advise) := goodIn_app (goodIn_of _ (by decide +kernel)) ggL_law_X5_advise
set_option maxRecDepth 20000 in
theorem ggL_law_X5_run : GoodIn wsL_law wsX5_run := goodIn_ca (goodIn_r _ [155, 127, 128, 27, 146, 31, 156, 112, 113, 2, 114, 432, 433, 434, 435, 436, 437, 451, 452, 453, 454, 455, 456, 457, 458, 459, 460] (by decide +kernel) (by decide +kernel)) (goodIn_sub (fun _ h => List.mem_append_left _ (List.mem_append_right _ h)) (by decide +kernel))
set_option maxRecDepth 20000 in
theorem gL_law_X5_run : GoodIn wsL_law (wsV RL 46 RX5 yX5_run wsX5_run) := goodIn_app (goodIn_of _ (by decide +kernel)) ggL_law_X5_run
set_option maxRecDepth 20000 in
theorem ggL_law_X5_pass : GoodIn wsL_law wsX5_pass := goodIn_ca (goodIn_r _ [257, 108, 109, 31, 112, 113, 2, 114, 258, 259, 260, 30, 261, 57, 262, 263, 264, 265, 266, 267, 268, 269, 270, 271, 61, 272, 60, 62, 273, 274, 180, 275, 177, 178, 179, 181, 182, 183, 184, 276, 133, 134, 22, 135, 45, 46, 277, 278, 279, 280, 281, 282, 5, 6, 7, 283, 284, 285, 286, 58, 287, 288, 289, 290, 291, 292, 293, 294, 200, 9, 10, 295, 197, 198, 199, 432, 433, 434, 435, 436, 437, 454, 455, 456, 457, 458, 459, 460, 448, 449, 450, 451, 452, 453] (by decide +kernel) (by decide +kernel)) (goodIn_sub (fun _ h => List.mem_append_left _ (List.mem_append_left _ (List.mem_append_right _ h))) (by decide +kernel))
set_option maxRecDepth 20000 in
theorem gL_law_X5_pass : GoodIn wsL_law (wsV RL 101 RX5 yX5_pass wsX5_pass) := goodIn_app (goodIn_of _ (by decide +kernel)) ggL_law_X5_pass
set_option maxRecDepth 20000 in
theorem ggL_law_X6_pass : GoodIn wsL_law wsX6_pass := goodIn_r _ [246, 92, 219, 247, 93, 248, 90, 89, 249, 137, 138, 82, 139, 250, 251, 252, 253, 438, 439, 440, 441, 442, 443, 444, 445, 446, 447] (by decide +kernel) (by decide +kernel)
set_option maxRecDepth 20000 in
theorem gL_law_X6_pass : GoodIn wsL_law (wsV RL 98 RX6 yX6_pass wsX6_pass) := goodIn_app (goodIn_of _ (by decide +kernel)) ggL_law_X6_pass
set_option maxRecDepth 20000 in
theorem ggL_law_X5_groom : GoodIn wsL_law wsX5_groom := goodIn_ca (goodIn_ca (goodIn_r _ [160, 127, 128, 108, 109, 31, 112, 113, 2, 114, 161, 162, 163, 30, 164, 57, 58, 432, 433, 434, 435, 436, 437, 454, 455, 456, 457, 458, 459, 460] (by decide +kernel) (by decide +kernel)) (goodIn_sub (fun _ h => List.mem_append_left _ (List.mem_append_right _ h)) (by decide +kernel))) (goodIn_sub (fun _ h => List.mem_append_left _ (List.mem_append_left _ (List.mem_append_right _ h))) (by decide +kernel))
set_option maxRecDepth 20000 in
theorem gL_law_X5_groom : GoodIn wsL_law (wsV RL 69 RX5 yX5_groom wsX5_groom) := goodIn_app (goodIn_of _ (by decide +kernel)) ggL_law_X5_groom
set_option maxRecDepth 20000 in
theorem ggL_law_X6_isSame : GoodIn wsL_law wsX6_isSame := goodIn_hd (List.forall_mem_cons.mpr ⟨⟨List.mem_append_left _ (List.mem_append_left _ (List.mem_append_left _ (List.mem_append_left _ (List.mem_append_left _ (List.mem_append_left _ (List.mem_append_left _ (List.mem_append_left _ (List.mem_append_left _ (List.mem_append_left _ (List.mem_append_left _ (List.mem_append_right _ (List.mem_cons_of_mem _ (List.mem_cons_of_mem _ (List.mem_cons_self)))))))))))))), good_of_word (by decide +kernel)⟩, fun _ h => absurd h List.not_mem_nil⟩) (goodIn_app (goodIn_app (goodIn_app (goodIn_app (goodIn_app (goodIn_app (goodIn_app (goodIn_app (goodIn_r _ [247, 93, 3, 89, 90, 220, 95, 92, 219, 248, 226, 227, 228, 82, 229, 411, 339, 340, 2, 341, 127, 128, 112, 113, 114, 342, 343, 344, 345, 31, 346, 347, 27, 348, 349, 350, 26, 351, 151, 51, 192, 193, 194, 30, 195, 57, 58, 412, 327, 328, 329, 40, 174, 330, 331, 332, 39, 333, 71, 72, 73, 74, 75, 413, 335, 336, 337, 320, 321, 322, 323, 214, 324, 5, 6, 7, 325, 9, 10, 414, 415, 416, 417, 230, 231, 232, 233, 234, 235, 236, 237, 238, 239, 240, 241, 242, 249, 137, 138, 139, 418, 353, 354, 419, 297, 298, 299, 300, 301, 302, 303, 175, 23, 131, 110, 146, 176, 177, 178, 179, 180, 181, 182, 183, 184, 132, 133, 134, 22, 135, 45, 46, 304, 305, 306, 307, 60, 258, 259, 260, 261, 262, 263, 308, 309, 310, 311, 312, 313, 314, 315, 420, 317, 318, 319, 421, 422, 423, 424, 425, 426, 427, 428] (by decide +kernel) (by decide +kernel)) (show GoodIn _ hwX6_isSame from List.forall_mem_cons.mpr ⟨⟨List.mem_append_left _ (List.mem_append_left _ (List.mem_append_left _ (List.mem_append_left _ (List.mem_append_left _ (List.mem_append_left _ (List.mem_append_left _ (List.mem_append_left _ (List.mem_append_left _ (List.mem_append_left _ (List.mem_append_left _ (List.mem_append_right _ (List.mem_cons_self)))))))))))), good_of_word (by decide +kernel)⟩, fun _ h => absurd h List.not_mem_nil⟩)) (goodIn_r _ [438, 439, 440, 441, 442, 443, 444, 445, 446, 447] (by decide +kernel) (by decide +kernel))) (goodIn_r _ [432, 433, 434, 435, 436, 437] (by decide +kernel) (by decide +kernel))) (goodIn_r _ [454, 455, 456, 457, 458, 459, 460] (by decide +kernel) (by decide +kernel))) (goodIn_r _ [451, 452, 453] (by decide +kernel) (by decide +kernel))) (goodIn_r _ [462, 463, 464, 465, 466, 467] (by decide +kernel) (by decide +kernel))) (goodIn_r _ [448, 449, 450] (by decide +kernel) (by decide +kernel))) (goodIn_sub (fun _ h => List.mem_append_left _ (List.mem_append_right _ h)) (by decide +kernel)))
set_option maxRecDepth 20000 in
theorem gL_law_X6_isSame : GoodIn wsL_law (wsV RL 146 RX6 yX6_isSame wsX6_isSame) := goodIn_app (goodIn_of _ (by decide +kernel)) ggL_law_X6_isSame
theorem dL_law_0 : decode cL_law 0 = .ok (.new 26, 3) := by decide +kernel
theorem dL_law_3 : decode cL_law 3 = .ok (.dup, 1) := by decide +kernel
theorem dL_law_4 : decode cL_law 4 = .ok (.invokespecial 103, 3) := by decide +kernel
theorem dL_law_7 : decode cL_law 7 = .ok (.astore_n 1, 1) := by decide +kernel
theorem dL_law_8 : decode cL_law 8 = .ok (.aload_n 1, 1) := by decide +kernel
theorem dL_law_9 : decode cL_law 9 = .ok (.aload_n 0, 1) := by decide +kernel
theorem dL_law_10 : decode cL_law 10 = .ok (.invokestatic 104, 3) := by decide +kernel
theorem dL_law_13 : decode cL_law 13 = .ok (.astore_n 2, 1) := by decide +kernel
theorem dL_law_14 : decode cL_law 14 = .ok (.aload_n 2, 1) := by decide +kernel
theorem dL_law_15 : decode cL_law 15 = .ok (.ifnonnull 5, 3) := by decide +kernel
theorem dL_law_18 : decode cL_law 18 = .ok (.iconst 0, 1) := by decide +kernel
theorem dL_law_19 : decode cL_law 19 = .ok (.ireturn, 1) := by decide +kernel
theorem dL_law_20 : decode cL_law 20 = .ok (.iconst 0, 1) := by decide +kernel
theorem dL_law_21 : decode cL_law 21 = .ok (.istore_n 3, 1) := by decide +kernel
theorem dL_law_22 : decode cL_law 22 = .ok (.iload_n 3, 1) := by decide +kernel
theorem dL_law_23 : decode cL_law 23 = .ok (.bipush 50, 2) := by decide +kernel
theorem dL_law_25 : decode cL_law 25 = .ok (.if_icmp .ge 1437, 3) := by decide +kernel
theorem dL_law_28 : decode cL_law 28 = .ok (.aload_n 0, 1) := by decide +kernel
theorem dL_law_29 : decode cL_law 29 = .ok (.iload_n 3, 1) := by decide +kernel
theorem dL_law_30 : decode cL_law 30 = .ok (.bipush 16, 2) := by decide +kernel
theorem dL_law_32 : decode cL_law 32 = .ok (.irem, 1) := by decide +kernel
theorem dL_law_33 : decode cL_law 33 = .ok (.invokestatic 89, 3) := by decide +kernel
theorem dL_law_36 : decode cL_law 36 = .ok (.iload_n 3, 1) := by decide +kernel
theorem dL_law_37 : decode cL_law 37 = .ok (.bipush 16, 2) := by decide +kernel
theorem dL_law_39 : decode cL_law 39 = .ok (.idiv, 1) := by decide +kernel
theorem dL_law_40 : decode cL_law 40 = .ok (.iconst 5, 1) := by decide +kernel
theorem dL_law_41 : decode cL_law 41 = .ok (.imul, 1) := by decide +kernel
theorem dL_law_42 : decode cL_law 42 = .ok (.ishr, 1) := by decide +kernel
theorem dL_law_43 : decode cL_law 43 = .ok (.bipush 41, 2) := by decide +kernel
theorem dL_law_45 : decode cL_law 45 = .ok (.iload_n 3, 1) := by decide +kernel
theorem dL_law_46 : decode cL_law 46 = .ok (.imul, 1) := by decide +kernel
theorem dL_law_47 : decode cL_law 47 = .ok (.iadd, 1) := by decide +kernel
theorem dL_law_48 : decode cL_law 48 = .ok (.istore 4, 2) := by decide +kernel
theorem dL_law_50 : decode cL_law 50 = .ok (.aload_n 1, 1) := by decide +kernel
theorem dL_law_51 : decode cL_law 51 = .ok (.bipush 9, 2) := by decide +kernel
theorem dL_law_53 : decode cL_law 53 = .ok (.invokevirtual 108, 3) := by decide +kernel
theorem dL_law_56 : decode cL_law 56 = .ok (.istore 5, 2) := by decide +kernel
theorem dL_law_58 : decode cL_law 58 = .ok (.aload_n 1, 1) := by decide +kernel
theorem dL_law_59 : decode cL_law 59 = .ok (.bipush 10, 2) := by decide +kernel
theorem dL_law_61 : decode cL_law 61 = .ok (.invokevirtual 108, 3) := by decide +kernel
theorem dL_law_64 : decode cL_law 64 = .ok (.istore 6, 2) := by decide +kernel
theorem dL_law_66 : decode cL_law 66 = .ok (.aload_n 1, 1) := by decide +kernel
theorem dL_law_67 : decode cL_law 67 = .ok (.invokevirtual 111, 3) := by decide +kernel
theorem dL_law_70 : decode cL_law 70 = .ok (.istore 7, 2) := by decide +kernel
theorem dL_law_72 : decode cL_law 72 = .ok (.iload 4, 2) := by decide +kernel
theorem dL_law_74 : decode cL_law 74 = .ok (.iconst 2, 1) := by decide +kernel
theorem dL_law_75 : decode cL_law 75 = .ok (.invokestatic 9, 3) := by decide +kernel
theorem dL_law_78 : decode cL_law 78 = .ok (.ifCond .ne 17, 3) := by decide +kernel
theorem dL_law_81 : decode cL_law 81 = .ok (.aload_n 1, 1) := by decide +kernel
theorem dL_law_82 : decode cL_law 82 = .ok (.aload_n 2, 1) := by decide +kernel
theorem dL_law_83 : decode cL_law 83 = .ok (.iload 4, 2) := by decide +kernel
theorem dL_law_85 : decode cL_law 85 = .ok (.iconst 2, 1) := by decide +kernel
theorem dL_law_86 : decode cL_law 86 = .ok (.idiv, 1) := by decide +kernel
theorem dL_law_87 : decode cL_law 87 = .ok (.invokestatic 94, 3) := by decide +kernel
theorem dL_law_90 : decode cL_law 90 = .ok (.ifCond .ne 5, 3) := by decide +kernel
theorem dL_law_93 : decode cL_law 93 = .ok (.iconst 0, 1) := by decide +kernel
theorem dL_law_94 : decode cL_law 94 = .ok (.ireturn, 1) := by decide +kernel
theorem dL_law_95 : decode cL_law 95 = .ok (.aload_n 1, 1) := by decide +kernel
theorem dL_law_96 : decode cL_law 96 = .ok (.bipush 9, 2) := by decide +kernel
theorem dL_law_98 : decode cL_law 98 = .ok (.invokevirtual 108, 3) := by decide +kernel
theorem dL_law_101 : decode cL_law 101 = .ok (.iload 5, 2) := by decide +kernel
theorem dL_law_103 : decode cL_law 103 = .ok (.if_icmp .lt 24, 3) := by decide +kernel
theorem dL_law_106 : decode cL_law 106 = .ok (.aload_n 1, 1) := by decide +kernel
theorem dL_law_107 : decode cL_law 107 = .ok (.bipush 10, 2) := by decide +kernel
theorem dL_law_109 : decode cL_law 109 = .ok (.invokevirtual 108, 3) := by decide +kernel
theorem dL_law_112 : decode cL_law 112 = .ok (.iload 6, 2) := by decide +kernel
theorem dL_law_114 : decode cL_law 114 = .ok (.isub, 1) := by decide +kernel
theorem dL_law_115 : decode cL_law 115 = .ok (.aload_n 1, 1) := by decide +kernel
theorem dL_law_116 : decode cL_law 116 = .ok (.bipush 9, 2) := by decide +kernel
theorem dL_law_118 : decode cL_law 118 = .ok (.invokevirtual 108, 3) := by decide +kernel
theorem dL_law_121 : decode cL_law 121 = .ok (.iload 5, 2) := by decide +kernel
theorem dL_law_123 : decode cL_law 123 = .ok (.isub, 1) := by decide +kernel
theorem dL_law_124 : decode cL_law 124 = .ok (.if_icmp .le 5, 3) := by decide +kernel
theorem dL_law_127 : decode cL_law 127 = .ok (.iconst 0, 1) := by decide +kernel
theorem dL_law_128 : decode cL_law 128 = .ok (.ireturn, 1) := by decide +kernel
theorem dL_law_129 : decode cL_law 129 = .ok (.aload_n 1, 1) := by decide +kernel
theorem dL_law_130 : decode cL_law 130 = .ok (.bipush 9, 2) := by decide +kernel
theorem dL_law_132 : decode cL_law 132 = .ok (.invokevirtual 108, 3) := by decide +kernel
theorem dL_law_135 : decode cL_law 135 = .ok (.iload 5, 2) := by decide +kernel
theorem dL_law_137 : decode cL_law 137 = .ok (.if_icmp .le 119, 3) := by decide +kernel
theorem dL_law_140 : decode cL_law 140 = .ok (.aload_n 1, 1) := by decide +kernel
theorem dL_law_141 : decode cL_law 141 = .ok (.iload 5, 2) := by decide +kernel
theorem dL_law_143 : decode cL_law 143 = .ok (.iconst 1, 1) := by decide +kernel
theorem dL_law_144 : decode cL_law 144 = .ok (.invokevirtual 115, 3) := by decide +kernel
theorem dL_law_147 : decode cL_law 147 = .ok (.istore 8, 2) := by decide +kernel
theorem dL_law_149 : decode cL_law 149 = .ok (.aload_n 1, 1) := by decide +kernel
theorem dL_law_150 : decode cL_law 150 = .ok (.iload 5, 2) := by decide +kernel
theorem dL_law_152 : decode cL_law 152 = .ok (.iconst 2, 1) := by decide +kernel
theorem dL_law_153 : decode cL_law 153 = .ok (.invokevirtual 115, 3) := by decide +kernel
theorem dL_law_156 : decode cL_law 156 = .ok (.istore 9, 2) := by decide +kernel
theorem dL_law_158 : decode cL_law 158 = .ok (.aload_n 1, 1) := by decide +kernel
theorem dL_law_159 : decode cL_law 159 = .ok (.iload 5, 2) := by decide +kernel
theorem dL_law_161 : decode cL_law 161 = .ok (.iconst 3, 1) := by decide +kernel
theorem dL_law_162 : decode cL_law 162 = .ok (.invokevirtual 115, 3) := by decide +kernel
theorem dL_law_165 : decode cL_law 165 = .ok (.istore 10, 2) := by decide +kernel
theorem dL_law_167 : decode cL_law 167 = .ok (.iload 8, 2) := by decide +kernel
theorem dL_law_169 : decode cL_law 169 = .ok (.ifCond .lt 85, 3) := by decide +kernel
theorem dL_law_172 : decode cL_law 172 = .ok (.iload 8, 2) := by decide +kernel
theorem dL_law_174 : decode cL_law 174 = .ok (.bipush 99, 2) := by decide +kernel
theorem dL_law_176 : decode cL_law 176 = .ok (.if_icmp .gt 78, 3) := by decide +kernel
theorem dL_law_179 : decode cL_law 179 = .ok (.iload 9, 2) := by decide +kernel
theorem dL_law_181 : decode cL_law 181 = .ok (.iload 8, 2) := by decide +kernel
theorem dL_law_183 : decode cL_law 183 = .ok (.if_icmp .lt 71, 3) := by decide +kernel
theorem dL_law_186 : decode cL_law 186 = .ok (.iload 9, 2) := by decide +kernel
theorem dL_law_188 : decode cL_law 188 = .ok (.iload 8, 2) := by decide +kernel
theorem dL_law_190 : decode cL_law 190 = .ok (.bipush 60, 2) := by decide +kernel
theorem dL_law_192 : decode cL_law 192 = .ok (.iadd, 1) := by decide +kernel
theorem dL_law_193 : decode cL_law 193 = .ok (.bipush 24, 2) := by decide +kernel
theorem dL_law_195 : decode cL_law 195 = .ok (.iload 10, 2) := by decide +kernel
theorem dL_law_197 : decode cL_law 197 = .ok (.imul, 1) := by decide +kernel
theorem dL_law_198 : decode cL_law 198 = .ok (.isub, 1) := by decide +kernel
theorem dL_law_199 : decode cL_law 199 = .ok (.if_icmp .gt 55, 3) := by decide +kernel
theorem dL_law_202 : decode cL_law 202 = .ok (.iload 10, 2) := by decide +kernel
theorem dL_law_204 : decode cL_law 204 = .ok (.aload_n 1, 1) := by decide +kernel
theorem dL_law_205 : decode cL_law 205 = .ok (.bipush 10, 2) := by decide +kernel
theorem dL_law_207 : decode cL_law 207 = .ok (.invokevirtual 108, 3) := by decide +kernel
theorem dL_law_210 : decode cL_law 210 = .ok (.iload 6, 2) := by decide +kernel
theorem dL_law_212 : decode cL_law 212 = .ok (.isub, 1) := by decide +kernel
theorem dL_law_213 : decode cL_law 213 = .ok (.if_icmp .ne 41, 3) := by decide +kernel
theorem dL_law_216 : decode cL_law 216 = .ok (.aload_n 1, 1) := by decide +kernel
theorem dL_law_217 : decode cL_law 217 = .ok (.iload 5, 2) := by decide +kernel
theorem dL_law_219 : decode cL_law 219 = .ok (.iconst 4, 1) := by decide +kernel
theorem dL_law_220 : decode cL_law 220 = .ok (.invokevirtual 115, 3) := by decide +kernel
theorem dL_law_223 : decode cL_law 223 = .ok (.aload_n 1, 1) := by decide +kernel
theorem dL_law_224 : decode cL_law 224 = .ok (.iconst 0, 1) := by decide +kernel
theorem dL_law_225 : decode cL_law 225 = .ok (.invokevirtual 108, 3) := by decide +kernel
theorem dL_law_228 : decode cL_law 228 = .ok (.if_icmp .ne 26, 3) := by decide +kernel
theorem dL_law_231 : decode cL_law 231 = .ok (.aload_n 1, 1) := by decide +kernel
theorem dL_law_232 : decode cL_law 232 = .ok (.aload_n 1, 1) := by decide +kernel
theorem dL_law_233 : decode cL_law 233 = .ok (.iload 5, 2) := by decide +kernel
theorem dL_law_235 : decode cL_law 235 = .ok (.iconst 0, 1) := by decide +kernel
theorem dL_law_236 : decode cL_law 236 = .ok (.invokevirtual 115, 3) := by decide +kernel
theorem dL_law_239 : decode cL_law 239 = .ok (.invokevirtual 118, 3) := by decide +kernel
theorem dL_law_242 : decode cL_law 242 = .ok (.iload 9, 2) := by decide +kernel
theorem dL_law_244 : decode cL_law 244 = .ok (.if_icmp .lt 10, 3) := by decide +kernel
theorem dL_law_247 : decode cL_law 247 = .ok (.aload_n 1, 1) := by decide +kernel
theorem dL_law_248 : decode cL_law 248 = .ok (.invokevirtual 111, 3) := by decide +kernel
theorem dL_law_251 : decode cL_law 251 = .ok (.ifCond .ge 5, 3) := by decide +kernel
theorem dL_law_254 : decode cL_law 254 = .ok (.iconst 0, 1) := by decide +kernel
theorem dL_law_255 : decode cL_law 255 = .ok (.ireturn, 1) := by decide +kernel
theorem dL_law_256 : decode cL_law 256 = .ok (.aload_n 1, 1) := by decide +kernel
theorem dL_law_257 : decode cL_law 257 = .ok (.bipush 9, 2) := by decide +kernel
theorem dL_law_259 : decode cL_law 259 = .ok (.invokevirtual 108, 3) := by decide +kernel
theorem dL_law_262 : decode cL_law 262 = .ok (.iload 5, 2) := by decide +kernel
theorem dL_law_264 : decode cL_law 264 = .ok (.if_icmp .ne 14, 3) := by decide +kernel
theorem dL_law_267 : decode cL_law 267 = .ok (.aload_n 1, 1) := by decide +kernel
theorem dL_law_268 : decode cL_law 268 = .ok (.invokevirtual 111, 3) := by decide +kernel
theorem dL_law_271 : decode cL_law 271 = .ok (.iload 7, 2) := by decide +kernel
theorem dL_law_273 : decode cL_law 273 = .ok (.if_icmp .eq 5, 3) := by decide +kernel
theorem dL_law_276 : decode cL_law 276 = .ok (.iconst 0, 1) := by decide +kernel
theorem dL_law_277 : decode cL_law 277 = .ok (.ireturn, 1) := by decide +kernel
theorem dL_law_278 : decode cL_law 278 = .ok (.bipush 20, 2) := by decide +kernel
theorem dL_law_280 : decode cL_law 280 = .ok (.newarray .int, 2) := by decide +kernel
theorem dL_law_282 : decode cL_law 282 = .ok (.astore 8, 2) := by decide +kernel
theorem dL_law_284 : decode cL_law 284 = .ok (.bipush 20, 2) := by decide +kernel
theorem dL_law_286 : decode cL_law 286 = .ok (.newarray .int, 2) := by decide +kernel
theorem dL_law_288 : decode cL_law 288 = .ok (.astore 9, 2) := by decide +kernel
theorem dL_law_290 : decode cL_law 290 = .ok (.iconst 0, 1) := by decide +kernel
theorem dL_law_291 : decode cL_law 291 = .ok (.istore 10, 2) := by decide +kernel
theorem dL_law_293 : decode cL_law 293 = .ok (.iconst 0, 1) := by decide +kernel
theorem dL_law_294 : decode cL_law 294 = .ok (.istore 11, 2) := by decide +kernel
theorem dL_law_296 : decode cL_law 296 = .ok (.iload 11, 2) := by decide +kernel
theorem dL_law_298 : decode cL_law 298 = .ok (.bipush 20, 2) := by decide +kernel
theorem dL_law_300 : decode cL_law 300 = .ok (.if_icmp .ge 119, 3) := by decide +kernel
theorem dL_law_303 : decode cL_law 303 = .ok (.aload 8, 2) := by decide +kernel
theorem dL_law_305 : decode cL_law 305 = .ok (.iload 11, 2) := by decide +kernel
theorem dL_law_307 : decode cL_law 307 = .ok (.aload_n 1, 1) := by decide +kernel
theorem dL_law_308 : decode cL_law 308 = .ok (.iload 11, 2) := by decide +kernel
theorem dL_law_310 : decode cL_law 310 = .ok (.iconst 0, 1) := by decide +kernel
theorem dL_law_311 : decode cL_law 311 = .ok (.invokevirtual 121, 3) := by decide +kernel
theorem dL_law_314 : decode cL_law 314 = .ok (.iastore, 1) := by decide +kernel
theorem dL_law_315 : decode cL_law 315 = .ok (.aload 9, 2) := by decide +kernel
theorem dL_law_317 : decode cL_law 317 = .ok (.iload 11, 2) := by decide +kernel
theorem dL_law_319 : decode cL_law 319 = .ok (.aload_n 1, 1) := by decide +kernel
theorem dL_law_320 : decode cL_law 320 = .ok (.iload 11, 2) := by decide +kernel
theorem dL_law_322 : decode cL_law 322 = .ok (.iconst 1, 1) := by decide +kernel
theorem dL_law_323 : decode cL_law 323 = .ok (.invokevirtual 121, 3) := by decide +kernel
theorem dL_law_326 : decode cL_law 326 = .ok (.iastore, 1) := by decide +kernel
theorem dL_law_327 : decode cL_law 327 = .ok (.iload 10, 2) := by decide +kernel
theorem dL_law_329 : decode cL_law 329 = .ok (.aload_n 1, 1) := by decide +kernel
theorem dL_law_330 : decode cL_law 330 = .ok (.iload 11, 2) := by decide +kernel
theorem dL_law_332 : decode cL_law 332 = .ok (.iconst 2, 1) := by decide +kernel
theorem dL_law_333 : decode cL_law 333 = .ok (.invokevirtual 121, 3) := by decide +kernel
theorem dL_law_336 : decode cL_law 336 = .ok (.iadd, 1) := by decide +kernel
theorem dL_law_337 : decode cL_law 337 = .ok (.istore 10, 2) := by decide +kernel
theorem dL_law_339 : decode cL_law 339 = .ok (.aload 8, 2) := by decide +kernel
theorem dL_law_341 : decode cL_law 341 = .ok (.iload 11, 2) := by decide +kernel
theorem dL_law_343 : decode cL_law 343 = .ok (.iaload, 1) := by decide +kernel
theorem dL_law_344 : decode cL_law 344 = .ok (.ifCond .lt 67, 3) := by decide +kernel
theorem dL_law_347 : decode cL_law 347 = .ok (.aload 8, 2) := by decide +kernel
theorem dL_law_349 : decode cL_law 349 = .ok (.iload 11, 2) := by decide +kernel
theorem dL_law_351 : decode cL_law 351 = .ok (.iaload, 1) := by decide +kernel
theorem dL_law_352 : decode cL_law 352 = .ok (.sipush 300, 3) := by decide +kernel
theorem dL_law_355 : decode cL_law 355 = .ok (.if_icmp .gt 56, 3) := by decide +kernel
theorem dL_law_358 : decode cL_law 358 = .ok (.aload 9, 2) := by decide +kernel
theorem dL_law_360 : decode cL_law 360 = .ok (.iload 11, 2) := by decide +kernel
theorem dL_law_362 : decode cL_law 362 = .ok (.iaload, 1) := by decide +kernel
theorem dL_law_363 : decode cL_law 363 = .ok (.ifCond .lt 48, 3) := by decide +kernel
theorem dL_law_366 : decode cL_law 366 = .ok (.aload 9, 2) := by decide +kernel
theorem dL_law_368 : decode cL_law 368 = .ok (.iload 11, 2) := by decide +kernel
theorem dL_law_370 : decode cL_law 370 = .ok (.iaload, 1) := by decide +kernel
theorem dL_law_371 : decode cL_law 371 = .ok (.bipush 50, 2) := by decide +kernel
theorem dL_law_373 : decode cL_law 373 = .ok (.if_icmp .gt 38, 3) := by decide +kernel
theorem dL_law_376 : decode cL_law 376 = .ok (.aload_n 1, 1) := by decide +kernel
theorem dL_law_377 : decode cL_law 377 = .ok (.iload 11, 2) := by decide +kernel
theorem dL_law_379 : decode cL_law 379 = .ok (.iconst 3, 1) := by decide +kernel
theorem dL_law_380 : decode cL_law 380 = .ok (.invokevirtual 121, 3) := by decide +kernel
theorem dL_law_383 : decode cL_law 383 = .ok (.aload 8, 2) := by decide +kernel
theorem dL_law_385 : decode cL_law 385 = .ok (.iload 11, 2) := by decide +kernel
theorem dL_law_387 : decode cL_law 387 = .ok (.iaload, 1) := by decide +kernel
theorem dL_law_388 : decode cL_law 388 = .ok (.bipush 30, 2) := by decide +kernel
theorem dL_law_390 : decode cL_law 390 = .ok (.if_icmp .lt 13, 3) := by decide +kernel
theorem dL_law_393 : decode cL_law 393 = .ok (.aload 9, 2) := by decide +kernel
theorem dL_law_395 : decode cL_law 395 = .ok (.iload 11, 2) := by decide +kernel
theorem dL_law_397 : decode cL_law 397 = .ok (.iaload, 1) := by decide +kernel
theorem dL_law_398 : decode cL_law 398 = .ok (.bipush 9, 2) := by decide +kernel
theorem dL_law_400 : decode cL_law 400 = .ok (.if_icmp .le 7, 3) := by decide +kernel
theorem dL_law_403 : decode cL_law 403 = .ok (.iconst 1, 1) := by decide +kernel
theorem dL_law_404 : decode cL_law 404 = .ok (.goto 4, 3) := by decide +kernel
theorem dL_law_407 : decode cL_law 407 = .ok (.iconst 0, 1) := by decide +kernel
theorem dL_law_408 : decode cL_law 408 = .ok (.if_icmp .eq 5, 3) := by decide +kernel
theorem dL_law_411 : decode cL_law 411 = .ok (.iconst 0, 1) := by decide +kernel
theorem dL_law_412 : decode cL_law 412 = .ok (.ireturn, 1) := by decide +kernel
theorem dL_law_413 : decode cL_law 413 = .ok (.iinc 11 1, 3) := by decide +kernel
theorem dL_law_416 : decode cL_law 416 = .ok (.goto (-120), 3) := by decide +kernel
theorem dL_law_419 : decode cL_law 419 = .ok (.bipush 11, 2) := by decide +kernel
theorem dL_law_421 : decode cL_law 421 = .ok (.newarray .int, 2) := by decide +kernel
theorem dL_law_423 : decode cL_law 423 = .ok (.astore 11, 2) := by decide +kernel
theorem dL_law_425 : decode cL_law 425 = .ok (.iconst 0, 1) := by decide +kernel
theorem dL_law_426 : decode cL_law 426 = .ok (.istore 12, 2) := by decide +kernel
theorem dL_law_428 : decode cL_law 428 = .ok (.iload 12, 2) := by decide +kernel
theorem dL_law_430 : decode cL_law 430 = .ok (.bipush 11, 2) := by decide +kernel
theorem dL_law_432 : decode cL_law 432 = .ok (.if_icmp .ge 20, 3) := by decide +kernel
theorem dL_law_435 : decode cL_law 435 = .ok (.aload 11, 2) := by decide +kernel
theorem dL_law_437 : decode cL_law 437 = .ok (.iload 12, 2) := by decide +kernel
theorem dL_law_439 : decode cL_law 439 = .ok (.aload_n 1, 1) := by decide +kernel
theorem dL_law_440 : decode cL_law 440 = .ok (.iload 12, 2) := by decide +kernel
theorem dL_law_442 : decode cL_law 442 = .ok (.invokevirtual 108, 3) := by decide +kernel
theorem dL_law_445 : decode cL_law 445 = .ok (.iastore, 1) := by decide +kernel
theorem dL_law_446 : decode cL_law 446 = .ok (.iinc 12 1, 3) := by decide +kernel
theorem dL_law_449 : decode cL_law 449 = .ok (.goto (-21), 3) := by decide +kernel
theorem dL_law_452 : decode cL_law 452 = .ok (.iload 10, 2) := by decide +kernel
theorem dL_law_454 : decode cL_law 454 = .ok (.aload 11, 2) := by decide +kernel
theorem dL_law_456 : decode cL_law 456 = .ok (.iconst 5, 1) := by decide +kernel
theorem dL_law_457 : decode cL_law 457 = .ok (.iaload, 1) := by decide +kernel
theorem dL_law_458 : decode cL_law 458 = .ok (.if_icmp .ne 41, 3) := by decide +kernel
theorem dL_law_461 : decode cL_law 461 = .ok (.aload 11, 2) := by decide +kernel
theorem dL_law_463 : decode cL_law 463 = .ok (.bipush 6, 2) := by decide +kernel
theorem dL_law_465 : decode cL_law 465 = .ok (.iaload, 1) := by decide +kernel
theorem dL_law_466 : decode cL_law 466 = .ok (.aload 11, 2) := by decide +kernel
theorem dL_law_468 : decode cL_law 468 = .ok (.iconst 5, 1) := by decide +kernel
theorem dL_law_469 : decode cL_law 469 = .ok (.iaload, 1) := by decide +kernel
theorem dL_law_470 : decode cL_law 470 = .ok (.if_icmp .gt 29, 3) := by decide +kernel
theorem dL_law_473 : decode cL_law 473 = .ok (.aload 11, 2) := by decide +kernel
theorem dL_law_475 : decode cL_law 475 = .ok (.bipush 7, 2) := by decide +kernel
theorem dL_law_477 : decode cL_law 477 = .ok (.iaload, 1) := by decide +kernel
theorem dL_law_478 : decode cL_law 478 = .ok (.aload 8, 2) := by decide +kernel
theorem dL_law_480 : decode cL_law 480 = .ok (.invokestatic 124, 3) := by decide +kernel
theorem dL_law_483 : decode cL_law 483 = .ok (.if_icmp .ne 16, 3) := by decide +kernel
theorem dL_law_486 : decode cL_law 486 = .ok (.aload 11, 2) := by decide +kernel
theorem dL_law_488 : decode cL_law 488 = .ok (.bipush 8, 2) := by decide +kernel
theorem dL_law_490 : decode cL_law 490 = .ok (.iaload, 1) := by decide +kernel
theorem dL_law_491 : decode cL_law 491 = .ok (.aload 9, 2) := by decide +kernel
theorem dL_law_493 : decode cL_law 493 = .ok (.invokestatic 124, 3) := by decide +kernel
theorem dL_law_496 : decode cL_law 496 = .ok (.if_icmp .eq 5, 3) := by decide +kernel
theorem dL_law_499 : decode cL_law 499 = .ok (.iconst 0, 1) := by decide +kernel
theorem dL_law_500 : decode cL_law 500 = .ok (.ireturn, 1) := by decide +kernel
theorem dL_law_501 : decode cL_law 501 = .ok (.aload_n 1, 1) := by decide +kernel
theorem dL_law_502 : decode cL_law 502 = .ok (.invokevirtual 127, 3) := by decide +kernel
theorem dL_law_505 : decode cL_law 505 = .ok (.lstore 12, 2) := by decide +kernel
theorem dL_law_507 : decode cL_law 507 = .ok (.iload 4, 2) := by decide +kernel
theorem dL_law_509 : decode cL_law 509 = .ok (.iconst 4, 1) := by decide +kernel
theorem dL_law_510 : decode cL_law 510 = .ok (.ishr, 1) := by decide +kernel
theorem dL_law_511 : decode cL_law 511 = .ok (.bipush 21, 2) := by decide +kernel
theorem dL_law_513 : decode cL_law 513 = .ok (.invokestatic 9, 3) := by decide +kernel
theorem dL_law_516 : decode cL_law 516 = .ok (.istore 14, 2) := by decide +kernel
theorem dL_law_518 : decode cL_law 518 = .ok (.aload_n 1, 1) := by decide +kernel
theorem dL_law_519 : decode cL_law 519 = .ok (.iload 14, 2) := by decide +kernel
theorem dL_law_521 : decode cL_law 521 = .ok (.invokevirtual 131, 3) := by decide +kernel
theorem dL_law_524 : decode cL_law 524 = .ok (.istore 15, 2) := by decide +kernel
theorem dL_law_526 : decode cL_law 526 = .ok (.iload 15, 2) := by decide +kernel
theorem dL_law_528 : decode cL_law 528 = .ok (.istore 16, 2) := by decide +kernel
theorem dL_law_530 : decode cL_law 530 = .ok (.iload 16, 2) := by decide +kernel
theorem dL_law_532 : decode cL_law 532 = .ok (.bipush 21, 2) := by decide +kernel
theorem dL_law_534 : decode cL_law 534 = .ok (.if_icmp .ge 80, 3) := by decide +kernel
theorem dL_law_537 : decode cL_law 537 = .ok (.iload 16, 2) := by decide +kernel
theorem dL_law_539 : decode cL_law 539 = .ok (.iconst 1, 1) := by decide +kernel
theorem dL_law_540 : decode cL_law 540 = .ok (.if_icmp .ge 6, 3) := by decide +kernel
theorem dL_law_543 : decode cL_law 543 = .ok (.goto 65, 3) := by decide +kernel
theorem dL_law_546 : decode cL_law 546 = .ok (.iconst 0, 1) := by decide +kernel
theorem dL_law_547 : decode cL_law 547 = .ok (.bipush 99, 2) := by decide +kernel
theorem dL_law_549 : decode cL_law 549 = .ok (.iconst 4, 1) := by decide +kernel
theorem dL_law_550 : decode cL_law 550 = .ok (.iload 16, 2) := by decide +kernel
theorem dL_law_552 : decode cL_law 552 = .ok (.imul, 1) := by decide +kernel
theorem dL_law_553 : decode cL_law 553 = .ok (.iconst 2, 1) := by decide +kernel
theorem dL_law_554 : decode cL_law 554 = .ok (.aload 11, 2) := by decide +kernel
theorem dL_law_556 : decode cL_law 556 = .ok (.iconst 3, 1) := by decide +kernel
theorem dL_law_557 : decode cL_law 557 = .ok (.iaload, 1) := by decide +kernel
theorem dL_law_558 : decode cL_law 558 = .ok (.imul, 1) := by decide +kernel
theorem dL_law_559 : decode cL_law 559 = .ok (.iadd, 1) := by decide +kernel
theorem dL_law_560 : decode cL_law 560 = .ok (.iload 14, 2) := by decide +kernel
theorem dL_law_562 : decode cL_law 562 = .ok (.iconst 4, 1) := by decide +kernel
theorem dL_law_563 : decode cL_law 563 = .ok (.idiv, 1) := by decide +kernel
theorem dL_law_564 : decode cL_law 564 = .ok (.iadd, 1) := by decide +kernel
theorem dL_law_565 : decode cL_law 565 = .ok (.invokestatic 53, 3) := by decide +kernel
theorem dL_law_568 : decode cL_law 568 = .ok (.invokestatic 134, 3) := by decide +kernel
theorem dL_law_571 : decode cL_law 571 = .ok (.istore 17, 2) := by decide +kernel
theorem dL_law_573 : decode cL_law 573 = .ok (.aload_n 1, 1) := by decide +kernel
theorem dL_law_574 : decode cL_law 574 = .ok (.iload 17, 2) := by decide +kernel
theorem dL_law_576 : decode cL_law 576 = .ok (.iconst 5, 1) := by decide +kernel
theorem dL_law_577 : decode cL_law 577 = .ok (.idiv, 1) := by decide +kernel
theorem dL_law_578 : decode cL_law 578 = .ok (.iconst 3, 1) := by decide +kernel
theorem dL_law_579 : decode cL_law 579 = .ok (.invokevirtual 121, 3) := by decide +kernel
theorem dL_law_582 : decode cL_law 582 = .ok (.iconst 1, 1) := by decide +kernel
theorem dL_law_583 : decode cL_law 583 = .ok (.if_icmp .ne 7, 3) := by decide +kernel
theorem dL_law_586 : decode cL_law 586 = .ok (.iconst 1, 1) := by decide +kernel
theorem dL_law_587 : decode cL_law 587 = .ok (.goto 4, 3) := by decide +kernel
theorem dL_law_590 : decode cL_law 590 = .ok (.iconst 0, 1) := by decide +kernel
theorem dL_law_591 : decode cL_law 591 = .ok (.iload 16, 2) := by decide +kernel
theorem dL_law_593 : decode cL_law 593 = .ok (.iload 15, 2) := by decide +kernel
theorem dL_law_595 : decode cL_law 595 = .ok (.if_icmp .le 7, 3) := by decide +kernel
theorem dL_law_598 : decode cL_law 598 = .ok (.iconst 1, 1) := by decide +kernel
theorem dL_law_599 : decode cL_law 599 = .ok (.goto 4, 3) := by decide +kernel
theorem dL_law_602 : decode cL_law 602 = .ok (.iconst 0, 1) := by decide +kernel
theorem dL_law_603 : decode cL_law 603 = .ok (.if_icmp .eq 5, 3) := by decide +kernel
theorem dL_law_606 : decode cL_law 606 = .ok (.iconst 0, 1) := by decide +kernel
theorem dL_law_607 : decode cL_law 607 = .ok (.ireturn, 1) := by decide +kernel
theorem dL_law_608 : decode cL_law 608 = .ok (.iinc 16 1, 3) := by decide +kernel
theorem dL_law_611 : decode cL_law 611 = .ok (.goto (-81), 3) := by decide +kernel
theorem dL_law_614 : decode cL_law 614 = .ok (.iconst 3, 1) := by decide +kernel
theorem dL_law_615 : decode cL_law 615 = .ok (.newarray .int, 2) := by decide +kernel
theorem dL_law_617 : decode cL_law 617 = .ok (.dup, 1) := by decide +kernel
theorem dL_law_618 : decode cL_law 618 = .ok (.iconst 0, 1) := by decide +kernel
theorem dL_law_619 : decode cL_law 619 = .ok (.aload_n 1, 1) := by decide +kernel
theorem dL_law_620 : decode cL_law 620 = .ok (.iconst 1, 1) := by decide +kernel
theorem dL_law_621 : decode cL_law 621 = .ok (.iconst 4, 1) := by decide +kernel
theorem dL_law_622 : decode cL_law 622 = .ok (.invokevirtual 137, 3) := by decide +kernel
theorem dL_law_625 : decode cL_law 625 = .ok (.iastore, 1) := by decide +kernel
theorem dL_law_626 : decode cL_law 626 = .ok (.dup, 1) := by decide +kernel
theorem dL_law_627 : decode cL_law 627 = .ok (.iconst 1, 1) := by decide +kernel
theorem dL_law_628 : decode cL_law 628 = .ok (.aload_n 1, 1) := by decide +kernel
theorem dL_law_629 : decode cL_law 629 = .ok (.iconst 1, 1) := by decide +kernel
theorem dL_law_630 : decode cL_law 630 = .ok (.bipush 7, 2) := by decide +kernel
theorem dL_law_632 : decode cL_law 632 = .ok (.invokevirtual 137, 3) := by decide +kernel
theorem dL_law_635 : decode cL_law 635 = .ok (.iastore, 1) := by decide +kernel
theorem dL_law_636 : decode cL_law 636 = .ok (.dup, 1) := by decide +kernel
theorem dL_law_637 : decode cL_law 637 = .ok (.iconst 2, 1) := by decide +kernel
theorem dL_law_638 : decode cL_law 638 = .ok (.aload_n 1, 1) := by decide +kernel
theorem dL_law_639 : decode cL_law 639 = .ok (.iconst 1, 1) := by decide +kernel
theorem dL_law_640 : decode cL_law 640 = .ok (.bipush 8, 2) := by decide +kernel
theorem dL_law_642 : decode cL_law 642 = .ok (.invokevirtual 137, 3) := by decide +kernel
theorem dL_law_645 : decode cL_law 645 = .ok (.iastore, 1) := by decide +kernel
theorem dL_law_646 : decode cL_law 646 = .ok (.astore 16, 2) := by decide +kernel
theorem dL_law_648 : decode cL_law 648 = .ok (.iload 4, 2) := by decide +kernel
theorem dL_law_650 : decode cL_law 650 = .ok (.iconst 5, 1) := by decide +kernel
theorem dL_law_651 : decode cL_law 651 = .ok (.ishr, 1) := by decide +kernel
theorem dL_law_652 : decode cL_law 652 = .ok (.bipush 20, 2) := by decide +kernel
theorem dL_law_654 : decode cL_law 654 = .ok (.invokestatic 9, 3) := by decide +kernel
theorem dL_law_657 : decode cL_law 657 = .ok (.istore 17, 2) := by decide +kernel
theorem dL_law_659 : decode cL_law 659 = .ok (.aload_n 1, 1) := by decide +kernel
theorem dL_law_660 : decode cL_law 660 = .ok (.iload 17, 2) := by decide +kernel
theorem dL_law_662 : decode cL_law 662 = .ok (.iconst 1, 1) := by decide +kernel
theorem dL_law_663 : decode cL_law 663 = .ok (.iload 4, 2) := by decide +kernel
theorem dL_law_665 : decode cL_law 665 = .ok (.bipush 7, 2) := by decide +kernel
theorem dL_law_667 : decode cL_law 667 = .ok (.ishr, 1) := by decide +kernel
theorem dL_law_668 : decode cL_law 668 = .ok (.sipush 300, 3) := by decide +kernel
theorem dL_law_671 : decode cL_law 671 = .ok (.invokestatic 9, 3) := by decide +kernel
theorem dL_law_674 : decode cL_law 674 = .ok (.iadd, 1) := by decide +kernel
theorem dL_law_675 : decode cL_law 675 = .ok (.invokevirtual 140, 3) := by decide +kernel
theorem dL_law_678 : decode cL_law 678 = .ok (.istore 18, 2) := by decide +kernel
theorem dL_law_680 : decode cL_law 680 = .ok (.iconst 1, 1) := by decide +kernel
theorem dL_law_681 : decode cL_law 681 = .ok (.iload 4, 2) := by decide +kernel
theorem dL_law_683 : decode cL_law 683 = .ok (.bipush 6, 2) := by decide +kernel
theorem dL_law_685 : decode cL_law 685 = .ok (.ishr, 1) := by decide +kernel
theorem dL_law_686 : decode cL_law 686 = .ok (.bipush 30, 2) := by decide +kernel
theorem dL_law_688 : decode cL_law 688 = .ok (.invokestatic 9, 3) := by decide +kernel
theorem dL_law_691 : decode cL_law 691 = .ok (.iadd, 1) := by decide +kernel
theorem dL_law_692 : decode cL_law 692 = .ok (.istore 19, 2) := by decide +kernel
theorem dL_law_694 : decode cL_law 694 = .ok (.aload_n 1, 1) := by decide +kernel
theorem dL_law_695 : decode cL_law 695 = .ok (.iload 19, 2) := by decide +kernel
theorem dL_law_697 : decode cL_law 697 = .ok (.bipush 7, 2) := by decide +kernel
theorem dL_law_699 : decode cL_law 699 = .ok (.invokevirtual 137, 3) := by decide +kernel
theorem dL_law_702 : decode cL_law 702 = .ok (.istore 20, 2) := by decide +kernel
theorem dL_law_704 : decode cL_law 704 = .ok (.aload_n 1, 1) := by decide +kernel
theorem dL_law_705 : decode cL_law 705 = .ok (.iload 19, 2) := by decide +kernel
theorem dL_law_707 : decode cL_law 707 = .ok (.invokevirtual 143, 3) := by decide +kernel
theorem dL_law_710 : decode cL_law 710 = .ok (.istore 21, 2) := by decide +kernel
theorem dL_law_712 : decode cL_law 712 = .ok (.aload_n 1, 1) := by decide +kernel
theorem dL_law_713 : decode cL_law 713 = .ok (.invokevirtual 127, 3) := by decide +kernel
theorem dL_law_716 : decode cL_law 716 = .ok (.lload 12, 2) := by decide +kernel
theorem dL_law_718 : decode cL_law 718 = .ok (.lcmp, 1) := by decide +kernel
theorem dL_law_719 : decode cL_law 719 = .ok (.ifCond .ne 68, 3) := by decide +kernel
theorem dL_law_722 : decode cL_law 722 = .ok (.iload 18, 2) := by decide +kernel
theorem dL_law_724 : decode cL_law 724 = .ok (.ifCond .ne 7, 3) := by decide +kernel
theorem dL_law_727 : decode cL_law 727 = .ok (.iconst 1, 1) := by decide +kernel
theorem dL_law_728 : decode cL_law 728 = .ok (.goto 4, 3) := by decide +kernel
theorem dL_law_731 : decode cL_law 731 = .ok (.iconst 0, 1) := by decide +kernel
theorem dL_law_732 : decode cL_law 732 = .ok (.aload 8, 2) := by decide +kernel
theorem dL_law_734 : decode cL_law 734 = .ok (.iload 17, 2) := by decide +kernel
theorem dL_law_736 : decode cL_law 736 = .ok (.iaload, 1) := by decide +kernel
theorem dL_law_737 : decode cL_law 737 = .ok (.iconst 1, 1) := by decide +kernel
theorem dL_law_738 : decode cL_law 738 = .ok (.iload 4, 2) := by decide +kernel
theorem dL_law_740 : decode cL_law 740 = .ok (.bipush 7, 2) := by decide +kernel
theorem dL_law_742 : decode cL_law 742 = .ok (.ishr, 1) := by decide +kernel
theorem dL_law_743 : decode cL_law 743 = .ok (.sipush 300, 3) := by decide +kernel
theorem dL_law_746 : decode cL_law 746 = .ok (.invokestatic 9, 3) := by decide +kernel
theorem dL_law_749 : decode cL_law 749 = .ok (.iadd, 1) := by decide +kernel
theorem dL_law_750 : decode cL_law 750 = .ok (.if_icmp .lt 7, 3) := by decide +kernel
theorem dL_law_753 : decode cL_law 753 = .ok (.iconst 1, 1) := by decide +kernel
theorem dL_law_754 : decode cL_law 754 = .ok (.goto 4, 3) := by decide +kernel
theorem dL_law_757 : decode cL_law 757 = .ok (.iconst 0, 1) := by decide +kernel
theorem dL_law_758 : decode cL_law 758 = .ok (.if_icmp .ne 29, 3) := by decide +kernel
theorem dL_law_761 : decode cL_law 761 = .ok (.iload 21, 2) := by decide +kernel
theorem dL_law_763 : decode cL_law 763 = .ok (.aload 11, 2) := by decide +kernel
theorem dL_law_765 : decode cL_law 765 = .ok (.iconst 5, 1) := by decide +kernel
theorem dL_law_766 : decode cL_law 766 = .ok (.iaload, 1) := by decide +kernel
theorem dL_law_767 : decode cL_law 767 = .ok (.if_icmp .ge 20, 3) := by decide +kernel
theorem dL_law_770 : decode cL_law 770 = .ok (.iload 21, 2) := by decide +kernel
theorem dL_law_772 : decode cL_law 772 = .ok (.ifCond .lt 17, 3) := by decide +kernel
theorem dL_law_775 : decode cL_law 775 = .ok (.aload 11, 2) := by decide +kernel
theorem dL_law_777 : decode cL_law 777 = .ok (.bipush 6, 2) := by decide +kernel
theorem dL_law_779 : decode cL_law 779 = .ok (.iaload, 1) := by decide +kernel
theorem dL_law_780 : decode cL_law 780 = .ok (.aload 11, 2) := by decide +kernel
theorem dL_law_782 : decode cL_law 782 = .ok (.iconst 5, 1) := by decide +kernel
theorem dL_law_783 : decode cL_law 783 = .ok (.iaload, 1) := by decide +kernel
theorem dL_law_784 : decode cL_law 784 = .ok (.if_icmp .ne 5, 3) := by decide +kernel
theorem dL_law_787 : decode cL_law 787 = .ok (.iconst 0, 1) := by decide +kernel
theorem dL_law_788 : decode cL_law 788 = .ok (.ireturn, 1) := by decide +kernel
theorem dL_law_789 : decode cL_law 789 = .ok (.iload 21, 2) := by decide +kernel
theorem dL_law_791 : decode cL_law 791 = .ok (.ifCond .lt 46, 3) := by decide +kernel
theorem dL_law_794 : decode cL_law 794 = .ok (.aload_n 1, 1) := by decide +kernel
theorem dL_law_795 : decode cL_law 795 = .ok (.iload 21, 2) := by decide +kernel
theorem dL_law_797 : decode cL_law 797 = .ok (.invokevirtual 46, 3) := by decide +kernel
theorem dL_law_800 : decode cL_law 800 = .ok (.ifCond .eq 35, 3) := by decide +kernel
theorem dL_law_803 : decode cL_law 803 = .ok (.aload_n 1, 1) := by decide +kernel
theorem dL_law_804 : decode cL_law 804 = .ok (.iload 19, 2) := by decide +kernel
theorem dL_law_806 : decode cL_law 806 = .ok (.bipush 7, 2) := by decide +kernel
theorem dL_law_808 : decode cL_law 808 = .ok (.invokevirtual 137, 3) := by decide +kernel
theorem dL_law_811 : decode cL_law 811 = .ok (.iload 20, 2) := by decide +kernel
theorem dL_law_813 : decode cL_law 813 = .ok (.if_icmp .le 22, 3) := by decide +kernel
theorem dL_law_816 : decode cL_law 816 = .ok (.aload_n 1, 1) := by decide +kernel
theorem dL_law_817 : decode cL_law 817 = .ok (.iload 21, 2) := by decide +kernel
theorem dL_law_819 : decode cL_law 819 = .ok (.invokevirtual 46, 3) := by decide +kernel
theorem dL_law_822 : decode cL_law 822 = .ok (.ifCond .ne 13, 3) := by decide +kernel
theorem dL_law_825 : decode cL_law 825 = .ok (.aload_n 1, 1) := by decide +kernel
theorem dL_law_826 : decode cL_law 826 = .ok (.invokevirtual 127, 3) := by decide +kernel
theorem dL_law_829 : decode cL_law 829 = .ok (.lload 12, 2) := by decide +kernel
theorem dL_law_831 : decode cL_law 831 = .ok (.lcmp, 1) := by decide +kernel
theorem dL_law_832 : decode cL_law 832 = .ok (.ifCond .eq 5, 3) := by decide +kernel
theorem dL_law_835 : decode cL_law 835 = .ok (.iconst 0, 1) := by decide +kernel
theorem dL_law_836 : decode cL_law 836 = .ok (.ireturn, 1) := by decide +kernel
theorem dL_law_837 : decode cL_law 837 = .ok (.aload_n 2, 1) := by decide +kernel
theorem dL_law_838 : decode cL_law 838 = .ok (.getfield 21, 3) := by decide +kernel
theorem dL_law_841 : decode cL_law 841 = .ok (.aload 11, 2) := by decide +kernel
theorem dL_law_843 : decode cL_law 843 = .ok (.iconst 1, 1) := by decide +kernel
theorem dL_law_844 : decode cL_law 844 = .ok (.iaload, 1) := by decide +kernel
theorem dL_law_845 : decode cL_law 845 = .ok (.aaload, 1) := by decide +kernel
theorem dL_law_846 : decode cL_law 846 = .ok (.iconst 0, 1) := by decide +kernel
theorem dL_law_847 : decode cL_law 847 = .ok (.iaload, 1) := by decide +kernel
theorem dL_law_848 : decode cL_law 848 = .ok (.istore 22, 2) := by decide +kernel
theorem dL_law_850 : decode cL_law 850 = .ok (.aload_n 1, 1) := by decide +kernel
theorem dL_law_851 : decode cL_law 851 = .ok (.iconst 1, 1) := by decide +kernel
theorem dL_law_852 : decode cL_law 852 = .ok (.invokevirtual 101, 3) := by decide +kernel
theorem dL_law_855 : decode cL_law 855 = .ok (.istore 23, 2) := by decide +kernel
theorem dL_law_857 : decode cL_law 857 = .ok (.aload_n 2, 1) := by decide +kernel
theorem dL_law_858 : decode cL_law 858 = .ok (.invokevirtual 98, 3) := by decide +kernel
theorem dL_law_861 : decode cL_law 861 = .ok (.aload_n 1, 1) := by decide +kernel
theorem dL_law_862 : decode cL_law 862 = .ok (.iconst 4, 1) := by decide +kernel
theorem dL_law_863 : decode cL_law 863 = .ok (.invokevirtual 108, 3) := by decide +kernel
theorem dL_law_866 : decode cL_law 866 = .ok (.aload 16, 2) := by decide +kernel
theorem dL_law_868 : decode cL_law 868 = .ok (.iconst 0, 1) := by decide +kernel
theorem dL_law_869 : decode cL_law 869 = .ok (.iaload, 1) := by decide +kernel
theorem dL_law_870 : decode cL_law 870 = .ok (.if_icmp .ne 223, 3) := by decide +kernel
theorem dL_law_873 : decode cL_law 873 = .ok (.aload_n 1, 1) := by decide +kernel
theorem dL_law_874 : decode cL_law 874 = .ok (.bipush 7, 2) := by decide +kernel
theorem dL_law_876 : decode cL_law 876 = .ok (.invokevirtual 108, 3) := by decide +kernel
theorem dL_law_879 : decode cL_law 879 = .ok (.aload 16, 2) := by decide +kernel
theorem dL_law_881 : decode cL_law 881 = .ok (.iconst 1, 1) := by decide +kernel
theorem dL_law_882 : decode cL_law 882 = .ok (.iaload, 1) := by decide +kernel
theorem dL_law_883 : decode cL_law 883 = .ok (.if_icmp .ne 210, 3) := by decide +kernel
theorem dL_law_886 : decode cL_law 886 = .ok (.aload_n 1, 1) := by decide +kernel
theorem dL_law_887 : decode cL_law 887 = .ok (.bipush 8, 2) := by decide +kernel
theorem dL_law_889 : decode cL_law 889 = .ok (.invokevirtual 108, 3) := by decide +kernel
theorem dL_law_892 : decode cL_law 892 = .ok (.aload 16, 2) := by decide +kernel
theorem dL_law_894 : decode cL_law 894 = .ok (.iconst 2, 1) := by decide +kernel
theorem dL_law_895 : decode cL_law 895 = .ok (.iaload, 1) := by decide +kernel
theorem dL_law_896 : decode cL_law 896 = .ok (.if_icmp .ne 197, 3) := by decide +kernel
theorem dL_law_899 : decode cL_law 899 = .ok (.iload 23, 2) := by decide +kernel
theorem dL_law_901 : decode cL_law 901 = .ok (.aload_n 1, 1) := by decide +kernel
theorem dL_law_902 : decode cL_law 902 = .ok (.bipush 7, 2) := by decide +kernel
theorem dL_law_904 : decode cL_law 904 = .ok (.invokevirtual 108, 3) := by decide +kernel
theorem dL_law_907 : decode cL_law 907 = .ok (.aload 11, 2) := by decide +kernel
theorem dL_law_909 : decode cL_law 909 = .ok (.bipush 7, 2) := by decide +kernel
theorem dL_law_911 : decode cL_law 911 = .ok (.iaload, 1) := by decide +kernel
theorem dL_law_912 : decode cL_law 912 = .ok (.isub, 1) := by decide +kernel
theorem dL_law_913 : decode cL_law 913 = .ok (.if_icmp .ne 180, 3) := by decide +kernel
theorem dL_law_916 : decode cL_law 916 = .ok (.aload_n 1, 1) := by decide +kernel
theorem dL_law_917 : decode cL_law 917 = .ok (.iconst 0, 1) := by decide +kernel
theorem dL_law_918 : decode cL_law 918 = .ok (.invokevirtual 108, 3) := by decide +kernel
theorem dL_law_921 : decode cL_law 921 = .ok (.aload 11, 2) := by decide +kernel
theorem dL_law_923 : decode cL_law 923 = .ok (.iconst 0, 1) := by decide +kernel
theorem dL_law_924 : decode cL_law 924 = .ok (.iaload, 1) := by decide +kernel
theorem dL_law_925 : decode cL_law 925 = .ok (.iconst 1, 1) := by decide +kernel
theorem dL_law_926 : decode cL_law 926 = .ok (.iadd, 1) := by decide +kernel
theorem dL_law_927 : decode cL_law 927 = .ok (.if_icmp .ne 166, 3) := by decide +kernel
theorem dL_law_930 : decode cL_law 930 = .ok (.aload_n 1, 1) := by decide +kernel
theorem dL_law_931 : decode cL_law 931 = .ok (.iconst 1, 1) := by decide +kernel
theorem dL_law_932 : decode cL_law 932 = .ok (.invokevirtual 108, 3) := by decide +kernel
theorem dL_law_935 : decode cL_law 935 = .ok (.aload 11, 2) := by decide +kernel
theorem dL_law_937 : decode cL_law 937 = .ok (.iconst 1, 1) := by decide +kernel
theorem dL_law_938 : decode cL_law 938 = .ok (.iaload, 1) := by decide +kernel
theorem dL_law_939 : decode cL_law 939 = .ok (.iconst 1, 1) := by decide +kernel
theorem dL_law_940 : decode cL_law 940 = .ok (.iadd, 1) := by decide +kernel
theorem dL_law_941 : decode cL_law 941 = .ok (.bipush 24, 2) := by decide +kernel
theorem dL_law_943 : decode cL_law 943 = .ok (.irem, 1) := by decide +kernel
theorem dL_law_944 : decode cL_law 944 = .ok (.if_icmp .ne 149, 3) := by decide +kernel
theorem dL_law_947 : decode cL_law 947 = .ok (.aload_n 1, 1) := by decide +kernel
theorem dL_law_948 : decode cL_law 948 = .ok (.iconst 4, 1) := by decide +kernel
theorem dL_law_949 : decode cL_law 949 = .ok (.invokevirtual 108, 3) := by decide +kernel
theorem dL_law_952 : decode cL_law 952 = .ok (.aload 11, 2) := by decide +kernel
theorem dL_law_954 : decode cL_law 954 = .ok (.iconst 4, 1) := by decide +kernel
theorem dL_law_955 : decode cL_law 955 = .ok (.iaload, 1) := by decide +kernel
theorem dL_law_956 : decode cL_law 956 = .ok (.if_icmp .gt 137, 3) := by decide +kernel
theorem dL_law_959 : decode cL_law 959 = .ok (.aload 11, 2) := by decide +kernel
theorem dL_law_961 : decode cL_law 961 = .ok (.bipush 6, 2) := by decide +kernel
theorem dL_law_963 : decode cL_law 963 = .ok (.iaload, 1) := by decide +kernel
theorem dL_law_964 : decode cL_law 964 = .ok (.ifCond .ne 34, 3) := by decide +kernel
theorem dL_law_967 : decode cL_law 967 = .ok (.aload_n 1, 1) := by decide +kernel
theorem dL_law_968 : decode cL_law 968 = .ok (.iconst 4, 1) := by decide +kernel
theorem dL_law_969 : decode cL_law 969 = .ok (.invokevirtual 108, 3) := by decide +kernel
theorem dL_law_972 : decode cL_law 972 = .ok (.aload 11, 2) := by decide +kernel
theorem dL_law_974 : decode cL_law 974 = .ok (.iconst 4, 1) := by decide +kernel
theorem dL_law_975 : decode cL_law 975 = .ok (.iaload, 1) := by decide +kernel
theorem dL_law_976 : decode cL_law 976 = .ok (.if_icmp .ne 117, 3) := by decide +kernel
theorem dL_law_979 : decode cL_law 979 = .ok (.iload 23, 2) := by decide +kernel
theorem dL_law_981 : decode cL_law 981 = .ok (.ifCond .gt 112, 3) := by decide +kernel
theorem dL_law_984 : decode cL_law 984 = .ok (.aload_n 1, 1) := by decide +kernel
theorem dL_law_985 : decode cL_law 985 = .ok (.bipush 8, 2) := by decide +kernel
theorem dL_law_987 : decode cL_law 987 = .ok (.invokevirtual 108, 3) := by decide +kernel
theorem dL_law_990 : decode cL_law 990 = .ok (.aload 11, 2) := by decide +kernel
theorem dL_law_992 : decode cL_law 992 = .ok (.bipush 8, 2) := by decide +kernel
theorem dL_law_994 : decode cL_law 994 = .ok (.iaload, 1) := by decide +kernel
theorem dL_law_995 : decode cL_law 995 = .ok (.if_icmp .gt 98, 3) := by decide +kernel
theorem dL_law_998 : decode cL_law 998 = .ok (.iload 22, 2) := by decide +kernel
theorem dL_law_1000 : decode cL_law 1000 = .ok (.ifCond .gt 22, 3) := by decide +kernel
theorem dL_law_1003 : decode cL_law 1003 = .ok (.iload 23, 2) := by decide +kernel
theorem dL_law_1005 : decode cL_law 1005 = .ok (.ifCond .lt 88, 3) := by decide +kernel
theorem dL_law_1008 : decode cL_law 1008 = .ok (.aload_n 1, 1) := by decide +kernel
theorem dL_law_1009 : decode cL_law 1009 = .ok (.bipush 8, 2) := by decide +kernel
theorem dL_law_1011 : decode cL_law 1011 = .ok (.invokevirtual 108, 3) := by decide +kernel
theorem dL_law_1014 : decode cL_law 1014 = .ok (.aload 11, 2) := by decide +kernel
theorem dL_law_1016 : decode cL_law 1016 = .ok (.bipush 8, 2) := by decide +kernel
theorem dL_law_1018 : decode cL_law 1018 = .ok (.iaload, 1) := by decide +kernel
theorem dL_law_1019 : decode cL_law 1019 = .ok (.if_icmp .lt 74, 3) := by decide +kernel
theorem dL_law_1022 : decode cL_law 1022 = .ok (.aload 11, 2) := by decide +kernel
theorem dL_law_1024 : decode cL_law 1024 = .ok (.iconst 2, 1) := by decide +kernel
theorem dL_law_1025 : decode cL_law 1025 = .ok (.iaload, 1) := by decide +kernel
theorem dL_law_1026 : decode cL_law 1026 = .ok (.bipush (-2), 2) := by decide +kernel
theorem dL_law_1028 : decode cL_law 1028 = .ok (.if_icmp .gt 17, 3) := by decide +kernel
theorem dL_law_1031 : decode cL_law 1031 = .ok (.aload_n 1, 1) := by decide +kernel
theorem dL_law_1032 : decode cL_law 1032 = .ok (.bipush 8, 2) := by decide +kernel
theorem dL_law_1034 : decode cL_law 1034 = .ok (.invokevirtual 108, 3) := by decide +kernel
theorem dL_law_1037 : decode cL_law 1037 = .ok (.aload 11, 2) := by decide +kernel
theorem dL_law_1039 : decode cL_law 1039 = .ok (.bipush 8, 2) := by decide +kernel
theorem dL_law_1041 : decode cL_law 1041 = .ok (.iaload, 1) := by decide +kernel
theorem dL_law_1042 : decode cL_law 1042 = .ok (.if_icmp .gt 51, 3) := by decide +kernel
theorem dL_law_1045 : decode cL_law 1045 = .ok (.aload 11, 2) := by decide +kernel
theorem dL_law_1047 : decode cL_law 1047 = .ok (.iconst 2, 1) := by decide +kernel
theorem dL_law_1048 : decode cL_law 1048 = .ok (.iaload, 1) := by decide +kernel
theorem dL_law_1049 : decode cL_law 1049 = .ok (.bipush (-2), 2) := by decide +kernel
theorem dL_law_1051 : decode cL_law 1051 = .ok (.if_icmp .le 8, 3) := by decide +kernel
theorem dL_law_1054 : decode cL_law 1054 = .ok (.iload 23, 2) := by decide +kernel
theorem dL_law_1056 : decode cL_law 1056 = .ok (.ifCond .gt 37, 3) := by decide +kernel
theorem dL_law_1059 : decode cL_law 1059 = .ok (.iload 23, 2) := by decide +kernel
theorem dL_law_1061 : decode cL_law 1061 = .ok (.bipush 72, 2) := by decide +kernel
theorem dL_law_1063 : decode cL_law 1063 = .ok (.aload 11, 2) := by decide +kernel
theorem dL_law_1065 : decode cL_law 1065 = .ok (.bipush 6, 2) := by decide +kernel
theorem dL_law_1067 : decode cL_law 1067 = .ok (.iaload, 1) := by decide +kernel
theorem dL_law_1068 : decode cL_law 1068 = .ok (.imul, 1) := by decide +kernel
theorem dL_law_1069 : decode cL_law 1069 = .ok (.if_icmp .gt 24, 3) := by decide +kernel
theorem dL_law_1072 : decode cL_law 1072 = .ok (.aload_n 1, 1) := by decide +kernel
theorem dL_law_1073 : decode cL_law 1073 = .ok (.iconst 4, 1) := by decide +kernel
theorem dL_law_1074 : decode cL_law 1074 = .ok (.invokevirtual 108, 3) := by decide +kernel
theorem dL_law_1077 : decode cL_law 1077 = .ok (.aload 11, 2) := by decide +kernel
theorem dL_law_1079 : decode cL_law 1079 = .ok (.iconst 4, 1) := by decide +kernel
theorem dL_law_1080 : decode cL_law 1080 = .ok (.iaload, 1) := by decide +kernel
theorem dL_law_1081 : decode cL_law 1081 = .ok (.bipush 9, 2) := by decide +kernel
theorem dL_law_1083 : decode cL_law 1083 = .ok (.aload 11, 2) := by decide +kernel
theorem dL_law_1085 : decode cL_law 1085 = .ok (.bipush 6, 2) := by decide +kernel
theorem dL_law_1087 : decode cL_law 1087 = .ok (.iaload, 1) := by decide +kernel
theorem dL_law_1088 : decode cL_law 1088 = .ok (.imul, 1) := by decide +kernel
theorem dL_law_1089 : decode cL_law 1089 = .ok (.isub, 1) := by decide +kernel
theorem dL_law_1090 : decode cL_law 1090 = .ok (.if_icmp .ge 5, 3) := by decide +kernel
theorem dL_law_1093 : decode cL_law 1093 = .ok (.iconst 0, 1) := by decide +kernel
theorem dL_law_1094 : decode cL_law 1094 = .ok (.ireturn, 1) := by decide +kernel
theorem dL_law_1095 : decode cL_law 1095 = .ok (.iconst 0, 1) := by decide +kernel
theorem dL_law_1096 : decode cL_law 1096 = .ok (.istore 24, 2) := by decide +kernel
theorem dL_law_1098 : decode cL_law 1098 = .ok (.iload 24, 2) := by decide +kernel
theorem dL_law_1100 : decode cL_law 1100 = .ok (.bipush 20, 2) := by decide +kernel
theorem dL_law_1102 : decode cL_law 1102 = .ok (.if_icmp .ge 89, 3) := by decide +kernel
theorem dL_law_1105 : decode cL_law 1105 = .ok (.aload_n 1, 1) := by decide +kernel
theorem dL_law_1106 : decode cL_law 1106 = .ok (.iload 24, 2) := by decide +kernel
theorem dL_law_1108 : decode cL_law 1108 = .ok (.iconst 0, 1) := by decide +kernel
theorem dL_law_1109 : decode cL_law 1109 = .ok (.invokevirtual 121, 3) := by decide +kernel
theorem dL_law_1112 : decode cL_law 1112 = .ok (.aload 8, 2) := by decide +kernel
theorem dL_law_1114 : decode cL_law 1114 = .ok (.iload 24, 2) := by decide +kernel
theorem dL_law_1116 : decode cL_law 1116 = .ok (.iaload, 1) := by decide +kernel
theorem dL_law_1117 : decode cL_law 1117 = .ok (.isub, 1) := by decide +kernel
theorem dL_law_1118 : decode cL_law 1118 = .ok (.istore 25, 2) := by decide +kernel
theorem dL_law_1120 : decode cL_law 1120 = .ok (.iload 25, 2) := by decide +kernel
theorem dL_law_1122 : decode cL_law 1122 = .ok (.iconst 0, 1) := by decide +kernel
theorem dL_law_1123 : decode cL_law 1123 = .ok (.iload 22, 2) := by decide +kernel
theorem dL_law_1125 : decode cL_law 1125 = .ok (.invokestatic 134, 3) := by decide +kernel
theorem dL_law_1128 : decode cL_law 1128 = .ok (.ineg, 1) := by decide +kernel
theorem dL_law_1129 : decode cL_law 1129 = .ok (.if_icmp .lt 54, 3) := by decide +kernel
theorem dL_law_1132 : decode cL_law 1132 = .ok (.iload 25, 2) := by decide +kernel
theorem dL_law_1134 : decode cL_law 1134 = .ok (.bipush 36, 2) := by decide +kernel
theorem dL_law_1136 : decode cL_law 1136 = .ok (.aload 11, 2) := by decide +kernel
theorem dL_law_1138 : decode cL_law 1138 = .ok (.bipush 6, 2) := by decide +kernel
theorem dL_law_1140 : decode cL_law 1140 = .ok (.iaload, 1) := by decide +kernel
theorem dL_law_1141 : decode cL_law 1141 = .ok (.imul, 1) := by decide +kernel
theorem dL_law_1142 : decode cL_law 1142 = .ok (.if_icmp .gt 41, 3) := by decide +kernel
theorem dL_law_1145 : decode cL_law 1145 = .ok (.aload_n 1, 1) := by decide +kernel
theorem dL_law_1146 : decode cL_law 1146 = .ok (.iload 24, 2) := by decide +kernel
theorem dL_law_1148 : decode cL_law 1148 = .ok (.iconst 1, 1) := by decide +kernel
theorem dL_law_1149 : decode cL_law 1149 = .ok (.invokevirtual 121, 3) := by decide +kernel
theorem dL_law_1152 : decode cL_law 1152 = .ok (.aload 9, 2) := by decide +kernel
theorem dL_law_1154 : decode cL_law 1154 = .ok (.iload 24, 2) := by decide +kernel
theorem dL_law_1156 : decode cL_law 1156 = .ok (.iaload, 1) := by decide +kernel
theorem dL_law_1157 : decode cL_law 1157 = .ok (.iconst 1, 1) := by decide +kernel
theorem dL_law_1158 : decode cL_law 1158 = .ok (.isub, 1) := by decide +kernel
theorem dL_law_1159 : decode cL_law 1159 = .ok (.if_icmp .lt 24, 3) := by decide +kernel
theorem dL_law_1162 : decode cL_law 1162 = .ok (.aload_n 1, 1) := by decide +kernel
theorem dL_law_1163 : decode cL_law 1163 = .ok (.iload 24, 2) := by decide +kernel
theorem dL_law_1165 : decode cL_law 1165 = .ok (.iconst 1, 1) := by decide +kernel
theorem dL_law_1166 : decode cL_law 1166 = .ok (.invokevirtual 121, 3) := by decide +kernel
theorem dL_law_1169 : decode cL_law 1169 = .ok (.aload 9, 2) := by decide +kernel
theorem dL_law_1171 : decode cL_law 1171 = .ok (.iload 24, 2) := by decide +kernel
theorem dL_law_1173 : decode cL_law 1173 = .ok (.iaload, 1) := by decide +kernel
theorem dL_law_1174 : decode cL_law 1174 = .ok (.aload 11, 2) := by decide +kernel
theorem dL_law_1176 : decode cL_law 1176 = .ok (.bipush 6, 2) := by decide +kernel
theorem dL_law_1178 : decode cL_law 1178 = .ok (.iaload, 1) := by decide +kernel
theorem dL_law_1179 : decode cL_law 1179 = .ok (.iadd, 1) := by decide +kernel
theorem dL_law_1180 : decode cL_law 1180 = .ok (.if_icmp .le 5, 3) := by decide +kernel
theorem dL_law_1183 : decode cL_law 1183 = .ok (.iconst 0, 1) := by decide +kernel
theorem dL_law_1184 : decode cL_law 1184 = .ok (.ireturn, 1) := by decide +kernel
theorem dL_law_1185 : decode cL_law 1185 = .ok (.iinc 24 1, 3) := by decide +kernel
theorem dL_law_1188 : decode cL_law 1188 = .ok (.goto (-90), 3) := by decide +kernel
theorem dL_law_1191 : decode cL_law 1191 = .ok (.iload 4, 2) := by decide +kernel
theorem dL_law_1193 : decode cL_law 1193 = .ok (.iconst 3, 1) := by decide +kernel
theorem dL_law_1194 : decode cL_law 1194 = .ok (.ishr, 1) := by decide +kernel
theorem dL_law_1195 : decode cL_law 1195 = .ok (.bipush 20, 2) := by decide +kernel
theorem dL_law_1197 : decode cL_law 1197 = .ok (.invokestatic 9, 3) := by decide +kernel
theorem dL_law_1200 : decode cL_law 1200 = .ok (.istore 24, 2) := by decide +kernel
theorem dL_law_1202 : decode cL_law 1202 = .ok (.iload 24, 2) := by decide +kernel
theorem dL_law_1204 : decode cL_law 1204 = .ok (.iload 4, 2) := by decide +kernel
theorem dL_law_1206 : decode cL_law 1206 = .ok (.bipush 8, 2) := by decide +kernel
theorem dL_law_1208 : decode cL_law 1208 = .ok (.ishr, 1) := by decide +kernel
theorem dL_law_1209 : decode cL_law 1209 = .ok (.bipush 20, 2) := by decide +kernel
theorem dL_law_1211 : decode cL_law 1211 = .ok (.iload 24, 2) := by decide +kernel
theorem dL_law_1213 : decode cL_law 1213 = .ok (.isub, 1) := by decide +kernel
theorem dL_law_1214 : decode cL_law 1214 = .ok (.invokestatic 9, 3) := by decide +kernel
theorem dL_law_1217 : decode cL_law 1217 = .ok (.iadd, 1) := by decide +kernel
theorem dL_law_1218 : decode cL_law 1218 = .ok (.istore 25, 2) := by decide +kernel
theorem dL_law_1220 : decode cL_law 1220 = .ok (.iload_n 3, 1) := by decide +kernel
theorem dL_law_1221 : decode cL_law 1221 = .ok (.iconst 5, 1) := by decide +kernel
theorem dL_law_1222 : decode cL_law 1222 = .ok (.irem, 1) := by decide +kernel
theorem dL_law_1223 : decode cL_law 1223 = .ok (.ifCond .le 6, 3) := by decide +kernel
theorem dL_law_1226 : decode cL_law 1226 = .ok (.goto 230, 3) := by decide +kernel
theorem dL_law_1229 : decode cL_law 1229 = .ok (.iconst 0, 1) := by decide +kernel
theorem dL_law_1230 : decode cL_law 1230 = .ok (.istore 26, 2) := by decide +kernel
theorem dL_law_1232 : decode cL_law 1232 = .ok (.iload 24, 2) := by decide +kernel
theorem dL_law_1234 : decode cL_law 1234 = .ok (.istore 27, 2) := by decide +kernel
theorem dL_law_1236 : decode cL_law 1236 = .ok (.iload 27, 2) := by decide +kernel
theorem dL_law_1238 : decode cL_law 1238 = .ok (.iload 25, 2) := by decide +kernel
theorem dL_law_1240 : decode cL_law 1240 = .ok (.if_icmp .gt 21, 3) := by decide +kernel
theorem dL_law_1243 : decode cL_law 1243 = .ok (.iload 26, 2) := by decide +kernel
theorem dL_law_1245 : decode cL_law 1245 = .ok (.aload_n 1, 1) := by decide +kernel
theorem dL_law_1246 : decode cL_law 1246 = .ok (.iload 27, 2) := by decide +kernel
theorem dL_law_1248 : decode cL_law 1248 = .ok (.iconst 0, 1) := by decide +kernel
theorem dL_law_1249 : decode cL_law 1249 = .ok (.invokevirtual 121, 3) := by decide +kernel
theorem dL_law_1252 : decode cL_law 1252 = .ok (.iadd, 1) := by decide +kernel
theorem dL_law_1253 : decode cL_law 1253 = .ok (.istore 26, 2) := by decide +kernel
theorem dL_law_1255 : decode cL_law 1255 = .ok (.iinc 27 1, 3) := by decide +kernel
theorem dL_law_1258 : decode cL_law 1258 = .ok (.goto (-22), 3) := by decide +kernel
theorem dL_law_1261 : decode cL_law 1261 = .ok (.aload_n 1, 1) := by decide +kernel
theorem dL_law_1262 : decode cL_law 1262 = .ok (.bipush 7, 2) := by decide +kernel
theorem dL_law_1264 : decode cL_law 1264 = .ok (.invokevirtual 108, 3) := by decide +kernel
theorem dL_law_1267 : decode cL_law 1267 = .ok (.istore 27, 2) := by decide +kernel
theorem dL_law_1269 : decode cL_law 1269 = .ok (.aload_n 1, 1) := by decide +kernel
theorem dL_law_1270 : decode cL_law 1270 = .ok (.iload 24, 2) := by decide +kernel
theorem dL_law_1272 : decode cL_law 1272 = .ok (.iload 25, 2) := by decide +kernel
theorem dL_law_1274 : decode cL_law 1274 = .ok (.invokevirtual 69, 3) := by decide +kernel
theorem dL_law_1277 : decode cL_law 1277 = .ok (.iload 26, 2) := by decide +kernel
theorem dL_law_1279 : decode cL_law 1279 = .ok (.if_icmp .ne 14, 3) := by decide +kernel
theorem dL_law_1282 : decode cL_law 1282 = .ok (.aload_n 1, 1) := by decide +kernel
theorem dL_law_1283 : decode cL_law 1283 = .ok (.bipush 7, 2) := by decide +kernel
theorem dL_law_1285 : decode cL_law 1285 = .ok (.invokevirtual 108, 3) := by decide +kernel
theorem dL_law_1288 : decode cL_law 1288 = .ok (.iload 27, 2) := by decide +kernel
theorem dL_law_1290 : decode cL_law 1290 = .ok (.if_icmp .eq 5, 3) := by decide +kernel
theorem dL_law_1293 : decode cL_law 1293 = .ok (.iconst 0, 1) := by decide +kernel
theorem dL_law_1294 : decode cL_law 1294 = .ok (.ireturn, 1) := by decide +kernel
theorem dL_law_1295 : decode cL_law 1295 = .ok (.iload 24, 2) := by decide +kernel
theorem dL_law_1297 : decode cL_law 1297 = .ok (.istore 28, 2) := by decide +kernel
theorem dL_law_1299 : decode cL_law 1299 = .ok (.iload 28, 2) := by decide +kernel
theorem dL_law_1301 : decode cL_law 1301 = .ok (.iload 25, 2) := by decide +kernel
theorem dL_law_1303 : decode cL_law 1303 = .ok (.if_icmp .gt 83, 3) := by decide +kernel
theorem dL_law_1306 : decode cL_law 1306 = .ok (.aload_n 1, 1) := by decide +kernel
theorem dL_law_1307 : decode cL_law 1307 = .ok (.iload 28, 2) := by decide +kernel
theorem dL_law_1309 : decode cL_law 1309 = .ok (.iconst 1, 1) := by decide +kernel
theorem dL_law_1310 : decode cL_law 1310 = .ok (.invokevirtual 121, 3) := by decide +kernel
theorem dL_law_1313 : decode cL_law 1313 = .ok (.ifCond .ne 65, 3) := by decide +kernel
theorem dL_law_1316 : decode cL_law 1316 = .ok (.aload_n 1, 1) := by decide +kernel
theorem dL_law_1317 : decode cL_law 1317 = .ok (.iload 28, 2) := by decide +kernel
theorem dL_law_1319 : decode cL_law 1319 = .ok (.iconst 0, 1) := by decide +kernel
theorem dL_law_1320 : decode cL_law 1320 = .ok (.invokevirtual 121, 3) := by decide +kernel
theorem dL_law_1323 : decode cL_law 1323 = .ok (.aload_n 1, 1) := by decide +kernel
theorem dL_law_1324 : decode cL_law 1324 = .ok (.iload 24, 2) := by decide +kernel
theorem dL_law_1326 : decode cL_law 1326 = .ok (.iconst 0, 1) := by decide +kernel
theorem dL_law_1327 : decode cL_law 1327 = .ok (.invokevirtual 121, 3) := by decide +kernel
theorem dL_law_1330 : decode cL_law 1330 = .ok (.if_icmp .gt 48, 3) := by decide +kernel
theorem dL_law_1333 : decode cL_law 1333 = .ok (.aload_n 1, 1) := by decide +kernel
theorem dL_law_1334 : decode cL_law 1334 = .ok (.iload 28, 2) := by decide +kernel
theorem dL_law_1336 : decode cL_law 1336 = .ok (.iconst 0, 1) := by decide +kernel
theorem dL_law_1337 : decode cL_law 1337 = .ok (.invokevirtual 121, 3) := by decide +kernel
theorem dL_law_1340 : decode cL_law 1340 = .ok (.aload_n 1, 1) := by decide +kernel
theorem dL_law_1341 : decode cL_law 1341 = .ok (.iload 24, 2) := by decide +kernel
theorem dL_law_1343 : decode cL_law 1343 = .ok (.iconst 0, 1) := by decide +kernel
theorem dL_law_1344 : decode cL_law 1344 = .ok (.invokevirtual 121, 3) := by decide +kernel
theorem dL_law_1347 : decode cL_law 1347 = .ok (.iconst 1, 1) := by decide +kernel
theorem dL_law_1348 : decode cL_law 1348 = .ok (.isub, 1) := by decide +kernel
theorem dL_law_1349 : decode cL_law 1349 = .ok (.if_icmp .lt 29, 3) := by decide +kernel
theorem dL_law_1352 : decode cL_law 1352 = .ok (.iload 28, 2) := by decide +kernel
theorem dL_law_1354 : decode cL_law 1354 = .ok (.iload 24, 2) := by decide +kernel
theorem dL_law_1356 : decode cL_law 1356 = .ok (.if_icmp .le 24, 3) := by decide +kernel
theorem dL_law_1359 : decode cL_law 1359 = .ok (.aload_n 1, 1) := by decide +kernel
theorem dL_law_1360 : decode cL_law 1360 = .ok (.iload 28, 2) := by decide +kernel
theorem dL_law_1362 : decode cL_law 1362 = .ok (.iconst 0, 1) := by decide +kernel
theorem dL_law_1363 : decode cL_law 1363 = .ok (.invokevirtual 121, 3) := by decide +kernel
theorem dL_law_1366 : decode cL_law 1366 = .ok (.aload_n 1, 1) := by decide +kernel
theorem dL_law_1367 : decode cL_law 1367 = .ok (.iload 28, 2) := by decide +kernel
theorem dL_law_1369 : decode cL_law 1369 = .ok (.iconst 1, 1) := by decide +kernel
theorem dL_law_1370 : decode cL_law 1370 = .ok (.isub, 1) := by decide +kernel
theorem dL_law_1371 : decode cL_law 1371 = .ok (.iconst 0, 1) := by decide +kernel
theorem dL_law_1372 : decode cL_law 1372 = .ok (.invokevirtual 121, 3) := by decide +kernel
theorem dL_law_1375 : decode cL_law 1375 = .ok (.if_icmp .le 5, 3) := by decide +kernel
theorem dL_law_1378 : decode cL_law 1378 = .ok (.iconst 0, 1) := by decide +kernel
theorem dL_law_1379 : decode cL_law 1379 = .ok (.ireturn, 1) := by decide +kernel
theorem dL_law_1380 : decode cL_law 1380 = .ok (.iinc 28 1, 3) := by decide +kernel
theorem dL_law_1383 : decode cL_law 1383 = .ok (.goto (-84), 3) := by decide +kernel
theorem dL_law_1386 : decode cL_law 1386 = .ok (.aload_n 1, 1) := by decide +kernel
theorem dL_law_1387 : decode cL_law 1387 = .ok (.invokevirtual 127, 3) := by decide +kernel
theorem dL_law_1390 : decode cL_law 1390 = .ok (.lstore 12, 2) := by decide +kernel
theorem dL_law_1392 : decode cL_law 1392 = .ok (.aload_n 1, 1) := by decide +kernel
theorem dL_law_1393 : decode cL_law 1393 = .ok (.iload 24, 2) := by decide +kernel
theorem dL_law_1395 : decode cL_law 1395 = .ok (.iload 25, 2) := by decide +kernel
theorem dL_law_1397 : decode cL_law 1397 = .ok (.invokevirtual 69, 3) := by decide +kernel
theorem dL_law_1400 : decode cL_law 1400 = .ok (.iload 26, 2) := by decide +kernel
theorem dL_law_1402 : decode cL_law 1402 = .ok (.if_icmp .ne 13, 3) := by decide +kernel
theorem dL_law_1405 : decode cL_law 1405 = .ok (.aload_n 1, 1) := by decide +kernel
theorem dL_law_1406 : decode cL_law 1406 = .ok (.invokevirtual 127, 3) := by decide +kernel
theorem dL_law_1409 : decode cL_law 1409 = .ok (.lload 12, 2) := by decide +kernel
theorem dL_law_1411 : decode cL_law 1411 = .ok (.lcmp, 1) := by decide +kernel
theorem dL_law_1412 : decode cL_law 1412 = .ok (.ifCond .eq 5, 3) := by decide +kernel
theorem dL_law_1415 : decode cL_law 1415 = .ok (.iconst 0, 1) := by decide +kernel
theorem dL_law_1416 : decode cL_law 1416 = .ok (.ireturn, 1) := by decide +kernel
theorem dL_law_1417 : decode cL_law 1417 = .ok (.iload 24, 2) := by decide +kernel
theorem dL_law_1419 : decode cL_law 1419 = .ok (.istore 28, 2) := by decide +kernel
theorem dL_law_1421 : decode cL_law 1421 = .ok (.iload 28, 2) := by decide +kernel
theorem dL_law_1423 : decode cL_law 1423 = .ok (.iload 25, 2) := by decide +kernel
theorem dL_law_1425 : decode cL_law 1425 = .ok (.if_icmp .gt 31, 3) := by decide +kernel
theorem dL_law_1428 : decode cL_law 1428 = .ok (.aload_n 2, 1) := by decide +kernel
theorem dL_law_1429 : decode cL_law 1429 = .ok (.getfield 62, 3) := by decide +kernel
theorem dL_law_1432 : decode cL_law 1432 = .ok (.iload 28, 2) := by decide +kernel
theorem dL_law_1434 : decode cL_law 1434 = .ok (.aload_n 1, 1) := by decide +kernel
theorem dL_law_1435 : decode cL_law 1435 = .ok (.iload 28, 2) := by decide +kernel
theorem dL_law_1437 : decode cL_law 1437 = .ok (.iconst 0, 1) := by decide +kernel
theorem dL_law_1438 : decode cL_law 1438 = .ok (.invokevirtual 121, 3) := by decide +kernel
theorem dL_law_1441 : decode cL_law 1441 = .ok (.iastore, 1) := by decide +kernel
theorem dL_law_1442 : decode cL_law 1442 = .ok (.aload_n 2, 1) := by decide +kernel
theorem dL_law_1443 : decode cL_law 1443 = .ok (.getfield 66, 3) := by decide +kernel
theorem dL_law_1446 : decode cL_law 1446 = .ok (.iload 28, 2) := by decide +kernel
theorem dL_law_1448 : decode cL_law 1448 = .ok (.iconst 0, 1) := by decide +kernel
theorem dL_law_1449 : decode cL_law 1449 = .ok (.iastore, 1) := by decide +kernel
theorem dL_law_1450 : decode cL_law 1450 = .ok (.iinc 28 1, 3) := by decide +kernel
theorem dL_law_1453 : decode cL_law 1453 = .ok (.goto (-32), 3) := by decide +kernel
theorem dL_law_1456 : decode cL_law 1456 = .ok (.iinc 3 1, 3) := by decide +kernel
theorem dL_law_1459 : decode cL_law 1459 = .ok (.goto (-1437), 3) := by decide +kernel
theorem dL_law_1462 : decode cL_law 1462 = .ok (.aload_n 2, 1) := by decide +kernel
theorem dL_law_1463 : decode cL_law 1463 = .ok (.aload_n 1, 1) := by decide +kernel
theorem dL_law_1464 : decode cL_law 1464 = .ok (.invokevirtual 146, 3) := by decide +kernel
theorem dL_law_1467 : decode cL_law 1467 = .ok (.ireturn, 1) := by decide +kernel
abbrev vwCl : List vw_C := [(RX0, TX0, 7), (RX1, TX1, 6), (RX2, TX2, 1), (RX3, TX3, 3), (RX4, TX4, 3), (RX5, TX5, 6), (RX6, TX6, 10)]
/-! ===== END printed: names ===== -/

