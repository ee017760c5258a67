theorem dX6_checkRibbon_14 : decode cX6_checkRibbon 14 = .ok (.dup, 1) := by decide +kernel
theorem dX6_checkRibbon_15 : decode cX6_checkRibbon 15 = .ok (.ldc_w 333, 3) := by decide +kernel
theorem dX6_checkRibbon_18 : decode cX6_checkRibbon 18 = .ok (.invokespecial 138, 3) := by decide +kernel
theorem dX6_checkRibbon_21 : decode cX6_checkRibbon 21 = .ok (.athrow, 1) := by decide +kernel
theorem dX6_checkRibbon_22 : decode cX6_checkRibbon 22 = .ok (.return_, 1) := by decide +kernel
theorem dJ9_abs_0f7a4_0 : decode cJ9_abs_0f7a4 0 = .ok (.iload_n 0, 1) := by decide +kernel
theorem dJ9_abs_0f7a4_1 : decode cJ9_abs_0f7a4 1 = .ok (.ifCond .ge 8, 3) := by decide +kernel
theorem dJ9_abs_0f7a4_4 : decode cJ9_abs_0f7a4 4 = .ok (.iload_n 0, 1) := by decide +kernel
theorem dJ9_abs_0f7a4_5 : decode cJ9_abs_0f7a4 5 = .ok (.ineg, 1) := by decide +kernel
theorem dJ9_abs_0f7a4_6 : decode cJ9_abs_0f7a4 6 = .ok (.goto 4, 3) := by decide +kernel
theorem dJ9_abs_0f7a4_9 : decode cJ9_abs_0f7a4 9 = .ok (.iload_n 0, 1) := by decide +kernel
theorem dJ9_abs_0f7a4_10 : decode cJ9_abs_0f7a4 10 = .ok (.ireturn, 1) := by decide +kernel
theorem dJ9_max_7cf53_0 : decode cJ9_max_7cf53 0 = .ok (.iload_n 0, 1) := by decide +kernel
theorem dJ9_max_7cf53_1 : decode cJ9_max_7cf53 1 = .ok (.iload_n 1, 1) := by decide +kernel
theorem dJ9_max_7cf53_2 : decode cJ9_max_7cf53 2 = .ok (.if_icmp .lt 7, 3) := by decide +kernel
theorem dJ9_max_7cf53_5 : decode cJ9_max_7cf53 5 = .ok (.iload_n 0, 1) := by decide +kernel
theorem dJ9_max_7cf53_6 : decode cJ9_max_7cf53 6 = .ok (.goto 4, 3) := by decide +kernel
theorem dJ9_max_7cf53_9 : decode cJ9_max_7cf53 9 = .ok (.iload_n 1, 1) := by decide +kernel
theorem dJ9_max_7cf53_10 : decode cJ9_max_7cf53 10 = .ok (.ireturn, 1) := by decide +kernel
theorem dJ9_min_7cf53_0 : decode cJ9_min_7cf53 0 = .ok (.iload_n 0, 1) := by decide +kernel
theorem dJ9_min_7cf53_1 : decode cJ9_min_7cf53 1 = .ok (.iload_n 1, 1) := by decide +kernel
theorem dJ9_min_7cf53_2 : decode cJ9_min_7cf53 2 = .ok (.if_icmp .gt 7, 3) := by decide +kernel
theorem dJ9_min_7cf53_5 : decode cJ9_min_7cf53 5 = .ok (.iload_n 0, 1) := by decide +kernel
theorem dJ9_min_7cf53_6 : decode cJ9_min_7cf53 6 = .ok (.goto 4, 3) := by decide +kernel
theorem dJ9_min_7cf53_9 : decode cJ9_min_7cf53 9 = .ok (.iload_n 1, 1) := by decide +kernel
theorem dJ9_min_7cf53_10 : decode cJ9_min_7cf53 10 = .ok (.ireturn, 1) := by decide +kernel
theorem dJ7_fill_53178_0 : decode cJ7_fill_53178 0 = .ok (.iconst 0, 1) := by decide +kernel
theorem dJ7_fill_53178_1 : decode cJ7_fill_53178 1 = .ok (.istore_n 2, 1) := by decide +kernel
theorem dJ7_fill_53178_2 : decode cJ7_fill_53178 2 = .ok (.aload_n 0, 1) := by decide +kernel
theorem dJ7_fill_53178_3 : decode cJ7_fill_53178 3 = .ok (.arraylength, 1) := by decide +kernel
theorem dJ7_fill_53178_4 : decode cJ7_fill_53178 4 = .ok (.istore_n 3, 1) := by decide +kernel
theorem dJ7_fill_53178_5 : decode cJ7_fill_53178 5 = .ok (.iload_n 2, 1) := by decide +kernel
theorem dJ7_fill_53178_6 : decode cJ7_fill_53178 6 = .ok (.iload_n 3, 1) := by decide +kernel
theorem dJ7_fill_53178_7 : decode cJ7_fill_53178 7 = .ok (.if_icmp .ge 13, 3) := by decide +kernel
theorem dJ7_fill_53178_10 : decode cJ7_fill_53178 10 = .ok (.aload_n 0, 1) := by decide +kernel
theorem dJ7_fill_53178_11 : decode cJ7_fill_53178 11 = .ok (.iload_n 2, 1) := by decide +kernel
theorem dJ7_fill_53178_12 : decode cJ7_fill_53178 12 = .ok (.iload_n 1, 1) := by decide +kernel
theorem dJ7_fill_53178_13 : decode cJ7_fill_53178 13 = .ok (.iastore, 1) := by decide +kernel
theorem dJ7_fill_53178_14 : decode cJ7_fill_53178 14 = .ok (.iinc 2 1, 3) := by decide +kernel
theorem dJ7_fill_53178_17 : decode cJ7_fill_53178 17 = .ok (.goto (-12), 3) := by decide +kernel
theorem dJ7_fill_53178_20 : decode cJ7_fill_53178 20 = .ok (.return_, 1) := by decide +kernel
theorem dL_cell_0 : decode cL_cell 0 = .ok (.iload_n 1, 1) := by decide +kernel
theorem dL_cell_1 : decode cL_cell 1 = .ok (.aload_n 0, 1) := by decide +kernel
theorem dL_cell_2 : decode cL_cell 2 = .ok (.arraylength, 1) := by decide +kernel
theorem dL_cell_3 : decode cL_cell 3 = .ok (.if_icmp .ge 9, 3) := by decide +kernel
theorem dL_cell_6 : decode cL_cell 6 = .ok (.aload_n 0, 1) := by decide +kernel
theorem dL_cell_7 : decode cL_cell 7 = .ok (.iload_n 1, 1) := by decide +kernel
theorem dL_cell_8 : decode cL_cell 8 = .ok (.iaload, 1) := by decide +kernel
theorem dL_cell_9 : decode cL_cell 9 = .ok (.goto 9, 3) := by decide +kernel
theorem dL_cell_12 : decode cL_cell 12 = .ok (.ldc 7, 2) := by decide +kernel
theorem dL_cell_14 : decode cL_cell 14 = .ok (.iload_n 1, 1) := by decide +kernel
theorem dL_cell_15 : decode cL_cell 15 = .ok (.iconst 1, 1) := by decide +kernel
theorem dL_cell_16 : decode cL_cell 16 = .ok (.iadd, 1) := by decide +kernel
theorem dL_cell_17 : decode cL_cell 17 = .ok (.imul, 1) := by decide +kernel
theorem dL_cell_18 : decode cL_cell 18 = .ok (.ireturn, 1) := by decide +kernel
theorem dL_low_0 : decode cL_low 0 = .ok (.iload_n 0, 1) := by decide +kernel
theorem dL_low_1 : decode cL_low 1 = .ok (.ldc 8, 2) := by decide +kernel
theorem dL_low_3 : decode cL_low 3 = .ok (.iand, 1) := by decide +kernel
theorem dL_low_4 : decode cL_low 4 = .ok (.iload_n 1, 1) := by decide +kernel
theorem dL_low_5 : decode cL_low 5 = .ok (.irem, 1) := by decide +kernel
theorem dL_low_6 : decode cL_low 6 = .ok (.ireturn, 1) := by decide +kernel
set_option maxRecDepth 20000 in
theorem ggL_ribbon_X6_ribbon : GoodIn wsL_ribbon wsX6_ribbon := goodIn_ca (goodIn_ca (goodIn_ca (goodIn_r _ [8, 9, 10, 11, 12, 13, 14, 15, 16, 7, 17, 18, 19, 20, 21, 22, 23, 24, 25, 26, 27, 28, 29, 30, 31, 32, 33, 34, 35, 36, 37, 38, 39, 40, 41, 42, 43, 44, 45, 46, 47, 48, 49, 50, 51, 52, 53, 54, 55, 56, 57, 58, 59, 60, 61, 62, 63, 64, 65, 66, 67, 68, 69, 70, 71, 72, 73, 74, 75, 76, 77, 78] (by decide +kernel) (by decide +kernel)) (goodIn_sub (fun _ h => List.mem_cons_of_mem _ (List.mem_append_left _ (List.mem_append_left _ (List.mem_append_right _ h)))) (by decide +kernel))) (goodIn_sub (fun _ h => List.mem_cons_of_mem _ (List.mem_append_left _ (List.mem_append_right _ h))) (by decide +kernel))) (goodIn_sub (fun _ h => List.mem_cons_of_mem _ (List.mem_append_right _ h)) (by decide +kernel))
set_option maxRecDepth 20000 in
theorem gL_ribbon_X6_ribbon : GoodIn wsL_ribbon (wsV RL 9 RX6 yX6_ribbon wsX6_ribbon) := goodIn_app (goodIn_of _ (by decide +kernel)) ggL_ribbon_X6_ribbon
theorem dL_ribbon_0 : decode cL_ribbon 0 = .ok (.aload_n 0, 1) := by decide +kernel
theorem dL_ribbon_1 : decode cL_ribbon 1 = .ok (.iload_n 1, 1) := by decide +kernel
theorem dL_ribbon_2 : decode cL_ribbon 2 = .ok (.iload_n 2, 1) := by decide +kernel
theorem dL_ribbon_3 : decode cL_ribbon 3 = .ok (.iload_n 3, 1) := by decide +kernel
theorem dL_ribbon_4 : decode cL_ribbon 4 = .ok (.invokevirtual 9, 3) := by decide +kernel
theorem dL_ribbon_7 : decode cL_ribbon 7 = .ok (.istore 4, 2) := by decide +kernel
theorem dL_ribbon_9 : decode cL_ribbon 9 = .ok (.goto 18, 3) := by decide +kernel
theorem dL_ribbon_12 : decode cL_ribbon 12 = .ok (.astore 5, 2) := by decide +kernel
theorem dL_ribbon_14 : decode cL_ribbon 14 = .ok (.bipush (-31), 2) := by decide +kernel
theorem dL_ribbon_16 : decode cL_ribbon 16 = .ok (.ireturn, 1) := by decide +kernel
theorem dL_ribbon_17 : decode cL_ribbon 17 = .ok (.astore 5, 2) := by decide +kernel
theorem dL_ribbon_19 : decode cL_ribbon 19 = .ok (.bipush (-32), 2) := by decide +kernel
theorem dL_ribbon_21 : decode cL_ribbon 21 = .ok (.ireturn, 1) := by decide +kernel
theorem dL_ribbon_22 : decode cL_ribbon 22 = .ok (.astore 5, 2) := by decide +kernel
theorem dL_ribbon_24 : decode cL_ribbon 24 = .ok (.bipush (-33), 2) := by decide +kernel
theorem dL_ribbon_26 : decode cL_ribbon 26 = .ok (.ireturn, 1) := by decide +kernel
theorem dL_ribbon_27 : decode cL_ribbon 27 = .ok (.iload 4, 2) := by decide +kernel
theorem dL_ribbon_29 : decode cL_ribbon 29 = .ok (.ireturn, 1) := by decide +kernel
set_option maxRecDepth 20000 in
theorem ggL_widen_X6_widen : GoodIn wsL_widen wsX6_widen := goodIn_ca (goodIn_ca (goodIn_r _ [7, 8, 9, 10, 11, 12, 13, 14, 6, 15, 16, 17, 18, 19, 20, 21, 22, 23, 24, 25, 26, 27, 28, 29, 30, 31, 32, 33, 34, 35, 36, 37, 38, 39, 40, 41, 42, 43, 44, 45, 46, 47, 48, 49, 50, 51, 52, 53, 54, 55, 56, 57, 58, 59, 60, 61, 62, 63, 64, 65, 66, 67, 68, 69, 70, 71, 72, 73, 74, 75, 76, 77, 78, 79] (by decide +kernel) (by decide +kernel)) (goodIn_sub (fun _ h => List.mem_cons_of_mem _ (List.mem_append_left _ (List.mem_append_right _ h))) (by decide +kernel))) (goodIn_sub (fun _ h => List.mem_cons_of_mem _ (List.mem_append_right _ h)) (by decide +kernel))
set_option maxRecDepth 20000 in
theorem gL_widen_X6_widen : GoodIn wsL_widen (wsV RL 21 RX6 yX6_widen wsX6_widen) := goodIn_app (goodIn_of _ (by decide +kernel)) ggL_widen_X6_widen
theorem dL_widen_0 : decode cL_widen 0 = .ok (.aload_n 0, 1) := by decide +kernel
theorem dL_widen_1 : decode cL_widen 1 = .ok (.iload_n 1, 1) := by decide +kernel
theorem dL_widen_2 : decode cL_widen 2 = .ok (.iload_n 2, 1) := by decide +kernel
theorem dL_widen_3 : decode cL_widen 3 = .ok (.invokevirtual 21, 3) := by decide +kernel
theorem dL_widen_6 : decode cL_widen 6 = .ok (.istore_n 3, 1) := by decide +kernel
theorem dL_widen_7 : decode cL_widen 7 = .ok (.goto 13, 3) := by decide +kernel
theorem dL_widen_10 : decode cL_widen 10 = .ok (.astore 4, 2) := by decide +kernel
theorem dL_widen_12 : decode cL_widen 12 = .ok (.bipush (-31), 2) := by decide +kernel
theorem dL_widen_14 : decode cL_widen 14 = .ok (.ireturn, 1) := by decide +kernel
theorem dL_widen_15 : decode cL_widen 15 = .ok (.astore 4, 2) := by decide +kernel
theorem dL_widen_17 : decode cL_widen 17 = .ok (.bipush (-32), 2) := by decide +kernel
theorem dL_widen_19 : decode cL_widen 19 = .ok (.ireturn, 1) := by decide +kernel
theorem dL_widen_20 : decode cL_widen 20 = .ok (.iload_n 3, 1) := by decide +kernel
theorem dL_widen_21 : decode cL_widen 21 = .ok (.ireturn, 1) := by decide +kernel
set_option maxRecDepth 20000 in
theorem ggL_remove_X6_remove : GoodIn wsL_remove wsX6_remove := goodIn_ca (goodIn_r _ [6, 7, 8, 9, 10, 11, 5, 12, 13, 14, 15, 16, 17, 18, 19, 20, 21, 22, 23, 24, 25, 26, 27, 28, 29, 30, 31, 32, 33, 34, 35, 36, 37, 38, 39, 40, 41, 42, 43, 44, 45, 46, 47, 48, 49, 50, 51, 52, 53, 54, 55, 56, 57, 58, 59, 60, 61, 62, 63, 64, 65, 66, 67, 68, 69, 70, 71, 72, 73, 74, 75, 76] (by decide +kernel) (by decide +kernel)) (goodIn_sub (fun _ h => List.mem_cons_of_mem _ (List.mem_append_right _ h)) (by decide +kernel))
set_option maxRecDepth 20000 in
theorem gL_remove_X6_remove : GoodIn wsL_remove (wsV RL 25 RX6 yX6_remove wsX6_remove) := goodIn_app (goodIn_of _ (by decide +kernel)) ggL_remove_X6_remove
theorem dL_remove_0 : decode cL_remove 0 = .ok (.aload_n 0, 1) := by decide +kernel
theorem dL_remove_1 : decode cL_remove 1 = .ok (.iload_n 1, 1) := by decide +kernel
theorem dL_remove_2 : decode cL_remove 2 = .ok (.invokevirtual 25, 3) := by decide +kernel
theorem dL_remove_5 : decode cL_remove 5 = .ok (.istore_n 2, 1) := by decide +kernel
theorem dL_remove_6 : decode cL_remove 6 = .ok (.goto 7, 3) := by decide +kernel
theorem dL_remove_9 : decode cL_remove 9 = .ok (.astore_n 3, 1) := by decide +kernel
theorem dL_remove_10 : decode cL_remove 10 = .ok (.bipush (-31), 2) := by decide +kernel
theorem dL_remove_12 : decode cL_remove 12 = .ok (.ireturn, 1) := by decide +kernel
theorem dL_remove_13 : decode cL_remove 13 = .ok (.iload_n 2, 1) := by decide +kernel
theorem dL_remove_14 : decode cL_remove 14 = .ok (.ireturn, 1) := by decide +kernel
set_option maxRecDepth 20000 in
theorem ggL_swap_X6_swap : GoodIn wsL_swap wsX6_swap := goodIn_ca (goodIn_ca (goodIn_r _ [7, 8, 9, 10, 11, 6, 12, 13, 14, 15, 16, 17, 18, 19, 20, 21, 22, 23, 24, 25, 26, 27, 28, 29, 30, 31, 32, 33, 34, 35, 36, 37, 38, 39, 40, 41, 42, 43, 44, 45, 46, 47, 48, 49, 50, 51, 52, 53, 54, 55, 56, 57, 58, 59, 60, 61, 62, 63, 64, 65, 66, 67, 68, 69, 70, 71, 72, 73, 74, 75, 76, 77, 78, 79, 80, 81, 82, 83, 84, 85, 86, 87, 88, 89, 90, 91, 92, 93, 94, 95, 96, 97, 98, 99, 100, 101, 102, 103, 104, 105, 106, 107, 108, 109, 110, 111, 112, 113, 114] (by decide +kernel) (by decide +kernel)) (goodIn_sub (fun _ h => List.mem_cons_of_mem _ (List.mem_append_left _ (List.mem_append_right _ h))) (by decide +kernel))) (goodIn_sub (fun _ h => List.mem_cons_of_mem _ (List.mem_append_right _ h)) (by decide +kernel))
set_option maxRecDepth 20000 in
theorem gL_swap_X6_swap : GoodIn wsL_swap (wsV RL 29 RX6 yX6_swap wsX6_swap) := goodIn_app (goodIn_of _ (by decide +kernel)) ggL_swap_X6_swap
theorem dL_swap_0 : decode cL_swap 0 = .ok (.aload_n 0, 1) := by decide +kernel
theorem dL_swap_1 : decode cL_swap 1 = .ok (.iload_n 1, 1) := by decide +kernel
theorem dL_swap_2 : decode cL_swap 2 = .ok (.iload_n 2, 1) := by decide +kernel
theorem dL_swap_3 : decode cL_swap 3 = .ok (.invokevirtual 29, 3) := by decide +kernel
theorem dL_swap_6 : decode cL_swap 6 = .ok (.istore_n 3, 1) := by decide +kernel
theorem dL_swap_7 : decode cL_swap 7 = .ok (.goto 13, 3) := by decide +kernel
theorem dL_swap_10 : decode cL_swap 10 = .ok (.astore 4, 2) := by decide +kernel
theorem dL_swap_12 : decode cL_swap 12 = .ok (.bipush (-31), 2) := by decide +kernel
theorem dL_swap_14 : decode cL_swap 14 = .ok (.ireturn, 1) := by decide +kernel
theorem dL_swap_15 : decode cL_swap 15 = .ok (.astore 4, 2) := by decide +kernel
theorem dL_swap_17 : decode cL_swap 17 = .ok (.bipush (-32), 2) := by decide +kernel
theorem dL_swap_19 : decode cL_swap 19 = .ok (.ireturn, 1) := by decide +kernel
theorem dL_swap_20 : decode cL_swap 20 = .ok (.iload_n 3, 1) := by decide +kernel
theorem dL_swap_21 : decode cL_swap 21 = .ok (.ireturn, 1) := by decide +kernel
set_option maxRecDepth 20000 in
theorem ggL_order_X6_order : GoodIn wsL_order wsX6_order := goodIn_ca (goodIn_r _ [6, 7, 8, 9, 10, 11, 5, 12, 13, 14, 15, 16, 17, 18, 19, 20, 21, 22, 23, 24, 25, 26, 27, 28, 29, 30, 31, 32, 33, 34, 35, 36, 37, 38, 39, 40, 41, 42, 43, 44, 45, 46, 47, 48, 49, 50, 51, 52, 53, 54, 55, 56, 57, 58, 59, 60, 61, 62, 63, 64, 65, 66, 67, 68, 69, 70, 71, 72, 73, 74, 75, 76, 77, 78, 79, 80, 81, 82, 83, 84, 85, 86, 87, 88, 89, 90, 91, 92, 93, 94, 95, 96, 97, 98, 99, 100, 101, 102, 103, 104, 105, 106, 107, 108, 109, 110, 111, 112, 113, 114, 115, 116, 117, 118, 119, 120, 121, 122, 123, 124, 125, 126, 127, 128, 129, 130, 131, 132, 133, 134, 135, 136, 137, 138, 139, 140, 141, 142, 143, 144, 145, 146, 147, 148, 149, 150, 151] (by decide +kernel) (by decide +kernel)) (goodIn_sub (fun _ h => List.mem_cons_of_mem _ (List.mem_append_right _ h)) (by decide +kernel))
set_option maxRecDepth 20000 in
theorem gL_order_X6_order : GoodIn wsL_order (wsV RL 32 RX6 yX6_order wsX6_order) := goodIn_app (goodIn_of _ (by decide +kernel)) ggL_order_X6_order
theorem dL_order_0 : decode cL_order 0 = .ok (.aload_n 0, 1) := by decide +kernel
theorem dL_order_1 : decode cL_order 1 = .ok (.iload_n 1, 1) := by decide +kernel
theorem dL_order_2 : decode cL_order 2 = .ok (.invokevirtual 32, 3) := by decide +kernel
theorem dL_order_5 : decode cL_order 5 = .ok (.istore_n 2, 1) := by decide +kernel
theorem dL_order_6 : decode cL_order 6 = .ok (.goto 7, 3) := by decide +kernel
theorem dL_order_9 : decode cL_order 9 = .ok (.astore_n 3, 1) := by decide +kernel
theorem dL_order_10 : decode cL_order 10 = .ok (.bipush (-31), 2) := by decide +kernel
theorem dL_order_12 : decode cL_order 12 = .ok (.ireturn, 1) := by decide +kernel
theorem dL_order_13 : decode cL_order 13 = .ok (.iload_n 2, 1) := by decide +kernel
theorem dL_order_14 : decode cL_order 14 = .ok (.ireturn, 1) := by decide +kernel
set_option maxRecDepth 20000 in
theorem ggL_trim_X6_trim : GoodIn wsL_trim wsX6_trim := goodIn_ca (goodIn_r _ [6, 7, 8, 9, 10, 11, 12, 5, 13, 14, 15, 16, 17, 18, 19, 20, 21, 22, 23, 24, 25, 26, 27, 28, 29, 30, 31, 32, 33, 34, 35, 36, 37, 38, 39, 40, 41, 42, 43, 44, 45, 46, 47, 48, 49, 50, 51, 52, 53, 54, 55, 56, 57, 58, 59, 60, 61, 62, 63, 64, 65, 66, 67, 68, 69, 70, 71, 72, 73, 74, 75, 76, 77, 78, 79, 80, 81, 82, 83, 84, 85, 86, 87, 88, 89, 90, 91, 92, 93, 94, 95, 96, 97, 98, 99, 100, 101, 102, 103, 104, 105, 106, 107, 108, 109, 110] (by decide +kernel) (by decide +kernel)) (goodIn_sub (fun _ h => List.mem_cons_of_mem _ (List.mem_append_right _ h)) (by decide +kernel))
set_option maxRecDepth 20000 in
theorem gL_trim_X6_trim : GoodIn wsL_trim (wsV RL 35 RX6 yX6_trim wsX6_trim) := goodIn_app (goodIn_of _ (by decide +kernel)) ggL_trim_X6_trim
theorem dL_trim_0 : decode cL_trim 0 = .ok (.aload_n 0, 1) := by decide +kernel
theorem dL_trim_1 : decode cL_trim 1 = .ok (.iload_n 1, 1) := by decide +kernel
theorem dL_trim_2 : decode cL_trim 2 = .ok (.invokevirtual 35, 3) := by decide +kernel
theorem dL_trim_5 : decode cL_trim 5 = .ok (.istore_n 2, 1) := by decide +kernel
theorem dL_trim_6 : decode cL_trim 6 = .ok (.goto 7, 3) := by decide +kernel
theorem dL_trim_9 : decode cL_trim 9 = .ok (.astore_n 3, 1) := by decide +kernel
theorem dL_trim_10 : decode cL_trim 10 = .ok (.bipush (-31), 2) := by decide +kernel
theorem dL_trim_12 : decode cL_trim 12 = .ok (.ireturn, 1) := by decide +kernel
theorem dL_trim_13 : decode cL_trim 13 = .ok (.iload_n 2, 1) := by decide +kernel
theorem dL_trim_14 : decode cL_trim 14 = .ok (.ireturn, 1) := by decide +kernel
set_option maxRecDepth 20000 in
theorem ggL_undo_X6_undo : GoodIn wsL_undo wsX6_undo := goodIn_ca (goodIn_r _ [6, 7, 8, 9, 10, 11, 12, 13, 14, 15, 16, 17, 18, 19, 20, 21, 22, 23, 24, 25, 26, 27, 28, 29, 30, 31, 32, 33, 34, 35, 36, 37, 38, 39, 40, 41, 42, 43, 44, 45, 46, 47, 48, 49, 50] (by decide +kernel) (by decide +kernel)) (goodIn_sub (fun _ h => List.mem_cons_of_mem _ (List.mem_append_right _ h)) (by decide +kernel))
set_option maxRecDepth 20000 in
theorem gL_undo_X6_undo : GoodIn wsL_undo (wsV RL 38 RX6 yX6_undo wsX6_undo) := goodIn_app (goodIn_of _ (by decide +kernel)) ggL_undo_X6_undo
theorem dL_undo_0 : decode cL_undo 0 = .ok (.aload_n 0, 1) := by decide +kernel
theorem dL_undo_1 : decode cL_undo 1 = .ok (.invokevirtual 38, 3) := by decide +kernel
theorem dL_undo_4 : decode cL_undo 4 = .ok (.istore_n 1, 1) := by decide +kernel
theorem dL_undo_5 : decode cL_undo 5 = .ok (.goto 7, 3) := by decide +kernel
theorem dL_undo_8 : decode cL_undo 8 = .ok (.astore_n 2, 1) := by decide +kernel
theorem dL_undo_9 : decode cL_undo 9 = .ok (.bipush (-33), 2) := by decide +kernel
theorem dL_undo_11 : decode cL_undo 11 = .ok (.ireturn, 1) := by decide +kernel
theorem dL_undo_12 : decode cL_undo 12 = .ok (.iload_n 1, 1) := by decide +kernel
theorem dL_undo_13 : decode cL_undo 13 = .ok (.ireturn, 1) := by decide +kernel
theorem dL_goesOn_0 : decode cL_goesOn 0 = .ok (.aload_n 0, 1) := by decide +kernel
theorem dL_goesOn_1 : decode cL_goesOn 1 = .ok (.iconst 3, 1) := by decide +kernel
theorem dL_goesOn_2 : decode cL_goesOn 2 = .ok (.iload_n 1, 1) := by decide +kernel
theorem dL_goesOn_3 : decode cL_goesOn 3 = .ok (.imul, 1) := by decide +kernel
theorem dL_goesOn_4 : decode cL_goesOn 4 = .ok (.iconst 1, 1) := by decide +kernel
theorem dL_goesOn_5 : decode cL_goesOn 5 = .ok (.iadd, 1) := by decide +kernel
theorem dL_goesOn_6 : decode cL_goesOn 6 = .ok (.iaload, 1) := by decide +kernel
theorem dL_goesOn_7 : decode cL_goesOn 7 = .ok (.iconst 4, 1) := by decide +kernel
theorem dL_goesOn_8 : decode cL_goesOn 8 = .ok (.idiv, 1) := by decide +kernel
theorem dL_goesOn_9 : decode cL_goesOn 9 = .ok (.aload_n 0, 1) := by decide +kernel
theorem dL_goesOn_10 : decode cL_goesOn 10 = .ok (.iconst 3, 1) := by decide +kernel
theorem dL_goesOn_11 : decode cL_goesOn 11 = .ok (.iload_n 1, 1) := by decide +kernel
theorem dL_goesOn_12 : decode cL_goesOn 12 = .ok (.imul, 1) := by decide +kernel
theorem dL_goesOn_13 : decode cL_goesOn 13 = .ok (.iaload, 1) := by decide +kernel
theorem dL_goesOn_14 : decode cL_goesOn 14 = .ok (.iconst 4, 1) := by decide +kernel
theorem dL_goesOn_15 : decode cL_goesOn 15 = .ok (.idiv, 1) := by decide +kernel
theorem dL_goesOn_16 : decode cL_goesOn 16 = .ok (.if_icmp .le 7, 3) := by decide +kernel
theorem dL_goesOn_19 : decode cL_goesOn 19 = .ok (.iconst 1, 1) := by decide +kernel
theorem dL_goesOn_20 : decode cL_goesOn 20 = .ok (.goto 4, 3) := by decide +kernel
theorem dL_goesOn_23 : decode cL_goesOn 23 = .ok (.iconst 0, 1) := by decide +kernel
theorem dL_goesOn_24 : decode cL_goesOn 24 = .ok (.ireturn, 1) := by decide +kernel
set_option maxRecDepth 20000 in
theorem ggL_cross_L_goesOn : GoodIn wsL_cross wsL_goesOn := goodIn_r _ [4] (by decide +kernel) (by decide +kernel)
set_option maxRecDepth 20000 in
theorem gL_cross_L_goesOn : GoodIn wsL_cross (va_wsS RL 42 yL_goesOn wsL_goesOn) := goodIn_app (goodIn_of _ (by decide +kernel)) ggL_cross_L_goesOn
theorem dL_cross_0 : decode cL_cross 0 = .ok (.aload_n 0, 1) := by decide +kernel
theorem dL_cross_1 : decode cL_cross 1 = .ok (.iload_n 2, 1) := by decide +kernel
theorem dL_cross_2 : decode cL_cross 2 = .ok (.invokestatic 42, 3) := by decide +kernel
theorem dL_cross_5 : decode cL_cross 5 = .ok (.ifCond .eq 45, 3) := by decide +kernel
theorem dL_cross_8 : decode cL_cross 8 = .ok (.aload_n 0, 1) := by decide +kernel
theorem dL_cross_9 : decode cL_cross 9 = .ok (.iconst 3, 1) := by decide +kernel
theorem dL_cross_10 : decode cL_cross 10 = .ok (.iload_n 2, 1) := by decide +kernel
theorem dL_cross_11 : decode cL_cross 11 = .ok (.imul, 1) := by decide +kernel
theorem dL_cross_12 : decode cL_cross 12 = .ok (.iaload, 1) := by decide +kernel
theorem dL_cross_13 : decode cL_cross 13 = .ok (.iconst 4, 1) := by decide +kernel
theorem dL_cross_14 : decode cL_cross 14 = .ok (.idiv, 1) := by decide +kernel
theorem dL_cross_15 : decode cL_cross 15 = .ok (.aload_n 0, 1) := by decide +kernel
theorem dL_cross_16 : decode cL_cross 16 = .ok (.iconst 3, 1) := by decide +kernel
theorem dL_cross_17 : decode cL_cross 17 = .ok (.iload_n 3, 1) := by decide +kernel
theorem dL_cross_18 : decode cL_cross 18 = .ok (.imul, 1) := by decide +kernel
theorem dL_cross_19 : decode cL_cross 19 = .ok (.iaload, 1) := by decide +kernel
theorem dL_cross_20 : decode cL_cross 20 = .ok (.iconst 4, 1) := by decide +kernel
theorem dL_cross_21 : decode cL_cross 21 = .ok (.idiv, 1) := by decide +kernel
theorem dL_cross_22 : decode cL_cross 22 = .ok (.if_icmp .ne 28, 3) := by decide +kernel
theorem dL_cross_25 : decode cL_cross 25 = .ok (.aload_n 0, 1) := by decide +kernel
theorem dL_cross_26 : decode cL_cross 26 = .ok (.iconst 3, 1) := by decide +kernel
theorem dL_cross_27 : decode cL_cross 27 = .ok (.iload_n 2, 1) := by decide +kernel
theorem dL_cross_28 : decode cL_cross 28 = .ok (.imul, 1) := by decide +kernel
theorem dL_cross_29 : decode cL_cross 29 = .ok (.iconst 1, 1) := by decide +kernel
theorem dL_cross_30 : decode cL_cross 30 = .ok (.iadd, 1) := by decide +kernel
theorem dL_cross_31 : decode cL_cross 31 = .ok (.iaload, 1) := by decide +kernel
theorem dL_cross_32 : decode cL_cross 32 = .ok (.iconst 4, 1) := by decide +kernel
theorem dL_cross_33 : decode cL_cross 33 = .ok (.idiv, 1) := by decide +kernel
theorem dL_cross_34 : decode cL_cross 34 = .ok (.aload_n 0, 1) := by decide +kernel
theorem dL_cross_35 : decode cL_cross 35 = .ok (.iconst 3, 1) := by decide +kernel
theorem dL_cross_36 : decode cL_cross 36 = .ok (.iload_n 3, 1) := by decide +kernel
theorem dL_cross_37 : decode cL_cross 37 = .ok (.imul, 1) := by decide +kernel
theorem dL_cross_38 : decode cL_cross 38 = .ok (.iconst 1, 1) := by decide +kernel
theorem dL_cross_39 : decode cL_cross 39 = .ok (.iadd, 1) := by decide +kernel
theorem dL_cross_40 : decode cL_cross 40 = .ok (.iaload, 1) := by decide +kernel
theorem dL_cross_41 : decode cL_cross 41 = .ok (.iconst 4, 1) := by decide +kernel
theorem dL_cross_42 : decode cL_cross 42 = .ok (.idiv, 1) := by decide +kernel
theorem dL_cross_43 : decode cL_cross 43 = .ok (.if_icmp .ne 7, 3) := by decide +kernel
theorem dL_cross_46 : decode cL_cross 46 = .ok (.iconst 1, 1) := by decide +kernel
theorem dL_cross_47 : decode cL_cross 47 = .ok (.goto 4, 3) := by decide +kernel
theorem dL_cross_50 : decode cL_cross 50 = .ok (.iconst 0, 1) := by decide +kernel
theorem dL_cross_51 : decode cL_cross 51 = .ok (.istore 4, 2) := by decide +kernel
theorem dL_cross_53 : decode cL_cross 53 = .ok (.iload 4, 2) := by decide +kernel
theorem dL_cross_55 : decode cL_cross 55 = .ok (.ifCond .eq 45, 3) := by decide +kernel
theorem dL_cross_58 : decode cL_cross 58 = .ok (.aload_n 1, 1) := by decide +kernel
theorem dL_cross_59 : decode cL_cross 59 = .ok (.aload_n 0, 1) := by decide +kernel
theorem dL_cross_60 : decode cL_cross 60 = .ok (.iconst 3, 1) := by decide +kernel
theorem dL_cross_61 : decode cL_cross 61 = .ok (.iload_n 2, 1) := by decide +kernel
theorem dL_cross_62 : decode cL_cross 62 = .ok (.imul, 1) := by decide +kernel
theorem dL_cross_63 : decode cL_cross 63 = .ok (.iaload, 1) := by decide +kernel
theorem dL_cross_64 : decode cL_cross 64 = .ok (.iaload, 1) := by decide +kernel
theorem dL_cross_65 : decode cL_cross 65 = .ok (.aload_n 1, 1) := by decide +kernel
theorem dL_cross_66 : decode cL_cross 66 = .ok (.aload_n 0, 1) := by decide +kernel
theorem dL_cross_67 : decode cL_cross 67 = .ok (.iconst 3, 1) := by decide +kernel
theorem dL_cross_68 : decode cL_cross 68 = .ok (.iload_n 3, 1) := by decide +kernel
theorem dL_cross_69 : decode cL_cross 69 = .ok (.imul, 1) := by decide +kernel
theorem dL_cross_70 : decode cL_cross 70 = .ok (.iaload, 1) := by decide +kernel
theorem dL_cross_71 : decode cL_cross 71 = .ok (.iaload, 1) := by decide +kernel
theorem dL_cross_72 : decode cL_cross 72 = .ok (.isub, 1) := by decide +kernel
theorem dL_cross_73 : decode cL_cross 73 = .ok (.aload_n 1, 1) := by decide +kernel
theorem dL_cross_74 : decode cL_cross 74 = .ok (.aload_n 0, 1) := by decide +kernel
theorem dL_cross_75 : decode cL_cross 75 = .ok (.iconst 3, 1) := by decide +kernel
theorem dL_cross_76 : decode cL_cross 76 = .ok (.iload_n 2, 1) := by decide +kernel
theorem dL_cross_77 : decode cL_cross 77 = .ok (.imul, 1) := by decide +kernel
theorem dL_cross_78 : decode cL_cross 78 = .ok (.iconst 1, 1) := by decide +kernel
theorem dL_cross_79 : decode cL_cross 79 = .ok (.iadd, 1) := by decide +kernel
theorem dL_cross_80 : decode cL_cross 80 = .ok (.iaload, 1) := by decide +kernel
theorem dL_cross_81 : decode cL_cross 81 = .ok (.iaload, 1) := by decide +kernel
theorem dL_cross_82 : decode cL_cross 82 = .ok (.aload_n 1, 1) := by decide +kernel
theorem dL_cross_83 : decode cL_cross 83 = .ok (.aload_n 0, 1) := by decide +kernel
theorem dL_cross_84 : decode cL_cross 84 = .ok (.iconst 3, 1) := by decide +kernel
theorem dL_cross_85 : decode cL_cross 85 = .ok (.iload_n 3, 1) := by decide +kernel
theorem dL_cross_86 : decode cL_cross 86 = .ok (.imul, 1) := by decide +kernel
theorem dL_cross_87 : decode cL_cross 87 = .ok (.iconst 1, 1) := by decide +kernel
theorem dL_cross_88 : decode cL_cross 88 = .ok (.iadd, 1) := by decide +kernel
theorem dL_cross_89 : decode cL_cross 89 = .ok (.iaload, 1) := by decide +kernel
theorem dL_cross_90 : decode cL_cross 90 = .ok (.iaload, 1) := by decide +kernel
theorem dL_cross_91 : decode cL_cross 91 = .ok (.isub, 1) := by decide +kernel
theorem dL_cross_92 : decode cL_cross 92 = .ok (.imul, 1) := by decide +kernel
theorem dL_cross_93 : decode cL_cross 93 = .ok (.ifCond .ge 7, 3) := by decide +kernel
theorem dL_cross_96 : decode cL_cross 96 = .ok (.iconst 1, 1) := by decide +kernel
theorem dL_cross_97 : decode cL_cross 97 = .ok (.goto 4, 3) := by decide +kernel
theorem dL_cross_100 : decode cL_cross 100 = .ok (.iconst 0, 1) := by decide +kernel
theorem dL_cross_101 : decode cL_cross 101 = .ok (.ireturn, 1) := by decide +kernel
set_option maxRecDepth 20000 in
theorem ggL_crossings_L_cross : GoodIn wsL_crossings wsL_cross := goodIn_r _ [4, 5, 6, 3, 7] (by decide +kernel) (by decide +kernel)
set_option maxRecDepth 20000 in
theorem gL_crossings_L_cross : GoodIn wsL_crossings (va_wsS RL 48 yL_cross wsL_cross) := goodIn_app (goodIn_of _ (by decide +kernel)) ggL_crossings_L_cross
theorem dL_crossings_0 : decode cL_crossings 0 = .ok (.iconst 0, 1) := by decide +kernel
theorem dL_crossings_1 : decode cL_crossings 1 = .ok (.istore_n 3, 1) := by decide +kernel
theorem dL_crossings_2 : decode cL_crossings 2 = .ok (.iconst 1, 1) := by decide +kernel
theorem dL_crossings_3 : decode cL_crossings 3 = .ok (.istore 4, 2) := by decide +kernel
theorem dL_crossings_5 : decode cL_crossings 5 = .ok (.iload 4, 2) := by decide +kernel
theorem dL_crossings_7 : decode cL_crossings 7 = .ok (.bipush 51, 2) := by decide +kernel
theorem dL_crossings_9 : decode cL_crossings 9 = .ok (.if_icmp .ge 86, 3) := by decide +kernel
theorem dL_crossings_12 : decode cL_crossings 12 = .ok (.iconst 0, 1) := by decide +kernel
theorem dL_crossings_13 : decode cL_crossings 13 = .ok (.istore 5, 2) := by decide +kernel
theorem dL_crossings_15 : decode cL_crossings 15 = .ok (.iload 5, 2) := by decide +kernel
theorem dL_crossings_17 : decode cL_crossings 17 = .ok (.iload_n 2, 1) := by decide +kernel
theorem dL_crossings_18 : decode cL_crossings 18 = .ok (.if_icmp .ge 71, 3) := by decide +kernel
theorem dL_crossings_21 : decode cL_crossings 21 = .ok (.iconst 0, 1) := by decide +kernel
theorem dL_crossings_22 : decode cL_crossings 22 = .ok (.istore 6, 2) := by decide +kernel
theorem dL_crossings_24 : decode cL_crossings 24 = .ok (.iload 6, 2) := by decide +kernel
theorem dL_crossings_26 : decode cL_crossings 26 = .ok (.iload 5, 2) := by decide +kernel
theorem dL_crossings_28 : decode cL_crossings 28 = .ok (.if_icmp .ge 55, 3) := by decide +kernel
theorem dL_crossings_31 : decode cL_crossings 31 = .ok (.iload_n 3, 1) := by decide +kernel
theorem dL_crossings_32 : decode cL_crossings 32 = .ok (.aload_n 0, 1) := by decide +kernel
theorem dL_crossings_33 : decode cL_crossings 33 = .ok (.iconst 3, 1) := by decide +kernel
theorem dL_crossings_34 : decode cL_crossings 34 = .ok (.iload 5, 2) := by decide +kernel
theorem dL_crossings_36 : decode cL_crossings 36 = .ok (.imul, 1) := by decide +kernel
theorem dL_crossings_37 : decode cL_crossings 37 = .ok (.iconst 2, 1) := by decide +kernel
theorem dL_crossings_38 : decode cL_crossings 38 = .ok (.iadd, 1) := by decide +kernel
theorem dL_crossings_39 : decode cL_crossings 39 = .ok (.iaload, 1) := by decide +kernel
theorem dL_crossings_40 : decode cL_crossings 40 = .ok (.iload 4, 2) := by decide +kernel
theorem dL_crossings_42 : decode cL_crossings 42 = .ok (.if_icmp .lt 32, 3) := by decide +kernel
theorem dL_crossings_45 : decode cL_crossings 45 = .ok (.aload_n 0, 1) := by decide +kernel
theorem dL_crossings_46 : decode cL_crossings 46 = .ok (.iconst 3, 1) := by decide +kernel
theorem dL_crossings_47 : decode cL_crossings 47 = .ok (.iload 6, 2) := by decide +kernel
theorem dL_crossings_49 : decode cL_crossings 49 = .ok (.imul, 1) := by decide +kernel
theorem dL_crossings_50 : decode cL_crossings 50 = .ok (.iconst 2, 1) := by decide +kernel
theorem dL_crossings_51 : decode cL_crossings 51 = .ok (.iadd, 1) := by decide +kernel
theorem dL_crossings_52 : decode cL_crossings 52 = .ok (.iaload, 1) := by decide +kernel
theorem dL_crossings_53 : decode cL_crossings 53 = .ok (.iload 4, 2) := by decide +kernel
theorem dL_crossings_55 : decode cL_crossings 55 = .ok (.if_icmp .lt 19, 3) := by decide +kernel
theorem dL_crossings_58 : decode cL_crossings 58 = .ok (.aload_n 0, 1) := by decide +kernel
theorem dL_crossings_59 : decode cL_crossings 59 = .ok (.aload_n 1, 1) := by decide +kernel
theorem dL_crossings_60 : decode cL_crossings 60 = .ok (.iload 5, 2) := by decide +kernel
theorem dL_crossings_62 : decode cL_crossings 62 = .ok (.iload 6, 2) := by decide +kernel
theorem dL_crossings_64 : decode cL_crossings 64 = .ok (.invokestatic 48, 3) := by decide +kernel
theorem dL_crossings_67 : decode cL_crossings 67 = .ok (.ifCond .eq 7, 3) := by decide +kernel
theorem dL_crossings_70 : decode cL_crossings 70 = .ok (.iconst 1, 1) := by decide +kernel
theorem dL_crossings_71 : decode cL_crossings 71 = .ok (.goto 4, 3) := by decide +kernel
theorem dL_crossings_74 : decode cL_crossings 74 = .ok (.iconst 0, 1) := by decide +kernel
theorem dL_crossings_75 : decode cL_crossings 75 = .ok (.iadd, 1) := by decide +kernel
theorem dL_crossings_76 : decode cL_crossings 76 = .ok (.istore_n 3, 1) := by decide +kernel
theorem dL_crossings_77 : decode cL_crossings 77 = .ok (.iinc 6 1, 3) := by decide +kernel
theorem dL_crossings_80 : decode cL_crossings 80 = .ok (.goto (-56), 3) := by decide +kernel
theorem dL_crossings_83 : decode cL_crossings 83 = .ok (.iinc 5 1, 3) := by decide +kernel
theorem dL_crossings_86 : decode cL_crossings 86 = .ok (.goto (-71), 3) := by decide +kernel
theorem dL_crossings_89 : decode cL_crossings 89 = .ok (.iinc 4 1, 3) := by decide +kernel
theorem dL_crossings_92 : decode cL_crossings 92 = .ok (.goto (-87), 3) := by decide +kernel
theorem dL_crossings_95 : decode cL_crossings 95 = .ok (.iload_n 3, 1) := by decide +kernel
theorem dL_crossings_96 : decode cL_crossings 96 = .ok (.ireturn, 1) := by decide +kernel
set_option maxRecDepth 20000 in
theorem ggL_side_L_goesOn : GoodIn wsL_side wsL_goesOn := goodIn_r _ [4] (by decide +kernel) (by decide +kernel)
set_option maxRecDepth 20000 in
theorem gL_side_L_goesOn : GoodIn wsL_side (va_wsS RL 42 yL_goesOn wsL_goesOn) := goodIn_app (goodIn_of _ (by decide +kernel)) ggL_side_L_goesOn
theorem dL_side_0 : decode cL_side 0 = .ok (.iconst 0, 1) := by decide +kernel
theorem dL_side_1 : decode cL_side 1 = .ok (.istore 4, 2) := by decide +kernel
theorem dL_side_3 : decode cL_side 3 = .ok (.iconst 0, 1) := by decide +kernel
theorem dL_side_4 : decode cL_side 4 = .ok (.istore 5, 2) := by decide +kernel
theorem dL_side_6 : decode cL_side 6 = .ok (.iload 5, 2) := by decide +kernel
theorem dL_side_8 : decode cL_side 8 = .ok (.iload_n 1, 1) := by decide +kernel
theorem dL_side_9 : decode cL_side 9 = .ok (.if_icmp .ge 47, 3) := by decide +kernel
theorem dL_side_12 : decode cL_side 12 = .ok (.iload 4, 2) := by decide +kernel
theorem dL_side_14 : decode cL_side 14 = .ok (.aload_n 0, 1) := by decide +kernel
theorem dL_side_15 : decode cL_side 15 = .ok (.iload 5, 2) := by decide +kernel
theorem dL_side_17 : decode cL_side 17 = .ok (.invokestatic 42, 3) := by decide +kernel
theorem dL_side_20 : decode cL_side 20 = .ok (.ifCond .eq 26, 3) := by decide +kernel
theorem dL_side_23 : decode cL_side 23 = .ok (.aload_n 0, 1) := by decide +kernel
theorem dL_side_24 : decode cL_side 24 = .ok (.iconst 3, 1) := by decide +kernel
theorem dL_side_25 : decode cL_side 25 = .ok (.iload 5, 2) := by decide +kernel
theorem dL_side_27 : decode cL_side 27 = .ok (.imul, 1) := by decide +kernel
theorem dL_side_28 : decode cL_side 28 = .ok (.iload_n 3, 1) := by decide +kernel
theorem dL_side_29 : decode cL_side 29 = .ok (.iadd, 1) := by decide +kernel
theorem dL_side_30 : decode cL_side 30 = .ok (.iaload, 1) := by decide +kernel
theorem dL_side_31 : decode cL_side 31 = .ok (.iload_n 2, 1) := by decide +kernel
theorem dL_side_32 : decode cL_side 32 = .ok (.if_icmp .ne 14, 3) := by decide +kernel
theorem dL_side_35 : decode cL_side 35 = .ok (.aload_n 0, 1) := by decide +kernel
theorem dL_side_36 : decode cL_side 36 = .ok (.iconst 3, 1) := by decide +kernel
theorem dL_side_37 : decode cL_side 37 = .ok (.iload 5, 2) := by decide +kernel
theorem dL_side_39 : decode cL_side 39 = .ok (.imul, 1) := by decide +kernel
theorem dL_side_40 : decode cL_side 40 = .ok (.iconst 2, 1) := by decide +kernel
theorem dL_side_41 : decode cL_side 41 = .ok (.iadd, 1) := by decide +kernel
theorem dL_side_42 : decode cL_side 42 = .ok (.iaload, 1) := by decide +kernel
theorem dL_side_43 : decode cL_side 43 = .ok (.goto 4, 3) := by decide +kernel
theorem dL_side_46 : decode cL_side 46 = .ok (.iconst 0, 1) := by decide +kernel
theorem dL_side_47 : decode cL_side 47 = .ok (.iadd, 1) := by decide +kernel
theorem dL_side_48 : decode cL_side 48 = .ok (.istore 4, 2) := by decide +kernel
theorem dL_side_50 : decode cL_side 50 = .ok (.iinc 5 1, 3) := by decide +kernel
theorem dL_side_53 : decode cL_side 53 = .ok (.goto (-47), 3) := by decide +kernel
theorem dL_side_56 : decode cL_side 56 = .ok (.iload 4, 2) := by decide +kernel
theorem dL_side_58 : decode cL_side 58 = .ok (.ireturn, 1) := by decide +kernel
set_option maxRecDepth 20000 in
theorem ggL_trimmed_L_side : GoodIn wsL_trimmed wsL_side := goodIn_r _ [4, 5, 6, 3, 7] (by decide +kernel) (by decide +kernel)
set_option maxRecDepth 20000 in
theorem gL_trimmed_L_side : GoodIn wsL_trimmed (va_wsS RL 52 yL_side wsL_side) := goodIn_app (goodIn_of _ (by decide +kernel)) ggL_trimmed_L_side
set_option maxRecDepth 20000 in
theorem ggL_trimmed_L_goesOn : GoodIn wsL_trimmed wsL_goesOn := goodIn_r _ [7] (by decide +kernel) (by decide +kernel)
set_option maxRecDepth 20000 in
theorem gL_trimmed_L_goesOn : GoodIn wsL_trimmed (va_wsS RL 42 yL_goesOn wsL_goesOn) := goodIn_app (goodIn_of _ (by decide +kernel)) ggL_trimmed_L_goesOn
theorem dL_trimmed_0 : decode cL_trimmed 0 = .ok (.iconst 0, 1) := by decide +kernel
theorem dL_trimmed_1 : decode cL_trimmed 1 = .ok (.istore_n 3, 1) := by decide +kernel
theorem dL_trimmed_2 : decode cL_trimmed 2 = .ok (.aload_n 0, 1) := by decide +kernel
theorem dL_trimmed_3 : decode cL_trimmed 3 = .ok (.iload_n 1, 1) := by decide +kernel
theorem dL_trimmed_4 : decode cL_trimmed 4 = .ok (.iload_n 2, 1) := by decide +kernel
theorem dL_trimmed_5 : decode cL_trimmed 5 = .ok (.iconst 1, 1) := by decide +kernel
theorem dL_trimmed_6 : decode cL_trimmed 6 = .ok (.invokestatic 52, 3) := by decide +kernel
theorem dL_trimmed_9 : decode cL_trimmed 9 = .ok (.aload_n 0, 1) := by decide +kernel
theorem dL_trimmed_10 : decode cL_trimmed 10 = .ok (.iload_n 1, 1) := by decide +kernel
theorem dL_trimmed_11 : decode cL_trimmed 11 = .ok (.iload_n 2, 1) := by decide +kernel
theorem dL_trimmed_12 : decode cL_trimmed 12 = .ok (.iconst 0, 1) := by decide +kernel
theorem dL_trimmed_13 : decode cL_trimmed 13 = .ok (.invokestatic 52, 3) := by decide +kernel
theorem dL_trimmed_16 : decode cL_trimmed 16 = .ok (.isub, 1) := by decide +kernel
theorem dL_trimmed_17 : decode cL_trimmed 17 = .ok (.istore 4, 2) := by decide +kernel
theorem dL_trimmed_19 : decode cL_trimmed 19 = .ok (.iload 4, 2) := by decide +kernel
theorem dL_trimmed_21 : decode cL_trimmed 21 = .ok (.ifCond .eq 124, 3) := by decide +kernel
theorem dL_trimmed_24 : decode cL_trimmed 24 = .ok (.iload 4, 2) := by decide +kernel
theorem dL_trimmed_26 : decode cL_trimmed 26 = .ok (.ifCond .le 7, 3) := by decide +kernel
theorem dL_trimmed_29 : decode cL_trimmed 29 = .ok (.iconst 1, 1) := by decide +kernel
theorem dL_trimmed_30 : decode cL_trimmed 30 = .ok (.goto 4, 3) := by decide +kernel
theorem dL_trimmed_33 : decode cL_trimmed 33 = .ok (.iconst 0, 1) := by decide +kernel
theorem dL_trimmed_34 : decode cL_trimmed 34 = .ok (.istore 5, 2) := by decide +kernel
theorem dL_trimmed_36 : decode cL_trimmed 36 = .ok (.iconst (-1), 1) := by decide +kernel
theorem dL_trimmed_37 : decode cL_trimmed 37 = .ok (.istore 6, 2) := by decide +kernel
theorem dL_trimmed_39 : decode cL_trimmed 39 = .ok (.iload_n 1, 1) := by decide +kernel
theorem dL_trimmed_40 : decode cL_trimmed 40 = .ok (.iconst 1, 1) := by decide +kernel
theorem dL_trimmed_41 : decode cL_trimmed 41 = .ok (.isub, 1) := by decide +kernel
theorem dL_trimmed_42 : decode cL_trimmed 42 = .ok (.istore 7, 2) := by decide +kernel
theorem dL_trimmed_44 : decode cL_trimmed 44 = .ok (.iload 7, 2) := by decide +kernel
theorem dL_trimmed_46 : decode cL_trimmed 46 = .ok (.ifCond .lt 64, 3) := by decide +kernel
theorem dL_trimmed_49 : decode cL_trimmed 49 = .ok (.aload_n 0, 1) := by decide +kernel
theorem dL_trimmed_50 : decode cL_trimmed 50 = .ok (.iload 7, 2) := by decide +kernel
theorem dL_trimmed_52 : decode cL_trimmed 52 = .ok (.invokestatic 42, 3) := by decide +kernel
theorem dL_trimmed_55 : decode cL_trimmed 55 = .ok (.ifCond .eq 45, 3) := by decide +kernel
theorem dL_trimmed_58 : decode cL_trimmed 58 = .ok (.aload_n 0, 1) := by decide +kernel
theorem dL_trimmed_59 : decode cL_trimmed 59 = .ok (.iconst 3, 1) := by decide +kernel
theorem dL_trimmed_60 : decode cL_trimmed 60 = .ok (.iload 7, 2) := by decide +kernel
theorem dL_trimmed_62 : decode cL_trimmed 62 = .ok (.imul, 1) := by decide +kernel
theorem dL_trimmed_63 : decode cL_trimmed 63 = .ok (.iload 5, 2) := by decide +kernel
theorem dL_trimmed_65 : decode cL_trimmed 65 = .ok (.iadd, 1) := by decide +kernel
theorem dL_trimmed_66 : decode cL_trimmed 66 = .ok (.iaload, 1) := by decide +kernel
theorem dL_trimmed_67 : decode cL_trimmed 67 = .ok (.iload_n 2, 1) := by decide +kernel
theorem dL_trimmed_68 : decode cL_trimmed 68 = .ok (.if_icmp .ne 32, 3) := by decide +kernel
theorem dL_trimmed_71 : decode cL_trimmed 71 = .ok (.iload 6, 2) := by decide +kernel
theorem dL_trimmed_73 : decode cL_trimmed 73 = .ok (.ifCond .lt 22, 3) := by decide +kernel
theorem dL_trimmed_76 : decode cL_trimmed 76 = .ok (.aload_n 0, 1) := by decide +kernel
theorem dL_trimmed_77 : decode cL_trimmed 77 = .ok (.iconst 3, 1) := by decide +kernel
theorem dL_trimmed_78 : decode cL_trimmed 78 = .ok (.iload 7, 2) := by decide +kernel
theorem dL_trimmed_80 : decode cL_trimmed 80 = .ok (.imul, 1) := by decide +kernel
theorem dL_trimmed_81 : decode cL_trimmed 81 = .ok (.iconst 2, 1) := by decide +kernel
theorem dL_trimmed_82 : decode cL_trimmed 82 = .ok (.iadd, 1) := by decide +kernel
theorem dL_trimmed_83 : decode cL_trimmed 83 = .ok (.iaload, 1) := by decide +kernel
theorem dL_trimmed_84 : decode cL_trimmed 84 = .ok (.aload_n 0, 1) := by decide +kernel
theorem dL_trimmed_85 : decode cL_trimmed 85 = .ok (.iconst 3, 1) := by decide +kernel
theorem dL_trimmed_86 : decode cL_trimmed 86 = .ok (.iload 6, 2) := by decide +kernel
theorem dL_trimmed_88 : decode cL_trimmed 88 = .ok (.imul, 1) := by decide +kernel
theorem dL_trimmed_89 : decode cL_trimmed 89 = .ok (.iconst 2, 1) := by decide +kernel
theorem dL_trimmed_90 : decode cL_trimmed 90 = .ok (.iadd, 1) := by decide +kernel
theorem dL_trimmed_91 : decode cL_trimmed 91 = .ok (.iaload, 1) := by decide +kernel
theorem dL_trimmed_92 : decode cL_trimmed 92 = .ok (.if_icmp .lt 8, 3) := by decide +kernel
theorem dL_trimmed_95 : decode cL_trimmed 95 = .ok (.iload 7, 2) := by decide +kernel
theorem dL_trimmed_97 : decode cL_trimmed 97 = .ok (.goto 5, 3) := by decide +kernel
theorem dL_trimmed_100 : decode cL_trimmed 100 = .ok (.iload 6, 2) := by decide +kernel
theorem dL_trimmed_102 : decode cL_trimmed 102 = .ok (.istore 6, 2) := by decide +kernel
theorem dL_trimmed_104 : decode cL_trimmed 104 = .ok (.iinc 7 (-1), 3) := by decide +kernel
theorem dL_trimmed_107 : decode cL_trimmed 107 = .ok (.goto (-63), 3) := by decide +kernel
theorem dL_trimmed_110 : decode cL_trimmed 110 = .ok (.aload_n 0, 1) := by decide +kernel
theorem dL_trimmed_111 : decode cL_trimmed 111 = .ok (.iconst 3, 1) := by decide +kernel
theorem dL_trimmed_112 : decode cL_trimmed 112 = .ok (.iload 6, 2) := by decide +kernel
theorem dL_trimmed_114 : decode cL_trimmed 114 = .ok (.imul, 1) := by decide +kernel
theorem dL_trimmed_115 : decode cL_trimmed 115 = .ok (.iconst 2, 1) := by decide +kernel
theorem dL_trimmed_116 : decode cL_trimmed 116 = .ok (.iadd, 1) := by decide +kernel
theorem dL_trimmed_117 : decode cL_trimmed 117 = .ok (.dup2, 1) := by decide +kernel
theorem dL_trimmed_118 : decode cL_trimmed 118 = .ok (.iaload, 1) := by decide +kernel
theorem dL_trimmed_119 : decode cL_trimmed 119 = .ok (.iconst 1, 1) := by decide +kernel
theorem dL_trimmed_120 : decode cL_trimmed 120 = .ok (.isub, 1) := by decide +kernel
theorem dL_trimmed_121 : decode cL_trimmed 121 = .ok (.iastore, 1) := by decide +kernel
theorem dL_trimmed_122 : decode cL_trimmed 122 = .ok (.iinc 3 1, 3) := by decide +kernel
theorem dL_trimmed_125 : decode cL_trimmed 125 = .ok (.aload_n 0, 1) := by decide +kernel
theorem dL_trimmed_126 : decode cL_trimmed 126 = .ok (.iload_n 1, 1) := by decide +kernel
theorem dL_trimmed_127 : decode cL_trimmed 127 = .ok (.iload_n 2, 1) := by decide +kernel
theorem dL_trimmed_128 : decode cL_trimmed 128 = .ok (.iconst 1, 1) := by decide +kernel
theorem dL_trimmed_129 : decode cL_trimmed 129 = .ok (.invokestatic 52, 3) := by decide +kernel
theorem dL_trimmed_132 : decode cL_trimmed 132 = .ok (.aload_n 0, 1) := by decide +kernel
theorem dL_trimmed_133 : decode cL_trimmed 133 = .ok (.iload_n 1, 1) := by decide +kernel
theorem dL_trimmed_134 : decode cL_trimmed 134 = .ok (.iload_n 2, 1) := by decide +kernel
theorem dL_trimmed_135 : decode cL_trimmed 135 = .ok (.iconst 0, 1) := by decide +kernel
theorem dL_trimmed_136 : decode cL_trimmed 136 = .ok (.invokestatic 52, 3) := by decide +kernel
theorem dL_trimmed_139 : decode cL_trimmed 139 = .ok (.isub, 1) := by decide +kernel
theorem dL_trimmed_140 : decode cL_trimmed 140 = .ok (.istore 4, 2) := by decide +kernel
theorem dL_trimmed_142 : decode cL_trimmed 142 = .ok (.goto (-123), 3) := by decide +kernel
theorem dL_trimmed_145 : decode cL_trimmed 145 = .ok (.iload_n 3, 1) := by decide +kernel
theorem dL_trimmed_146 : decode cL_trimmed 146 = .ok (.ireturn, 1) := by decide +kernel
set_option maxRecDepth 20000 in
theorem ggL_settled_L_trimmed : GoodIn wsL_settled wsL_trimmed := goodIn_r _ [4, 5, 6, 3, 7, 8, 9, 10] (by decide +kernel) (by decide +kernel)
set_option maxRecDepth 20000 in
theorem gL_settled_L_trimmed : GoodIn wsL_settled (va_wsS RL 56 yL_trimmed wsL_trimmed) := goodIn_app (goodIn_of _ (by decide +kernel)) ggL_settled_L_trimmed
theorem dL_settled_0 : decode cL_settled 0 = .ok (.iconst 0, 1) := by decide +kernel
theorem dL_settled_1 : decode cL_settled 1 = .ok (.istore_n 2, 1) := by decide +kernel
theorem dL_settled_2 : decode cL_settled 2 = .ok (.iconst (-1), 1) := by decide +kernel
theorem dL_settled_3 : decode cL_settled 3 = .ok (.istore_n 3, 1) := by decide +kernel
theorem dL_settled_4 : decode cL_settled 4 = .ok (.iload_n 2, 1) := by decide +kernel
theorem dL_settled_5 : decode cL_settled 5 = .ok (.iload_n 3, 1) := by decide +kernel
theorem dL_settled_6 : decode cL_settled 6 = .ok (.if_icmp .eq 34, 3) := by decide +kernel
theorem dL_settled_9 : decode cL_settled 9 = .ok (.iload_n 2, 1) := by decide +kernel
theorem dL_settled_10 : decode cL_settled 10 = .ok (.istore_n 3, 1) := by decide +kernel
theorem dL_settled_11 : decode cL_settled 11 = .ok (.iconst 4, 1) := by decide +kernel
theorem dL_settled_12 : decode cL_settled 12 = .ok (.istore 4, 2) := by decide +kernel
theorem dL_settled_14 : decode cL_settled 14 = .ok (.iload 4, 2) := by decide +kernel
theorem dL_settled_16 : decode cL_settled 16 = .ok (.bipush 12, 2) := by decide +kernel
theorem dL_settled_18 : decode cL_settled 18 = .ok (.if_icmp .ge 19, 3) := by decide +kernel
theorem dL_settled_21 : decode cL_settled 21 = .ok (.iload_n 2, 1) := by decide +kernel
theorem dL_settled_22 : decode cL_settled 22 = .ok (.aload_n 0, 1) := by decide +kernel
theorem dL_settled_23 : decode cL_settled 23 = .ok (.iload_n 1, 1) := by decide +kernel
theorem dL_settled_24 : decode cL_settled 24 = .ok (.iload 4, 2) := by decide +kernel
theorem dL_settled_26 : decode cL_settled 26 = .ok (.invokestatic 56, 3) := by decide +kernel
theorem dL_settled_29 : decode cL_settled 29 = .ok (.iadd, 1) := by decide +kernel
theorem dL_settled_30 : decode cL_settled 30 = .ok (.istore_n 2, 1) := by decide +kernel
theorem dL_settled_31 : decode cL_settled 31 = .ok (.iinc 4 1, 3) := by decide +kernel
theorem dL_settled_34 : decode cL_settled 34 = .ok (.goto (-20), 3) := by decide +kernel
theorem dL_settled_37 : decode cL_settled 37 = .ok (.goto (-33), 3) := by decide +kernel
theorem dL_settled_40 : decode cL_settled 40 = .ok (.iload_n 2, 1) := by decide +kernel
theorem dL_settled_41 : decode cL_settled 41 = .ok (.ireturn, 1) := by decide +kernel
set_option maxRecDepth 20000 in
theorem ggL_through_L_goesOn : GoodIn wsL_through wsL_goesOn := goodIn_r _ [5] (by decide +kernel) (by decide +kernel)
set_option maxRecDepth 20000 in
theorem gL_through_L_goesOn : GoodIn wsL_through (va_wsS RL 42 yL_goesOn wsL_goesOn) := goodIn_app (goodIn_of _ (by decide +kernel)) ggL_through_L_goesOn
theorem dL_through_0 : decode cL_through 0 = .ok (.bipush 20, 2) := by decide +kernel
theorem dL_through_2 : decode cL_through 2 = .ok (.newarray .int, 2) := by decide +kernel
theorem dL_through_4 : decode cL_through 4 = .ok (.astore_n 3, 1) := by decide +kernel
theorem dL_through_5 : decode cL_through 5 = .ok (.bipush 16, 2) := by decide +kernel
theorem dL_through_7 : decode cL_through 7 = .ok (.newarray .int, 2) := by decide +kernel
theorem dL_through_9 : decode cL_through 9 = .ok (.astore 4, 2) := by decide +kernel
theorem dL_through_11 : decode cL_through 11 = .ok (.iconst 0, 1) := by decide +kernel
theorem dL_through_12 : decode cL_through 12 = .ok (.istore 5, 2) := by decide +kernel
theorem dL_through_14 : decode cL_through 14 = .ok (.iconst 0, 1) := by decide +kernel
theorem dL_through_15 : decode cL_through 15 = .ok (.istore 6, 2) := by decide +kernel
theorem dL_through_17 : decode cL_through 17 = .ok (.iload 6, 2) := by decide +kernel
theorem dL_through_19 : decode cL_through 19 = .ok (.bipush 16, 2) := by decide +kernel
theorem dL_through_21 : decode cL_through 21 = .ok (.if_icmp .ge 26, 3) := by decide +kernel
theorem dL_through_24 : decode cL_through 24 = .ok (.aload 4, 2) := by decide +kernel
theorem dL_through_26 : decode cL_through 26 = .ok (.iload 6, 2) := by decide +kernel
theorem dL_through_28 : decode cL_through 28 = .ok (.iload 6, 2) := by decide +kernel
theorem dL_through_30 : decode cL_through 30 = .ok (.iconst 4, 1) := by decide +kernel
theorem dL_through_31 : decode cL_through 31 = .ok (.if_icmp .ge 8, 3) := by decide +kernel
theorem dL_through_34 : decode cL_through 34 = .ok (.bipush 99, 2) := by decide +kernel
theorem dL_through_36 : decode cL_through 36 = .ok (.goto 4, 3) := by decide +kernel
theorem dL_through_39 : decode cL_through 39 = .ok (.iconst 0, 1) := by decide +kernel
theorem dL_through_40 : decode cL_through 40 = .ok (.iastore, 1) := by decide +kernel
theorem dL_through_41 : decode cL_through 41 = .ok (.iinc 6 1, 3) := by decide +kernel
theorem dL_through_44 : decode cL_through 44 = .ok (.goto (-27), 3) := by decide +kernel
theorem dL_through_47 : decode cL_through 47 = .ok (.iconst 0, 1) := by decide +kernel
theorem dL_through_48 : decode cL_through 48 = .ok (.istore 6, 2) := by decide +kernel
theorem dL_through_50 : decode cL_through 50 = .ok (.iload 6, 2) := by decide +kernel
theorem dL_through_52 : decode cL_through 52 = .ok (.bipush 16, 2) := by decide +kernel
theorem dL_through_54 : decode cL_through 54 = .ok (.if_icmp .ge 147, 3) := by decide +kernel
theorem dL_through_57 : decode cL_through 57 = .ok (.iconst 0, 1) := by decide +kernel
theorem dL_through_58 : decode cL_through 58 = .ok (.istore 7, 2) := by decide +kernel
theorem dL_through_60 : decode cL_through 60 = .ok (.iload 7, 2) := by decide +kernel
theorem dL_through_62 : decode cL_through 62 = .ok (.iload_n 1, 1) := by decide +kernel
theorem dL_through_63 : decode cL_through 63 = .ok (.if_icmp .ge 132, 3) := by decide +kernel
theorem dL_through_66 : decode cL_through 66 = .ok (.iload 7, 2) := by decide +kernel
theorem dL_through_68 : decode cL_through 68 = .ok (.iload_n 2, 1) := by decide +kernel
theorem dL_through_69 : decode cL_through 69 = .ok (.if_icmp .eq 120, 3) := by decide +kernel
theorem dL_through_72 : decode cL_through 72 = .ok (.aload_n 0, 1) := by decide +kernel
theorem dL_through_73 : decode cL_through 73 = .ok (.iload 7, 2) := by decide +kernel
theorem dL_through_75 : decode cL_through 75 = .ok (.invokestatic 42, 3) := by decide +kernel
theorem dL_through_78 : decode cL_through 78 = .ok (.ifCond .ne 6, 3) := by decide +kernel
theorem dL_through_81 : decode cL_through 81 = .ok (.goto 108, 3) := by decide +kernel
theorem dL_through_84 : decode cL_through 84 = .ok (.aload_n 0, 1) := by decide +kernel
theorem dL_through_85 : decode cL_through 85 = .ok (.iconst 3, 1) := by decide +kernel
theorem dL_through_86 : decode cL_through 86 = .ok (.iload 7, 2) := by decide +kernel
theorem dL_through_88 : decode cL_through 88 = .ok (.imul, 1) := by decide +kernel
theorem dL_through_89 : decode cL_through 89 = .ok (.iaload, 1) := by decide +kernel
theorem dL_through_90 : decode cL_through 90 = .ok (.istore 8, 2) := by decide +kernel
theorem dL_through_92 : decode cL_through 92 = .ok (.aload_n 0, 1) := by decide +kernel
theorem dL_through_93 : decode cL_through 93 = .ok (.iconst 3, 1) := by decide +kernel
theorem dL_through_94 : decode cL_through 94 = .ok (.iload 7, 2) := by decide +kernel
theorem dL_through_96 : decode cL_through 96 = .ok (.imul, 1) := by decide +kernel
theorem dL_through_97 : decode cL_through 97 = .ok (.iconst 1, 1) := by decide +kernel
theorem dL_through_98 : decode cL_through 98 = .ok (.iadd, 1) := by decide +kernel
theorem dL_through_99 : decode cL_through 99 = .ok (.iaload, 1) := by decide +kernel
theorem dL_through_100 : decode cL_through 100 = .ok (.istore 9, 2) := by decide +kernel
theorem dL_through_102 : decode cL_through 102 = .ok (.aload 4, 2) := by decide +kernel
theorem dL_through_104 : decode cL_through 104 = .ok (.iload 8, 2) := by decide +kernel
theorem dL_through_106 : decode cL_through 106 = .ok (.iaload, 1) := by decide +kernel
theorem dL_through_107 : decode cL_through 107 = .ok (.ifCond .eq 42, 3) := by decide +kernel
theorem dL_through_110 : decode cL_through 110 = .ok (.aload 4, 2) := by decide +kernel
theorem dL_through_112 : decode cL_through 112 = .ok (.iload 9, 2) := by decide +kernel
theorem dL_through_114 : decode cL_through 114 = .ok (.iaload, 1) := by decide +kernel
theorem dL_through_115 : decode cL_through 115 = .ok (.ifCond .ne 34, 3) := by decide +kernel
theorem dL_through_118 : decode cL_through 118 = .ok (.aload_n 3, 1) := by decide +kernel
theorem dL_through_119 : decode cL_through 119 = .ok (.iload 7, 2) := by decide +kernel
theorem dL_through_121 : decode cL_through 121 = .ok (.iaload, 1) := by decide +kernel
theorem dL_through_122 : decode cL_through 122 = .ok (.aload_n 0, 1) := by decide +kernel
theorem dL_through_123 : decode cL_through 123 = .ok (.iconst 3, 1) := by decide +kernel
theorem dL_through_124 : decode cL_through 124 = .ok (.iload 7, 2) := by decide +kernel
theorem dL_through_126 : decode cL_through 126 = .ok (.imul, 1) := by decide +kernel
theorem dL_through_127 : decode cL_through 127 = .ok (.iconst 2, 1) := by decide +kernel
theorem dL_through_128 : decode cL_through 128 = .ok (.iadd, 1) := by decide +kernel
theorem dL_through_129 : decode cL_through 129 = .ok (.iaload, 1) := by decide +kernel
theorem dL_through_130 : decode cL_through 130 = .ok (.if_icmp .ge 19, 3) := by decide +kernel
theorem dL_through_133 : decode cL_through 133 = .ok (.iload 8, 2) := by decide +kernel
theorem dL_through_135 : decode cL_through 135 = .ok (.bipush 12, 2) := by decide +kernel
theorem dL_through_137 : decode cL_through 137 = .ok (.if_icmp .ge 12, 3) := by decide +kernel
theorem dL_through_140 : decode cL_through 140 = .ok (.aload 4, 2) := by decide +kernel
theorem dL_through_142 : decode cL_through 142 = .ok (.iload 9, 2) := by decide +kernel
theorem dL_through_144 : decode cL_through 144 = .ok (.iload 7, 2) := by decide +kernel
theorem dL_through_146 : decode cL_through 146 = .ok (.iconst 1, 1) := by decide +kernel
theorem dL_through_147 : decode cL_through 147 = .ok (.iadd, 1) := by decide +kernel
theorem dL_through_148 : decode cL_through 148 = .ok (.iastore, 1) := by decide +kernel
theorem dL_through_149 : decode cL_through 149 = .ok (.aload 4, 2) := by decide +kernel
theorem dL_through_151 : decode cL_through 151 = .ok (.iload 9, 2) := by decide +kernel
theorem dL_through_153 : decode cL_through 153 = .ok (.iaload, 1) := by decide +kernel
theorem dL_through_154 : decode cL_through 154 = .ok (.ifCond .eq 35, 3) := by decide +kernel
theorem dL_through_157 : decode cL_through 157 = .ok (.aload 4, 2) := by decide +kernel
theorem dL_through_159 : decode cL_through 159 = .ok (.iload 8, 2) := by decide +kernel
theorem dL_through_161 : decode cL_through 161 = .ok (.iaload, 1) := by decide +kernel
theorem dL_through_162 : decode cL_through 162 = .ok (.ifCond .ne 27, 3) := by decide +kernel
theorem dL_through_165 : decode cL_through 165 = .ok (.aload_n 3, 1) := by decide +kernel
theorem dL_through_166 : decode cL_through 166 = .ok (.iload 7, 2) := by decide +kernel
theorem dL_through_168 : decode cL_through 168 = .ok (.iaload, 1) := by decide +kernel
theorem dL_through_169 : decode cL_through 169 = .ok (.ifCond .le 20, 3) := by decide +kernel
theorem dL_through_172 : decode cL_through 172 = .ok (.iload 9, 2) := by decide +kernel
theorem dL_through_174 : decode cL_through 174 = .ok (.bipush 12, 2) := by decide +kernel
theorem dL_through_176 : decode cL_through 176 = .ok (.if_icmp .ge 13, 3) := by decide +kernel
theorem dL_through_179 : decode cL_through 179 = .ok (.aload 4, 2) := by decide +kernel
theorem dL_through_181 : decode cL_through 181 = .ok (.iload 8, 2) := by decide +kernel
theorem dL_through_183 : decode cL_through 183 = .ok (.iload 7, 2) := by decide +kernel
theorem dL_through_185 : decode cL_through 185 = .ok (.ineg, 1) := by decide +kernel
theorem dL_through_186 : decode cL_through 186 = .ok (.iconst 1, 1) := by decide +kernel
theorem dL_through_187 : decode cL_through 187 = .ok (.isub, 1) := by decide +kernel
theorem dL_through_188 : decode cL_through 188 = .ok (.iastore, 1) := by decide +kernel
theorem dL_through_189 : decode cL_through 189 = .ok (.iinc 7 1, 3) := by decide +kernel
theorem dL_through_192 : decode cL_through 192 = .ok (.goto (-132), 3) := by decide +kernel
theorem dL_through_195 : decode cL_through 195 = .ok (.iinc 6 1, 3) := by decide +kernel
theorem dL_through_198 : decode cL_through 198 = .ok (.goto (-148), 3) := by decide +kernel
theorem dL_through_201 : decode cL_through 201 = .ok (.bipush 12, 2) := by decide +kernel
theorem dL_through_203 : decode cL_through 203 = .ok (.istore 6, 2) := by decide +kernel
theorem dL_through_205 : decode cL_through 205 = .ok (.iload 6, 2) := by decide +kernel
theorem dL_through_207 : decode cL_through 207 = .ok (.bipush 16, 2) := by decide +kernel
theorem dL_through_209 : decode cL_through 209 = .ok (.if_icmp .ge 17, 3) := by decide +kernel
theorem dL_through_212 : decode cL_through 212 = .ok (.aload 4, 2) := by decide +kernel
theorem dL_through_214 : decode cL_through 214 = .ok (.iload 6, 2) := by decide +kernel
theorem dL_through_216 : decode cL_through 216 = .ok (.iaload, 1) := by decide +kernel
theorem dL_through_217 : decode cL_through 217 = .ok (.ifCond .ne 9, 3) := by decide +kernel
theorem dL_through_220 : decode cL_through 220 = .ok (.iinc 6 1, 3) := by decide +kernel
theorem dL_through_223 : decode cL_through 223 = .ok (.goto (-18), 3) := by decide +kernel
theorem dL_through_226 : decode cL_through 226 = .ok (.iload 6, 2) := by decide +kernel
theorem dL_through_228 : decode cL_through 228 = .ok (.bipush 16, 2) := by decide +kernel
theorem dL_through_230 : decode cL_through 230 = .ok (.if_icmp .ne 6, 3) := by decide +kernel
theorem dL_through_233 : decode cL_through 233 = .ok (.iload 5, 2) := by decide +kernel
theorem dL_through_235 : decode cL_through 235 = .ok (.ireturn, 1) := by decide +kernel
theorem dL_through_236 : decode cL_through 236 = .ok (.iload 6, 2) := by decide +kernel
theorem dL_through_238 : decode cL_through 238 = .ok (.istore 7, 2) := by decide +kernel
theorem dL_through_240 : decode cL_through 240 = .ok (.aload 4, 2) := by decide +kernel
theorem dL_through_242 : decode cL_through 242 = .ok (.iload 7, 2) := by decide +kernel
theorem dL_through_244 : decode cL_through 244 = .ok (.iaload, 1) := by decide +kernel
theorem dL_through_245 : decode cL_through 245 = .ok (.bipush 99, 2) := by decide +kernel
theorem dL_through_247 : decode cL_through 247 = .ok (.if_icmp .eq 81, 3) := by decide +kernel
theorem dL_through_250 : decode cL_through 250 = .ok (.aload 4, 2) := by decide +kernel
theorem dL_through_252 : decode cL_through 252 = .ok (.iload 7, 2) := by decide +kernel
theorem dL_through_254 : decode cL_through 254 = .ok (.iaload, 1) := by decide +kernel
theorem dL_through_255 : decode cL_through 255 = .ok (.ifCond .le 13, 3) := by decide +kernel
theorem dL_through_258 : decode cL_through 258 = .ok (.aload 4, 2) := by decide +kernel
theorem dL_through_260 : decode cL_through 260 = .ok (.iload 7, 2) := by decide +kernel
theorem dL_through_262 : decode cL_through 262 = .ok (.iaload, 1) := by decide +kernel
theorem dL_through_263 : decode cL_through 263 = .ok (.iconst 1, 1) := by decide +kernel
theorem dL_through_264 : decode cL_through 264 = .ok (.isub, 1) := by decide +kernel
theorem dL_through_265 : decode cL_through 265 = .ok (.goto 11, 3) := by decide +kernel
theorem dL_through_268 : decode cL_through 268 = .ok (.aload 4, 2) := by decide +kernel
theorem dL_through_270 : decode cL_through 270 = .ok (.iload 7, 2) := by decide +kernel
theorem dL_through_272 : decode cL_through 272 = .ok (.iaload, 1) := by decide +kernel
theorem dL_through_273 : decode cL_through 273 = .ok (.ineg, 1) := by decide +kernel
theorem dL_through_274 : decode cL_through 274 = .ok (.iconst 1, 1) := by decide +kernel
theorem dL_through_275 : decode cL_through 275 = .ok (.isub, 1) := by decide +kernel
theorem dL_through_276 : decode cL_through 276 = .ok (.istore 8, 2) := by decide +kernel
theorem dL_through_278 : decode cL_through 278 = .ok (.aload_n 3, 1) := by decide +kernel
theorem dL_through_279 : decode cL_through 279 = .ok (.iload 8, 2) := by decide +kernel
theorem dL_through_281 : decode cL_through 281 = .ok (.dup2, 1) := by decide +kernel
theorem dL_through_282 : decode cL_through 282 = .ok (.iaload, 1) := by decide +kernel
theorem dL_through_283 : decode cL_through 283 = .ok (.aload 4, 2) := by decide +kernel
theorem dL_through_285 : decode cL_through 285 = .ok (.iload 7, 2) := by decide +kernel
theorem dL_through_287 : decode cL_through 287 = .ok (.iaload, 1) := by decide +kernel
theorem dL_through_288 : decode cL_through 288 = .ok (.ifCond .le 7, 3) := by decide +kernel
theorem dL_through_291 : decode cL_through 291 = .ok (.iconst 1, 1) := by decide +kernel
theorem dL_through_292 : decode cL_through 292 = .ok (.goto 4, 3) := by decide +kernel
theorem dL_through_295 : decode cL_through 295 = .ok (.iconst (-1), 1) := by decide +kernel
theorem dL_through_296 : decode cL_through 296 = .ok (.iadd, 1) := by decide +kernel
theorem dL_through_297 : decode cL_through 297 = .ok (.iastore, 1) := by decide +kernel
theorem dL_through_298 : decode cL_through 298 = .ok (.aload 4, 2) := by decide +kernel
theorem dL_through_300 : decode cL_through 300 = .ok (.iload 7, 2) := by decide +kernel
theorem dL_through_302 : decode cL_through 302 = .ok (.iaload, 1) := by decide +kernel
theorem dL_through_303 : decode cL_through 303 = .ok (.ifCond .le 12, 3) := by decide +kernel
theorem dL_through_306 : decode cL_through 306 = .ok (.aload_n 0, 1) := by decide +kernel
theorem dL_through_307 : decode cL_through 307 = .ok (.iconst 3, 1) := by decide +kernel
theorem dL_through_308 : decode cL_through 308 = .ok (.iload 8, 2) := by decide +kernel
theorem dL_through_310 : decode cL_through 310 = .ok (.imul, 1) := by decide +kernel
theorem dL_through_311 : decode cL_through 311 = .ok (.iaload, 1) := by decide +kernel
theorem dL_through_312 : decode cL_through 312 = .ok (.goto 11, 3) := by decide +kernel
theorem dL_through_315 : decode cL_through 315 = .ok (.aload_n 0, 1) := by decide +kernel
theorem dL_through_316 : decode cL_through 316 = .ok (.iconst 3, 1) := by decide +kernel
theorem dL_through_317 : decode cL_through 317 = .ok (.iload 8, 2) := by decide +kernel
theorem dL_through_319 : decode cL_through 319 = .ok (.imul, 1) := by decide +kernel
theorem dL_through_320 : decode cL_through 320 = .ok (.iconst 1, 1) := by decide +kernel
theorem dL_through_321 : decode cL_through 321 = .ok (.iadd, 1) := by decide +kernel
theorem dL_through_322 : decode cL_through 322 = .ok (.iaload, 1) := by decide +kernel
theorem dL_through_323 : decode cL_through 323 = .ok (.istore 7, 2) := by decide +kernel
theorem dL_through_325 : decode cL_through 325 = .ok (.goto (-85), 3) := by decide +kernel
theorem dL_through_328 : decode cL_through 328 = .ok (.iinc 5 1, 3) := by decide +kernel
theorem dL_through_331 : decode cL_through 331 = .ok (.goto (-317), 3) := by decide +kernel
set_option maxRecDepth 20000 in
theorem ggL_sweep_L_goesOn : GoodIn wsL_sweep wsL_goesOn := goodIn_r _ [6] (by decide +kernel) (by decide +kernel)
set_option maxRecDepth 20000 in
theorem gL_sweep_L_goesOn : GoodIn wsL_sweep (va_wsS RL 42 yL_goesOn wsL_goesOn) := goodIn_app (goodIn_of _ (by decide +kernel)) ggL_sweep_L_goesOn
theorem dL_sweep_0 : decode cL_sweep 0 = .ok (.iconst 1, 1) := by decide +kernel
theorem dL_sweep_1 : decode cL_sweep 1 = .ok (.istore_n 3, 1) := by decide +kernel
theorem dL_sweep_2 : decode cL_sweep 2 = .ok (.iload_n 3, 1) := by decide +kernel
theorem dL_sweep_3 : decode cL_sweep 3 = .ok (.iconst 4, 1) := by decide +kernel
theorem dL_sweep_4 : decode cL_sweep 4 = .ok (.if_icmp .ge 252, 3) := by decide +kernel
theorem dL_sweep_7 : decode cL_sweep 7 = .ok (.iconst 4, 1) := by decide +kernel
theorem dL_sweep_8 : decode cL_sweep 8 = .ok (.newarray .int, 2) := by decide +kernel
theorem dL_sweep_10 : decode cL_sweep 10 = .ok (.astore 4, 2) := by decide +kernel
theorem dL_sweep_12 : decode cL_sweep 12 = .ok (.iconst 4, 1) := by decide +kernel
theorem dL_sweep_13 : decode cL_sweep 13 = .ok (.newarray .int, 2) := by decide +kernel
theorem dL_sweep_15 : decode cL_sweep 15 = .ok (.astore 5, 2) := by decide +kernel
theorem dL_sweep_17 : decode cL_sweep 17 = .ok (.iconst 0, 1) := by decide +kernel
theorem dL_sweep_18 : decode cL_sweep 18 = .ok (.istore 6, 2) := by decide +kernel
theorem dL_sweep_20 : decode cL_sweep 20 = .ok (.iload 6, 2) := by decide +kernel
theorem dL_sweep_22 : decode cL_sweep 22 = .ok (.iconst 4, 1) := by decide +kernel
theorem dL_sweep_23 : decode cL_sweep 23 = .ok (.if_icmp .ge 120, 3) := by decide +kernel
theorem dL_sweep_26 : decode cL_sweep 26 = .ok (.iconst 0, 1) := by decide +kernel
theorem dL_sweep_27 : decode cL_sweep 27 = .ok (.istore 7, 2) := by decide +kernel
theorem dL_sweep_29 : decode cL_sweep 29 = .ok (.iconst 0, 1) := by decide +kernel
theorem dL_sweep_30 : decode cL_sweep 30 = .ok (.istore 8, 2) := by decide +kernel
theorem dL_sweep_32 : decode cL_sweep 32 = .ok (.iconst 0, 1) := by decide +kernel
theorem dL_sweep_33 : decode cL_sweep 33 = .ok (.istore 9, 2) := by decide +kernel
theorem dL_sweep_35 : decode cL_sweep 35 = .ok (.iload 9, 2) := by decide +kernel
theorem dL_sweep_37 : decode cL_sweep 37 = .ok (.iload_n 2, 1) := by decide +kernel
theorem dL_sweep_38 : decode cL_sweep 38 = .ok (.if_icmp .ge 54, 3) := by decide +kernel
theorem dL_sweep_41 : decode cL_sweep 41 = .ok (.aload_n 0, 1) := by decide +kernel
theorem dL_sweep_42 : decode cL_sweep 42 = .ok (.iload 9, 2) := by decide +kernel
theorem dL_sweep_44 : decode cL_sweep 44 = .ok (.invokestatic 42, 3) := by decide +kernel
theorem dL_sweep_47 : decode cL_sweep 47 = .ok (.ifCond .eq 39, 3) := by decide +kernel
theorem dL_sweep_50 : decode cL_sweep 50 = .ok (.aload_n 0, 1) := by decide +kernel
theorem dL_sweep_51 : decode cL_sweep 51 = .ok (.iconst 3, 1) := by decide +kernel
theorem dL_sweep_52 : decode cL_sweep 52 = .ok (.iload 9, 2) := by decide +kernel
theorem dL_sweep_54 : decode cL_sweep 54 = .ok (.imul, 1) := by decide +kernel
theorem dL_sweep_55 : decode cL_sweep 55 = .ok (.iconst 1, 1) := by decide +kernel
theorem dL_sweep_56 : decode cL_sweep 56 = .ok (.iadd, 1) := by decide +kernel
theorem dL_sweep_57 : decode cL_sweep 57 = .ok (.iaload, 1) := by decide +kernel
theorem dL_sweep_58 : decode cL_sweep 58 = .ok (.iconst 4, 1) := by decide +kernel
theorem dL_sweep_59 : decode cL_sweep 59 = .ok (.iload_n 3, 1) := by decide +kernel
theorem dL_sweep_60 : decode cL_sweep 60 = .ok (.imul, 1) := by decide +kernel
theorem dL_sweep_61 : decode cL_sweep 61 = .ok (.iload 6, 2) := by decide +kernel
theorem dL_sweep_63 : decode cL_sweep 63 = .ok (.iadd, 1) := by decide +kernel
theorem dL_sweep_64 : decode cL_sweep 64 = .ok (.if_icmp .eq 6, 3) := by decide +kernel
theorem dL_sweep_67 : decode cL_sweep 67 = .ok (.goto 19, 3) := by decide +kernel
theorem dL_sweep_70 : decode cL_sweep 70 = .ok (.iload 7, 2) := by decide +kernel
theorem dL_sweep_72 : decode cL_sweep 72 = .ok (.aload_n 1, 1) := by decide +kernel
theorem dL_sweep_73 : decode cL_sweep 73 = .ok (.aload_n 0, 1) := by decide +kernel
theorem dL_sweep_74 : decode cL_sweep 74 = .ok (.iconst 3, 1) := by decide +kernel
theorem dL_sweep_75 : decode cL_sweep 75 = .ok (.iload 9, 2) := by decide +kernel
theorem dL_sweep_77 : decode cL_sweep 77 = .ok (.imul, 1) := by decide +kernel
theorem dL_sweep_78 : decode cL_sweep 78 = .ok (.iaload, 1) := by decide +kernel
theorem dL_sweep_79 : decode cL_sweep 79 = .ok (.iaload, 1) := by decide +kernel
theorem dL_sweep_80 : decode cL_sweep 80 = .ok (.iadd, 1) := by decide +kernel
theorem dL_sweep_81 : decode cL_sweep 81 = .ok (.istore 7, 2) := by decide +kernel
theorem dL_sweep_83 : decode cL_sweep 83 = .ok (.iinc 8 1, 3) := by decide +kernel
theorem dL_sweep_86 : decode cL_sweep 86 = .ok (.iinc 9 1, 3) := by decide +kernel
theorem dL_sweep_89 : decode cL_sweep 89 = .ok (.goto (-54), 3) := by decide +kernel
theorem dL_sweep_92 : decode cL_sweep 92 = .ok (.aload 4, 2) := by decide +kernel
theorem dL_sweep_94 : decode cL_sweep 94 = .ok (.aload_n 1, 1) := by decide +kernel
theorem dL_sweep_95 : decode cL_sweep 95 = .ok (.iconst 4, 1) := by decide +kernel
theorem dL_sweep_96 : decode cL_sweep 96 = .ok (.iload_n 3, 1) := by decide +kernel
theorem dL_sweep_97 : decode cL_sweep 97 = .ok (.imul, 1) := by decide +kernel
theorem dL_sweep_98 : decode cL_sweep 98 = .ok (.iload 6, 2) := by decide +kernel
theorem dL_sweep_100 : decode cL_sweep 100 = .ok (.iadd, 1) := by decide +kernel
theorem dL_sweep_101 : decode cL_sweep 101 = .ok (.iaload, 1) := by decide +kernel
theorem dL_sweep_102 : decode cL_sweep 102 = .ok (.iload 6, 2) := by decide +kernel
theorem dL_sweep_104 : decode cL_sweep 104 = .ok (.iastore, 1) := by decide +kernel
theorem dL_sweep_105 : decode cL_sweep 105 = .ok (.aload 5, 2) := by decide +kernel
theorem dL_sweep_107 : decode cL_sweep 107 = .ok (.iload 6, 2) := by decide +kernel
theorem dL_sweep_109 : decode cL_sweep 109 = .ok (.iload 8, 2) := by decide +kernel
theorem dL_sweep_111 : decode cL_sweep 111 = .ok (.ifCond .ne 17, 3) := by decide +kernel
theorem dL_sweep_114 : decode cL_sweep 114 = .ok (.ldc 60, 2) := by decide +kernel
theorem dL_sweep_116 : decode cL_sweep 116 = .ok (.aload_n 1, 1) := by decide +kernel
theorem dL_sweep_117 : decode cL_sweep 117 = .ok (.iconst 4, 1) := by decide +kernel
theorem dL_sweep_118 : decode cL_sweep 118 = .ok (.iload_n 3, 1) := by decide +kernel
theorem dL_sweep_119 : decode cL_sweep 119 = .ok (.imul, 1) := by decide +kernel
theorem dL_sweep_120 : decode cL_sweep 120 = .ok (.iload 6, 2) := by decide +kernel
theorem dL_sweep_122 : decode cL_sweep 122 = .ok (.iadd, 1) := by decide +kernel
theorem dL_sweep_123 : decode cL_sweep 123 = .ok (.iaload, 1) := by decide +kernel
theorem dL_sweep_124 : decode cL_sweep 124 = .ok (.imul, 1) := by decide +kernel
theorem dL_sweep_125 : decode cL_sweep 125 = .ok (.goto 11, 3) := by decide +kernel
theorem dL_sweep_128 : decode cL_sweep 128 = .ok (.ldc 60, 2) := by decide +kernel
theorem dL_sweep_130 : decode cL_sweep 130 = .ok (.iload 8, 2) := by decide +kernel
theorem dL_sweep_132 : decode cL_sweep 132 = .ok (.idiv, 1) := by decide +kernel
theorem dL_sweep_133 : decode cL_sweep 133 = .ok (.iload 7, 2) := by decide +kernel
theorem dL_sweep_135 : decode cL_sweep 135 = .ok (.imul, 1) := by decide +kernel
theorem dL_sweep_136 : decode cL_sweep 136 = .ok (.iastore, 1) := by decide +kernel
theorem dL_sweep_137 : decode cL_sweep 137 = .ok (.iinc 6 1, 3) := by decide +kernel
theorem dL_sweep_140 : decode cL_sweep 140 = .ok (.goto (-120), 3) := by decide +kernel
theorem dL_sweep_143 : decode cL_sweep 143 = .ok (.iconst 1, 1) := by decide +kernel
theorem dL_sweep_144 : decode cL_sweep 144 = .ok (.istore 6, 2) := by decide +kernel
theorem dL_sweep_146 : decode cL_sweep 146 = .ok (.iload 6, 2) := by decide +kernel
theorem dL_sweep_148 : decode cL_sweep 148 = .ok (.iconst 4, 1) := by decide +kernel
theorem dL_sweep_149 : decode cL_sweep 149 = .ok (.if_icmp .ge 73, 3) := by decide +kernel
theorem dL_sweep_152 : decode cL_sweep 152 = .ok (.iload 6, 2) := by decide +kernel
theorem dL_sweep_154 : decode cL_sweep 154 = .ok (.istore 7, 2) := by decide +kernel
theorem dL_sweep_156 : decode cL_sweep 156 = .ok (.iload 7, 2) := by decide +kernel
theorem dL_sweep_158 : decode cL_sweep 158 = .ok (.ifCond .le 58, 3) := by decide +kernel
theorem dL_sweep_161 : decode cL_sweep 161 = .ok (.aload 5, 2) := by decide +kernel
theorem dL_sweep_163 : decode cL_sweep 163 = .ok (.aload 4, 2) := by decide +kernel
theorem dL_sweep_165 : decode cL_sweep 165 = .ok (.iload 7, 2) := by decide +kernel
theorem dL_sweep_167 : decode cL_sweep 167 = .ok (.iaload, 1) := by decide +kernel
theorem dL_sweep_168 : decode cL_sweep 168 = .ok (.iaload, 1) := by decide +kernel
theorem dL_sweep_169 : decode cL_sweep 169 = .ok (.aload 5, 2) := by decide +kernel
theorem dL_sweep_171 : decode cL_sweep 171 = .ok (.aload 4, 2) := by decide +kernel
theorem dL_sweep_173 : decode cL_sweep 173 = .ok (.iload 7, 2) := by decide +kernel
theorem dL_sweep_175 : decode cL_sweep 175 = .ok (.iconst 1, 1) := by decide +kernel
theorem dL_sweep_176 : decode cL_sweep 176 = .ok (.isub, 1) := by decide +kernel
theorem dL_sweep_177 : decode cL_sweep 177 = .ok (.iaload, 1) := by decide +kernel
theorem dL_sweep_178 : decode cL_sweep 178 = .ok (.iaload, 1) := by decide +kernel
theorem dL_sweep_179 : decode cL_sweep 179 = .ok (.if_icmp .ge 37, 3) := by decide +kernel
theorem dL_sweep_182 : decode cL_sweep 182 = .ok (.aload 4, 2) := by decide +kernel
theorem dL_sweep_184 : decode cL_sweep 184 = .ok (.iload 7, 2) := by decide +kernel
theorem dL_sweep_186 : decode cL_sweep 186 = .ok (.iaload, 1) := by decide +kernel
theorem dL_sweep_187 : decode cL_sweep 187 = .ok (.istore 8, 2) := by decide +kernel
theorem dL_sweep_189 : decode cL_sweep 189 = .ok (.aload 4, 2) := by decide +kernel
theorem dL_sweep_191 : decode cL_sweep 191 = .ok (.iload 7, 2) := by decide +kernel
theorem dL_sweep_193 : decode cL_sweep 193 = .ok (.aload 4, 2) := by decide +kernel
theorem dL_sweep_195 : decode cL_sweep 195 = .ok (.iload 7, 2) := by decide +kernel
theorem dL_sweep_197 : decode cL_sweep 197 = .ok (.iconst 1, 1) := by decide +kernel
theorem dL_sweep_198 : decode cL_sweep 198 = .ok (.isub, 1) := by decide +kernel
theorem dL_sweep_199 : decode cL_sweep 199 = .ok (.iaload, 1) := by decide +kernel
theorem dL_sweep_200 : decode cL_sweep 200 = .ok (.iastore, 1) := by decide +kernel
theorem dL_sweep_201 : decode cL_sweep 201 = .ok (.aload 4, 2) := by decide +kernel
theorem dL_sweep_203 : decode cL_sweep 203 = .ok (.iload 7, 2) := by decide +kernel
theorem dL_sweep_205 : decode cL_sweep 205 = .ok (.iconst 1, 1) := by decide +kernel
theorem dL_sweep_206 : decode cL_sweep 206 = .ok (.isub, 1) := by decide +kernel
theorem dL_sweep_207 : decode cL_sweep 207 = .ok (.iload 8, 2) := by decide +kernel
theorem dL_sweep_209 : decode cL_sweep 209 = .ok (.iastore, 1) := by decide +kernel
theorem dL_sweep_210 : decode cL_sweep 210 = .ok (.iinc 7 (-1), 3) := by decide +kernel
theorem dL_sweep_213 : decode cL_sweep 213 = .ok (.goto (-57), 3) := by decide +kernel
theorem dL_sweep_216 : decode cL_sweep 216 = .ok (.iinc 6 1, 3) := by decide +kernel
theorem dL_sweep_219 : decode cL_sweep 219 = .ok (.goto (-73), 3) := by decide +kernel
theorem dL_sweep_222 : decode cL_sweep 222 = .ok (.iconst 0, 1) := by decide +kernel
theorem dL_sweep_223 : decode cL_sweep 223 = .ok (.istore 6, 2) := by decide +kernel
theorem dL_sweep_225 : decode cL_sweep 225 = .ok (.iload 6, 2) := by decide +kernel
theorem dL_sweep_227 : decode cL_sweep 227 = .ok (.iconst 4, 1) := by decide +kernel
theorem dL_sweep_228 : decode cL_sweep 228 = .ok (.if_icmp .ge 22, 3) := by decide +kernel
theorem dL_sweep_231 : decode cL_sweep 231 = .ok (.aload_n 1, 1) := by decide +kernel
theorem dL_sweep_232 : decode cL_sweep 232 = .ok (.iconst 4, 1) := by decide +kernel
theorem dL_sweep_233 : decode cL_sweep 233 = .ok (.iload_n 3, 1) := by decide +kernel
theorem dL_sweep_234 : decode cL_sweep 234 = .ok (.imul, 1) := by decide +kernel
theorem dL_sweep_235 : decode cL_sweep 235 = .ok (.aload 4, 2) := by decide +kernel
theorem dL_sweep_237 : decode cL_sweep 237 = .ok (.iload 6, 2) := by decide +kernel
theorem dL_sweep_239 : decode cL_sweep 239 = .ok (.iaload, 1) := by decide +kernel
theorem dL_sweep_240 : decode cL_sweep 240 = .ok (.iadd, 1) := by decide +kernel
theorem dL_sweep_241 : decode cL_sweep 241 = .ok (.iload 6, 2) := by decide +kernel
theorem dL_sweep_243 : decode cL_sweep 243 = .ok (.iastore, 1) := by decide +kernel
theorem dL_sweep_244 : decode cL_sweep 244 = .ok (.iinc 6 1, 3) := by decide +kernel
theorem dL_sweep_247 : decode cL_sweep 247 = .ok (.goto (-22), 3) := by decide +kernel
theorem dL_sweep_250 : decode cL_sweep 250 = .ok (.iinc 3 1, 3) := by decide +kernel
theorem dL_sweep_253 : decode cL_sweep 253 = .ok (.goto (-251), 3) := by decide +kernel
theorem dL_sweep_256 : decode cL_sweep 256 = .ok (.return_, 1) := by decide +kernel
set_option maxRecDepth 20000 in
theorem ggL_bestOrder_L_crossings : GoodIn wsL_bestOrder wsL_crossings := goodIn_r _ [5, 6, 7, 4, 8, 9, 10, 11] (by decide +kernel) (by decide +kernel)
set_option maxRecDepth 20000 in
theorem gL_bestOrder_L_crossings : GoodIn wsL_bestOrder (va_wsS RL 61 yL_crossings wsL_crossings) := goodIn_app (goodIn_of _ (by decide +kernel)) ggL_bestOrder_L_crossings
theorem dL_bestOrder_0 : decode cL_bestOrder 0 = .ok (.bipush 16, 2) := by decide +kernel
theorem dL_bestOrder_2 : decode cL_bestOrder 2 = .ok (.newarray .int, 2) := by decide +kernel
theorem dL_bestOrder_4 : decode cL_bestOrder 4 = .ok (.astore 4, 2) := by decide +kernel
theorem dL_bestOrder_6 : decode cL_bestOrder 6 = .ok (.iconst (-1), 1) := by decide +kernel
theorem dL_bestOrder_7 : decode cL_bestOrder 7 = .ok (.istore 5, 2) := by decide +kernel
theorem dL_bestOrder_9 : decode cL_bestOrder 9 = .ok (.iconst 0, 1) := by decide +kernel
theorem dL_bestOrder_10 : decode cL_bestOrder 10 = .ok (.istore 6, 2) := by decide +kernel
theorem dL_bestOrder_12 : decode cL_bestOrder 12 = .ok (.iconst 0, 1) := by decide +kernel
theorem dL_bestOrder_13 : decode cL_bestOrder 13 = .ok (.istore 7, 2) := by decide +kernel
theorem dL_bestOrder_15 : decode cL_bestOrder 15 = .ok (.iload 7, 2) := by decide +kernel
theorem dL_bestOrder_17 : decode cL_bestOrder 17 = .ok (.sipush 10000, 3) := by decide +kernel
theorem dL_bestOrder_20 : decode cL_bestOrder 20 = .ok (.if_icmp .ge 139, 3) := by decide +kernel
theorem dL_bestOrder_23 : decode cL_bestOrder 23 = .ok (.iconst 0, 1) := by decide +kernel
theorem dL_bestOrder_24 : decode cL_bestOrder 24 = .ok (.istore 8, 2) := by decide +kernel
theorem dL_bestOrder_26 : decode cL_bestOrder 26 = .ok (.iconst 0, 1) := by decide +kernel
theorem dL_bestOrder_27 : decode cL_bestOrder 27 = .ok (.istore 9, 2) := by decide +kernel
theorem dL_bestOrder_29 : decode cL_bestOrder 29 = .ok (.iload 9, 2) := by decide +kernel
theorem dL_bestOrder_31 : decode cL_bestOrder 31 = .ok (.bipush 16, 2) := by decide +kernel
theorem dL_bestOrder_33 : decode cL_bestOrder 33 = .ok (.if_icmp .ge 18, 3) := by decide +kernel
theorem dL_bestOrder_36 : decode cL_bestOrder 36 = .ok (.aload 4, 2) := by decide +kernel
theorem dL_bestOrder_38 : decode cL_bestOrder 38 = .ok (.iload 9, 2) := by decide +kernel
theorem dL_bestOrder_40 : decode cL_bestOrder 40 = .ok (.aload_n 1, 1) := by decide +kernel
theorem dL_bestOrder_41 : decode cL_bestOrder 41 = .ok (.iload 9, 2) := by decide +kernel
theorem dL_bestOrder_43 : decode cL_bestOrder 43 = .ok (.iaload, 1) := by decide +kernel
theorem dL_bestOrder_44 : decode cL_bestOrder 44 = .ok (.iastore, 1) := by decide +kernel
theorem dL_bestOrder_45 : decode cL_bestOrder 45 = .ok (.iinc 9 1, 3) := by decide +kernel
theorem dL_bestOrder_48 : decode cL_bestOrder 48 = .ok (.goto (-19), 3) := by decide +kernel
theorem dL_bestOrder_51 : decode cL_bestOrder 51 = .ok (.iload 7, 2) := by decide +kernel
theorem dL_bestOrder_53 : decode cL_bestOrder 53 = .ok (.istore 9, 2) := by decide +kernel
theorem dL_bestOrder_55 : decode cL_bestOrder 55 = .ok (.iconst 3, 1) := by decide +kernel
theorem dL_bestOrder_56 : decode cL_bestOrder 56 = .ok (.istore 10, 2) := by decide +kernel
theorem dL_bestOrder_58 : decode cL_bestOrder 58 = .ok (.iload 10, 2) := by decide +kernel
theorem dL_bestOrder_60 : decode cL_bestOrder 60 = .ok (.ifCond .lt 51, 3) := by decide +kernel
theorem dL_bestOrder_63 : decode cL_bestOrder 63 = .ok (.iload 8, 2) := by decide +kernel
theorem dL_bestOrder_65 : decode cL_bestOrder 65 = .ok (.iconst 1, 1) := by decide +kernel
theorem dL_bestOrder_66 : decode cL_bestOrder 66 = .ok (.iload 9, 2) := by decide +kernel
theorem dL_bestOrder_68 : decode cL_bestOrder 68 = .ok (.bipush 10, 2) := by decide +kernel
theorem dL_bestOrder_70 : decode cL_bestOrder 70 = .ok (.irem, 1) := by decide +kernel
theorem dL_bestOrder_71 : decode cL_bestOrder 71 = .ok (.ishl, 1) := by decide +kernel
theorem dL_bestOrder_72 : decode cL_bestOrder 72 = .ok (.ior, 1) := by decide +kernel
theorem dL_bestOrder_73 : decode cL_bestOrder 73 = .ok (.istore 8, 2) := by decide +kernel
theorem dL_bestOrder_75 : decode cL_bestOrder 75 = .ok (.iload 9, 2) := by decide +kernel
theorem dL_bestOrder_77 : decode cL_bestOrder 77 = .ok (.bipush 10, 2) := by decide +kernel
theorem dL_bestOrder_79 : decode cL_bestOrder 79 = .ok (.irem, 1) := by decide +kernel
theorem dL_bestOrder_80 : decode cL_bestOrder 80 = .ok (.iconst 4, 1) := by decide +kernel
theorem dL_bestOrder_81 : decode cL_bestOrder 81 = .ok (.if_icmp .ge 17, 3) := by decide +kernel
theorem dL_bestOrder_84 : decode cL_bestOrder 84 = .ok (.aload 4, 2) := by decide +kernel
theorem dL_bestOrder_86 : decode cL_bestOrder 86 = .ok (.iconst 4, 1) := by decide +kernel
theorem dL_bestOrder_87 : decode cL_bestOrder 87 = .ok (.iload_n 3, 1) := by decide +kernel
theorem dL_bestOrder_88 : decode cL_bestOrder 88 = .ok (.imul, 1) := by decide +kernel
theorem dL_bestOrder_89 : decode cL_bestOrder 89 = .ok (.iload 9, 2) := by decide +kernel
theorem dL_bestOrder_91 : decode cL_bestOrder 91 = .ok (.bipush 10, 2) := by decide +kernel
theorem dL_bestOrder_93 : decode cL_bestOrder 93 = .ok (.irem, 1) := by decide +kernel
theorem dL_bestOrder_94 : decode cL_bestOrder 94 = .ok (.iadd, 1) := by decide +kernel
theorem dL_bestOrder_95 : decode cL_bestOrder 95 = .ok (.iload 10, 2) := by decide +kernel
theorem dL_bestOrder_97 : decode cL_bestOrder 97 = .ok (.iastore, 1) := by decide +kernel
theorem dL_bestOrder_98 : decode cL_bestOrder 98 = .ok (.iload 9, 2) := by decide +kernel
theorem dL_bestOrder_100 : decode cL_bestOrder 100 = .ok (.bipush 10, 2) := by decide +kernel
theorem dL_bestOrder_102 : decode cL_bestOrder 102 = .ok (.idiv, 1) := by decide +kernel
theorem dL_bestOrder_103 : decode cL_bestOrder 103 = .ok (.istore 9, 2) := by decide +kernel
theorem dL_bestOrder_105 : decode cL_bestOrder 105 = .ok (.iinc 10 (-1), 3) := by decide +kernel
theorem dL_bestOrder_108 : decode cL_bestOrder 108 = .ok (.goto (-50), 3) := by decide +kernel
theorem dL_bestOrder_111 : decode cL_bestOrder 111 = .ok (.iload 8, 2) := by decide +kernel
theorem dL_bestOrder_113 : decode cL_bestOrder 113 = .ok (.bipush 15, 2) := by decide +kernel
theorem dL_bestOrder_115 : decode cL_bestOrder 115 = .ok (.if_icmp .eq 6, 3) := by decide +kernel
theorem dL_bestOrder_118 : decode cL_bestOrder 118 = .ok (.goto 35, 3) := by decide +kernel
theorem dL_bestOrder_121 : decode cL_bestOrder 121 = .ok (.aload_n 0, 1) := by decide +kernel
theorem dL_bestOrder_122 : decode cL_bestOrder 122 = .ok (.aload 4, 2) := by decide +kernel
theorem dL_bestOrder_124 : decode cL_bestOrder 124 = .ok (.iload_n 2, 1) := by decide +kernel
theorem dL_bestOrder_125 : decode cL_bestOrder 125 = .ok (.invokestatic 61, 3) := by decide +kernel
theorem dL_bestOrder_128 : decode cL_bestOrder 128 = .ok (.istore 10, 2) := by decide +kernel
theorem dL_bestOrder_130 : decode cL_bestOrder 130 = .ok (.iload 5, 2) := by decide +kernel
theorem dL_bestOrder_132 : decode cL_bestOrder 132 = .ok (.ifCond .lt 13, 3) := by decide +kernel
theorem dL_bestOrder_135 : decode cL_bestOrder 135 = .ok (.iload 10, 2) := by decide +kernel
theorem dL_bestOrder_137 : decode cL_bestOrder 137 = .ok (.iload 6, 2) := by decide +kernel
theorem dL_bestOrder_139 : decode cL_bestOrder 139 = .ok (.if_icmp .lt 6, 3) := by decide +kernel
theorem dL_bestOrder_142 : decode cL_bestOrder 142 = .ok (.goto 11, 3) := by decide +kernel
theorem dL_bestOrder_145 : decode cL_bestOrder 145 = .ok (.iload 7, 2) := by decide +kernel
theorem dL_bestOrder_147 : decode cL_bestOrder 147 = .ok (.istore 5, 2) := by decide +kernel
theorem dL_bestOrder_149 : decode cL_bestOrder 149 = .ok (.iload 10, 2) := by decide +kernel
theorem dL_bestOrder_151 : decode cL_bestOrder 151 = .ok (.istore 6, 2) := by decide +kernel
theorem dL_bestOrder_153 : decode cL_bestOrder 153 = .ok (.iinc 7 1, 3) := by decide +kernel
theorem dL_bestOrder_156 : decode cL_bestOrder 156 = .ok (.goto (-141), 3) := by decide +kernel
theorem dL_bestOrder_159 : decode cL_bestOrder 159 = .ok (.iload 5, 2) := by decide +kernel
theorem dL_bestOrder_161 : decode cL_bestOrder 161 = .ok (.ireturn, 1) := by decide +kernel
abbrev vwCl : List vw_C := [(RX0, TX0, 4), (RX1, TX1, 6), (RX2, TX2, 5), (RX3, TX3, 3), (RX4, TX4, 2), (RX5, TX5, 8), (RX6, TX6, 8)]
