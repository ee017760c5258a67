/-! ===== the words of callees: act ===== -/
set_option maxRecDepth 20000 in
theorem ggL_act_L_low : GoodIn wsL_act wsL_low := goodIn_r _ [4, 5] (by decide +kernel) (by decide +kernel)
set_option maxRecDepth 20000 in
theorem gL_act_L_low : GoodIn wsL_act (va_wsS RL 65 yL_low wsL_low) := goodIn_app (goodIn_of _ (by decide +kernel)) ggL_act_L_low
set_option maxRecDepth 20000 in
theorem ggL_act_L_ribbon : GoodIn wsL_act wsL_ribbon := goodIn_ca (goodIn_ca (goodIn_ca (goodIn_r _ [8, 9, 10, 11, 12, 13, 14, 15, 16, 17, 18, 19, 20, 21, 22, 23, 24, 25, 26, 27, 28, 29, 30, 31, 32, 33, 34, 35, 36, 37, 38, 39, 40, 41, 42, 43, 44, 45, 46, 47, 48, 49, 50, 51, 52, 53, 54, 55, 56, 57, 58, 59, 60, 61, 62, 63, 64, 65, 66, 67, 68, 69, 437, 438, 439, 440, 441, 442, 443, 444, 445, 446, 447, 448, 449, 450, 451, 452, 453] (by decide +kernel) (by decide +kernel)) (goodIn_sub (fun _ h => List.mem_cons_of_mem _ (List.mem_append_left _ (List.mem_append_left _ (List.mem_append_right _ h)))) (by decide +kernel))) (goodIn_sub (fun _ h => List.mem_cons_of_mem _ (List.mem_append_left _ (List.mem_append_right _ h))) (by decide +kernel))) (goodIn_sub (fun _ h => List.mem_cons_of_mem _ (List.mem_append_right _ h)) (by decide +kernel))
set_option maxRecDepth 20000 in
theorem gL_act_L_ribbon : GoodIn wsL_act (va_wsS RL 68 yL_ribbon wsL_ribbon) := goodIn_app (goodIn_of _ (by decide +kernel)) ggL_act_L_ribbon
set_option maxRecDepth 20000 in
theorem ggL_act_L_widen : GoodIn wsL_act wsL_widen := goodIn_ca (goodIn_ca (goodIn_r _ [72, 9, 10, 73, 74, 75, 15, 76, 17, 18, 22, 21, 77, 78, 79, 80, 26, 27, 81, 82, 83, 44, 84, 64, 34, 35, 36, 37, 38, 39, 40, 41, 42, 43, 45, 46, 47, 48, 49, 50, 51, 52, 53, 54, 55, 56, 57, 58, 59, 60, 61, 62, 63, 65, 85, 86, 87, 88, 89, 90, 91, 92, 93, 437, 438, 439, 440, 441, 442, 443, 444, 445, 446, 447, 448, 449, 450, 451, 452, 453] (by decide +kernel) (by decide +kernel)) (goodIn_sub (fun _ h => List.mem_cons_of_mem _ (List.mem_append_left _ (List.mem_append_left _ (List.mem_append_right _ h)))) (by decide +kernel))) (goodIn_sub (fun _ h => List.mem_cons_of_mem _ (List.mem_append_right _ h)) (by decide +kernel))
set_option maxRecDepth 20000 in
theorem gL_act_L_widen : GoodIn wsL_act (va_wsS RL 71 yL_widen wsL_widen) := goodIn_app (goodIn_of _ (by decide +kernel)) ggL_act_L_widen
set_option maxRecDepth 20000 in
theorem ggL_act_L_remove : GoodIn wsL_act wsL_remove := goodIn_ca (goodIn_r _ [96, 9, 97, 98, 99, 15, 100, 22, 21, 77, 78, 79, 80, 26, 27, 81, 82, 83, 44, 84, 64, 34, 35, 36, 37, 38, 39, 40, 41, 42, 43, 45, 46, 47, 48, 49, 50, 51, 52, 53, 54, 55, 56, 57, 58, 59, 60, 61, 62, 63, 65, 85, 86, 87, 88, 101, 102, 103, 104, 93, 437, 438, 439, 440, 441, 442, 443, 444, 445, 446, 447, 448, 449, 450, 451, 452, 453] (by decide +kernel) (by decide +kernel)) (goodIn_sub (fun _ h => List.mem_cons_of_mem _ (List.mem_append_right _ h)) (by decide +kernel))
set_option maxRecDepth 20000 in
theorem gL_act_L_remove : GoodIn wsL_act (va_wsS RL 74 yL_remove wsL_remove) := goodIn_app (goodIn_of _ (by decide +kernel)) ggL_act_L_remove
set_option maxRecDepth 20000 in
theorem ggL_act_L_swap : GoodIn wsL_act wsL_swap := goodIn_ca (goodIn_ca (goodIn_r _ [107, 9, 10, 108, 109, 110, 15, 111, 22, 21, 112, 113, 114, 17, 18, 23, 24, 25, 26, 27, 28, 29, 30, 31, 32, 33, 34, 35, 36, 37, 38, 39, 40, 41, 42, 43, 44, 45, 46, 47, 48, 49, 50, 51, 52, 53, 54, 55, 56, 57, 58, 59, 60, 61, 62, 63, 64, 65, 115, 116, 117, 118, 119, 120, 121, 122, 123, 124, 125, 126, 127, 128, 129, 130, 131, 132, 133, 134, 135, 136, 137, 138, 139, 140, 141, 142, 143, 144, 145, 146, 147, 148, 149, 150, 151, 86, 87, 88, 437, 438, 439, 440, 441, 442, 443, 444, 451, 452, 453, 445, 446, 447, 448, 449, 450] (by decide +kernel) (by decide +kernel)) (goodIn_sub (fun _ h => List.mem_cons_of_mem _ (List.mem_append_left _ (List.mem_append_left _ (List.mem_append_right _ h)))) (by decide +kernel))) (goodIn_sub (fun _ h => List.mem_cons_of_mem _ (List.mem_append_right _ h)) (by decide +kernel))
set_option maxRecDepth 20000 in
theorem gL_act_L_swap : GoodIn wsL_act (va_wsS RL 77 yL_swap wsL_swap) := goodIn_app (goodIn_of _ (by decide +kernel)) ggL_act_L_swap
set_option maxRecDepth 20000 in
theorem ggL_act_L_crossings : GoodIn wsL_act wsL_crossings := goodIn_r _ [154, 155, 156, 3, 157, 158, 159, 160] (by decide +kernel) (by decide +kernel)
set_option maxRecDepth 20000 in
theorem gL_act_L_crossings : GoodIn wsL_act (va_wsS RL 61 yL_crossings wsL_crossings) := goodIn_app (goodIn_of _ (by decide +kernel)) ggL_act_L_crossings
