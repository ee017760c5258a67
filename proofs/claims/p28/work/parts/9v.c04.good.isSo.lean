/-! ===== the words of callees: isSo ===== -/
set_option maxRecDepth 20000 in
theorem ggL_isSo_L_cross : GoodIn wsL_isSo wsL_cross := goodIn_r _ [4, 5, 6, 3, 7] (by decide +kernel) (by decide +kernel)
set_option maxRecDepth 20000 in
theorem gL_isSo_L_cross : GoodIn wsL_isSo (va_wsS RL 48 yL_cross wsL_cross) := goodIn_app (goodIn_of _ (by decide +kernel)) ggL_isSo_L_cross
set_option maxRecDepth 20000 in
theorem ggL_isSo_X6_ribbonOf : GoodIn wsL_isSo wsX6_ribbonOf := goodIn_ca (goodIn_ca (goodIn_r _ [12, 13, 14, 15, 16, 17, 18, 11, 19, 20, 21, 22, 23, 24, 25, 26, 27, 28, 29, 30, 31, 32, 33, 34, 35, 36, 37, 38, 39, 40, 41, 42, 43, 44, 45, 46, 47, 48, 49, 50, 51, 52, 53, 54, 55, 56, 57, 58, 59, 60, 61, 62, 63, 64, 65, 66, 67, 248, 249, 250, 251, 252, 253, 254, 255, 256, 257, 258, 259, 260, 261] (by decide +kernel) (by decide +kernel)) (goodIn_sub (fun _ h => List.mem_cons_of_mem _ (List.mem_append_left _ (List.mem_append_right _ h))) (by decide +kernel))) (goodIn_sub (fun _ h => List.mem_cons_of_mem _ (List.mem_append_right _ h)) (by decide +kernel))
set_option maxRecDepth 20000 in
theorem gL_isSo_X6_ribbonOf : GoodIn wsL_isSo (wsV RL 117 RX6 yX6_ribbonOf wsX6_ribbonOf) := goodIn_app (goodIn_of _ (by decide +kernel)) ggL_isSo_X6_ribbonOf
set_option maxRecDepth 20000 in
theorem ggL_isSo_L_goesOn : GoodIn wsL_isSo wsL_goesOn := goodIn_r _ [7] (by decide +kernel) (by decide +kernel)
set_option maxRecDepth 20000 in
theorem gL_isSo_L_goesOn : GoodIn wsL_isSo (va_wsS RL 42 yL_goesOn wsL_goesOn) := goodIn_app (goodIn_of _ (by decide +kernel)) ggL_isSo_L_goesOn
set_option maxRecDepth 20000 in
theorem ggL_isSo_L_side : GoodIn wsL_isSo wsL_side := goodIn_r _ [70, 5, 6, 3, 7] (by decide +kernel) (by decide +kernel)
set_option maxRecDepth 20000 in
theorem gL_isSo_L_side : GoodIn wsL_isSo (va_wsS RL 52 yL_side wsL_side) := goodIn_app (goodIn_of _ (by decide +kernel)) ggL_isSo_L_side
set_option maxRecDepth 20000 in
theorem ggL_isSo_L_crossings : GoodIn wsL_isSo wsL_crossings := goodIn_r _ [73, 1, 2, 3, 4, 5, 6, 7] (by decide +kernel) (by decide +kernel)
set_option maxRecDepth 20000 in
theorem gL_isSo_L_crossings : GoodIn wsL_isSo (va_wsS RL 61 yL_crossings wsL_crossings) := goodIn_app (goodIn_of _ (by decide +kernel)) ggL_isSo_L_crossings
set_option maxRecDepth 20000 in
theorem ggL_isSo_L_arePosts : GoodIn wsL_isSo wsL_arePosts := goodIn_ca (goodIn_ca (goodIn_r _ [76, 68, 69, 3, 70, 5, 6, 7, 77, 78, 79, 11, 80, 13, 14, 15, 81, 82, 83, 84, 85, 86, 87, 20, 21, 88, 89, 90, 91, 64, 65, 25, 66, 67, 92, 93, 94, 95, 27, 56, 34, 35, 36, 37, 96, 44, 45, 46, 32, 97, 39, 40, 41, 42, 98, 99, 100, 101, 55, 29, 30, 31, 102, 103, 104, 105, 106, 107, 108, 109, 110, 111, 112, 113, 114, 115, 116, 117, 118, 119, 120, 121, 122, 123, 124, 125, 126, 127, 128, 129, 130, 248, 249, 250, 251, 252, 253, 254, 255, 256, 257, 258, 259, 260, 261] (by decide +kernel) (by decide +kernel)) (goodIn_sub (fun _ h => List.mem_cons_of_mem _ (List.mem_append_left _ (List.mem_append_right _ h))) (by decide +kernel))) (goodIn_sub (fun _ h => List.mem_cons_of_mem _ (List.mem_append_right _ h)) (by decide +kernel))
set_option maxRecDepth 20000 in
theorem gL_isSo_L_arePosts : GoodIn wsL_isSo (va_wsS RL 120 yL_arePosts wsL_arePosts) := goodIn_app (goodIn_of _ (by decide +kernel)) ggL_isSo_L_arePosts
