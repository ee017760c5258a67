/-! ===== the words of callees: arePosts ===== -/
set_option maxRecDepth 20000 in
theorem ggL_arePosts_L_side : GoodIn wsL_arePosts wsL_side := goodIn_r _ [4, 5, 6, 3, 7] (by decide +kernel) (by decide +kernel)
set_option maxRecDepth 20000 in
theorem gL_arePosts_L_side : GoodIn wsL_arePosts (va_wsS RL 52 yL_side wsL_side) := goodIn_app (goodIn_of _ (by decide +kernel)) ggL_arePosts_L_side
set_option maxRecDepth 20000 in
theorem ggL_arePosts_L_goesOn : GoodIn wsL_arePosts wsL_goesOn := goodIn_r _ [7] (by decide +kernel) (by decide +kernel)
set_option maxRecDepth 20000 in
theorem gL_arePosts_L_goesOn : GoodIn wsL_arePosts (va_wsS RL 42 yL_goesOn wsL_goesOn) := goodIn_app (goodIn_of _ (by decide +kernel)) ggL_arePosts_L_goesOn
set_option maxRecDepth 20000 in
theorem ggL_arePosts_X6_postOf : GoodIn wsL_arePosts wsX6_postOf := goodIn_ca (goodIn_ca (goodIn_r _ [12, 13, 14, 15, 16, 17, 18, 19, 20, 21, 11, 22, 23, 24, 25, 26, 27, 28, 29, 30, 31, 32, 33, 34, 35, 36, 37, 38, 39, 40, 41, 42, 43, 44, 45, 46, 47, 48, 49, 50, 51, 52, 53, 54, 55, 56, 57, 58, 59, 60, 61, 62, 63, 64, 65, 66, 67, 68, 69, 70, 71, 72, 73, 74, 75, 76, 77, 78, 79, 80, 81, 82, 91, 92, 93, 94, 95, 96, 97, 98, 99, 100, 101, 102, 103, 104] (by decide +kernel) (by decide +kernel)) (goodIn_sub (fun _ h => List.mem_cons_of_mem _ (List.mem_append_left _ (List.mem_append_right _ h))) (by decide +kernel))) (goodIn_sub (fun _ h => List.mem_cons_of_mem _ (List.mem_append_right _ h)) (by decide +kernel))
set_option maxRecDepth 20000 in
theorem gL_arePosts_X6_postOf : GoodIn wsL_arePosts (wsV RL 111 RX6 yX6_postOf wsX6_postOf) := goodIn_app (goodIn_of _ (by decide +kernel)) ggL_arePosts_X6_postOf
set_option maxRecDepth 20000 in
theorem ggL_arePosts_X6_height : GoodIn wsL_arePosts wsX6_height := goodIn_ca (goodIn_ca (goodIn_r _ [86, 87, 88, 11, 89, 23, 24, 90, 9, 10, 12, 13, 14, 15, 16, 17, 18, 19, 20, 21, 22, 25, 26, 27, 28, 29, 30, 31, 32, 33, 34, 35, 36, 37, 38, 39, 40, 41, 42, 43, 44, 45, 46, 47, 48, 49, 50, 51, 52, 53, 54, 55, 56, 57, 58, 59, 60, 61, 62, 63, 64, 65, 66, 67, 68, 69, 70, 71, 72, 73, 74, 75, 76, 77, 78, 79, 80, 81, 82, 91, 92, 93, 94, 95, 96, 97, 98, 99, 100, 101, 102, 103, 104] (by decide +kernel) (by decide +kernel)) (goodIn_sub (fun _ h => List.mem_cons_of_mem _ (List.mem_append_right _ h)) (by decide +kernel))) (goodIn_sub (fun _ h => List.mem_cons_of_mem _ (List.mem_append_left _ (List.mem_append_right _ h))) (by decide +kernel))
set_option maxRecDepth 20000 in
theorem gL_arePosts_X6_height : GoodIn wsL_arePosts (wsV RL 114 RX6 yX6_height wsX6_height) := goodIn_app (goodIn_of _ (by decide +kernel)) ggL_arePosts_X6_height
