/-! ===== the words of callees: act ===== -/
set_option maxRecDepth 20000 in
theorem ggL_act_X6_ifSwapped : GoodIn wsL_act wsX6_ifSwapped := goodIn_ca (goodIn_ca (goodIn_r _ [164, 165, 21, 112, 113, 15, 114, 17, 18, 23, 24, 25, 26, 27, 28, 29, 30, 31, 32, 33, 166, 57, 58, 44, 59, 52, 60, 61, 62, 63, 53, 54, 55, 64, 65, 115, 116, 117, 118, 119, 120, 121, 122, 123, 124, 125, 126, 127, 128, 129, 130, 131, 132, 133, 134, 135, 136, 137, 138, 139, 140, 141, 142, 143, 144, 145, 146, 147, 148, 149, 150, 151, 86, 87, 88, 437, 438, 439, 440, 441, 442, 443, 444, 445, 446, 447, 448, 449, 450] (by decide +kernel) (by decide +kernel)) (goodIn_sub (fun _ h => List.mem_cons_of_mem _ (List.mem_append_left _ (List.mem_append_left _ (List.mem_append_right _ h)))) (by decide +kernel))) (goodIn_sub (fun _ h => List.mem_cons_of_mem _ (List.mem_append_right _ h)) (by decide +kernel))
set_option maxRecDepth 20000 in
theorem gL_act_X6_ifSwapped : GoodIn wsL_act (wsV RL 79 RX6 yX6_ifSwapped wsX6_ifSwapped) := goodIn_app (goodIn_of _ (by decide +kernel)) ggL_act_X6_ifSwapped
set_option maxRecDepth 20000 in
theorem ggL_act_L_sweep : GoodIn wsL_act wsL_sweep := goodIn_r _ [169, 51, 170, 158, 159, 3, 160] (by decide +kernel) (by decide +kernel)
set_option maxRecDepth 20000 in
theorem gL_act_L_sweep : GoodIn wsL_act (va_wsS RL 82 yL_sweep wsL_sweep) := goodIn_app (goodIn_of _ (by decide +kernel)) ggL_act_L_sweep
set_option maxRecDepth 20000 in
theorem ggL_act_X6_sweep : GoodIn wsL_act wsX6_sweep := goodIn_r _ [174, 22, 21, 175, 34, 35, 36, 37, 38, 39, 40, 41, 42, 43, 44, 45, 46, 47, 48, 49, 50, 51, 52, 53, 54, 55, 56, 57, 58, 59, 60, 61, 62, 63, 64, 65, 176, 177, 178, 179, 180, 181, 182, 183, 184, 185, 186, 187, 188, 189, 190, 191, 192, 144, 145, 146, 193, 194, 195, 196, 197, 198, 199, 200, 140, 141, 142, 201, 120, 121, 122, 202, 203, 204, 205, 206, 207, 208, 209, 119, 210, 211, 212, 213, 214, 215, 216, 217, 218, 124, 125, 126, 29, 15, 30, 127, 128, 129, 130, 131, 132, 133, 134, 135, 136, 137, 138, 139, 143, 32, 33, 147, 148, 149, 150, 151, 86, 87, 88, 437, 438, 439, 440, 441, 442, 443, 444, 451, 452, 453, 445, 446, 447, 448, 449, 450, 454, 455, 456, 457, 458] (by decide +kernel) (by decide +kernel)
set_option maxRecDepth 20000 in
theorem gL_act_X6_sweep : GoodIn wsL_act (wsV RL 86 RX6 yX6_sweep wsX6_sweep) := goodIn_app (goodIn_of _ (by decide +kernel)) ggL_act_X6_sweep
set_option maxRecDepth 20000 in
theorem ggL_act_L_bestOrder : GoodIn wsL_act wsL_bestOrder := goodIn_r _ [221, 51, 152, 153, 3, 154, 155, 156, 157, 158, 159, 160] (by decide +kernel) (by decide +kernel)
set_option maxRecDepth 20000 in
theorem gL_act_L_bestOrder : GoodIn wsL_act (va_wsS RL 88 yL_bestOrder wsL_bestOrder) := goodIn_app (goodIn_of _ (by decide +kernel)) ggL_act_L_bestOrder
set_option maxRecDepth 20000 in
theorem ggL_act_X6_bestOrder : GoodIn wsL_act wsX6_bestOrder := goodIn_ca (goodIn_r _ [225, 175, 21, 226, 227, 15, 228, 26, 27, 229, 230, 231, 179, 232, 233, 181, 234, 235, 61, 62, 63, 236, 237, 238, 239, 240, 188, 189, 190, 191, 241, 242, 243, 244, 245, 132, 133, 134, 200, 140, 141, 44, 142, 53, 192, 144, 145, 146, 54, 32, 33, 246, 148, 149, 150, 139, 143, 247, 86, 87, 88, 55, 201, 120, 121, 122, 52, 248, 249, 250, 251, 193, 194, 195, 252, 253, 254, 255, 256, 257, 258, 259, 437, 438, 439, 440, 441, 442, 443, 444, 454, 455, 456, 457, 458, 445, 446, 447, 448, 449, 450] (by decide +kernel) (by decide +kernel)) (goodIn_sub (fun _ h => List.mem_cons_of_mem _ (List.mem_append_right _ h)) (by decide +kernel))
set_option maxRecDepth 20000 in
theorem gL_act_X6_bestOrder : GoodIn wsL_act (wsV RL 92 RX6 yX6_bestOrder wsX6_bestOrder) := goodIn_app (goodIn_of _ (by decide +kernel)) ggL_act_X6_bestOrder
set_option maxRecDepth 20000 in
theorem ggL_act_L_order : GoodIn wsL_act wsL_order := goodIn_ca (goodIn_r _ [262, 9, 263, 264, 265, 15, 266, 22, 21, 175, 226, 227, 228, 26, 27, 34, 35, 36, 37, 38, 39, 40, 41, 42, 43, 44, 45, 46, 47, 48, 49, 50, 51, 52, 53, 54, 55, 56, 57, 58, 59, 60, 61, 62, 63, 64, 65, 229, 230, 231, 179, 232, 233, 181, 234, 235, 236, 237, 238, 239, 240, 188, 189, 190, 191, 241, 242, 243, 244, 245, 132, 133, 134, 200, 140, 141, 142, 192, 144, 145, 146, 32, 33, 246, 148, 149, 150, 139, 143, 247, 86, 87, 88, 201, 120, 121, 122, 248, 249, 250, 251, 193, 194, 195, 252, 253, 254, 255, 267, 268, 269, 270, 218, 124, 125, 126, 29, 30, 127, 128, 129, 130, 131, 135, 136, 137, 138, 147, 119, 151, 437, 438, 439, 440, 441, 442, 443, 444, 451, 452, 453, 445, 446, 447, 448, 449, 450, 454, 455, 456, 457, 458] (by decide +kernel) (by decide +kernel)) (goodIn_sub (fun _ h => List.mem_cons_of_mem _ (List.mem_append_right _ h)) (by decide +kernel))
set_option maxRecDepth 20000 in
theorem gL_act_L_order : GoodIn wsL_act (va_wsS RL 94 yL_order wsL_order) := goodIn_app (goodIn_of _ (by decide +kernel)) ggL_act_L_order
