/-! ===== the words of callees: isThrough ===== -/
set_option maxRecDepth 20000 in
theorem ggL_isThrough_L_through : GoodIn wsL_isThrough wsL_through := goodIn_r _ [4, 5, 6, 7, 3, 8] (by decide +kernel) (by decide +kernel)
set_option maxRecDepth 20000 in
theorem gL_isThrough_L_through : GoodIn wsL_isThrough (va_wsS RL 124 yL_through wsL_through) := goodIn_app (goodIn_of _ (by decide +kernel)) ggL_isThrough_L_through
set_option maxRecDepth 20000 in
theorem ggL_isThrough_L_goesOn : GoodIn wsL_isThrough wsL_goesOn := goodIn_r _ [8] (by decide +kernel) (by decide +kernel)
set_option maxRecDepth 20000 in
theorem gL_isThrough_L_goesOn : GoodIn wsL_isThrough (va_wsS RL 42 yL_goesOn wsL_goesOn) := goodIn_app (goodIn_of _ (by decide +kernel)) ggL_isThrough_L_goesOn
set_option maxRecDepth 20000 in
theorem ggL_isThrough_X6_count : GoodIn wsL_isThrough wsX6_count := goodIn_ca (goodIn_r _ [13, 14, 15, 16, 17, 18, 19, 20, 21, 22, 23, 24, 25, 26, 27, 28, 29, 30, 31, 32, 33, 34, 35, 36, 37, 38, 39, 40, 41, 42, 43, 44, 45, 46, 47, 48, 49, 50, 51, 52, 53, 12, 54, 55, 56, 57, 58, 59, 60, 61, 62, 63, 64, 65, 66, 67, 68, 69, 70, 71, 72, 73, 74, 75, 76, 77, 78, 79, 80, 81, 82, 83, 84, 85, 86, 87, 88, 89, 90, 91, 92, 93, 94, 95, 96, 97, 98, 99, 100, 101, 102, 103, 104, 105, 106, 107, 108, 109, 110, 111, 112, 113, 114, 115, 116, 117, 118, 119, 120, 121, 122, 123, 124, 125, 126, 127, 128, 129, 130, 131, 132, 133, 134, 135, 136, 137, 138, 139, 140, 141, 142, 143, 144, 145, 146, 147, 148, 149, 150, 151, 152, 153, 154, 155, 156, 157, 158, 159, 160, 161, 162, 163, 164, 165, 166, 167, 168, 169, 170, 171, 172, 173, 174, 175, 176, 177, 178, 179, 180, 181, 182, 183, 184, 185, 204, 205, 206, 207, 208, 209, 210, 211, 212, 213, 214, 215, 216, 217, 218, 219, 220, 221, 222, 223, 224, 225, 226, 227, 228, 229, 230, 231, 232] (by decide +kernel) (by decide +kernel)) (goodIn_sub (fun _ h => List.mem_cons_of_mem _ (List.mem_append_right _ h)) (by decide +kernel))
set_option maxRecDepth 20000 in
theorem gL_isThrough_X6_count : GoodIn wsL_isThrough (wsV RL 108 RX6 yX6_count wsX6_count) := goodIn_app (goodIn_of _ (by decide +kernel)) ggL_isThrough_X6_count
set_option maxRecDepth 20000 in
theorem ggL_isThrough_X6_mainRibbon : GoodIn wsL_isThrough wsX6_mainRibbon := goodIn_r _ [189, 18, 16, 190, 191, 192, 125, 193, 194, 128, 175, 176, 177, 178, 154, 36, 37, 38, 171, 172, 173, 174, 140, 115, 116, 23, 117, 52, 47, 141, 44, 45, 46, 147, 49, 50, 51, 146, 27, 28, 29, 30, 129, 91, 92, 93, 179, 180, 181, 182, 183, 184, 185, 195, 196, 197, 198, 204, 205, 206, 207, 208, 209, 210, 211, 225, 226, 227, 228, 229, 230, 231, 232, 212, 213, 214, 215, 216, 217] (by decide +kernel) (by decide +kernel)
set_option maxRecDepth 20000 in
theorem gL_isThrough_X6_mainRibbon : GoodIn wsL_isThrough (wsV RL 127 RX6 yX6_mainRibbon wsX6_mainRibbon) := goodIn_app (goodIn_of _ (by decide +kernel)) ggL_isThrough_X6_mainRibbon
set_option maxRecDepth 20000 in
theorem ggL_isThrough_X6_throughShare : GoodIn wsL_isThrough wsX6_throughShare := goodIn_r _ [202, 16, 18, 203, 119, 120, 23, 121, 25, 43, 44, 45, 46, 47, 114, 115, 116, 117, 52, 26, 27, 28, 29, 30, 122, 123, 124, 125, 126, 127, 128, 129, 91, 92, 93, 130, 131, 132, 133, 134, 135, 136, 137, 138, 139, 140, 141, 142, 143, 144, 145, 146, 147, 49, 50, 51, 148, 12, 149, 150, 151, 152, 153, 154, 36, 37, 38, 155, 156, 157, 158, 159, 160, 161, 162, 163, 164, 165, 166, 204, 205, 206, 207, 208, 209, 210, 211, 212, 213, 214, 215, 216, 217, 225, 226, 227, 228, 229, 230, 231, 232] (by decide +kernel) (by decide +kernel)
set_option maxRecDepth 20000 in
theorem gL_isThrough_X6_throughShare : GoodIn wsL_isThrough (wsV RL 130 RX6 yX6_throughShare wsX6_throughShare) := goodIn_app (goodIn_of _ (by decide +kernel)) ggL_isThrough_X6_throughShare
