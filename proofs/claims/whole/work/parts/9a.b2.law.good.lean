/-! ===== the law: the words of its callees ===== -/
set_option maxRecDepth 20000 in
theorem ggL_law_X7_order : GoodIn wsL_law wsX7_order := goodIn_r _ [388, 146, 389, 390, 5, 391, 147, 148, 149, 153, 154, 155, 156, 157, 87, 85, 392, 393, 394, 395, 396, 397, 398, 399, 86, 400, 401, 402, 403, 404, 405, 406, 279, 280, 281, 282, 198, 199, 200, 201, 283, 284, 285, 286, 287, 288, 289, 290, 275, 276, 277, 278, 407, 408, 409, 410, 961, 962, 963, 964, 965, 966, 967, 968, 969, 970, 971, 972, 973] (by decide +kernel) (by decide +kernel)
set_option maxRecDepth 20000 in
theorem gL_law_X7_order : GoodIn wsL_law (wsV RL 100 RX7 yX7_order wsX7_order) := goodIn_app (goodIn_of _ (by decide +kernel)) ggL_law_X7_order
set_option maxRecDepth 20000 in
theorem ggL_law_L_trim : GoodIn wsL_law wsL_trim := goodIn_ca (goodIn_r _ [413, 99, 414, 415, 416, 2, 417, 113, 114, 22, 16, 418, 419, 420, 121, 122, 123, 21, 124, 125, 126, 52, 51, 14, 15, 127, 40, 41, 42, 11, 12, 43, 44, 45, 46, 47, 128, 129, 130, 131, 132, 133, 134, 135, 136, 137, 421, 422, 423, 424, 425, 426, 245, 427, 428, 429, 430, 431, 432, 433, 434, 435, 255, 256, 257, 258, 436, 312, 313, 314, 263, 182, 183, 184, 437, 438, 439, 440, 251, 252, 253, 254, 441, 442, 443, 444, 445, 186, 187, 188, 189, 178, 179, 180, 953, 954, 955, 956, 957, 958, 959, 960, 980, 981, 982, 974, 975, 976, 977, 978, 979] (by decide +kernel) (by decide +kernel)) (goodIn_sub (fun _ h => List.mem_append_right _ h) (by decide +kernel))
set_option maxRecDepth 20000 in
theorem gL_law_L_trim : GoodIn wsL_law (va_wsS RL 101 yL_trim wsL_trim) := goodIn_app (goodIn_of _ (by decide +kernel)) ggL_law_L_trim
set_option maxRecDepth 20000 in
theorem ggL_law_X7_trim : GoodIn wsL_law wsX7_trim := goodIn_r _ [449, 146, 450, 451, 5, 452, 147, 148, 149, 153, 154, 155, 156, 157, 87, 85, 453, 454, 455, 456, 457, 458, 459, 460, 287, 288, 289, 290, 198, 199, 200, 201, 461, 462, 463, 464, 465, 466, 467, 468, 961, 962, 963, 964, 965, 966, 967, 968, 969, 970, 971, 972, 973] (by decide +kernel) (by decide +kernel)
set_option maxRecDepth 20000 in
theorem gL_law_X7_trim : GoodIn wsL_law (wsV RL 103 RX7 yX7_trim wsX7_trim) := goodIn_app (goodIn_of _ (by decide +kernel)) ggL_law_X7_trim
set_option maxRecDepth 20000 in
theorem ggL_law_X6_settle : GoodIn wsL_law wsX6_settle := goodIn_r _ [472, 22, 16, 121, 122, 123, 21, 124, 125, 126, 52, 51, 14, 15, 127, 40, 41, 42, 11, 12, 43, 44, 45, 46, 47, 128, 129, 130, 131, 132, 133, 134, 135, 136, 137, 473, 474, 475, 476, 477, 478, 422, 423, 424, 425, 426, 245, 427, 428, 429, 430, 431, 432, 433, 434, 435, 255, 256, 257, 258, 436, 312, 313, 314, 263, 182, 183, 184, 437, 438, 439, 440, 251, 252, 253, 254, 441, 442, 443, 444, 445, 186, 187, 188, 189, 178, 179, 180, 953, 954, 955, 956, 957, 958, 959, 960, 980, 981, 982, 974, 975, 976, 977, 978, 979] (by decide +kernel) (by decide +kernel)
set_option maxRecDepth 20000 in
theorem gL_law_X6_settle : GoodIn wsL_law (wsV RL 104 RX6 yX6_settle wsX6_settle) := goodIn_app (goodIn_of _ (by decide +kernel)) ggL_law_X6_settle
set_option maxRecDepth 20000 in
theorem ggL_law_X7_settle : GoodIn wsL_law wsX7_settle := goodIn_r _ [482, 146, 153, 154, 155, 5, 156, 157, 87, 85, 483, 484, 485, 486, 453, 454, 455, 456, 457, 458, 459, 460, 287, 288, 289, 290, 198, 199, 200, 201, 461, 462, 463, 464, 465, 466, 467, 468, 961, 962, 963, 964, 965, 966, 967, 968, 969, 970, 971, 972, 973] (by decide +kernel) (by decide +kernel)
set_option maxRecDepth 20000 in
theorem gL_law_X7_settle : GoodIn wsL_law (wsV RL 107 RX7 yX7_settle wsX7_settle) := goodIn_app (goodIn_of _ (by decide +kernel)) ggL_law_X7_settle
set_option maxRecDepth 20000 in
theorem ggL_law_L_append : GoodIn wsL_law wsL_append := goodIn_ca (goodIn_ca (goodIn_r _ [489, 100, 101, 490, 491, 492, 2, 493, 106, 107, 108, 109, 26, 494, 495, 496, 25, 497, 498, 56, 953, 954, 955, 956, 957, 958, 959, 960, 983, 984] (by decide +kernel) (by decide +kernel)) (goodIn_sub (fun _ h => List.mem_append_left _ (List.mem_append_left _ (List.mem_append_right _ h))) (by decide +kernel))) (goodIn_sub (fun _ h => List.mem_append_left _ (List.mem_append_right _ h)) (by decide +kernel))
set_option maxRecDepth 20000 in
theorem gL_law_L_append : GoodIn wsL_law (va_wsS RL 108 yL_append wsL_append) := goodIn_app (goodIn_of _ (by decide +kernel)) ggL_law_L_append
set_option maxRecDepth 20000 in
theorem ggL_law_X7_append : GoodIn wsL_law wsX7_append := goodIn_r _ [502, 503, 146, 91, 147, 148, 5, 149, 961, 962, 963, 964, 965, 966, 967, 968, 969, 970, 971, 972, 973] (by decide +kernel) (by decide +kernel)
set_option maxRecDepth 20000 in
theorem gL_law_X7_append : GoodIn wsL_law (wsV RL 110 RX7 yX7_append wsX7_append) := goodIn_app (goodIn_of _ (by decide +kernel)) ggL_law_X7_append
