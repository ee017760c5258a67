/-! ===== the law: the words of its callees ===== -/
set_option maxRecDepth 20000 in
theorem ggL_law_X7_keep : GoodIn wsL_law wsX7_keep := goodIn_r _ [599, 146, 88, 85, 90, 147, 148, 5, 149, 961, 962, 963, 964, 965, 966, 967, 968, 969, 970, 971, 972, 973] (by decide +kernel) (by decide +kernel)
set_option maxRecDepth 20000 in
theorem gL_law_X7_keep : GoodIn wsL_law (wsV RL 125 RX7 yX7_keep wsX7_keep) := goodIn_app (goodIn_of _ (by decide +kernel)) ggL_law_X7_keep
set_option maxRecDepth 20000 in
theorem ggL_law_L_goBack : GoodIn wsL_law wsL_goBack := goodIn_ca (goodIn_ca (goodIn_r _ [602, 100, 101, 603, 604, 605, 2, 606, 108, 109, 18, 22, 16, 592, 593, 594, 106, 107, 121, 122, 123, 21, 124, 125, 126, 52, 51, 14, 15, 127, 40, 41, 42, 11, 12, 43, 44, 45, 46, 47, 128, 129, 130, 131, 132, 133, 134, 135, 136, 137, 595, 953, 954, 955, 956, 957, 958, 959, 960, 974, 975, 976, 977, 978, 979, 980, 981, 982] (by decide +kernel) (by decide +kernel)) (goodIn_sub (fun _ h => List.mem_append_left _ (List.mem_append_right _ h)) (by decide +kernel))) (goodIn_sub (fun _ h => List.mem_append_left _ (List.mem_append_left _ (List.mem_append_right _ h))) (by decide +kernel))
set_option maxRecDepth 20000 in
theorem gL_law_L_goBack : GoodIn wsL_law (va_wsS RL 126 yL_goBack wsL_goBack) := goodIn_app (goodIn_of _ (by decide +kernel)) ggL_law_L_goBack
set_option maxRecDepth 20000 in
theorem ggL_law_X7_goBack : GoodIn wsL_law wsX7_goBack := goodIn_r _ [610, 90, 146, 85, 88, 147, 148, 5, 149, 153, 154, 155, 156, 157, 87, 961, 962, 963, 964, 965, 966, 967, 968, 969, 970, 971, 972, 973] (by decide +kernel) (by decide +kernel)
set_option maxRecDepth 20000 in
theorem gL_law_X7_goBack : GoodIn wsL_law (wsV RL 128 RX7 yX7_goBack wsX7_goBack) := goodIn_app (goodIn_of _ (by decide +kernel)) ggL_law_X7_goBack
set_option maxRecDepth 20000 in
theorem ggL_law_L_undo : GoodIn wsL_law wsL_undo := goodIn_ca (goodIn_r _ [613, 101, 614, 615, 616, 2, 617, 108, 109, 22, 16, 618, 619, 620, 21, 621, 126, 125, 52, 128, 129, 130, 15, 131, 44, 132, 133, 134, 135, 45, 46, 47, 136, 137, 953, 954, 955, 956, 957, 958, 959, 960, 980, 981, 982, 974, 975, 976, 977, 978, 979] (by decide +kernel) (by decide +kernel)) (goodIn_sub (fun _ h => List.mem_append_left _ (List.mem_append_right _ h)) (by decide +kernel))
set_option maxRecDepth 20000 in
theorem gL_law_L_undo : GoodIn wsL_law (va_wsS RL 129 yL_undo wsL_undo) := goodIn_app (goodIn_of _ (by decide +kernel)) ggL_law_L_undo
set_option maxRecDepth 20000 in
theorem ggL_law_X7_undo : GoodIn wsL_law wsX7_undo := goodIn_r _ [625, 157, 146, 85, 87, 961, 962, 963, 964, 965, 966, 967, 968, 969, 970, 971, 972, 973] (by decide +kernel) (by decide +kernel)
set_option maxRecDepth 20000 in
theorem gL_law_X7_undo : GoodIn wsL_law (wsV RL 131 RX7 yX7_undo wsX7_undo) := goodIn_app (goodIn_of _ (by decide +kernel)) ggL_law_X7_undo
set_option maxRecDepth 20000 in
theorem ggL_law_L_postOf : GoodIn wsL_law wsL_postOf := goodIn_ca (goodIn_ca (goodIn_r _ [628, 99, 100, 629, 630, 631, 2, 632, 106, 107, 16, 633, 634, 245, 635, 110, 111, 112, 113, 114, 115, 116, 117, 636, 232, 233, 15, 234, 44, 637, 433, 434, 435, 136, 255, 256, 257, 258, 46, 436, 312, 313, 314, 45, 263, 182, 183, 184, 47, 638, 438, 439, 440, 251, 252, 253, 254, 639, 640, 641, 642, 643, 644, 645, 646, 647, 648, 649, 650, 418, 419, 420, 651, 429, 430, 431, 432, 437, 953, 954, 955, 956, 957, 958, 959, 960, 974, 975, 976, 977, 978, 979] (by decide +kernel) (by decide +kernel)) (goodIn_sub (fun _ h => List.mem_append_left _ (List.mem_append_left _ (List.mem_append_right _ h))) (by decide +kernel))) (goodIn_sub (fun _ h => List.mem_append_right _ h) (by decide +kernel))
set_option maxRecDepth 20000 in
theorem gL_law_L_postOf : GoodIn wsL_law (va_wsS RL 132 yL_postOf wsL_postOf) := goodIn_app (goodIn_of _ (by decide +kernel)) ggL_law_L_postOf
set_option maxRecDepth 20000 in
theorem ggL_law_X7_postOf : GoodIn wsL_law wsX7_postOf := goodIn_r _ [655, 146, 150, 151, 5, 152, 147, 148, 149, 656, 657, 658, 659, 275, 276, 277, 278, 85, 457, 458, 459, 460, 287, 288, 289, 290, 198, 199, 200, 201, 461, 462, 463, 464, 660, 661, 662, 663, 664, 665, 666, 667, 450, 451, 452, 668, 669, 670, 671, 961, 962, 963, 964, 965, 966, 967, 968, 969, 970, 971, 972, 973] (by decide +kernel) (by decide +kernel)
set_option maxRecDepth 20000 in
theorem gL_law_X7_postOf : GoodIn wsL_law (wsV RL 134 RX7 yX7_postOf wsX7_postOf) := goodIn_app (goodIn_of _ (by decide +kernel)) ggL_law_X7_postOf
