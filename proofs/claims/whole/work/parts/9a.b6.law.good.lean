/-! ===== the law: the words of its callees ===== -/
set_option maxRecDepth 20000 in
theorem ggL_law_X7_bestOrder : GoodIn wsL_law wsX7_bestOrder := goodIn_r _ [838, 146, 389, 390, 5, 391, 147, 148, 149, 392, 393, 394, 395, 396, 397, 398, 399, 86, 85, 400, 401, 402, 403, 404, 405, 406, 279, 280, 281, 282, 198, 199, 200, 201, 283, 284, 285, 286, 287, 288, 289, 290, 275, 276, 277, 278, 407, 408, 409, 410, 961, 962, 963, 964, 965, 966, 967, 968, 969, 970, 971, 972, 973] (by decide +kernel) (by decide +kernel)
set_option maxRecDepth 20000 in
theorem gL_law_X7_bestOrder : GoodIn wsL_law (wsV RL 146 RX7 yX7_bestOrder wsX7_bestOrder) := goodIn_app (goodIn_of _ (by decide +kernel)) ggL_law_X7_bestOrder
set_option maxRecDepth 20000 in
theorem ggL_law_X6_ifSettled : GoodIn wsL_law wsX6_ifSettled := goodIn_r _ [842, 17, 16, 595, 129, 130, 15, 131, 44, 132, 133, 134, 135, 45, 46, 47, 136, 137, 473, 474, 475, 476, 477, 478, 422, 423, 424, 425, 426, 245, 427, 428, 429, 430, 431, 432, 433, 434, 435, 255, 256, 257, 258, 436, 312, 313, 314, 263, 182, 183, 184, 437, 438, 439, 440, 251, 252, 253, 254, 441, 442, 443, 444, 445, 186, 187, 188, 189, 178, 179, 180, 953, 954, 955, 956, 957, 958, 959, 960, 974, 975, 976, 977, 978, 979] (by decide +kernel) (by decide +kernel)
set_option maxRecDepth 20000 in
theorem gL_law_X6_ifSettled : GoodIn wsL_law (wsV RL 147 RX6 yX6_ifSettled wsX6_ifSettled) := goodIn_app (goodIn_of _ (by decide +kernel)) ggL_law_X6_ifSettled
set_option maxRecDepth 20000 in
theorem ggL_law_X7_ifSettled : GoodIn wsL_law wsX7_ifSettled := goodIn_r _ [846, 146, 847, 848, 849, 5, 850, 396, 397, 398, 399, 86, 85, 483, 484, 485, 486, 453, 454, 455, 456, 457, 458, 459, 460, 287, 288, 289, 290, 198, 199, 200, 201, 461, 462, 463, 464, 465, 466, 467, 468, 407, 408, 409, 410, 961, 962, 963, 964, 965, 966, 967, 968, 969, 970, 971, 972, 973] (by decide +kernel) (by decide +kernel)
set_option maxRecDepth 20000 in
theorem gL_law_X7_ifSettled : GoodIn wsL_law (wsV RL 150 RX7 yX7_ifSettled wsX7_ifSettled) := goodIn_app (goodIn_of _ (by decide +kernel)) ggL_law_X7_ifSettled
set_option maxRecDepth 20000 in
theorem ggL_law_X6_mainRibbon : GoodIn wsL_law wsX6_mainRibbon := goodIn_r _ [854, 38, 16, 855, 856, 857, 37, 858, 80, 745, 785, 77, 78, 79, 767, 244, 245, 246, 781, 782, 783, 784, 755, 312, 313, 15, 314, 46, 45, 756, 252, 253, 254, 762, 256, 257, 258, 761, 182, 183, 184, 47, 746, 304, 305, 306, 786, 787, 788, 789, 790, 791, 792, 859, 860, 861, 862, 953, 954, 955, 956, 957, 958, 959, 960, 994, 995, 996, 997, 998, 999, 1000, 1001, 974, 975, 976, 977, 978, 979] (by decide +kernel) (by decide +kernel)
set_option maxRecDepth 20000 in
theorem gL_law_X6_mainRibbon : GoodIn wsL_law (wsV RL 151 RX6 yX6_mainRibbon wsX6_mainRibbon) := goodIn_app (goodIn_of _ (by decide +kernel)) ggL_law_X6_mainRibbon
set_option maxRecDepth 20000 in
theorem ggL_law_X7_mainRibbon : GoodIn wsL_law wsX7_mainRibbon := goodIn_r _ [866, 146, 867, 868, 869, 5, 870, 85, 287, 288, 289, 290, 198, 199, 200, 201, 801, 802, 803, 804, 805, 806, 807, 808, 450, 451, 452, 147, 148, 149, 961, 962, 963, 964, 965, 966, 967, 968, 969, 970, 971, 972, 973] (by decide +kernel) (by decide +kernel)
set_option maxRecDepth 20000 in
theorem gL_law_X7_mainRibbon : GoodIn wsL_law (wsV RL 154 RX7 yX7_mainRibbon wsX7_mainRibbon) := goodIn_app (goodIn_of _ (by decide +kernel)) ggL_law_X7_mainRibbon
set_option maxRecDepth 20000 in
theorem ggL_law_L_height : GoodIn wsL_law wsL_height := goodIn_ca (goodIn_ca (goodIn_r _ [873, 99, 874, 875, 876, 2, 877, 353, 354, 355, 113, 114, 878, 630, 631, 632, 106, 107, 16, 633, 634, 245, 635, 110, 111, 112, 115, 116, 117, 636, 232, 233, 15, 234, 44, 637, 433, 434, 435, 136, 255, 256, 257, 258, 46, 436, 312, 313, 314, 45, 263, 182, 183, 184, 47, 638, 438, 439, 440, 251, 252, 253, 254, 639, 640, 641, 642, 643, 644, 645, 646, 647, 648, 649, 650, 418, 419, 420, 651, 429, 430, 431, 432, 437, 953, 954, 955, 956, 957, 958, 959, 960, 974, 975, 976, 977, 978, 979] (by decide +kernel) (by decide +kernel)) (goodIn_sub (fun _ h => List.mem_append_right _ h) (by decide +kernel))) (goodIn_sub (fun _ h => List.mem_append_left _ (List.mem_append_left _ (List.mem_append_right _ h))) (by decide +kernel))
set_option maxRecDepth 20000 in
theorem gL_law_L_height : GoodIn wsL_law (va_wsS RL 155 yL_height wsL_height) := goodIn_app (goodIn_of _ (by decide +kernel)) ggL_law_L_height
set_option maxRecDepth 20000 in
theorem ggL_law_X7_height : GoodIn wsL_law wsX7_height := goodIn_r _ [882, 146, 389, 390, 5, 391, 147, 148, 149, 883, 884, 885, 886, 668, 669, 670, 671, 457, 458, 459, 460, 85, 287, 288, 289, 290, 198, 199, 200, 201, 461, 462, 463, 464, 961, 962, 963, 964, 965, 966, 967, 968, 969, 970, 971, 972, 973] (by decide +kernel) (by decide +kernel)
set_option maxRecDepth 20000 in
theorem gL_law_X7_height : GoodIn wsL_law (wsV RL 157 RX7 yX7_height wsX7_height) := goodIn_app (goodIn_of _ (by decide +kernel)) ggL_law_X7_height
