/-! ===== the law: the words of its callees ===== -/
set_option maxRecDepth 20000 in
theorem ggL_law_L_remove : GoodIn wsL_law wsL_remove := goodIn_ca (goodIn_r _ [204, 99, 205, 206, 207, 2, 208, 22, 16, 173, 174, 175, 176, 113, 114, 177, 178, 179, 15, 180, 136, 121, 122, 123, 21, 124, 125, 126, 52, 51, 14, 127, 40, 41, 42, 11, 12, 43, 44, 45, 46, 47, 128, 129, 130, 131, 132, 133, 134, 135, 137, 181, 182, 183, 184, 209, 210, 211, 212, 189, 953, 954, 955, 956, 957, 958, 959, 960, 974, 975, 976, 977, 978, 979, 980, 981, 982] (by decide +kernel) (by decide +kernel)) (goodIn_sub (fun _ h => List.mem_append_right _ h) (by decide +kernel))
set_option maxRecDepth 20000 in
theorem gL_law_L_remove : GoodIn wsL_law (va_wsS RL 87 yL_remove wsL_remove) := goodIn_app (goodIn_of _ (by decide +kernel)) ggL_law_L_remove
set_option maxRecDepth 20000 in
theorem ggL_law_X7_remove : GoodIn wsL_law wsX7_remove := goodIn_r _ [216, 146, 85, 194, 195, 196, 5, 197, 147, 148, 149, 153, 154, 155, 156, 157, 87, 198, 199, 200, 201, 961, 962, 963, 964, 965, 966, 967, 968, 969, 970, 971, 972, 973] (by decide +kernel) (by decide +kernel)
set_option maxRecDepth 20000 in
theorem gL_law_X7_remove : GoodIn wsL_law (wsV RL 90 RX7 yX7_remove wsX7_remove) := goodIn_app (goodIn_of _ (by decide +kernel)) ggL_law_X7_remove
set_option maxRecDepth 20000 in
theorem ggL_law_L_swap : GoodIn wsL_law wsL_swap := goodIn_ca (goodIn_ca (goodIn_r _ [219, 99, 100, 220, 221, 222, 2, 223, 22, 16, 224, 225, 226, 106, 107, 110, 111, 112, 113, 114, 115, 116, 117, 118, 119, 120, 121, 122, 123, 21, 124, 125, 126, 52, 51, 14, 15, 127, 40, 41, 42, 11, 12, 43, 44, 45, 46, 47, 128, 129, 130, 131, 132, 133, 134, 135, 136, 137, 227, 228, 229, 230, 231, 232, 233, 234, 235, 236, 237, 238, 239, 240, 241, 242, 243, 244, 245, 246, 247, 248, 249, 250, 251, 252, 253, 254, 255, 256, 257, 258, 259, 260, 261, 262, 263, 182, 183, 184, 953, 954, 955, 956, 957, 958, 959, 960, 980, 981, 982, 974, 975, 976, 977, 978, 979] (by decide +kernel) (by decide +kernel)) (goodIn_sub (fun _ h => List.mem_append_left _ (List.mem_append_left _ (List.mem_append_right _ h))) (by decide +kernel))) (goodIn_sub (fun _ h => List.mem_append_right _ h) (by decide +kernel))
set_option maxRecDepth 20000 in
theorem gL_law_L_swap : GoodIn wsL_law (va_wsS RL 91 yL_swap wsL_swap) := goodIn_app (goodIn_of _ (by decide +kernel)) ggL_law_L_swap
set_option maxRecDepth 20000 in
theorem ggL_law_X7_swap : GoodIn wsL_law wsX7_swap := goodIn_r _ [267, 146, 268, 269, 5, 270, 150, 151, 152, 147, 148, 149, 153, 154, 155, 156, 157, 87, 85, 271, 272, 273, 274, 275, 276, 277, 278, 279, 280, 281, 282, 198, 199, 200, 201, 283, 284, 285, 286, 287, 288, 289, 290, 961, 962, 963, 964, 965, 966, 967, 968, 969, 970, 971, 972, 973] (by decide +kernel) (by decide +kernel)
set_option maxRecDepth 20000 in
theorem gL_law_X7_swap : GoodIn wsL_law (wsV RL 93 RX7 yX7_swap wsX7_swap) := goodIn_app (goodIn_of _ (by decide +kernel)) ggL_law_X7_swap
set_option maxRecDepth 20000 in
theorem ggL_law_X6_sweep : GoodIn wsL_law wsX6_sweep := goodIn_r _ [294, 22, 16, 34, 121, 122, 123, 21, 124, 125, 126, 52, 51, 14, 15, 127, 40, 41, 42, 11, 12, 43, 44, 45, 46, 47, 128, 129, 130, 131, 132, 133, 134, 135, 136, 137, 295, 296, 297, 33, 298, 68, 299, 300, 301, 302, 66, 67, 303, 304, 305, 306, 307, 256, 257, 258, 308, 309, 310, 311, 312, 313, 314, 315, 252, 253, 254, 316, 232, 233, 234, 317, 318, 319, 320, 321, 322, 323, 324, 231, 325, 326, 327, 328, 329, 330, 331, 332, 333, 236, 237, 238, 116, 2, 117, 239, 240, 241, 242, 243, 244, 245, 246, 247, 248, 249, 250, 251, 255, 119, 120, 259, 260, 261, 262, 263, 182, 183, 184, 953, 954, 955, 956, 957, 958, 959, 960, 980, 981, 982, 974, 975, 976, 977, 978, 979, 989, 990, 991, 992, 993] (by decide +kernel) (by decide +kernel)
set_option maxRecDepth 20000 in
theorem gL_law_X6_sweep : GoodIn wsL_law (wsV RL 94 RX6 yX6_sweep wsX6_sweep) := goodIn_app (goodIn_of _ (by decide +kernel)) ggL_law_X6_sweep
set_option maxRecDepth 20000 in
theorem ggL_law_X7_sweep : GoodIn wsL_law wsX7_sweep := goodIn_r _ [337, 146, 153, 154, 155, 5, 156, 157, 87, 85, 338, 339, 340, 341, 92, 93, 287, 288, 289, 290, 198, 199, 200, 201, 275, 276, 277, 278, 342, 343, 344, 345, 279, 280, 281, 282, 283, 284, 285, 286, 961, 962, 963, 964, 965, 966, 967, 968, 969, 970, 971, 972, 973] (by decide +kernel) (by decide +kernel)
set_option maxRecDepth 20000 in
theorem gL_law_X7_sweep : GoodIn wsL_law (wsV RL 97 RX7 yX7_sweep wsX7_sweep) := goodIn_app (goodIn_of _ (by decide +kernel)) ggL_law_X7_sweep
set_option maxRecDepth 20000 in
theorem ggL_law_L_order : GoodIn wsL_law wsL_order := goodIn_ca (goodIn_r _ [348, 99, 349, 350, 351, 2, 352, 22, 16, 34, 353, 354, 355, 113, 114, 121, 122, 123, 21, 124, 125, 126, 52, 51, 14, 15, 127, 40, 41, 42, 11, 12, 43, 44, 45, 46, 47, 128, 129, 130, 131, 132, 133, 134, 135, 136, 137, 356, 357, 358, 33, 359, 360, 68, 69, 361, 362, 363, 364, 365, 70, 303, 304, 305, 306, 366, 367, 368, 369, 370, 244, 245, 246, 315, 252, 253, 254, 307, 256, 257, 258, 119, 120, 371, 260, 261, 262, 251, 255, 372, 182, 183, 184, 316, 232, 233, 234, 373, 374, 375, 376, 308, 309, 310, 377, 378, 379, 380, 381, 382, 383, 384, 333, 236, 237, 238, 116, 117, 239, 240, 241, 242, 243, 247, 248, 249, 250, 259, 231, 263, 953, 954, 955, 956, 957, 958, 959, 960, 980, 981, 982, 974, 975, 976, 977, 978, 979, 989, 990, 991, 992, 993] (by decide +kernel) (by decide +kernel)) (goodIn_sub (fun _ h => List.mem_append_right _ h) (by decide +kernel))
set_option maxRecDepth 20000 in
theorem gL_law_L_order : GoodIn wsL_law (va_wsS RL 98 yL_order wsL_order) := goodIn_app (goodIn_of _ (by decide +kernel)) ggL_law_L_order
