/-! ===== the law: the words of its callees ===== -/
set_option maxRecDepth 20000 in
theorem ggL_law_X6_init : GoodIn wsL_law wsX6_init := goodIn_r _ [9, 10, 11, 12, 13, 14, 15, 16, 17, 18, 19, 20, 21, 22, 23, 24, 25, 26, 27, 28, 29, 30, 31, 32, 33, 34, 35, 36, 37, 38, 39, 40, 41, 42, 43, 44, 45, 46, 47, 48, 49, 50, 51, 52, 53, 54, 55, 56, 57, 58, 59, 60, 61, 62, 63, 64, 65, 66, 67, 68, 69, 70, 71, 72, 73, 74, 75, 76, 77, 78, 79, 80, 974, 975, 976, 977, 978, 979, 953, 954, 955, 956, 957, 958, 959, 960, 980, 981, 982, 983, 984, 985, 986, 987, 988, 989, 990, 991, 992, 993, 994, 995, 996, 997, 998, 999, 1000, 1001] (by decide +kernel) (by decide +kernel)
set_option maxRecDepth 20000 in
theorem gL_law_X6_init : GoodIn wsL_law (wsX6_init) := ggL_law_X6_init
set_option maxRecDepth 20000 in
theorem ggL_law_X7_init : GoodIn wsL_law wsX7_init := goodIn_r _ [83, 84, 11, 12, 43, 85, 86, 87, 88, 89, 90, 91, 92, 93, 94, 961, 962, 963, 964, 965, 966, 967, 968, 969, 970, 971, 972, 973] (by decide +kernel) (by decide +kernel)
set_option maxRecDepth 20000 in
theorem gL_law_X7_init : GoodIn wsL_law (wsX7_init) := ggL_law_X7_init
set_option maxRecDepth 20000 in
theorem ggL_law_L_ribbon : GoodIn wsL_law wsL_ribbon := goodIn_ca (goodIn_ca (goodIn_ca (goodIn_r _ [98, 99, 100, 101, 102, 103, 104, 2, 105, 106, 107, 108, 109, 16, 22, 110, 111, 112, 113, 114, 115, 116, 117, 118, 119, 120, 121, 122, 123, 21, 124, 125, 126, 52, 51, 14, 15, 127, 40, 41, 42, 11, 12, 43, 44, 45, 46, 47, 128, 129, 130, 131, 132, 133, 134, 135, 136, 137, 138, 139, 140, 141, 953, 954, 955, 956, 957, 958, 959, 960, 974, 975, 976, 977, 978, 979, 980, 981, 982] (by decide +kernel) (by decide +kernel)) (goodIn_sub (fun _ h => List.mem_append_left _ (List.mem_append_left _ (List.mem_append_right _ h))) (by decide +kernel))) (goodIn_sub (fun _ h => List.mem_append_left _ (List.mem_append_right _ h)) (by decide +kernel))) (goodIn_sub (fun _ h => List.mem_append_right _ h) (by decide +kernel))
set_option maxRecDepth 20000 in
theorem gL_law_L_ribbon : GoodIn wsL_law (va_wsS RL 74 yL_ribbon wsL_ribbon) := goodIn_app (goodIn_of _ (by decide +kernel)) ggL_law_L_ribbon
set_option maxRecDepth 20000 in
theorem ggL_law_X7_ribbon : GoodIn wsL_law wsX7_ribbon := goodIn_r _ [145, 85, 146, 147, 148, 5, 149, 150, 151, 152, 153, 154, 155, 156, 157, 87, 158, 159, 160, 161, 961, 962, 963, 964, 965, 966, 967, 968, 969, 970, 971, 972, 973] (by decide +kernel) (by decide +kernel)
set_option maxRecDepth 20000 in
theorem gL_law_X7_ribbon : GoodIn wsL_law (wsV RL 79 RX7 yX7_ribbon wsX7_ribbon) := goodIn_app (goodIn_of _ (by decide +kernel)) ggL_law_X7_ribbon
set_option maxRecDepth 20000 in
theorem ggL_law_X7_thrown : GoodIn wsL_law wsX7_thrown := goodIn_r _ [165, 146, 961, 962, 963, 964, 965, 966, 967, 968, 969, 970, 971, 972, 973] (by decide +kernel) (by decide +kernel)
set_option maxRecDepth 20000 in
theorem gL_law_X7_thrown : GoodIn wsL_law (wsV RL 80 RX7 yX7_thrown wsX7_thrown) := goodIn_app (goodIn_of _ (by decide +kernel)) ggL_law_X7_thrown
set_option maxRecDepth 20000 in
theorem ggL_law_L_widen : GoodIn wsL_law wsL_widen := goodIn_ca (goodIn_ca (goodIn_r _ [168, 99, 100, 169, 170, 171, 2, 172, 106, 107, 22, 16, 173, 174, 175, 176, 113, 114, 177, 178, 179, 15, 180, 136, 121, 122, 123, 21, 124, 125, 126, 52, 51, 14, 127, 40, 41, 42, 11, 12, 43, 44, 45, 46, 47, 128, 129, 130, 131, 132, 133, 134, 135, 137, 181, 182, 183, 184, 185, 186, 187, 188, 189, 953, 954, 955, 956, 957, 958, 959, 960, 974, 975, 976, 977, 978, 979, 980, 981, 982] (by decide +kernel) (by decide +kernel)) (goodIn_sub (fun _ h => List.mem_append_left _ (List.mem_append_left _ (List.mem_append_right _ h))) (by decide +kernel))) (goodIn_sub (fun _ h => List.mem_append_right _ h) (by decide +kernel))
set_option maxRecDepth 20000 in
theorem gL_law_L_widen : GoodIn wsL_law (va_wsS RL 83 yL_widen wsL_widen) := goodIn_app (goodIn_of _ (by decide +kernel)) ggL_law_L_widen
set_option maxRecDepth 20000 in
theorem ggL_law_X7_widen : GoodIn wsL_law wsX7_widen := goodIn_r _ [193, 146, 85, 194, 195, 196, 5, 197, 147, 148, 149, 153, 154, 155, 156, 157, 87, 198, 199, 200, 201, 961, 962, 963, 964, 965, 966, 967, 968, 969, 970, 971, 972, 973] (by decide +kernel) (by decide +kernel)
set_option maxRecDepth 20000 in
theorem gL_law_X7_widen : GoodIn wsL_law (wsV RL 86 RX7 yX7_widen wsX7_widen) := goodIn_app (goodIn_of _ (by decide +kernel)) ggL_law_X7_widen
set_option maxRecDepth 20000 in
theorem ggL_law_L_remove : GoodIn wsL_law wsL_remove := goodIn_ca (goodIn_r _ [204, 99, 205, 206, 207, 2, 208, 22, 16, 173, 174, 175, 176, 113, 114, 177, 178, 179, 15, 180, 136, 121, 122, 123, 21, 124, 125, 126, 52, 51, 14, 127, 40, 41, 42, 11, 12, 43, 44, 45, 46, 47, 128, 129, 130, 131, 132, 133, 134, 135, 137, 181, 182, 183, 184, 209, 210, 211, 212, 189, 953, 954, 955, 956, 957, 958, 959, 960, 974, 975, 976, 977, 978, 979, 980, 981, 982] (by decide +kernel) (by decide +kernel)) (goodIn_sub (fun _ h => List.mem_append_right _ h) (by decide +kernel))
set_option maxRecDepth 20000 in
theorem gL_law_L_remove : GoodIn wsL_law (va_wsS RL 87 yL_remove wsL_remove) := goodIn_app (goodIn_of _ (by decide +kernel)) ggL_law_L_remove
set_option maxRecDepth 20000 in
theorem ggL_law_X7_remove : GoodIn wsL_law wsX7_remove := goodIn_r _ [216, 146, 85, 194, 195, 196, 5, 197, 147, 148, 149, 153, 154, 155, 156, 157, 87, 198, 199, 200, 201, 961, 962, 963, 964, 965, 966, 967, 968, 969, 970, 971, 972, 973] (by decide +kernel) (by decide +kernel)
set_option maxRecDepth 20000 in
theorem gL_law_X7_remove : GoodIn wsL_law (wsV RL 90 RX7 yX7_remove wsX7_remove) := goodIn_app (goodIn_of _ (by decide +kernel)) ggL_law_X7_remove
set_option maxRecDepth 20000 in
theorem ggL_law_L_swap : GoodIn wsL_law wsL_swap := goodIn_ca (goodIn_ca (goodIn_r _ [219, 99, 100, 220, 221, 222, 2, 223, 22, 16, 224, 225, 226, 106, 107, 110, 111, 112, 113, 114, 115, 116, 117, 118, 119, 120, 121, 122, 123, 21, 124, 125, 126, 52, 51, 14, 15, 127, 40, 41, 42, 11, 12, 43, 44, 45, 46, 47, 128, 129, 130, 131, 132, 133, 134, 135, 136, 137, 227, 228, 229, 230, 231, 232, 233, 234, 235, 236, 237, 238, 239, 240, 241, 242, 243, 244, 245, 246, 247, 248, 249, 250, 251, 252, 253, 254, 255, 256, 257, 258, 259, 260, 261, 262, 263, 182, 183, 184, 953, 954, 955, 956, 957, 958, 959, 960, 980, 981, 982, 974, 975, 976, 977, 978, 979] (by decide +kernel) (by decide +kernel)) (goodIn_sub (fun _ h => List.mem_append_left _ (List.mem_append_left _ (List.mem_append_right _ h))) (by decide +kernel))) (goodIn_sub (fun _ h => List.mem_append_right _ h) (by decide +kernel))
set_option maxRecDepth 20000 in
theorem gL_law_L_swap : GoodIn wsL_law (va_wsS RL 91 yL_swap wsL_swap) := goodIn_app (goodIn_of _ (by decide +kernel)) ggL_law_L_swap
set_option maxRecDepth 20000 in
theorem ggL_law_X7_swap : GoodIn wsL_law wsX7_swap := goodIn_r _ [267, 146, 268, 269, 5, 270, 150, 151, 152, 147, 148, 149, 153, 154, 155, 156, 157, 87, 85, 271, 272, 273, 274, 275, 276, 277, 278, 279, 280, 281, 282, 198, 199, 200, 201, 283, 284, 285, 286, 287, 288, 289, 290, 961, 962, 963, 964, 965, 966, 967, 968, 969, 970, 971, 972, 973] (by decide +kernel) (by decide +kernel)
set_option maxRecDepth 20000 in
theorem gL_law_X7_swap : GoodIn wsL_law (wsV RL 93 RX7 yX7_swap wsX7_swap) := goodIn_app (goodIn_of _ (by decide +kernel)) ggL_law_X7_swap
set_option maxRecDepth 20000 in
theorem ggL_law_X6_sweep : GoodIn wsL_law wsX6_sweep := goodIn_r _ [294, 22, 16, 34, 121, 122, 123, 21, 124, 125, 126, 52, 51, 14, 15, 127, 40, 41, 42, 11, 12, 43, 44, 45, 46, 47, 128, 129, 130, 131, 132, 133, 134, 135, 136, 137, 295, 296, 297, 33, 298, 68, 299, 300, 301, 302, 66, 67, 303, 304, 305, 306, 307, 256, 257, 258, 308, 309, 310, 311, 312, 313, 314, 315, 252, 253, 254, 316, 232, 233, 234, 317, 318, 319, 320, 321, 322, 323, 324, 231, 325, 326, 327, 328, 329, 330, 331, 332, 333, 236, 237, 238, 116, 2, 117, 239, 240, 241, 242, 243, 244, 245, 246, 247, 248, 249, 250, 251, 255, 119, 120, 259, 260, 261, 262, 263, 182, 183, 184, 953, 954, 955, 956, 957, 958, 959, 960, 980, 981, 982, 974, 975, 976, 977, 978, 979, 989, 990, 991, 992, 993] (by decide +kernel) (by decide +kernel)
set_option maxRecDepth 20000 in
theorem gL_law_X6_sweep : GoodIn wsL_law (wsV RL 94 RX6 yX6_sweep wsX6_sweep) := goodIn_app (goodIn_of _ (by decide +kernel)) ggL_law_X6_sweep
set_option maxRecDepth 20000 in
theorem ggL_law_X7_sweep : GoodIn wsL_law wsX7_sweep := goodIn_r _ [337, 146, 153, 154, 155, 5, 156, 157, 87, 85, 338, 339, 340, 341, 92, 93, 287, 288, 289, 290, 198, 199, 200, 201, 275, 276, 277, 278, 342, 343, 344, 345, 279, 280, 281, 282, 283, 284, 285, 286, 961, 962, 963, 964, 965, 966, 967, 968, 969, 970, 971, 972, 973] (by decide +kernel) (by decide +kernel)
set_option maxRecDepth 20000 in
theorem gL_law_X7_sweep : GoodIn wsL_law (wsV RL 97 RX7 yX7_sweep wsX7_sweep) := goodIn_app (goodIn_of _ (by decide +kernel)) ggL_law_X7_sweep
set_option maxRecDepth 20000 in
theorem ggL_law_L_order : GoodIn wsL_law wsL_order := goodIn_ca (goodIn_r _ [348, 99, 349, 350, 351, 2, 352, 22, 16, 34, 353, 354, 355, 113, 114, 121, 122, 123, 21, 124, 125, 126, 52, 51, 14, 15, 127, 40, 41, 42, 11, 12, 43, 44, 45, 46, 47, 128, 129, 130, 131, 132, 133, 134, 135, 136, 137, 356, 357, 358, 33, 359, 360, 68, 69, 361, 362, 363, 364, 365, 70, 303, 304, 305, 306, 366, 367, 368, 369, 370, 244, 245, 246, 315, 252, 253, 254, 307, 256, 257, 258, 119, 120, 371, 260, 261, 262, 251, 255, 372, 182, 183, 184, 316, 232, 233, 234, 373, 374, 375, 376, 308, 309, 310, 377, 378, 379, 380, 381, 382, 383, 384, 333, 236, 237, 238, 116, 117, 239, 240, 241, 242, 243, 247, 248, 249, 250, 259, 231, 263, 953, 954, 955, 956, 957, 958, 959, 960, 980, 981, 982, 974, 975, 976, 977, 978, 979, 989, 990, 991, 992, 993] (by decide +kernel) (by decide +kernel)) (goodIn_sub (fun _ h => List.mem_append_right _ h) (by decide +kernel))
set_option maxRecDepth 20000 in
theorem gL_law_L_order : GoodIn wsL_law (va_wsS RL 98 yL_order wsL_order) := goodIn_app (goodIn_of _ (by decide +kernel)) ggL_law_L_order
set_option maxRecDepth 20000 in
theorem ggL_law_X7_order : GoodIn wsL_law wsX7_order := goodIn_r _ [388, 146, 389, 390, 5, 391, 147, 148, 149, 153, 154, 155, 156, 157, 87, 85, 392, 393, 394, 395, 396, 397, 398, 399, 86, 400, 401, 402, 403, 404, 405, 406, 279, 280, 281, 282, 198, 199, 200, 201, 283, 284, 285, 286, 287, 288, 289, 290, 275, 276, 277, 278, 407, 408, 409, 410, 961, 962, 963, 964, 965, 966, 967, 968, 969, 970, 971, 972, 973] (by decide +kernel) (by decide +kernel)
set_option maxRecDepth 20000 in
theorem gL_law_X7_order : GoodIn wsL_law (wsV RL 100 RX7 yX7_order wsX7_order) := goodIn_app (goodIn_of _ (by decide +kernel)) ggL_law_X7_order
set_option maxRecDepth 20000 in
theorem ggL_law_L_trim : GoodIn wsL_law wsL_trim := goodIn_ca (goodIn_r _ [413, 99, 414, 415, 416, 2, 417, 113, 114, 22, 16, 418, 419, 420, 121, 122, 123, 21, 124, 125, 126, 52, 51, 14, 15, 127, 40, 41, 42, 11, 12, 43, 44, 45, 46, 47, 128, 129, 130, 131, 132, 133, 134, 135, 136, 137, 421, 422, 423, 424, 425, 426, 245, 427, 428, 429, 430, 431, 432, 433, 434, 435, 255, 256, 257, 258, 436, 312, 313, 314, 263, 182, 183, 184, 437, 438, 439, 440, 251, 252, 253, 254, 441, 442, 443, 444, 445, 186, 187, 188, 189, 178, 179, 180, 953, 954, 955, 956, 957, 958, 959, 960, 980, 981, 982, 974, 975, 976, 977, 978, 979] (by decide +kernel) (by decide +kernel)) (goodIn_sub (fun _ h => List.mem_append_right _ h) (by decide +kernel))
set_option maxRecDepth 20000 in
theorem gL_law_L_trim : GoodIn wsL_law (va_wsS RL 101 yL_trim wsL_trim) := goodIn_app (goodIn_of _ (by decide +kernel)) ggL_law_L_trim
set_option maxRecDepth 20000 in
theorem ggL_law_X7_trim : GoodIn wsL_law wsX7_trim := goodIn_r _ [449, 146, 450, 451, 5, 452, 147, 148, 149, 153, 154, 155, 156, 157, 87, 85, 453, 454, 455, 456, 457, 458, 459, 460, 287, 288, 289, 290, 198, 199, 200, 201, 461, 462, 463, 464, 465, 466, 467, 468, 961, 962, 963, 964, 965, 966, 967, 968, 969, 970, 971, 972, 973] (by decide +kernel) (by decide +kernel)
set_option maxRecDepth 20000 in
theorem gL_law_X7_trim : GoodIn wsL_law (wsV RL 103 RX7 yX7_trim wsX7_trim) := goodIn_app (goodIn_of _ (by decide +kernel)) ggL_law_X7_trim
set_option maxRecDepth 20000 in
theorem ggL_law_X6_settle : GoodIn wsL_law wsX6_settle := goodIn_r _ [472, 22, 16, 121, 122, 123, 21, 124, 125, 126, 52, 51, 14, 15, 127, 40, 41, 42, 11, 12, 43, 44, 45, 46, 47, 128, 129, 130, 131, 132, 133, 134, 135, 136, 137, 473, 474, 475, 476, 477, 478, 422, 423, 424, 425, 426, 245, 427, 428, 429, 430, 431, 432, 433, 434, 435, 255, 256, 257, 258, 436, 312, 313, 314, 263, 182, 183, 184, 437, 438, 439, 440, 251, 252, 253, 254, 441, 442, 443, 444, 445, 186, 187, 188, 189, 178, 179, 180, 953, 954, 955, 956, 957, 958, 959, 960, 980, 981, 982, 974, 975, 976, 977, 978, 979] (by decide +kernel) (by decide +kernel)
set_option maxRecDepth 20000 in
theorem gL_law_X6_settle : GoodIn wsL_law (wsV RL 104 RX6 yX6_settle wsX6_settle) := goodIn_app (goodIn_of _ (by decide +kernel)) ggL_law_X6_settle
set_option maxRecDepth 20000 in
theorem ggL_law_X7_settle : GoodIn wsL_law wsX7_settle := goodIn_r _ [482, 146, 153, 154, 155, 5, 156, 157, 87, 85, 483, 484, 485, 486, 453, 454, 455, 456, 457, 458, 459, 460, 287, 288, 289, 290, 198, 199, 200, 201, 461, 462, 463, 464, 465, 466, 467, 468, 961, 962, 963, 964, 965, 966, 967, 968, 969, 970, 971, 972, 973] (by decide +kernel) (by decide +kernel)
set_option maxRecDepth 20000 in
theorem gL_law_X7_settle : GoodIn wsL_law (wsV RL 107 RX7 yX7_settle wsX7_settle) := goodIn_app (goodIn_of _ (by decide +kernel)) ggL_law_X7_settle
set_option maxRecDepth 20000 in
theorem ggL_law_L_append : GoodIn wsL_law wsL_append := goodIn_ca (goodIn_ca (goodIn_r _ [489, 100, 101, 490, 491, 492, 2, 493, 106, 107, 108, 109, 26, 494, 495, 496, 25, 497, 498, 56, 953, 954, 955, 956, 957, 958, 959, 960, 983, 984] (by decide +kernel) (by decide +kernel)) (goodIn_sub (fun _ h => List.mem_append_left _ (List.mem_append_left _ (List.mem_append_right _ h))) (by decide +kernel))) (goodIn_sub (fun _ h => List.mem_append_left _ (List.mem_append_right _ h)) (by decide +kernel))
set_option maxRecDepth 20000 in
theorem gL_law_L_append : GoodIn wsL_law (va_wsS RL 108 yL_append wsL_append) := goodIn_app (goodIn_of _ (by decide +kernel)) ggL_law_L_append
set_option maxRecDepth 20000 in
theorem ggL_law_X7_append : GoodIn wsL_law wsX7_append := goodIn_r _ [502, 503, 146, 91, 147, 148, 5, 149, 961, 962, 963, 964, 965, 966, 967, 968, 969, 970, 971, 972, 973] (by decide +kernel) (by decide +kernel)
set_option maxRecDepth 20000 in
theorem gL_law_X7_append : GoodIn wsL_law (wsV RL 110 RX7 yX7_append wsX7_append) := goodIn_app (goodIn_of _ (by decide +kernel)) ggL_law_X7_append
set_option maxRecDepth 20000 in
theorem ggL_law_X6_clearBuffer : GoodIn wsL_law wsX6_clearBuffer := goodIn_r _ [507, 26, 508, 509, 510, 25, 511, 498, 953, 954, 955, 956, 957, 958, 959, 960, 983, 984] (by decide +kernel) (by decide +kernel)
set_option maxRecDepth 20000 in
theorem gL_law_X6_clearBuffer : GoodIn wsL_law (wsV RL 111 RX6 yX6_clearBuffer wsX6_clearBuffer) := goodIn_app (goodIn_of _ (by decide +kernel)) ggL_law_X6_clearBuffer
set_option maxRecDepth 20000 in
theorem ggL_law_X7_clearBuffer : GoodIn wsL_law wsX7_clearBuffer := goodIn_r _ [515, 146, 503, 961, 962, 963, 964, 965, 966, 967, 968, 969, 970, 971, 972, 973] (by decide +kernel) (by decide +kernel)
set_option maxRecDepth 20000 in
theorem gL_law_X7_clearBuffer : GoodIn wsL_law (wsV RL 114 RX7 yX7_clearBuffer wsX7_clearBuffer) := goodIn_app (goodIn_of _ (by decide +kernel)) ggL_law_X7_clearBuffer
set_option maxRecDepth 20000 in
theorem ggL_law_X6_firstError : GoodIn wsL_law wsX6_firstError := goodIn_r _ [519, 26, 520, 521, 522, 25, 523, 498, 524, 525, 526, 527, 528, 529, 530, 531, 56, 532, 533, 534, 535, 536, 537, 119, 2, 120, 538, 539, 540, 541, 542, 543, 544, 545, 546, 953, 954, 955, 956, 957, 958, 959, 960, 983, 984] (by decide +kernel) (by decide +kernel)
set_option maxRecDepth 20000 in
theorem gL_law_X6_firstError : GoodIn wsL_law (wsV RL 115 RX6 yX6_firstError wsX6_firstError) := goodIn_app (goodIn_of _ (by decide +kernel)) ggL_law_X6_firstError
set_option maxRecDepth 20000 in
theorem ggL_law_X7_firstError : GoodIn wsL_law wsX7_firstError := goodIn_r _ [550, 146, 503, 551, 552, 553, 5, 554, 555, 91, 556, 557, 558, 559, 94, 560, 561, 562, 563, 150, 151, 152, 147, 148, 149, 961, 962, 963, 964, 965, 966, 967, 968, 969, 970, 971, 972, 973] (by decide +kernel) (by decide +kernel)
set_option maxRecDepth 20000 in
theorem gL_law_X7_firstError : GoodIn wsL_law (wsV RL 118 RX7 yX7_firstError wsX7_firstError) := goodIn_app (goodIn_of _ (by decide +kernel)) ggL_law_X7_firstError
set_option maxRecDepth 20000 in
theorem ggL_law_L_load : GoodIn wsL_law wsL_load := goodIn_ca (goodIn_r _ [566, 100, 567, 568, 569, 2, 570, 106, 107, 26, 22, 16, 571, 572, 573, 25, 574, 498, 528, 529, 530, 531, 56, 541, 542, 543, 575, 521, 522, 523, 524, 525, 526, 527, 532, 533, 534, 535, 536, 537, 119, 120, 538, 539, 540, 544, 545, 546, 121, 122, 123, 21, 124, 125, 126, 52, 51, 14, 15, 127, 40, 41, 42, 11, 12, 43, 44, 45, 46, 47, 128, 129, 130, 131, 132, 133, 134, 135, 136, 137, 576, 577, 578, 579, 580, 139, 140, 141, 508, 509, 510, 511, 953, 954, 955, 956, 957, 958, 959, 960, 974, 975, 976, 977, 978, 979, 983, 984, 980, 981, 982] (by decide +kernel) (by decide +kernel)) (goodIn_sub (fun _ h => List.mem_append_left _ (List.mem_append_left _ (List.mem_append_right _ h))) (by decide +kernel))
set_option maxRecDepth 20000 in
theorem gL_law_L_load : GoodIn wsL_law (va_wsS RL 119 yL_load wsL_load) := goodIn_app (goodIn_of _ (by decide +kernel)) ggL_law_L_load
set_option maxRecDepth 20000 in
theorem ggL_law_X7_load : GoodIn wsL_law wsX7_load := goodIn_r _ [584, 146, 85, 555, 94, 503, 551, 552, 553, 5, 554, 91, 556, 557, 558, 559, 560, 561, 562, 563, 150, 151, 152, 147, 148, 149, 153, 154, 155, 156, 157, 87, 158, 159, 160, 161, 961, 962, 963, 964, 965, 966, 967, 968, 969, 970, 971, 972, 973] (by decide +kernel) (by decide +kernel)
set_option maxRecDepth 20000 in
theorem gL_law_X7_load : GoodIn wsL_law (wsV RL 122 RX7 yX7_load wsX7_load) := goodIn_app (goodIn_of _ (by decide +kernel)) ggL_law_X7_load
set_option maxRecDepth 20000 in
theorem ggL_law_L_keep : GoodIn wsL_law wsL_keep := goodIn_ca (goodIn_r _ [587, 100, 588, 589, 590, 2, 591, 18, 13, 14, 15, 16, 592, 593, 594, 106, 107, 39, 40, 41, 42, 11, 12, 43, 44, 45, 46, 47, 595, 129, 130, 131, 132, 133, 134, 135, 136, 137, 953, 954, 955, 956, 957, 958, 959, 960, 974, 975, 976, 977, 978, 979] (by decide +kernel) (by decide +kernel)) (goodIn_sub (fun _ h => List.mem_append_left _ (List.mem_append_left _ (List.mem_append_right _ h))) (by decide +kernel))
set_option maxRecDepth 20000 in
theorem gL_law_L_keep : GoodIn wsL_law (va_wsS RL 123 yL_keep wsL_keep) := goodIn_app (goodIn_of _ (by decide +kernel)) ggL_law_L_keep
set_option maxRecDepth 20000 in
theorem ggL_law_X7_keep : GoodIn wsL_law wsX7_keep := goodIn_r _ [599, 146, 88, 85, 90, 147, 148, 5, 149, 961, 962, 963, 964, 965, 966, 967, 968, 969, 970, 971, 972, 973] (by decide +kernel) (by decide +kernel)
set_option maxRecDepth 20000 in
theorem gL_law_X7_keep : GoodIn wsL_law (wsV RL 125 RX7 yX7_keep wsX7_keep) := goodIn_app (goodIn_of _ (by decide +kernel)) ggL_law_X7_keep
set_option maxRecDepth 20000 in
theorem ggL_law_L_goBack : GoodIn wsL_law wsL_goBack := goodIn_ca (goodIn_ca (goodIn_r _ [602, 100, 101, 603, 604, 605, 2, 606, 108, 109, 18, 22, 16, 592, 593, 594, 106, 107, 121, 122, 123, 21, 124, 125, 126, 52, 51, 14, 15, 127, 40, 41, 42, 11, 12, 43, 44, 45, 46, 47, 128, 129, 130, 131, 132, 133, 134, 135, 136, 137, 595, 953, 954, 955, 956, 957, 958, 959, 960, 974, 975, 976, 977, 978, 979, 980, 981, 982] (by decide +kernel) (by decide +kernel)) (goodIn_sub (fun _ h => List.mem_append_left _ (List.mem_append_right _ h)) (by decide +kernel))) (goodIn_sub (fun _ h => List.mem_append_left _ (List.mem_append_left _ (List.mem_append_right _ h))) (by decide +kernel))
set_option maxRecDepth 20000 in
theorem gL_law_L_goBack : GoodIn wsL_law (va_wsS RL 126 yL_goBack wsL_goBack) := goodIn_app (goodIn_of _ (by decide +kernel)) ggL_law_L_goBack
set_option maxRecDepth 20000 in
theorem ggL_law_X7_goBack : GoodIn wsL_law wsX7_goBack := goodIn_r _ [610, 90, 146, 85, 88, 147, 148, 5, 149, 153, 154, 155, 156, 157, 87, 961, 962, 963, 964, 965, 966, 967, 968, 969, 970, 971, 972, 973] (by decide +kernel) (by decide +kernel)
set_option maxRecDepth 20000 in
theorem gL_law_X7_goBack : GoodIn wsL_law (wsV RL 128 RX7 yX7_goBack wsX7_goBack) := goodIn_app (goodIn_of _ (by decide +kernel)) ggL_law_X7_goBack
set_option maxRecDepth 20000 in
theorem ggL_law_L_undo : GoodIn wsL_law wsL_undo := goodIn_ca (goodIn_r _ [613, 101, 614, 615, 616, 2, 617, 108, 109, 22, 16, 618, 619, 620, 21, 621, 126, 125, 52, 128, 129, 130, 15, 131, 44, 132, 133, 134, 135, 45, 46, 47, 136, 137, 953, 954, 955, 956, 957, 958, 959, 960, 980, 981, 982, 974, 975, 976, 977, 978, 979] (by decide +kernel) (by decide +kernel)) (goodIn_sub (fun _ h => List.mem_append_left _ (List.mem_append_right _ h)) (by decide +kernel))
set_option maxRecDepth 20000 in
theorem gL_law_L_undo : GoodIn wsL_law (va_wsS RL 129 yL_undo wsL_undo) := goodIn_app (goodIn_of _ (by decide +kernel)) ggL_law_L_undo
set_option maxRecDepth 20000 in
theorem ggL_law_X7_undo : GoodIn wsL_law wsX7_undo := goodIn_r _ [625, 157, 146, 85, 87, 961, 962, 963, 964, 965, 966, 967, 968, 969, 970, 971, 972, 973] (by decide +kernel) (by decide +kernel)
set_option maxRecDepth 20000 in
theorem gL_law_X7_undo : GoodIn wsL_law (wsV RL 131 RX7 yX7_undo wsX7_undo) := goodIn_app (goodIn_of _ (by decide +kernel)) ggL_law_X7_undo
set_option maxRecDepth 20000 in
theorem ggL_law_L_postOf : GoodIn wsL_law wsL_postOf := goodIn_ca (goodIn_ca (goodIn_r _ [628, 99, 100, 629, 630, 631, 2, 632, 106, 107, 16, 633, 634, 245, 635, 110, 111, 112, 113, 114, 115, 116, 117, 636, 232, 233, 15, 234, 44, 637, 433, 434, 435, 136, 255, 256, 257, 258, 46, 436, 312, 313, 314, 45, 263, 182, 183, 184, 47, 638, 438, 439, 440, 251, 252, 253, 254, 639, 640, 641, 642, 643, 644, 645, 646, 647, 648, 649, 650, 418, 419, 420, 651, 429, 430, 431, 432, 437, 953, 954, 955, 956, 957, 958, 959, 960, 974, 975, 976, 977, 978, 979] (by decide +kernel) (by decide +kernel)) (goodIn_sub (fun _ h => List.mem_append_left _ (List.mem_append_left _ (List.mem_append_right _ h))) (by decide +kernel))) (goodIn_sub (fun _ h => List.mem_append_right _ h) (by decide +kernel))
set_option maxRecDepth 20000 in
theorem gL_law_L_postOf : GoodIn wsL_law (va_wsS RL 132 yL_postOf wsL_postOf) := goodIn_app (goodIn_of _ (by decide +kernel)) ggL_law_L_postOf
set_option maxRecDepth 20000 in
theorem ggL_law_X7_postOf : GoodIn wsL_law wsX7_postOf := goodIn_r _ [655, 146, 150, 151, 5, 152, 147, 148, 149, 656, 657, 658, 659, 275, 276, 277, 278, 85, 457, 458, 459, 460, 287, 288, 289, 290, 198, 199, 200, 201, 461, 462, 463, 464, 660, 661, 662, 663, 664, 665, 666, 667, 450, 451, 452, 668, 669, 670, 671, 961, 962, 963, 964, 965, 966, 967, 968, 969, 970, 971, 972, 973] (by decide +kernel) (by decide +kernel)
set_option maxRecDepth 20000 in
theorem gL_law_X7_postOf : GoodIn wsL_law (wsV RL 134 RX7 yX7_postOf wsX7_postOf) := goodIn_app (goodIn_of _ (by decide +kernel)) ggL_law_X7_postOf
set_option maxRecDepth 20000 in
theorem ggL_law_L_ribbonOf : GoodIn wsL_law wsL_ribbonOf := goodIn_ca (goodIn_ca (goodIn_r _ [674, 99, 100, 675, 676, 677, 2, 678, 106, 107, 16, 173, 174, 175, 176, 113, 114, 177, 178, 179, 15, 180, 136, 679, 252, 253, 254, 45, 680, 256, 257, 258, 46, 181, 182, 183, 184, 47, 681, 312, 313, 314, 682, 683, 684, 685, 247, 248, 249, 250, 251, 255, 119, 120, 259, 260, 261, 262, 231, 232, 233, 234, 44, 953, 954, 955, 956, 957, 958, 959, 960, 974, 975, 976, 977, 978, 979] (by decide +kernel) (by decide +kernel)) (goodIn_sub (fun _ h => List.mem_append_left _ (List.mem_append_left _ (List.mem_append_right _ h))) (by decide +kernel))) (goodIn_sub (fun _ h => List.mem_append_right _ h) (by decide +kernel))
set_option maxRecDepth 20000 in
theorem gL_law_L_ribbonOf : GoodIn wsL_law (va_wsS RL 135 yL_ribbonOf wsL_ribbonOf) := goodIn_app (goodIn_of _ (by decide +kernel)) ggL_law_L_ribbonOf
set_option maxRecDepth 20000 in
theorem ggL_law_X7_ribbonOf : GoodIn wsL_law wsX7_ribbonOf := goodIn_r _ [689, 146, 194, 195, 196, 5, 197, 85, 147, 148, 149, 690, 691, 692, 693, 198, 199, 200, 201, 287, 288, 289, 290, 694, 695, 696, 697, 283, 284, 285, 286, 275, 276, 277, 278, 961, 962, 963, 964, 965, 966, 967, 968, 969, 970, 971, 972, 973] (by decide +kernel) (by decide +kernel)
set_option maxRecDepth 20000 in
theorem gL_law_X7_ribbonOf : GoodIn wsL_law (wsV RL 137 RX7 yX7_ribbonOf wsX7_ribbonOf) := goodIn_app (goodIn_of _ (by decide +kernel)) ggL_law_X7_ribbonOf
set_option maxRecDepth 20000 in
theorem ggL_law_L_count : GoodIn wsL_law wsL_count := goodIn_ca (goodIn_r _ [700, 100, 701, 702, 703, 2, 704, 106, 107, 16, 30, 38, 22, 705, 706, 707, 15, 708, 136, 263, 182, 183, 184, 47, 239, 240, 241, 242, 243, 244, 245, 246, 247, 248, 249, 250, 251, 252, 253, 254, 45, 255, 256, 257, 258, 46, 119, 120, 259, 260, 261, 262, 231, 232, 233, 234, 44, 709, 710, 711, 29, 712, 713, 714, 715, 716, 717, 718, 719, 720, 721, 722, 723, 724, 725, 726, 60, 61, 727, 728, 729, 730, 62, 731, 304, 305, 306, 732, 733, 734, 735, 736, 683, 684, 685, 737, 738, 739, 740, 428, 429, 430, 431, 432, 433, 434, 435, 436, 312, 313, 314, 437, 438, 439, 440, 741, 742, 743, 37, 744, 74, 745, 746, 747, 748, 749, 750, 75, 76, 751, 752, 753, 754, 755, 756, 757, 758, 759, 760, 761, 762, 116, 117, 763, 764, 765, 766, 767, 768, 769, 770, 771, 772, 773, 774, 775, 776, 178, 179, 180, 777, 778, 779, 780, 781, 782, 783, 784, 785, 77, 78, 79, 786, 787, 788, 789, 790, 791, 792, 953, 954, 955, 956, 957, 958, 959, 960, 974, 975, 976, 977, 978, 979, 980, 981, 982, 985, 986, 987, 988, 994, 995, 996, 997, 998, 999, 1000, 1001] (by decide +kernel) (by decide +kernel)) (goodIn_sub (fun _ h => List.mem_append_left _ (List.mem_append_left _ (List.mem_append_right _ h))) (by decide +kernel))
set_option maxRecDepth 20000 in
theorem gL_law_L_count : GoodIn wsL_law (va_wsS RL 138 yL_count wsL_count) := goodIn_app (goodIn_of _ (by decide +kernel)) ggL_law_L_count
set_option maxRecDepth 20000 in
theorem ggL_law_X7_count : GoodIn wsL_law wsX7_count := goodIn_r _ [796, 146, 147, 148, 5, 149, 797, 798, 799, 800, 85, 157, 198, 199, 200, 201, 694, 695, 696, 697, 283, 284, 285, 286, 287, 288, 289, 290, 275, 276, 277, 278, 664, 665, 666, 667, 450, 451, 452, 457, 458, 459, 460, 461, 462, 463, 464, 279, 280, 281, 282, 801, 802, 803, 804, 805, 806, 807, 808, 961, 962, 963, 964, 965, 966, 967, 968, 969, 970, 971, 972, 973] (by decide +kernel) (by decide +kernel)
set_option maxRecDepth 20000 in
theorem gL_law_X7_count : GoodIn wsL_law (wsV RL 140 RX7 yX7_count wsX7_count) := goodIn_app (goodIn_of _ (by decide +kernel)) ggL_law_X7_count
set_option maxRecDepth 20000 in
theorem ggL_law_L_ifSwapped : GoodIn wsL_law wsL_ifSwapped := goodIn_ca (goodIn_ca (goodIn_r _ [811, 99, 100, 812, 813, 814, 2, 815, 17, 16, 224, 225, 226, 106, 107, 110, 111, 112, 113, 114, 115, 116, 117, 118, 119, 120, 595, 129, 130, 15, 131, 44, 132, 133, 134, 135, 45, 46, 47, 136, 137, 227, 228, 229, 230, 231, 232, 233, 234, 235, 236, 237, 238, 239, 240, 241, 242, 243, 244, 245, 246, 247, 248, 249, 250, 251, 252, 253, 254, 255, 256, 257, 258, 259, 260, 261, 262, 263, 182, 183, 184, 953, 954, 955, 956, 957, 958, 959, 960, 974, 975, 976, 977, 978, 979] (by decide +kernel) (by decide +kernel)) (goodIn_sub (fun _ h => List.mem_append_left _ (List.mem_append_left _ (List.mem_append_right _ h))) (by decide +kernel))) (goodIn_sub (fun _ h => List.mem_append_right _ h) (by decide +kernel))
set_option maxRecDepth 20000 in
theorem gL_law_L_ifSwapped : GoodIn wsL_law (va_wsS RL 141 yL_ifSwapped wsL_ifSwapped) := goodIn_app (goodIn_of _ (by decide +kernel)) ggL_law_L_ifSwapped
set_option maxRecDepth 20000 in
theorem ggL_law_X7_ifSwapped : GoodIn wsL_law wsX7_ifSwapped := goodIn_r _ [819, 146, 268, 269, 5, 270, 150, 151, 152, 147, 148, 149, 820, 821, 822, 823, 271, 272, 273, 274, 85, 275, 276, 277, 278, 279, 280, 281, 282, 198, 199, 200, 201, 283, 284, 285, 286, 287, 288, 289, 290, 961, 962, 963, 964, 965, 966, 967, 968, 969, 970, 971, 972, 973] (by decide +kernel) (by decide +kernel)
set_option maxRecDepth 20000 in
theorem gL_law_X7_ifSwapped : GoodIn wsL_law (wsV RL 143 RX7 yX7_ifSwapped wsX7_ifSwapped) := goodIn_app (goodIn_of _ (by decide +kernel)) ggL_law_X7_ifSwapped
set_option maxRecDepth 20000 in
theorem ggL_law_L_bestOrder : GoodIn wsL_law wsL_bestOrder := goodIn_ca (goodIn_r _ [826, 99, 827, 828, 829, 2, 830, 34, 16, 353, 354, 355, 113, 114, 356, 357, 358, 33, 359, 360, 68, 69, 361, 133, 134, 135, 362, 363, 364, 365, 70, 303, 304, 305, 306, 366, 367, 368, 369, 370, 244, 245, 246, 315, 252, 253, 15, 254, 45, 307, 256, 257, 258, 46, 119, 120, 371, 260, 261, 262, 251, 255, 372, 182, 183, 184, 47, 316, 232, 233, 234, 44, 373, 374, 375, 376, 308, 309, 310, 377, 378, 379, 380, 831, 832, 833, 834, 953, 954, 955, 956, 957, 958, 959, 960, 989, 990, 991, 992, 993, 974, 975, 976, 977, 978, 979] (by decide +kernel) (by decide +kernel)) (goodIn_sub (fun _ h => List.mem_append_right _ h) (by decide +kernel))
set_option maxRecDepth 20000 in
theorem gL_law_L_bestOrder : GoodIn wsL_law (va_wsS RL 144 yL_bestOrder wsL_bestOrder) := goodIn_app (goodIn_of _ (by decide +kernel)) ggL_law_L_bestOrder
set_option maxRecDepth 20000 in
theorem ggL_law_X7_bestOrder : GoodIn wsL_law wsX7_bestOrder := goodIn_r _ [838, 146, 389, 390, 5, 391, 147, 148, 149, 392, 393, 394, 395, 396, 397, 398, 399, 86, 85, 400, 401, 402, 403, 404, 405, 406, 279, 280, 281, 282, 198, 199, 200, 201, 283, 284, 285, 286, 287, 288, 289, 290, 275, 276, 277, 278, 407, 408, 409, 410, 961, 962, 963, 964, 965, 966, 967, 968, 969, 970, 971, 972, 973] (by decide +kernel) (by decide +kernel)
set_option maxRecDepth 20000 in
theorem gL_law_X7_bestOrder : GoodIn wsL_law (wsV RL 146 RX7 yX7_bestOrder wsX7_bestOrder) := goodIn_app (goodIn_of _ (by decide +kernel)) ggL_law_X7_bestOrder
set_option maxRecDepth 20000 in
theorem ggL_law_X6_ifSettled : GoodIn wsL_law wsX6_ifSettled := goodIn_r _ [842, 17, 16, 595, 129, 130, 15, 131, 44, 132, 133, 134, 135, 45, 46, 47, 136, 137, 473, 474, 475, 476, 477, 478, 422, 423, 424, 425, 426, 245, 427, 428, 429, 430, 431, 432, 433, 434, 435, 255, 256, 257, 258, 436, 312, 313, 314, 263, 182, 183, 184, 437, 438, 439, 440, 251, 252, 253, 254, 441, 442, 443, 444, 445, 186, 187, 188, 189, 178, 179, 180, 953, 954, 955, 956, 957, 958, 959, 960, 974, 975, 976, 977, 978, 979] (by decide +kernel) (by decide +kernel)
set_option maxRecDepth 20000 in
theorem gL_law_X6_ifSettled : GoodIn wsL_law (wsV RL 147 RX6 yX6_ifSettled wsX6_ifSettled) := goodIn_app (goodIn_of _ (by decide +kernel)) ggL_law_X6_ifSettled
set_option maxRecDepth 20000 in
theorem ggL_law_X7_ifSettled : GoodIn wsL_law wsX7_ifSettled := goodIn_r _ [846, 146, 847, 848, 849, 5, 850, 396, 397, 398, 399, 86, 85, 483, 484, 485, 486, 453, 454, 455, 456, 457, 458, 459, 460, 287, 288, 289, 290, 198, 199, 200, 201, 461, 462, 463, 464, 465, 466, 467, 468, 407, 408, 409, 410, 961, 962, 963, 964, 965, 966, 967, 968, 969, 970, 971, 972, 973] (by decide +kernel) (by decide +kernel)
set_option maxRecDepth 20000 in
theorem gL_law_X7_ifSettled : GoodIn wsL_law (wsV RL 150 RX7 yX7_ifSettled wsX7_ifSettled) := goodIn_app (goodIn_of _ (by decide +kernel)) ggL_law_X7_ifSettled
set_option maxRecDepth 20000 in
theorem ggL_law_X6_mainRibbon : GoodIn wsL_law wsX6_mainRibbon := goodIn_r _ [854, 38, 16, 855, 856, 857, 37, 858, 80, 745, 785, 77, 78, 79, 767, 244, 245, 246, 781, 782, 783, 784, 755, 312, 313, 15, 314, 46, 45, 756, 252, 253, 254, 762, 256, 257, 258, 761, 182, 183, 184, 47, 746, 304, 305, 306, 786, 787, 788, 789, 790, 791, 792, 859, 860, 861, 862, 953, 954, 955, 956, 957, 958, 959, 960, 994, 995, 996, 997, 998, 999, 1000, 1001, 974, 975, 976, 977, 978, 979] (by decide +kernel) (by decide +kernel)
set_option maxRecDepth 20000 in
theorem gL_law_X6_mainRibbon : GoodIn wsL_law (wsV RL 151 RX6 yX6_mainRibbon wsX6_mainRibbon) := goodIn_app (goodIn_of _ (by decide +kernel)) ggL_law_X6_mainRibbon
set_option maxRecDepth 20000 in
theorem ggL_law_X7_mainRibbon : GoodIn wsL_law wsX7_mainRibbon := goodIn_r _ [866, 146, 867, 868, 869, 5, 870, 85, 287, 288, 289, 290, 198, 199, 200, 201, 801, 802, 803, 804, 805, 806, 807, 808, 450, 451, 452, 147, 148, 149, 961, 962, 963, 964, 965, 966, 967, 968, 969, 970, 971, 972, 973] (by decide +kernel) (by decide +kernel)
set_option maxRecDepth 20000 in
theorem gL_law_X7_mainRibbon : GoodIn wsL_law (wsV RL 154 RX7 yX7_mainRibbon wsX7_mainRibbon) := goodIn_app (goodIn_of _ (by decide +kernel)) ggL_law_X7_mainRibbon
set_option maxRecDepth 20000 in
theorem ggL_law_L_height : GoodIn wsL_law wsL_height := goodIn_ca (goodIn_ca (goodIn_r _ [873, 99, 874, 875, 876, 2, 877, 353, 354, 355, 113, 114, 878, 630, 631, 632, 106, 107, 16, 633, 634, 245, 635, 110, 111, 112, 115, 116, 117, 636, 232, 233, 15, 234, 44, 637, 433, 434, 435, 136, 255, 256, 257, 258, 46, 436, 312, 313, 314, 45, 263, 182, 183, 184, 47, 638, 438, 439, 440, 251, 252, 253, 254, 639, 640, 641, 642, 643, 644, 645, 646, 647, 648, 649, 650, 418, 419, 420, 651, 429, 430, 431, 432, 437, 953, 954, 955, 956, 957, 958, 959, 960, 974, 975, 976, 977, 978, 979] (by decide +kernel) (by decide +kernel)) (goodIn_sub (fun _ h => List.mem_append_right _ h) (by decide +kernel))) (goodIn_sub (fun _ h => List.mem_append_left _ (List.mem_append_left _ (List.mem_append_right _ h))) (by decide +kernel))
set_option maxRecDepth 20000 in
theorem gL_law_L_height : GoodIn wsL_law (va_wsS RL 155 yL_height wsL_height) := goodIn_app (goodIn_of _ (by decide +kernel)) ggL_law_L_height
set_option maxRecDepth 20000 in
theorem ggL_law_X7_height : GoodIn wsL_law wsX7_height := goodIn_r _ [882, 146, 389, 390, 5, 391, 147, 148, 149, 883, 884, 885, 886, 668, 669, 670, 671, 457, 458, 459, 460, 85, 287, 288, 289, 290, 198, 199, 200, 201, 461, 462, 463, 464, 961, 962, 963, 964, 965, 966, 967, 968, 969, 970, 971, 972, 973] (by decide +kernel) (by decide +kernel)
set_option maxRecDepth 20000 in
theorem gL_law_X7_height : GoodIn wsL_law (wsV RL 157 RX7 yX7_height wsX7_height) := goodIn_app (goodIn_of _ (by decide +kernel)) ggL_law_X7_height
set_option maxRecDepth 20000 in
theorem ggL_law_X6_throughShare : GoodIn wsL_law wsX6_throughShare := goodIn_r _ [890, 16, 38, 638, 438, 439, 15, 440, 136, 251, 252, 253, 254, 45, 436, 312, 313, 314, 46, 263, 182, 183, 184, 47, 741, 742, 743, 37, 744, 74, 745, 746, 304, 305, 306, 747, 748, 749, 750, 75, 76, 751, 752, 753, 754, 755, 756, 757, 758, 759, 760, 761, 762, 256, 257, 258, 116, 2, 117, 763, 764, 765, 766, 767, 244, 245, 246, 768, 769, 770, 771, 772, 773, 774, 775, 776, 178, 179, 180, 953, 954, 955, 956, 957, 958, 959, 960, 974, 975, 976, 977, 978, 979, 994, 995, 996, 997, 998, 999, 1000, 1001] (by decide +kernel) (by decide +kernel)
set_option maxRecDepth 20000 in
theorem gL_law_X6_throughShare : GoodIn wsL_law (wsV RL 158 RX6 yX6_throughShare wsX6_throughShare) := goodIn_app (goodIn_of _ (by decide +kernel)) ggL_law_X6_throughShare
set_option maxRecDepth 20000 in
theorem ggL_law_X7_throughShare : GoodIn wsL_law wsX7_throughShare := goodIn_r _ [894, 146, 895, 896, 897, 5, 898, 461, 462, 463, 464, 85, 287, 288, 289, 290, 198, 199, 200, 201, 801, 802, 803, 804, 805, 806, 807, 808, 450, 451, 452, 147, 148, 149, 961, 962, 963, 964, 965, 966, 967, 968, 969, 970, 971, 972, 973] (by decide +kernel) (by decide +kernel)
set_option maxRecDepth 20000 in
theorem gL_law_X7_throughShare : GoodIn wsL_law (wsV RL 162 RX7 yX7_throughShare wsX7_throughShare) := goodIn_app (goodIn_of _ (by decide +kernel)) ggL_law_X7_throughShare
set_option maxRecDepth 20000 in
theorem ggL_law_X6_digest : GoodIn wsL_law wsX6_digest := goodIn_ca (goodIn_ca (goodIn_r _ [902, 903, 18, 904, 702, 703, 2, 704, 106, 107, 16, 30, 38, 22, 705, 706, 707, 15, 708, 136, 263, 182, 183, 184, 47, 239, 240, 241, 242, 243, 244, 245, 246, 247, 248, 249, 250, 251, 252, 253, 254, 45, 255, 256, 257, 258, 46, 119, 120, 259, 260, 261, 262, 231, 232, 233, 234, 44, 709, 710, 711, 29, 712, 713, 714, 715, 716, 717, 718, 719, 720, 721, 722, 723, 724, 725, 726, 60, 61, 727, 728, 729, 730, 62, 731, 304, 305, 306, 732, 733, 734, 735, 736, 683, 684, 685, 737, 738, 739, 740, 428, 429, 430, 431, 432, 433, 434, 435, 436, 312, 313, 314, 437, 438, 439, 440, 741, 742, 743, 37, 744, 74, 745, 746, 747, 748, 749, 750, 75, 76, 751, 752, 753, 754, 755, 756, 757, 758, 759, 760, 761, 762, 116, 117, 763, 764, 765, 766, 767, 768, 769, 770, 771, 772, 773, 774, 775, 776, 178, 179, 180, 777, 778, 779, 780, 781, 782, 783, 784, 785, 77, 78, 79, 786, 787, 788, 789, 790, 791, 792, 905, 906, 907, 908, 909, 910, 911, 912, 878, 630, 631, 632, 633, 634, 635, 110, 111, 112, 113, 114, 115, 636, 637, 638, 639, 640, 641, 642, 643, 644, 645, 646, 647, 648, 649, 650, 418, 419, 420, 651, 913, 914, 915, 916, 917, 676, 677, 678, 173, 174, 175, 176, 177, 679, 680, 181, 681, 682, 918, 828, 829, 830, 34, 353, 354, 355, 356, 357, 358, 33, 359, 360, 68, 69, 361, 133, 134, 135, 362, 363, 364, 365, 70, 303, 366, 367, 368, 369, 370, 315, 307, 371, 372, 316, 373, 374, 375, 376, 308, 309, 310, 377, 378, 379, 380, 831, 832, 833, 834, 919, 875, 876, 877, 920, 813, 814, 815, 17, 224, 225, 226, 118, 595, 129, 130, 131, 132, 137, 227, 228, 229, 230, 235, 236, 237, 238, 921, 840, 841, 842, 473, 474, 475, 476, 477, 478, 422, 423, 424, 425, 426, 427, 441, 442, 443, 444, 445, 186, 187, 188, 189, 922, 852, 853, 854, 855, 856, 857, 858, 80, 859, 860, 861, 862, 923, 888, 889, 890, 924, 925, 926, 927, 928, 929, 930, 931, 932, 933, 26, 934, 529, 530, 25, 531, 498, 56, 953, 954, 955, 956, 957, 958, 959, 960, 974, 975, 976, 977, 978, 979, 980, 981, 982, 985, 986, 987, 988, 994, 995, 996, 997, 998, 999, 1000, 1001, 989, 990, 991, 992, 993, 983, 984] (by decide +kernel) (by decide +kernel)) (goodIn_sub (fun _ h => List.mem_append_left _ (List.mem_append_left _ (List.mem_append_right _ h))) (by decide +kernel))) (goodIn_sub (fun _ h => List.mem_append_right _ h) (by decide +kernel))
set_option maxRecDepth 20000 in
theorem gL_law_X6_digest : GoodIn wsL_law (wsV RL 163 RX6 yX6_digest wsX6_digest) := goodIn_app (goodIn_of _ (by decide +kernel)) ggL_law_X6_digest
set_option maxRecDepth 20000 in
theorem ggL_law_X7_digest : GoodIn wsL_law wsX7_digest := goodIn_r _ [938, 146, 939, 940, 85, 90, 503, 91, 797, 798, 799, 5, 800, 157, 198, 199, 200, 201, 694, 695, 696, 697, 283, 284, 285, 286, 287, 288, 289, 290, 275, 276, 277, 278, 664, 665, 666, 667, 450, 451, 452, 147, 148, 149, 457, 458, 459, 460, 461, 462, 463, 464, 279, 280, 281, 282, 801, 802, 803, 804, 805, 806, 807, 808, 656, 657, 658, 659, 660, 661, 662, 663, 668, 669, 670, 671, 690, 691, 692, 693, 392, 393, 394, 395, 396, 397, 398, 399, 86, 400, 401, 402, 403, 404, 405, 406, 407, 408, 409, 410, 883, 884, 885, 886, 820, 821, 822, 823, 271, 272, 273, 274, 847, 848, 849, 850, 483, 484, 485, 486, 453, 454, 455, 456, 465, 466, 467, 468, 867, 868, 869, 870, 895, 896, 897, 898, 941, 942, 943, 944, 945, 946, 947, 948, 949, 950, 951, 952, 961, 962, 963, 964, 965, 966, 967, 968, 969, 970, 971, 972, 973] (by decide +kernel) (by decide +kernel)
set_option maxRecDepth 20000 in
theorem gL_law_X7_digest : GoodIn wsL_law (wsV RL 167 RX7 yX7_digest wsX7_digest) := goodIn_app (goodIn_of _ (by decide +kernel)) ggL_law_X7_digest
