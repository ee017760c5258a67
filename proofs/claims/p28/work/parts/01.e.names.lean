set_option maxRecDepth 20000 in
theorem ggL_act_L_low : GoodIn wsL_act wsL_low := goodIn_r _ [4, 5] (by decide +kernel) (by decide +kernel)
set_option maxRecDepth 20000 in
theorem gL_act_L_low : GoodIn wsL_act (va_wsS RL 65 yL_low wsL_low) := goodIn_app (goodIn_of _ (by decide +kernel)) ggL_act_L_low
set_option maxRecDepth 20000 in
theorem ggL_act_L_ribbon : GoodIn wsL_act wsL_ribbon := goodIn_ca (goodIn_ca (goodIn_ca (goodIn_r _ [8, 9, 10, 11, 12, 13, 14, 15, 16, 17, 18, 19, 20, 21, 22, 23, 24, 25, 26, 27, 28, 29, 30, 31, 32, 33, 34, 35, 36, 37, 38, 39, 40, 41, 42, 43, 44, 45, 46, 47, 48, 49, 50, 51, 52, 53, 54, 55, 56, 57, 58, 59, 60, 61, 62, 63, 64, 65, 66, 67, 68, 69, 437, 438, 439, 440, 441, 442, 443, 444, 445, 446, 447, 448, 449, 450, 451, 452, 453] (by decide +kernel) (by decide +kernel)) (goodIn_sub (fun _ h => List.mem_cons_of_mem _ (List.mem_append_left _ (List.mem_append_left _ (List.mem_append_right _ h)))) (by decide +kernel))) (goodIn_sub (fun _ h => List.mem_cons_of_mem _ (List.mem_append_left _ (List.mem_append_right _ h))) (by decide +kernel))) (goodIn_sub (fun _ h => List.mem_cons_of_mem _ (List.mem_append_right _ h)) (by decide +kernel))
set_option maxRecDepth 20000 in
theorem gL_act_L_ribbon : GoodIn wsL_act (va_wsS RL 68 yL_ribbon wsL_ribbon) := goodIn_app (goodIn_of _ (by decide +kernel)) ggL_act_L_ribbon
set_option maxRecDepth 20000 in
theorem ggL_act_L_widen : GoodIn wsL_act wsL_widen := goodIn_ca (goodIn_ca (goodIn_r _ [72, 9, 10, 73, 74, 75, 15, 76, 17, 18, 22, 21, 77, 78, 79, 80, 26, 27, 81, 82, 83, 44, 84, 64, 34, 35, 36, 37, 38, 39, 40, 41, 42, 43, 45, 46, 47, 48, 49, 50, 51, 52, 53, 54, 55, 56, 57, 58, 59, 60, 61, 62, 63, 65, 85, 86, 87, 88, 89, 90, 91, 92, 93, 437, 438, 439, 440, 441, 442, 443, 444, 445, 446, 447, 448, 449, 450, 451, 452, 453] (by decide +kernel) (by decide +kernel)) (goodIn_sub (fun _ h => List.mem_cons_of_mem _ (List.mem_append_left _ (List.mem_append_left _ (List.mem_append_right _ h)))) (by decide +kernel))) (goodIn_sub (fun _ h => List.mem_cons_of_mem _ (List.mem_append_right _ h)) (by decide +kernel))
set_option maxRecDepth 20000 in
theorem gL_act_L_widen : GoodIn wsL_act (va_wsS RL 71 yL_widen wsL_widen) := goodIn_app (goodIn_of _ (by decide +kernel)) ggL_act_L_widen
set_option maxRecDepth 20000 in
theorem ggL_act_L_remove : GoodIn wsL_act wsL_remove := goodIn_ca (goodIn_r _ [96, 9, 97, 98, 99, 15, 100, 22, 21, 77, 78, 79, 80, 26, 27, 81, 82, 83, 44, 84, 64, 34, 35, 36, 37, 38, 39, 40, 41, 42, 43, 45, 46, 47, 48, 49, 50, 51, 52, 53, 54, 55, 56, 57, 58, 59, 60, 61, 62, 63, 65, 85, 86, 87, 88, 101, 102, 103, 104, 93, 437, 438, 439, 440, 441, 442, 443, 444, 445, 446, 447, 448, 449, 450, 451, 452, 453] (by decide +kernel) (by decide +kernel)) (goodIn_sub (fun _ h => List.mem_cons_of_mem _ (List.mem_append_right _ h)) (by decide +kernel))
set_option maxRecDepth 20000 in
theorem gL_act_L_remove : GoodIn wsL_act (va_wsS RL 74 yL_remove wsL_remove) := goodIn_app (goodIn_of _ (by decide +kernel)) ggL_act_L_remove
set_option maxRecDepth 20000 in
theorem ggL_act_L_swap : GoodIn wsL_act wsL_swap := goodIn_ca (goodIn_ca (goodIn_r _ [107, 9, 10, 108, 109, 110, 15, 111, 22, 21, 112, 113, 114, 17, 18, 23, 24, 25, 26, 27, 28, 29, 30, 31, 32, 33, 34, 35, 36, 37, 38, 39, 40, 41, 42, 43, 44, 45, 46, 47, 48, 49, 50, 51, 52, 53, 54, 55, 56, 57, 58, 59, 60, 61, 62, 63, 64, 65, 115, 116, 117, 118, 119, 120, 121, 122, 123, 124, 125, 126, 127, 128, 129, 130, 131, 132, 133, 134, 135, 136, 137, 138, 139, 140, 141, 142, 143, 144, 145, 146, 147, 148, 149, 150, 151, 86, 87, 88, 437, 438, 439, 440, 441, 442, 443, 444, 451, 452, 453, 445, 446, 447, 448, 449, 450] (by decide +kernel) (by decide +kernel)) (goodIn_sub (fun _ h => List.mem_cons_of_mem _ (List.mem_append_left _ (List.mem_append_left _ (List.mem_append_right _ h)))) (by decide +kernel))) (goodIn_sub (fun _ h => List.mem_cons_of_mem _ (List.mem_append_right _ h)) (by decide +kernel))
set_option maxRecDepth 20000 in
theorem gL_act_L_swap : GoodIn wsL_act (va_wsS RL 77 yL_swap wsL_swap) := goodIn_app (goodIn_of _ (by decide +kernel)) ggL_act_L_swap
set_option maxRecDepth 20000 in
theorem ggL_act_L_crossings : GoodIn wsL_act wsL_crossings := goodIn_r _ [154, 155, 156, 3, 157, 158, 159, 160] (by decide +kernel) (by decide +kernel)
set_option maxRecDepth 20000 in
theorem gL_act_L_crossings : GoodIn wsL_act (va_wsS RL 61 yL_crossings wsL_crossings) := goodIn_app (goodIn_of _ (by decide +kernel)) ggL_act_L_crossings
set_option maxRecDepth 20000 in
theorem ggL_act_X6_ifSwapped : GoodIn wsL_act wsX6_ifSwapped := goodIn_ca (goodIn_ca (goodIn_r _ [164, 165, 21, 112, 113, 15, 114, 17, 18, 23, 24, 25, 26, 27, 28, 29, 30, 31, 32, 33, 166, 57, 58, 44, 59, 52, 60, 61, 62, 63, 53, 54, 55, 64, 65, 115, 116, 117, 118, 119, 120, 121, 122, 123, 124, 125, 126, 127, 128, 129, 130, 131, 132, 133, 134, 135, 136, 137, 138, 139, 140, 141, 142, 143, 144, 145, 146, 147, 148, 149, 150, 151, 86, 87, 88, 437, 438, 439, 440, 441, 442, 443, 444, 445, 446, 447, 448, 449, 450] (by decide +kernel) (by decide +kernel)) (goodIn_sub (fun _ h => List.mem_cons_of_mem _ (List.mem_append_left _ (List.mem_append_left _ (List.mem_append_right _ h)))) (by decide +kernel))) (goodIn_sub (fun _ h => List.mem_cons_of_mem _ (List.mem_append_right _ h)) (by decide +kernel))
set_option maxRecDepth 20000 in
theorem gL_act_X6_ifSwapped : GoodIn wsL_act (wsV RL 79 RX6 yX6_ifSwapped wsX6_ifSwapped) := goodIn_app (goodIn_of _ (by decide +kernel)) ggL_act_X6_ifSwapped
set_option maxRecDepth 20000 in
theorem ggL_act_L_sweep : GoodIn wsL_act wsL_sweep := goodIn_r _ [169, 51, 170, 158, 159, 3, 160] (by decide +kernel) (by decide +kernel)
set_option maxRecDepth 20000 in
theorem gL_act_L_sweep : GoodIn wsL_act (va_wsS RL 82 yL_sweep wsL_sweep) := goodIn_app (goodIn_of _ (by decide +kernel)) ggL_act_L_sweep
set_option maxRecDepth 20000 in
theorem ggL_act_X6_sweep : GoodIn wsL_act wsX6_sweep := goodIn_r _ [174, 22, 21, 175, 34, 35, 36, 37, 38, 39, 40, 41, 42, 43, 44, 45, 46, 47, 48, 49, 50, 51, 52, 53, 54, 55, 56, 57, 58, 59, 60, 61, 62, 63, 64, 65, 176, 177, 178, 179, 180, 181, 182, 183, 184, 185, 186, 187, 188, 189, 190, 191, 192, 144, 145, 146, 193, 194, 195, 196, 197, 198, 199, 200, 140, 141, 142, 201, 120, 121, 122, 202, 203, 204, 205, 206, 207, 208, 209, 119, 210, 211, 212, 213, 214, 215, 216, 217, 218, 124, 125, 126, 29, 15, 30, 127, 128, 129, 130, 131, 132, 133, 134, 135, 136, 137, 138, 139, 143, 32, 33, 147, 148, 149, 150, 151, 86, 87, 88, 437, 438, 439, 440, 441, 442, 443, 444, 451, 452, 453, 445, 446, 447, 448, 449, 450, 454, 455, 456, 457, 458] (by decide +kernel) (by decide +kernel)
set_option maxRecDepth 20000 in
theorem gL_act_X6_sweep : GoodIn wsL_act (wsV RL 86 RX6 yX6_sweep wsX6_sweep) := goodIn_app (goodIn_of _ (by decide +kernel)) ggL_act_X6_sweep
set_option maxRecDepth 20000 in
theorem ggL_act_L_bestOrder : GoodIn wsL_act wsL_bestOrder := goodIn_r _ [221, 51, 152, 153, 3, 154, 155, 156, 157, 158, 159, 160] (by decide +kernel) (by decide +kernel)
set_option maxRecDepth 20000 in
theorem gL_act_L_bestOrder : GoodIn wsL_act (va_wsS RL 88 yL_bestOrder wsL_bestOrder) := goodIn_app (goodIn_of _ (by decide +kernel)) ggL_act_L_bestOrder
set_option maxRecDepth 20000 in
theorem ggL_act_X6_bestOrder : GoodIn wsL_act wsX6_bestOrder := goodIn_ca (goodIn_r _ [225, 175, 21, 226, 227, 15, 228, 26, 27, 229, 230, 231, 179, 232, 233, 181, 234, 235, 61, 62, 63, 236, 237, 238, 239, 240, 188, 189, 190, 191, 241, 242, 243, 244, 245, 132, 133, 134, 200, 140, 141, 44, 142, 53, 192, 144, 145, 146, 54, 32, 33, 246, 148, 149, 150, 139, 143, 247, 86, 87, 88, 55, 201, 120, 121, 122, 52, 248, 249, 250, 251, 193, 194, 195, 252, 253, 254, 255, 256, 257, 258, 259, 437, 438, 439, 440, 441, 442, 443, 444, 454, 455, 456, 457, 458, 445, 446, 447, 448, 449, 450] (by decide +kernel) (by decide +kernel)) (goodIn_sub (fun _ h => List.mem_cons_of_mem _ (List.mem_append_right _ h)) (by decide +kernel))
set_option maxRecDepth 20000 in
theorem gL_act_X6_bestOrder : GoodIn wsL_act (wsV RL 92 RX6 yX6_bestOrder wsX6_bestOrder) := goodIn_app (goodIn_of _ (by decide +kernel)) ggL_act_X6_bestOrder
set_option maxRecDepth 20000 in
theorem ggL_act_L_order : GoodIn wsL_act wsL_order := goodIn_ca (goodIn_r _ [262, 9, 263, 264, 265, 15, 266, 22, 21, 175, 226, 227, 228, 26, 27, 34, 35, 36, 37, 38, 39, 40, 41, 42, 43, 44, 45, 46, 47, 48, 49, 50, 51, 52, 53, 54, 55, 56, 57, 58, 59, 60, 61, 62, 63, 64, 65, 229, 230, 231, 179, 232, 233, 181, 234, 235, 236, 237, 238, 239, 240, 188, 189, 190, 191, 241, 242, 243, 244, 245, 132, 133, 134, 200, 140, 141, 142, 192, 144, 145, 146, 32, 33, 246, 148, 149, 150, 139, 143, 247, 86, 87, 88, 201, 120, 121, 122, 248, 249, 250, 251, 193, 194, 195, 252, 253, 254, 255, 267, 268, 269, 270, 218, 124, 125, 126, 29, 30, 127, 128, 129, 130, 131, 135, 136, 137, 138, 147, 119, 151, 437, 438, 439, 440, 441, 442, 443, 444, 451, 452, 453, 445, 446, 447, 448, 449, 450, 454, 455, 456, 457, 458] (by decide +kernel) (by decide +kernel)) (goodIn_sub (fun _ h => List.mem_cons_of_mem _ (List.mem_append_right _ h)) (by decide +kernel))
set_option maxRecDepth 20000 in
theorem gL_act_L_order : GoodIn wsL_act (va_wsS RL 94 yL_order wsL_order) := goodIn_app (goodIn_of _ (by decide +kernel)) ggL_act_L_order
set_option maxRecDepth 20000 in
theorem ggL_act_L_trimmed : GoodIn wsL_act wsL_trimmed := goodIn_r _ [273, 274, 275, 3, 276, 158, 159, 160] (by decide +kernel) (by decide +kernel)
set_option maxRecDepth 20000 in
theorem gL_act_L_trimmed : GoodIn wsL_act (va_wsS RL 56 yL_trimmed wsL_trimmed) := goodIn_app (goodIn_of _ (by decide +kernel)) ggL_act_L_trimmed
set_option maxRecDepth 20000 in
theorem ggL_act_L_trim : GoodIn wsL_act wsL_trim := goodIn_ca (goodIn_r _ [279, 9, 280, 281, 282, 15, 283, 26, 27, 22, 21, 284, 285, 286, 34, 35, 36, 37, 38, 39, 40, 41, 42, 43, 44, 45, 46, 47, 48, 49, 50, 51, 52, 53, 54, 55, 56, 57, 58, 59, 60, 61, 62, 63, 64, 65, 287, 288, 289, 290, 291, 292, 133, 293, 294, 295, 296, 297, 298, 299, 300, 301, 143, 144, 145, 146, 302, 197, 198, 199, 151, 86, 87, 88, 303, 304, 305, 306, 139, 140, 141, 142, 307, 308, 309, 310, 311, 90, 91, 92, 93, 82, 83, 84, 437, 438, 439, 440, 441, 442, 443, 444, 451, 452, 453, 445, 446, 447, 448, 449, 450] (by decide +kernel) (by decide +kernel)) (goodIn_sub (fun _ h => List.mem_cons_of_mem _ (List.mem_append_right _ h)) (by decide +kernel))
set_option maxRecDepth 20000 in
theorem gL_act_L_trim : GoodIn wsL_act (va_wsS RL 96 yL_trim wsL_trim) := goodIn_app (goodIn_of _ (by decide +kernel)) ggL_act_L_trim
set_option maxRecDepth 20000 in
theorem ggL_act_L_settled : GoodIn wsL_act wsL_settled := goodIn_r _ [314, 271, 272, 3, 273, 274, 275, 276, 158, 159, 160] (by decide +kernel) (by decide +kernel)
set_option maxRecDepth 20000 in
theorem gL_act_L_settled : GoodIn wsL_act (va_wsS RL 98 yL_settled wsL_settled) := goodIn_app (goodIn_of _ (by decide +kernel)) ggL_act_L_settled
set_option maxRecDepth 20000 in
theorem ggL_act_X6_ifSettled : GoodIn wsL_act wsX6_ifSettled := goodIn_r _ [318, 165, 21, 166, 57, 58, 44, 59, 52, 60, 61, 62, 63, 53, 54, 55, 64, 65, 319, 320, 321, 322, 323, 324, 288, 289, 290, 291, 292, 133, 293, 294, 295, 296, 297, 298, 299, 300, 301, 143, 144, 145, 146, 302, 197, 198, 199, 151, 86, 87, 88, 303, 304, 305, 306, 139, 140, 141, 142, 307, 308, 309, 310, 311, 90, 91, 92, 93, 82, 83, 84, 437, 438, 439, 440, 441, 442, 443, 444, 445, 446, 447, 448, 449, 450] (by decide +kernel) (by decide +kernel)
set_option maxRecDepth 20000 in
theorem gL_act_X6_ifSettled : GoodIn wsL_act (wsV RL 102 RX6 yX6_ifSettled wsX6_ifSettled) := goodIn_app (goodIn_of _ (by decide +kernel)) ggL_act_X6_ifSettled
set_option maxRecDepth 20000 in
theorem ggL_act_X6_settle : GoodIn wsL_act wsX6_settle := goodIn_r _ [328, 22, 21, 34, 35, 36, 37, 38, 39, 40, 41, 42, 43, 44, 45, 46, 47, 48, 49, 50, 51, 52, 53, 54, 55, 56, 57, 58, 59, 60, 61, 62, 63, 64, 65, 319, 320, 321, 322, 323, 324, 288, 289, 290, 291, 292, 133, 293, 294, 295, 296, 297, 298, 299, 300, 301, 143, 144, 145, 146, 302, 197, 198, 199, 151, 86, 87, 88, 303, 304, 305, 306, 139, 140, 141, 142, 307, 308, 309, 310, 311, 90, 91, 92, 93, 82, 83, 84, 437, 438, 439, 440, 441, 442, 443, 444, 451, 452, 453, 445, 446, 447, 448, 449, 450] (by decide +kernel) (by decide +kernel)
set_option maxRecDepth 20000 in
theorem gL_act_X6_settle : GoodIn wsL_act (wsV RL 105 RX6 yX6_settle wsX6_settle) := goodIn_app (goodIn_of _ (by decide +kernel)) ggL_act_X6_settle
set_option maxRecDepth 20000 in
theorem ggL_act_X6_count : GoodIn wsL_act wsX6_count := goodIn_ca (goodIn_r _ [332, 17, 18, 21, 333, 334, 22, 335, 336, 337, 44, 338, 64, 151, 86, 87, 88, 55, 127, 128, 129, 130, 131, 132, 133, 134, 135, 136, 137, 138, 139, 140, 141, 142, 53, 143, 144, 145, 146, 54, 32, 15, 33, 147, 148, 149, 150, 119, 120, 121, 122, 52, 339, 340, 341, 342, 343, 344, 345, 346, 347, 348, 349, 350, 351, 352, 353, 354, 355, 356, 357, 358, 359, 360, 361, 362, 363, 364, 365, 189, 190, 191, 366, 367, 368, 369, 370, 371, 372, 373, 374, 375, 376, 377, 294, 295, 296, 297, 298, 299, 300, 301, 302, 197, 198, 199, 303, 304, 305, 306, 378, 379, 380, 381, 382, 383, 384, 385, 386, 387, 388, 389, 390, 391, 392, 393, 394, 395, 396, 397, 398, 399, 400, 401, 402, 403, 29, 30, 404, 405, 406, 407, 408, 409, 410, 411, 412, 413, 414, 415, 416, 417, 82, 83, 84, 418, 419, 420, 421, 422, 423, 424, 425, 426, 427, 428, 429, 430, 431, 432, 433, 434, 435, 436, 437, 438, 439, 440, 441, 442, 443, 444, 445, 446, 447, 448, 449, 450, 451, 452, 453, 459, 460, 461, 462, 463, 464, 465, 466, 467, 468, 469, 470] (by decide +kernel) (by decide +kernel)) (goodIn_sub (fun _ h => List.mem_cons_of_mem _ (List.mem_append_left _ (List.mem_append_left _ (List.mem_append_right _ h)))) (by decide +kernel))
set_option maxRecDepth 20000 in
theorem gL_act_X6_count : GoodIn wsL_act (wsV RL 108 RX6 yX6_count wsX6_count) := goodIn_app (goodIn_of _ (by decide +kernel)) ggL_act_X6_count
