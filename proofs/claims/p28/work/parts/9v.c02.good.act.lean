/-! ===== the words of callees: act ===== -/
set_option maxRecDepth 20000 in
theorem ggL_act_L_trimmed : GoodIn wsL_act wsL_trimmed := goodIn_r _ [273, 274, 275, 3, 276, 158, 159, 160] (by decide +kernel) (by decide +kernel)
set_option maxRecDepth 20000 in
theorem gL_act_L_trimmed : GoodIn wsL_act (va_wsS RL 56 yL_trimmed wsL_trimmed) := goodIn_app (goodIn_of _ (by decide +kernel)) ggL_act_L_trimmed
set_option maxRecDepth 20000 in
theorem ggL_act_L_trim : GoodIn wsL_act wsL_trim := goodIn_ca (goodIn_r _ [279, 9, 280, 281, 282, 15, 283, 26, 27, 22, 21, 284, 285, 286, 34, 35, 36, 37, 38, 39, 40, 41, 42, 43, 44, 45, 46, 47, 48, 49, 50, 51, 52, 53, 54, 55, 56, 57, 58, 59, 60, 61, 62, 63, 64, 65, 287, 288, 289, 290, 291, 292, 133, 293, 294, 295, 296, 297, 298, 299, 300, 301, 143, 144, 145, 146, 302, 197, 198, 199, 151, 86, 87, 88, 303, 304, 305, 306, 139, 140, 141, 142, 307, 308, 309, 310, 311, 90, 91, 92, 93, 82, 83, 84, 437, 438, 439, 440, 441, 442, 443, 444, 451, 452, 453, 445, 446, 447, 448, 449, 450] (by decide +kernel) (by decide +kernel)) (goodIn_sub (fun _ h => List.mem_cons_of_mem _ (List.mem_append_right _ h)) (by decide +kernel))
set_option maxRecDepth 20000 in
theorem gL_act_L_trim : GoodIn wsL_act (va_wsS RL 96 yL_trim wsL_trim) := goodIn_app (goodIn_of _ (by decide +kernel)) ggL_act_L_trim
set_option maxRecDepth 20000 in
theorem ggL_act_L_settled : GoodIn wsL_act wsL_settled := goodIn_r _ [314, 271, 272, 3, 273, 274, 275, 276, 158, 159, 160] (by decide +kernel) (by decide +kernel)
set_option maxRecDepth 20000 in
theorem gL_act_L_settled : GoodIn wsL_act (va_wsS RL 98 yL_settled wsL_settled) := goodIn_app (goodIn_of _ (by decide +kernel)) ggL_act_L_settled
set_option maxRecDepth 20000 in
theorem ggL_act_X6_ifSettled : GoodIn wsL_act wsX6_ifSettled := goodIn_r _ [318, 165, 21, 166, 57, 58, 44, 59, 52, 60, 61, 62, 63, 53, 54, 55, 64, 65, 319, 320, 321, 322, 323, 324, 288, 289, 290, 291, 292, 133, 293, 294, 295, 296, 297, 298, 299, 300, 301, 143, 144, 145, 146, 302, 197, 198, 199, 151, 86, 87, 88, 303, 304, 305, 306, 139, 140, 141, 142, 307, 308, 309, 310, 311, 90, 91, 92, 93, 82, 83, 84, 437, 438, 439, 440, 441, 442, 443, 444, 445, 446, 447, 448, 449, 450] (by decide +kernel) (by decide +kernel)
set_option maxRecDepth 20000 in
theorem gL_act_X6_ifSettled : GoodIn wsL_act (wsV RL 102 RX6 yX6_ifSettled wsX6_ifSettled) := goodIn_app (goodIn_of _ (by decide +kernel)) ggL_act_X6_ifSettled
set_option maxRecDepth 20000 in
theorem ggL_act_X6_settle : GoodIn wsL_act wsX6_settle := goodIn_r _ [328, 22, 21, 34, 35, 36, 37, 38, 39, 40, 41, 42, 43, 44, 45, 46, 47, 48, 49, 50, 51, 52, 53, 54, 55, 56, 57, 58, 59, 60, 61, 62, 63, 64, 65, 319, 320, 321, 322, 323, 324, 288, 289, 290, 291, 292, 133, 293, 294, 295, 296, 297, 298, 299, 300, 301, 143, 144, 145, 146, 302, 197, 198, 199, 151, 86, 87, 88, 303, 304, 305, 306, 139, 140, 141, 142, 307, 308, 309, 310, 311, 90, 91, 92, 93, 82, 83, 84, 437, 438, 439, 440, 441, 442, 443, 444, 451, 452, 453, 445, 446, 447, 448, 449, 450] (by decide +kernel) (by decide +kernel)
set_option maxRecDepth 20000 in
theorem gL_act_X6_settle : GoodIn wsL_act (wsV RL 105 RX6 yX6_settle wsX6_settle) := goodIn_app (goodIn_of _ (by decide +kernel)) ggL_act_X6_settle
set_option maxRecDepth 20000 in
theorem ggL_act_X6_count : GoodIn wsL_act wsX6_count := goodIn_ca (goodIn_r _ [332, 17, 18, 21, 333, 334, 22, 335, 336, 337, 44, 338, 64, 151, 86, 87, 88, 55, 127, 128, 129, 130, 131, 132, 133, 134, 135, 136, 137, 138, 139, 140, 141, 142, 53, 143, 144, 145, 146, 54, 32, 15, 33, 147, 148, 149, 150, 119, 120, 121, 122, 52, 339, 340, 341, 342, 343, 344, 345, 346, 347, 348, 349, 350, 351, 352, 353, 354, 355, 356, 357, 358, 359, 360, 361, 362, 363, 364, 365, 189, 190, 191, 366, 367, 368, 369, 370, 371, 372, 373, 374, 375, 376, 377, 294, 295, 296, 297, 298, 299, 300, 301, 302, 197, 198, 199, 303, 304, 305, 306, 378, 379, 380, 381, 382, 383, 384, 385, 386, 387, 388, 389, 390, 391, 392, 393, 394, 395, 396, 397, 398, 399, 400, 401, 402, 403, 29, 30, 404, 405, 406, 407, 408, 409, 410, 411, 412, 413, 414, 415, 416, 417, 82, 83, 84, 418, 419, 420, 421, 422, 423, 424, 425, 426, 427, 428, 429, 430, 431, 432, 433, 434, 435, 436, 437, 438, 439, 440, 441, 442, 443, 444, 445, 446, 447, 448, 449, 450, 451, 452, 453, 459, 460, 461, 462, 463, 464, 465, 466, 467, 468, 469, 470] (by decide +kernel) (by decide +kernel)) (goodIn_sub (fun _ h => List.mem_cons_of_mem _ (List.mem_append_left _ (List.mem_append_left _ (List.mem_append_right _ h)))) (by decide +kernel))
set_option maxRecDepth 20000 in
theorem gL_act_X6_count : GoodIn wsL_act (wsV RL 108 RX6 yX6_count wsX6_count) := goodIn_app (goodIn_of _ (by decide +kernel)) ggL_act_X6_count
