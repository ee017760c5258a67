/-! ===== the law: the words of its callees ===== -/
set_option maxRecDepth 20000 in
theorem ggL_law_X6_clearBuffer : GoodIn wsL_law wsX6_clearBuffer := goodIn_r _ [507, 26, 508, 509, 510, 25, 511, 498, 953, 954, 955, 956, 957, 958, 959, 960, 983, 984] (by decide +kernel) (by decide +kernel)
set_option maxRecDepth 20000 in
theorem gL_law_X6_clearBuffer : GoodIn wsL_law (wsV RL 111 RX6 yX6_clearBuffer wsX6_clearBuffer) := goodIn_app (goodIn_of _ (by decide +kernel)) ggL_law_X6_clearBuffer
set_option maxRecDepth 20000 in
theorem ggL_law_X7_clearBuffer : GoodIn wsL_law wsX7_clearBuffer := goodIn_r _ [515, 146, 503, 961, 962, 963, 964, 965, 966, 967, 968, 969, 970, 971, 972, 973] (by decide +kernel) (by decide +kernel)
set_option maxRecDepth 20000 in
theorem gL_law_X7_clearBuffer : GoodIn wsL_law (wsV RL 114 RX7 yX7_clearBuffer wsX7_clearBuffer) := goodIn_app (goodIn_of _ (by decide +kernel)) ggL_law_X7_clearBuffer
set_option maxRecDepth 20000 in
theorem ggL_law_X6_firstError : GoodIn wsL_law wsX6_firstError := goodIn_r _ [519, 26, 520, 521, 522, 25, 523, 498, 524, 525, 526, 527, 528, 529, 530, 531, 56, 532, 533, 534, 535, 536, 537, 119, 2, 120, 538, 539, 540, 541, 542, 543, 544, 545, 546, 953, 954, 955, 956, 957, 958, 959, 960, 983, 984] (by decide +kernel) (by decide +kernel)
set_option maxRecDepth 20000 in
theorem gL_law_X6_firstError : GoodIn wsL_law (wsV RL 115 RX6 yX6_firstError wsX6_firstError) := goodIn_app (goodIn_of _ (by decide +kernel)) ggL_law_X6_firstError
set_option maxRecDepth 20000 in
theorem ggL_law_X7_firstError : GoodIn wsL_law wsX7_firstError := goodIn_r _ [550, 146, 503, 551, 552, 553, 5, 554, 555, 91, 556, 557, 558, 559, 94, 560, 561, 562, 563, 150, 151, 152, 147, 148, 149, 961, 962, 963, 964, 965, 966, 967, 968, 969, 970, 971, 972, 973] (by decide +kernel) (by decide +kernel)
set_option maxRecDepth 20000 in
theorem gL_law_X7_firstError : GoodIn wsL_law (wsV RL 118 RX7 yX7_firstError wsX7_firstError) := goodIn_app (goodIn_of _ (by decide +kernel)) ggL_law_X7_firstError
set_option maxRecDepth 20000 in
theorem ggL_law_L_load : GoodIn wsL_law wsL_load := goodIn_ca (goodIn_r _ [566, 100, 567, 568, 569, 2, 570, 106, 107, 26, 22, 16, 571, 572, 573, 25, 574, 498, 528, 529, 530, 531, 56, 541, 542, 543, 575, 521, 522, 523, 524, 525, 526, 527, 532, 533, 534, 535, 536, 537, 119, 120, 538, 539, 540, 544, 545, 546, 121, 122, 123, 21, 124, 125, 126, 52, 51, 14, 15, 127, 40, 41, 42, 11, 12, 43, 44, 45, 46, 47, 128, 129, 130, 131, 132, 133, 134, 135, 136, 137, 576, 577, 578, 579, 580, 139, 140, 141, 508, 509, 510, 511, 953, 954, 955, 956, 957, 958, 959, 960, 974, 975, 976, 977, 978, 979, 983, 984, 980, 981, 982] (by decide +kernel) (by decide +kernel)) (goodIn_sub (fun _ h => List.mem_append_left _ (List.mem_append_left _ (List.mem_append_right _ h))) (by decide +kernel))
set_option maxRecDepth 20000 in
theorem gL_law_L_load : GoodIn wsL_law (va_wsS RL 119 yL_load wsL_load) := goodIn_app (goodIn_of _ (by decide +kernel)) ggL_law_L_load
set_option maxRecDepth 20000 in
theorem ggL_law_X7_load : GoodIn wsL_law wsX7_load := goodIn_r _ [584, 146, 85, 555, 94, 503, 551, 552, 553, 5, 554, 91, 556, 557, 558, 559, 560, 561, 562, 563, 150, 151, 152, 147, 148, 149, 153, 154, 155, 156, 157, 87, 158, 159, 160, 161, 961, 962, 963, 964, 965, 966, 967, 968, 969, 970, 971, 972, 973] (by decide +kernel) (by decide +kernel)
set_option maxRecDepth 20000 in
theorem gL_law_X7_load : GoodIn wsL_law (wsV RL 122 RX7 yX7_load wsX7_load) := goodIn_app (goodIn_of _ (by decide +kernel)) ggL_law_X7_load
set_option maxRecDepth 20000 in
theorem ggL_law_L_keep : GoodIn wsL_law wsL_keep := goodIn_ca (goodIn_r _ [587, 100, 588, 589, 590, 2, 591, 18, 13, 14, 15, 16, 592, 593, 594, 106, 107, 39, 40, 41, 42, 11, 12, 43, 44, 45, 46, 47, 595, 129, 130, 131, 132, 133, 134, 135, 136, 137, 953, 954, 955, 956, 957, 958, 959, 960, 974, 975, 976, 977, 978, 979] (by decide +kernel) (by decide +kernel)) (goodIn_sub (fun _ h => List.mem_append_left _ (List.mem_append_left _ (List.mem_append_right _ h))) (by decide +kernel))
set_option maxRecDepth 20000 in
theorem gL_law_L_keep : GoodIn wsL_law (va_wsS RL 123 yL_keep wsL_keep) := goodIn_app (goodIn_of _ (by decide +kernel)) ggL_law_L_keep
