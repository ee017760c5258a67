/-! ===== the law: the words of its callees ===== -/
set_option maxRecDepth 20000 in
theorem ggL_law_X6_init : GoodIn wsL_law wsX6_init := goodIn_r _ [9, 10, 11, 12, 13, 14, 15, 16, 17, 18, 19, 20, 21, 22, 23, 24, 25, 26, 27, 28, 29, 30, 31, 32, 33, 34, 35, 36, 37, 38, 39, 40, 41, 42, 43, 44, 45, 46, 47, 48, 49, 50, 51, 52, 53, 54, 55, 56, 57, 58, 59, 60, 61, 62, 63, 64, 65, 66, 67, 68, 69, 70, 71, 72, 73, 74, 75, 76, 77, 78, 79, 80, 974, 975, 976, 977, 978, 979, 953, 954, 955, 956, 957, 958, 959, 960, 980, 981, 982, 983, 984, 985, 986, 987, 988, 989, 990, 991, 992, 993, 994, 995, 996, 997, 998, 999, 1000, 1001] (by decide +kernel) (by decide +kernel)
set_option maxRecDepth 20000 in
theorem gL_law_X6_init : GoodIn wsL_law (wsX6_init) := ggL_law_X6_init
set_option maxRecDepth 20000 in
theorem ggL_law_X7_init : GoodIn wsL_law wsX7_init := goodIn_r _ [83, 84, 11, 12, 43, 85, 86, 87, 88, 89, 90, 91, 92, 93, 94, 961, 962, 963, 964, 965, 966, 967, 968, 969, 970, 971, 972, 973] (by decide +kernel) (by decide +kernel)
set_option maxRecDepth 20000 in
theorem gL_law_X7_init : GoodIn wsL_law (wsX7_init) := ggL_law_X7_init
set_option maxRecDepth 20000 in
theorem ggL_law_L_ribbon : GoodIn wsL_law wsL_ribbon := goodIn_ca (goodIn_ca (goodIn_ca (goodIn_r _ [98, 99, 100, 101, 102, 103, 104, 2, 105, 106, 107, 108, 109, 16, 22, 110, 111, 112, 113, 114, 115, 116, 117, 118, 119, 120, 121, 122, 123, 21, 124, 125, 126, 52, 51, 14, 15, 127, 40, 41, 42, 11, 12, 43, 44, 45, 46, 47, 128, 129, 130, 131, 132, 133, 134, 135, 136, 137, 138, 139, 140, 141, 953, 954, 955, 956, 957, 958, 959, 960, 974, 975, 976, 977, 978, 979, 980, 981, 982] (by decide +kernel) (by decide +kernel)) (goodIn_sub (fun _ h => List.mem_append_left _ (List.mem_append_left _ (List.mem_append_right _ h))) (by decide +kernel))) (goodIn_sub (fun _ h => List.mem_append_left _ (List.mem_append_right _ h)) (by decide +kernel))) (goodIn_sub (fun _ h => List.mem_append_right _ h) (by decide +kernel))
set_option maxRecDepth 20000 in
theorem gL_law_L_ribbon : GoodIn wsL_law (va_wsS RL 74 yL_ribbon wsL_ribbon) := goodIn_app (goodIn_of _ (by decide +kernel)) ggL_law_L_ribbon
set_option maxRecDepth 20000 in
theorem ggL_law_X7_ribbon : GoodIn wsL_law wsX7_ribbon := goodIn_r _ [145, 85, 146, 147, 148, 5, 149, 150, 151, 152, 153, 154, 155, 156, 157, 87, 158, 159, 160, 161, 961, 962, 963, 964, 965, 966, 967, 968, 969, 970, 971, 972, 973] (by decide +kernel) (by decide +kernel)
set_option maxRecDepth 20000 in
theorem gL_law_X7_ribbon : GoodIn wsL_law (wsV RL 79 RX7 yX7_ribbon wsX7_ribbon) := goodIn_app (goodIn_of _ (by decide +kernel)) ggL_law_X7_ribbon
set_option maxRecDepth 20000 in
theorem ggL_law_X7_thrown : GoodIn wsL_law wsX7_thrown := goodIn_r _ [165, 146, 961, 962, 963, 964, 965, 966, 967, 968, 969, 970, 971, 972, 973] (by decide +kernel) (by decide +kernel)
set_option maxRecDepth 20000 in
theorem gL_law_X7_thrown : GoodIn wsL_law (wsV RL 80 RX7 yX7_thrown wsX7_thrown) := goodIn_app (goodIn_of _ (by decide +kernel)) ggL_law_X7_thrown
set_option maxRecDepth 20000 in
theorem ggL_law_L_widen : GoodIn wsL_law wsL_widen := goodIn_ca (goodIn_ca (goodIn_r _ [168, 99, 100, 169, 170, 171, 2, 172, 106, 107, 22, 16, 173, 174, 175, 176, 113, 114, 177, 178, 179, 15, 180, 136, 121, 122, 123, 21, 124, 125, 126, 52, 51, 14, 127, 40, 41, 42, 11, 12, 43, 44, 45, 46, 47, 128, 129, 130, 131, 132, 133, 134, 135, 137, 181, 182, 183, 184, 185, 186, 187, 188, 189, 953, 954, 955, 956, 957, 958, 959, 960, 974, 975, 976, 977, 978, 979, 980, 981, 982] (by decide +kernel) (by decide +kernel)) (goodIn_sub (fun _ h => List.mem_append_left _ (List.mem_append_left _ (List.mem_append_right _ h))) (by decide +kernel))) (goodIn_sub (fun _ h => List.mem_append_right _ h) (by decide +kernel))
set_option maxRecDepth 20000 in
theorem gL_law_L_widen : GoodIn wsL_law (va_wsS RL 83 yL_widen wsL_widen) := goodIn_app (goodIn_of _ (by decide +kernel)) ggL_law_L_widen
set_option maxRecDepth 20000 in
theorem ggL_law_X7_widen : GoodIn wsL_law wsX7_widen := goodIn_r _ [193, 146, 85, 194, 195, 196, 5, 197, 147, 148, 149, 153, 154, 155, 156, 157, 87, 198, 199, 200, 201, 961, 962, 963, 964, 965, 966, 967, 968, 969, 970, 971, 972, 973] (by decide +kernel) (by decide +kernel)
set_option maxRecDepth 20000 in
theorem gL_law_X7_widen : GoodIn wsL_law (wsV RL 86 RX7 yX7_widen wsX7_widen) := goodIn_app (goodIn_of _ (by decide +kernel)) ggL_law_X7_widen
