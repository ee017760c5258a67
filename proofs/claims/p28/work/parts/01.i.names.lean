set_option maxRecDepth 20000 in
theorem ggL_isThrough_L_through : GoodIn wsL_isThrough wsL_through := goodIn_r _ [4, 5, 6, 7, 3, 8] (by decide +kernel) (by decide +kernel)
set_option maxRecDepth 20000 in
theorem gL_isThrough_L_through : GoodIn wsL_isThrough (va_wsS RL 124 yL_through wsL_through) := goodIn_app (goodIn_of _ (by decide +kernel)) ggL_isThrough_L_through
set_option maxRecDepth 20000 in
theorem ggL_isThrough_L_goesOn : GoodIn wsL_isThrough wsL_goesOn := goodIn_r _ [8] (by decide +kernel) (by decide +kernel)
set_option maxRecDepth 20000 in
theorem gL_isThrough_L_goesOn : GoodIn wsL_isThrough (va_wsS RL 42 yL_goesOn wsL_goesOn) := goodIn_app (goodIn_of _ (by decide +kernel)) ggL_isThrough_L_goesOn
set_option maxRecDepth 20000 in
theorem ggL_isThrough_X6_count : GoodIn wsL_isThrough wsX6_count := goodIn_ca (goodIn_r _ [13, 14, 15, 16, 17, 18, 19, 20, 21, 22, 23, 24, 25, 26, 27, 28, 29, 30, 31, 32, 33, 34, 35, 36, 37, 38, 39, 40, 41, 42, 43, 44, 45, 46, 47, 48, 49, 50, 51, 52, 53, 12, 54, 55, 56, 57, 58, 59, 60, 61, 62, 63, 64, 65, 66, 67, 68, 69, 70, 71, 72, 73, 74, 75, 76, 77, 78, 79, 80, 81, 82, 83, 84, 85, 86, 87, 88, 89, 90, 91, 92, 93, 94, 95, 96, 97, 98, 99, 100, 101, 102, 103, 104, 105, 106, 107, 108, 109, 110, 111, 112, 113, 114, 115, 116, 117, 118, 119, 120, 121, 122, 123, 124, 125, 126, 127, 128, 129, 130, 131, 132, 133, 134, 135, 136, 137, 138, 139, 140, 141, 142, 143, 144, 145, 146, 147, 148, 149, 150, 151, 152, 153, 154, 155, 156, 157, 158, 159, 160, 161, 162, 163, 164, 165, 166, 167, 168, 169, 170, 171, 172, 173, 174, 175, 176, 177, 178, 179, 180, 181, 182, 183, 184, 185, 204, 205, 206, 207, 208, 209, 210, 211, 212, 213, 214, 215, 216, 217, 218, 219, 220, 221, 222, 223, 224, 225, 226, 227, 228, 229, 230, 231, 232] (by decide +kernel) (by decide +kernel)) (goodIn_sub (fun _ h => List.mem_cons_of_mem _ (List.mem_append_right _ h)) (by decide +kernel))
set_option maxRecDepth 20000 in
theorem gL_isThrough_X6_count : GoodIn wsL_isThrough (wsV RL 108 RX6 yX6_count wsX6_count) := goodIn_app (goodIn_of _ (by decide +kernel)) ggL_isThrough_X6_count
set_option maxRecDepth 20000 in
theorem ggL_isThrough_X6_mainRibbon : GoodIn wsL_isThrough wsX6_mainRibbon := goodIn_r _ [189, 18, 16, 190, 191, 192, 125, 193, 194, 128, 175, 176, 177, 178, 154, 36, 37, 38, 171, 172, 173, 174, 140, 115, 116, 23, 117, 52, 47, 141, 44, 45, 46, 147, 49, 50, 51, 146, 27, 28, 29, 30, 129, 91, 92, 93, 179, 180, 181, 182, 183, 184, 185, 195, 196, 197, 198, 204, 205, 206, 207, 208, 209, 210, 211, 225, 226, 227, 228, 229, 230, 231, 232, 212, 213, 214, 215, 216, 217] (by decide +kernel) (by decide +kernel)
set_option maxRecDepth 20000 in
theorem gL_isThrough_X6_mainRibbon : GoodIn wsL_isThrough (wsV RL 127 RX6 yX6_mainRibbon wsX6_mainRibbon) := goodIn_app (goodIn_of _ (by decide +kernel)) ggL_isThrough_X6_mainRibbon
set_option maxRecDepth 20000 in
theorem ggL_isThrough_X6_throughShare : GoodIn wsL_isThrough wsX6_throughShare := goodIn_r _ [202, 16, 18, 203, 119, 120, 23, 121, 25, 43, 44, 45, 46, 47, 114, 115, 116, 117, 52, 26, 27, 28, 29, 30, 122, 123, 124, 125, 126, 127, 128, 129, 91, 92, 93, 130, 131, 132, 133, 134, 135, 136, 137, 138, 139, 140, 141, 142, 143, 144, 145, 146, 147, 49, 50, 51, 148, 12, 149, 150, 151, 152, 153, 154, 36, 37, 38, 155, 156, 157, 158, 159, 160, 161, 162, 163, 164, 165, 166, 204, 205, 206, 207, 208, 209, 210, 211, 212, 213, 214, 215, 216, 217, 225, 226, 227, 228, 229, 230, 231, 232] (by decide +kernel) (by decide +kernel)
set_option maxRecDepth 20000 in
theorem gL_isThrough_X6_throughShare : GoodIn wsL_isThrough (wsV RL 130 RX6 yX6_throughShare wsX6_throughShare) := goodIn_app (goodIn_of _ (by decide +kernel)) ggL_isThrough_X6_throughShare
theorem dL_isThrough_0 : decode cL_isThrough 0 = .ok (.aload_n 1, 1) := by decide +kernel
theorem dL_isThrough_1 : decode cL_isThrough 1 = .ok (.iload_n 2, 1) := by decide +kernel
theorem dL_isThrough_2 : decode cL_isThrough 2 = .ok (.iconst (-1), 1) := by decide +kernel
theorem dL_isThrough_3 : decode cL_isThrough 3 = .ok (.invokestatic 124, 3) := by decide +kernel
theorem dL_isThrough_6 : decode cL_isThrough 6 = .ok (.istore_n 3, 1) := by decide +kernel
theorem dL_isThrough_7 : decode cL_isThrough 7 = .ok (.iconst (-1), 1) := by decide +kernel
theorem dL_isThrough_8 : decode cL_isThrough 8 = .ok (.istore 4, 2) := by decide +kernel
theorem dL_isThrough_10 : decode cL_isThrough 10 = .ok (.iconst 0, 1) := by decide +kernel
theorem dL_isThrough_11 : decode cL_isThrough 11 = .ok (.istore 5, 2) := by decide +kernel
theorem dL_isThrough_13 : decode cL_isThrough 13 = .ok (.iconst 0, 1) := by decide +kernel
theorem dL_isThrough_14 : decode cL_isThrough 14 = .ok (.istore 6, 2) := by decide +kernel
theorem dL_isThrough_16 : decode cL_isThrough 16 = .ok (.iconst 0, 1) := by decide +kernel
theorem dL_isThrough_17 : decode cL_isThrough 17 = .ok (.istore 7, 2) := by decide +kernel
theorem dL_isThrough_19 : decode cL_isThrough 19 = .ok (.iload 7, 2) := by decide +kernel
theorem dL_isThrough_21 : decode cL_isThrough 21 = .ok (.iload_n 2, 1) := by decide +kernel
theorem dL_isThrough_22 : decode cL_isThrough 22 = .ok (.if_icmp .ge 80, 3) := by decide +kernel
theorem dL_isThrough_25 : decode cL_isThrough 25 = .ok (.aload_n 1, 1) := by decide +kernel
theorem dL_isThrough_26 : decode cL_isThrough 26 = .ok (.iload 7, 2) := by decide +kernel
theorem dL_isThrough_28 : decode cL_isThrough 28 = .ok (.invokestatic 42, 3) := by decide +kernel
theorem dL_isThrough_31 : decode cL_isThrough 31 = .ok (.ifCond .ne 6, 3) := by decide +kernel
theorem dL_isThrough_34 : decode cL_isThrough 34 = .ok (.goto 62, 3) := by decide +kernel
theorem dL_isThrough_37 : decode cL_isThrough 37 = .ok (.aload_n 1, 1) := by decide +kernel
theorem dL_isThrough_38 : decode cL_isThrough 38 = .ok (.iload_n 2, 1) := by decide +kernel
theorem dL_isThrough_39 : decode cL_isThrough 39 = .ok (.iload 7, 2) := by decide +kernel
theorem dL_isThrough_41 : decode cL_isThrough 41 = .ok (.invokestatic 124, 3) := by decide +kernel
theorem dL_isThrough_44 : decode cL_isThrough 44 = .ok (.istore 8, 2) := by decide +kernel
theorem dL_isThrough_46 : decode cL_isThrough 46 = .ok (.iload 6, 2) := by decide +kernel
theorem dL_isThrough_48 : decode cL_isThrough 48 = .ok (.aload_n 1, 1) := by decide +kernel
theorem dL_isThrough_49 : decode cL_isThrough 49 = .ok (.iconst 3, 1) := by decide +kernel
theorem dL_isThrough_50 : decode cL_isThrough 50 = .ok (.iload 7, 2) := by decide +kernel
theorem dL_isThrough_52 : decode cL_isThrough 52 = .ok (.imul, 1) := by decide +kernel
theorem dL_isThrough_53 : decode cL_isThrough 53 = .ok (.iaload, 1) := by decide +kernel
theorem dL_isThrough_54 : decode cL_isThrough 54 = .ok (.iconst 4, 1) := by decide +kernel
theorem dL_isThrough_55 : decode cL_isThrough 55 = .ok (.if_icmp .ge 14, 3) := by decide +kernel
theorem dL_isThrough_58 : decode cL_isThrough 58 = .ok (.aload_n 1, 1) := by decide +kernel
theorem dL_isThrough_59 : decode cL_isThrough 59 = .ok (.iconst 3, 1) := by decide +kernel
theorem dL_isThrough_60 : decode cL_isThrough 60 = .ok (.iload 7, 2) := by decide +kernel
theorem dL_isThrough_62 : decode cL_isThrough 62 = .ok (.imul, 1) := by decide +kernel
theorem dL_isThrough_63 : decode cL_isThrough 63 = .ok (.iconst 2, 1) := by decide +kernel
theorem dL_isThrough_64 : decode cL_isThrough 64 = .ok (.iadd, 1) := by decide +kernel
theorem dL_isThrough_65 : decode cL_isThrough 65 = .ok (.iaload, 1) := by decide +kernel
theorem dL_isThrough_66 : decode cL_isThrough 66 = .ok (.goto 4, 3) := by decide +kernel
theorem dL_isThrough_69 : decode cL_isThrough 69 = .ok (.iconst 0, 1) := by decide +kernel
theorem dL_isThrough_70 : decode cL_isThrough 70 = .ok (.iadd, 1) := by decide +kernel
theorem dL_isThrough_71 : decode cL_isThrough 71 = .ok (.istore 6, 2) := by decide +kernel
theorem dL_isThrough_73 : decode cL_isThrough 73 = .ok (.iload 4, 2) := by decide +kernel
theorem dL_isThrough_75 : decode cL_isThrough 75 = .ok (.ifCond .lt 13, 3) := by decide +kernel
theorem dL_isThrough_78 : decode cL_isThrough 78 = .ok (.iload 8, 2) := by decide +kernel
theorem dL_isThrough_80 : decode cL_isThrough 80 = .ok (.iload 5, 2) := by decide +kernel
theorem dL_isThrough_82 : decode cL_isThrough 82 = .ok (.if_icmp .lt 6, 3) := by decide +kernel
theorem dL_isThrough_85 : decode cL_isThrough 85 = .ok (.goto 11, 3) := by decide +kernel
theorem dL_isThrough_88 : decode cL_isThrough 88 = .ok (.iload 7, 2) := by decide +kernel
theorem dL_isThrough_90 : decode cL_isThrough 90 = .ok (.istore 4, 2) := by decide +kernel
theorem dL_isThrough_92 : decode cL_isThrough 92 = .ok (.iload 8, 2) := by decide +kernel
theorem dL_isThrough_94 : decode cL_isThrough 94 = .ok (.istore 5, 2) := by decide +kernel
theorem dL_isThrough_96 : decode cL_isThrough 96 = .ok (.iinc 7 1, 3) := by decide +kernel
theorem dL_isThrough_99 : decode cL_isThrough 99 = .ok (.goto (-80), 3) := by decide +kernel
theorem dL_isThrough_102 : decode cL_isThrough 102 = .ok (.aload_n 0, 1) := by decide +kernel
theorem dL_isThrough_103 : decode cL_isThrough 103 = .ok (.bipush 6, 2) := by decide +kernel
theorem dL_isThrough_105 : decode cL_isThrough 105 = .ok (.invokevirtual 108, 3) := by decide +kernel
theorem dL_isThrough_108 : decode cL_isThrough 108 = .ok (.iload_n 3, 1) := by decide +kernel
theorem dL_isThrough_109 : decode cL_isThrough 109 = .ok (.if_icmp .ne 49, 3) := by decide +kernel
theorem dL_isThrough_112 : decode cL_isThrough 112 = .ok (.aload_n 0, 1) := by decide +kernel
theorem dL_isThrough_113 : decode cL_isThrough 113 = .ok (.bipush 7, 2) := by decide +kernel
theorem dL_isThrough_115 : decode cL_isThrough 115 = .ok (.invokevirtual 108, 3) := by decide +kernel
theorem dL_isThrough_118 : decode cL_isThrough 118 = .ok (.iload_n 3, 1) := by decide +kernel
theorem dL_isThrough_119 : decode cL_isThrough 119 = .ok (.if_icmp .ne 39, 3) := by decide +kernel
theorem dL_isThrough_122 : decode cL_isThrough 122 = .ok (.aload_n 0, 1) := by decide +kernel
theorem dL_isThrough_123 : decode cL_isThrough 123 = .ok (.invokevirtual 127, 3) := by decide +kernel
theorem dL_isThrough_126 : decode cL_isThrough 126 = .ok (.iload 4, 2) := by decide +kernel
theorem dL_isThrough_128 : decode cL_isThrough 128 = .ok (.if_icmp .ne 30, 3) := by decide +kernel
theorem dL_isThrough_131 : decode cL_isThrough 131 = .ok (.aload_n 0, 1) := by decide +kernel
theorem dL_isThrough_132 : decode cL_isThrough 132 = .ok (.invokevirtual 130, 3) := by decide +kernel
theorem dL_isThrough_135 : decode cL_isThrough 135 = .ok (.iload 6, 2) := by decide +kernel
theorem dL_isThrough_137 : decode cL_isThrough 137 = .ok (.ifCond .ne 7, 3) := by decide +kernel
theorem dL_isThrough_140 : decode cL_isThrough 140 = .ok (.dconst 1, 1) := by decide +kernel
theorem dL_isThrough_141 : decode cL_isThrough 141 = .ok (.goto 9, 3) := by decide +kernel
theorem dL_isThrough_144 : decode cL_isThrough 144 = .ok (.iload_n 3, 1) := by decide +kernel
theorem dL_isThrough_145 : decode cL_isThrough 145 = .ok (.i2d, 1) := by decide +kernel
theorem dL_isThrough_146 : decode cL_isThrough 146 = .ok (.iload 6, 2) := by decide +kernel
theorem dL_isThrough_148 : decode cL_isThrough 148 = .ok (.i2d, 1) := by decide +kernel
theorem dL_isThrough_149 : decode cL_isThrough 149 = .ok (.ddiv, 1) := by decide +kernel
theorem dL_isThrough_150 : decode cL_isThrough 150 = .ok (.dcmp .l, 1) := by decide +kernel
theorem dL_isThrough_151 : decode cL_isThrough 151 = .ok (.ifCond .ne 7, 3) := by decide +kernel
theorem dL_isThrough_154 : decode cL_isThrough 154 = .ok (.iconst 1, 1) := by decide +kernel
theorem dL_isThrough_155 : decode cL_isThrough 155 = .ok (.goto 4, 3) := by decide +kernel
theorem dL_isThrough_158 : decode cL_isThrough 158 = .ok (.iconst 0, 1) := by decide +kernel
theorem dL_isThrough_159 : decode cL_isThrough 159 = .ok (.ireturn, 1) := by decide +kernel
