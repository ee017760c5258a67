set_option maxRecDepth 20000 in
theorem ggL_arePosts_L_side : GoodIn wsL_arePosts wsL_side := goodIn_r _ [4, 5, 6, 3, 7] (by decide +kernel) (by decide +kernel)
set_option maxRecDepth 20000 in
theorem gL_arePosts_L_side : GoodIn wsL_arePosts (va_wsS RL 52 yL_side wsL_side) := goodIn_app (goodIn_of _ (by decide +kernel)) ggL_arePosts_L_side
set_option maxRecDepth 20000 in
theorem ggL_arePosts_L_goesOn : GoodIn wsL_arePosts wsL_goesOn := goodIn_r _ [7] (by decide +kernel) (by decide +kernel)
set_option maxRecDepth 20000 in
theorem gL_arePosts_L_goesOn : GoodIn wsL_arePosts (va_wsS RL 42 yL_goesOn wsL_goesOn) := goodIn_app (goodIn_of _ (by decide +kernel)) ggL_arePosts_L_goesOn
set_option maxRecDepth 20000 in
theorem ggL_arePosts_X6_postOf : GoodIn wsL_arePosts wsX6_postOf := goodIn_ca (goodIn_ca (goodIn_r _ [12, 13, 14, 15, 16, 17, 18, 19, 20, 21, 11, 22, 23, 24, 25, 26, 27, 28, 29, 30, 31, 32, 33, 34, 35, 36, 37, 38, 39, 40, 41, 42, 43, 44, 45, 46, 47, 48, 49, 50, 51, 52, 53, 54, 55, 56, 57, 58, 59, 60, 61, 62, 63, 64, 65, 66, 67, 68, 69, 70, 71, 72, 73, 74, 75, 76, 77, 78, 79, 80, 81, 82, 91, 92, 93, 94, 95, 96, 97, 98, 99, 100, 101, 102, 103, 104] (by decide +kernel) (by decide +kernel)) (goodIn_sub (fun _ h => List.mem_cons_of_mem _ (List.mem_append_left _ (List.mem_append_right _ h))) (by decide +kernel))) (goodIn_sub (fun _ h => List.mem_cons_of_mem _ (List.mem_append_right _ h)) (by decide +kernel))
set_option maxRecDepth 20000 in
theorem gL_arePosts_X6_postOf : GoodIn wsL_arePosts (wsV RL 111 RX6 yX6_postOf wsX6_postOf) := goodIn_app (goodIn_of _ (by decide +kernel)) ggL_arePosts_X6_postOf
set_option maxRecDepth 20000 in
theorem ggL_arePosts_X6_height : GoodIn wsL_arePosts wsX6_height := goodIn_ca (goodIn_ca (goodIn_r _ [86, 87, 88, 11, 89, 23, 24, 90, 9, 10, 12, 13, 14, 15, 16, 17, 18, 19, 20, 21, 22, 25, 26, 27, 28, 29, 30, 31, 32, 33, 34, 35, 36, 37, 38, 39, 40, 41, 42, 43, 44, 45, 46, 47, 48, 49, 50, 51, 52, 53, 54, 55, 56, 57, 58, 59, 60, 61, 62, 63, 64, 65, 66, 67, 68, 69, 70, 71, 72, 73, 74, 75, 76, 77, 78, 79, 80, 81, 82, 91, 92, 93, 94, 95, 96, 97, 98, 99, 100, 101, 102, 103, 104] (by decide +kernel) (by decide +kernel)) (goodIn_sub (fun _ h => List.mem_cons_of_mem _ (List.mem_append_right _ h)) (by decide +kernel))) (goodIn_sub (fun _ h => List.mem_cons_of_mem _ (List.mem_append_left _ (List.mem_append_right _ h))) (by decide +kernel))
set_option maxRecDepth 20000 in
theorem gL_arePosts_X6_height : GoodIn wsL_arePosts (wsV RL 114 RX6 yX6_height wsX6_height) := goodIn_app (goodIn_of _ (by decide +kernel)) ggL_arePosts_X6_height
theorem dL_arePosts_0 : decode cL_arePosts 0 = .ok (.iconst 0, 1) := by decide +kernel
theorem dL_arePosts_1 : decode cL_arePosts 1 = .ok (.istore 4, 2) := by decide +kernel
theorem dL_arePosts_3 : decode cL_arePosts 3 = .ok (.iload 4, 2) := by decide +kernel
theorem dL_arePosts_5 : decode cL_arePosts 5 = .ok (.bipush 16, 2) := by decide +kernel
theorem dL_arePosts_7 : decode cL_arePosts 7 = .ok (.if_icmp .ge 307, 3) := by decide +kernel
theorem dL_arePosts_10 : decode cL_arePosts 10 = .ok (.aload_n 1, 1) := by decide +kernel
theorem dL_arePosts_11 : decode cL_arePosts 11 = .ok (.iload_n 3, 1) := by decide +kernel
theorem dL_arePosts_12 : decode cL_arePosts 12 = .ok (.iload 4, 2) := by decide +kernel
theorem dL_arePosts_14 : decode cL_arePosts 14 = .ok (.iconst 1, 1) := by decide +kernel
theorem dL_arePosts_15 : decode cL_arePosts 15 = .ok (.invokestatic 52, 3) := by decide +kernel
theorem dL_arePosts_18 : decode cL_arePosts 18 = .ok (.istore 5, 2) := by decide +kernel
theorem dL_arePosts_20 : decode cL_arePosts 20 = .ok (.aload_n 1, 1) := by decide +kernel
theorem dL_arePosts_21 : decode cL_arePosts 21 = .ok (.iload_n 3, 1) := by decide +kernel
theorem dL_arePosts_22 : decode cL_arePosts 22 = .ok (.iload 4, 2) := by decide +kernel
theorem dL_arePosts_24 : decode cL_arePosts 24 = .ok (.iconst 0, 1) := by decide +kernel
theorem dL_arePosts_25 : decode cL_arePosts 25 = .ok (.invokestatic 52, 3) := by decide +kernel
theorem dL_arePosts_28 : decode cL_arePosts 28 = .ok (.istore 6, 2) := by decide +kernel
theorem dL_arePosts_30 : decode cL_arePosts 30 = .ok (.iconst 0, 1) := by decide +kernel
theorem dL_arePosts_31 : decode cL_arePosts 31 = .ok (.istore 7, 2) := by decide +kernel
theorem dL_arePosts_33 : decode cL_arePosts 33 = .ok (.iconst 0, 1) := by decide +kernel
theorem dL_arePosts_34 : decode cL_arePosts 34 = .ok (.istore 8, 2) := by decide +kernel
theorem dL_arePosts_36 : decode cL_arePosts 36 = .ok (.iconst 0, 1) := by decide +kernel
theorem dL_arePosts_37 : decode cL_arePosts 37 = .ok (.istore 9, 2) := by decide +kernel
theorem dL_arePosts_39 : decode cL_arePosts 39 = .ok (.iconst 0, 1) := by decide +kernel
theorem dL_arePosts_40 : decode cL_arePosts 40 = .ok (.istore 10, 2) := by decide +kernel
theorem dL_arePosts_42 : decode cL_arePosts 42 = .ok (.iload 10, 2) := by decide +kernel
theorem dL_arePosts_44 : decode cL_arePosts 44 = .ok (.iload_n 3, 1) := by decide +kernel
theorem dL_arePosts_45 : decode cL_arePosts 45 = .ok (.if_icmp .ge 114, 3) := by decide +kernel
theorem dL_arePosts_48 : decode cL_arePosts 48 = .ok (.iload 7, 2) := by decide +kernel
theorem dL_arePosts_50 : decode cL_arePosts 50 = .ok (.aload_n 1, 1) := by decide +kernel
theorem dL_arePosts_51 : decode cL_arePosts 51 = .ok (.iload 10, 2) := by decide +kernel
theorem dL_arePosts_53 : decode cL_arePosts 53 = .ok (.invokestatic 42, 3) := by decide +kernel
theorem dL_arePosts_56 : decode cL_arePosts 56 = .ok (.ifCond .eq 20, 3) := by decide +kernel
theorem dL_arePosts_59 : decode cL_arePosts 59 = .ok (.aload_n 1, 1) := by decide +kernel
theorem dL_arePosts_60 : decode cL_arePosts 60 = .ok (.iconst 3, 1) := by decide +kernel
theorem dL_arePosts_61 : decode cL_arePosts 61 = .ok (.iload 10, 2) := by decide +kernel
theorem dL_arePosts_63 : decode cL_arePosts 63 = .ok (.imul, 1) := by decide +kernel
theorem dL_arePosts_64 : decode cL_arePosts 64 = .ok (.iconst 1, 1) := by decide +kernel
theorem dL_arePosts_65 : decode cL_arePosts 65 = .ok (.iadd, 1) := by decide +kernel
theorem dL_arePosts_66 : decode cL_arePosts 66 = .ok (.iaload, 1) := by decide +kernel
theorem dL_arePosts_67 : decode cL_arePosts 67 = .ok (.iload 4, 2) := by decide +kernel
theorem dL_arePosts_69 : decode cL_arePosts 69 = .ok (.if_icmp .ne 7, 3) := by decide +kernel
theorem dL_arePosts_72 : decode cL_arePosts 72 = .ok (.iconst 1, 1) := by decide +kernel
theorem dL_arePosts_73 : decode cL_arePosts 73 = .ok (.goto 4, 3) := by decide +kernel
theorem dL_arePosts_76 : decode cL_arePosts 76 = .ok (.iconst 0, 1) := by decide +kernel
theorem dL_arePosts_77 : decode cL_arePosts 77 = .ok (.iadd, 1) := by decide +kernel
theorem dL_arePosts_78 : decode cL_arePosts 78 = .ok (.istore 7, 2) := by decide +kernel
theorem dL_arePosts_80 : decode cL_arePosts 80 = .ok (.iload 8, 2) := by decide +kernel
theorem dL_arePosts_82 : decode cL_arePosts 82 = .ok (.aload_n 1, 1) := by decide +kernel
theorem dL_arePosts_83 : decode cL_arePosts 83 = .ok (.iload 10, 2) := by decide +kernel
theorem dL_arePosts_85 : decode cL_arePosts 85 = .ok (.invokestatic 42, 3) := by decide +kernel
theorem dL_arePosts_88 : decode cL_arePosts 88 = .ok (.ifCond .eq 18, 3) := by decide +kernel
theorem dL_arePosts_91 : decode cL_arePosts 91 = .ok (.aload_n 1, 1) := by decide +kernel
theorem dL_arePosts_92 : decode cL_arePosts 92 = .ok (.iconst 3, 1) := by decide +kernel
theorem dL_arePosts_93 : decode cL_arePosts 93 = .ok (.iload 10, 2) := by decide +kernel
theorem dL_arePosts_95 : decode cL_arePosts 95 = .ok (.imul, 1) := by decide +kernel
theorem dL_arePosts_96 : decode cL_arePosts 96 = .ok (.iaload, 1) := by decide +kernel
theorem dL_arePosts_97 : decode cL_arePosts 97 = .ok (.iload 4, 2) := by decide +kernel
theorem dL_arePosts_99 : decode cL_arePosts 99 = .ok (.if_icmp .ne 7, 3) := by decide +kernel
theorem dL_arePosts_102 : decode cL_arePosts 102 = .ok (.iconst 1, 1) := by decide +kernel
theorem dL_arePosts_103 : decode cL_arePosts 103 = .ok (.goto 4, 3) := by decide +kernel
theorem dL_arePosts_106 : decode cL_arePosts 106 = .ok (.iconst 0, 1) := by decide +kernel
theorem dL_arePosts_107 : decode cL_arePosts 107 = .ok (.iadd, 1) := by decide +kernel
theorem dL_arePosts_108 : decode cL_arePosts 108 = .ok (.istore 8, 2) := by decide +kernel
theorem dL_arePosts_110 : decode cL_arePosts 110 = .ok (.iload 9, 2) := by decide +kernel
theorem dL_arePosts_112 : decode cL_arePosts 112 = .ok (.aload_n 1, 1) := by decide +kernel
theorem dL_arePosts_113 : decode cL_arePosts 113 = .ok (.iload 10, 2) := by decide +kernel
theorem dL_arePosts_115 : decode cL_arePosts 115 = .ok (.invokestatic 42, 3) := by decide +kernel
theorem dL_arePosts_118 : decode cL_arePosts 118 = .ok (.ifCond .ne 31, 3) := by decide +kernel
theorem dL_arePosts_121 : decode cL_arePosts 121 = .ok (.aload_n 1, 1) := by decide +kernel
theorem dL_arePosts_122 : decode cL_arePosts 122 = .ok (.iconst 3, 1) := by decide +kernel
theorem dL_arePosts_123 : decode cL_arePosts 123 = .ok (.iload 10, 2) := by decide +kernel
theorem dL_arePosts_125 : decode cL_arePosts 125 = .ok (.imul, 1) := by decide +kernel
theorem dL_arePosts_126 : decode cL_arePosts 126 = .ok (.iaload, 1) := by decide +kernel
theorem dL_arePosts_127 : decode cL_arePosts 127 = .ok (.iload 4, 2) := by decide +kernel
theorem dL_arePosts_129 : decode cL_arePosts 129 = .ok (.if_icmp .eq 16, 3) := by decide +kernel
theorem dL_arePosts_132 : decode cL_arePosts 132 = .ok (.aload_n 1, 1) := by decide +kernel
theorem dL_arePosts_133 : decode cL_arePosts 133 = .ok (.iconst 3, 1) := by decide +kernel
theorem dL_arePosts_134 : decode cL_arePosts 134 = .ok (.iload 10, 2) := by decide +kernel
theorem dL_arePosts_136 : decode cL_arePosts 136 = .ok (.imul, 1) := by decide +kernel
theorem dL_arePosts_137 : decode cL_arePosts 137 = .ok (.iconst 1, 1) := by decide +kernel
theorem dL_arePosts_138 : decode cL_arePosts 138 = .ok (.iadd, 1) := by decide +kernel
theorem dL_arePosts_139 : decode cL_arePosts 139 = .ok (.iaload, 1) := by decide +kernel
theorem dL_arePosts_140 : decode cL_arePosts 140 = .ok (.iload 4, 2) := by decide +kernel
theorem dL_arePosts_142 : decode cL_arePosts 142 = .ok (.if_icmp .ne 7, 3) := by decide +kernel
theorem dL_arePosts_145 : decode cL_arePosts 145 = .ok (.iconst 1, 1) := by decide +kernel
theorem dL_arePosts_146 : decode cL_arePosts 146 = .ok (.goto 4, 3) := by decide +kernel
theorem dL_arePosts_149 : decode cL_arePosts 149 = .ok (.iconst 0, 1) := by decide +kernel
theorem dL_arePosts_150 : decode cL_arePosts 150 = .ok (.iadd, 1) := by decide +kernel
theorem dL_arePosts_151 : decode cL_arePosts 151 = .ok (.istore 9, 2) := by decide +kernel
theorem dL_arePosts_153 : decode cL_arePosts 153 = .ok (.iinc 10 1, 3) := by decide +kernel
theorem dL_arePosts_156 : decode cL_arePosts 156 = .ok (.goto (-114), 3) := by decide +kernel
theorem dL_arePosts_159 : decode cL_arePosts 159 = .ok (.iload 4, 2) := by decide +kernel
theorem dL_arePosts_161 : decode cL_arePosts 161 = .ok (.iconst 4, 1) := by decide +kernel
theorem dL_arePosts_162 : decode cL_arePosts 162 = .ok (.if_icmp .lt 17, 3) := by decide +kernel
theorem dL_arePosts_165 : decode cL_arePosts 165 = .ok (.iload 4, 2) := by decide +kernel
theorem dL_arePosts_167 : decode cL_arePosts 167 = .ok (.bipush 11, 2) := by decide +kernel
theorem dL_arePosts_169 : decode cL_arePosts 169 = .ok (.if_icmp .gt 10, 3) := by decide +kernel
theorem dL_arePosts_172 : decode cL_arePosts 172 = .ok (.iload 5, 2) := by decide +kernel
theorem dL_arePosts_174 : decode cL_arePosts 174 = .ok (.iload 6, 2) := by decide +kernel
theorem dL_arePosts_176 : decode cL_arePosts 176 = .ok (.if_icmp .ne 7, 3) := by decide +kernel
theorem dL_arePosts_179 : decode cL_arePosts 179 = .ok (.iconst 1, 1) := by decide +kernel
theorem dL_arePosts_180 : decode cL_arePosts 180 = .ok (.goto 4, 3) := by decide +kernel
theorem dL_arePosts_183 : decode cL_arePosts 183 = .ok (.iconst 0, 1) := by decide +kernel
theorem dL_arePosts_184 : decode cL_arePosts 184 = .ok (.istore 10, 2) := by decide +kernel
theorem dL_arePosts_186 : decode cL_arePosts 186 = .ok (.aload_n 0, 1) := by decide +kernel
theorem dL_arePosts_187 : decode cL_arePosts 187 = .ok (.iload 4, 2) := by decide +kernel
theorem dL_arePosts_189 : decode cL_arePosts 189 = .ok (.iconst 0, 1) := by decide +kernel
theorem dL_arePosts_190 : decode cL_arePosts 190 = .ok (.invokevirtual 111, 3) := by decide +kernel
theorem dL_arePosts_193 : decode cL_arePosts 193 = .ok (.aload_n 2, 1) := by decide +kernel
theorem dL_arePosts_194 : decode cL_arePosts 194 = .ok (.iload 4, 2) := by decide +kernel
theorem dL_arePosts_196 : decode cL_arePosts 196 = .ok (.iaload, 1) := by decide +kernel
theorem dL_arePosts_197 : decode cL_arePosts 197 = .ok (.if_icmp .ne 109, 3) := by decide +kernel
theorem dL_arePosts_200 : decode cL_arePosts 200 = .ok (.aload_n 0, 1) := by decide +kernel
theorem dL_arePosts_201 : decode cL_arePosts 201 = .ok (.iload 4, 2) := by decide +kernel
theorem dL_arePosts_203 : decode cL_arePosts 203 = .ok (.iconst 1, 1) := by decide +kernel
theorem dL_arePosts_204 : decode cL_arePosts 204 = .ok (.invokevirtual 111, 3) := by decide +kernel
theorem dL_arePosts_207 : decode cL_arePosts 207 = .ok (.iload 5, 2) := by decide +kernel
theorem dL_arePosts_209 : decode cL_arePosts 209 = .ok (.if_icmp .ne 97, 3) := by decide +kernel
theorem dL_arePosts_212 : decode cL_arePosts 212 = .ok (.aload_n 0, 1) := by decide +kernel
theorem dL_arePosts_213 : decode cL_arePosts 213 = .ok (.iload 4, 2) := by decide +kernel
theorem dL_arePosts_215 : decode cL_arePosts 215 = .ok (.iconst 2, 1) := by decide +kernel
theorem dL_arePosts_216 : decode cL_arePosts 216 = .ok (.invokevirtual 111, 3) := by decide +kernel
theorem dL_arePosts_219 : decode cL_arePosts 219 = .ok (.iload 6, 2) := by decide +kernel
theorem dL_arePosts_221 : decode cL_arePosts 221 = .ok (.if_icmp .ne 85, 3) := by decide +kernel
theorem dL_arePosts_224 : decode cL_arePosts 224 = .ok (.aload_n 0, 1) := by decide +kernel
theorem dL_arePosts_225 : decode cL_arePosts 225 = .ok (.iload 4, 2) := by decide +kernel
theorem dL_arePosts_227 : decode cL_arePosts 227 = .ok (.iconst 3, 1) := by decide +kernel
theorem dL_arePosts_228 : decode cL_arePosts 228 = .ok (.invokevirtual 111, 3) := by decide +kernel
theorem dL_arePosts_231 : decode cL_arePosts 231 = .ok (.iload 7, 2) := by decide +kernel
theorem dL_arePosts_233 : decode cL_arePosts 233 = .ok (.if_icmp .ne 73, 3) := by decide +kernel
theorem dL_arePosts_236 : decode cL_arePosts 236 = .ok (.aload_n 0, 1) := by decide +kernel
theorem dL_arePosts_237 : decode cL_arePosts 237 = .ok (.iload 4, 2) := by decide +kernel
theorem dL_arePosts_239 : decode cL_arePosts 239 = .ok (.iconst 4, 1) := by decide +kernel
theorem dL_arePosts_240 : decode cL_arePosts 240 = .ok (.invokevirtual 111, 3) := by decide +kernel
theorem dL_arePosts_243 : decode cL_arePosts 243 = .ok (.iload 8, 2) := by decide +kernel
theorem dL_arePosts_245 : decode cL_arePosts 245 = .ok (.if_icmp .ne 61, 3) := by decide +kernel
theorem dL_arePosts_248 : decode cL_arePosts 248 = .ok (.aload_n 0, 1) := by decide +kernel
theorem dL_arePosts_249 : decode cL_arePosts 249 = .ok (.iload 4, 2) := by decide +kernel
theorem dL_arePosts_251 : decode cL_arePosts 251 = .ok (.iconst 5, 1) := by decide +kernel
theorem dL_arePosts_252 : decode cL_arePosts 252 = .ok (.invokevirtual 111, 3) := by decide +kernel
theorem dL_arePosts_255 : decode cL_arePosts 255 = .ok (.iload 9, 2) := by decide +kernel
theorem dL_arePosts_257 : decode cL_arePosts 257 = .ok (.if_icmp .ne 49, 3) := by decide +kernel
theorem dL_arePosts_260 : decode cL_arePosts 260 = .ok (.aload_n 0, 1) := by decide +kernel
theorem dL_arePosts_261 : decode cL_arePosts 261 = .ok (.iload 4, 2) := by decide +kernel
theorem dL_arePosts_263 : decode cL_arePosts 263 = .ok (.bipush 6, 2) := by decide +kernel
theorem dL_arePosts_265 : decode cL_arePosts 265 = .ok (.invokevirtual 111, 3) := by decide +kernel
theorem dL_arePosts_268 : decode cL_arePosts 268 = .ok (.iload 10, 2) := by decide +kernel
theorem dL_arePosts_270 : decode cL_arePosts 270 = .ok (.ifCond .eq 7, 3) := by decide +kernel
theorem dL_arePosts_273 : decode cL_arePosts 273 = .ok (.iconst 1, 1) := by decide +kernel
theorem dL_arePosts_274 : decode cL_arePosts 274 = .ok (.goto 4, 3) := by decide +kernel
theorem dL_arePosts_277 : decode cL_arePosts 277 = .ok (.iconst 0, 1) := by decide +kernel
theorem dL_arePosts_278 : decode cL_arePosts 278 = .ok (.if_icmp .ne 28, 3) := by decide +kernel
theorem dL_arePosts_281 : decode cL_arePosts 281 = .ok (.aload_n 0, 1) := by decide +kernel
theorem dL_arePosts_282 : decode cL_arePosts 282 = .ok (.iload 4, 2) := by decide +kernel
theorem dL_arePosts_284 : decode cL_arePosts 284 = .ok (.bipush 7, 2) := by decide +kernel
theorem dL_arePosts_286 : decode cL_arePosts 286 = .ok (.invokevirtual 111, 3) := by decide +kernel
theorem dL_arePosts_289 : decode cL_arePosts 289 = .ok (.iload 5, 2) := by decide +kernel
theorem dL_arePosts_291 : decode cL_arePosts 291 = .ok (.iload 6, 2) := by decide +kernel
theorem dL_arePosts_293 : decode cL_arePosts 293 = .ok (.if_icmp .le 8, 3) := by decide +kernel
theorem dL_arePosts_296 : decode cL_arePosts 296 = .ok (.iload 5, 2) := by decide +kernel
theorem dL_arePosts_298 : decode cL_arePosts 298 = .ok (.goto 5, 3) := by decide +kernel
theorem dL_arePosts_301 : decode cL_arePosts 301 = .ok (.iload 6, 2) := by decide +kernel
theorem dL_arePosts_303 : decode cL_arePosts 303 = .ok (.if_icmp .eq 5, 3) := by decide +kernel
theorem dL_arePosts_306 : decode cL_arePosts 306 = .ok (.iconst 0, 1) := by decide +kernel
theorem dL_arePosts_307 : decode cL_arePosts 307 = .ok (.ireturn, 1) := by decide +kernel
theorem dL_arePosts_308 : decode cL_arePosts 308 = .ok (.iinc 4 1, 3) := by decide +kernel
theorem dL_arePosts_311 : decode cL_arePosts 311 = .ok (.goto (-308), 3) := by decide +kernel
theorem dL_arePosts_314 : decode cL_arePosts 314 = .ok (.iconst 0, 1) := by decide +kernel
theorem dL_arePosts_315 : decode cL_arePosts 315 = .ok (.istore 4, 2) := by decide +kernel
theorem dL_arePosts_317 : decode cL_arePosts 317 = .ok (.iload 4, 2) := by decide +kernel
theorem dL_arePosts_319 : decode cL_arePosts 319 = .ok (.iconst 4, 1) := by decide +kernel
theorem dL_arePosts_320 : decode cL_arePosts 320 = .ok (.if_icmp .ge 69, 3) := by decide +kernel
theorem dL_arePosts_323 : decode cL_arePosts 323 = .ok (.aload_n 0, 1) := by decide +kernel
theorem dL_arePosts_324 : decode cL_arePosts 324 = .ok (.iload 4, 2) := by decide +kernel
theorem dL_arePosts_326 : decode cL_arePosts 326 = .ok (.invokevirtual 114, 3) := by decide +kernel
theorem dL_arePosts_329 : decode cL_arePosts 329 = .ok (.aload_n 0, 1) := by decide +kernel
theorem dL_arePosts_330 : decode cL_arePosts 330 = .ok (.iconst 4, 1) := by decide +kernel
theorem dL_arePosts_331 : decode cL_arePosts 331 = .ok (.iload 4, 2) := by decide +kernel
theorem dL_arePosts_333 : decode cL_arePosts 333 = .ok (.imul, 1) := by decide +kernel
theorem dL_arePosts_334 : decode cL_arePosts 334 = .ok (.bipush 7, 2) := by decide +kernel
theorem dL_arePosts_336 : decode cL_arePosts 336 = .ok (.invokevirtual 111, 3) := by decide +kernel
theorem dL_arePosts_339 : decode cL_arePosts 339 = .ok (.aload_n 0, 1) := by decide +kernel
theorem dL_arePosts_340 : decode cL_arePosts 340 = .ok (.iconst 4, 1) := by decide +kernel
theorem dL_arePosts_341 : decode cL_arePosts 341 = .ok (.iload 4, 2) := by decide +kernel
theorem dL_arePosts_343 : decode cL_arePosts 343 = .ok (.imul, 1) := by decide +kernel
theorem dL_arePosts_344 : decode cL_arePosts 344 = .ok (.iconst 1, 1) := by decide +kernel
theorem dL_arePosts_345 : decode cL_arePosts 345 = .ok (.iadd, 1) := by decide +kernel
theorem dL_arePosts_346 : decode cL_arePosts 346 = .ok (.bipush 7, 2) := by decide +kernel
theorem dL_arePosts_348 : decode cL_arePosts 348 = .ok (.invokevirtual 111, 3) := by decide +kernel
theorem dL_arePosts_351 : decode cL_arePosts 351 = .ok (.iadd, 1) := by decide +kernel
theorem dL_arePosts_352 : decode cL_arePosts 352 = .ok (.aload_n 0, 1) := by decide +kernel
theorem dL_arePosts_353 : decode cL_arePosts 353 = .ok (.iconst 4, 1) := by decide +kernel
theorem dL_arePosts_354 : decode cL_arePosts 354 = .ok (.iload 4, 2) := by decide +kernel
theorem dL_arePosts_356 : decode cL_arePosts 356 = .ok (.imul, 1) := by decide +kernel
theorem dL_arePosts_357 : decode cL_arePosts 357 = .ok (.iconst 2, 1) := by decide +kernel
theorem dL_arePosts_358 : decode cL_arePosts 358 = .ok (.iadd, 1) := by decide +kernel
theorem dL_arePosts_359 : decode cL_arePosts 359 = .ok (.bipush 7, 2) := by decide +kernel
theorem dL_arePosts_361 : decode cL_arePosts 361 = .ok (.invokevirtual 111, 3) := by decide +kernel
theorem dL_arePosts_364 : decode cL_arePosts 364 = .ok (.iadd, 1) := by decide +kernel
theorem dL_arePosts_365 : decode cL_arePosts 365 = .ok (.aload_n 0, 1) := by decide +kernel
theorem dL_arePosts_366 : decode cL_arePosts 366 = .ok (.iconst 4, 1) := by decide +kernel
theorem dL_arePosts_367 : decode cL_arePosts 367 = .ok (.iload 4, 2) := by decide +kernel
theorem dL_arePosts_369 : decode cL_arePosts 369 = .ok (.imul, 1) := by decide +kernel
theorem dL_arePosts_370 : decode cL_arePosts 370 = .ok (.iconst 3, 1) := by decide +kernel
theorem dL_arePosts_371 : decode cL_arePosts 371 = .ok (.iadd, 1) := by decide +kernel
theorem dL_arePosts_372 : decode cL_arePosts 372 = .ok (.bipush 7, 2) := by decide +kernel
theorem dL_arePosts_374 : decode cL_arePosts 374 = .ok (.invokevirtual 111, 3) := by decide +kernel
theorem dL_arePosts_377 : decode cL_arePosts 377 = .ok (.iadd, 1) := by decide +kernel
theorem dL_arePosts_378 : decode cL_arePosts 378 = .ok (.if_icmp .eq 5, 3) := by decide +kernel
theorem dL_arePosts_381 : decode cL_arePosts 381 = .ok (.iconst 0, 1) := by decide +kernel
theorem dL_arePosts_382 : decode cL_arePosts 382 = .ok (.ireturn, 1) := by decide +kernel
theorem dL_arePosts_383 : decode cL_arePosts 383 = .ok (.iinc 4 1, 3) := by decide +kernel
theorem dL_arePosts_386 : decode cL_arePosts 386 = .ok (.goto (-69), 3) := by decide +kernel
theorem dL_arePosts_389 : decode cL_arePosts 389 = .ok (.iconst 1, 1) := by decide +kernel
theorem dL_arePosts_390 : decode cL_arePosts 390 = .ok (.ireturn, 1) := by decide +kernel
