/-! ===== the law's methods: code ===== -/
theorem dL_act_0 : decode cL_act 0 = .ok (.iload_n 1, 1) := by decide +kernel
theorem dL_act_1 : decode cL_act 1 = .ok (.bipush 14, 2) := by decide +kernel
theorem dL_act_3 : decode cL_act 3 = .ok (.invokestatic 65, 3) := by decide +kernel
theorem dL_act_6 : decode cL_act 6 = .ok (.istore 6, 2) := by decide +kernel
theorem dL_act_8 : decode cL_act 8 = .ok (.aload 5, 2) := by decide +kernel
theorem dL_act_10 : decode cL_act 10 = .ok (.iconst 0, 1) := by decide +kernel
theorem dL_act_11 : decode cL_act 11 = .ok (.iaload, 1) := by decide +kernel
theorem dL_act_12 : decode cL_act 12 = .ok (.istore 7, 2) := by decide +kernel
theorem dL_act_14 : decode cL_act 14 = .ok (.iload 6, 2) := by decide +kernel
theorem dL_act_16 : decode cL_act 16 = .ok (.iconst 5, 1) := by decide +kernel
theorem dL_act_17 : decode cL_act 17 = .ok (.if_icmp .ge 239, 3) := by decide +kernel
theorem dL_act_20 : decode cL_act 20 = .ok (.iload_n 2, 1) := by decide +kernel
theorem dL_act_21 : decode cL_act 21 = .ok (.iload_n 2, 1) := by decide +kernel
theorem dL_act_22 : decode cL_act 22 = .ok (.bipush 14, 2) := by decide +kernel
theorem dL_act_24 : decode cL_act 24 = .ok (.ishr, 1) := by decide +kernel
theorem dL_act_25 : decode cL_act 25 = .ok (.bipush 7, 2) := by decide +kernel
theorem dL_act_27 : decode cL_act 27 = .ok (.iand, 1) := by decide +kernel
theorem dL_act_28 : decode cL_act 28 = .ok (.ifCond .ne 8, 3) := by decide +kernel
theorem dL_act_31 : decode cL_act 31 = .ok (.bipush 16, 2) := by decide +kernel
theorem dL_act_33 : decode cL_act 33 = .ok (.goto 5, 3) := by decide +kernel
theorem dL_act_36 : decode cL_act 36 = .ok (.bipush 12, 2) := by decide +kernel
theorem dL_act_38 : decode cL_act 38 = .ok (.invokestatic 65, 3) := by decide +kernel
theorem dL_act_41 : decode cL_act 41 = .ok (.istore 8, 2) := by decide +kernel
theorem dL_act_43 : decode cL_act 43 = .ok (.iload_n 2, 1) := by decide +kernel
theorem dL_act_44 : decode cL_act 44 = .ok (.bipush 14, 2) := by decide +kernel
theorem dL_act_46 : decode cL_act 46 = .ok (.ishr, 1) := by decide +kernel
theorem dL_act_47 : decode cL_act 47 = .ok (.iconst 3, 1) := by decide +kernel
theorem dL_act_48 : decode cL_act 48 = .ok (.iand, 1) := by decide +kernel
theorem dL_act_49 : decode cL_act 49 = .ok (.ifCond .ne 14, 3) := by decide +kernel
theorem dL_act_52 : decode cL_act 52 = .ok (.iload_n 2, 1) := by decide +kernel
theorem dL_act_53 : decode cL_act 53 = .ok (.iconst 4, 1) := by decide +kernel
theorem dL_act_54 : decode cL_act 54 = .ok (.ishr, 1) := by decide +kernel
theorem dL_act_55 : decode cL_act 55 = .ok (.bipush 16, 2) := by decide +kernel
theorem dL_act_57 : decode cL_act 57 = .ok (.invokestatic 65, 3) := by decide +kernel
theorem dL_act_60 : decode cL_act 60 = .ok (.goto 22, 3) := by decide +kernel
theorem dL_act_63 : decode cL_act 63 = .ok (.iconst 4, 1) := by decide +kernel
theorem dL_act_64 : decode cL_act 64 = .ok (.iload 8, 2) := by decide +kernel
theorem dL_act_66 : decode cL_act 66 = .ok (.iconst 4, 1) := by decide +kernel
theorem dL_act_67 : decode cL_act 67 = .ok (.idiv, 1) := by decide +kernel
theorem dL_act_68 : decode cL_act 68 = .ok (.iconst 1, 1) := by decide +kernel
theorem dL_act_69 : decode cL_act 69 = .ok (.iadd, 1) := by decide +kernel
theorem dL_act_70 : decode cL_act 70 = .ok (.imul, 1) := by decide +kernel
theorem dL_act_71 : decode cL_act 71 = .ok (.bipush 16, 2) := by decide +kernel
theorem dL_act_73 : decode cL_act 73 = .ok (.irem, 1) := by decide +kernel
theorem dL_act_74 : decode cL_act 74 = .ok (.iload_n 2, 1) := by decide +kernel
theorem dL_act_75 : decode cL_act 75 = .ok (.iconst 4, 1) := by decide +kernel
theorem dL_act_76 : decode cL_act 76 = .ok (.ishr, 1) := by decide +kernel
theorem dL_act_77 : decode cL_act 77 = .ok (.iconst 4, 1) := by decide +kernel
theorem dL_act_78 : decode cL_act 78 = .ok (.invokestatic 65, 3) := by decide +kernel
theorem dL_act_81 : decode cL_act 81 = .ok (.iadd, 1) := by decide +kernel
theorem dL_act_82 : decode cL_act 82 = .ok (.istore 9, 2) := by decide +kernel
theorem dL_act_84 : decode cL_act 84 = .ok (.iconst 1, 1) := by decide +kernel
theorem dL_act_85 : decode cL_act 85 = .ok (.iload_n 2, 1) := by decide +kernel
theorem dL_act_86 : decode cL_act 86 = .ok (.bipush 8, 2) := by decide +kernel
theorem dL_act_88 : decode cL_act 88 = .ok (.ishr, 1) := by decide +kernel
theorem dL_act_89 : decode cL_act 89 = .ok (.iload_n 2, 1) := by decide +kernel
theorem dL_act_90 : decode cL_act 90 = .ok (.bipush 7, 2) := by decide +kernel
theorem dL_act_92 : decode cL_act 92 = .ok (.ishr, 1) := by decide +kernel
theorem dL_act_93 : decode cL_act 93 = .ok (.iconst 1, 1) := by decide +kernel
theorem dL_act_94 : decode cL_act 94 = .ok (.iand, 1) := by decide +kernel
theorem dL_act_95 : decode cL_act 95 = .ok (.ifCond .ne 8, 3) := by decide +kernel
theorem dL_act_98 : decode cL_act 98 = .ok (.bipush 9, 2) := by decide +kernel
theorem dL_act_100 : decode cL_act 100 = .ok (.goto 5, 3) := by decide +kernel
theorem dL_act_103 : decode cL_act 103 = .ok (.bipush 50, 2) := by decide +kernel
theorem dL_act_105 : decode cL_act 105 = .ok (.invokestatic 65, 3) := by decide +kernel
theorem dL_act_108 : decode cL_act 108 = .ok (.iadd, 1) := by decide +kernel
theorem dL_act_109 : decode cL_act 109 = .ok (.istore 10, 2) := by decide +kernel
theorem dL_act_111 : decode cL_act 111 = .ok (.iload 8, 2) := by decide +kernel
theorem dL_act_113 : decode cL_act 113 = .ok (.iconst 4, 1) := by decide +kernel
theorem dL_act_114 : decode cL_act 114 = .ok (.idiv, 1) := by decide +kernel
theorem dL_act_115 : decode cL_act 115 = .ok (.iload 9, 2) := by decide +kernel
theorem dL_act_117 : decode cL_act 117 = .ok (.iconst 4, 1) := by decide +kernel
theorem dL_act_118 : decode cL_act 118 = .ok (.idiv, 1) := by decide +kernel
theorem dL_act_119 : decode cL_act 119 = .ok (.if_icmp .ne 52, 3) := by decide +kernel
theorem dL_act_122 : decode cL_act 122 = .ok (.aload_n 0, 1) := by decide +kernel
theorem dL_act_123 : decode cL_act 123 = .ok (.iload 8, 2) := by decide +kernel
theorem dL_act_125 : decode cL_act 125 = .ok (.iload 9, 2) := by decide +kernel
theorem dL_act_127 : decode cL_act 127 = .ok (.iload 10, 2) := by decide +kernel
theorem dL_act_129 : decode cL_act 129 = .ok (.invokestatic 68, 3) := by decide +kernel
theorem dL_act_132 : decode cL_act 132 = .ok (.bipush (-32), 2) := by decide +kernel
theorem dL_act_134 : decode cL_act 134 = .ok (.if_icmp .ne 35, 3) := by decide +kernel
theorem dL_act_137 : decode cL_act 137 = .ok (.aload_n 0, 1) := by decide +kernel
theorem dL_act_138 : decode cL_act 138 = .ok (.bipush 16, 2) := by decide +kernel
theorem dL_act_140 : decode cL_act 140 = .ok (.iload 9, 2) := by decide +kernel
theorem dL_act_142 : decode cL_act 142 = .ok (.iconst 0, 1) := by decide +kernel
theorem dL_act_143 : decode cL_act 143 = .ok (.invokestatic 68, 3) := by decide +kernel
theorem dL_act_146 : decode cL_act 146 = .ok (.bipush (-31), 2) := by decide +kernel
theorem dL_act_148 : decode cL_act 148 = .ok (.if_icmp .ne 21, 3) := by decide +kernel
theorem dL_act_151 : decode cL_act 151 = .ok (.aload_n 0, 1) := by decide +kernel
theorem dL_act_152 : decode cL_act 152 = .ok (.iconst 0, 1) := by decide +kernel
theorem dL_act_153 : decode cL_act 153 = .ok (.bipush 15, 2) := by decide +kernel
theorem dL_act_155 : decode cL_act 155 = .ok (.bipush 51, 2) := by decide +kernel
theorem dL_act_157 : decode cL_act 157 = .ok (.invokestatic 68, 3) := by decide +kernel
theorem dL_act_160 : decode cL_act 160 = .ok (.bipush (-32), 2) := by decide +kernel
theorem dL_act_162 : decode cL_act 162 = .ok (.if_icmp .ne 7, 3) := by decide +kernel
theorem dL_act_165 : decode cL_act 165 = .ok (.iconst 1, 1) := by decide +kernel
theorem dL_act_166 : decode cL_act 166 = .ok (.goto 4, 3) := by decide +kernel
theorem dL_act_169 : decode cL_act 169 = .ok (.iconst 0, 1) := by decide +kernel
theorem dL_act_170 : decode cL_act 170 = .ok (.ireturn, 1) := by decide +kernel
theorem dL_act_171 : decode cL_act 171 = .ok (.iload 7, 2) := by decide +kernel
theorem dL_act_173 : decode cL_act 173 = .ok (.bipush 20, 2) := by decide +kernel
theorem dL_act_175 : decode cL_act 175 = .ok (.if_icmp .ne 24, 3) := by decide +kernel
theorem dL_act_178 : decode cL_act 178 = .ok (.aload_n 0, 1) := by decide +kernel
theorem dL_act_179 : decode cL_act 179 = .ok (.iload 8, 2) := by decide +kernel
theorem dL_act_181 : decode cL_act 181 = .ok (.iload 9, 2) := by decide +kernel
theorem dL_act_183 : decode cL_act 183 = .ok (.iload 10, 2) := by decide +kernel
theorem dL_act_185 : decode cL_act 185 = .ok (.invokestatic 68, 3) := by decide +kernel
theorem dL_act_188 : decode cL_act 188 = .ok (.bipush (-33), 2) := by decide +kernel
theorem dL_act_190 : decode cL_act 190 = .ok (.if_icmp .ne 7, 3) := by decide +kernel
theorem dL_act_193 : decode cL_act 193 = .ok (.iconst 1, 1) := by decide +kernel
theorem dL_act_194 : decode cL_act 194 = .ok (.goto 4, 3) := by decide +kernel
theorem dL_act_197 : decode cL_act 197 = .ok (.iconst 0, 1) := by decide +kernel
theorem dL_act_198 : decode cL_act 198 = .ok (.ireturn, 1) := by decide +kernel
theorem dL_act_199 : decode cL_act 199 = .ok (.aload_n 3, 1) := by decide +kernel
theorem dL_act_200 : decode cL_act 200 = .ok (.iconst 3, 1) := by decide +kernel
theorem dL_act_201 : decode cL_act 201 = .ok (.iload 7, 2) := by decide +kernel
theorem dL_act_203 : decode cL_act 203 = .ok (.imul, 1) := by decide +kernel
theorem dL_act_204 : decode cL_act 204 = .ok (.iload 8, 2) := by decide +kernel
theorem dL_act_206 : decode cL_act 206 = .ok (.iastore, 1) := by decide +kernel
theorem dL_act_207 : decode cL_act 207 = .ok (.aload_n 3, 1) := by decide +kernel
theorem dL_act_208 : decode cL_act 208 = .ok (.iconst 3, 1) := by decide +kernel
theorem dL_act_209 : decode cL_act 209 = .ok (.iload 7, 2) := by decide +kernel
theorem dL_act_211 : decode cL_act 211 = .ok (.imul, 1) := by decide +kernel
theorem dL_act_212 : decode cL_act 212 = .ok (.iconst 1, 1) := by decide +kernel
theorem dL_act_213 : decode cL_act 213 = .ok (.iadd, 1) := by decide +kernel
theorem dL_act_214 : decode cL_act 214 = .ok (.iload 9, 2) := by decide +kernel
theorem dL_act_216 : decode cL_act 216 = .ok (.iastore, 1) := by decide +kernel
theorem dL_act_217 : decode cL_act 217 = .ok (.aload_n 3, 1) := by decide +kernel
theorem dL_act_218 : decode cL_act 218 = .ok (.iconst 3, 1) := by decide +kernel
theorem dL_act_219 : decode cL_act 219 = .ok (.iload 7, 2) := by decide +kernel
theorem dL_act_221 : decode cL_act 221 = .ok (.imul, 1) := by decide +kernel
theorem dL_act_222 : decode cL_act 222 = .ok (.iconst 2, 1) := by decide +kernel
theorem dL_act_223 : decode cL_act 223 = .ok (.iadd, 1) := by decide +kernel
theorem dL_act_224 : decode cL_act 224 = .ok (.iload 10, 2) := by decide +kernel
theorem dL_act_226 : decode cL_act 226 = .ok (.iastore, 1) := by decide +kernel
theorem dL_act_227 : decode cL_act 227 = .ok (.aload 5, 2) := by decide +kernel
theorem dL_act_229 : decode cL_act 229 = .ok (.iconst 0, 1) := by decide +kernel
theorem dL_act_230 : decode cL_act 230 = .ok (.dup2, 1) := by decide +kernel
theorem dL_act_231 : decode cL_act 231 = .ok (.iaload, 1) := by decide +kernel
theorem dL_act_232 : decode cL_act 232 = .ok (.iconst 1, 1) := by decide +kernel
theorem dL_act_233 : decode cL_act 233 = .ok (.iadd, 1) := by decide +kernel
theorem dL_act_234 : decode cL_act 234 = .ok (.iastore, 1) := by decide +kernel
theorem dL_act_235 : decode cL_act 235 = .ok (.aload_n 0, 1) := by decide +kernel
theorem dL_act_236 : decode cL_act 236 = .ok (.iload 8, 2) := by decide +kernel
theorem dL_act_238 : decode cL_act 238 = .ok (.iload 9, 2) := by decide +kernel
theorem dL_act_240 : decode cL_act 240 = .ok (.iload 10, 2) := by decide +kernel
theorem dL_act_242 : decode cL_act 242 = .ok (.invokestatic 68, 3) := by decide +kernel
theorem dL_act_245 : decode cL_act 245 = .ok (.iload 7, 2) := by decide +kernel
theorem dL_act_247 : decode cL_act 247 = .ok (.if_icmp .ne 7, 3) := by decide +kernel
theorem dL_act_250 : decode cL_act 250 = .ok (.iconst 1, 1) := by decide +kernel
theorem dL_act_251 : decode cL_act 251 = .ok (.goto 4, 3) := by decide +kernel
theorem dL_act_254 : decode cL_act 254 = .ok (.iconst 0, 1) := by decide +kernel
theorem dL_act_255 : decode cL_act 255 = .ok (.ireturn, 1) := by decide +kernel
theorem dL_act_256 : decode cL_act 256 = .ok (.iload 6, 2) := by decide +kernel
theorem dL_act_258 : decode cL_act 258 = .ok (.bipush 7, 2) := by decide +kernel
theorem dL_act_260 : decode cL_act 260 = .ok (.if_icmp .ge 191, 3) := by decide +kernel
theorem dL_act_263 : decode cL_act 263 = .ok (.iload 7, 2) := by decide +kernel
theorem dL_act_265 : decode cL_act 265 = .ok (.ifCond .ne 31, 3) := by decide +kernel
theorem dL_act_268 : decode cL_act 268 = .ok (.aload_n 0, 1) := by decide +kernel
theorem dL_act_269 : decode cL_act 269 = .ok (.iconst 0, 1) := by decide +kernel
theorem dL_act_270 : decode cL_act 270 = .ok (.bipush 51, 2) := by decide +kernel
theorem dL_act_272 : decode cL_act 272 = .ok (.invokestatic 71, 3) := by decide +kernel
theorem dL_act_275 : decode cL_act 275 = .ok (.bipush (-31), 2) := by decide +kernel
theorem dL_act_277 : decode cL_act 277 = .ok (.if_icmp .ne 17, 3) := by decide +kernel
theorem dL_act_280 : decode cL_act 280 = .ok (.aload_n 0, 1) := by decide +kernel
theorem dL_act_281 : decode cL_act 281 = .ok (.iconst 0, 1) := by decide +kernel
theorem dL_act_282 : decode cL_act 282 = .ok (.invokestatic 74, 3) := by decide +kernel
theorem dL_act_285 : decode cL_act 285 = .ok (.bipush (-31), 2) := by decide +kernel
theorem dL_act_287 : decode cL_act 287 = .ok (.if_icmp .ne 7, 3) := by decide +kernel
theorem dL_act_290 : decode cL_act 290 = .ok (.iconst 1, 1) := by decide +kernel
theorem dL_act_291 : decode cL_act 291 = .ok (.goto 4, 3) := by decide +kernel
theorem dL_act_294 : decode cL_act 294 = .ok (.iconst 0, 1) := by decide +kernel
theorem dL_act_295 : decode cL_act 295 = .ok (.ireturn, 1) := by decide +kernel
theorem dL_act_296 : decode cL_act 296 = .ok (.iload_n 2, 1) := by decide +kernel
theorem dL_act_297 : decode cL_act 297 = .ok (.iload 7, 2) := by decide +kernel
theorem dL_act_299 : decode cL_act 299 = .ok (.invokestatic 65, 3) := by decide +kernel
theorem dL_act_302 : decode cL_act 302 = .ok (.istore 8, 2) := by decide +kernel
theorem dL_act_304 : decode cL_act 304 = .ok (.aload_n 3, 1) := by decide +kernel
theorem dL_act_305 : decode cL_act 305 = .ok (.iconst 3, 1) := by decide +kernel
theorem dL_act_306 : decode cL_act 306 = .ok (.iload 8, 2) := by decide +kernel
theorem dL_act_308 : decode cL_act 308 = .ok (.imul, 1) := by decide +kernel
theorem dL_act_309 : decode cL_act 309 = .ok (.iconst 2, 1) := by decide +kernel
theorem dL_act_310 : decode cL_act 310 = .ok (.iadd, 1) := by decide +kernel
theorem dL_act_311 : decode cL_act 311 = .ok (.iaload, 1) := by decide +kernel
theorem dL_act_312 : decode cL_act 312 = .ok (.istore 9, 2) := by decide +kernel
theorem dL_act_314 : decode cL_act 314 = .ok (.iload 6, 2) := by decide +kernel
theorem dL_act_316 : decode cL_act 316 = .ok (.iconst 5, 1) := by decide +kernel
theorem dL_act_317 : decode cL_act 317 = .ok (.if_icmp .eq 9, 3) := by decide +kernel
theorem dL_act_320 : decode cL_act 320 = .ok (.iload_n 2, 1) := by decide +kernel
theorem dL_act_321 : decode cL_act 321 = .ok (.iconst 1, 1) := by decide +kernel
theorem dL_act_322 : decode cL_act 322 = .ok (.iand, 1) := by decide +kernel
theorem dL_act_323 : decode cL_act 323 = .ok (.ifCond .ne 57, 3) := by decide +kernel
theorem dL_act_326 : decode cL_act 326 = .ok (.aload_n 3, 1) := by decide +kernel
theorem dL_act_327 : decode cL_act 327 = .ok (.iconst 3, 1) := by decide +kernel
theorem dL_act_328 : decode cL_act 328 = .ok (.iload 8, 2) := by decide +kernel
theorem dL_act_330 : decode cL_act 330 = .ok (.imul, 1) := by decide +kernel
theorem dL_act_331 : decode cL_act 331 = .ok (.iconst 2, 1) := by decide +kernel
theorem dL_act_332 : decode cL_act 332 = .ok (.iadd, 1) := by decide +kernel
theorem dL_act_333 : decode cL_act 333 = .ok (.iload_n 2, 1) := by decide +kernel
theorem dL_act_334 : decode cL_act 334 = .ok (.iconst 5, 1) := by decide +kernel
theorem dL_act_335 : decode cL_act 335 = .ok (.ishr, 1) := by decide +kernel
theorem dL_act_336 : decode cL_act 336 = .ok (.bipush 51, 2) := by decide +kernel
theorem dL_act_338 : decode cL_act 338 = .ok (.invokestatic 65, 3) := by decide +kernel
theorem dL_act_341 : decode cL_act 341 = .ok (.iastore, 1) := by decide +kernel
theorem dL_act_342 : decode cL_act 342 = .ok (.aload_n 0, 1) := by decide +kernel
theorem dL_act_343 : decode cL_act 343 = .ok (.iload 8, 2) := by decide +kernel
theorem dL_act_345 : decode cL_act 345 = .ok (.aload_n 3, 1) := by decide +kernel
theorem dL_act_346 : decode cL_act 346 = .ok (.iconst 3, 1) := by decide +kernel
theorem dL_act_347 : decode cL_act 347 = .ok (.iload 8, 2) := by decide +kernel
theorem dL_act_349 : decode cL_act 349 = .ok (.imul, 1) := by decide +kernel
theorem dL_act_350 : decode cL_act 350 = .ok (.iconst 2, 1) := by decide +kernel
theorem dL_act_351 : decode cL_act 351 = .ok (.iadd, 1) := by decide +kernel
theorem dL_act_352 : decode cL_act 352 = .ok (.iaload, 1) := by decide +kernel
theorem dL_act_353 : decode cL_act 353 = .ok (.invokestatic 71, 3) := by decide +kernel
theorem dL_act_356 : decode cL_act 356 = .ok (.iload 9, 2) := by decide +kernel
theorem dL_act_358 : decode cL_act 358 = .ok (.if_icmp .ne 20, 3) := by decide +kernel
theorem dL_act_361 : decode cL_act 361 = .ok (.aload_n 0, 1) := by decide +kernel
theorem dL_act_362 : decode cL_act 362 = .ok (.iload 8, 2) := by decide +kernel
theorem dL_act_364 : decode cL_act 364 = .ok (.bipush 51, 2) := by decide +kernel
theorem dL_act_366 : decode cL_act 366 = .ok (.invokestatic 71, 3) := by decide +kernel
theorem dL_act_369 : decode cL_act 369 = .ok (.bipush (-32), 2) := by decide +kernel
theorem dL_act_371 : decode cL_act 371 = .ok (.if_icmp .ne 7, 3) := by decide +kernel
theorem dL_act_374 : decode cL_act 374 = .ok (.iconst 1, 1) := by decide +kernel
theorem dL_act_375 : decode cL_act 375 = .ok (.goto 4, 3) := by decide +kernel
theorem dL_act_378 : decode cL_act 378 = .ok (.iconst 0, 1) := by decide +kernel
theorem dL_act_379 : decode cL_act 379 = .ok (.ireturn, 1) := by decide +kernel
theorem dL_act_380 : decode cL_act 380 = .ok (.aload 5, 2) := by decide +kernel
theorem dL_act_382 : decode cL_act 382 = .ok (.iconst 0, 1) := by decide +kernel
theorem dL_act_383 : decode cL_act 383 = .ok (.dup2, 1) := by decide +kernel
theorem dL_act_384 : decode cL_act 384 = .ok (.iaload, 1) := by decide +kernel
theorem dL_act_385 : decode cL_act 385 = .ok (.iconst 1, 1) := by decide +kernel
theorem dL_act_386 : decode cL_act 386 = .ok (.isub, 1) := by decide +kernel
theorem dL_act_387 : decode cL_act 387 = .ok (.iastore, 1) := by decide +kernel
theorem dL_act_388 : decode cL_act 388 = .ok (.iconst 3, 1) := by decide +kernel
theorem dL_act_389 : decode cL_act 389 = .ok (.iload 8, 2) := by decide +kernel
theorem dL_act_391 : decode cL_act 391 = .ok (.imul, 1) := by decide +kernel
theorem dL_act_392 : decode cL_act 392 = .ok (.istore 10, 2) := by decide +kernel
theorem dL_act_394 : decode cL_act 394 = .ok (.iload 10, 2) := by decide +kernel
theorem dL_act_396 : decode cL_act 396 = .ok (.iconst 3, 1) := by decide +kernel
theorem dL_act_397 : decode cL_act 397 = .ok (.aload 5, 2) := by decide +kernel
theorem dL_act_399 : decode cL_act 399 = .ok (.iconst 0, 1) := by decide +kernel
theorem dL_act_400 : decode cL_act 400 = .ok (.iaload, 1) := by decide +kernel
theorem dL_act_401 : decode cL_act 401 = .ok (.imul, 1) := by decide +kernel
theorem dL_act_402 : decode cL_act 402 = .ok (.if_icmp .ge 19, 3) := by decide +kernel
theorem dL_act_405 : decode cL_act 405 = .ok (.aload_n 3, 1) := by decide +kernel
theorem dL_act_406 : decode cL_act 406 = .ok (.iload 10, 2) := by decide +kernel
theorem dL_act_408 : decode cL_act 408 = .ok (.aload_n 3, 1) := by decide +kernel
theorem dL_act_409 : decode cL_act 409 = .ok (.iload 10, 2) := by decide +kernel
theorem dL_act_411 : decode cL_act 411 = .ok (.iconst 3, 1) := by decide +kernel
theorem dL_act_412 : decode cL_act 412 = .ok (.iadd, 1) := by decide +kernel
theorem dL_act_413 : decode cL_act 413 = .ok (.iaload, 1) := by decide +kernel
theorem dL_act_414 : decode cL_act 414 = .ok (.iastore, 1) := by decide +kernel
theorem dL_act_415 : decode cL_act 415 = .ok (.iinc 10 1, 3) := by decide +kernel
theorem dL_act_418 : decode cL_act 418 = .ok (.goto (-24), 3) := by decide +kernel
theorem dL_act_421 : decode cL_act 421 = .ok (.aload_n 0, 1) := by decide +kernel
theorem dL_act_422 : decode cL_act 422 = .ok (.iload 8, 2) := by decide +kernel
theorem dL_act_424 : decode cL_act 424 = .ok (.invokestatic 74, 3) := by decide +kernel
theorem dL_act_427 : decode cL_act 427 = .ok (.iload 9, 2) := by decide +kernel
theorem dL_act_429 : decode cL_act 429 = .ok (.if_icmp .ne 20, 3) := by decide +kernel
theorem dL_act_432 : decode cL_act 432 = .ok (.aload_n 0, 1) := by decide +kernel
theorem dL_act_433 : decode cL_act 433 = .ok (.aload 5, 2) := by decide +kernel
theorem dL_act_435 : decode cL_act 435 = .ok (.iconst 0, 1) := by decide +kernel
theorem dL_act_436 : decode cL_act 436 = .ok (.iaload, 1) := by decide +kernel
theorem dL_act_437 : decode cL_act 437 = .ok (.invokestatic 74, 3) := by decide +kernel
theorem dL_act_440 : decode cL_act 440 = .ok (.bipush (-31), 2) := by decide +kernel
theorem dL_act_442 : decode cL_act 442 = .ok (.if_icmp .ne 7, 3) := by decide +kernel
theorem dL_act_445 : decode cL_act 445 = .ok (.iconst 1, 1) := by decide +kernel
theorem dL_act_446 : decode cL_act 446 = .ok (.goto 4, 3) := by decide +kernel
theorem dL_act_449 : decode cL_act 449 = .ok (.iconst 0, 1) := by decide +kernel
theorem dL_act_450 : decode cL_act 450 = .ok (.ireturn, 1) := by decide +kernel
theorem dL_act_451 : decode cL_act 451 = .ok (.iload 6, 2) := by decide +kernel
theorem dL_act_453 : decode cL_act 453 = .ok (.bipush 9, 2) := by decide +kernel
theorem dL_act_455 : decode cL_act 455 = .ok (.if_icmp .ge 150, 3) := by decide +kernel
theorem dL_act_458 : decode cL_act 458 = .ok (.iload_n 2, 1) := by decide +kernel
theorem dL_act_459 : decode cL_act 459 = .ok (.bipush 16, 2) := by decide +kernel
theorem dL_act_461 : decode cL_act 461 = .ok (.invokestatic 65, 3) := by decide +kernel
theorem dL_act_464 : decode cL_act 464 = .ok (.istore 8, 2) := by decide +kernel
theorem dL_act_466 : decode cL_act 466 = .ok (.iload 8, 2) := by decide +kernel
theorem dL_act_468 : decode cL_act 468 = .ok (.iconst 4, 1) := by decide +kernel
theorem dL_act_469 : decode cL_act 469 = .ok (.idiv, 1) := by decide +kernel
theorem dL_act_470 : decode cL_act 470 = .ok (.iconst 4, 1) := by decide +kernel
theorem dL_act_471 : decode cL_act 471 = .ok (.imul, 1) := by decide +kernel
theorem dL_act_472 : decode cL_act 472 = .ok (.iload_n 2, 1) := by decide +kernel
theorem dL_act_473 : decode cL_act 473 = .ok (.iconst 4, 1) := by decide +kernel
theorem dL_act_474 : decode cL_act 474 = .ok (.ishr, 1) := by decide +kernel
theorem dL_act_475 : decode cL_act 475 = .ok (.iconst 4, 1) := by decide +kernel
theorem dL_act_476 : decode cL_act 476 = .ok (.invokestatic 65, 3) := by decide +kernel
theorem dL_act_479 : decode cL_act 479 = .ok (.iadd, 1) := by decide +kernel
theorem dL_act_480 : decode cL_act 480 = .ok (.istore 9, 2) := by decide +kernel
theorem dL_act_482 : decode cL_act 482 = .ok (.iload 8, 2) := by decide +kernel
theorem dL_act_484 : decode cL_act 484 = .ok (.iload 9, 2) := by decide +kernel
theorem dL_act_486 : decode cL_act 486 = .ok (.if_icmp .ne 53, 3) := by decide +kernel
theorem dL_act_489 : decode cL_act 489 = .ok (.aload_n 0, 1) := by decide +kernel
theorem dL_act_490 : decode cL_act 490 = .ok (.iload 8, 2) := by decide +kernel
theorem dL_act_492 : decode cL_act 492 = .ok (.iload 9, 2) := by decide +kernel
theorem dL_act_494 : decode cL_act 494 = .ok (.invokestatic 77, 3) := by decide +kernel
theorem dL_act_497 : decode cL_act 497 = .ok (.bipush (-32), 2) := by decide +kernel
theorem dL_act_499 : decode cL_act 499 = .ok (.if_icmp .ne 38, 3) := by decide +kernel
theorem dL_act_502 : decode cL_act 502 = .ok (.aload_n 0, 1) := by decide +kernel
theorem dL_act_503 : decode cL_act 503 = .ok (.iload 8, 2) := by decide +kernel
theorem dL_act_505 : decode cL_act 505 = .ok (.iload 8, 2) := by decide +kernel
theorem dL_act_507 : decode cL_act 507 = .ok (.iconst 4, 1) := by decide +kernel
theorem dL_act_508 : decode cL_act 508 = .ok (.iadd, 1) := by decide +kernel
theorem dL_act_509 : decode cL_act 509 = .ok (.bipush 16, 2) := by decide +kernel
theorem dL_act_511 : decode cL_act 511 = .ok (.irem, 1) := by decide +kernel
theorem dL_act_512 : decode cL_act 512 = .ok (.invokestatic 77, 3) := by decide +kernel
theorem dL_act_515 : decode cL_act 515 = .ok (.bipush (-32), 2) := by decide +kernel
theorem dL_act_517 : decode cL_act 517 = .ok (.if_icmp .ne 20, 3) := by decide +kernel
theorem dL_act_520 : decode cL_act 520 = .ok (.aload_n 0, 1) := by decide +kernel
theorem dL_act_521 : decode cL_act 521 = .ok (.bipush 16, 2) := by decide +kernel
theorem dL_act_523 : decode cL_act 523 = .ok (.bipush 16, 2) := by decide +kernel
theorem dL_act_525 : decode cL_act 525 = .ok (.invokestatic 77, 3) := by decide +kernel
theorem dL_act_528 : decode cL_act 528 = .ok (.bipush (-31), 2) := by decide +kernel
theorem dL_act_530 : decode cL_act 530 = .ok (.if_icmp .ne 7, 3) := by decide +kernel
theorem dL_act_533 : decode cL_act 533 = .ok (.iconst 1, 1) := by decide +kernel
theorem dL_act_534 : decode cL_act 534 = .ok (.goto 4, 3) := by decide +kernel
theorem dL_act_537 : decode cL_act 537 = .ok (.iconst 0, 1) := by decide +kernel
theorem dL_act_538 : decode cL_act 538 = .ok (.ireturn, 1) := by decide +kernel
theorem dL_act_539 : decode cL_act 539 = .ok (.aload 4, 2) := by decide +kernel
theorem dL_act_541 : decode cL_act 541 = .ok (.iload 8, 2) := by decide +kernel
theorem dL_act_543 : decode cL_act 543 = .ok (.iaload, 1) := by decide +kernel
theorem dL_act_544 : decode cL_act 544 = .ok (.istore 10, 2) := by decide +kernel
theorem dL_act_546 : decode cL_act 546 = .ok (.aload 4, 2) := by decide +kernel
theorem dL_act_548 : decode cL_act 548 = .ok (.iload 8, 2) := by decide +kernel
theorem dL_act_550 : decode cL_act 550 = .ok (.aload 4, 2) := by decide +kernel
theorem dL_act_552 : decode cL_act 552 = .ok (.iload 9, 2) := by decide +kernel
theorem dL_act_554 : decode cL_act 554 = .ok (.iaload, 1) := by decide +kernel
theorem dL_act_555 : decode cL_act 555 = .ok (.iastore, 1) := by decide +kernel
theorem dL_act_556 : decode cL_act 556 = .ok (.aload 4, 2) := by decide +kernel
theorem dL_act_558 : decode cL_act 558 = .ok (.iload 9, 2) := by decide +kernel
theorem dL_act_560 : decode cL_act 560 = .ok (.iload 10, 2) := by decide +kernel
theorem dL_act_562 : decode cL_act 562 = .ok (.iastore, 1) := by decide +kernel
theorem dL_act_563 : decode cL_act 563 = .ok (.aload_n 3, 1) := by decide +kernel
theorem dL_act_564 : decode cL_act 564 = .ok (.aload 4, 2) := by decide +kernel
theorem dL_act_566 : decode cL_act 566 = .ok (.iload 7, 2) := by decide +kernel
theorem dL_act_568 : decode cL_act 568 = .ok (.invokestatic 61, 3) := by decide +kernel
theorem dL_act_571 : decode cL_act 571 = .ok (.istore 11, 2) := by decide +kernel
theorem dL_act_573 : decode cL_act 573 = .ok (.aload_n 0, 1) := by decide +kernel
theorem dL_act_574 : decode cL_act 574 = .ok (.iload 8, 2) := by decide +kernel
theorem dL_act_576 : decode cL_act 576 = .ok (.iload 9, 2) := by decide +kernel
theorem dL_act_578 : decode cL_act 578 = .ok (.invokevirtual 79, 3) := by decide +kernel
theorem dL_act_581 : decode cL_act 581 = .ok (.iload 11, 2) := by decide +kernel
theorem dL_act_583 : decode cL_act 583 = .ok (.if_icmp .ne 20, 3) := by decide +kernel
theorem dL_act_586 : decode cL_act 586 = .ok (.aload_n 0, 1) := by decide +kernel
theorem dL_act_587 : decode cL_act 587 = .ok (.iload 8, 2) := by decide +kernel
theorem dL_act_589 : decode cL_act 589 = .ok (.iload 9, 2) := by decide +kernel
theorem dL_act_591 : decode cL_act 591 = .ok (.invokestatic 77, 3) := by decide +kernel
theorem dL_act_594 : decode cL_act 594 = .ok (.iload 11, 2) := by decide +kernel
theorem dL_act_596 : decode cL_act 596 = .ok (.if_icmp .ne 7, 3) := by decide +kernel
theorem dL_act_599 : decode cL_act 599 = .ok (.iconst 1, 1) := by decide +kernel
theorem dL_act_600 : decode cL_act 600 = .ok (.goto 4, 3) := by decide +kernel
theorem dL_act_603 : decode cL_act 603 = .ok (.iconst 0, 1) := by decide +kernel
theorem dL_act_604 : decode cL_act 604 = .ok (.ireturn, 1) := by decide +kernel
theorem dL_act_605 : decode cL_act 605 = .ok (.iload 6, 2) := by decide +kernel
theorem dL_act_607 : decode cL_act 607 = .ok (.bipush 9, 2) := by decide +kernel
theorem dL_act_609 : decode cL_act 609 = .ok (.if_icmp .ne 32, 3) := by decide +kernel
theorem dL_act_612 : decode cL_act 612 = .ok (.aload_n 3, 1) := by decide +kernel
theorem dL_act_613 : decode cL_act 613 = .ok (.aload 4, 2) := by decide +kernel
theorem dL_act_615 : decode cL_act 615 = .ok (.iload 7, 2) := by decide +kernel
theorem dL_act_617 : decode cL_act 617 = .ok (.invokestatic 82, 3) := by decide +kernel
theorem dL_act_620 : decode cL_act 620 = .ok (.aload_n 0, 1) := by decide +kernel
theorem dL_act_621 : decode cL_act 621 = .ok (.invokevirtual 86, 3) := by decide +kernel
theorem dL_act_624 : decode cL_act 624 = .ok (.aload_n 3, 1) := by decide +kernel
theorem dL_act_625 : decode cL_act 625 = .ok (.aload 4, 2) := by decide +kernel
theorem dL_act_627 : decode cL_act 627 = .ok (.iload 7, 2) := by decide +kernel
theorem dL_act_629 : decode cL_act 629 = .ok (.invokestatic 61, 3) := by decide +kernel
theorem dL_act_632 : decode cL_act 632 = .ok (.if_icmp .ne 7, 3) := by decide +kernel
theorem dL_act_635 : decode cL_act 635 = .ok (.iconst 1, 1) := by decide +kernel
theorem dL_act_636 : decode cL_act 636 = .ok (.goto 4, 3) := by decide +kernel
theorem dL_act_639 : decode cL_act 639 = .ok (.iconst 0, 1) := by decide +kernel
theorem dL_act_640 : decode cL_act 640 = .ok (.ireturn, 1) := by decide +kernel
theorem dL_act_641 : decode cL_act 641 = .ok (.iload 6, 2) := by decide +kernel
theorem dL_act_643 : decode cL_act 643 = .ok (.bipush 10, 2) := by decide +kernel
theorem dL_act_645 : decode cL_act 645 = .ok (.if_icmp .ne 131, 3) := by decide +kernel
theorem dL_act_648 : decode cL_act 648 = .ok (.iload_n 2, 1) := by decide +kernel
theorem dL_act_649 : decode cL_act 649 = .ok (.iconst 4, 1) := by decide +kernel
theorem dL_act_650 : decode cL_act 650 = .ok (.invokestatic 65, 3) := by decide +kernel
theorem dL_act_653 : decode cL_act 653 = .ok (.istore 8, 2) := by decide +kernel
theorem dL_act_655 : decode cL_act 655 = .ok (.aload_n 3, 1) := by decide +kernel
theorem dL_act_656 : decode cL_act 656 = .ok (.aload 4, 2) := by decide +kernel
theorem dL_act_658 : decode cL_act 658 = .ok (.iload 7, 2) := by decide +kernel
theorem dL_act_660 : decode cL_act 660 = .ok (.iload 8, 2) := by decide +kernel
theorem dL_act_662 : decode cL_act 662 = .ok (.invokestatic 88, 3) := by decide +kernel
theorem dL_act_665 : decode cL_act 665 = .ok (.istore 9, 2) := by decide +kernel
theorem dL_act_667 : decode cL_act 667 = .ok (.aload_n 0, 1) := by decide +kernel
theorem dL_act_668 : decode cL_act 668 = .ok (.iload 8, 2) := by decide +kernel
theorem dL_act_670 : decode cL_act 670 = .ok (.invokevirtual 92, 3) := by decide +kernel
theorem dL_act_673 : decode cL_act 673 = .ok (.iload 9, 2) := by decide +kernel
theorem dL_act_675 : decode cL_act 675 = .ok (.if_icmp .eq 5, 3) := by decide +kernel
theorem dL_act_678 : decode cL_act 678 = .ok (.iconst 0, 1) := by decide +kernel
theorem dL_act_679 : decode cL_act 679 = .ok (.ireturn, 1) := by decide +kernel
theorem dL_act_680 : decode cL_act 680 = .ok (.aload 4, 2) := by decide +kernel
theorem dL_act_682 : decode cL_act 682 = .ok (.iconst 4, 1) := by decide +kernel
theorem dL_act_683 : decode cL_act 683 = .ok (.iload 8, 2) := by decide +kernel
theorem dL_act_685 : decode cL_act 685 = .ok (.imul, 1) := by decide +kernel
theorem dL_act_686 : decode cL_act 686 = .ok (.iload 9, 2) := by decide +kernel
theorem dL_act_688 : decode cL_act 688 = .ok (.sipush 1000, 3) := by decide +kernel
theorem dL_act_691 : decode cL_act 691 = .ok (.idiv, 1) := by decide +kernel
theorem dL_act_692 : decode cL_act 692 = .ok (.iadd, 1) := by decide +kernel
theorem dL_act_693 : decode cL_act 693 = .ok (.iconst 0, 1) := by decide +kernel
theorem dL_act_694 : decode cL_act 694 = .ok (.iastore, 1) := by decide +kernel
theorem dL_act_695 : decode cL_act 695 = .ok (.aload 4, 2) := by decide +kernel
theorem dL_act_697 : decode cL_act 697 = .ok (.iconst 4, 1) := by decide +kernel
theorem dL_act_698 : decode cL_act 698 = .ok (.iload 8, 2) := by decide +kernel
theorem dL_act_700 : decode cL_act 700 = .ok (.imul, 1) := by decide +kernel
theorem dL_act_701 : decode cL_act 701 = .ok (.iload 9, 2) := by decide +kernel
theorem dL_act_703 : decode cL_act 703 = .ok (.bipush 100, 2) := by decide +kernel
theorem dL_act_705 : decode cL_act 705 = .ok (.idiv, 1) := by decide +kernel
theorem dL_act_706 : decode cL_act 706 = .ok (.bipush 10, 2) := by decide +kernel
theorem dL_act_708 : decode cL_act 708 = .ok (.irem, 1) := by decide +kernel
theorem dL_act_709 : decode cL_act 709 = .ok (.iadd, 1) := by decide +kernel
theorem dL_act_710 : decode cL_act 710 = .ok (.iconst 1, 1) := by decide +kernel
theorem dL_act_711 : decode cL_act 711 = .ok (.iastore, 1) := by decide +kernel
theorem dL_act_712 : decode cL_act 712 = .ok (.aload 4, 2) := by decide +kernel
theorem dL_act_714 : decode cL_act 714 = .ok (.iconst 4, 1) := by decide +kernel
theorem dL_act_715 : decode cL_act 715 = .ok (.iload 8, 2) := by decide +kernel
theorem dL_act_717 : decode cL_act 717 = .ok (.imul, 1) := by decide +kernel
theorem dL_act_718 : decode cL_act 718 = .ok (.iload 9, 2) := by decide +kernel
theorem dL_act_720 : decode cL_act 720 = .ok (.bipush 10, 2) := by decide +kernel
theorem dL_act_722 : decode cL_act 722 = .ok (.idiv, 1) := by decide +kernel
theorem dL_act_723 : decode cL_act 723 = .ok (.bipush 10, 2) := by decide +kernel
theorem dL_act_725 : decode cL_act 725 = .ok (.irem, 1) := by decide +kernel
theorem dL_act_726 : decode cL_act 726 = .ok (.iadd, 1) := by decide +kernel
theorem dL_act_727 : decode cL_act 727 = .ok (.iconst 2, 1) := by decide +kernel
theorem dL_act_728 : decode cL_act 728 = .ok (.iastore, 1) := by decide +kernel
theorem dL_act_729 : decode cL_act 729 = .ok (.aload 4, 2) := by decide +kernel
theorem dL_act_731 : decode cL_act 731 = .ok (.iconst 4, 1) := by decide +kernel
theorem dL_act_732 : decode cL_act 732 = .ok (.iload 8, 2) := by decide +kernel
theorem dL_act_734 : decode cL_act 734 = .ok (.imul, 1) := by decide +kernel
theorem dL_act_735 : decode cL_act 735 = .ok (.iload 9, 2) := by decide +kernel
theorem dL_act_737 : decode cL_act 737 = .ok (.bipush 10, 2) := by decide +kernel
theorem dL_act_739 : decode cL_act 739 = .ok (.irem, 1) := by decide +kernel
theorem dL_act_740 : decode cL_act 740 = .ok (.iadd, 1) := by decide +kernel
theorem dL_act_741 : decode cL_act 741 = .ok (.iconst 3, 1) := by decide +kernel
theorem dL_act_742 : decode cL_act 742 = .ok (.iastore, 1) := by decide +kernel
theorem dL_act_743 : decode cL_act 743 = .ok (.aload_n 0, 1) := by decide +kernel
theorem dL_act_744 : decode cL_act 744 = .ok (.iload 8, 2) := by decide +kernel
theorem dL_act_746 : decode cL_act 746 = .ok (.invokestatic 94, 3) := by decide +kernel
theorem dL_act_749 : decode cL_act 749 = .ok (.aload_n 3, 1) := by decide +kernel
theorem dL_act_750 : decode cL_act 750 = .ok (.aload 4, 2) := by decide +kernel
theorem dL_act_752 : decode cL_act 752 = .ok (.iload 7, 2) := by decide +kernel
theorem dL_act_754 : decode cL_act 754 = .ok (.invokestatic 61, 3) := by decide +kernel
theorem dL_act_757 : decode cL_act 757 = .ok (.if_icmp .ne 17, 3) := by decide +kernel
theorem dL_act_760 : decode cL_act 760 = .ok (.aload_n 0, 1) := by decide +kernel
theorem dL_act_761 : decode cL_act 761 = .ok (.iconst 4, 1) := by decide +kernel
theorem dL_act_762 : decode cL_act 762 = .ok (.invokestatic 94, 3) := by decide +kernel
theorem dL_act_765 : decode cL_act 765 = .ok (.bipush (-31), 2) := by decide +kernel
theorem dL_act_767 : decode cL_act 767 = .ok (.if_icmp .ne 7, 3) := by decide +kernel
theorem dL_act_770 : decode cL_act 770 = .ok (.iconst 1, 1) := by decide +kernel
theorem dL_act_771 : decode cL_act 771 = .ok (.goto 4, 3) := by decide +kernel
theorem dL_act_774 : decode cL_act 774 = .ok (.iconst 0, 1) := by decide +kernel
theorem dL_act_775 : decode cL_act 775 = .ok (.ireturn, 1) := by decide +kernel
theorem dL_act_776 : decode cL_act 776 = .ok (.iload 6, 2) := by decide +kernel
theorem dL_act_778 : decode cL_act 778 = .ok (.bipush 13, 2) := by decide +kernel
theorem dL_act_780 : decode cL_act 780 = .ok (.if_icmp .ge 70, 3) := by decide +kernel
theorem dL_act_783 : decode cL_act 783 = .ok (.iconst 4, 1) := by decide +kernel
theorem dL_act_784 : decode cL_act 784 = .ok (.iload_n 2, 1) := by decide +kernel
theorem dL_act_785 : decode cL_act 785 = .ok (.bipush 8, 2) := by decide +kernel
theorem dL_act_787 : decode cL_act 787 = .ok (.invokestatic 65, 3) := by decide +kernel
theorem dL_act_790 : decode cL_act 790 = .ok (.iadd, 1) := by decide +kernel
theorem dL_act_791 : decode cL_act 791 = .ok (.istore 8, 2) := by decide +kernel
theorem dL_act_793 : decode cL_act 793 = .ok (.aload_n 3, 1) := by decide +kernel
theorem dL_act_794 : decode cL_act 794 = .ok (.iload 7, 2) := by decide +kernel
theorem dL_act_796 : decode cL_act 796 = .ok (.iload 8, 2) := by decide +kernel
theorem dL_act_798 : decode cL_act 798 = .ok (.invokestatic 56, 3) := by decide +kernel
theorem dL_act_801 : decode cL_act 801 = .ok (.istore 9, 2) := by decide +kernel
theorem dL_act_803 : decode cL_act 803 = .ok (.aload 5, 2) := by decide +kernel
theorem dL_act_805 : decode cL_act 805 = .ok (.iconst 1, 1) := by decide +kernel
theorem dL_act_806 : decode cL_act 806 = .ok (.dup2, 1) := by decide +kernel
theorem dL_act_807 : decode cL_act 807 = .ok (.iaload, 1) := by decide +kernel
theorem dL_act_808 : decode cL_act 808 = .ok (.iload 9, 2) := by decide +kernel
theorem dL_act_810 : decode cL_act 810 = .ok (.iadd, 1) := by decide +kernel
theorem dL_act_811 : decode cL_act 811 = .ok (.iastore, 1) := by decide +kernel
theorem dL_act_812 : decode cL_act 812 = .ok (.aload_n 0, 1) := by decide +kernel
theorem dL_act_813 : decode cL_act 813 = .ok (.iload 8, 2) := by decide +kernel
theorem dL_act_815 : decode cL_act 815 = .ok (.invokestatic 96, 3) := by decide +kernel
theorem dL_act_818 : decode cL_act 818 = .ok (.iload 9, 2) := by decide +kernel
theorem dL_act_820 : decode cL_act 820 = .ok (.if_icmp .ne 28, 3) := by decide +kernel
theorem dL_act_823 : decode cL_act 823 = .ok (.aload_n 0, 1) := by decide +kernel
theorem dL_act_824 : decode cL_act 824 = .ok (.iconst 3, 1) := by decide +kernel
theorem dL_act_825 : decode cL_act 825 = .ok (.invokestatic 96, 3) := by decide +kernel
theorem dL_act_828 : decode cL_act 828 = .ok (.bipush (-31), 2) := by decide +kernel
theorem dL_act_830 : decode cL_act 830 = .ok (.if_icmp .ne 18, 3) := by decide +kernel
theorem dL_act_833 : decode cL_act 833 = .ok (.aload_n 0, 1) := by decide +kernel
theorem dL_act_834 : decode cL_act 834 = .ok (.bipush 12, 2) := by decide +kernel
theorem dL_act_836 : decode cL_act 836 = .ok (.invokestatic 96, 3) := by decide +kernel
theorem dL_act_839 : decode cL_act 839 = .ok (.bipush (-31), 2) := by decide +kernel
theorem dL_act_841 : decode cL_act 841 = .ok (.if_icmp .ne 7, 3) := by decide +kernel
theorem dL_act_844 : decode cL_act 844 = .ok (.iconst 1, 1) := by decide +kernel
theorem dL_act_845 : decode cL_act 845 = .ok (.goto 4, 3) := by decide +kernel
theorem dL_act_848 : decode cL_act 848 = .ok (.iconst 0, 1) := by decide +kernel
theorem dL_act_849 : decode cL_act 849 = .ok (.ireturn, 1) := by decide +kernel
theorem dL_act_850 : decode cL_act 850 = .ok (.aload_n 3, 1) := by decide +kernel
theorem dL_act_851 : decode cL_act 851 = .ok (.iload 7, 2) := by decide +kernel
theorem dL_act_853 : decode cL_act 853 = .ok (.invokestatic 98, 3) := by decide +kernel
theorem dL_act_856 : decode cL_act 856 = .ok (.istore 8, 2) := by decide +kernel
theorem dL_act_858 : decode cL_act 858 = .ok (.aload 5, 2) := by decide +kernel
theorem dL_act_860 : decode cL_act 860 = .ok (.iconst 1, 1) := by decide +kernel
theorem dL_act_861 : decode cL_act 861 = .ok (.dup2, 1) := by decide +kernel
theorem dL_act_862 : decode cL_act 862 = .ok (.iaload, 1) := by decide +kernel
theorem dL_act_863 : decode cL_act 863 = .ok (.iload 8, 2) := by decide +kernel
theorem dL_act_865 : decode cL_act 865 = .ok (.iadd, 1) := by decide +kernel
theorem dL_act_866 : decode cL_act 866 = .ok (.iastore, 1) := by decide +kernel
theorem dL_act_867 : decode cL_act 867 = .ok (.aload_n 0, 1) := by decide +kernel
theorem dL_act_868 : decode cL_act 868 = .ok (.invokevirtual 102, 3) := by decide +kernel
theorem dL_act_871 : decode cL_act 871 = .ok (.iload 8, 2) := by decide +kernel
theorem dL_act_873 : decode cL_act 873 = .ok (.if_icmp .ne 31, 3) := by decide +kernel
theorem dL_act_876 : decode cL_act 876 = .ok (.aload_n 0, 1) := by decide +kernel
theorem dL_act_877 : decode cL_act 877 = .ok (.invokevirtual 105, 3) := by decide +kernel
theorem dL_act_880 : decode cL_act 880 = .ok (.iload 8, 2) := by decide +kernel
theorem dL_act_882 : decode cL_act 882 = .ok (.if_icmp .ne 22, 3) := by decide +kernel
theorem dL_act_885 : decode cL_act 885 = .ok (.aload_n 0, 1) := by decide +kernel
theorem dL_act_886 : decode cL_act 886 = .ok (.invokevirtual 102, 3) := by decide +kernel
theorem dL_act_889 : decode cL_act 889 = .ok (.ifCond .ne 15, 3) := by decide +kernel
theorem dL_act_892 : decode cL_act 892 = .ok (.aload_n 0, 1) := by decide +kernel
theorem dL_act_893 : decode cL_act 893 = .ok (.iconst 5, 1) := by decide +kernel
theorem dL_act_894 : decode cL_act 894 = .ok (.invokevirtual 108, 3) := by decide +kernel
theorem dL_act_897 : decode cL_act 897 = .ok (.ifCond .ne 7, 3) := by decide +kernel
theorem dL_act_900 : decode cL_act 900 = .ok (.iconst 1, 1) := by decide +kernel
theorem dL_act_901 : decode cL_act 901 = .ok (.goto 4, 3) := by decide +kernel
theorem dL_act_904 : decode cL_act 904 = .ok (.iconst 0, 1) := by decide +kernel
theorem dL_act_905 : decode cL_act 905 = .ok (.ireturn, 1) := by decide +kernel
theorem dL_arePosts_0 : decode cL_arePosts 0 = .ok (.iconst 0, 1) := by decide +kernel
theorem dL_arePosts_1 : decode cL_arePosts 1 = .ok (.istore 4, 2) := by decide +kernel
theorem dL_arePosts_3 : decode cL_arePosts 3 = .ok (.iload 4, 2) := by decide +kernel
theorem dL_arePosts_5 : decode cL_arePosts 5 = .ok (.bipush 16, 2) := by decide +kernel
theorem dL_arePosts_7 : decode cL_arePosts 7 = .ok (.if_icmp .ge 307, 3) := by decide +kernel
theorem dL_arePosts_10 : decode cL_arePosts 10 = .ok (.aload_n 1, 1) := by decide +kernel
theorem dL_arePosts_11 : decode cL_arePosts 11 = .ok (.iload_n 3, 1) := by decide +kernel
theorem dL_arePosts_12 : decode cL_arePosts 12 = .ok (.iload 4, 2) := by decide +kernel
theorem dL_arePosts_14 : decode cL_arePosts 14 = .ok (.iconst 1, 1) := by decide +kernel
theorem dL_arePosts_15 : decode cL_arePosts 15 = .ok (.invokestatic 52, 3) := by decide +kernel
theorem dL_arePosts_18 : decode cL_arePosts 18 = .ok (.istore 5, 2) := by decide +kernel
theorem dL_arePosts_20 : decode cL_arePosts 20 = .ok (.aload_n 1, 1) := by decide +kernel
theorem dL_arePosts_21 : decode cL_arePosts 21 = .ok (.iload_n 3, 1) := by decide +kernel
theorem dL_arePosts_22 : decode cL_arePosts 22 = .ok (.iload 4, 2) := by decide +kernel
theorem dL_arePosts_24 : decode cL_arePosts 24 = .ok (.iconst 0, 1) := by decide +kernel
theorem dL_arePosts_25 : decode cL_arePosts 25 = .ok (.invokestatic 52, 3) := by decide +kernel
theorem dL_arePosts_28 : decode cL_arePosts 28 = .ok (.istore 6, 2) := by decide +kernel
theorem dL_arePosts_30 : decode cL_arePosts 30 = .ok (.iconst 0, 1) := by decide +kernel
theorem dL_arePosts_31 : decode cL_arePosts 31 = .ok (.istore 7, 2) := by decide +kernel
theorem dL_arePosts_33 : decode cL_arePosts 33 = .ok (.iconst 0, 1) := by decide +kernel
theorem dL_arePosts_34 : decode cL_arePosts 34 = .ok (.istore 8, 2) := by decide +kernel
theorem dL_arePosts_36 : decode cL_arePosts 36 = .ok (.iconst 0, 1) := by decide +kernel
theorem dL_arePosts_37 : decode cL_arePosts 37 = .ok (.istore 9, 2) := by decide +kernel
theorem dL_arePosts_39 : decode cL_arePosts 39 = .ok (.iconst 0, 1) := by decide +kernel
theorem dL_arePosts_40 : decode cL_arePosts 40 = .ok (.istore 10, 2) := by decide +kernel
theorem dL_arePosts_42 : decode cL_arePosts 42 = .ok (.iload 10, 2) := by decide +kernel
theorem dL_arePosts_44 : decode cL_arePosts 44 = .ok (.iload_n 3, 1) := by decide +kernel
theorem dL_arePosts_45 : decode cL_arePosts 45 = .ok (.if_icmp .ge 114, 3) := by decide +kernel
theorem dL_arePosts_48 : decode cL_arePosts 48 = .ok (.iload 7, 2) := by decide +kernel
theorem dL_arePosts_50 : decode cL_arePosts 50 = .ok (.aload_n 1, 1) := by decide +kernel
theorem dL_arePosts_51 : decode cL_arePosts 51 = .ok (.iload 10, 2) := by decide +kernel
theorem dL_arePosts_53 : decode cL_arePosts 53 = .ok (.invokestatic 42, 3) := by decide +kernel
theorem dL_arePosts_56 : decode cL_arePosts 56 = .ok (.ifCond .eq 20, 3) := by decide +kernel
theorem dL_arePosts_59 : decode cL_arePosts 59 = .ok (.aload_n 1, 1) := by decide +kernel
theorem dL_arePosts_60 : decode cL_arePosts 60 = .ok (.iconst 3, 1) := by decide +kernel
theorem dL_arePosts_61 : decode cL_arePosts 61 = .ok (.iload 10, 2) := by decide +kernel
theorem dL_arePosts_63 : decode cL_arePosts 63 = .ok (.imul, 1) := by decide +kernel
theorem dL_arePosts_64 : decode cL_arePosts 64 = .ok (.iconst 1, 1) := by decide +kernel
theorem dL_arePosts_65 : decode cL_arePosts 65 = .ok (.iadd, 1) := by decide +kernel
theorem dL_arePosts_66 : decode cL_arePosts 66 = .ok (.iaload, 1) := by decide +kernel
theorem dL_arePosts_67 : decode cL_arePosts 67 = .ok (.iload 4, 2) := by decide +kernel
theorem dL_arePosts_69 : decode cL_arePosts 69 = .ok (.if_icmp .ne 7, 3) := by decide +kernel
theorem dL_arePosts_72 : decode cL_arePosts 72 = .ok (.iconst 1, 1) := by decide +kernel
theorem dL_arePosts_73 : decode cL_arePosts 73 = .ok (.goto 4, 3) := by decide +kernel
theorem dL_arePosts_76 : decode cL_arePosts 76 = .ok (.iconst 0, 1) := by decide +kernel
theorem dL_arePosts_77 : decode cL_arePosts 77 = .ok (.iadd, 1) := by decide +kernel
theorem dL_arePosts_78 : decode cL_arePosts 78 = .ok (.istore 7, 2) := by decide +kernel
theorem dL_arePosts_80 : decode cL_arePosts 80 = .ok (.iload 8, 2) := by decide +kernel
theorem dL_arePosts_82 : decode cL_arePosts 82 = .ok (.aload_n 1, 1) := by decide +kernel
theorem dL_arePosts_83 : decode cL_arePosts 83 = .ok (.iload 10, 2) := by decide +kernel
theorem dL_arePosts_85 : decode cL_arePosts 85 = .ok (.invokestatic 42, 3) := by decide +kernel
theorem dL_arePosts_88 : decode cL_arePosts 88 = .ok (.ifCond .eq 18, 3) := by decide +kernel
theorem dL_arePosts_91 : decode cL_arePosts 91 = .ok (.aload_n 1, 1) := by decide +kernel
theorem dL_arePosts_92 : decode cL_arePosts 92 = .ok (.iconst 3, 1) := by decide +kernel
theorem dL_arePosts_93 : decode cL_arePosts 93 = .ok (.iload 10, 2) := by decide +kernel
theorem dL_arePosts_95 : decode cL_arePosts 95 = .ok (.imul, 1) := by decide +kernel
theorem dL_arePosts_96 : decode cL_arePosts 96 = .ok (.iaload, 1) := by decide +kernel
theorem dL_arePosts_97 : decode cL_arePosts 97 = .ok (.iload 4, 2) := by decide +kernel
theorem dL_arePosts_99 : decode cL_arePosts 99 = .ok (.if_icmp .ne 7, 3) := by decide +kernel
theorem dL_arePosts_102 : decode cL_arePosts 102 = .ok (.iconst 1, 1) := by decide +kernel
theorem dL_arePosts_103 : decode cL_arePosts 103 = .ok (.goto 4, 3) := by decide +kernel
theorem dL_arePosts_106 : decode cL_arePosts 106 = .ok (.iconst 0, 1) := by decide +kernel
theorem dL_arePosts_107 : decode cL_arePosts 107 = .ok (.iadd, 1) := by decide +kernel
theorem dL_arePosts_108 : decode cL_arePosts 108 = .ok (.istore 8, 2) := by decide +kernel
theorem dL_arePosts_110 : decode cL_arePosts 110 = .ok (.iload 9, 2) := by decide +kernel
theorem dL_arePosts_112 : decode cL_arePosts 112 = .ok (.aload_n 1, 1) := by decide +kernel
theorem dL_arePosts_113 : decode cL_arePosts 113 = .ok (.iload 10, 2) := by decide +kernel
theorem dL_arePosts_115 : decode cL_arePosts 115 = .ok (.invokestatic 42, 3) := by decide +kernel
theorem dL_arePosts_118 : decode cL_arePosts 118 = .ok (.ifCond .ne 31, 3) := by decide +kernel
theorem dL_arePosts_121 : decode cL_arePosts 121 = .ok (.aload_n 1, 1) := by decide +kernel
theorem dL_arePosts_122 : decode cL_arePosts 122 = .ok (.iconst 3, 1) := by decide +kernel
theorem dL_arePosts_123 : decode cL_arePosts 123 = .ok (.iload 10, 2) := by decide +kernel
theorem dL_arePosts_125 : decode cL_arePosts 125 = .ok (.imul, 1) := by decide +kernel
theorem dL_arePosts_126 : decode cL_arePosts 126 = .ok (.iaload, 1) := by decide +kernel
theorem dL_arePosts_127 : decode cL_arePosts 127 = .ok (.iload 4, 2) := by decide +kernel
theorem dL_arePosts_129 : decode cL_arePosts 129 = .ok (.if_icmp .eq 16, 3) := by decide +kernel
theorem dL_arePosts_132 : decode cL_arePosts 132 = .ok (.aload_n 1, 1) := by decide +kernel
theorem dL_arePosts_133 : decode cL_arePosts 133 = .ok (.iconst 3, 1) := by decide +kernel
theorem dL_arePosts_134 : decode cL_arePosts 134 = .ok (.iload 10, 2) := by decide +kernel
theorem dL_arePosts_136 : decode cL_arePosts 136 = .ok (.imul, 1) := by decide +kernel
theorem dL_arePosts_137 : decode cL_arePosts 137 = .ok (.iconst 1, 1) := by decide +kernel
theorem dL_arePosts_138 : decode cL_arePosts 138 = .ok (.iadd, 1) := by decide +kernel
theorem dL_arePosts_139 : decode cL_arePosts 139 = .ok (.iaload, 1) := by decide +kernel
theorem dL_arePosts_140 : decode cL_arePosts 140 = .ok (.iload 4, 2) := by decide +kernel
theorem dL_arePosts_142 : decode cL_arePosts 142 = .ok (.if_icmp .ne 7, 3) := by decide +kernel
theorem dL_arePosts_145 : decode cL_arePosts 145 = .ok (.iconst 1, 1) := by decide +kernel
theorem dL_arePosts_146 : decode cL_arePosts 146 = .ok (.goto 4, 3) := by decide +kernel
theorem dL_arePosts_149 : decode cL_arePosts 149 = .ok (.iconst 0, 1) := by decide +kernel
theorem dL_arePosts_150 : decode cL_arePosts 150 = .ok (.iadd, 1) := by decide +kernel
theorem dL_arePosts_151 : decode cL_arePosts 151 = .ok (.istore 9, 2) := by decide +kernel
theorem dL_arePosts_153 : decode cL_arePosts 153 = .ok (.iinc 10 1, 3) := by decide +kernel
theorem dL_arePosts_156 : decode cL_arePosts 156 = .ok (.goto (-114), 3) := by decide +kernel
theorem dL_arePosts_159 : decode cL_arePosts 159 = .ok (.iload 4, 2) := by decide +kernel
theorem dL_arePosts_161 : decode cL_arePosts 161 = .ok (.iconst 4, 1) := by decide +kernel
theorem dL_arePosts_162 : decode cL_arePosts 162 = .ok (.if_icmp .lt 17, 3) := by decide +kernel
theorem dL_arePosts_165 : decode cL_arePosts 165 = .ok (.iload 4, 2) := by decide +kernel
theorem dL_arePosts_167 : decode cL_arePosts 167 = .ok (.bipush 11, 2) := by decide +kernel
theorem dL_arePosts_169 : decode cL_arePosts 169 = .ok (.if_icmp .gt 10, 3) := by decide +kernel
theorem dL_arePosts_172 : decode cL_arePosts 172 = .ok (.iload 5, 2) := by decide +kernel
theorem dL_arePosts_174 : decode cL_arePosts 174 = .ok (.iload 6, 2) := by decide +kernel
theorem dL_arePosts_176 : decode cL_arePosts 176 = .ok (.if_icmp .ne 7, 3) := by decide +kernel
theorem dL_arePosts_179 : decode cL_arePosts 179 = .ok (.iconst 1, 1) := by decide +kernel
theorem dL_arePosts_180 : decode cL_arePosts 180 = .ok (.goto 4, 3) := by decide +kernel
theorem dL_arePosts_183 : decode cL_arePosts 183 = .ok (.iconst 0, 1) := by decide +kernel
theorem dL_arePosts_184 : decode cL_arePosts 184 = .ok (.istore 10, 2) := by decide +kernel
theorem dL_arePosts_186 : decode cL_arePosts 186 = .ok (.aload_n 0, 1) := by decide +kernel
theorem dL_arePosts_187 : decode cL_arePosts 187 = .ok (.iload 4, 2) := by decide +kernel
theorem dL_arePosts_189 : decode cL_arePosts 189 = .ok (.iconst 0, 1) := by decide +kernel
theorem dL_arePosts_190 : decode cL_arePosts 190 = .ok (.invokevirtual 111, 3) := by decide +kernel
theorem dL_arePosts_193 : decode cL_arePosts 193 = .ok (.aload_n 2, 1) := by decide +kernel
theorem dL_arePosts_194 : decode cL_arePosts 194 = .ok (.iload 4, 2) := by decide +kernel
theorem dL_arePosts_196 : decode cL_arePosts 196 = .ok (.iaload, 1) := by decide +kernel
theorem dL_arePosts_197 : decode cL_arePosts 197 = .ok (.if_icmp .ne 109, 3) := by decide +kernel
theorem dL_arePosts_200 : decode cL_arePosts 200 = .ok (.aload_n 0, 1) := by decide +kernel
theorem dL_arePosts_201 : decode cL_arePosts 201 = .ok (.iload 4, 2) := by decide +kernel
theorem dL_arePosts_203 : decode cL_arePosts 203 = .ok (.iconst 1, 1) := by decide +kernel
theorem dL_arePosts_204 : decode cL_arePosts 204 = .ok (.invokevirtual 111, 3) := by decide +kernel
theorem dL_arePosts_207 : decode cL_arePosts 207 = .ok (.iload 5, 2) := by decide +kernel
theorem dL_arePosts_209 : decode cL_arePosts 209 = .ok (.if_icmp .ne 97, 3) := by decide +kernel
theorem dL_arePosts_212 : decode cL_arePosts 212 = .ok (.aload_n 0, 1) := by decide +kernel
theorem dL_arePosts_213 : decode cL_arePosts 213 = .ok (.iload 4, 2) := by decide +kernel
theorem dL_arePosts_215 : decode cL_arePosts 215 = .ok (.iconst 2, 1) := by decide +kernel
theorem dL_arePosts_216 : decode cL_arePosts 216 = .ok (.invokevirtual 111, 3) := by decide +kernel
theorem dL_arePosts_219 : decode cL_arePosts 219 = .ok (.iload 6, 2) := by decide +kernel
theorem dL_arePosts_221 : decode cL_arePosts 221 = .ok (.if_icmp .ne 85, 3) := by decide +kernel
theorem dL_arePosts_224 : decode cL_arePosts 224 = .ok (.aload_n 0, 1) := by decide +kernel
theorem dL_arePosts_225 : decode cL_arePosts 225 = .ok (.iload 4, 2) := by decide +kernel
theorem dL_arePosts_227 : decode cL_arePosts 227 = .ok (.iconst 3, 1) := by decide +kernel
theorem dL_arePosts_228 : decode cL_arePosts 228 = .ok (.invokevirtual 111, 3) := by decide +kernel
theorem dL_arePosts_231 : decode cL_arePosts 231 = .ok (.iload 7, 2) := by decide +kernel
theorem dL_arePosts_233 : decode cL_arePosts 233 = .ok (.if_icmp .ne 73, 3) := by decide +kernel
theorem dL_arePosts_236 : decode cL_arePosts 236 = .ok (.aload_n 0, 1) := by decide +kernel
theorem dL_arePosts_237 : decode cL_arePosts 237 = .ok (.iload 4, 2) := by decide +kernel
theorem dL_arePosts_239 : decode cL_arePosts 239 = .ok (.iconst 4, 1) := by decide +kernel
theorem dL_arePosts_240 : decode cL_arePosts 240 = .ok (.invokevirtual 111, 3) := by decide +kernel
theorem dL_arePosts_243 : decode cL_arePosts 243 = .ok (.iload 8, 2) := by decide +kernel
theorem dL_arePosts_245 : decode cL_arePosts 245 = .ok (.if_icmp .ne 61, 3) := by decide +kernel
theorem dL_arePosts_248 : decode cL_arePosts 248 = .ok (.aload_n 0, 1) := by decide +kernel
theorem dL_arePosts_249 : decode cL_arePosts 249 = .ok (.iload 4, 2) := by decide +kernel
theorem dL_arePosts_251 : decode cL_arePosts 251 = .ok (.iconst 5, 1) := by decide +kernel
theorem dL_arePosts_252 : decode cL_arePosts 252 = .ok (.invokevirtual 111, 3) := by decide +kernel
theorem dL_arePosts_255 : decode cL_arePosts 255 = .ok (.iload 9, 2) := by decide +kernel
theorem dL_arePosts_257 : decode cL_arePosts 257 = .ok (.if_icmp .ne 49, 3) := by decide +kernel
theorem dL_arePosts_260 : decode cL_arePosts 260 = .ok (.aload_n 0, 1) := by decide +kernel
theorem dL_arePosts_261 : decode cL_arePosts 261 = .ok (.iload 4, 2) := by decide +kernel
theorem dL_arePosts_263 : decode cL_arePosts 263 = .ok (.bipush 6, 2) := by decide +kernel
theorem dL_arePosts_265 : decode cL_arePosts 265 = .ok (.invokevirtual 111, 3) := by decide +kernel
theorem dL_arePosts_268 : decode cL_arePosts 268 = .ok (.iload 10, 2) := by decide +kernel
theorem dL_arePosts_270 : decode cL_arePosts 270 = .ok (.ifCond .eq 7, 3) := by decide +kernel
theorem dL_arePosts_273 : decode cL_arePosts 273 = .ok (.iconst 1, 1) := by decide +kernel
theorem dL_arePosts_274 : decode cL_arePosts 274 = .ok (.goto 4, 3) := by decide +kernel
theorem dL_arePosts_277 : decode cL_arePosts 277 = .ok (.iconst 0, 1) := by decide +kernel
theorem dL_arePosts_278 : decode cL_arePosts 278 = .ok (.if_icmp .ne 28, 3) := by decide +kernel
theorem dL_arePosts_281 : decode cL_arePosts 281 = .ok (.aload_n 0, 1) := by decide +kernel
theorem dL_arePosts_282 : decode cL_arePosts 282 = .ok (.iload 4, 2) := by decide +kernel
theorem dL_arePosts_284 : decode cL_arePosts 284 = .ok (.bipush 7, 2) := by decide +kernel
theorem dL_arePosts_286 : decode cL_arePosts 286 = .ok (.invokevirtual 111, 3) := by decide +kernel
theorem dL_arePosts_289 : decode cL_arePosts 289 = .ok (.iload 5, 2) := by decide +kernel
theorem dL_arePosts_291 : decode cL_arePosts 291 = .ok (.iload 6, 2) := by decide +kernel
theorem dL_arePosts_293 : decode cL_arePosts 293 = .ok (.if_icmp .le 8, 3) := by decide +kernel
theorem dL_arePosts_296 : decode cL_arePosts 296 = .ok (.iload 5, 2) := by decide +kernel
theorem dL_arePosts_298 : decode cL_arePosts 298 = .ok (.goto 5, 3) := by decide +kernel
theorem dL_arePosts_301 : decode cL_arePosts 301 = .ok (.iload 6, 2) := by decide +kernel
theorem dL_arePosts_303 : decode cL_arePosts 303 = .ok (.if_icmp .eq 5, 3) := by decide +kernel
theorem dL_arePosts_306 : decode cL_arePosts 306 = .ok (.iconst 0, 1) := by decide +kernel
theorem dL_arePosts_307 : decode cL_arePosts 307 = .ok (.ireturn, 1) := by decide +kernel
theorem dL_arePosts_308 : decode cL_arePosts 308 = .ok (.iinc 4 1, 3) := by decide +kernel
theorem dL_arePosts_311 : decode cL_arePosts 311 = .ok (.goto (-308), 3) := by decide +kernel
theorem dL_arePosts_314 : decode cL_arePosts 314 = .ok (.iconst 0, 1) := by decide +kernel
theorem dL_arePosts_315 : decode cL_arePosts 315 = .ok (.istore 4, 2) := by decide +kernel
theorem dL_arePosts_317 : decode cL_arePosts 317 = .ok (.iload 4, 2) := by decide +kernel
theorem dL_arePosts_319 : decode cL_arePosts 319 = .ok (.iconst 4, 1) := by decide +kernel
theorem dL_arePosts_320 : decode cL_arePosts 320 = .ok (.if_icmp .ge 69, 3) := by decide +kernel
theorem dL_arePosts_323 : decode cL_arePosts 323 = .ok (.aload_n 0, 1) := by decide +kernel
theorem dL_arePosts_324 : decode cL_arePosts 324 = .ok (.iload 4, 2) := by decide +kernel
theorem dL_arePosts_326 : decode cL_arePosts 326 = .ok (.invokevirtual 114, 3) := by decide +kernel
theorem dL_arePosts_329 : decode cL_arePosts 329 = .ok (.aload_n 0, 1) := by decide +kernel
theorem dL_arePosts_330 : decode cL_arePosts 330 = .ok (.iconst 4, 1) := by decide +kernel
theorem dL_arePosts_331 : decode cL_arePosts 331 = .ok (.iload 4, 2) := by decide +kernel
theorem dL_arePosts_333 : decode cL_arePosts 333 = .ok (.imul, 1) := by decide +kernel
theorem dL_arePosts_334 : decode cL_arePosts 334 = .ok (.bipush 7, 2) := by decide +kernel
theorem dL_arePosts_336 : decode cL_arePosts 336 = .ok (.invokevirtual 111, 3) := by decide +kernel
theorem dL_arePosts_339 : decode cL_arePosts 339 = .ok (.aload_n 0, 1) := by decide +kernel
theorem dL_arePosts_340 : decode cL_arePosts 340 = .ok (.iconst 4, 1) := by decide +kernel
theorem dL_arePosts_341 : decode cL_arePosts 341 = .ok (.iload 4, 2) := by decide +kernel
theorem dL_arePosts_343 : decode cL_arePosts 343 = .ok (.imul, 1) := by decide +kernel
theorem dL_arePosts_344 : decode cL_arePosts 344 = .ok (.iconst 1, 1) := by decide +kernel
theorem dL_arePosts_345 : decode cL_arePosts 345 = .ok (.iadd, 1) := by decide +kernel
theorem dL_arePosts_346 : decode cL_arePosts 346 = .ok (.bipush 7, 2) := by decide +kernel
theorem dL_arePosts_348 : decode cL_arePosts 348 = .ok (.invokevirtual 111, 3) := by decide +kernel
theorem dL_arePosts_351 : decode cL_arePosts 351 = .ok (.iadd, 1) := by decide +kernel
theorem dL_arePosts_352 : decode cL_arePosts 352 = .ok (.aload_n 0, 1) := by decide +kernel
theorem dL_arePosts_353 : decode cL_arePosts 353 = .ok (.iconst 4, 1) := by decide +kernel
theorem dL_arePosts_354 : decode cL_arePosts 354 = .ok (.iload 4, 2) := by decide +kernel
theorem dL_arePosts_356 : decode cL_arePosts 356 = .ok (.imul, 1) := by decide +kernel
theorem dL_arePosts_357 : decode cL_arePosts 357 = .ok (.iconst 2, 1) := by decide +kernel
theorem dL_arePosts_358 : decode cL_arePosts 358 = .ok (.iadd, 1) := by decide +kernel
theorem dL_arePosts_359 : decode cL_arePosts 359 = .ok (.bipush 7, 2) := by decide +kernel
theorem dL_arePosts_361 : decode cL_arePosts 361 = .ok (.invokevirtual 111, 3) := by decide +kernel
theorem dL_arePosts_364 : decode cL_arePosts 364 = .ok (.iadd, 1) := by decide +kernel
theorem dL_arePosts_365 : decode cL_arePosts 365 = .ok (.aload_n 0, 1) := by decide +kernel
theorem dL_arePosts_366 : decode cL_arePosts 366 = .ok (.iconst 4, 1) := by decide +kernel
theorem dL_arePosts_367 : decode cL_arePosts 367 = .ok (.iload 4, 2) := by decide +kernel
theorem dL_arePosts_369 : decode cL_arePosts 369 = .ok (.imul, 1) := by decide +kernel
theorem dL_arePosts_370 : decode cL_arePosts 370 = .ok (.iconst 3, 1) := by decide +kernel
theorem dL_arePosts_371 : decode cL_arePosts 371 = .ok (.iadd, 1) := by decide +kernel
theorem dL_arePosts_372 : decode cL_arePosts 372 = .ok (.bipush 7, 2) := by decide +kernel
theorem dL_arePosts_374 : decode cL_arePosts 374 = .ok (.invokevirtual 111, 3) := by decide +kernel
theorem dL_arePosts_377 : decode cL_arePosts 377 = .ok (.iadd, 1) := by decide +kernel
theorem dL_arePosts_378 : decode cL_arePosts 378 = .ok (.if_icmp .eq 5, 3) := by decide +kernel
theorem dL_arePosts_381 : decode cL_arePosts 381 = .ok (.iconst 0, 1) := by decide +kernel
theorem dL_arePosts_382 : decode cL_arePosts 382 = .ok (.ireturn, 1) := by decide +kernel
theorem dL_arePosts_383 : decode cL_arePosts 383 = .ok (.iinc 4 1, 3) := by decide +kernel
theorem dL_arePosts_386 : decode cL_arePosts 386 = .ok (.goto (-69), 3) := by decide +kernel
theorem dL_arePosts_389 : decode cL_arePosts 389 = .ok (.iconst 1, 1) := by decide +kernel
theorem dL_arePosts_390 : decode cL_arePosts 390 = .ok (.ireturn, 1) := by decide +kernel
theorem dL_isSo_0 : decode cL_isSo 0 = .ok (.aload_n 3, 1) := by decide +kernel
theorem dL_isSo_1 : decode cL_isSo 1 = .ok (.iconst 0, 1) := by decide +kernel
theorem dL_isSo_2 : decode cL_isSo 2 = .ok (.iaload, 1) := by decide +kernel
theorem dL_isSo_3 : decode cL_isSo 3 = .ok (.istore 4, 2) := by decide +kernel
theorem dL_isSo_5 : decode cL_isSo 5 = .ok (.iconst 0, 1) := by decide +kernel
theorem dL_isSo_6 : decode cL_isSo 6 = .ok (.istore 5, 2) := by decide +kernel
theorem dL_isSo_8 : decode cL_isSo 8 = .ok (.iconst 0, 1) := by decide +kernel
theorem dL_isSo_9 : decode cL_isSo 9 = .ok (.istore 6, 2) := by decide +kernel
theorem dL_isSo_11 : decode cL_isSo 11 = .ok (.iconst 0, 1) := by decide +kernel
theorem dL_isSo_12 : decode cL_isSo 12 = .ok (.istore 7, 2) := by decide +kernel
theorem dL_isSo_14 : decode cL_isSo 14 = .ok (.iconst 0, 1) := by decide +kernel
theorem dL_isSo_15 : decode cL_isSo 15 = .ok (.istore 8, 2) := by decide +kernel
theorem dL_isSo_17 : decode cL_isSo 17 = .ok (.iload 8, 2) := by decide +kernel
theorem dL_isSo_19 : decode cL_isSo 19 = .ok (.iload 4, 2) := by decide +kernel
theorem dL_isSo_21 : decode cL_isSo 21 = .ok (.if_icmp .ge 167, 3) := by decide +kernel
theorem dL_isSo_24 : decode cL_isSo 24 = .ok (.iconst 0, 1) := by decide +kernel
theorem dL_isSo_25 : decode cL_isSo 25 = .ok (.istore 9, 2) := by decide +kernel
theorem dL_isSo_27 : decode cL_isSo 27 = .ok (.iconst 0, 1) := by decide +kernel
theorem dL_isSo_28 : decode cL_isSo 28 = .ok (.istore 10, 2) := by decide +kernel
theorem dL_isSo_30 : decode cL_isSo 30 = .ok (.iload 10, 2) := by decide +kernel
theorem dL_isSo_32 : decode cL_isSo 32 = .ok (.iload 4, 2) := by decide +kernel
theorem dL_isSo_34 : decode cL_isSo 34 = .ok (.if_icmp .ge 38, 3) := by decide +kernel
theorem dL_isSo_37 : decode cL_isSo 37 = .ok (.iload 9, 2) := by decide +kernel
theorem dL_isSo_39 : decode cL_isSo 39 = .ok (.iload 10, 2) := by decide +kernel
theorem dL_isSo_41 : decode cL_isSo 41 = .ok (.iload 8, 2) := by decide +kernel
theorem dL_isSo_43 : decode cL_isSo 43 = .ok (.if_icmp .eq 19, 3) := by decide +kernel
theorem dL_isSo_46 : decode cL_isSo 46 = .ok (.aload_n 1, 1) := by decide +kernel
theorem dL_isSo_47 : decode cL_isSo 47 = .ok (.aload_n 2, 1) := by decide +kernel
theorem dL_isSo_48 : decode cL_isSo 48 = .ok (.iload 10, 2) := by decide +kernel
theorem dL_isSo_50 : decode cL_isSo 50 = .ok (.iload 8, 2) := by decide +kernel
theorem dL_isSo_52 : decode cL_isSo 52 = .ok (.invokestatic 48, 3) := by decide +kernel
theorem dL_isSo_55 : decode cL_isSo 55 = .ok (.ifCond .eq 7, 3) := by decide +kernel
theorem dL_isSo_58 : decode cL_isSo 58 = .ok (.iconst 1, 1) := by decide +kernel
theorem dL_isSo_59 : decode cL_isSo 59 = .ok (.goto 4, 3) := by decide +kernel
theorem dL_isSo_62 : decode cL_isSo 62 = .ok (.iconst 0, 1) := by decide +kernel
theorem dL_isSo_63 : decode cL_isSo 63 = .ok (.iadd, 1) := by decide +kernel
theorem dL_isSo_64 : decode cL_isSo 64 = .ok (.istore 9, 2) := by decide +kernel
theorem dL_isSo_66 : decode cL_isSo 66 = .ok (.iinc 10 1, 3) := by decide +kernel
theorem dL_isSo_69 : decode cL_isSo 69 = .ok (.goto (-39), 3) := by decide +kernel
theorem dL_isSo_72 : decode cL_isSo 72 = .ok (.aload_n 0, 1) := by decide +kernel
theorem dL_isSo_73 : decode cL_isSo 73 = .ok (.iload 8, 2) := by decide +kernel
theorem dL_isSo_75 : decode cL_isSo 75 = .ok (.iconst 0, 1) := by decide +kernel
theorem dL_isSo_76 : decode cL_isSo 76 = .ok (.invokevirtual 117, 3) := by decide +kernel
theorem dL_isSo_79 : decode cL_isSo 79 = .ok (.aload_n 1, 1) := by decide +kernel
theorem dL_isSo_80 : decode cL_isSo 80 = .ok (.iconst 3, 1) := by decide +kernel
theorem dL_isSo_81 : decode cL_isSo 81 = .ok (.iload 8, 2) := by decide +kernel
theorem dL_isSo_83 : decode cL_isSo 83 = .ok (.imul, 1) := by decide +kernel
theorem dL_isSo_84 : decode cL_isSo 84 = .ok (.iaload, 1) := by decide +kernel
theorem dL_isSo_85 : decode cL_isSo 85 = .ok (.if_icmp .ne 75, 3) := by decide +kernel
theorem dL_isSo_88 : decode cL_isSo 88 = .ok (.aload_n 0, 1) := by decide +kernel
theorem dL_isSo_89 : decode cL_isSo 89 = .ok (.iload 8, 2) := by decide +kernel
theorem dL_isSo_91 : decode cL_isSo 91 = .ok (.iconst 1, 1) := by decide +kernel
theorem dL_isSo_92 : decode cL_isSo 92 = .ok (.invokevirtual 117, 3) := by decide +kernel
theorem dL_isSo_95 : decode cL_isSo 95 = .ok (.aload_n 1, 1) := by decide +kernel
theorem dL_isSo_96 : decode cL_isSo 96 = .ok (.iconst 3, 1) := by decide +kernel
theorem dL_isSo_97 : decode cL_isSo 97 = .ok (.iload 8, 2) := by decide +kernel
theorem dL_isSo_99 : decode cL_isSo 99 = .ok (.imul, 1) := by decide +kernel
theorem dL_isSo_100 : decode cL_isSo 100 = .ok (.iconst 1, 1) := by decide +kernel
theorem dL_isSo_101 : decode cL_isSo 101 = .ok (.iadd, 1) := by decide +kernel
theorem dL_isSo_102 : decode cL_isSo 102 = .ok (.iaload, 1) := by decide +kernel
theorem dL_isSo_103 : decode cL_isSo 103 = .ok (.if_icmp .ne 57, 3) := by decide +kernel
theorem dL_isSo_106 : decode cL_isSo 106 = .ok (.aload_n 0, 1) := by decide +kernel
theorem dL_isSo_107 : decode cL_isSo 107 = .ok (.iload 8, 2) := by decide +kernel
theorem dL_isSo_109 : decode cL_isSo 109 = .ok (.iconst 2, 1) := by decide +kernel
theorem dL_isSo_110 : decode cL_isSo 110 = .ok (.invokevirtual 117, 3) := by decide +kernel
theorem dL_isSo_113 : decode cL_isSo 113 = .ok (.aload_n 1, 1) := by decide +kernel
theorem dL_isSo_114 : decode cL_isSo 114 = .ok (.iconst 3, 1) := by decide +kernel
theorem dL_isSo_115 : decode cL_isSo 115 = .ok (.iload 8, 2) := by decide +kernel
theorem dL_isSo_117 : decode cL_isSo 117 = .ok (.imul, 1) := by decide +kernel
theorem dL_isSo_118 : decode cL_isSo 118 = .ok (.iconst 2, 1) := by decide +kernel
theorem dL_isSo_119 : decode cL_isSo 119 = .ok (.iadd, 1) := by decide +kernel
theorem dL_isSo_120 : decode cL_isSo 120 = .ok (.iaload, 1) := by decide +kernel
theorem dL_isSo_121 : decode cL_isSo 121 = .ok (.if_icmp .ne 39, 3) := by decide +kernel
theorem dL_isSo_124 : decode cL_isSo 124 = .ok (.aload_n 0, 1) := by decide +kernel
theorem dL_isSo_125 : decode cL_isSo 125 = .ok (.iload 8, 2) := by decide +kernel
theorem dL_isSo_127 : decode cL_isSo 127 = .ok (.iconst 3, 1) := by decide +kernel
theorem dL_isSo_128 : decode cL_isSo 128 = .ok (.invokevirtual 117, 3) := by decide +kernel
theorem dL_isSo_131 : decode cL_isSo 131 = .ok (.aload_n 1, 1) := by decide +kernel
theorem dL_isSo_132 : decode cL_isSo 132 = .ok (.iload 8, 2) := by decide +kernel
theorem dL_isSo_134 : decode cL_isSo 134 = .ok (.invokestatic 42, 3) := by decide +kernel
theorem dL_isSo_137 : decode cL_isSo 137 = .ok (.ifCond .eq 7, 3) := by decide +kernel
theorem dL_isSo_140 : decode cL_isSo 140 = .ok (.iconst 1, 1) := by decide +kernel
theorem dL_isSo_141 : decode cL_isSo 141 = .ok (.goto 4, 3) := by decide +kernel
theorem dL_isSo_144 : decode cL_isSo 144 = .ok (.iconst 0, 1) := by decide +kernel
theorem dL_isSo_145 : decode cL_isSo 145 = .ok (.if_icmp .ne 15, 3) := by decide +kernel
theorem dL_isSo_148 : decode cL_isSo 148 = .ok (.aload_n 0, 1) := by decide +kernel
theorem dL_isSo_149 : decode cL_isSo 149 = .ok (.iload 8, 2) := by decide +kernel
theorem dL_isSo_151 : decode cL_isSo 151 = .ok (.iconst 4, 1) := by decide +kernel
theorem dL_isSo_152 : decode cL_isSo 152 = .ok (.invokevirtual 117, 3) := by decide +kernel
theorem dL_isSo_155 : decode cL_isSo 155 = .ok (.iload 9, 2) := by decide +kernel
theorem dL_isSo_157 : decode cL_isSo 157 = .ok (.if_icmp .eq 5, 3) := by decide +kernel
theorem dL_isSo_160 : decode cL_isSo 160 = .ok (.iconst 0, 1) := by decide +kernel
theorem dL_isSo_161 : decode cL_isSo 161 = .ok (.ireturn, 1) := by decide +kernel
theorem dL_isSo_162 : decode cL_isSo 162 = .ok (.iload 5, 2) := by decide +kernel
theorem dL_isSo_164 : decode cL_isSo 164 = .ok (.aload_n 1, 1) := by decide +kernel
theorem dL_isSo_165 : decode cL_isSo 165 = .ok (.iconst 3, 1) := by decide +kernel
theorem dL_isSo_166 : decode cL_isSo 166 = .ok (.iload 8, 2) := by decide +kernel
theorem dL_isSo_168 : decode cL_isSo 168 = .ok (.imul, 1) := by decide +kernel
theorem dL_isSo_169 : decode cL_isSo 169 = .ok (.iconst 2, 1) := by decide +kernel
theorem dL_isSo_170 : decode cL_isSo 170 = .ok (.iadd, 1) := by decide +kernel
theorem dL_isSo_171 : decode cL_isSo 171 = .ok (.iaload, 1) := by decide +kernel
theorem dL_isSo_172 : decode cL_isSo 172 = .ok (.iadd, 1) := by decide +kernel
theorem dL_isSo_173 : decode cL_isSo 173 = .ok (.istore 5, 2) := by decide +kernel
theorem dL_isSo_175 : decode cL_isSo 175 = .ok (.iload 6, 2) := by decide +kernel
theorem dL_isSo_177 : decode cL_isSo 177 = .ok (.iload 9, 2) := by decide +kernel
theorem dL_isSo_179 : decode cL_isSo 179 = .ok (.iadd, 1) := by decide +kernel
theorem dL_isSo_180 : decode cL_isSo 180 = .ok (.istore 6, 2) := by decide +kernel
theorem dL_isSo_182 : decode cL_isSo 182 = .ok (.iinc 8 1, 3) := by decide +kernel
theorem dL_isSo_185 : decode cL_isSo 185 = .ok (.goto (-168), 3) := by decide +kernel
theorem dL_isSo_188 : decode cL_isSo 188 = .ok (.iconst 4, 1) := by decide +kernel
theorem dL_isSo_189 : decode cL_isSo 189 = .ok (.istore 8, 2) := by decide +kernel
theorem dL_isSo_191 : decode cL_isSo 191 = .ok (.iload 8, 2) := by decide +kernel
theorem dL_isSo_193 : decode cL_isSo 193 = .ok (.bipush 12, 2) := by decide +kernel
theorem dL_isSo_195 : decode cL_isSo 195 = .ok (.if_icmp .ge 40, 3) := by decide +kernel
theorem dL_isSo_198 : decode cL_isSo 198 = .ok (.iload 7, 2) := by decide +kernel
theorem dL_isSo_200 : decode cL_isSo 200 = .ok (.aload_n 1, 1) := by decide +kernel
theorem dL_isSo_201 : decode cL_isSo 201 = .ok (.iload 4, 2) := by decide +kernel
theorem dL_isSo_203 : decode cL_isSo 203 = .ok (.iload 8, 2) := by decide +kernel
theorem dL_isSo_205 : decode cL_isSo 205 = .ok (.iconst 0, 1) := by decide +kernel
theorem dL_isSo_206 : decode cL_isSo 206 = .ok (.invokestatic 52, 3) := by decide +kernel
theorem dL_isSo_209 : decode cL_isSo 209 = .ok (.aload_n 1, 1) := by decide +kernel
theorem dL_isSo_210 : decode cL_isSo 210 = .ok (.iload 4, 2) := by decide +kernel
theorem dL_isSo_212 : decode cL_isSo 212 = .ok (.iload 8, 2) := by decide +kernel
theorem dL_isSo_214 : decode cL_isSo 214 = .ok (.iconst 1, 1) := by decide +kernel
theorem dL_isSo_215 : decode cL_isSo 215 = .ok (.invokestatic 52, 3) := by decide +kernel
theorem dL_isSo_218 : decode cL_isSo 218 = .ok (.if_icmp .ne 7, 3) := by decide +kernel
theorem dL_isSo_221 : decode cL_isSo 221 = .ok (.iconst 0, 1) := by decide +kernel
theorem dL_isSo_222 : decode cL_isSo 222 = .ok (.goto 4, 3) := by decide +kernel
theorem dL_isSo_225 : decode cL_isSo 225 = .ok (.iconst 1, 1) := by decide +kernel
theorem dL_isSo_226 : decode cL_isSo 226 = .ok (.iadd, 1) := by decide +kernel
theorem dL_isSo_227 : decode cL_isSo 227 = .ok (.istore 7, 2) := by decide +kernel
theorem dL_isSo_229 : decode cL_isSo 229 = .ok (.iinc 8 1, 3) := by decide +kernel
theorem dL_isSo_232 : decode cL_isSo 232 = .ok (.goto (-41), 3) := by decide +kernel
theorem dL_isSo_235 : decode cL_isSo 235 = .ok (.aload_n 1, 1) := by decide +kernel
theorem dL_isSo_236 : decode cL_isSo 236 = .ok (.aload_n 2, 1) := by decide +kernel
theorem dL_isSo_237 : decode cL_isSo 237 = .ok (.iload 4, 2) := by decide +kernel
theorem dL_isSo_239 : decode cL_isSo 239 = .ok (.invokestatic 61, 3) := by decide +kernel
theorem dL_isSo_242 : decode cL_isSo 242 = .ok (.istore 8, 2) := by decide +kernel
theorem dL_isSo_244 : decode cL_isSo 244 = .ok (.aload_n 0, 1) := by decide +kernel
theorem dL_isSo_245 : decode cL_isSo 245 = .ok (.aload_n 1, 1) := by decide +kernel
theorem dL_isSo_246 : decode cL_isSo 246 = .ok (.aload_n 2, 1) := by decide +kernel
theorem dL_isSo_247 : decode cL_isSo 247 = .ok (.iload 4, 2) := by decide +kernel
theorem dL_isSo_249 : decode cL_isSo 249 = .ok (.invokestatic 120, 3) := by decide +kernel
theorem dL_isSo_252 : decode cL_isSo 252 = .ok (.ifCond .eq 81, 3) := by decide +kernel
theorem dL_isSo_255 : decode cL_isSo 255 = .ok (.aload_n 0, 1) := by decide +kernel
theorem dL_isSo_256 : decode cL_isSo 256 = .ok (.iconst 0, 1) := by decide +kernel
theorem dL_isSo_257 : decode cL_isSo 257 = .ok (.invokevirtual 108, 3) := by decide +kernel
theorem dL_isSo_260 : decode cL_isSo 260 = .ok (.iload 4, 2) := by decide +kernel
theorem dL_isSo_262 : decode cL_isSo 262 = .ok (.if_icmp .ne 71, 3) := by decide +kernel
theorem dL_isSo_265 : decode cL_isSo 265 = .ok (.aload_n 0, 1) := by decide +kernel
theorem dL_isSo_266 : decode cL_isSo 266 = .ok (.iconst 1, 1) := by decide +kernel
theorem dL_isSo_267 : decode cL_isSo 267 = .ok (.invokevirtual 108, 3) := by decide +kernel
theorem dL_isSo_270 : decode cL_isSo 270 = .ok (.iload 5, 2) := by decide +kernel
theorem dL_isSo_272 : decode cL_isSo 272 = .ok (.if_icmp .ne 61, 3) := by decide +kernel
theorem dL_isSo_275 : decode cL_isSo 275 = .ok (.aload_n 0, 1) := by decide +kernel
theorem dL_isSo_276 : decode cL_isSo 276 = .ok (.iconst 2, 1) := by decide +kernel
theorem dL_isSo_277 : decode cL_isSo 277 = .ok (.invokevirtual 108, 3) := by decide +kernel
theorem dL_isSo_280 : decode cL_isSo 280 = .ok (.iload 8, 2) := by decide +kernel
theorem dL_isSo_282 : decode cL_isSo 282 = .ok (.if_icmp .ne 51, 3) := by decide +kernel
theorem dL_isSo_285 : decode cL_isSo 285 = .ok (.aload_n 0, 1) := by decide +kernel
theorem dL_isSo_286 : decode cL_isSo 286 = .ok (.iconst 3, 1) := by decide +kernel
theorem dL_isSo_287 : decode cL_isSo 287 = .ok (.invokevirtual 108, 3) := by decide +kernel
theorem dL_isSo_290 : decode cL_isSo 290 = .ok (.iload 8, 2) := by decide +kernel
theorem dL_isSo_292 : decode cL_isSo 292 = .ok (.if_icmp .ne 41, 3) := by decide +kernel
theorem dL_isSo_295 : decode cL_isSo 295 = .ok (.aload_n 0, 1) := by decide +kernel
theorem dL_isSo_296 : decode cL_isSo 296 = .ok (.iconst 4, 1) := by decide +kernel
theorem dL_isSo_297 : decode cL_isSo 297 = .ok (.invokevirtual 108, 3) := by decide +kernel
theorem dL_isSo_300 : decode cL_isSo 300 = .ok (.iload 6, 2) := by decide +kernel
theorem dL_isSo_302 : decode cL_isSo 302 = .ok (.iconst 2, 1) := by decide +kernel
theorem dL_isSo_303 : decode cL_isSo 303 = .ok (.idiv, 1) := by decide +kernel
theorem dL_isSo_304 : decode cL_isSo 304 = .ok (.if_icmp .ne 29, 3) := by decide +kernel
theorem dL_isSo_307 : decode cL_isSo 307 = .ok (.aload_n 0, 1) := by decide +kernel
theorem dL_isSo_308 : decode cL_isSo 308 = .ok (.iconst 5, 1) := by decide +kernel
theorem dL_isSo_309 : decode cL_isSo 309 = .ok (.invokevirtual 108, 3) := by decide +kernel
theorem dL_isSo_312 : decode cL_isSo 312 = .ok (.iload 7, 2) := by decide +kernel
theorem dL_isSo_314 : decode cL_isSo 314 = .ok (.if_icmp .ne 19, 3) := by decide +kernel
theorem dL_isSo_317 : decode cL_isSo 317 = .ok (.aload_n 0, 1) := by decide +kernel
theorem dL_isSo_318 : decode cL_isSo 318 = .ok (.bipush 8, 2) := by decide +kernel
theorem dL_isSo_320 : decode cL_isSo 320 = .ok (.invokevirtual 108, 3) := by decide +kernel
theorem dL_isSo_323 : decode cL_isSo 323 = .ok (.aload_n 3, 1) := by decide +kernel
theorem dL_isSo_324 : decode cL_isSo 324 = .ok (.iconst 1, 1) := by decide +kernel
theorem dL_isSo_325 : decode cL_isSo 325 = .ok (.iaload, 1) := by decide +kernel
theorem dL_isSo_326 : decode cL_isSo 326 = .ok (.if_icmp .ne 7, 3) := by decide +kernel
theorem dL_isSo_329 : decode cL_isSo 329 = .ok (.iconst 1, 1) := by decide +kernel
theorem dL_isSo_330 : decode cL_isSo 330 = .ok (.goto 4, 3) := by decide +kernel
theorem dL_isSo_333 : decode cL_isSo 333 = .ok (.iconst 0, 1) := by decide +kernel
theorem dL_isSo_334 : decode cL_isSo 334 = .ok (.ireturn, 1) := by decide +kernel
theorem dL_isThrough_0 : decode cL_isThrough 0 = .ok (.aload_n 1, 1) := by decide +kernel
theorem dL_isThrough_1 : decode cL_isThrough 1 = .ok (.iload_n 2, 1) := by decide +kernel
theorem dL_isThrough_2 : decode cL_isThrough 2 = .ok (.iconst (-1), 1) := by decide +kernel
theorem dL_isThrough_3 : decode cL_isThrough 3 = .ok (.invokestatic 124, 3) := by decide +kernel
theorem dL_isThrough_6 : decode cL_isThrough 6 = .ok (.istore_n 3, 1) := by decide +kernel
theorem dL_isThrough_7 : decode cL_isThrough 7 = .ok (.iconst (-1), 1) := by decide +kernel
theorem dL_isThrough_8 : decode cL_isThrough 8 = .ok (.istore 4, 2) := by decide +kernel
theorem dL_isThrough_10 : decode cL_isThrough 10 = .ok (.iconst 0, 1) := by decide +kernel
theorem dL_isThrough_11 : decode cL_isThrough 11 = .ok (.istore 5, 2) := by decide +kernel
theorem dL_isThrough_13 : decode cL_isThrough 13 = .ok (.iconst 0, 1) := by decide +kernel
theorem dL_isThrough_14 : decode cL_isThrough 14 = .ok (.istore 6, 2) := by decide +kernel
theorem dL_isThrough_16 : decode cL_isThrough 16 = .ok (.iconst 0, 1) := by decide +kernel
theorem dL_isThrough_17 : decode cL_isThrough 17 = .ok (.istore 7, 2) := by decide +kernel
theorem dL_isThrough_19 : decode cL_isThrough 19 = .ok (.iload 7, 2) := by decide +kernel
theorem dL_isThrough_21 : decode cL_isThrough 21 = .ok (.iload_n 2, 1) := by decide +kernel
theorem dL_isThrough_22 : decode cL_isThrough 22 = .ok (.if_icmp .ge 80, 3) := by decide +kernel
theorem dL_isThrough_25 : decode cL_isThrough 25 = .ok (.aload_n 1, 1) := by decide +kernel
theorem dL_isThrough_26 : decode cL_isThrough 26 = .ok (.iload 7, 2) := by decide +kernel
theorem dL_isThrough_28 : decode cL_isThrough 28 = .ok (.invokestatic 42, 3) := by decide +kernel
theorem dL_isThrough_31 : decode cL_isThrough 31 = .ok (.ifCond .ne 6, 3) := by decide +kernel
theorem dL_isThrough_34 : decode cL_isThrough 34 = .ok (.goto 62, 3) := by decide +kernel
theorem dL_isThrough_37 : decode cL_isThrough 37 = .ok (.aload_n 1, 1) := by decide +kernel
theorem dL_isThrough_38 : decode cL_isThrough 38 = .ok (.iload_n 2, 1) := by decide +kernel
theorem dL_isThrough_39 : decode cL_isThrough 39 = .ok (.iload 7, 2) := by decide +kernel
theorem dL_isThrough_41 : decode cL_isThrough 41 = .ok (.invokestatic 124, 3) := by decide +kernel
theorem dL_isThrough_44 : decode cL_isThrough 44 = .ok (.istore 8, 2) := by decide +kernel
theorem dL_isThrough_46 : decode cL_isThrough 46 = .ok (.iload 6, 2) := by decide +kernel
theorem dL_isThrough_48 : decode cL_isThrough 48 = .ok (.aload_n 1, 1) := by decide +kernel
theorem dL_isThrough_49 : decode cL_isThrough 49 = .ok (.iconst 3, 1) := by decide +kernel
theorem dL_isThrough_50 : decode cL_isThrough 50 = .ok (.iload 7, 2) := by decide +kernel
theorem dL_isThrough_52 : decode cL_isThrough 52 = .ok (.imul, 1) := by decide +kernel
theorem dL_isThrough_53 : decode cL_isThrough 53 = .ok (.iaload, 1) := by decide +kernel
theorem dL_isThrough_54 : decode cL_isThrough 54 = .ok (.iconst 4, 1) := by decide +kernel
theorem dL_isThrough_55 : decode cL_isThrough 55 = .ok (.if_icmp .ge 14, 3) := by decide +kernel
theorem dL_isThrough_58 : decode cL_isThrough 58 = .ok (.aload_n 1, 1) := by decide +kernel
theorem dL_isThrough_59 : decode cL_isThrough 59 = .ok (.iconst 3, 1) := by decide +kernel
theorem dL_isThrough_60 : decode cL_isThrough 60 = .ok (.iload 7, 2) := by decide +kernel
theorem dL_isThrough_62 : decode cL_isThrough 62 = .ok (.imul, 1) := by decide +kernel
theorem dL_isThrough_63 : decode cL_isThrough 63 = .ok (.iconst 2, 1) := by decide +kernel
theorem dL_isThrough_64 : decode cL_isThrough 64 = .ok (.iadd, 1) := by decide +kernel
theorem dL_isThrough_65 : decode cL_isThrough 65 = .ok (.iaload, 1) := by decide +kernel
theorem dL_isThrough_66 : decode cL_isThrough 66 = .ok (.goto 4, 3) := by decide +kernel
theorem dL_isThrough_69 : decode cL_isThrough 69 = .ok (.iconst 0, 1) := by decide +kernel
theorem dL_isThrough_70 : decode cL_isThrough 70 = .ok (.iadd, 1) := by decide +kernel
theorem dL_isThrough_71 : decode cL_isThrough 71 = .ok (.istore 6, 2) := by decide +kernel
theorem dL_isThrough_73 : decode cL_isThrough 73 = .ok (.iload 4, 2) := by decide +kernel
theorem dL_isThrough_75 : decode cL_isThrough 75 = .ok (.ifCond .lt 13, 3) := by decide +kernel
theorem dL_isThrough_78 : decode cL_isThrough 78 = .ok (.iload 8, 2) := by decide +kernel
theorem dL_isThrough_80 : decode cL_isThrough 80 = .ok (.iload 5, 2) := by decide +kernel
theorem dL_isThrough_82 : decode cL_isThrough 82 = .ok (.if_icmp .lt 6, 3) := by decide +kernel
theorem dL_isThrough_85 : decode cL_isThrough 85 = .ok (.goto 11, 3) := by decide +kernel
theorem dL_isThrough_88 : decode cL_isThrough 88 = .ok (.iload 7, 2) := by decide +kernel
theorem dL_isThrough_90 : decode cL_isThrough 90 = .ok (.istore 4, 2) := by decide +kernel
theorem dL_isThrough_92 : decode cL_isThrough 92 = .ok (.iload 8, 2) := by decide +kernel
theorem dL_isThrough_94 : decode cL_isThrough 94 = .ok (.istore 5, 2) := by decide +kernel
theorem dL_isThrough_96 : decode cL_isThrough 96 = .ok (.iinc 7 1, 3) := by decide +kernel
theorem dL_isThrough_99 : decode cL_isThrough 99 = .ok (.goto (-80), 3) := by decide +kernel
theorem dL_isThrough_102 : decode cL_isThrough 102 = .ok (.aload_n 0, 1) := by decide +kernel
theorem dL_isThrough_103 : decode cL_isThrough 103 = .ok (.bipush 6, 2) := by decide +kernel
theorem dL_isThrough_105 : decode cL_isThrough 105 = .ok (.invokevirtual 108, 3) := by decide +kernel
theorem dL_isThrough_108 : decode cL_isThrough 108 = .ok (.iload_n 3, 1) := by decide +kernel
theorem dL_isThrough_109 : decode cL_isThrough 109 = .ok (.if_icmp .ne 49, 3) := by decide +kernel
theorem dL_isThrough_112 : decode cL_isThrough 112 = .ok (.aload_n 0, 1) := by decide +kernel
theorem dL_isThrough_113 : decode cL_isThrough 113 = .ok (.bipush 7, 2) := by decide +kernel
theorem dL_isThrough_115 : decode cL_isThrough 115 = .ok (.invokevirtual 108, 3) := by decide +kernel
theorem dL_isThrough_118 : decode cL_isThrough 118 = .ok (.iload_n 3, 1) := by decide +kernel
theorem dL_isThrough_119 : decode cL_isThrough 119 = .ok (.if_icmp .ne 39, 3) := by decide +kernel
theorem dL_isThrough_122 : decode cL_isThrough 122 = .ok (.aload_n 0, 1) := by decide +kernel
theorem dL_isThrough_123 : decode cL_isThrough 123 = .ok (.invokevirtual 127, 3) := by decide +kernel
theorem dL_isThrough_126 : decode cL_isThrough 126 = .ok (.iload 4, 2) := by decide +kernel
theorem dL_isThrough_128 : decode cL_isThrough 128 = .ok (.if_icmp .ne 30, 3) := by decide +kernel
theorem dL_isThrough_131 : decode cL_isThrough 131 = .ok (.aload_n 0, 1) := by decide +kernel
theorem dL_isThrough_132 : decode cL_isThrough 132 = .ok (.invokevirtual 130, 3) := by decide +kernel
theorem dL_isThrough_135 : decode cL_isThrough 135 = .ok (.iload 6, 2) := by decide +kernel
theorem dL_isThrough_137 : decode cL_isThrough 137 = .ok (.ifCond .ne 7, 3) := by decide +kernel
theorem dL_isThrough_140 : decode cL_isThrough 140 = .ok (.dconst 1, 1) := by decide +kernel
theorem dL_isThrough_141 : decode cL_isThrough 141 = .ok (.goto 9, 3) := by decide +kernel
theorem dL_isThrough_144 : decode cL_isThrough 144 = .ok (.iload_n 3, 1) := by decide +kernel
theorem dL_isThrough_145 : decode cL_isThrough 145 = .ok (.i2d, 1) := by decide +kernel
theorem dL_isThrough_146 : decode cL_isThrough 146 = .ok (.iload 6, 2) := by decide +kernel
theorem dL_isThrough_148 : decode cL_isThrough 148 = .ok (.i2d, 1) := by decide +kernel
theorem dL_isThrough_149 : decode cL_isThrough 149 = .ok (.ddiv, 1) := by decide +kernel
theorem dL_isThrough_150 : decode cL_isThrough 150 = .ok (.dcmp .l, 1) := by decide +kernel
theorem dL_isThrough_151 : decode cL_isThrough 151 = .ok (.ifCond .ne 7, 3) := by decide +kernel
theorem dL_isThrough_154 : decode cL_isThrough 154 = .ok (.iconst 1, 1) := by decide +kernel
theorem dL_isThrough_155 : decode cL_isThrough 155 = .ok (.goto 4, 3) := by decide +kernel
theorem dL_isThrough_158 : decode cL_isThrough 158 = .ok (.iconst 0, 1) := by decide +kernel
theorem dL_isThrough_159 : decode cL_isThrough 159 = .ok (.ireturn, 1) := by decide +kernel
theorem dL_law_0 : decode cL_law 0 = .ok (.new 10, 3) := by decide +kernel
theorem dL_law_3 : decode cL_law 3 = .ok (.dup, 1) := by decide +kernel
theorem dL_law_4 : decode cL_law 4 = .ok (.invokespecial 134, 3) := by decide +kernel
theorem dL_law_7 : decode cL_law 7 = .ok (.astore_n 1, 1) := by decide +kernel
theorem dL_law_8 : decode cL_law 8 = .ok (.bipush 60, 2) := by decide +kernel
theorem dL_law_10 : decode cL_law 10 = .ok (.newarray .int, 2) := by decide +kernel
theorem dL_law_12 : decode cL_law 12 = .ok (.astore_n 2, 1) := by decide +kernel
theorem dL_law_13 : decode cL_law 13 = .ok (.bipush 16, 2) := by decide +kernel
theorem dL_law_15 : decode cL_law 15 = .ok (.newarray .int, 2) := by decide +kernel
theorem dL_law_17 : decode cL_law 17 = .ok (.astore_n 3, 1) := by decide +kernel
theorem dL_law_18 : decode cL_law 18 = .ok (.iconst 2, 1) := by decide +kernel
theorem dL_law_19 : decode cL_law 19 = .ok (.newarray .int, 2) := by decide +kernel
theorem dL_law_21 : decode cL_law 21 = .ok (.astore 4, 2) := by decide +kernel
theorem dL_law_23 : decode cL_law 23 = .ok (.iconst 0, 1) := by decide +kernel
theorem dL_law_24 : decode cL_law 24 = .ok (.istore 5, 2) := by decide +kernel
theorem dL_law_26 : decode cL_law 26 = .ok (.iload 5, 2) := by decide +kernel
theorem dL_law_28 : decode cL_law 28 = .ok (.bipush 16, 2) := by decide +kernel
theorem dL_law_30 : decode cL_law 30 = .ok (.if_icmp .ge 17, 3) := by decide +kernel
theorem dL_law_33 : decode cL_law 33 = .ok (.aload_n 3, 1) := by decide +kernel
theorem dL_law_34 : decode cL_law 34 = .ok (.iload 5, 2) := by decide +kernel
theorem dL_law_36 : decode cL_law 36 = .ok (.iload 5, 2) := by decide +kernel
theorem dL_law_38 : decode cL_law 38 = .ok (.iconst 4, 1) := by decide +kernel
theorem dL_law_39 : decode cL_law 39 = .ok (.irem, 1) := by decide +kernel
theorem dL_law_40 : decode cL_law 40 = .ok (.iastore, 1) := by decide +kernel
theorem dL_law_41 : decode cL_law 41 = .ok (.iinc 5 1, 3) := by decide +kernel
theorem dL_law_44 : decode cL_law 44 = .ok (.goto (-18), 3) := by decide +kernel
theorem dL_law_47 : decode cL_law 47 = .ok (.aload_n 1, 1) := by decide +kernel
theorem dL_law_48 : decode cL_law 48 = .ok (.aload_n 2, 1) := by decide +kernel
theorem dL_law_49 : decode cL_law 49 = .ok (.aload_n 3, 1) := by decide +kernel
theorem dL_law_50 : decode cL_law 50 = .ok (.aload 4, 2) := by decide +kernel
theorem dL_law_52 : decode cL_law 52 = .ok (.invokestatic 135, 3) := by decide +kernel
theorem dL_law_55 : decode cL_law 55 = .ok (.ifCond .eq 21, 3) := by decide +kernel
theorem dL_law_58 : decode cL_law 58 = .ok (.aload_n 1, 1) := by decide +kernel
theorem dL_law_59 : decode cL_law 59 = .ok (.aload_n 2, 1) := by decide +kernel
theorem dL_law_60 : decode cL_law 60 = .ok (.iconst 0, 1) := by decide +kernel
theorem dL_law_61 : decode cL_law 61 = .ok (.invokestatic 139, 3) := by decide +kernel
theorem dL_law_64 : decode cL_law 64 = .ok (.ifCond .eq 12, 3) := by decide +kernel
theorem dL_law_67 : decode cL_law 67 = .ok (.aload_n 1, 1) := by decide +kernel
theorem dL_law_68 : decode cL_law 68 = .ok (.invokestatic 143, 3) := by decide +kernel
theorem dL_law_71 : decode cL_law 71 = .ok (.bipush (-33), 2) := by decide +kernel
theorem dL_law_73 : decode cL_law 73 = .ok (.if_icmp .eq 5, 3) := by decide +kernel
theorem dL_law_76 : decode cL_law 76 = .ok (.iconst 0, 1) := by decide +kernel
theorem dL_law_77 : decode cL_law 77 = .ok (.ireturn, 1) := by decide +kernel
theorem dL_law_78 : decode cL_law 78 = .ok (.iconst 0, 1) := by decide +kernel
theorem dL_law_79 : decode cL_law 79 = .ok (.istore 5, 2) := by decide +kernel
theorem dL_law_81 : decode cL_law 81 = .ok (.iload 5, 2) := by decide +kernel
theorem dL_law_83 : decode cL_law 83 = .ok (.bipush 40, 2) := by decide +kernel
theorem dL_law_85 : decode cL_law 85 = .ok (.if_icmp .ge 92, 3) := by decide +kernel
theorem dL_law_88 : decode cL_law 88 = .ok (.aload_n 0, 1) := by decide +kernel
theorem dL_law_89 : decode cL_law 89 = .ok (.iconst 2, 1) := by decide +kernel
theorem dL_law_90 : decode cL_law 90 = .ok (.iload 5, 2) := by decide +kernel
theorem dL_law_92 : decode cL_law 92 = .ok (.imul, 1) := by decide +kernel
theorem dL_law_93 : decode cL_law 93 = .ok (.invokestatic 146, 3) := by decide +kernel
theorem dL_law_96 : decode cL_law 96 = .ok (.istore 6, 2) := by decide +kernel
theorem dL_law_98 : decode cL_law 98 = .ok (.aload_n 0, 1) := by decide +kernel
theorem dL_law_99 : decode cL_law 99 = .ok (.iconst 2, 1) := by decide +kernel
theorem dL_law_100 : decode cL_law 100 = .ok (.iload 5, 2) := by decide +kernel
theorem dL_law_102 : decode cL_law 102 = .ok (.imul, 1) := by decide +kernel
theorem dL_law_103 : decode cL_law 103 = .ok (.iconst 1, 1) := by decide +kernel
theorem dL_law_104 : decode cL_law 104 = .ok (.iadd, 1) := by decide +kernel
theorem dL_law_105 : decode cL_law 105 = .ok (.invokestatic 146, 3) := by decide +kernel
theorem dL_law_108 : decode cL_law 108 = .ok (.istore 7, 2) := by decide +kernel
theorem dL_law_110 : decode cL_law 110 = .ok (.aload_n 1, 1) := by decide +kernel
theorem dL_law_111 : decode cL_law 111 = .ok (.iload 5, 2) := by decide +kernel
theorem dL_law_113 : decode cL_law 113 = .ok (.bipush 9, 2) := by decide +kernel
theorem dL_law_115 : decode cL_law 115 = .ok (.if_icmp .ge 7, 3) := by decide +kernel
theorem dL_law_118 : decode cL_law 118 = .ok (.iconst 0, 1) := by decide +kernel
theorem dL_law_119 : decode cL_law 119 = .ok (.goto 5, 3) := by decide +kernel
theorem dL_law_122 : decode cL_law 122 = .ok (.iload 6, 2) := by decide +kernel
theorem dL_law_124 : decode cL_law 124 = .ok (.iload 7, 2) := by decide +kernel
theorem dL_law_126 : decode cL_law 126 = .ok (.aload_n 2, 1) := by decide +kernel
theorem dL_law_127 : decode cL_law 127 = .ok (.aload_n 3, 1) := by decide +kernel
theorem dL_law_128 : decode cL_law 128 = .ok (.aload 4, 2) := by decide +kernel
theorem dL_law_130 : decode cL_law 130 = .ok (.invokestatic 149, 3) := by decide +kernel
theorem dL_law_133 : decode cL_law 133 = .ok (.ifCond .eq 36, 3) := by decide +kernel
theorem dL_law_136 : decode cL_law 136 = .ok (.aload_n 1, 1) := by decide +kernel
theorem dL_law_137 : decode cL_law 137 = .ok (.aload_n 2, 1) := by decide +kernel
theorem dL_law_138 : decode cL_law 138 = .ok (.aload_n 3, 1) := by decide +kernel
theorem dL_law_139 : decode cL_law 139 = .ok (.aload 4, 2) := by decide +kernel
theorem dL_law_141 : decode cL_law 141 = .ok (.invokestatic 135, 3) := by decide +kernel
theorem dL_law_144 : decode cL_law 144 = .ok (.ifCond .eq 25, 3) := by decide +kernel
theorem dL_law_147 : decode cL_law 147 = .ok (.iload 5, 2) := by decide +kernel
theorem dL_law_149 : decode cL_law 149 = .ok (.bipush 10, 2) := by decide +kernel
theorem dL_law_151 : decode cL_law 151 = .ok (.irem, 1) := by decide +kernel
theorem dL_law_152 : decode cL_law 152 = .ok (.bipush 9, 2) := by decide +kernel
theorem dL_law_154 : decode cL_law 154 = .ok (.if_icmp .ne 17, 3) := by decide +kernel
theorem dL_law_157 : decode cL_law 157 = .ok (.aload_n 1, 1) := by decide +kernel
theorem dL_law_158 : decode cL_law 158 = .ok (.aload_n 2, 1) := by decide +kernel
theorem dL_law_159 : decode cL_law 159 = .ok (.aload 4, 2) := by decide +kernel
theorem dL_law_161 : decode cL_law 161 = .ok (.iconst 0, 1) := by decide +kernel
theorem dL_law_162 : decode cL_law 162 = .ok (.iaload, 1) := by decide +kernel
theorem dL_law_163 : decode cL_law 163 = .ok (.invokestatic 139, 3) := by decide +kernel
theorem dL_law_166 : decode cL_law 166 = .ok (.ifCond .ne 5, 3) := by decide +kernel
theorem dL_law_169 : decode cL_law 169 = .ok (.iconst 0, 1) := by decide +kernel
theorem dL_law_170 : decode cL_law 170 = .ok (.ireturn, 1) := by decide +kernel
theorem dL_law_171 : decode cL_law 171 = .ok (.iinc 5 1, 3) := by decide +kernel
theorem dL_law_174 : decode cL_law 174 = .ok (.goto (-93), 3) := by decide +kernel
theorem dL_law_177 : decode cL_law 177 = .ok (.iconst 1, 1) := by decide +kernel
theorem dL_law_178 : decode cL_law 178 = .ok (.ireturn, 1) := by decide +kernel
