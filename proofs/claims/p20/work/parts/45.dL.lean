theorem dL_below_0 : decode cL_below 0 = .ok (.iload_n 0, 1) := by decide +kernel
theorem dL_below_1 : decode cL_below 1 = .ok (.ldc 7, 2) := by decide +kernel
theorem dL_below_3 : decode cL_below 3 = .ok (.iand, 1) := by decide +kernel
theorem dL_below_4 : decode cL_below 4 = .ok (.iload_n 1, 1) := by decide +kernel
theorem dL_below_5 : decode cL_below 5 = .ok (.irem, 1) := by decide +kernel
theorem dL_below_6 : decode cL_below 6 = .ok (.ireturn, 1) := by decide +kernel
theorem dL_cell_0 : decode cL_cell 0 = .ok (.iload_n 1, 1) := by decide +kernel
theorem dL_cell_1 : decode cL_cell 1 = .ok (.aload_n 0, 1) := by decide +kernel
theorem dL_cell_2 : decode cL_cell 2 = .ok (.arraylength, 1) := by decide +kernel
theorem dL_cell_3 : decode cL_cell 3 = .ok (.if_icmp .ge 9, 3) := by decide +kernel
theorem dL_cell_6 : decode cL_cell 6 = .ok (.aload_n 0, 1) := by decide +kernel
theorem dL_cell_7 : decode cL_cell 7 = .ok (.iload_n 1, 1) := by decide +kernel
theorem dL_cell_8 : decode cL_cell 8 = .ok (.iaload, 1) := by decide +kernel
theorem dL_cell_9 : decode cL_cell 9 = .ok (.goto 9, 3) := by decide +kernel
theorem dL_cell_12 : decode cL_cell 12 = .ok (.ldc 8, 2) := by decide +kernel
theorem dL_cell_14 : decode cL_cell 14 = .ok (.iload_n 1, 1) := by decide +kernel
theorem dL_cell_15 : decode cL_cell 15 = .ok (.iconst 3, 1) := by decide +kernel
theorem dL_cell_16 : decode cL_cell 16 = .ok (.iadd, 1) := by decide +kernel
theorem dL_cell_17 : decode cL_cell 17 = .ok (.imul, 1) := by decide +kernel
theorem dL_cell_18 : decode cL_cell 18 = .ok (.ireturn, 1) := by decide +kernel
theorem dL_shop_0 : decode cL_shop 0 = .ok (.new 9, 3) := by decide +kernel
theorem dL_shop_3 : decode cL_shop 3 = .ok (.dup, 1) := by decide +kernel
theorem dL_shop_4 : decode cL_shop 4 = .ok (.invokespecial 11, 3) := by decide +kernel
theorem dL_shop_7 : decode cL_shop 7 = .ok (.astore_n 1, 1) := by decide +kernel
theorem dL_shop_8 : decode cL_shop 8 = .ok (.iconst 1, 1) := by decide +kernel
theorem dL_shop_9 : decode cL_shop 9 = .ok (.aload_n 0, 1) := by decide +kernel
theorem dL_shop_10 : decode cL_shop 10 = .ok (.iconst 0, 1) := by decide +kernel
theorem dL_shop_11 : decode cL_shop 11 = .ok (.invokestatic 12, 3) := by decide +kernel
theorem dL_shop_14 : decode cL_shop 14 = .ok (.bipush 10, 2) := by decide +kernel
theorem dL_shop_16 : decode cL_shop 16 = .ok (.invokestatic 18, 3) := by decide +kernel
theorem dL_shop_19 : decode cL_shop 19 = .ok (.iadd, 1) := by decide +kernel
theorem dL_shop_20 : decode cL_shop 20 = .ok (.istore_n 2, 1) := by decide +kernel
theorem dL_shop_21 : decode cL_shop 21 = .ok (.iconst 1, 1) := by decide +kernel
theorem dL_shop_22 : decode cL_shop 22 = .ok (.aload_n 0, 1) := by decide +kernel
theorem dL_shop_23 : decode cL_shop 23 = .ok (.iconst 0, 1) := by decide +kernel
theorem dL_shop_24 : decode cL_shop 24 = .ok (.invokestatic 12, 3) := by decide +kernel
theorem dL_shop_27 : decode cL_shop 27 = .ok (.iconst 4, 1) := by decide +kernel
theorem dL_shop_28 : decode cL_shop 28 = .ok (.ishr, 1) := by decide +kernel
theorem dL_shop_29 : decode cL_shop 29 = .ok (.iconst 3, 1) := by decide +kernel
theorem dL_shop_30 : decode cL_shop 30 = .ok (.invokestatic 18, 3) := by decide +kernel
theorem dL_shop_33 : decode cL_shop 33 = .ok (.iadd, 1) := by decide +kernel
theorem dL_shop_34 : decode cL_shop 34 = .ok (.istore_n 3, 1) := by decide +kernel
theorem dL_shop_35 : decode cL_shop 35 = .ok (.iconst 0, 1) := by decide +kernel
theorem dL_shop_36 : decode cL_shop 36 = .ok (.istore 4, 2) := by decide +kernel
theorem dL_shop_38 : decode cL_shop 38 = .ok (.iload 4, 2) := by decide +kernel
theorem dL_shop_40 : decode cL_shop 40 = .ok (.iload_n 2, 1) := by decide +kernel
theorem dL_shop_41 : decode cL_shop 41 = .ok (.if_icmp .ge 152, 3) := by decide +kernel
theorem dL_shop_44 : decode cL_shop 44 = .ok (.aload_n 1, 1) := by decide +kernel
theorem dL_shop_45 : decode cL_shop 45 = .ok (.aload_n 0, 1) := by decide +kernel
theorem dL_shop_46 : decode cL_shop 46 = .ok (.iconst 1, 1) := by decide +kernel
theorem dL_shop_47 : decode cL_shop 47 = .ok (.invokestatic 12, 3) := by decide +kernel
theorem dL_shop_50 : decode cL_shop 50 = .ok (.iconst 2, 1) := by decide +kernel
theorem dL_shop_51 : decode cL_shop 51 = .ok (.iload 4, 2) := by decide +kernel
theorem dL_shop_53 : decode cL_shop 53 = .ok (.imul, 1) := by decide +kernel
theorem dL_shop_54 : decode cL_shop 54 = .ok (.ishr, 1) := by decide +kernel
theorem dL_shop_55 : decode cL_shop 55 = .ok (.iload_n 3, 1) := by decide +kernel
theorem dL_shop_56 : decode cL_shop 56 = .ok (.invokestatic 18, 3) := by decide +kernel
theorem dL_shop_59 : decode cL_shop 59 = .ok (.invokevirtual 22, 3) := by decide +kernel
theorem dL_shop_62 : decode cL_shop 62 = .ok (.pop, 1) := by decide +kernel
theorem dL_shop_63 : decode cL_shop 63 = .ok (.aload_n 0, 1) := by decide +kernel
theorem dL_shop_64 : decode cL_shop 64 = .ok (.iconst 2, 1) := by decide +kernel
theorem dL_shop_65 : decode cL_shop 65 = .ok (.invokestatic 12, 3) := by decide +kernel
theorem dL_shop_68 : decode cL_shop 68 = .ok (.iload 4, 2) := by decide +kernel
theorem dL_shop_70 : decode cL_shop 70 = .ok (.ishr, 1) := by decide +kernel
theorem dL_shop_71 : decode cL_shop 71 = .ok (.iconst 5, 1) := by decide +kernel
theorem dL_shop_72 : decode cL_shop 72 = .ok (.invokestatic 18, 3) := by decide +kernel
theorem dL_shop_75 : decode cL_shop 75 = .ok (.istore 5, 2) := by decide +kernel
theorem dL_shop_77 : decode cL_shop 77 = .ok (.iload 5, 2) := by decide +kernel
theorem dL_shop_79 : decode cL_shop 79 = .ok (.ifCond .le 108, 3) := by decide +kernel
theorem dL_shop_82 : decode cL_shop 82 = .ok (.aload_n 0, 1) := by decide +kernel
theorem dL_shop_83 : decode cL_shop 83 = .ok (.iconst 3, 1) := by decide +kernel
theorem dL_shop_84 : decode cL_shop 84 = .ok (.iload 4, 2) := by decide +kernel
theorem dL_shop_86 : decode cL_shop 86 = .ok (.iconst 4, 1) := by decide +kernel
theorem dL_shop_87 : decode cL_shop 87 = .ok (.irem, 1) := by decide +kernel
theorem dL_shop_88 : decode cL_shop 88 = .ok (.iadd, 1) := by decide +kernel
theorem dL_shop_89 : decode cL_shop 89 = .ok (.invokestatic 12, 3) := by decide +kernel
theorem dL_shop_92 : decode cL_shop 92 = .ok (.iload 5, 2) := by decide +kernel
theorem dL_shop_94 : decode cL_shop 94 = .ok (.ishr, 1) := by decide +kernel
theorem dL_shop_95 : decode cL_shop 95 = .ok (.bipush 17, 2) := by decide +kernel
theorem dL_shop_97 : decode cL_shop 97 = .ok (.iload 4, 2) := by decide +kernel
theorem dL_shop_99 : decode cL_shop 99 = .ok (.imul, 1) := by decide +kernel
theorem dL_shop_100 : decode cL_shop 100 = .ok (.iadd, 1) := by decide +kernel
theorem dL_shop_101 : decode cL_shop 101 = .ok (.istore 6, 2) := by decide +kernel
theorem dL_shop_103 : decode cL_shop 103 = .ok (.iload 6, 2) := by decide +kernel
theorem dL_shop_105 : decode cL_shop 105 = .ok (.bipush 12, 2) := by decide +kernel
theorem dL_shop_107 : decode cL_shop 107 = .ok (.invokestatic 18, 3) := by decide +kernel
theorem dL_shop_110 : decode cL_shop 110 = .ok (.istore 7, 2) := by decide +kernel
theorem dL_shop_112 : decode cL_shop 112 = .ok (.iload 6, 2) := by decide +kernel
theorem dL_shop_114 : decode cL_shop 114 = .ok (.iconst 3, 1) := by decide +kernel
theorem dL_shop_115 : decode cL_shop 115 = .ok (.ishr, 1) := by decide +kernel
theorem dL_shop_116 : decode cL_shop 116 = .ok (.bipush 8, 2) := by decide +kernel
theorem dL_shop_118 : decode cL_shop 118 = .ok (.invokestatic 18, 3) := by decide +kernel
theorem dL_shop_121 : decode cL_shop 121 = .ok (.istore 8, 2) := by decide +kernel
theorem dL_shop_123 : decode cL_shop 123 = .ok (.aload_n 1, 1) := by decide +kernel
theorem dL_shop_124 : decode cL_shop 124 = .ok (.iload 4, 2) := by decide +kernel
theorem dL_shop_126 : decode cL_shop 126 = .ok (.iload 7, 2) := by decide +kernel
theorem dL_shop_128 : decode cL_shop 128 = .ok (.iload 8, 2) := by decide +kernel
theorem dL_shop_130 : decode cL_shop 130 = .ok (.iconst 1, 1) := by decide +kernel
theorem dL_shop_131 : decode cL_shop 131 = .ok (.iload 6, 2) := by decide +kernel
theorem dL_shop_133 : decode cL_shop 133 = .ok (.iconst 2, 1) := by decide +kernel
theorem dL_shop_134 : decode cL_shop 134 = .ok (.ishr, 1) := by decide +kernel
theorem dL_shop_135 : decode cL_shop 135 = .ok (.iconst 4, 1) := by decide +kernel
theorem dL_shop_136 : decode cL_shop 136 = .ok (.bipush 12, 2) := by decide +kernel
theorem dL_shop_138 : decode cL_shop 138 = .ok (.iload 7, 2) := by decide +kernel
theorem dL_shop_140 : decode cL_shop 140 = .ok (.isub, 1) := by decide +kernel
theorem dL_shop_141 : decode cL_shop 141 = .ok (.invokestatic 26, 3) := by decide +kernel
theorem dL_shop_144 : decode cL_shop 144 = .ok (.invokestatic 18, 3) := by decide +kernel
theorem dL_shop_147 : decode cL_shop 147 = .ok (.iadd, 1) := by decide +kernel
theorem dL_shop_148 : decode cL_shop 148 = .ok (.iconst 1, 1) := by decide +kernel
theorem dL_shop_149 : decode cL_shop 149 = .ok (.iload 6, 2) := by decide +kernel
theorem dL_shop_151 : decode cL_shop 151 = .ok (.iconst 5, 1) := by decide +kernel
theorem dL_shop_152 : decode cL_shop 152 = .ok (.ishr, 1) := by decide +kernel
theorem dL_shop_153 : decode cL_shop 153 = .ok (.iconst 3, 1) := by decide +kernel
theorem dL_shop_154 : decode cL_shop 154 = .ok (.bipush 8, 2) := by decide +kernel
theorem dL_shop_156 : decode cL_shop 156 = .ok (.iload 8, 2) := by decide +kernel
theorem dL_shop_158 : decode cL_shop 158 = .ok (.isub, 1) := by decide +kernel
theorem dL_shop_159 : decode cL_shop 159 = .ok (.invokestatic 26, 3) := by decide +kernel
theorem dL_shop_162 : decode cL_shop 162 = .ok (.invokestatic 18, 3) := by decide +kernel
theorem dL_shop_165 : decode cL_shop 165 = .ok (.iadd, 1) := by decide +kernel
theorem dL_shop_166 : decode cL_shop 166 = .ok (.iconst 1, 1) := by decide +kernel
theorem dL_shop_167 : decode cL_shop 167 = .ok (.iload 6, 2) := by decide +kernel
theorem dL_shop_169 : decode cL_shop 169 = .ok (.bipush 6, 2) := by decide +kernel
theorem dL_shop_171 : decode cL_shop 171 = .ok (.ishr, 1) := by decide +kernel
theorem dL_shop_172 : decode cL_shop 172 = .ok (.iconst 2, 1) := by decide +kernel
theorem dL_shop_173 : decode cL_shop 173 = .ok (.invokestatic 18, 3) := by decide +kernel
theorem dL_shop_176 : decode cL_shop 176 = .ok (.iadd, 1) := by decide +kernel
theorem dL_shop_177 : decode cL_shop 177 = .ok (.invokevirtual 31, 3) := by decide +kernel
theorem dL_shop_180 : decode cL_shop 180 = .ok (.pop, 1) := by decide +kernel
theorem dL_shop_181 : decode cL_shop 181 = .ok (.iinc 5 (-1), 3) := by decide +kernel
theorem dL_shop_184 : decode cL_shop 184 = .ok (.goto (-107), 3) := by decide +kernel
theorem dL_shop_187 : decode cL_shop 187 = .ok (.iinc 4 1, 3) := by decide +kernel
theorem dL_shop_190 : decode cL_shop 190 = .ok (.goto (-152), 3) := by decide +kernel
theorem dL_shop_193 : decode cL_shop 193 = .ok (.aload_n 0, 1) := by decide +kernel
theorem dL_shop_194 : decode cL_shop 194 = .ok (.bipush 7, 2) := by decide +kernel
theorem dL_shop_196 : decode cL_shop 196 = .ok (.invokestatic 12, 3) := by decide +kernel
theorem dL_shop_199 : decode cL_shop 199 = .ok (.sipush 130, 3) := by decide +kernel
theorem dL_shop_202 : decode cL_shop 202 = .ok (.invokestatic 18, 3) := by decide +kernel
theorem dL_shop_205 : decode cL_shop 205 = .ok (.istore 4, 2) := by decide +kernel
theorem dL_shop_207 : decode cL_shop 207 = .ok (.iconst 0, 1) := by decide +kernel
theorem dL_shop_208 : decode cL_shop 208 = .ok (.istore 5, 2) := by decide +kernel
theorem dL_shop_210 : decode cL_shop 210 = .ok (.iload 5, 2) := by decide +kernel
theorem dL_shop_212 : decode cL_shop 212 = .ok (.iload 4, 2) := by decide +kernel
theorem dL_shop_214 : decode cL_shop 214 = .ok (.if_icmp .ge 222, 3) := by decide +kernel
theorem dL_shop_217 : decode cL_shop 217 = .ok (.aload_n 0, 1) := by decide +kernel
theorem dL_shop_218 : decode cL_shop 218 = .ok (.bipush 8, 2) := by decide +kernel
theorem dL_shop_220 : decode cL_shop 220 = .ok (.iload 5, 2) := by decide +kernel
theorem dL_shop_222 : decode cL_shop 222 = .ok (.bipush 7, 2) := by decide +kernel
theorem dL_shop_224 : decode cL_shop 224 = .ok (.irem, 1) := by decide +kernel
theorem dL_shop_225 : decode cL_shop 225 = .ok (.iadd, 1) := by decide +kernel
theorem dL_shop_226 : decode cL_shop 226 = .ok (.invokestatic 12, 3) := by decide +kernel
theorem dL_shop_229 : decode cL_shop 229 = .ok (.iload 5, 2) := by decide +kernel
theorem dL_shop_231 : decode cL_shop 231 = .ok (.bipush 7, 2) := by decide +kernel
theorem dL_shop_233 : decode cL_shop 233 = .ok (.idiv, 1) := by decide +kernel
theorem dL_shop_234 : decode cL_shop 234 = .ok (.bipush 11, 2) := by decide +kernel
theorem dL_shop_236 : decode cL_shop 236 = .ok (.irem, 1) := by decide +kernel
theorem dL_shop_237 : decode cL_shop 237 = .ok (.ishr, 1) := by decide +kernel
theorem dL_shop_238 : decode cL_shop 238 = .ok (.bipush 29, 2) := by decide +kernel
theorem dL_shop_240 : decode cL_shop 240 = .ok (.iload 5, 2) := by decide +kernel
theorem dL_shop_242 : decode cL_shop 242 = .ok (.imul, 1) := by decide +kernel
theorem dL_shop_243 : decode cL_shop 243 = .ok (.iadd, 1) := by decide +kernel
theorem dL_shop_244 : decode cL_shop 244 = .ok (.istore 6, 2) := by decide +kernel
theorem dL_shop_246 : decode cL_shop 246 = .ok (.iload 6, 2) := by decide +kernel
theorem dL_shop_248 : decode cL_shop 248 = .ok (.iload_n 2, 1) := by decide +kernel
theorem dL_shop_249 : decode cL_shop 249 = .ok (.invokestatic 18, 3) := by decide +kernel
theorem dL_shop_252 : decode cL_shop 252 = .ok (.istore 7, 2) := by decide +kernel
theorem dL_shop_254 : decode cL_shop 254 = .ok (.iload 6, 2) := by decide +kernel
theorem dL_shop_256 : decode cL_shop 256 = .ok (.iconst 3, 1) := by decide +kernel
theorem dL_shop_257 : decode cL_shop 257 = .ok (.ishr, 1) := by decide +kernel
theorem dL_shop_258 : decode cL_shop 258 = .ok (.bipush 9, 2) := by decide +kernel
theorem dL_shop_260 : decode cL_shop 260 = .ok (.invokestatic 18, 3) := by decide +kernel
theorem dL_shop_263 : decode cL_shop 263 = .ok (.istore 8, 2) := by decide +kernel
theorem dL_shop_265 : decode cL_shop 265 = .ok (.iload 8, 2) := by decide +kernel
theorem dL_shop_267 : decode cL_shop 267 = .ok (.iconst 2, 1) := by decide +kernel
theorem dL_shop_268 : decode cL_shop 268 = .ok (.if_icmp .ge 7, 3) := by decide +kernel
theorem dL_shop_271 : decode cL_shop 271 = .ok (.iconst 0, 1) := by decide +kernel
theorem dL_shop_272 : decode cL_shop 272 = .ok (.goto 25, 3) := by decide +kernel
theorem dL_shop_275 : decode cL_shop 275 = .ok (.iload 8, 2) := by decide +kernel
theorem dL_shop_277 : decode cL_shop 277 = .ok (.iconst 4, 1) := by decide +kernel
theorem dL_shop_278 : decode cL_shop 278 = .ok (.if_icmp .ge 7, 3) := by decide +kernel
theorem dL_shop_281 : decode cL_shop 281 = .ok (.iconst 1, 1) := by decide +kernel
theorem dL_shop_282 : decode cL_shop 282 = .ok (.goto 15, 3) := by decide +kernel
theorem dL_shop_285 : decode cL_shop 285 = .ok (.iload 8, 2) := by decide +kernel
theorem dL_shop_287 : decode cL_shop 287 = .ok (.bipush 7, 2) := by decide +kernel
theorem dL_shop_289 : decode cL_shop 289 = .ok (.if_icmp .ge 7, 3) := by decide +kernel
theorem dL_shop_292 : decode cL_shop 292 = .ok (.iconst 2, 1) := by decide +kernel
theorem dL_shop_293 : decode cL_shop 293 = .ok (.goto 4, 3) := by decide +kernel
theorem dL_shop_296 : decode cL_shop 296 = .ok (.iconst 3, 1) := by decide +kernel
theorem dL_shop_297 : decode cL_shop 297 = .ok (.istore 8, 2) := by decide +kernel
theorem dL_shop_299 : decode cL_shop 299 = .ok (.iload 6, 2) := by decide +kernel
theorem dL_shop_301 : decode cL_shop 301 = .ok (.iconst 5, 1) := by decide +kernel
theorem dL_shop_302 : decode cL_shop 302 = .ok (.ishr, 1) := by decide +kernel
theorem dL_shop_303 : decode cL_shop 303 = .ok (.iconst 3, 1) := by decide +kernel
theorem dL_shop_304 : decode cL_shop 304 = .ok (.invokestatic 18, 3) := by decide +kernel
theorem dL_shop_307 : decode cL_shop 307 = .ok (.ifCond .ne 7, 3) := by decide +kernel
theorem dL_shop_310 : decode cL_shop 310 = .ok (.iconst 1, 1) := by decide +kernel
theorem dL_shop_311 : decode cL_shop 311 = .ok (.goto 4, 3) := by decide +kernel
theorem dL_shop_314 : decode cL_shop 314 = .ok (.iconst 0, 1) := by decide +kernel
theorem dL_shop_315 : decode cL_shop 315 = .ok (.istore 9, 2) := by decide +kernel
theorem dL_shop_317 : decode cL_shop 317 = .ok (.iload 6, 2) := by decide +kernel
theorem dL_shop_319 : decode cL_shop 319 = .ok (.bipush 7, 2) := by decide +kernel
theorem dL_shop_321 : decode cL_shop 321 = .ok (.ishr, 1) := by decide +kernel
theorem dL_shop_322 : decode cL_shop 322 = .ok (.iconst 4, 1) := by decide +kernel
theorem dL_shop_323 : decode cL_shop 323 = .ok (.invokestatic 18, 3) := by decide +kernel
theorem dL_shop_326 : decode cL_shop 326 = .ok (.ifCond .ne 15, 3) := by decide +kernel
theorem dL_shop_329 : decode cL_shop 329 = .ok (.iload 6, 2) := by decide +kernel
theorem dL_shop_331 : decode cL_shop 331 = .ok (.iconst 2, 1) := by decide +kernel
theorem dL_shop_332 : decode cL_shop 332 = .ok (.ishr, 1) := by decide +kernel
theorem dL_shop_333 : decode cL_shop 333 = .ok (.bipush 96, 2) := by decide +kernel
theorem dL_shop_335 : decode cL_shop 335 = .ok (.invokestatic 18, 3) := by decide +kernel
theorem dL_shop_338 : decode cL_shop 338 = .ok (.goto 13, 3) := by decide +kernel
theorem dL_shop_341 : decode cL_shop 341 = .ok (.aload_n 1, 1) := by decide +kernel
theorem dL_shop_342 : decode cL_shop 342 = .ok (.iload 7, 2) := by decide +kernel
theorem dL_shop_344 : decode cL_shop 344 = .ok (.iload 8, 2) := by decide +kernel
theorem dL_shop_346 : decode cL_shop 346 = .ok (.iload 9, 2) := by decide +kernel
theorem dL_shop_348 : decode cL_shop 348 = .ok (.invokevirtual 35, 3) := by decide +kernel
theorem dL_shop_351 : decode cL_shop 351 = .ok (.istore 10, 2) := by decide +kernel
theorem dL_shop_353 : decode cL_shop 353 = .ok (.iload 10, 2) := by decide +kernel
theorem dL_shop_355 : decode cL_shop 355 = .ok (.ifCond .lt 16, 3) := by decide +kernel
theorem dL_shop_358 : decode cL_shop 358 = .ok (.aload_n 1, 1) := by decide +kernel
theorem dL_shop_359 : decode cL_shop 359 = .ok (.iload 7, 2) := by decide +kernel
theorem dL_shop_361 : decode cL_shop 361 = .ok (.iload 8, 2) := by decide +kernel
theorem dL_shop_363 : decode cL_shop 363 = .ok (.iload 9, 2) := by decide +kernel
theorem dL_shop_365 : decode cL_shop 365 = .ok (.iload 10, 2) := by decide +kernel
theorem dL_shop_367 : decode cL_shop 367 = .ok (.invokestatic 39, 3) := by decide +kernel
theorem dL_shop_370 : decode cL_shop 370 = .ok (.pop, 1) := by decide +kernel
theorem dL_shop_371 : decode cL_shop 371 = .ok (.iload 6, 2) := by decide +kernel
theorem dL_shop_373 : decode cL_shop 373 = .ok (.bipush 6, 2) := by decide +kernel
theorem dL_shop_375 : decode cL_shop 375 = .ok (.ishr, 1) := by decide +kernel
theorem dL_shop_376 : decode cL_shop 376 = .ok (.bipush 12, 2) := by decide +kernel
theorem dL_shop_378 : decode cL_shop 378 = .ok (.invokestatic 18, 3) := by decide +kernel
theorem dL_shop_381 : decode cL_shop 381 = .ok (.ifCond .ne 16, 3) := by decide +kernel
theorem dL_shop_384 : decode cL_shop 384 = .ok (.aload_n 1, 1) := by decide +kernel
theorem dL_shop_385 : decode cL_shop 385 = .ok (.iload 6, 2) := by decide +kernel
theorem dL_shop_387 : decode cL_shop 387 = .ok (.iconst 1, 1) := by decide +kernel
theorem dL_shop_388 : decode cL_shop 388 = .ok (.ishr, 1) := by decide +kernel
theorem dL_shop_389 : decode cL_shop 389 = .ok (.iload_n 3, 1) := by decide +kernel
theorem dL_shop_390 : decode cL_shop 390 = .ok (.invokestatic 18, 3) := by decide +kernel
theorem dL_shop_393 : decode cL_shop 393 = .ok (.invokestatic 43, 3) := by decide +kernel
theorem dL_shop_396 : decode cL_shop 396 = .ok (.pop, 1) := by decide +kernel
theorem dL_shop_397 : decode cL_shop 397 = .ok (.iload 6, 2) := by decide +kernel
theorem dL_shop_399 : decode cL_shop 399 = .ok (.iconst 4, 1) := by decide +kernel
theorem dL_shop_400 : decode cL_shop 400 = .ok (.ishr, 1) := by decide +kernel
theorem dL_shop_401 : decode cL_shop 401 = .ok (.bipush 30, 2) := by decide +kernel
theorem dL_shop_403 : decode cL_shop 403 = .ok (.invokestatic 18, 3) := by decide +kernel
theorem dL_shop_406 : decode cL_shop 406 = .ok (.ifCond .ne 24, 3) := by decide +kernel
theorem dL_shop_409 : decode cL_shop 409 = .ok (.aload_n 1, 1) := by decide +kernel
theorem dL_shop_410 : decode cL_shop 410 = .ok (.iload 6, 2) := by decide +kernel
theorem dL_shop_412 : decode cL_shop 412 = .ok (.iconst 2, 1) := by decide +kernel
theorem dL_shop_413 : decode cL_shop 413 = .ok (.ishr, 1) := by decide +kernel
theorem dL_shop_414 : decode cL_shop 414 = .ok (.iconst 1, 1) := by decide +kernel
theorem dL_shop_415 : decode cL_shop 415 = .ok (.aload_n 1, 1) := by decide +kernel
theorem dL_shop_416 : decode cL_shop 416 = .ok (.iconst 5, 1) := by decide +kernel
theorem dL_shop_417 : decode cL_shop 417 = .ok (.invokevirtual 47, 3) := by decide +kernel
theorem dL_shop_420 : decode cL_shop 420 = .ok (.invokestatic 50, 3) := by decide +kernel
theorem dL_shop_423 : decode cL_shop 423 = .ok (.invokestatic 18, 3) := by decide +kernel
theorem dL_shop_426 : decode cL_shop 426 = .ok (.invokestatic 53, 3) := by decide +kernel
theorem dL_shop_429 : decode cL_shop 429 = .ok (.pop, 1) := by decide +kernel
theorem dL_shop_430 : decode cL_shop 430 = .ok (.iinc 5 1, 3) := by decide +kernel
theorem dL_shop_433 : decode cL_shop 433 = .ok (.goto (-223), 3) := by decide +kernel
theorem dL_shop_436 : decode cL_shop 436 = .ok (.aload_n 1, 1) := by decide +kernel
theorem dL_shop_437 : decode cL_shop 437 = .ok (.areturn, 1) := by decide +kernel
theorem dL_cut_0 : decode cL_cut 0 = .ok (.aload_n 0, 1) := by decide +kernel
theorem dL_cut_1 : decode cL_cut 1 = .ok (.iload_n 1, 1) := by decide +kernel
theorem dL_cut_2 : decode cL_cut 2 = .ok (.iload_n 2, 1) := by decide +kernel
theorem dL_cut_3 : decode cL_cut 3 = .ok (.iload_n 3, 1) := by decide +kernel
theorem dL_cut_4 : decode cL_cut 4 = .ok (.iload 4, 2) := by decide +kernel
theorem dL_cut_6 : decode cL_cut 6 = .ok (.bipush 12, 2) := by decide +kernel
theorem dL_cut_8 : decode cL_cut 8 = .ok (.irem, 1) := by decide +kernel
theorem dL_cut_9 : decode cL_cut 9 = .ok (.iload 4, 2) := by decide +kernel
theorem dL_cut_11 : decode cL_cut 11 = .ok (.bipush 12, 2) := by decide +kernel
theorem dL_cut_13 : decode cL_cut 13 = .ok (.idiv, 1) := by decide +kernel
theorem dL_cut_14 : decode cL_cut 14 = .ok (.invokevirtual 56, 3) := by decide +kernel
theorem dL_cut_17 : decode cL_cut 17 = .ok (.ireturn, 1) := by decide +kernel
theorem dL_cut_18 : decode cL_cut 18 = .ok (.astore 5, 2) := by decide +kernel
theorem dL_cut_20 : decode cL_cut 20 = .ok (.iconst (-1), 1) := by decide +kernel
theorem dL_cut_21 : decode cL_cut 21 = .ok (.ireturn, 1) := by decide +kernel
theorem dL_sew_0 : decode cL_sew 0 = .ok (.aload_n 0, 1) := by decide +kernel
theorem dL_sew_1 : decode cL_sew 1 = .ok (.iload_n 1, 1) := by decide +kernel
theorem dL_sew_2 : decode cL_sew 2 = .ok (.invokevirtual 61, 3) := by decide +kernel
theorem dL_sew_5 : decode cL_sew 5 = .ok (.ireturn, 1) := by decide +kernel
theorem dL_sew_6 : decode cL_sew 6 = .ok (.astore_n 2, 1) := by decide +kernel
theorem dL_sew_7 : decode cL_sew 7 = .ok (.iconst (-1), 1) := by decide +kernel
theorem dL_sew_8 : decode cL_sew 8 = .ok (.ireturn, 1) := by decide +kernel
theorem dL_rip_0 : decode cL_rip 0 = .ok (.aload_n 0, 1) := by decide +kernel
theorem dL_rip_1 : decode cL_rip 1 = .ok (.iload_n 1, 1) := by decide +kernel
theorem dL_rip_2 : decode cL_rip 2 = .ok (.invokevirtual 63, 3) := by decide +kernel
theorem dL_rip_5 : decode cL_rip 5 = .ok (.ireturn, 1) := by decide +kernel
theorem dL_rip_6 : decode cL_rip 6 = .ok (.astore_n 2, 1) := by decide +kernel
theorem dL_rip_7 : decode cL_rip 7 = .ok (.iconst (-1), 1) := by decide +kernel
theorem dL_rip_8 : decode cL_rip 8 = .ok (.ireturn, 1) := by decide +kernel
theorem dL_law_0 : decode cL_law 0 = .ok (.aload_n 0, 1) := by decide +kernel
theorem dL_law_1 : decode cL_law 1 = .ok (.invokestatic 67, 3) := by decide +kernel
theorem dL_law_4 : decode cL_law 4 = .ok (.astore_n 1, 1) := by decide +kernel
theorem dL_law_5 : decode cL_law 5 = .ok (.aload_n 1, 1) := by decide +kernel
theorem dL_law_6 : decode cL_law 6 = .ok (.iconst 0, 1) := by decide +kernel
theorem dL_law_7 : decode cL_law 7 = .ok (.invokevirtual 47, 3) := by decide +kernel
theorem dL_law_10 : decode cL_law 10 = .ok (.istore_n 2, 1) := by decide +kernel
theorem dL_law_11 : decode cL_law 11 = .ok (.iconst 4, 1) := by decide +kernel
theorem dL_law_12 : decode cL_law 12 = .ok (.newarray .int, 2) := by decide +kernel
theorem dL_law_14 : decode cL_law 14 = .ok (.dup, 1) := by decide +kernel
theorem dL_law_15 : decode cL_law 15 = .ok (.iconst 0, 1) := by decide +kernel
theorem dL_law_16 : decode cL_law 16 = .ok (.bipush 12, 2) := by decide +kernel
theorem dL_law_18 : decode cL_law 18 = .ok (.iastore, 1) := by decide +kernel
theorem dL_law_19 : decode cL_law 19 = .ok (.dup, 1) := by decide +kernel
theorem dL_law_20 : decode cL_law 20 = .ok (.iconst 1, 1) := by decide +kernel
theorem dL_law_21 : decode cL_law 21 = .ok (.iconst 4, 1) := by decide +kernel
theorem dL_law_22 : decode cL_law 22 = .ok (.iastore, 1) := by decide +kernel
theorem dL_law_23 : decode cL_law 23 = .ok (.dup, 1) := by decide +kernel
theorem dL_law_24 : decode cL_law 24 = .ok (.iconst 2, 1) := by decide +kernel
theorem dL_law_25 : decode cL_law 25 = .ok (.iconst 3, 1) := by decide +kernel
theorem dL_law_26 : decode cL_law 26 = .ok (.iastore, 1) := by decide +kernel
theorem dL_law_27 : decode cL_law 27 = .ok (.dup, 1) := by decide +kernel
theorem dL_law_28 : decode cL_law 28 = .ok (.iconst 3, 1) := by decide +kernel
theorem dL_law_29 : decode cL_law 29 = .ok (.iconst 1, 1) := by decide +kernel
theorem dL_law_30 : decode cL_law 30 = .ok (.iastore, 1) := by decide +kernel
theorem dL_law_31 : decode cL_law 31 = .ok (.astore_n 3, 1) := by decide +kernel
theorem dL_law_32 : decode cL_law 32 = .ok (.iconst 0, 1) := by decide +kernel
theorem dL_law_33 : decode cL_law 33 = .ok (.istore 4, 2) := by decide +kernel
theorem dL_law_35 : decode cL_law 35 = .ok (.iload 4, 2) := by decide +kernel
theorem dL_law_37 : decode cL_law 37 = .ok (.bipush 24, 2) := by decide +kernel
theorem dL_law_39 : decode cL_law 39 = .ok (.if_icmp .ge 1426, 3) := by decide +kernel
theorem dL_law_42 : decode cL_law 42 = .ok (.aload_n 0, 1) := by decide +kernel
theorem dL_law_43 : decode cL_law 43 = .ok (.iload 4, 2) := by decide +kernel
theorem dL_law_45 : decode cL_law 45 = .ok (.bipush 16, 2) := by decide +kernel
theorem dL_law_47 : decode cL_law 47 = .ok (.irem, 1) := by decide +kernel
theorem dL_law_48 : decode cL_law 48 = .ok (.invokestatic 12, 3) := by decide +kernel
theorem dL_law_51 : decode cL_law 51 = .ok (.iload 4, 2) := by decide +kernel
theorem dL_law_53 : decode cL_law 53 = .ok (.bipush 16, 2) := by decide +kernel
theorem dL_law_55 : decode cL_law 55 = .ok (.idiv, 1) := by decide +kernel
theorem dL_law_56 : decode cL_law 56 = .ok (.bipush 6, 2) := by decide +kernel
theorem dL_law_58 : decode cL_law 58 = .ok (.imul, 1) := by decide +kernel
theorem dL_law_59 : decode cL_law 59 = .ok (.ishr, 1) := by decide +kernel
theorem dL_law_60 : decode cL_law 60 = .ok (.istore 5, 2) := by decide +kernel
theorem dL_law_62 : decode cL_law 62 = .ok (.aload_n 1, 1) := by decide +kernel
theorem dL_law_63 : decode cL_law 63 = .ok (.iconst 1, 1) := by decide +kernel
theorem dL_law_64 : decode cL_law 64 = .ok (.invokevirtual 47, 3) := by decide +kernel
theorem dL_law_67 : decode cL_law 67 = .ok (.istore 6, 2) := by decide +kernel
theorem dL_law_69 : decode cL_law 69 = .ok (.aload_n 1, 1) := by decide +kernel
theorem dL_law_70 : decode cL_law 70 = .ok (.iconst 5, 1) := by decide +kernel
theorem dL_law_71 : decode cL_law 71 = .ok (.invokevirtual 47, 3) := by decide +kernel
theorem dL_law_74 : decode cL_law 74 = .ok (.istore 7, 2) := by decide +kernel
theorem dL_law_76 : decode cL_law 76 = .ok (.aload_n 1, 1) := by decide +kernel
theorem dL_law_77 : decode cL_law 77 = .ok (.iconst 4, 1) := by decide +kernel
theorem dL_law_78 : decode cL_law 78 = .ok (.invokevirtual 47, 3) := by decide +kernel
theorem dL_law_81 : decode cL_law 81 = .ok (.istore 8, 2) := by decide +kernel
theorem dL_law_83 : decode cL_law 83 = .ok (.iload 5, 2) := by decide +kernel
theorem dL_law_85 : decode cL_law 85 = .ok (.iconst 3, 1) := by decide +kernel
theorem dL_law_86 : decode cL_law 86 = .ok (.ishr, 1) := by decide +kernel
theorem dL_law_87 : decode cL_law 87 = .ok (.iload_n 2, 1) := by decide +kernel
theorem dL_law_88 : decode cL_law 88 = .ok (.invokestatic 18, 3) := by decide +kernel
theorem dL_law_91 : decode cL_law 91 = .ok (.istore 9, 2) := by decide +kernel
theorem dL_law_93 : decode cL_law 93 = .ok (.iload 5, 2) := by decide +kernel
theorem dL_law_95 : decode cL_law 95 = .ok (.iconst 5, 1) := by decide +kernel
theorem dL_law_96 : decode cL_law 96 = .ok (.ishr, 1) := by decide +kernel
theorem dL_law_97 : decode cL_law 97 = .ok (.iconst 4, 1) := by decide +kernel
theorem dL_law_98 : decode cL_law 98 = .ok (.invokestatic 18, 3) := by decide +kernel
theorem dL_law_101 : decode cL_law 101 = .ok (.istore 10, 2) := by decide +kernel
theorem dL_law_103 : decode cL_law 103 = .ok (.iload 5, 2) := by decide +kernel
theorem dL_law_105 : decode cL_law 105 = .ok (.bipush 7, 2) := by decide +kernel
theorem dL_law_107 : decode cL_law 107 = .ok (.ishr, 1) := by decide +kernel
theorem dL_law_108 : decode cL_law 108 = .ok (.iconst 2, 1) := by decide +kernel
theorem dL_law_109 : decode cL_law 109 = .ok (.invokestatic 18, 3) := by decide +kernel
theorem dL_law_112 : decode cL_law 112 = .ok (.ifCond .ne 7, 3) := by decide +kernel
theorem dL_law_115 : decode cL_law 115 = .ok (.iconst 1, 1) := by decide +kernel
theorem dL_law_116 : decode cL_law 116 = .ok (.goto 4, 3) := by decide +kernel
theorem dL_law_119 : decode cL_law 119 = .ok (.iconst 0, 1) := by decide +kernel
theorem dL_law_120 : decode cL_law 120 = .ok (.istore 11, 2) := by decide +kernel
theorem dL_law_122 : decode cL_law 122 = .ok (.aload_n 1, 1) := by decide +kernel
theorem dL_law_123 : decode cL_law 123 = .ok (.invokevirtual 71, 3) := by decide +kernel
theorem dL_law_126 : decode cL_law 126 = .ok (.lstore 12, 2) := by decide +kernel
theorem dL_law_128 : decode cL_law 128 = .ok (.aload_n 1, 1) := by decide +kernel
theorem dL_law_129 : decode cL_law 129 = .ok (.iload 9, 2) := by decide +kernel
theorem dL_law_131 : decode cL_law 131 = .ok (.iload 10, 2) := by decide +kernel
theorem dL_law_133 : decode cL_law 133 = .ok (.iload 11, 2) := by decide +kernel
theorem dL_law_135 : decode cL_law 135 = .ok (.invokevirtual 75, 3) := by decide +kernel
theorem dL_law_138 : decode cL_law 138 = .ok (.istore 14, 2) := by decide +kernel
theorem dL_law_140 : decode cL_law 140 = .ok (.aload_n 1, 1) := by decide +kernel
theorem dL_law_141 : decode cL_law 141 = .ok (.iload 10, 2) := by decide +kernel
theorem dL_law_143 : decode cL_law 143 = .ok (.iload 11, 2) := by decide +kernel
theorem dL_law_145 : decode cL_law 145 = .ok (.invokevirtual 78, 3) := by decide +kernel
theorem dL_law_148 : decode cL_law 148 = .ok (.istore 15, 2) := by decide +kernel
theorem dL_law_150 : decode cL_law 150 = .ok (.aload_n 1, 1) := by decide +kernel
theorem dL_law_151 : decode cL_law 151 = .ok (.iload 9, 2) := by decide +kernel
theorem dL_law_153 : decode cL_law 153 = .ok (.iload 10, 2) := by decide +kernel
theorem dL_law_155 : decode cL_law 155 = .ok (.iload 11, 2) := by decide +kernel
theorem dL_law_157 : decode cL_law 157 = .ok (.invokevirtual 35, 3) := by decide +kernel
theorem dL_law_160 : decode cL_law 160 = .ok (.istore 16, 2) := by decide +kernel
theorem dL_law_162 : decode cL_law 162 = .ok (.iload 5, 2) := by decide +kernel
theorem dL_law_164 : decode cL_law 164 = .ok (.iconst 4, 1) := by decide +kernel
theorem dL_law_165 : decode cL_law 165 = .ok (.ishr, 1) := by decide +kernel
theorem dL_law_166 : decode cL_law 166 = .ok (.iconst 4, 1) := by decide +kernel
theorem dL_law_167 : decode cL_law 167 = .ok (.invokestatic 18, 3) := by decide +kernel
theorem dL_law_170 : decode cL_law 170 = .ok (.istore 17, 2) := by decide +kernel
theorem dL_law_172 : decode cL_law 172 = .ok (.aload_n 1, 1) := by decide +kernel
theorem dL_law_173 : decode cL_law 173 = .ok (.iload 17, 2) := by decide +kernel
theorem dL_law_175 : decode cL_law 175 = .ok (.invokevirtual 82, 3) := by decide +kernel
theorem dL_law_178 : decode cL_law 178 = .ok (.istore 18, 2) := by decide +kernel
theorem dL_law_180 : decode cL_law 180 = .ok (.aload_n 1, 1) := by decide +kernel
theorem dL_law_181 : decode cL_law 181 = .ok (.invokevirtual 71, 3) := by decide +kernel
theorem dL_law_184 : decode cL_law 184 = .ok (.lload 12, 2) := by decide +kernel
theorem dL_law_186 : decode cL_law 186 = .ok (.lcmp, 1) := by decide +kernel
theorem dL_law_187 : decode cL_law 187 = .ok (.ifCond .ne 76, 3) := by decide +kernel
theorem dL_law_190 : decode cL_law 190 = .ok (.iload 14, 2) := by decide +kernel
theorem dL_law_192 : decode cL_law 192 = .ok (.ifCond .le 7, 3) := by decide +kernel
theorem dL_law_195 : decode cL_law 195 = .ok (.iconst 1, 1) := by decide +kernel
theorem dL_law_196 : decode cL_law 196 = .ok (.goto 4, 3) := by decide +kernel
theorem dL_law_199 : decode cL_law 199 = .ok (.iconst 0, 1) := by decide +kernel
theorem dL_law_200 : decode cL_law 200 = .ok (.iload 16, 2) := by decide +kernel
theorem dL_law_202 : decode cL_law 202 = .ok (.ifCond .lt 7, 3) := by decide +kernel
theorem dL_law_205 : decode cL_law 205 = .ok (.iconst 1, 1) := by decide +kernel
theorem dL_law_206 : decode cL_law 206 = .ok (.goto 4, 3) := by decide +kernel
theorem dL_law_209 : decode cL_law 209 = .ok (.iconst 0, 1) := by decide +kernel
theorem dL_law_210 : decode cL_law 210 = .ok (.if_icmp .ne 53, 3) := by decide +kernel
theorem dL_law_213 : decode cL_law 213 = .ok (.iload 14, 2) := by decide +kernel
theorem dL_law_215 : decode cL_law 215 = .ok (.ifCond .le 23, 3) := by decide +kernel
theorem dL_law_218 : decode cL_law 218 = .ok (.iload 15, 2) := by decide +kernel
theorem dL_law_220 : decode cL_law 220 = .ok (.ifCond .lt 43, 3) := by decide +kernel
theorem dL_law_223 : decode cL_law 223 = .ok (.aload_n 1, 1) := by decide +kernel
theorem dL_law_224 : decode cL_law 224 = .ok (.iload 15, 2) := by decide +kernel
theorem dL_law_226 : decode cL_law 226 = .ok (.iload 10, 2) := by decide +kernel
theorem dL_law_228 : decode cL_law 228 = .ok (.iload 11, 2) := by decide +kernel
theorem dL_law_230 : decode cL_law 230 = .ok (.invokevirtual 75, 3) := by decide +kernel
theorem dL_law_233 : decode cL_law 233 = .ok (.iload 14, 2) := by decide +kernel
theorem dL_law_235 : decode cL_law 235 = .ok (.if_icmp .lt 28, 3) := by decide +kernel
theorem dL_law_238 : decode cL_law 238 = .ok (.iload 14, 2) := by decide +kernel
theorem dL_law_240 : decode cL_law 240 = .ok (.aload_n 3, 1) := by decide +kernel
theorem dL_law_241 : decode cL_law 241 = .ok (.iload 10, 2) := by decide +kernel
theorem dL_law_243 : decode cL_law 243 = .ok (.iaload, 1) := by decide +kernel
theorem dL_law_244 : decode cL_law 244 = .ok (.imul, 1) := by decide +kernel
theorem dL_law_245 : decode cL_law 245 = .ok (.aload_n 1, 1) := by decide +kernel
theorem dL_law_246 : decode cL_law 246 = .ok (.iload 9, 2) := by decide +kernel
theorem dL_law_248 : decode cL_law 248 = .ok (.iconst 1, 1) := by decide +kernel
theorem dL_law_249 : decode cL_law 249 = .ok (.invokevirtual 85, 3) := by decide +kernel
theorem dL_law_252 : decode cL_law 252 = .ok (.aload_n 1, 1) := by decide +kernel
theorem dL_law_253 : decode cL_law 253 = .ok (.iload 9, 2) := by decide +kernel
theorem dL_law_255 : decode cL_law 255 = .ok (.iconst 2, 1) := by decide +kernel
theorem dL_law_256 : decode cL_law 256 = .ok (.invokevirtual 85, 3) := by decide +kernel
theorem dL_law_259 : decode cL_law 259 = .ok (.iadd, 1) := by decide +kernel
theorem dL_law_260 : decode cL_law 260 = .ok (.if_icmp .le 5, 3) := by decide +kernel
theorem dL_law_263 : decode cL_law 263 = .ok (.iconst 0, 1) := by decide +kernel
theorem dL_law_264 : decode cL_law 264 = .ok (.ireturn, 1) := by decide +kernel
theorem dL_law_265 : decode cL_law 265 = .ok (.iload 6, 2) := by decide +kernel
theorem dL_law_267 : decode cL_law 267 = .ok (.iconst 4, 1) := by decide +kernel
theorem dL_law_268 : decode cL_law 268 = .ok (.multianewarray 88 2, 4) := by decide +kernel
theorem dL_law_272 : decode cL_law 272 = .ok (.astore 19, 2) := by decide +kernel
theorem dL_law_274 : decode cL_law 274 = .ok (.iconst 0, 1) := by decide +kernel
theorem dL_law_275 : decode cL_law 275 = .ok (.istore 20, 2) := by decide +kernel
theorem dL_law_277 : decode cL_law 277 = .ok (.iload 20, 2) := by decide +kernel
theorem dL_law_279 : decode cL_law 279 = .ok (.iload 6, 2) := by decide +kernel
theorem dL_law_281 : decode cL_law 281 = .ok (.if_icmp .ge 40, 3) := by decide +kernel
theorem dL_law_284 : decode cL_law 284 = .ok (.iconst 0, 1) := by decide +kernel
theorem dL_law_285 : decode cL_law 285 = .ok (.istore 21, 2) := by decide +kernel
theorem dL_law_287 : decode cL_law 287 = .ok (.iload 21, 2) := by decide +kernel
theorem dL_law_289 : decode cL_law 289 = .ok (.iconst 4, 1) := by decide +kernel
theorem dL_law_290 : decode cL_law 290 = .ok (.if_icmp .ge 25, 3) := by decide +kernel
theorem dL_law_293 : decode cL_law 293 = .ok (.aload 19, 2) := by decide +kernel
theorem dL_law_295 : decode cL_law 295 = .ok (.iload 20, 2) := by decide +kernel
theorem dL_law_297 : decode cL_law 297 = .ok (.aaload, 1) := by decide +kernel
theorem dL_law_298 : decode cL_law 298 = .ok (.iload 21, 2) := by decide +kernel
theorem dL_law_300 : decode cL_law 300 = .ok (.aload_n 1, 1) := by decide +kernel
theorem dL_law_301 : decode cL_law 301 = .ok (.iload 20, 2) := by decide +kernel
theorem dL_law_303 : decode cL_law 303 = .ok (.iload 21, 2) := by decide +kernel
theorem dL_law_305 : decode cL_law 305 = .ok (.invokevirtual 90, 3) := by decide +kernel
theorem dL_law_308 : decode cL_law 308 = .ok (.iastore, 1) := by decide +kernel
theorem dL_law_309 : decode cL_law 309 = .ok (.iinc 21 1, 3) := by decide +kernel
theorem dL_law_312 : decode cL_law 312 = .ok (.goto (-25), 3) := by decide +kernel
theorem dL_law_315 : decode cL_law 315 = .ok (.iinc 20 1, 3) := by decide +kernel
theorem dL_law_318 : decode cL_law 318 = .ok (.goto (-41), 3) := by decide +kernel
theorem dL_law_321 : decode cL_law 321 = .ok (.iload 5, 2) := by decide +kernel
theorem dL_law_323 : decode cL_law 323 = .ok (.iconst 4, 1) := by decide +kernel
theorem dL_law_324 : decode cL_law 324 = .ok (.invokestatic 18, 3) := by decide +kernel
theorem dL_law_327 : decode cL_law 327 = .ok (.tableswitch 332 0 2 #[25, 25, 237], 25) := by decide +kernel
theorem dL_law_352 : decode cL_law 352 = .ok (.iload 16, 2) := by decide +kernel
theorem dL_law_354 : decode cL_law 354 = .ok (.ifCond .ge 6, 3) := by decide +kernel
theorem dL_law_357 : decode cL_law 357 = .ok (.goto 383, 3) := by decide +kernel
theorem dL_law_360 : decode cL_law 360 = .ok (.aload_n 1, 1) := by decide +kernel
theorem dL_law_361 : decode cL_law 361 = .ok (.iload 9, 2) := by decide +kernel
theorem dL_law_363 : decode cL_law 363 = .ok (.iconst 4, 1) := by decide +kernel
theorem dL_law_364 : decode cL_law 364 = .ok (.invokevirtual 85, 3) := by decide +kernel
theorem dL_law_367 : decode cL_law 367 = .ok (.istore 20, 2) := by decide +kernel
theorem dL_law_369 : decode cL_law 369 = .ok (.aload_n 1, 1) := by decide +kernel
theorem dL_law_370 : decode cL_law 370 = .ok (.iload 9, 2) := by decide +kernel
theorem dL_law_372 : decode cL_law 372 = .ok (.iconst 2, 1) := by decide +kernel
theorem dL_law_373 : decode cL_law 373 = .ok (.invokevirtual 85, 3) := by decide +kernel
theorem dL_law_376 : decode cL_law 376 = .ok (.istore 21, 2) := by decide +kernel
theorem dL_law_378 : decode cL_law 378 = .ok (.aload_n 1, 1) := by decide +kernel
theorem dL_law_379 : decode cL_law 379 = .ok (.iload 9, 2) := by decide +kernel
theorem dL_law_381 : decode cL_law 381 = .ok (.iload 10, 2) := by decide +kernel
theorem dL_law_383 : decode cL_law 383 = .ok (.iload 11, 2) := by decide +kernel
theorem dL_law_385 : decode cL_law 385 = .ok (.iload 16, 2) := by decide +kernel
theorem dL_law_387 : decode cL_law 387 = .ok (.invokestatic 39, 3) := by decide +kernel
theorem dL_law_390 : decode cL_law 390 = .ok (.istore 22, 2) := by decide +kernel
theorem dL_law_392 : decode cL_law 392 = .ok (.iload 22, 2) := by decide +kernel
theorem dL_law_394 : decode cL_law 394 = .ok (.iload 6, 2) := by decide +kernel
theorem dL_law_396 : decode cL_law 396 = .ok (.sipush 150, 3) := by decide +kernel
theorem dL_law_399 : decode cL_law 399 = .ok (.if_icmp .ge 8, 3) := by decide +kernel
theorem dL_law_402 : decode cL_law 402 = .ok (.iload 6, 2) := by decide +kernel
theorem dL_law_404 : decode cL_law 404 = .ok (.goto 4, 3) := by decide +kernel
theorem dL_law_407 : decode cL_law 407 = .ok (.iconst (-1), 1) := by decide +kernel
theorem dL_law_408 : decode cL_law 408 = .ok (.if_icmp .eq 5, 3) := by decide +kernel
theorem dL_law_411 : decode cL_law 411 = .ok (.iconst 0, 1) := by decide +kernel
theorem dL_law_412 : decode cL_law 412 = .ok (.ireturn, 1) := by decide +kernel
theorem dL_law_413 : decode cL_law 413 = .ok (.iload 22, 2) := by decide +kernel
theorem dL_law_415 : decode cL_law 415 = .ok (.ifCond .ge 6, 3) := by decide +kernel
theorem dL_law_418 : decode cL_law 418 = .ok (.goto 322, 3) := by decide +kernel
theorem dL_law_421 : decode cL_law 421 = .ok (.aload_n 1, 1) := by decide +kernel
theorem dL_law_422 : decode cL_law 422 = .ok (.iload 22, 2) := by decide +kernel
theorem dL_law_424 : decode cL_law 424 = .ok (.iconst 0, 1) := by decide +kernel
theorem dL_law_425 : decode cL_law 425 = .ok (.invokevirtual 90, 3) := by decide +kernel
theorem dL_law_428 : decode cL_law 428 = .ok (.iload 9, 2) := by decide +kernel
theorem dL_law_430 : decode cL_law 430 = .ok (.if_icmp .ne 132, 3) := by decide +kernel
theorem dL_law_433 : decode cL_law 433 = .ok (.aload_n 1, 1) := by decide +kernel
theorem dL_law_434 : decode cL_law 434 = .ok (.iload 22, 2) := by decide +kernel
theorem dL_law_436 : decode cL_law 436 = .ok (.iconst 1, 1) := by decide +kernel
theorem dL_law_437 : decode cL_law 437 = .ok (.invokevirtual 90, 3) := by decide +kernel
theorem dL_law_440 : decode cL_law 440 = .ok (.iload 10, 2) := by decide +kernel
theorem dL_law_442 : decode cL_law 442 = .ok (.if_icmp .ne 120, 3) := by decide +kernel
theorem dL_law_445 : decode cL_law 445 = .ok (.aload_n 1, 1) := by decide +kernel
theorem dL_law_446 : decode cL_law 446 = .ok (.iload 22, 2) := by decide +kernel
theorem dL_law_448 : decode cL_law 448 = .ok (.iconst 2, 1) := by decide +kernel
theorem dL_law_449 : decode cL_law 449 = .ok (.invokevirtual 90, 3) := by decide +kernel
theorem dL_law_452 : decode cL_law 452 = .ok (.iconst (-1), 1) := by decide +kernel
theorem dL_law_453 : decode cL_law 453 = .ok (.if_icmp .ne 109, 3) := by decide +kernel
theorem dL_law_456 : decode cL_law 456 = .ok (.aload_n 1, 1) := by decide +kernel
theorem dL_law_457 : decode cL_law 457 = .ok (.iload 22, 2) := by decide +kernel
theorem dL_law_459 : decode cL_law 459 = .ok (.iconst 3, 1) := by decide +kernel
theorem dL_law_460 : decode cL_law 460 = .ok (.invokevirtual 90, 3) := by decide +kernel
theorem dL_law_463 : decode cL_law 463 = .ok (.iload 21, 2) := by decide +kernel
theorem dL_law_465 : decode cL_law 465 = .ok (.aload_n 1, 1) := by decide +kernel
theorem dL_law_466 : decode cL_law 466 = .ok (.iload 9, 2) := by decide +kernel
theorem dL_law_468 : decode cL_law 468 = .ok (.iconst 2, 1) := by decide +kernel
theorem dL_law_469 : decode cL_law 469 = .ok (.invokevirtual 85, 3) := by decide +kernel
theorem dL_law_472 : decode cL_law 472 = .ok (.isub, 1) := by decide +kernel
theorem dL_law_473 : decode cL_law 473 = .ok (.if_icmp .ne 89, 3) := by decide +kernel
theorem dL_law_476 : decode cL_law 476 = .ok (.aload_n 1, 1) := by decide +kernel
theorem dL_law_477 : decode cL_law 477 = .ok (.iload 9, 2) := by decide +kernel
theorem dL_law_479 : decode cL_law 479 = .ok (.iconst 4, 1) := by decide +kernel
theorem dL_law_480 : decode cL_law 480 = .ok (.invokevirtual 85, 3) := by decide +kernel
theorem dL_law_483 : decode cL_law 483 = .ok (.iload 20, 2) := by decide +kernel
theorem dL_law_485 : decode cL_law 485 = .ok (.aload_n 3, 1) := by decide +kernel
theorem dL_law_486 : decode cL_law 486 = .ok (.iload 10, 2) := by decide +kernel
theorem dL_law_488 : decode cL_law 488 = .ok (.iaload, 1) := by decide +kernel
theorem dL_law_489 : decode cL_law 489 = .ok (.iadd, 1) := by decide +kernel
theorem dL_law_490 : decode cL_law 490 = .ok (.if_icmp .ne 72, 3) := by decide +kernel
theorem dL_law_493 : decode cL_law 493 = .ok (.aload_n 1, 1) := by decide +kernel
theorem dL_law_494 : decode cL_law 494 = .ok (.iload 9, 2) := by decide +kernel
theorem dL_law_496 : decode cL_law 496 = .ok (.iload 16, 2) := by decide +kernel
theorem dL_law_498 : decode cL_law 498 = .ok (.bipush 12, 2) := by decide +kernel
theorem dL_law_500 : decode cL_law 500 = .ok (.irem, 1) := by decide +kernel
theorem dL_law_501 : decode cL_law 501 = .ok (.iload 16, 2) := by decide +kernel
theorem dL_law_503 : decode cL_law 503 = .ok (.bipush 12, 2) := by decide +kernel
theorem dL_law_505 : decode cL_law 505 = .ok (.idiv, 1) := by decide +kernel
theorem dL_law_506 : decode cL_law 506 = .ok (.invokevirtual 93, 3) := by decide +kernel
theorem dL_law_509 : decode cL_law 509 = .ok (.iconst 3, 1) := by decide +kernel
theorem dL_law_510 : decode cL_law 510 = .ok (.if_icmp .ne 52, 3) := by decide +kernel
theorem dL_law_513 : decode cL_law 513 = .ok (.aload_n 1, 1) := by decide +kernel
theorem dL_law_514 : decode cL_law 514 = .ok (.iload 9, 2) := by decide +kernel
theorem dL_law_516 : decode cL_law 516 = .ok (.iload 10, 2) := by decide +kernel
theorem dL_law_518 : decode cL_law 518 = .ok (.iload 11, 2) := by decide +kernel
theorem dL_law_520 : decode cL_law 520 = .ok (.invokevirtual 75, 3) := by decide +kernel
theorem dL_law_523 : decode cL_law 523 = .ok (.iload 14, 2) := by decide +kernel
theorem dL_law_525 : decode cL_law 525 = .ok (.iconst 1, 1) := by decide +kernel
theorem dL_law_526 : decode cL_law 526 = .ok (.isub, 1) := by decide +kernel
theorem dL_law_527 : decode cL_law 527 = .ok (.if_icmp .ne 35, 3) := by decide +kernel
theorem dL_law_530 : decode cL_law 530 = .ok (.iload 10, 2) := by decide +kernel
theorem dL_law_532 : decode cL_law 532 = .ok (.ifCond .ne 13, 3) := by decide +kernel
theorem dL_law_535 : decode cL_law 535 = .ok (.aload_n 1, 1) := by decide +kernel
theorem dL_law_536 : decode cL_law 536 = .ok (.iload 22, 2) := by decide +kernel
theorem dL_law_538 : decode cL_law 538 = .ok (.iconst 3, 1) := by decide +kernel
theorem dL_law_539 : decode cL_law 539 = .ok (.invokevirtual 90, 3) := by decide +kernel
theorem dL_law_542 : decode cL_law 542 = .ok (.ifCond .gt 20, 3) := by decide +kernel
theorem dL_law_545 : decode cL_law 545 = .ok (.iload 10, 2) := by decide +kernel
theorem dL_law_547 : decode cL_law 547 = .ok (.iconst 3, 1) := by decide +kernel
theorem dL_law_548 : decode cL_law 548 = .ok (.if_icmp .ge 192, 3) := by decide +kernel
theorem dL_law_551 : decode cL_law 551 = .ok (.aload_n 1, 1) := by decide +kernel
theorem dL_law_552 : decode cL_law 552 = .ok (.iload 22, 2) := by decide +kernel
theorem dL_law_554 : decode cL_law 554 = .ok (.iconst 3, 1) := by decide +kernel
theorem dL_law_555 : decode cL_law 555 = .ok (.invokevirtual 90, 3) := by decide +kernel
theorem dL_law_558 : decode cL_law 558 = .ok (.iconst 1, 1) := by decide +kernel
theorem dL_law_559 : decode cL_law 559 = .ok (.if_icmp .le 181, 3) := by decide +kernel
theorem dL_law_562 : decode cL_law 562 = .ok (.iconst 0, 1) := by decide +kernel
theorem dL_law_563 : decode cL_law 563 = .ok (.ireturn, 1) := by decide +kernel
theorem dL_law_564 : decode cL_law 564 = .ok (.aload_n 1, 1) := by decide +kernel
theorem dL_law_565 : decode cL_law 565 = .ok (.iload 17, 2) := by decide +kernel
theorem dL_law_567 : decode cL_law 567 = .ok (.invokestatic 43, 3) := by decide +kernel
theorem dL_law_570 : decode cL_law 570 = .ok (.istore 20, 2) := by decide +kernel
theorem dL_law_572 : decode cL_law 572 = .ok (.iload 20, 2) := by decide +kernel
theorem dL_law_574 : decode cL_law 574 = .ok (.iload 18, 2) := by decide +kernel
theorem dL_law_576 : decode cL_law 576 = .ok (.ifCond .le 15, 3) := by decide +kernel
theorem dL_law_579 : decode cL_law 579 = .ok (.iload 7, 2) := by decide +kernel
theorem dL_law_581 : decode cL_law 581 = .ok (.bipush 20, 2) := by decide +kernel
theorem dL_law_583 : decode cL_law 583 = .ok (.if_icmp .ge 8, 3) := by decide +kernel
theorem dL_law_586 : decode cL_law 586 = .ok (.iload 7, 2) := by decide +kernel
theorem dL_law_588 : decode cL_law 588 = .ok (.goto 4, 3) := by decide +kernel
theorem dL_law_591 : decode cL_law 591 = .ok (.iconst (-1), 1) := by decide +kernel
theorem dL_law_592 : decode cL_law 592 = .ok (.if_icmp .ne 65, 3) := by decide +kernel
theorem dL_law_595 : decode cL_law 595 = .ok (.iload 20, 2) := by decide +kernel
theorem dL_law_597 : decode cL_law 597 = .ok (.ifCond .ge 13, 3) := by decide +kernel
theorem dL_law_600 : decode cL_law 600 = .ok (.aload_n 1, 1) := by decide +kernel
theorem dL_law_601 : decode cL_law 601 = .ok (.invokevirtual 71, 3) := by decide +kernel
theorem dL_law_604 : decode cL_law 604 = .ok (.lload 12, 2) := by decide +kernel
theorem dL_law_606 : decode cL_law 606 = .ok (.lcmp, 1) := by decide +kernel
theorem dL_law_607 : decode cL_law 607 = .ok (.ifCond .ne 50, 3) := by decide +kernel
theorem dL_law_610 : decode cL_law 610 = .ok (.iload 20, 2) := by decide +kernel
theorem dL_law_612 : decode cL_law 612 = .ok (.ifCond .lt 128, 3) := by decide +kernel
theorem dL_law_615 : decode cL_law 615 = .ok (.aload_n 1, 1) := by decide +kernel
theorem dL_law_616 : decode cL_law 616 = .ok (.iload 17, 2) := by decide +kernel
theorem dL_law_618 : decode cL_law 618 = .ok (.invokevirtual 82, 3) := by decide +kernel
theorem dL_law_621 : decode cL_law 621 = .ok (.iload 18, 2) := by decide +kernel
theorem dL_law_623 : decode cL_law 623 = .ok (.iconst 1, 1) := by decide +kernel
theorem dL_law_624 : decode cL_law 624 = .ok (.isub, 1) := by decide +kernel
theorem dL_law_625 : decode cL_law 625 = .ok (.if_icmp .ne 32, 3) := by decide +kernel
theorem dL_law_628 : decode cL_law 628 = .ok (.aload_n 1, 1) := by decide +kernel
theorem dL_law_629 : decode cL_law 629 = .ok (.iload 20, 2) := by decide +kernel
theorem dL_law_631 : decode cL_law 631 = .ok (.iconst 0, 1) := by decide +kernel
theorem dL_law_632 : decode cL_law 632 = .ok (.invokevirtual 96, 3) := by decide +kernel
theorem dL_law_635 : decode cL_law 635 = .ok (.iload 17, 2) := by decide +kernel
theorem dL_law_637 : decode cL_law 637 = .ok (.if_icmp .ne 20, 3) := by decide +kernel
theorem dL_law_640 : decode cL_law 640 = .ok (.aload_n 1, 1) := by decide +kernel
theorem dL_law_641 : decode cL_law 641 = .ok (.aload_n 1, 1) := by decide +kernel
theorem dL_law_642 : decode cL_law 642 = .ok (.iload 20, 2) := by decide +kernel
theorem dL_law_644 : decode cL_law 644 = .ok (.iconst 1, 1) := by decide +kernel
theorem dL_law_645 : decode cL_law 645 = .ok (.invokevirtual 96, 3) := by decide +kernel
theorem dL_law_648 : decode cL_law 648 = .ok (.iconst 0, 1) := by decide +kernel
theorem dL_law_649 : decode cL_law 649 = .ok (.invokevirtual 85, 3) := by decide +kernel
theorem dL_law_652 : decode cL_law 652 = .ok (.iload 17, 2) := by decide +kernel
theorem dL_law_654 : decode cL_law 654 = .ok (.if_icmp .eq 86, 3) := by decide +kernel
theorem dL_law_657 : decode cL_law 657 = .ok (.iconst 0, 1) := by decide +kernel
theorem dL_law_658 : decode cL_law 658 = .ok (.ireturn, 1) := by decide +kernel
theorem dL_law_659 : decode cL_law 659 = .ok (.iload 7, 2) := by decide +kernel
theorem dL_law_661 : decode cL_law 661 = .ok (.ifCond .ne 6, 3) := by decide +kernel
theorem dL_law_664 : decode cL_law 664 = .ok (.goto 76, 3) := by decide +kernel
theorem dL_law_667 : decode cL_law 667 = .ok (.iload 5, 2) := by decide +kernel
theorem dL_law_669 : decode cL_law 669 = .ok (.iconst 2, 1) := by decide +kernel
theorem dL_law_670 : decode cL_law 670 = .ok (.ishr, 1) := by decide +kernel
theorem dL_law_671 : decode cL_law 671 = .ok (.iload 7, 2) := by decide +kernel
theorem dL_law_673 : decode cL_law 673 = .ok (.invokestatic 18, 3) := by decide +kernel
theorem dL_law_676 : decode cL_law 676 = .ok (.istore 20, 2) := by decide +kernel
theorem dL_law_678 : decode cL_law 678 = .ok (.aload_n 1, 1) := by decide +kernel
theorem dL_law_679 : decode cL_law 679 = .ok (.iload 20, 2) := by decide +kernel
theorem dL_law_681 : decode cL_law 681 = .ok (.iconst 4, 1) := by decide +kernel
theorem dL_law_682 : decode cL_law 682 = .ok (.invokevirtual 96, 3) := by decide +kernel
theorem dL_law_685 : decode cL_law 685 = .ok (.iconst 1, 1) := by decide +kernel
theorem dL_law_686 : decode cL_law 686 = .ok (.if_icmp .ne 7, 3) := by decide +kernel
theorem dL_law_689 : decode cL_law 689 = .ok (.iconst 1, 1) := by decide +kernel
theorem dL_law_690 : decode cL_law 690 = .ok (.goto 4, 3) := by decide +kernel
theorem dL_law_693 : decode cL_law 693 = .ok (.iconst 0, 1) := by decide +kernel
theorem dL_law_694 : decode cL_law 694 = .ok (.istore 21, 2) := by decide +kernel
theorem dL_law_696 : decode cL_law 696 = .ok (.aload_n 1, 1) := by decide +kernel
theorem dL_law_697 : decode cL_law 697 = .ok (.iload 20, 2) := by decide +kernel
theorem dL_law_699 : decode cL_law 699 = .ok (.invokestatic 53, 3) := by decide +kernel
theorem dL_law_702 : decode cL_law 702 = .ok (.iload 21, 2) := by decide +kernel
theorem dL_law_704 : decode cL_law 704 = .ok (.ifCond .eq 7, 3) := by decide +kernel
theorem dL_law_707 : decode cL_law 707 = .ok (.iconst (-1), 1) := by decide +kernel
theorem dL_law_708 : decode cL_law 708 = .ok (.goto 5, 3) := by decide +kernel
theorem dL_law_711 : decode cL_law 711 = .ok (.bipush 8, 2) := by decide +kernel
theorem dL_law_713 : decode cL_law 713 = .ok (.if_icmp .ne 25, 3) := by decide +kernel
theorem dL_law_716 : decode cL_law 716 = .ok (.aload_n 1, 1) := by decide +kernel
theorem dL_law_717 : decode cL_law 717 = .ok (.iconst 4, 1) := by decide +kernel
theorem dL_law_718 : decode cL_law 718 = .ok (.invokevirtual 47, 3) := by decide +kernel
theorem dL_law_721 : decode cL_law 721 = .ok (.iload 8, 2) := by decide +kernel
theorem dL_law_723 : decode cL_law 723 = .ok (.iload 21, 2) := by decide +kernel
theorem dL_law_725 : decode cL_law 725 = .ok (.ifCond .eq 7, 3) := by decide +kernel
theorem dL_law_728 : decode cL_law 728 = .ok (.iconst 0, 1) := by decide +kernel
theorem dL_law_729 : decode cL_law 729 = .ok (.goto 5, 3) := by decide +kernel
theorem dL_law_732 : decode cL_law 732 = .ok (.bipush 6, 2) := by decide +kernel
theorem dL_law_734 : decode cL_law 734 = .ok (.iadd, 1) := by decide +kernel
theorem dL_law_735 : decode cL_law 735 = .ok (.if_icmp .eq 5, 3) := by decide +kernel
theorem dL_law_738 : decode cL_law 738 = .ok (.iconst 0, 1) := by decide +kernel
theorem dL_law_739 : decode cL_law 739 = .ok (.ireturn, 1) := by decide +kernel
theorem dL_law_740 : decode cL_law 740 = .ok (.iconst 0, 1) := by decide +kernel
theorem dL_law_741 : decode cL_law 741 = .ok (.istore 20, 2) := by decide +kernel
theorem dL_law_743 : decode cL_law 743 = .ok (.iload 20, 2) := by decide +kernel
theorem dL_law_745 : decode cL_law 745 = .ok (.iload 6, 2) := by decide +kernel
theorem dL_law_747 : decode cL_law 747 = .ok (.if_icmp .ge 109, 3) := by decide +kernel
theorem dL_law_750 : decode cL_law 750 = .ok (.aload_n 1, 1) := by decide +kernel
theorem dL_law_751 : decode cL_law 751 = .ok (.iload 20, 2) := by decide +kernel
theorem dL_law_753 : decode cL_law 753 = .ok (.iconst 0, 1) := by decide +kernel
theorem dL_law_754 : decode cL_law 754 = .ok (.invokevirtual 90, 3) := by decide +kernel
theorem dL_law_757 : decode cL_law 757 = .ok (.aload 19, 2) := by decide +kernel
theorem dL_law_759 : decode cL_law 759 = .ok (.iload 20, 2) := by decide +kernel
theorem dL_law_761 : decode cL_law 761 = .ok (.aaload, 1) := by decide +kernel
theorem dL_law_762 : decode cL_law 762 = .ok (.iconst 0, 1) := by decide +kernel
theorem dL_law_763 : decode cL_law 763 = .ok (.iaload, 1) := by decide +kernel
theorem dL_law_764 : decode cL_law 764 = .ok (.if_icmp .ne 84, 3) := by decide +kernel
theorem dL_law_767 : decode cL_law 767 = .ok (.aload_n 1, 1) := by decide +kernel
theorem dL_law_768 : decode cL_law 768 = .ok (.iload 20, 2) := by decide +kernel
theorem dL_law_770 : decode cL_law 770 = .ok (.iconst 1, 1) := by decide +kernel
theorem dL_law_771 : decode cL_law 771 = .ok (.invokevirtual 90, 3) := by decide +kernel
theorem dL_law_774 : decode cL_law 774 = .ok (.aload 19, 2) := by decide +kernel
theorem dL_law_776 : decode cL_law 776 = .ok (.iload 20, 2) := by decide +kernel
theorem dL_law_778 : decode cL_law 778 = .ok (.aaload, 1) := by decide +kernel
theorem dL_law_779 : decode cL_law 779 = .ok (.iconst 1, 1) := by decide +kernel
theorem dL_law_780 : decode cL_law 780 = .ok (.iaload, 1) := by decide +kernel
theorem dL_law_781 : decode cL_law 781 = .ok (.if_icmp .ne 67, 3) := by decide +kernel
theorem dL_law_784 : decode cL_law 784 = .ok (.aload_n 1, 1) := by decide +kernel
theorem dL_law_785 : decode cL_law 785 = .ok (.iload 20, 2) := by decide +kernel
theorem dL_law_787 : decode cL_law 787 = .ok (.iconst 3, 1) := by decide +kernel
theorem dL_law_788 : decode cL_law 788 = .ok (.invokevirtual 90, 3) := by decide +kernel
theorem dL_law_791 : decode cL_law 791 = .ok (.aload 19, 2) := by decide +kernel
theorem dL_law_793 : decode cL_law 793 = .ok (.iload 20, 2) := by decide +kernel
theorem dL_law_795 : decode cL_law 795 = .ok (.aaload, 1) := by decide +kernel
theorem dL_law_796 : decode cL_law 796 = .ok (.iconst 3, 1) := by decide +kernel
theorem dL_law_797 : decode cL_law 797 = .ok (.iaload, 1) := by decide +kernel
theorem dL_law_798 : decode cL_law 798 = .ok (.if_icmp .ne 50, 3) := by decide +kernel
theorem dL_law_801 : decode cL_law 801 = .ok (.aload 19, 2) := by decide +kernel
theorem dL_law_803 : decode cL_law 803 = .ok (.iload 20, 2) := by decide +kernel
theorem dL_law_805 : decode cL_law 805 = .ok (.aaload, 1) := by decide +kernel
theorem dL_law_806 : decode cL_law 806 = .ok (.iconst 2, 1) := by decide +kernel
theorem dL_law_807 : decode cL_law 807 = .ok (.iaload, 1) := by decide +kernel
theorem dL_law_808 : decode cL_law 808 = .ok (.bipush (-2), 2) := by decide +kernel
theorem dL_law_810 : decode cL_law 810 = .ok (.if_icmp .ne 15, 3) := by decide +kernel
theorem dL_law_813 : decode cL_law 813 = .ok (.aload_n 1, 1) := by decide +kernel
theorem dL_law_814 : decode cL_law 814 = .ok (.iload 20, 2) := by decide +kernel
theorem dL_law_816 : decode cL_law 816 = .ok (.iconst 2, 1) := by decide +kernel
theorem dL_law_817 : decode cL_law 817 = .ok (.invokevirtual 90, 3) := by decide +kernel
theorem dL_law_820 : decode cL_law 820 = .ok (.bipush (-2), 2) := by decide +kernel
theorem dL_law_822 : decode cL_law 822 = .ok (.if_icmp .ne 26, 3) := by decide +kernel
theorem dL_law_825 : decode cL_law 825 = .ok (.aload_n 1, 1) := by decide +kernel
theorem dL_law_826 : decode cL_law 826 = .ok (.iload 20, 2) := by decide +kernel
theorem dL_law_828 : decode cL_law 828 = .ok (.iconst 2, 1) := by decide +kernel
theorem dL_law_829 : decode cL_law 829 = .ok (.invokevirtual 90, 3) := by decide +kernel
theorem dL_law_832 : decode cL_law 832 = .ok (.bipush (-2), 2) := by decide +kernel
theorem dL_law_834 : decode cL_law 834 = .ok (.if_icmp .ne 16, 3) := by decide +kernel
theorem dL_law_837 : decode cL_law 837 = .ok (.aload 19, 2) := by decide +kernel
theorem dL_law_839 : decode cL_law 839 = .ok (.iload 20, 2) := by decide +kernel
theorem dL_law_841 : decode cL_law 841 = .ok (.aaload, 1) := by decide +kernel
theorem dL_law_842 : decode cL_law 842 = .ok (.iconst 1, 1) := by decide +kernel
theorem dL_law_843 : decode cL_law 843 = .ok (.iaload, 1) := by decide +kernel
theorem dL_law_844 : decode cL_law 844 = .ok (.iconst 2, 1) := by decide +kernel
theorem dL_law_845 : decode cL_law 845 = .ok (.if_icmp .eq 5, 3) := by decide +kernel
theorem dL_law_848 : decode cL_law 848 = .ok (.iconst 0, 1) := by decide +kernel
theorem dL_law_849 : decode cL_law 849 = .ok (.ireturn, 1) := by decide +kernel
theorem dL_law_850 : decode cL_law 850 = .ok (.iinc 20 1, 3) := by decide +kernel
theorem dL_law_853 : decode cL_law 853 = .ok (.goto (-110), 3) := by decide +kernel
theorem dL_law_856 : decode cL_law 856 = .ok (.iload_n 2, 1) := by decide +kernel
theorem dL_law_857 : decode cL_law 857 = .ok (.newarray .int, 2) := by decide +kernel
theorem dL_law_859 : decode cL_law 859 = .ok (.astore 20, 2) := by decide +kernel
theorem dL_law_861 : decode cL_law 861 = .ok (.iload_n 2, 1) := by decide +kernel
theorem dL_law_862 : decode cL_law 862 = .ok (.newarray .int, 2) := by decide +kernel
theorem dL_law_864 : decode cL_law 864 = .ok (.astore 21, 2) := by decide +kernel
theorem dL_law_866 : decode cL_law 866 = .ok (.bipush 20, 2) := by decide +kernel
theorem dL_law_868 : decode cL_law 868 = .ok (.iconst 5, 1) := by decide +kernel
theorem dL_law_869 : decode cL_law 869 = .ok (.multianewarray 88 2, 4) := by decide +kernel
theorem dL_law_873 : decode cL_law 873 = .ok (.astore 22, 2) := by decide +kernel
theorem dL_law_875 : decode cL_law 875 = .ok (.bipush 20, 2) := by decide +kernel
theorem dL_law_877 : decode cL_law 877 = .ok (.newarray .int, 2) := by decide +kernel
theorem dL_law_879 : decode cL_law 879 = .ok (.astore 23, 2) := by decide +kernel
theorem dL_law_881 : decode cL_law 881 = .ok (.iconst 0, 1) := by decide +kernel
theorem dL_law_882 : decode cL_law 882 = .ok (.istore 24, 2) := by decide +kernel
theorem dL_law_884 : decode cL_law 884 = .ok (.iload 24, 2) := by decide +kernel
theorem dL_law_886 : decode cL_law 886 = .ok (.aload_n 1, 1) := by decide +kernel
theorem dL_law_887 : decode cL_law 887 = .ok (.iconst 1, 1) := by decide +kernel
theorem dL_law_888 : decode cL_law 888 = .ok (.invokevirtual 47, 3) := by decide +kernel
theorem dL_law_891 : decode cL_law 891 = .ok (.if_icmp .ge 145, 3) := by decide +kernel
theorem dL_law_894 : decode cL_law 894 = .ok (.aload_n 1, 1) := by decide +kernel
theorem dL_law_895 : decode cL_law 895 = .ok (.iload 24, 2) := by decide +kernel
theorem dL_law_897 : decode cL_law 897 = .ok (.iconst 0, 1) := by decide +kernel
theorem dL_law_898 : decode cL_law 898 = .ok (.invokevirtual 90, 3) := by decide +kernel
theorem dL_law_901 : decode cL_law 901 = .ok (.istore 25, 2) := by decide +kernel
theorem dL_law_903 : decode cL_law 903 = .ok (.aload 20, 2) := by decide +kernel
theorem dL_law_905 : decode cL_law 905 = .ok (.iload 25, 2) := by decide +kernel
theorem dL_law_907 : decode cL_law 907 = .ok (.dup2, 1) := by decide +kernel
theorem dL_law_908 : decode cL_law 908 = .ok (.iaload, 1) := by decide +kernel
theorem dL_law_909 : decode cL_law 909 = .ok (.aload_n 3, 1) := by decide +kernel
theorem dL_law_910 : decode cL_law 910 = .ok (.aload_n 1, 1) := by decide +kernel
theorem dL_law_911 : decode cL_law 911 = .ok (.iload 24, 2) := by decide +kernel
theorem dL_law_913 : decode cL_law 913 = .ok (.iconst 1, 1) := by decide +kernel
theorem dL_law_914 : decode cL_law 914 = .ok (.invokevirtual 90, 3) := by decide +kernel
theorem dL_law_917 : decode cL_law 917 = .ok (.iaload, 1) := by decide +kernel
theorem dL_law_918 : decode cL_law 918 = .ok (.iadd, 1) := by decide +kernel
theorem dL_law_919 : decode cL_law 919 = .ok (.iastore, 1) := by decide +kernel
theorem dL_law_920 : decode cL_law 920 = .ok (.aload 21, 2) := by decide +kernel
theorem dL_law_922 : decode cL_law 922 = .ok (.iload 25, 2) := by decide +kernel
theorem dL_law_924 : decode cL_law 924 = .ok (.dup2, 1) := by decide +kernel
theorem dL_law_925 : decode cL_law 925 = .ok (.iaload, 1) := by decide +kernel
theorem dL_law_926 : decode cL_law 926 = .ok (.iconst 1, 1) := by decide +kernel
theorem dL_law_927 : decode cL_law 927 = .ok (.iadd, 1) := by decide +kernel
theorem dL_law_928 : decode cL_law 928 = .ok (.iastore, 1) := by decide +kernel
theorem dL_law_929 : decode cL_law 929 = .ok (.aload_n 1, 1) := by decide +kernel
theorem dL_law_930 : decode cL_law 930 = .ok (.iload 24, 2) := by decide +kernel
theorem dL_law_932 : decode cL_law 932 = .ok (.iconst 2, 1) := by decide +kernel
theorem dL_law_933 : decode cL_law 933 = .ok (.invokevirtual 90, 3) := by decide +kernel
theorem dL_law_936 : decode cL_law 936 = .ok (.istore 26, 2) := by decide +kernel
theorem dL_law_938 : decode cL_law 938 = .ok (.iload 26, 2) := by decide +kernel
theorem dL_law_940 : decode cL_law 940 = .ok (.ifCond .ge 6, 3) := by decide +kernel
theorem dL_law_943 : decode cL_law 943 = .ok (.goto 87, 3) := by decide +kernel
theorem dL_law_946 : decode cL_law 946 = .ok (.aload 22, 2) := by decide +kernel
theorem dL_law_948 : decode cL_law 948 = .ok (.iload 26, 2) := by decide +kernel
theorem dL_law_950 : decode cL_law 950 = .ok (.aaload, 1) := by decide +kernel
theorem dL_law_951 : decode cL_law 951 = .ok (.aload_n 1, 1) := by decide +kernel
theorem dL_law_952 : decode cL_law 952 = .ok (.iload 24, 2) := by decide +kernel
theorem dL_law_954 : decode cL_law 954 = .ok (.iconst 1, 1) := by decide +kernel
theorem dL_law_955 : decode cL_law 955 = .ok (.invokevirtual 90, 3) := by decide +kernel
theorem dL_law_958 : decode cL_law 958 = .ok (.dup2, 1) := by decide +kernel
theorem dL_law_959 : decode cL_law 959 = .ok (.iaload, 1) := by decide +kernel
theorem dL_law_960 : decode cL_law 960 = .ok (.iconst 1, 1) := by decide +kernel
theorem dL_law_961 : decode cL_law 961 = .ok (.iadd, 1) := by decide +kernel
theorem dL_law_962 : decode cL_law 962 = .ok (.iastore, 1) := by decide +kernel
theorem dL_law_963 : decode cL_law 963 = .ok (.aload 23, 2) := by decide +kernel
theorem dL_law_965 : decode cL_law 965 = .ok (.iload 26, 2) := by decide +kernel
theorem dL_law_967 : decode cL_law 967 = .ok (.dup2, 1) := by decide +kernel
theorem dL_law_968 : decode cL_law 968 = .ok (.iaload, 1) := by decide +kernel
theorem dL_law_969 : decode cL_law 969 = .ok (.aload_n 1, 1) := by decide +kernel
theorem dL_law_970 : decode cL_law 970 = .ok (.iload 24, 2) := by decide +kernel
theorem dL_law_972 : decode cL_law 972 = .ok (.iconst 3, 1) := by decide +kernel
theorem dL_law_973 : decode cL_law 973 = .ok (.invokevirtual 90, 3) := by decide +kernel
theorem dL_law_976 : decode cL_law 976 = .ok (.iadd, 1) := by decide +kernel
theorem dL_law_977 : decode cL_law 977 = .ok (.iastore, 1) := by decide +kernel
theorem dL_law_978 : decode cL_law 978 = .ok (.aload_n 1, 1) := by decide +kernel
theorem dL_law_979 : decode cL_law 979 = .ok (.iload 25, 2) := by decide +kernel
theorem dL_law_981 : decode cL_law 981 = .ok (.iconst 0, 1) := by decide +kernel
theorem dL_law_982 : decode cL_law 982 = .ok (.invokevirtual 85, 3) := by decide +kernel
theorem dL_law_985 : decode cL_law 985 = .ok (.aload_n 1, 1) := by decide +kernel
theorem dL_law_986 : decode cL_law 986 = .ok (.iload 26, 2) := by decide +kernel
theorem dL_law_988 : decode cL_law 988 = .ok (.iconst 0, 1) := by decide +kernel
theorem dL_law_989 : decode cL_law 989 = .ok (.invokevirtual 96, 3) := by decide +kernel
theorem dL_law_992 : decode cL_law 992 = .ok (.if_icmp .ne 36, 3) := by decide +kernel
theorem dL_law_995 : decode cL_law 995 = .ok (.aload_n 1, 1) := by decide +kernel
theorem dL_law_996 : decode cL_law 996 = .ok (.iload 24, 2) := by decide +kernel
theorem dL_law_998 : decode cL_law 998 = .ok (.iconst 1, 1) := by decide +kernel
theorem dL_law_999 : decode cL_law 999 = .ok (.invokevirtual 90, 3) := by decide +kernel
theorem dL_law_1002 : decode cL_law 1002 = .ok (.ifCond .ne 15, 3) := by decide +kernel
theorem dL_law_1005 : decode cL_law 1005 = .ok (.iload 25, 2) := by decide +kernel
theorem dL_law_1007 : decode cL_law 1007 = .ok (.aload_n 1, 1) := by decide +kernel
theorem dL_law_1008 : decode cL_law 1008 = .ok (.iload 26, 2) := by decide +kernel
theorem dL_law_1010 : decode cL_law 1010 = .ok (.iconst 1, 1) := by decide +kernel
theorem dL_law_1011 : decode cL_law 1011 = .ok (.invokevirtual 96, 3) := by decide +kernel
theorem dL_law_1014 : decode cL_law 1014 = .ok (.if_icmp .ne 14, 3) := by decide +kernel
theorem dL_law_1017 : decode cL_law 1017 = .ok (.aload_n 1, 1) := by decide +kernel
theorem dL_law_1018 : decode cL_law 1018 = .ok (.iload 26, 2) := by decide +kernel
theorem dL_law_1020 : decode cL_law 1020 = .ok (.iconst 4, 1) := by decide +kernel
theorem dL_law_1021 : decode cL_law 1021 = .ok (.invokevirtual 96, 3) := by decide +kernel
theorem dL_law_1024 : decode cL_law 1024 = .ok (.iconst 1, 1) := by decide +kernel
theorem dL_law_1025 : decode cL_law 1025 = .ok (.if_icmp .ne 5, 3) := by decide +kernel
theorem dL_law_1028 : decode cL_law 1028 = .ok (.iconst 0, 1) := by decide +kernel
theorem dL_law_1029 : decode cL_law 1029 = .ok (.ireturn, 1) := by decide +kernel
theorem dL_law_1030 : decode cL_law 1030 = .ok (.iinc 24 1, 3) := by decide +kernel
theorem dL_law_1033 : decode cL_law 1033 = .ok (.goto (-149), 3) := by decide +kernel
theorem dL_law_1036 : decode cL_law 1036 = .ok (.iconst 0, 1) := by decide +kernel
theorem dL_law_1037 : decode cL_law 1037 = .ok (.istore 24, 2) := by decide +kernel
theorem dL_law_1039 : decode cL_law 1039 = .ok (.iload 24, 2) := by decide +kernel
theorem dL_law_1041 : decode cL_law 1041 = .ok (.aload_n 1, 1) := by decide +kernel
theorem dL_law_1042 : decode cL_law 1042 = .ok (.iconst 5, 1) := by decide +kernel
theorem dL_law_1043 : decode cL_law 1043 = .ok (.invokevirtual 47, 3) := by decide +kernel
theorem dL_law_1046 : decode cL_law 1046 = .ok (.if_icmp .ge 134, 3) := by decide +kernel
theorem dL_law_1049 : decode cL_law 1049 = .ok (.aload_n 1, 1) := by decide +kernel
theorem dL_law_1050 : decode cL_law 1050 = .ok (.iload 24, 2) := by decide +kernel
theorem dL_law_1052 : decode cL_law 1052 = .ok (.iconst 4, 1) := by decide +kernel
theorem dL_law_1053 : decode cL_law 1053 = .ok (.invokevirtual 96, 3) := by decide +kernel
theorem dL_law_1056 : decode cL_law 1056 = .ok (.ifCond .ne 7, 3) := by decide +kernel
theorem dL_law_1059 : decode cL_law 1059 = .ok (.iconst 1, 1) := by decide +kernel
theorem dL_law_1060 : decode cL_law 1060 = .ok (.goto 4, 3) := by decide +kernel
theorem dL_law_1063 : decode cL_law 1063 = .ok (.iconst 0, 1) := by decide +kernel
theorem dL_law_1064 : decode cL_law 1064 = .ok (.istore 25, 2) := by decide +kernel
theorem dL_law_1066 : decode cL_law 1066 = .ok (.iconst 4, 1) := by decide +kernel
theorem dL_law_1067 : decode cL_law 1067 = .ok (.newarray .int, 2) := by decide +kernel
theorem dL_law_1069 : decode cL_law 1069 = .ok (.dup, 1) := by decide +kernel
theorem dL_law_1070 : decode cL_law 1070 = .ok (.iconst 0, 1) := by decide +kernel
theorem dL_law_1071 : decode cL_law 1071 = .ok (.iconst 2, 1) := by decide +kernel
theorem dL_law_1072 : decode cL_law 1072 = .ok (.iastore, 1) := by decide +kernel
theorem dL_law_1073 : decode cL_law 1073 = .ok (.dup, 1) := by decide +kernel
theorem dL_law_1074 : decode cL_law 1074 = .ok (.iconst 1, 1) := by decide +kernel
theorem dL_law_1075 : decode cL_law 1075 = .ok (.iconst 2, 1) := by decide +kernel
theorem dL_law_1076 : decode cL_law 1076 = .ok (.iastore, 1) := by decide +kernel
theorem dL_law_1077 : decode cL_law 1077 = .ok (.dup, 1) := by decide +kernel
theorem dL_law_1078 : decode cL_law 1078 = .ok (.iconst 2, 1) := by decide +kernel
theorem dL_law_1079 : decode cL_law 1079 = .ok (.bipush 6, 2) := by decide +kernel
theorem dL_law_1081 : decode cL_law 1081 = .ok (.iastore, 1) := by decide +kernel
theorem dL_law_1082 : decode cL_law 1082 = .ok (.dup, 1) := by decide +kernel
theorem dL_law_1083 : decode cL_law 1083 = .ok (.iconst 3, 1) := by decide +kernel
theorem dL_law_1084 : decode cL_law 1084 = .ok (.iconst 4, 1) := by decide +kernel
theorem dL_law_1085 : decode cL_law 1085 = .ok (.iastore, 1) := by decide +kernel
theorem dL_law_1086 : decode cL_law 1086 = .ok (.astore 26, 2) := by decide +kernel
theorem dL_law_1088 : decode cL_law 1088 = .ok (.iconst 0, 1) := by decide +kernel
theorem dL_law_1089 : decode cL_law 1089 = .ok (.istore 27, 2) := by decide +kernel
theorem dL_law_1091 : decode cL_law 1091 = .ok (.iload 27, 2) := by decide +kernel
theorem dL_law_1093 : decode cL_law 1093 = .ok (.iconst 4, 1) := by decide +kernel
theorem dL_law_1094 : decode cL_law 1094 = .ok (.if_icmp .ge 36, 3) := by decide +kernel
theorem dL_law_1097 : decode cL_law 1097 = .ok (.aload 22, 2) := by decide +kernel
theorem dL_law_1099 : decode cL_law 1099 = .ok (.iload 24, 2) := by decide +kernel
theorem dL_law_1101 : decode cL_law 1101 = .ok (.aaload, 1) := by decide +kernel
theorem dL_law_1102 : decode cL_law 1102 = .ok (.iload 27, 2) := by decide +kernel
theorem dL_law_1104 : decode cL_law 1104 = .ok (.iaload, 1) := by decide +kernel
theorem dL_law_1105 : decode cL_law 1105 = .ok (.iload 25, 2) := by decide +kernel
theorem dL_law_1107 : decode cL_law 1107 = .ok (.ifCond .eq 11, 3) := by decide +kernel
theorem dL_law_1110 : decode cL_law 1110 = .ok (.aload 26, 2) := by decide +kernel
theorem dL_law_1112 : decode cL_law 1112 = .ok (.iload 27, 2) := by decide +kernel
theorem dL_law_1114 : decode cL_law 1114 = .ok (.iaload, 1) := by decide +kernel
theorem dL_law_1115 : decode cL_law 1115 = .ok (.goto 4, 3) := by decide +kernel
theorem dL_law_1118 : decode cL_law 1118 = .ok (.iconst 0, 1) := by decide +kernel
theorem dL_law_1119 : decode cL_law 1119 = .ok (.if_icmp .eq 5, 3) := by decide +kernel
theorem dL_law_1122 : decode cL_law 1122 = .ok (.iconst 0, 1) := by decide +kernel
theorem dL_law_1123 : decode cL_law 1123 = .ok (.ireturn, 1) := by decide +kernel
theorem dL_law_1124 : decode cL_law 1124 = .ok (.iinc 27 1, 3) := by decide +kernel
theorem dL_law_1127 : decode cL_law 1127 = .ok (.goto (-36), 3) := by decide +kernel
theorem dL_law_1130 : decode cL_law 1130 = .ok (.iload 25, 2) := by decide +kernel
theorem dL_law_1132 : decode cL_law 1132 = .ok (.ifCond .eq 18, 3) := by decide +kernel
theorem dL_law_1135 : decode cL_law 1135 = .ok (.aload_n 1, 1) := by decide +kernel
theorem dL_law_1136 : decode cL_law 1136 = .ok (.iload 24, 2) := by decide +kernel
theorem dL_law_1138 : decode cL_law 1138 = .ok (.iconst 3, 1) := by decide +kernel
theorem dL_law_1139 : decode cL_law 1139 = .ok (.invokevirtual 96, 3) := by decide +kernel
theorem dL_law_1142 : decode cL_law 1142 = .ok (.aload 23, 2) := by decide +kernel
theorem dL_law_1144 : decode cL_law 1144 = .ok (.iload 24, 2) := by decide +kernel
theorem dL_law_1146 : decode cL_law 1146 = .ok (.iaload, 1) := by decide +kernel
theorem dL_law_1147 : decode cL_law 1147 = .ok (.if_icmp .ne 25, 3) := by decide +kernel
theorem dL_law_1150 : decode cL_law 1150 = .ok (.aload_n 1, 1) := by decide +kernel
theorem dL_law_1151 : decode cL_law 1151 = .ok (.iload 24, 2) := by decide +kernel
theorem dL_law_1153 : decode cL_law 1153 = .ok (.iconst 2, 1) := by decide +kernel
theorem dL_law_1154 : decode cL_law 1154 = .ok (.invokevirtual 96, 3) := by decide +kernel
theorem dL_law_1157 : decode cL_law 1157 = .ok (.iconst 1, 1) := by decide +kernel
theorem dL_law_1158 : decode cL_law 1158 = .ok (.if_icmp .lt 14, 3) := by decide +kernel
theorem dL_law_1161 : decode cL_law 1161 = .ok (.aload_n 1, 1) := by decide +kernel
theorem dL_law_1162 : decode cL_law 1162 = .ok (.iload 24, 2) := by decide +kernel
theorem dL_law_1164 : decode cL_law 1164 = .ok (.iconst 2, 1) := by decide +kernel
theorem dL_law_1165 : decode cL_law 1165 = .ok (.invokevirtual 96, 3) := by decide +kernel
theorem dL_law_1168 : decode cL_law 1168 = .ok (.iload_n 2, 1) := by decide +kernel
theorem dL_law_1169 : decode cL_law 1169 = .ok (.if_icmp .le 5, 3) := by decide +kernel
theorem dL_law_1172 : decode cL_law 1172 = .ok (.iconst 0, 1) := by decide +kernel
theorem dL_law_1173 : decode cL_law 1173 = .ok (.ireturn, 1) := by decide +kernel
theorem dL_law_1174 : decode cL_law 1174 = .ok (.iinc 24 1, 3) := by decide +kernel
theorem dL_law_1177 : decode cL_law 1177 = .ok (.goto (-138), 3) := by decide +kernel
theorem dL_law_1180 : decode cL_law 1180 = .ok (.iconst 0, 1) := by decide +kernel
theorem dL_law_1181 : decode cL_law 1181 = .ok (.istore 24, 2) := by decide +kernel
theorem dL_law_1183 : decode cL_law 1183 = .ok (.iconst 0, 1) := by decide +kernel
theorem dL_law_1184 : decode cL_law 1184 = .ok (.istore 25, 2) := by decide +kernel
theorem dL_law_1186 : decode cL_law 1186 = .ok (.iconst 0, 1) := by decide +kernel
theorem dL_law_1187 : decode cL_law 1187 = .ok (.istore 26, 2) := by decide +kernel
theorem dL_law_1189 : decode cL_law 1189 = .ok (.iload 26, 2) := by decide +kernel
theorem dL_law_1191 : decode cL_law 1191 = .ok (.iload_n 2, 1) := by decide +kernel
theorem dL_law_1192 : decode cL_law 1192 = .ok (.if_icmp .ge 100, 3) := by decide +kernel
theorem dL_law_1195 : decode cL_law 1195 = .ok (.aload_n 1, 1) := by decide +kernel
theorem dL_law_1196 : decode cL_law 1196 = .ok (.iload 26, 2) := by decide +kernel
theorem dL_law_1198 : decode cL_law 1198 = .ok (.iconst 4, 1) := by decide +kernel
theorem dL_law_1199 : decode cL_law 1199 = .ok (.invokevirtual 85, 3) := by decide +kernel
theorem dL_law_1202 : decode cL_law 1202 = .ok (.aload 20, 2) := by decide +kernel
theorem dL_law_1204 : decode cL_law 1204 = .ok (.iload 26, 2) := by decide +kernel
theorem dL_law_1206 : decode cL_law 1206 = .ok (.iaload, 1) := by decide +kernel
theorem dL_law_1207 : decode cL_law 1207 = .ok (.if_icmp .ne 52, 3) := by decide +kernel
theorem dL_law_1210 : decode cL_law 1210 = .ok (.aload_n 1, 1) := by decide +kernel
theorem dL_law_1211 : decode cL_law 1211 = .ok (.iload 26, 2) := by decide +kernel
theorem dL_law_1213 : decode cL_law 1213 = .ok (.iconst 5, 1) := by decide +kernel
theorem dL_law_1214 : decode cL_law 1214 = .ok (.invokevirtual 85, 3) := by decide +kernel
theorem dL_law_1217 : decode cL_law 1217 = .ok (.aload 21, 2) := by decide +kernel
theorem dL_law_1219 : decode cL_law 1219 = .ok (.iload 26, 2) := by decide +kernel
theorem dL_law_1221 : decode cL_law 1221 = .ok (.iaload, 1) := by decide +kernel
theorem dL_law_1222 : decode cL_law 1222 = .ok (.if_icmp .ne 37, 3) := by decide +kernel
theorem dL_law_1225 : decode cL_law 1225 = .ok (.aload_n 1, 1) := by decide +kernel
theorem dL_law_1226 : decode cL_law 1226 = .ok (.iload 26, 2) := by decide +kernel
theorem dL_law_1228 : decode cL_law 1228 = .ok (.iconst 1, 1) := by decide +kernel
theorem dL_law_1229 : decode cL_law 1229 = .ok (.invokevirtual 85, 3) := by decide +kernel
theorem dL_law_1232 : decode cL_law 1232 = .ok (.aload_n 1, 1) := by decide +kernel
theorem dL_law_1233 : decode cL_law 1233 = .ok (.iload 26, 2) := by decide +kernel
theorem dL_law_1235 : decode cL_law 1235 = .ok (.iconst 2, 1) := by decide +kernel
theorem dL_law_1236 : decode cL_law 1236 = .ok (.invokevirtual 85, 3) := by decide +kernel
theorem dL_law_1239 : decode cL_law 1239 = .ok (.iadd, 1) := by decide +kernel
theorem dL_law_1240 : decode cL_law 1240 = .ok (.aload_n 1, 1) := by decide +kernel
theorem dL_law_1241 : decode cL_law 1241 = .ok (.iload 26, 2) := by decide +kernel
theorem dL_law_1243 : decode cL_law 1243 = .ok (.iconst 3, 1) := by decide +kernel
theorem dL_law_1244 : decode cL_law 1244 = .ok (.invokevirtual 85, 3) := by decide +kernel
theorem dL_law_1247 : decode cL_law 1247 = .ok (.iadd, 1) := by decide +kernel
theorem dL_law_1248 : decode cL_law 1248 = .ok (.aload 20, 2) := by decide +kernel
theorem dL_law_1250 : decode cL_law 1250 = .ok (.iload 26, 2) := by decide +kernel
theorem dL_law_1252 : decode cL_law 1252 = .ok (.iaload, 1) := by decide +kernel
theorem dL_law_1253 : decode cL_law 1253 = .ok (.iadd, 1) := by decide +kernel
theorem dL_law_1254 : decode cL_law 1254 = .ok (.bipush 96, 2) := by decide +kernel
theorem dL_law_1256 : decode cL_law 1256 = .ok (.if_icmp .eq 5, 3) := by decide +kernel
theorem dL_law_1259 : decode cL_law 1259 = .ok (.iconst 0, 1) := by decide +kernel
theorem dL_law_1260 : decode cL_law 1260 = .ok (.ireturn, 1) := by decide +kernel
theorem dL_law_1261 : decode cL_law 1261 = .ok (.iload 24, 2) := by decide +kernel
theorem dL_law_1263 : decode cL_law 1263 = .ok (.aload 20, 2) := by decide +kernel
theorem dL_law_1265 : decode cL_law 1265 = .ok (.iload 26, 2) := by decide +kernel
theorem dL_law_1267 : decode cL_law 1267 = .ok (.iaload, 1) := by decide +kernel
theorem dL_law_1268 : decode cL_law 1268 = .ok (.iadd, 1) := by decide +kernel
theorem dL_law_1269 : decode cL_law 1269 = .ok (.istore 24, 2) := by decide +kernel
theorem dL_law_1271 : decode cL_law 1271 = .ok (.iload 25, 2) := by decide +kernel
theorem dL_law_1273 : decode cL_law 1273 = .ok (.bipush 96, 2) := by decide +kernel
theorem dL_law_1275 : decode cL_law 1275 = .ok (.aload_n 1, 1) := by decide +kernel
theorem dL_law_1276 : decode cL_law 1276 = .ok (.iload 26, 2) := by decide +kernel
theorem dL_law_1278 : decode cL_law 1278 = .ok (.iconst 3, 1) := by decide +kernel
theorem dL_law_1279 : decode cL_law 1279 = .ok (.invokevirtual 85, 3) := by decide +kernel
theorem dL_law_1282 : decode cL_law 1282 = .ok (.isub, 1) := by decide +kernel
theorem dL_law_1283 : decode cL_law 1283 = .ok (.iadd, 1) := by decide +kernel
theorem dL_law_1284 : decode cL_law 1284 = .ok (.istore 25, 2) := by decide +kernel
theorem dL_law_1286 : decode cL_law 1286 = .ok (.iinc 26 1, 3) := by decide +kernel
theorem dL_law_1289 : decode cL_law 1289 = .ok (.goto (-100), 3) := by decide +kernel
theorem dL_law_1292 : decode cL_law 1292 = .ok (.aload_n 1, 1) := by decide +kernel
theorem dL_law_1293 : decode cL_law 1293 = .ok (.iconst 2, 1) := by decide +kernel
theorem dL_law_1294 : decode cL_law 1294 = .ok (.invokevirtual 47, 3) := by decide +kernel
theorem dL_law_1297 : decode cL_law 1297 = .ok (.aload_n 1, 1) := by decide +kernel
theorem dL_law_1298 : decode cL_law 1298 = .ok (.iconst 3, 1) := by decide +kernel
theorem dL_law_1299 : decode cL_law 1299 = .ok (.invokevirtual 47, 3) := by decide +kernel
theorem dL_law_1302 : decode cL_law 1302 = .ok (.iadd, 1) := by decide +kernel
theorem dL_law_1303 : decode cL_law 1303 = .ok (.aload_n 1, 1) := by decide +kernel
theorem dL_law_1304 : decode cL_law 1304 = .ok (.iconst 4, 1) := by decide +kernel
theorem dL_law_1305 : decode cL_law 1305 = .ok (.invokevirtual 47, 3) := by decide +kernel
theorem dL_law_1308 : decode cL_law 1308 = .ok (.iadd, 1) := by decide +kernel
theorem dL_law_1309 : decode cL_law 1309 = .ok (.aload_n 1, 1) := by decide +kernel
theorem dL_law_1310 : decode cL_law 1310 = .ok (.iconst 1, 1) := by decide +kernel
theorem dL_law_1311 : decode cL_law 1311 = .ok (.invokevirtual 47, 3) := by decide +kernel
theorem dL_law_1314 : decode cL_law 1314 = .ok (.if_icmp .ne 67, 3) := by decide +kernel
theorem dL_law_1317 : decode cL_law 1317 = .ok (.aload_n 1, 1) := by decide +kernel
theorem dL_law_1318 : decode cL_law 1318 = .ok (.iconst 3, 1) := by decide +kernel
theorem dL_law_1319 : decode cL_law 1319 = .ok (.invokevirtual 47, 3) := by decide +kernel
theorem dL_law_1322 : decode cL_law 1322 = .ok (.bipush 14, 2) := by decide +kernel
theorem dL_law_1324 : decode cL_law 1324 = .ok (.aload_n 1, 1) := by decide +kernel
theorem dL_law_1325 : decode cL_law 1325 = .ok (.bipush 6, 2) := by decide +kernel
theorem dL_law_1327 : decode cL_law 1327 = .ok (.invokevirtual 47, 3) := by decide +kernel
theorem dL_law_1330 : decode cL_law 1330 = .ok (.imul, 1) := by decide +kernel
theorem dL_law_1331 : decode cL_law 1331 = .ok (.if_icmp .ne 50, 3) := by decide +kernel
theorem dL_law_1334 : decode cL_law 1334 = .ok (.aload_n 1, 1) := by decide +kernel
theorem dL_law_1335 : decode cL_law 1335 = .ok (.iconst 4, 1) := by decide +kernel
theorem dL_law_1336 : decode cL_law 1336 = .ok (.invokevirtual 47, 3) := by decide +kernel
theorem dL_law_1339 : decode cL_law 1339 = .ok (.bipush 6, 2) := by decide +kernel
theorem dL_law_1341 : decode cL_law 1341 = .ok (.aload_n 1, 1) := by decide +kernel
theorem dL_law_1342 : decode cL_law 1342 = .ok (.iconst 5, 1) := by decide +kernel
theorem dL_law_1343 : decode cL_law 1343 = .ok (.invokevirtual 47, 3) := by decide +kernel
theorem dL_law_1346 : decode cL_law 1346 = .ok (.aload_n 1, 1) := by decide +kernel
theorem dL_law_1347 : decode cL_law 1347 = .ok (.bipush 6, 2) := by decide +kernel
theorem dL_law_1349 : decode cL_law 1349 = .ok (.invokevirtual 47, 3) := by decide +kernel
theorem dL_law_1352 : decode cL_law 1352 = .ok (.isub, 1) := by decide +kernel
theorem dL_law_1353 : decode cL_law 1353 = .ok (.imul, 1) := by decide +kernel
theorem dL_law_1354 : decode cL_law 1354 = .ok (.if_icmp .ne 27, 3) := by decide +kernel
theorem dL_law_1357 : decode cL_law 1357 = .ok (.aload_n 1, 1) := by decide +kernel
theorem dL_law_1358 : decode cL_law 1358 = .ok (.invokevirtual 99, 3) := by decide +kernel
theorem dL_law_1361 : decode cL_law 1361 = .ok (.iload 25, 2) := by decide +kernel
theorem dL_law_1363 : decode cL_law 1363 = .ok (.ifCond .ne 7, 3) := by decide +kernel
theorem dL_law_1366 : decode cL_law 1366 = .ok (.dconst 0, 1) := by decide +kernel
theorem dL_law_1367 : decode cL_law 1367 = .ok (.goto 10, 3) := by decide +kernel
theorem dL_law_1370 : decode cL_law 1370 = .ok (.iload 24, 2) := by decide +kernel
theorem dL_law_1372 : decode cL_law 1372 = .ok (.i2d, 1) := by decide +kernel
theorem dL_law_1373 : decode cL_law 1373 = .ok (.iload 25, 2) := by decide +kernel
theorem dL_law_1375 : decode cL_law 1375 = .ok (.i2d, 1) := by decide +kernel
theorem dL_law_1376 : decode cL_law 1376 = .ok (.ddiv, 1) := by decide +kernel
theorem dL_law_1377 : decode cL_law 1377 = .ok (.dcmp .l, 1) := by decide +kernel
theorem dL_law_1378 : decode cL_law 1378 = .ok (.ifCond .eq 5, 3) := by decide +kernel
theorem dL_law_1381 : decode cL_law 1381 = .ok (.iconst 0, 1) := by decide +kernel
theorem dL_law_1382 : decode cL_law 1382 = .ok (.ireturn, 1) := by decide +kernel
theorem dL_law_1383 : decode cL_law 1383 = .ok (.iconst 0, 1) := by decide +kernel
theorem dL_law_1384 : decode cL_law 1384 = .ok (.istore 26, 2) := by decide +kernel
theorem dL_law_1386 : decode cL_law 1386 = .ok (.iload 26, 2) := by decide +kernel
theorem dL_law_1388 : decode cL_law 1388 = .ok (.bipush 6, 2) := by decide +kernel
theorem dL_law_1390 : decode cL_law 1390 = .ok (.if_icmp .ge 69, 3) := by decide +kernel
theorem dL_law_1393 : decode cL_law 1393 = .ok (.iconst 0, 1) := by decide +kernel
theorem dL_law_1394 : decode cL_law 1394 = .ok (.istore 27, 2) := by decide +kernel
theorem dL_law_1396 : decode cL_law 1396 = .ok (.iconst 0, 1) := by decide +kernel
theorem dL_law_1397 : decode cL_law 1397 = .ok (.istore 28, 2) := by decide +kernel
theorem dL_law_1399 : decode cL_law 1399 = .ok (.iload 28, 2) := by decide +kernel
theorem dL_law_1401 : decode cL_law 1401 = .ok (.iconst 4, 1) := by decide +kernel
theorem dL_law_1402 : decode cL_law 1402 = .ok (.if_icmp .ge 22, 3) := by decide +kernel
theorem dL_law_1405 : decode cL_law 1405 = .ok (.iload 27, 2) := by decide +kernel
theorem dL_law_1407 : decode cL_law 1407 = .ok (.aload_n 1, 1) := by decide +kernel
theorem dL_law_1408 : decode cL_law 1408 = .ok (.iload 26, 2) := by decide +kernel
theorem dL_law_1410 : decode cL_law 1410 = .ok (.iload 28, 2) := by decide +kernel
theorem dL_law_1412 : decode cL_law 1412 = .ok (.invokevirtual 103, 3) := by decide +kernel
theorem dL_law_1415 : decode cL_law 1415 = .ok (.iadd, 1) := by decide +kernel
theorem dL_law_1416 : decode cL_law 1416 = .ok (.istore 27, 2) := by decide +kernel
theorem dL_law_1418 : decode cL_law 1418 = .ok (.iinc 28 1, 3) := by decide +kernel
theorem dL_law_1421 : decode cL_law 1421 = .ok (.goto (-22), 3) := by decide +kernel
theorem dL_law_1424 : decode cL_law 1424 = .ok (.iload 27, 2) := by decide +kernel
theorem dL_law_1426 : decode cL_law 1426 = .ok (.ifCond .ne 7, 3) := by decide +kernel
theorem dL_law_1429 : decode cL_law 1429 = .ok (.iconst 1, 1) := by decide +kernel
theorem dL_law_1430 : decode cL_law 1430 = .ok (.goto 4, 3) := by decide +kernel
theorem dL_law_1433 : decode cL_law 1433 = .ok (.iconst 0, 1) := by decide +kernel
theorem dL_law_1434 : decode cL_law 1434 = .ok (.aload_n 1, 1) := by decide +kernel
theorem dL_law_1435 : decode cL_law 1435 = .ok (.iload 26, 2) := by decide +kernel
theorem dL_law_1437 : decode cL_law 1437 = .ok (.invokevirtual 82, 3) := by decide +kernel
theorem dL_law_1440 : decode cL_law 1440 = .ok (.ifCond .le 7, 3) := by decide +kernel
theorem dL_law_1443 : decode cL_law 1443 = .ok (.iconst 1, 1) := by decide +kernel
theorem dL_law_1444 : decode cL_law 1444 = .ok (.goto 4, 3) := by decide +kernel
theorem dL_law_1447 : decode cL_law 1447 = .ok (.iconst 0, 1) := by decide +kernel
theorem dL_law_1448 : decode cL_law 1448 = .ok (.if_icmp .eq 5, 3) := by decide +kernel
theorem dL_law_1451 : decode cL_law 1451 = .ok (.iconst 0, 1) := by decide +kernel
theorem dL_law_1452 : decode cL_law 1452 = .ok (.ireturn, 1) := by decide +kernel
theorem dL_law_1453 : decode cL_law 1453 = .ok (.iinc 26 1, 3) := by decide +kernel
theorem dL_law_1456 : decode cL_law 1456 = .ok (.goto (-70), 3) := by decide +kernel
theorem dL_law_1459 : decode cL_law 1459 = .ok (.iinc 4 1, 3) := by decide +kernel
theorem dL_law_1462 : decode cL_law 1462 = .ok (.goto (-1427), 3) := by decide +kernel
theorem dL_law_1465 : decode cL_law 1465 = .ok (.iconst 1, 1) := by decide +kernel
theorem dL_law_1466 : decode cL_law 1466 = .ok (.ireturn, 1) := by decide +kernel
