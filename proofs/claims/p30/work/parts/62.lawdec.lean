/-! The law's bytes, read. -/
theorem dL_law_0 : decode cL_law 0 = .ok (.aload_n 0, 1) := by decide +kernel
theorem dL_law_1 : decode cL_law 1 = .ok (.invokestatic 27, 3) := by decide +kernel
theorem dL_law_4 : decode cL_law 4 = .ok (.astore_n 1, 1) := by decide +kernel
theorem dL_law_5 : decode cL_law 5 = .ok (.aload_n 1, 1) := by decide +kernel
theorem dL_law_6 : decode cL_law 6 = .ok (.iconst 0, 1) := by decide +kernel
theorem dL_law_7 : decode cL_law 7 = .ok (.invokevirtual 31, 3) := by decide +kernel
theorem dL_law_10 : decode cL_law 10 = .ok (.istore_n 2, 1) := by decide +kernel
theorem dL_law_11 : decode cL_law 11 = .ok (.aload_n 1, 1) := by decide +kernel
theorem dL_law_12 : decode cL_law 12 = .ok (.invokevirtual 34, 3) := by decide +kernel
theorem dL_law_15 : decode cL_law 15 = .ok (.istore_n 3, 1) := by decide +kernel
theorem dL_law_16 : decode cL_law 16 = .ok (.aload_n 1, 1) := by decide +kernel
theorem dL_law_17 : decode cL_law 17 = .ok (.invokevirtual 38, 3) := by decide +kernel
theorem dL_law_20 : decode cL_law 20 = .ok (.istore 4, 2) := by decide +kernel
theorem dL_law_22 : decode cL_law 22 = .ok (.aload_n 1, 1) := by decide +kernel
theorem dL_law_23 : decode cL_law 23 = .ok (.iconst 0, 1) := by decide +kernel
theorem dL_law_24 : decode cL_law 24 = .ok (.invokevirtual 41, 3) := by decide +kernel
theorem dL_law_27 : decode cL_law 27 = .ok (.istore 5, 2) := by decide +kernel
theorem dL_law_29 : decode cL_law 29 = .ok (.iconst 0, 1) := by decide +kernel
theorem dL_law_30 : decode cL_law 30 = .ok (.istore 6, 2) := by decide +kernel
theorem dL_law_32 : decode cL_law 32 = .ok (.iconst 0, 1) := by decide +kernel
theorem dL_law_33 : decode cL_law 33 = .ok (.istore 7, 2) := by decide +kernel
theorem dL_law_35 : decode cL_law 35 = .ok (.iload 7, 2) := by decide +kernel
theorem dL_law_37 : decode cL_law 37 = .ok (.iload 5, 2) := by decide +kernel
theorem dL_law_39 : decode cL_law 39 = .ok (.if_icmp .ge 232, 3) := by decide +kernel
theorem dL_law_42 : decode cL_law 42 = .ok (.aload_n 1, 1) := by decide +kernel
theorem dL_law_43 : decode cL_law 43 = .ok (.iload 7, 2) := by decide +kernel
theorem dL_law_45 : decode cL_law 45 = .ok (.iconst 2, 1) := by decide +kernel
theorem dL_law_46 : decode cL_law 46 = .ok (.invokevirtual 44, 3) := by decide +kernel
theorem dL_law_49 : decode cL_law 49 = .ok (.istore 8, 2) := by decide +kernel
theorem dL_law_51 : decode cL_law 51 = .ok (.aload_n 1, 1) := by decide +kernel
theorem dL_law_52 : decode cL_law 52 = .ok (.iload 7, 2) := by decide +kernel
theorem dL_law_54 : decode cL_law 54 = .ok (.iconst 1, 1) := by decide +kernel
theorem dL_law_55 : decode cL_law 55 = .ok (.invokevirtual 44, 3) := by decide +kernel
theorem dL_law_58 : decode cL_law 58 = .ok (.istore 9, 2) := by decide +kernel
theorem dL_law_60 : decode cL_law 60 = .ok (.aload_n 1, 1) := by decide +kernel
theorem dL_law_61 : decode cL_law 61 = .ok (.iload 7, 2) := by decide +kernel
theorem dL_law_63 : decode cL_law 63 = .ok (.iconst 0, 1) := by decide +kernel
theorem dL_law_64 : decode cL_law 64 = .ok (.invokevirtual 44, 3) := by decide +kernel
theorem dL_law_67 : decode cL_law 67 = .ok (.istore 10, 2) := by decide +kernel
theorem dL_law_69 : decode cL_law 69 = .ok (.iload 10, 2) := by decide +kernel
theorem dL_law_71 : decode cL_law 71 = .ok (.iload 9, 2) := by decide +kernel
theorem dL_law_73 : decode cL_law 73 = .ok (.iconst 1, 1) := by decide +kernel
theorem dL_law_74 : decode cL_law 74 = .ok (.if_icmp .ne 7, 3) := by decide +kernel
theorem dL_law_77 : decode cL_law 77 = .ok (.iconst 3, 1) := by decide +kernel
theorem dL_law_78 : decode cL_law 78 = .ok (.goto 25, 3) := by decide +kernel
theorem dL_law_81 : decode cL_law 81 = .ok (.iload 9, 2) := by decide +kernel
theorem dL_law_83 : decode cL_law 83 = .ok (.iconst 2, 1) := by decide +kernel
theorem dL_law_84 : decode cL_law 84 = .ok (.if_icmp .ne 7, 3) := by decide +kernel
theorem dL_law_87 : decode cL_law 87 = .ok (.iconst 4, 1) := by decide +kernel
theorem dL_law_88 : decode cL_law 88 = .ok (.goto 15, 3) := by decide +kernel
theorem dL_law_91 : decode cL_law 91 = .ok (.iload 9, 2) := by decide +kernel
theorem dL_law_93 : decode cL_law 93 = .ok (.iconst 2, 1) := by decide +kernel
theorem dL_law_94 : decode cL_law 94 = .ok (.irem, 1) := by decide +kernel
theorem dL_law_95 : decode cL_law 95 = .ok (.ifCond .ne 7, 3) := by decide +kernel
theorem dL_law_98 : decode cL_law 98 = .ok (.iconst 1, 1) := by decide +kernel
theorem dL_law_99 : decode cL_law 99 = .ok (.goto 4, 3) := by decide +kernel
theorem dL_law_102 : decode cL_law 102 = .ok (.iconst 2, 1) := by decide +kernel
theorem dL_law_103 : decode cL_law 103 = .ok (.if_icmp .ne 77, 3) := by decide +kernel
theorem dL_law_106 : decode cL_law 106 = .ok (.aload_n 1, 1) := by decide +kernel
theorem dL_law_107 : decode cL_law 107 = .ok (.iload 7, 2) := by decide +kernel
theorem dL_law_109 : decode cL_law 109 = .ok (.iload 10, 2) := by decide +kernel
theorem dL_law_111 : decode cL_law 111 = .ok (.invokevirtual 47, 3) := by decide +kernel
theorem dL_law_114 : decode cL_law 114 = .ok (.iload 9, 2) := by decide +kernel
theorem dL_law_116 : decode cL_law 116 = .ok (.if_icmp .ne 64, 3) := by decide +kernel
theorem dL_law_119 : decode cL_law 119 = .ok (.aload_n 1, 1) := by decide +kernel
theorem dL_law_120 : decode cL_law 120 = .ok (.iload 7, 2) := by decide +kernel
theorem dL_law_122 : decode cL_law 122 = .ok (.iconst 0, 1) := by decide +kernel
theorem dL_law_123 : decode cL_law 123 = .ok (.invokevirtual 47, 3) := by decide +kernel
theorem dL_law_126 : decode cL_law 126 = .ok (.iload 9, 2) := by decide +kernel
theorem dL_law_128 : decode cL_law 128 = .ok (.if_icmp .ne 52, 3) := by decide +kernel
theorem dL_law_131 : decode cL_law 131 = .ok (.aload_n 1, 1) := by decide +kernel
theorem dL_law_132 : decode cL_law 132 = .ok (.iload 7, 2) := by decide +kernel
theorem dL_law_134 : decode cL_law 134 = .ok (.iconst 2, 1) := by decide +kernel
theorem dL_law_135 : decode cL_law 135 = .ok (.invokevirtual 47, 3) := by decide +kernel
theorem dL_law_138 : decode cL_law 138 = .ok (.iload 9, 2) := by decide +kernel
theorem dL_law_140 : decode cL_law 140 = .ok (.iconst 2, 1) := by decide +kernel
theorem dL_law_141 : decode cL_law 141 = .ok (.irem, 1) := by decide +kernel
theorem dL_law_142 : decode cL_law 142 = .ok (.iconst 1, 1) := by decide +kernel
theorem dL_law_143 : decode cL_law 143 = .ok (.if_icmp .ne 8, 3) := by decide +kernel
theorem dL_law_146 : decode cL_law 146 = .ok (.iload 9, 2) := by decide +kernel
theorem dL_law_148 : decode cL_law 148 = .ok (.goto 5, 3) := by decide +kernel
theorem dL_law_151 : decode cL_law 151 = .ok (.bipush (-13), 2) := by decide +kernel
theorem dL_law_153 : decode cL_law 153 = .ok (.if_icmp .ne 27, 3) := by decide +kernel
theorem dL_law_156 : decode cL_law 156 = .ok (.aload_n 1, 1) := by decide +kernel
theorem dL_law_157 : decode cL_law 157 = .ok (.iload 7, 2) := by decide +kernel
theorem dL_law_159 : decode cL_law 159 = .ok (.iconst 1, 1) := by decide +kernel
theorem dL_law_160 : decode cL_law 160 = .ok (.invokevirtual 47, 3) := by decide +kernel
theorem dL_law_163 : decode cL_law 163 = .ok (.iload 9, 2) := by decide +kernel
theorem dL_law_165 : decode cL_law 165 = .ok (.iconst 2, 1) := by decide +kernel
theorem dL_law_166 : decode cL_law 166 = .ok (.irem, 1) := by decide +kernel
theorem dL_law_167 : decode cL_law 167 = .ok (.ifCond .ne 8, 3) := by decide +kernel
theorem dL_law_170 : decode cL_law 170 = .ok (.iload 9, 2) := by decide +kernel
theorem dL_law_172 : decode cL_law 172 = .ok (.goto 5, 3) := by decide +kernel
theorem dL_law_175 : decode cL_law 175 = .ok (.bipush (-13), 2) := by decide +kernel
theorem dL_law_177 : decode cL_law 177 = .ok (.if_icmp .eq 5, 3) := by decide +kernel
theorem dL_law_180 : decode cL_law 180 = .ok (.iconst 0, 1) := by decide +kernel
theorem dL_law_181 : decode cL_law 181 = .ok (.ireturn, 1) := by decide +kernel
theorem dL_law_182 : decode cL_law 182 = .ok (.aload_n 1, 1) := by decide +kernel
theorem dL_law_183 : decode cL_law 183 = .ok (.bipush 40, 2) := by decide +kernel
theorem dL_law_185 : decode cL_law 185 = .ok (.invokevirtual 50, 3) := by decide +kernel
theorem dL_law_188 : decode cL_law 188 = .ok (.pop, 1) := by decide +kernel
theorem dL_law_189 : decode cL_law 189 = .ok (.iload 8, 2) := by decide +kernel
theorem dL_law_191 : decode cL_law 191 = .ok (.istore 11, 2) := by decide +kernel
theorem dL_law_193 : decode cL_law 193 = .ok (.iconst 0, 1) := by decide +kernel
theorem dL_law_194 : decode cL_law 194 = .ok (.istore 12, 2) := by decide +kernel
theorem dL_law_196 : decode cL_law 196 = .ok (.iload 12, 2) := by decide +kernel
theorem dL_law_198 : decode cL_law 198 = .ok (.iload 9, 2) := by decide +kernel
theorem dL_law_200 : decode cL_law 200 = .ok (.if_icmp .ge 49, 3) := by decide +kernel
theorem dL_law_203 : decode cL_law 203 = .ok (.iload 12, 2) := by decide +kernel
theorem dL_law_205 : decode cL_law 205 = .ok (.ifCond .le 10, 3) := by decide +kernel
theorem dL_law_208 : decode cL_law 208 = .ok (.aload_n 1, 1) := by decide +kernel
theorem dL_law_209 : decode cL_law 209 = .ok (.bipush 32, 2) := by decide +kernel
theorem dL_law_211 : decode cL_law 211 = .ok (.invokevirtual 50, 3) := by decide +kernel
theorem dL_law_214 : decode cL_law 214 = .ok (.pop, 1) := by decide +kernel
theorem dL_law_215 : decode cL_law 215 = .ok (.aload_n 1, 1) := by decide +kernel
theorem dL_law_216 : decode cL_law 216 = .ok (.bipush 48, 2) := by decide +kernel
theorem dL_law_218 : decode cL_law 218 = .ok (.iload 11, 2) := by decide +kernel
theorem dL_law_220 : decode cL_law 220 = .ok (.iadd, 1) := by decide +kernel
theorem dL_law_221 : decode cL_law 221 = .ok (.invokevirtual 50, 3) := by decide +kernel
theorem dL_law_224 : decode cL_law 224 = .ok (.pop, 1) := by decide +kernel
theorem dL_law_225 : decode cL_law 225 = .ok (.iload 6, 2) := by decide +kernel
theorem dL_law_227 : decode cL_law 227 = .ok (.iconst 1, 1) := by decide +kernel
theorem dL_law_228 : decode cL_law 228 = .ok (.iload 11, 2) := by decide +kernel
theorem dL_law_230 : decode cL_law 230 = .ok (.ishl, 1) := by decide +kernel
theorem dL_law_231 : decode cL_law 231 = .ok (.ior, 1) := by decide +kernel
theorem dL_law_232 : decode cL_law 232 = .ok (.istore 6, 2) := by decide +kernel
theorem dL_law_234 : decode cL_law 234 = .ok (.aload_n 1, 1) := by decide +kernel
theorem dL_law_235 : decode cL_law 235 = .ok (.iload 11, 2) := by decide +kernel
theorem dL_law_237 : decode cL_law 237 = .ok (.iconst 0, 1) := by decide +kernel
theorem dL_law_238 : decode cL_law 238 = .ok (.invokevirtual 53, 3) := by decide +kernel
theorem dL_law_241 : decode cL_law 241 = .ok (.istore 11, 2) := by decide +kernel
theorem dL_law_243 : decode cL_law 243 = .ok (.iinc 12 1, 3) := by decide +kernel
theorem dL_law_246 : decode cL_law 246 = .ok (.goto (-50), 3) := by decide +kernel
theorem dL_law_249 : decode cL_law 249 = .ok (.aload_n 1, 1) := by decide +kernel
theorem dL_law_250 : decode cL_law 250 = .ok (.bipush 41, 2) := by decide +kernel
theorem dL_law_252 : decode cL_law 252 = .ok (.invokevirtual 50, 3) := by decide +kernel
theorem dL_law_255 : decode cL_law 255 = .ok (.pop, 1) := by decide +kernel
theorem dL_law_256 : decode cL_law 256 = .ok (.iload 11, 2) := by decide +kernel
theorem dL_law_258 : decode cL_law 258 = .ok (.iload 8, 2) := by decide +kernel
theorem dL_law_260 : decode cL_law 260 = .ok (.if_icmp .eq 5, 3) := by decide +kernel
theorem dL_law_263 : decode cL_law 263 = .ok (.iconst 0, 1) := by decide +kernel
theorem dL_law_264 : decode cL_law 264 = .ok (.ireturn, 1) := by decide +kernel
theorem dL_law_265 : decode cL_law 265 = .ok (.iinc 7 1, 3) := by decide +kernel
theorem dL_law_268 : decode cL_law 268 = .ok (.goto (-233), 3) := by decide +kernel
theorem dL_law_271 : decode cL_law 271 = .ok (.iload 6, 2) := by decide +kernel
theorem dL_law_273 : decode cL_law 273 = .ok (.invokestatic 56, 3) := by decide +kernel
theorem dL_law_276 : decode cL_law 276 = .ok (.aload_n 1, 1) := by decide +kernel
theorem dL_law_277 : decode cL_law 277 = .ok (.iconst 1, 1) := by decide +kernel
theorem dL_law_278 : decode cL_law 278 = .ok (.invokevirtual 41, 3) := by decide +kernel
theorem dL_law_281 : decode cL_law 281 = .ok (.if_icmp .ne 20, 3) := by decide +kernel
theorem dL_law_284 : decode cL_law 284 = .ok (.aload_n 1, 1) := by decide +kernel
theorem dL_law_285 : decode cL_law 285 = .ok (.invokevirtual 61, 3) := by decide +kernel
theorem dL_law_288 : decode cL_law 288 = .ok (.iload 5, 2) := by decide +kernel
theorem dL_law_290 : decode cL_law 290 = .ok (.if_icmp .ne 11, 3) := by decide +kernel
theorem dL_law_293 : decode cL_law 293 = .ok (.aload_n 1, 1) := by decide +kernel
theorem dL_law_294 : decode cL_law 294 = .ok (.iconst 4, 1) := by decide +kernel
theorem dL_law_295 : decode cL_law 295 = .ok (.invokevirtual 31, 3) := by decide +kernel
theorem dL_law_298 : decode cL_law 298 = .ok (.ifCond .eq 5, 3) := by decide +kernel
theorem dL_law_301 : decode cL_law 301 = .ok (.iconst 0, 1) := by decide +kernel
theorem dL_law_302 : decode cL_law 302 = .ok (.ireturn, 1) := by decide +kernel
theorem dL_law_303 : decode cL_law 303 = .ok (.aload_n 1, 1) := by decide +kernel
theorem dL_law_304 : decode cL_law 304 = .ok (.invokevirtual 34, 3) := by decide +kernel
theorem dL_law_307 : decode cL_law 307 = .ok (.istore 7, 2) := by decide +kernel
theorem dL_law_309 : decode cL_law 309 = .ok (.iload_n 3, 1) := by decide +kernel
theorem dL_law_310 : decode cL_law 310 = .ok (.istore 8, 2) := by decide +kernel
theorem dL_law_312 : decode cL_law 312 = .ok (.iload 7, 2) := by decide +kernel
theorem dL_law_314 : decode cL_law 314 = .ok (.istore 9, 2) := by decide +kernel
theorem dL_law_316 : decode cL_law 316 = .ok (.iload_n 2, 1) := by decide +kernel
theorem dL_law_317 : decode cL_law 317 = .ok (.iconst 1, 1) := by decide +kernel
theorem dL_law_318 : decode cL_law 318 = .ok (.isub, 1) := by decide +kernel
theorem dL_law_319 : decode cL_law 319 = .ok (.istore 10, 2) := by decide +kernel
theorem dL_law_321 : decode cL_law 321 = .ok (.iload 10, 2) := by decide +kernel
theorem dL_law_323 : decode cL_law 323 = .ok (.ifCond .lt 53, 3) := by decide +kernel
theorem dL_law_326 : decode cL_law 326 = .ok (.iload 9, 2) := by decide +kernel
theorem dL_law_328 : decode cL_law 328 = .ok (.bipush 10, 2) := by decide +kernel
theorem dL_law_330 : decode cL_law 330 = .ok (.irem, 1) := by decide +kernel
theorem dL_law_331 : decode cL_law 331 = .ok (.iload 6, 2) := by decide +kernel
theorem dL_law_333 : decode cL_law 333 = .ok (.iload 10, 2) := by decide +kernel
theorem dL_law_335 : decode cL_law 335 = .ok (.ishr, 1) := by decide +kernel
theorem dL_law_336 : decode cL_law 336 = .ok (.iconst 1, 1) := by decide +kernel
theorem dL_law_337 : decode cL_law 337 = .ok (.iand, 1) := by decide +kernel
theorem dL_law_338 : decode cL_law 338 = .ok (.ifCond .eq 11, 3) := by decide +kernel
theorem dL_law_341 : decode cL_law 341 = .ok (.iload 8, 2) := by decide +kernel
theorem dL_law_343 : decode cL_law 343 = .ok (.bipush 10, 2) := by decide +kernel
theorem dL_law_345 : decode cL_law 345 = .ok (.irem, 1) := by decide +kernel
theorem dL_law_346 : decode cL_law 346 = .ok (.goto 5, 3) := by decide +kernel
theorem dL_law_349 : decode cL_law 349 = .ok (.iload 10, 2) := by decide +kernel
theorem dL_law_351 : decode cL_law 351 = .ok (.if_icmp .eq 5, 3) := by decide +kernel
theorem dL_law_354 : decode cL_law 354 = .ok (.iconst 0, 1) := by decide +kernel
theorem dL_law_355 : decode cL_law 355 = .ok (.ireturn, 1) := by decide +kernel
theorem dL_law_356 : decode cL_law 356 = .ok (.iload 9, 2) := by decide +kernel
theorem dL_law_358 : decode cL_law 358 = .ok (.bipush 10, 2) := by decide +kernel
theorem dL_law_360 : decode cL_law 360 = .ok (.idiv, 1) := by decide +kernel
theorem dL_law_361 : decode cL_law 361 = .ok (.istore 9, 2) := by decide +kernel
theorem dL_law_363 : decode cL_law 363 = .ok (.iload 8, 2) := by decide +kernel
theorem dL_law_365 : decode cL_law 365 = .ok (.bipush 10, 2) := by decide +kernel
theorem dL_law_367 : decode cL_law 367 = .ok (.idiv, 1) := by decide +kernel
theorem dL_law_368 : decode cL_law 368 = .ok (.istore 8, 2) := by decide +kernel
theorem dL_law_370 : decode cL_law 370 = .ok (.iinc 10 (-1), 3) := by decide +kernel
theorem dL_law_373 : decode cL_law 373 = .ok (.goto (-52), 3) := by decide +kernel
theorem dL_law_376 : decode cL_law 376 = .ok (.aload_n 1, 1) := by decide +kernel
theorem dL_law_377 : decode cL_law 377 = .ok (.iconst 3, 1) := by decide +kernel
theorem dL_law_378 : decode cL_law 378 = .ok (.invokevirtual 41, 3) := by decide +kernel
theorem dL_law_381 : decode cL_law 381 = .ok (.iconst 1, 1) := by decide +kernel
theorem dL_law_382 : decode cL_law 382 = .ok (.if_icmp .eq 5, 3) := by decide +kernel
theorem dL_law_385 : decode cL_law 385 = .ok (.iconst 0, 1) := by decide +kernel
theorem dL_law_386 : decode cL_law 386 = .ok (.ireturn, 1) := by decide +kernel
theorem dL_law_387 : decode cL_law 387 = .ok (.aload_n 1, 1) := by decide +kernel
theorem dL_law_388 : decode cL_law 388 = .ok (.iconst 3, 1) := by decide +kernel
theorem dL_law_389 : decode cL_law 389 = .ok (.invokevirtual 31, 3) := by decide +kernel
theorem dL_law_392 : decode cL_law 392 = .ok (.istore 10, 2) := by decide +kernel
theorem dL_law_394 : decode cL_law 394 = .ok (.aload_n 1, 1) := by decide +kernel
theorem dL_law_395 : decode cL_law 395 = .ok (.iconst 0, 1) := by decide +kernel
theorem dL_law_396 : decode cL_law 396 = .ok (.iconst 1, 1) := by decide +kernel
theorem dL_law_397 : decode cL_law 397 = .ok (.invokevirtual 23, 3) := by decide +kernel
theorem dL_law_400 : decode cL_law 400 = .ok (.ifCond .lt 43, 3) := by decide +kernel
theorem dL_law_403 : decode cL_law 403 = .ok (.aload_n 1, 1) := by decide +kernel
theorem dL_law_404 : decode cL_law 404 = .ok (.iconst 3, 1) := by decide +kernel
theorem dL_law_405 : decode cL_law 405 = .ok (.invokevirtual 31, 3) := by decide +kernel
theorem dL_law_408 : decode cL_law 408 = .ok (.bipush 10, 2) := by decide +kernel
theorem dL_law_410 : decode cL_law 410 = .ok (.iload 10, 2) := by decide +kernel
theorem dL_law_412 : decode cL_law 412 = .ok (.iconst 1, 1) := by decide +kernel
theorem dL_law_413 : decode cL_law 413 = .ok (.iadd, 1) := by decide +kernel
theorem dL_law_414 : decode cL_law 414 = .ok (.invokestatic 64, 3) := by decide +kernel
theorem dL_law_417 : decode cL_law 417 = .ok (.if_icmp .ne 26, 3) := by decide +kernel
theorem dL_law_420 : decode cL_law 420 = .ok (.aload_n 1, 1) := by decide +kernel
theorem dL_law_421 : decode cL_law 421 = .ok (.invokevirtual 69, 3) := by decide +kernel
theorem dL_law_424 : decode cL_law 424 = .ok (.bipush 9, 2) := by decide +kernel
theorem dL_law_426 : decode cL_law 426 = .ok (.iload 10, 2) := by decide +kernel
theorem dL_law_428 : decode cL_law 428 = .ok (.invokestatic 64, 3) := by decide +kernel
theorem dL_law_431 : decode cL_law 431 = .ok (.if_icmp .ne 12, 3) := by decide +kernel
theorem dL_law_434 : decode cL_law 434 = .ok (.aload_n 1, 1) := by decide +kernel
theorem dL_law_435 : decode cL_law 435 = .ok (.invokevirtual 34, 3) := by decide +kernel
theorem dL_law_438 : decode cL_law 438 = .ok (.iload 7, 2) := by decide +kernel
theorem dL_law_440 : decode cL_law 440 = .ok (.if_icmp .eq 5, 3) := by decide +kernel
theorem dL_law_443 : decode cL_law 443 = .ok (.iconst 0, 1) := by decide +kernel
theorem dL_law_444 : decode cL_law 444 = .ok (.ireturn, 1) := by decide +kernel
theorem dL_law_445 : decode cL_law 445 = .ok (.aload_n 1, 1) := by decide +kernel
theorem dL_law_446 : decode cL_law 446 = .ok (.invokevirtual 69, 3) := by decide +kernel
theorem dL_law_449 : decode cL_law 449 = .ok (.bipush 9, 2) := by decide +kernel
theorem dL_law_451 : decode cL_law 451 = .ok (.iload 10, 2) := by decide +kernel
theorem dL_law_453 : decode cL_law 453 = .ok (.invokestatic 64, 3) := by decide +kernel
theorem dL_law_456 : decode cL_law 456 = .ok (.iconst 1, 1) := by decide +kernel
theorem dL_law_457 : decode cL_law 457 = .ok (.isub, 1) := by decide +kernel
theorem dL_law_458 : decode cL_law 458 = .ok (.if_icmp .ne 11, 3) := by decide +kernel
theorem dL_law_461 : decode cL_law 461 = .ok (.aload_n 1, 1) := by decide +kernel
theorem dL_law_462 : decode cL_law 462 = .ok (.invokevirtual 34, 3) := by decide +kernel
theorem dL_law_465 : decode cL_law 465 = .ok (.iload_n 3, 1) := by decide +kernel
theorem dL_law_466 : decode cL_law 466 = .ok (.if_icmp .eq 5, 3) := by decide +kernel
theorem dL_law_469 : decode cL_law 469 = .ok (.iconst 0, 1) := by decide +kernel
theorem dL_law_470 : decode cL_law 470 = .ok (.ireturn, 1) := by decide +kernel
theorem dL_law_471 : decode cL_law 471 = .ok (.aload_n 0, 1) := by decide +kernel
theorem dL_law_472 : decode cL_law 472 = .ok (.iconst 2, 1) := by decide +kernel
theorem dL_law_473 : decode cL_law 473 = .ok (.invokestatic 10, 3) := by decide +kernel
theorem dL_law_476 : decode cL_law 476 = .ok (.bipush 7, 2) := by decide +kernel
theorem dL_law_478 : decode cL_law 478 = .ok (.iand, 1) := by decide +kernel
theorem dL_law_479 : decode cL_law 479 = .ok (.iload_n 2, 1) := by decide +kernel
theorem dL_law_480 : decode cL_law 480 = .ok (.irem, 1) := by decide +kernel
theorem dL_law_481 : decode cL_law 481 = .ok (.istore 11, 2) := by decide +kernel
theorem dL_law_483 : decode cL_law 483 = .ok (.aload_n 1, 1) := by decide +kernel
theorem dL_law_484 : decode cL_law 484 = .ok (.bipush 40, 2) := by decide +kernel
theorem dL_law_486 : decode cL_law 486 = .ok (.invokevirtual 50, 3) := by decide +kernel
theorem dL_law_489 : decode cL_law 489 = .ok (.pop, 1) := by decide +kernel
theorem dL_law_490 : decode cL_law 490 = .ok (.iconst 0, 1) := by decide +kernel
theorem dL_law_491 : decode cL_law 491 = .ok (.istore 12, 2) := by decide +kernel
theorem dL_law_493 : decode cL_law 493 = .ok (.iload 12, 2) := by decide +kernel
theorem dL_law_495 : decode cL_law 495 = .ok (.iload 11, 2) := by decide +kernel
theorem dL_law_497 : decode cL_law 497 = .ok (.if_icmp .gt 31, 3) := by decide +kernel
theorem dL_law_500 : decode cL_law 500 = .ok (.iload 12, 2) := by decide +kernel
theorem dL_law_502 : decode cL_law 502 = .ok (.ifCond .le 10, 3) := by decide +kernel
theorem dL_law_505 : decode cL_law 505 = .ok (.aload_n 1, 1) := by decide +kernel
theorem dL_law_506 : decode cL_law 506 = .ok (.bipush 32, 2) := by decide +kernel
theorem dL_law_508 : decode cL_law 508 = .ok (.invokevirtual 50, 3) := by decide +kernel
theorem dL_law_511 : decode cL_law 511 = .ok (.pop, 1) := by decide +kernel
theorem dL_law_512 : decode cL_law 512 = .ok (.aload_n 1, 1) := by decide +kernel
theorem dL_law_513 : decode cL_law 513 = .ok (.bipush 48, 2) := by decide +kernel
theorem dL_law_515 : decode cL_law 515 = .ok (.iload 12, 2) := by decide +kernel
theorem dL_law_517 : decode cL_law 517 = .ok (.iadd, 1) := by decide +kernel
theorem dL_law_518 : decode cL_law 518 = .ok (.invokevirtual 50, 3) := by decide +kernel
theorem dL_law_521 : decode cL_law 521 = .ok (.pop, 1) := by decide +kernel
theorem dL_law_522 : decode cL_law 522 = .ok (.iinc 12 1, 3) := by decide +kernel
theorem dL_law_525 : decode cL_law 525 = .ok (.goto (-32), 3) := by decide +kernel
theorem dL_law_528 : decode cL_law 528 = .ok (.aload_n 0, 1) := by decide +kernel
theorem dL_law_529 : decode cL_law 529 = .ok (.iconst 2, 1) := by decide +kernel
theorem dL_law_530 : decode cL_law 530 = .ok (.invokestatic 10, 3) := by decide +kernel
theorem dL_law_533 : decode cL_law 533 = .ok (.iconst 3, 1) := by decide +kernel
theorem dL_law_534 : decode cL_law 534 = .ok (.ishr, 1) := by decide +kernel
theorem dL_law_535 : decode cL_law 535 = .ok (.iconst 1, 1) := by decide +kernel
theorem dL_law_536 : decode cL_law 536 = .ok (.iand, 1) := by decide +kernel
theorem dL_law_537 : decode cL_law 537 = .ok (.iconst 1, 1) := by decide +kernel
theorem dL_law_538 : decode cL_law 538 = .ok (.if_icmp .ne 7, 3) := by decide +kernel
theorem dL_law_541 : decode cL_law 541 = .ok (.iconst 1, 1) := by decide +kernel
theorem dL_law_542 : decode cL_law 542 = .ok (.goto 4, 3) := by decide +kernel
theorem dL_law_545 : decode cL_law 545 = .ok (.iconst 0, 1) := by decide +kernel
theorem dL_law_546 : decode cL_law 546 = .ok (.istore 12, 2) := by decide +kernel
theorem dL_law_548 : decode cL_law 548 = .ok (.iload 12, 2) := by decide +kernel
theorem dL_law_550 : decode cL_law 550 = .ok (.ifCond .eq 20, 3) := by decide +kernel
theorem dL_law_553 : decode cL_law 553 = .ok (.aload_n 1, 1) := by decide +kernel
theorem dL_law_554 : decode cL_law 554 = .ok (.bipush 41, 2) := by decide +kernel
theorem dL_law_556 : decode cL_law 556 = .ok (.invokevirtual 50, 3) := by decide +kernel
theorem dL_law_559 : decode cL_law 559 = .ok (.pop, 1) := by decide +kernel
theorem dL_law_560 : decode cL_law 560 = .ok (.aload_n 1, 1) := by decide +kernel
theorem dL_law_561 : decode cL_law 561 = .ok (.bipush 40, 2) := by decide +kernel
theorem dL_law_563 : decode cL_law 563 = .ok (.invokevirtual 50, 3) := by decide +kernel
theorem dL_law_566 : decode cL_law 566 = .ok (.pop, 1) := by decide +kernel
theorem dL_law_567 : decode cL_law 567 = .ok (.goto 10, 3) := by decide +kernel
theorem dL_law_570 : decode cL_law 570 = .ok (.aload_n 1, 1) := by decide +kernel
theorem dL_law_571 : decode cL_law 571 = .ok (.bipush 32, 2) := by decide +kernel
theorem dL_law_573 : decode cL_law 573 = .ok (.invokevirtual 50, 3) := by decide +kernel
theorem dL_law_576 : decode cL_law 576 = .ok (.pop, 1) := by decide +kernel
theorem dL_law_577 : decode cL_law 577 = .ok (.aload_n 1, 1) := by decide +kernel
theorem dL_law_578 : decode cL_law 578 = .ok (.bipush 48, 2) := by decide +kernel
theorem dL_law_580 : decode cL_law 580 = .ok (.aload_n 0, 1) := by decide +kernel
theorem dL_law_581 : decode cL_law 581 = .ok (.iconst 2, 1) := by decide +kernel
theorem dL_law_582 : decode cL_law 582 = .ok (.invokestatic 10, 3) := by decide +kernel
theorem dL_law_585 : decode cL_law 585 = .ok (.iconst 4, 1) := by decide +kernel
theorem dL_law_586 : decode cL_law 586 = .ok (.ishr, 1) := by decide +kernel
theorem dL_law_587 : decode cL_law 587 = .ok (.bipush 7, 2) := by decide +kernel
theorem dL_law_589 : decode cL_law 589 = .ok (.iand, 1) := by decide +kernel
theorem dL_law_590 : decode cL_law 590 = .ok (.iload 11, 2) := by decide +kernel
theorem dL_law_592 : decode cL_law 592 = .ok (.iconst 1, 1) := by decide +kernel
theorem dL_law_593 : decode cL_law 593 = .ok (.iadd, 1) := by decide +kernel
theorem dL_law_594 : decode cL_law 594 = .ok (.irem, 1) := by decide +kernel
theorem dL_law_595 : decode cL_law 595 = .ok (.iadd, 1) := by decide +kernel
theorem dL_law_596 : decode cL_law 596 = .ok (.invokevirtual 50, 3) := by decide +kernel
theorem dL_law_599 : decode cL_law 599 = .ok (.pop, 1) := by decide +kernel
theorem dL_law_600 : decode cL_law 600 = .ok (.iconst 2, 1) := by decide +kernel
theorem dL_law_601 : decode cL_law 601 = .ok (.iload 11, 2) := by decide +kernel
theorem dL_law_603 : decode cL_law 603 = .ok (.imul, 1) := by decide +kernel
theorem dL_law_604 : decode cL_law 604 = .ok (.iload 12, 2) := by decide +kernel
theorem dL_law_606 : decode cL_law 606 = .ok (.ifCond .eq 7, 3) := by decide +kernel
theorem dL_law_609 : decode cL_law 609 = .ok (.iconst 4, 1) := by decide +kernel
theorem dL_law_610 : decode cL_law 610 = .ok (.goto 4, 3) := by decide +kernel
theorem dL_law_613 : decode cL_law 613 = .ok (.iconst 3, 1) := by decide +kernel
theorem dL_law_614 : decode cL_law 614 = .ok (.iadd, 1) := by decide +kernel
theorem dL_law_615 : decode cL_law 615 = .ok (.istore 13, 2) := by decide +kernel
theorem dL_law_617 : decode cL_law 617 = .ok (.aload_n 1, 1) := by decide +kernel
theorem dL_law_618 : decode cL_law 618 = .ok (.invokevirtual 61, 3) := by decide +kernel
theorem dL_law_621 : decode cL_law 621 = .ok (.bipush (-100), 2) := by decide +kernel
theorem dL_law_623 : decode cL_law 623 = .ok (.iload 13, 2) := by decide +kernel
theorem dL_law_625 : decode cL_law 625 = .ok (.isub, 1) := by decide +kernel
theorem dL_law_626 : decode cL_law 626 = .ok (.if_icmp .ne 56, 3) := by decide +kernel
theorem dL_law_629 : decode cL_law 629 = .ok (.aload_n 1, 1) := by decide +kernel
theorem dL_law_630 : decode cL_law 630 = .ok (.iconst 0, 1) := by decide +kernel
theorem dL_law_631 : decode cL_law 631 = .ok (.invokevirtual 72, 3) := by decide +kernel
theorem dL_law_634 : decode cL_law 634 = .ok (.iload 12, 2) := by decide +kernel
theorem dL_law_636 : decode cL_law 636 = .ok (.ifCond .eq 7, 3) := by decide +kernel
theorem dL_law_639 : decode cL_law 639 = .ok (.lconst 1, 1) := by decide +kernel
theorem dL_law_640 : decode cL_law 640 = .ok (.goto 4, 3) := by decide +kernel
theorem dL_law_643 : decode cL_law 643 = .ok (.lconst 0, 1) := by decide +kernel
theorem dL_law_644 : decode cL_law 644 = .ok (.lcmp, 1) := by decide +kernel
theorem dL_law_645 : decode cL_law 645 = .ok (.ifCond .ne 37, 3) := by decide +kernel
theorem dL_law_648 : decode cL_law 648 = .ok (.aload_n 1, 1) := by decide +kernel
theorem dL_law_649 : decode cL_law 649 = .ok (.iconst 1, 1) := by decide +kernel
theorem dL_law_650 : decode cL_law 650 = .ok (.invokevirtual 72, 3) := by decide +kernel
theorem dL_law_653 : decode cL_law 653 = .ok (.iload 11, 2) := by decide +kernel
theorem dL_law_655 : decode cL_law 655 = .ok (.iconst 1, 1) := by decide +kernel
theorem dL_law_656 : decode cL_law 656 = .ok (.iadd, 1) := by decide +kernel
theorem dL_law_657 : decode cL_law 657 = .ok (.i2l, 1) := by decide +kernel
theorem dL_law_658 : decode cL_law 658 = .ok (.lcmp, 1) := by decide +kernel
theorem dL_law_659 : decode cL_law 659 = .ok (.ifCond .ne 23, 3) := by decide +kernel
theorem dL_law_662 : decode cL_law 662 = .ok (.aload_n 1, 1) := by decide +kernel
theorem dL_law_663 : decode cL_law 663 = .ok (.iconst 2, 1) := by decide +kernel
theorem dL_law_664 : decode cL_law 664 = .ok (.invokevirtual 72, 3) := by decide +kernel
theorem dL_law_667 : decode cL_law 667 = .ok (.iload 13, 2) := by decide +kernel
theorem dL_law_669 : decode cL_law 669 = .ok (.i2l, 1) := by decide +kernel
theorem dL_law_670 : decode cL_law 670 = .ok (.lcmp, 1) := by decide +kernel
theorem dL_law_671 : decode cL_law 671 = .ok (.ifCond .ne 11, 3) := by decide +kernel
theorem dL_law_674 : decode cL_law 674 = .ok (.aload_n 1, 1) := by decide +kernel
theorem dL_law_675 : decode cL_law 675 = .ok (.invokevirtual 34, 3) := by decide +kernel
theorem dL_law_678 : decode cL_law 678 = .ok (.iload_n 3, 1) := by decide +kernel
theorem dL_law_679 : decode cL_law 679 = .ok (.if_icmp .eq 5, 3) := by decide +kernel
theorem dL_law_682 : decode cL_law 682 = .ok (.iconst 0, 1) := by decide +kernel
theorem dL_law_683 : decode cL_law 683 = .ok (.ireturn, 1) := by decide +kernel
theorem dL_law_684 : decode cL_law 684 = .ok (.aload_n 1, 1) := by decide +kernel
theorem dL_law_685 : decode cL_law 685 = .ok (.invokevirtual 61, 3) := by decide +kernel
theorem dL_law_688 : decode cL_law 688 = .ok (.bipush (-100), 2) := by decide +kernel
theorem dL_law_690 : decode cL_law 690 = .ok (.if_icmp .ne 25, 3) := by decide +kernel
theorem dL_law_693 : decode cL_law 693 = .ok (.aload_n 1, 1) := by decide +kernel
theorem dL_law_694 : decode cL_law 694 = .ok (.iconst 1, 1) := by decide +kernel
theorem dL_law_695 : decode cL_law 695 = .ok (.invokevirtual 72, 3) := by decide +kernel
theorem dL_law_698 : decode cL_law 698 = .ok (.lconst 0, 1) := by decide +kernel
theorem dL_law_699 : decode cL_law 699 = .ok (.lcmp, 1) := by decide +kernel
theorem dL_law_700 : decode cL_law 700 = .ok (.ifCond .ne 15, 3) := by decide +kernel
theorem dL_law_703 : decode cL_law 703 = .ok (.aload_n 1, 1) := by decide +kernel
theorem dL_law_704 : decode cL_law 704 = .ok (.iconst 3, 1) := by decide +kernel
theorem dL_law_705 : decode cL_law 705 = .ok (.invokevirtual 72, 3) := by decide +kernel
theorem dL_law_708 : decode cL_law 708 = .ok (.ldc2_w 76, 3) := by decide +kernel
theorem dL_law_711 : decode cL_law 711 = .ok (.lcmp, 1) := by decide +kernel
theorem dL_law_712 : decode cL_law 712 = .ok (.ifCond .eq 5, 3) := by decide +kernel
theorem dL_law_715 : decode cL_law 715 = .ok (.iconst 0, 1) := by decide +kernel
theorem dL_law_716 : decode cL_law 716 = .ok (.ireturn, 1) := by decide +kernel
theorem dL_law_717 : decode cL_law 717 = .ok (.aload_n 1, 1) := by decide +kernel
theorem dL_law_718 : decode cL_law 718 = .ok (.iconst 1, 1) := by decide +kernel
theorem dL_law_719 : decode cL_law 719 = .ok (.iconst 2, 1) := by decide +kernel
theorem dL_law_720 : decode cL_law 720 = .ok (.iconst 0, 1) := by decide +kernel
theorem dL_law_721 : decode cL_law 721 = .ok (.invokevirtual 78, 3) := by decide +kernel
theorem dL_law_724 : decode cL_law 724 = .ok (.pop, 1) := by decide +kernel
theorem dL_law_725 : decode cL_law 725 = .ok (.aload_n 1, 1) := by decide +kernel
theorem dL_law_726 : decode cL_law 726 = .ok (.iconst 3, 1) := by decide +kernel
theorem dL_law_727 : decode cL_law 727 = .ok (.sipush 204, 3) := by decide +kernel
theorem dL_law_730 : decode cL_law 730 = .ok (.iconst 3, 1) := by decide +kernel
theorem dL_law_731 : decode cL_law 731 = .ok (.invokevirtual 78, 3) := by decide +kernel
theorem dL_law_734 : decode cL_law 734 = .ok (.pop, 1) := by decide +kernel
theorem dL_law_735 : decode cL_law 735 = .ok (.aload_n 1, 1) := by decide +kernel
theorem dL_law_736 : decode cL_law 736 = .ok (.iconst 1, 1) := by decide +kernel
theorem dL_law_737 : decode cL_law 737 = .ok (.aload_n 1, 1) := by decide +kernel
theorem dL_law_738 : decode cL_law 738 = .ok (.iconst 1, 1) := by decide +kernel
theorem dL_law_739 : decode cL_law 739 = .ok (.invokevirtual 31, 3) := by decide +kernel
theorem dL_law_742 : decode cL_law 742 = .ok (.isub, 1) := by decide +kernel
theorem dL_law_743 : decode cL_law 743 = .ok (.invokevirtual 20, 3) := by decide +kernel
theorem dL_law_746 : decode cL_law 746 = .ok (.pop, 1) := by decide +kernel
theorem dL_law_747 : decode cL_law 747 = .ok (.aload_n 1, 1) := by decide +kernel
theorem dL_law_748 : decode cL_law 748 = .ok (.iconst 3, 1) := by decide +kernel
theorem dL_law_749 : decode cL_law 749 = .ok (.invokevirtual 31, 3) := by decide +kernel
theorem dL_law_752 : decode cL_law 752 = .ok (.ifCond .ne 23, 3) := by decide +kernel
theorem dL_law_755 : decode cL_law 755 = .ok (.aload_n 1, 1) := by decide +kernel
theorem dL_law_756 : decode cL_law 756 = .ok (.invokevirtual 69, 3) := by decide +kernel
theorem dL_law_759 : decode cL_law 759 = .ok (.bipush (-3), 2) := by decide +kernel
theorem dL_law_761 : decode cL_law 761 = .ok (.if_icmp .ne 14, 3) := by decide +kernel
theorem dL_law_764 : decode cL_law 764 = .ok (.aload_n 1, 1) := by decide +kernel
theorem dL_law_765 : decode cL_law 765 = .ok (.bipush 9, 2) := by decide +kernel
theorem dL_law_767 : decode cL_law 767 = .ok (.invokevirtual 16, 3) := by decide +kernel
theorem dL_law_770 : decode cL_law 770 = .ok (.bipush (-2), 2) := by decide +kernel
theorem dL_law_772 : decode cL_law 772 = .ok (.if_icmp .eq 5, 3) := by decide +kernel
theorem dL_law_775 : decode cL_law 775 = .ok (.iconst 0, 1) := by decide +kernel
theorem dL_law_776 : decode cL_law 776 = .ok (.ireturn, 1) := by decide +kernel
theorem dL_law_777 : decode cL_law 777 = .ok (.aload_n 1, 1) := by decide +kernel
theorem dL_law_778 : decode cL_law 778 = .ok (.iconst 2, 1) := by decide +kernel
theorem dL_law_779 : decode cL_law 779 = .ok (.aload_n 0, 1) := by decide +kernel
theorem dL_law_780 : decode cL_law 780 = .ok (.iconst 2, 1) := by decide +kernel
theorem dL_law_781 : decode cL_law 781 = .ok (.invokestatic 10, 3) := by decide +kernel
theorem dL_law_784 : decode cL_law 784 = .ok (.bipush 7, 2) := by decide +kernel
theorem dL_law_786 : decode cL_law 786 = .ok (.ishr, 1) := by decide +kernel
theorem dL_law_787 : decode cL_law 787 = .ok (.bipush 7, 2) := by decide +kernel
theorem dL_law_789 : decode cL_law 789 = .ok (.iand, 1) := by decide +kernel
theorem dL_law_790 : decode cL_law 790 = .ok (.bipush 7, 2) := by decide +kernel
theorem dL_law_792 : decode cL_law 792 = .ok (.irem, 1) := by decide +kernel
theorem dL_law_793 : decode cL_law 793 = .ok (.iadd, 1) := by decide +kernel
theorem dL_law_794 : decode cL_law 794 = .ok (.invokevirtual 16, 3) := by decide +kernel
theorem dL_law_797 : decode cL_law 797 = .ok (.iload_n 2, 1) := by decide +kernel
theorem dL_law_798 : decode cL_law 798 = .ok (.if_icmp .ne 16, 3) := by decide +kernel
theorem dL_law_801 : decode cL_law 801 = .ok (.aload_n 1, 1) := by decide +kernel
theorem dL_law_802 : decode cL_law 802 = .ok (.iconst 0, 1) := by decide +kernel
theorem dL_law_803 : decode cL_law 803 = .ok (.invokevirtual 41, 3) := by decide +kernel
theorem dL_law_806 : decode cL_law 806 = .ok (.aload_n 1, 1) := by decide +kernel
theorem dL_law_807 : decode cL_law 807 = .ok (.iconst 0, 1) := by decide +kernel
theorem dL_law_808 : decode cL_law 808 = .ok (.invokevirtual 31, 3) := by decide +kernel
theorem dL_law_811 : decode cL_law 811 = .ok (.if_icmp .eq 5, 3) := by decide +kernel
theorem dL_law_814 : decode cL_law 814 = .ok (.iconst 0, 1) := by decide +kernel
theorem dL_law_815 : decode cL_law 815 = .ok (.ireturn, 1) := by decide +kernel
theorem dL_law_816 : decode cL_law 816 = .ok (.iload 4, 2) := by decide +kernel
theorem dL_law_818 : decode cL_law 818 = .ok (.iload_n 2, 1) := by decide +kernel
theorem dL_law_819 : decode cL_law 819 = .ok (.if_icmp .ne 52, 3) := by decide +kernel
theorem dL_law_822 : decode cL_law 822 = .ok (.aload_n 1, 1) := by decide +kernel
theorem dL_law_823 : decode cL_law 823 = .ok (.invokevirtual 82, 3) := by decide +kernel
theorem dL_law_826 : decode cL_law 826 = .ok (.iload_n 2, 1) := by decide +kernel
theorem dL_law_827 : decode cL_law 827 = .ok (.if_icmp .ne 44, 3) := by decide +kernel
theorem dL_law_830 : decode cL_law 830 = .ok (.aload_n 1, 1) := by decide +kernel
theorem dL_law_831 : decode cL_law 831 = .ok (.invokevirtual 34, 3) := by decide +kernel
theorem dL_law_834 : decode cL_law 834 = .ok (.iload_n 3, 1) := by decide +kernel
theorem dL_law_835 : decode cL_law 835 = .ok (.if_icmp .ne 36, 3) := by decide +kernel
theorem dL_law_838 : decode cL_law 838 = .ok (.aload_n 1, 1) := by decide +kernel
theorem dL_law_839 : decode cL_law 839 = .ok (.iconst 3, 1) := by decide +kernel
theorem dL_law_840 : decode cL_law 840 = .ok (.invokevirtual 31, 3) := by decide +kernel
theorem dL_law_843 : decode cL_law 843 = .ok (.ifCond .ne 28, 3) := by decide +kernel
theorem dL_law_846 : decode cL_law 846 = .ok (.aload_n 1, 1) := by decide +kernel
theorem dL_law_847 : decode cL_law 847 = .ok (.iconst 0, 1) := by decide +kernel
theorem dL_law_848 : decode cL_law 848 = .ok (.invokevirtual 41, 3) := by decide +kernel
theorem dL_law_851 : decode cL_law 851 = .ok (.iload 5, 2) := by decide +kernel
theorem dL_law_853 : decode cL_law 853 = .ok (.if_icmp .ne 18, 3) := by decide +kernel
theorem dL_law_856 : decode cL_law 856 = .ok (.aload_n 1, 1) := by decide +kernel
theorem dL_law_857 : decode cL_law 857 = .ok (.iload_n 2, 1) := by decide +kernel
theorem dL_law_858 : decode cL_law 858 = .ok (.iconst 0, 1) := by decide +kernel
theorem dL_law_859 : decode cL_law 859 = .ok (.invokevirtual 23, 3) := by decide +kernel
theorem dL_law_862 : decode cL_law 862 = .ok (.bipush (-2), 2) := by decide +kernel
theorem dL_law_864 : decode cL_law 864 = .ok (.if_icmp .ne 7, 3) := by decide +kernel
theorem dL_law_867 : decode cL_law 867 = .ok (.iconst 1, 1) := by decide +kernel
theorem dL_law_868 : decode cL_law 868 = .ok (.goto 4, 3) := by decide +kernel
theorem dL_law_871 : decode cL_law 871 = .ok (.iconst 0, 1) := by decide +kernel
theorem dL_law_872 : decode cL_law 872 = .ok (.ireturn, 1) := by decide +kernel
