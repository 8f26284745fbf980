theorem dL_errors_0 : decode cL_errors 0 = .ok (.aload_n 0, 1) := by decide +kernel
theorem dL_errors_1 : decode cL_errors 1 = .ok (.invokestatic 120, 3) := by decide +kernel
theorem dL_errors_4 : decode cL_errors 4 = .ok (.lstore_n 1, 1) := by decide +kernel
theorem dL_errors_5 : decode cL_errors 5 = .ok (.aload_n 0, 1) := by decide +kernel
theorem dL_errors_6 : decode cL_errors 6 = .ok (.iconst 0, 1) := by decide +kernel
theorem dL_errors_7 : decode cL_errors 7 = .ok (.invokestatic 102, 3) := by decide +kernel
theorem dL_errors_10 : decode cL_errors 10 = .ok (.l2i, 1) := by decide +kernel
theorem dL_errors_11 : decode cL_errors 11 = .ok (.istore_n 3, 1) := by decide +kernel
theorem dL_errors_12 : decode cL_errors 12 = .ok (.aload_n 0, 1) := by decide +kernel
theorem dL_errors_13 : decode cL_errors 13 = .ok (.iconst 2, 1) := by decide +kernel
theorem dL_errors_14 : decode cL_errors 14 = .ok (.invokestatic 102, 3) := by decide +kernel
theorem dL_errors_17 : decode cL_errors 17 = .ok (.lconst 0, 1) := by decide +kernel
theorem dL_errors_18 : decode cL_errors 18 = .ok (.lcmp, 1) := by decide +kernel
theorem dL_errors_19 : decode cL_errors 19 = .ok (.ifCond .ne 7, 3) := by decide +kernel
theorem dL_errors_22 : decode cL_errors 22 = .ok (.iconst 1, 1) := by decide +kernel
theorem dL_errors_23 : decode cL_errors 23 = .ok (.goto 4, 3) := by decide +kernel
theorem dL_errors_26 : decode cL_errors 26 = .ok (.iconst 0, 1) := by decide +kernel
theorem dL_errors_27 : decode cL_errors 27 = .ok (.istore 4, 2) := by decide +kernel
theorem dL_errors_29 : decode cL_errors 29 = .ok (.aload_n 0, 1) := by decide +kernel
theorem dL_errors_30 : decode cL_errors 30 = .ok (.invokevirtual 124, 3) := by decide +kernel
theorem dL_errors_33 : decode cL_errors 33 = .ok (.ifCond .eq 7, 3) := by decide +kernel
theorem dL_errors_36 : decode cL_errors 36 = .ok (.iconst 1, 1) := by decide +kernel
theorem dL_errors_37 : decode cL_errors 37 = .ok (.goto 4, 3) := by decide +kernel
theorem dL_errors_40 : decode cL_errors 40 = .ok (.iconst 0, 1) := by decide +kernel
theorem dL_errors_41 : decode cL_errors 41 = .ok (.istore 5, 2) := by decide +kernel
theorem dL_errors_43 : decode cL_errors 43 = .ok (.aload_n 0, 1) := by decide +kernel
theorem dL_errors_44 : decode cL_errors 44 = .ok (.iconst (-1), 1) := by decide +kernel
theorem dL_errors_45 : decode cL_errors 45 = .ok (.invokestatic 102, 3) := by decide +kernel
theorem dL_errors_48 : decode cL_errors 48 = .ok (.ldc2_w 17, 3) := by decide +kernel
theorem dL_errors_51 : decode cL_errors 51 = .ok (.lcmp, 1) := by decide +kernel
theorem dL_errors_52 : decode cL_errors 52 = .ok (.ifCond .ne 144, 3) := by decide +kernel
theorem dL_errors_55 : decode cL_errors 55 = .ok (.aload_n 0, 1) := by decide +kernel
theorem dL_errors_56 : decode cL_errors 56 = .ok (.bipush 14, 2) := by decide +kernel
theorem dL_errors_58 : decode cL_errors 58 = .ok (.invokestatic 102, 3) := by decide +kernel
theorem dL_errors_61 : decode cL_errors 61 = .ok (.ldc2_w 17, 3) := by decide +kernel
theorem dL_errors_64 : decode cL_errors 64 = .ok (.lcmp, 1) := by decide +kernel
theorem dL_errors_65 : decode cL_errors 65 = .ok (.ifCond .ne 131, 3) := by decide +kernel
theorem dL_errors_68 : decode cL_errors 68 = .ok (.aload_n 0, 1) := by decide +kernel
theorem dL_errors_69 : decode cL_errors 69 = .ok (.iconst 4, 1) := by decide +kernel
theorem dL_errors_70 : decode cL_errors 70 = .ok (.iload_n 3, 1) := by decide +kernel
theorem dL_errors_71 : decode cL_errors 71 = .ok (.imul, 1) := by decide +kernel
theorem dL_errors_72 : decode cL_errors 72 = .ok (.bipush 9, 2) := by decide +kernel
theorem dL_errors_74 : decode cL_errors 74 = .ok (.invokestatic 112, 3) := by decide +kernel
theorem dL_errors_77 : decode cL_errors 77 = .ok (.ldc2_w 36, 3) := by decide +kernel
theorem dL_errors_80 : decode cL_errors 80 = .ok (.lcmp, 1) := by decide +kernel
theorem dL_errors_81 : decode cL_errors 81 = .ok (.ifCond .ne 115, 3) := by decide +kernel
theorem dL_errors_84 : decode cL_errors 84 = .ok (.aload_n 0, 1) := by decide +kernel
theorem dL_errors_85 : decode cL_errors 85 = .ok (.iconst 0, 1) := by decide +kernel
theorem dL_errors_86 : decode cL_errors 86 = .ok (.iconst 5, 1) := by decide +kernel
theorem dL_errors_87 : decode cL_errors 87 = .ok (.invokestatic 112, 3) := by decide +kernel
theorem dL_errors_90 : decode cL_errors 90 = .ok (.ldc2_w 17, 3) := by decide +kernel
theorem dL_errors_93 : decode cL_errors 93 = .ok (.lcmp, 1) := by decide +kernel
theorem dL_errors_94 : decode cL_errors 94 = .ok (.ifCond .ne 102, 3) := by decide +kernel
theorem dL_errors_97 : decode cL_errors 97 = .ok (.aload_n 0, 1) := by decide +kernel
theorem dL_errors_98 : decode cL_errors 98 = .ok (.iload_n 3, 1) := by decide +kernel
theorem dL_errors_99 : decode cL_errors 99 = .ok (.bipush 9, 2) := by decide +kernel
theorem dL_errors_101 : decode cL_errors 101 = .ok (.invokestatic 107, 3) := by decide +kernel
theorem dL_errors_104 : decode cL_errors 104 = .ok (.ldc2_w 36, 3) := by decide +kernel
theorem dL_errors_107 : decode cL_errors 107 = .ok (.lcmp, 1) := by decide +kernel
theorem dL_errors_108 : decode cL_errors 108 = .ok (.ifCond .ne 88, 3) := by decide +kernel
theorem dL_errors_111 : decode cL_errors 111 = .ok (.aload_n 0, 1) := by decide +kernel
theorem dL_errors_112 : decode cL_errors 112 = .ok (.iconst 0, 1) := by decide +kernel
theorem dL_errors_113 : decode cL_errors 113 = .ok (.bipush 6, 2) := by decide +kernel
theorem dL_errors_115 : decode cL_errors 115 = .ok (.invokestatic 107, 3) := by decide +kernel
theorem dL_errors_118 : decode cL_errors 118 = .ok (.ldc2_w 17, 3) := by decide +kernel
theorem dL_errors_121 : decode cL_errors 121 = .ok (.lcmp, 1) := by decide +kernel
theorem dL_errors_122 : decode cL_errors 122 = .ok (.ifCond .ne 74, 3) := by decide +kernel
theorem dL_errors_125 : decode cL_errors 125 = .ok (.aload_n 0, 1) := by decide +kernel
theorem dL_errors_126 : decode cL_errors 126 = .ok (.bipush 16, 2) := by decide +kernel
theorem dL_errors_128 : decode cL_errors 128 = .ok (.invokestatic 127, 3) := by decide +kernel
theorem dL_errors_131 : decode cL_errors 131 = .ok (.ldc2_w 17, 3) := by decide +kernel
theorem dL_errors_134 : decode cL_errors 134 = .ok (.lcmp, 1) := by decide +kernel
theorem dL_errors_135 : decode cL_errors 135 = .ok (.ifCond .ne 61, 3) := by decide +kernel
theorem dL_errors_138 : decode cL_errors 138 = .ok (.iload 4, 2) := by decide +kernel
theorem dL_errors_140 : decode cL_errors 140 = .ok (.ifCond .eq 15, 3) := by decide +kernel
theorem dL_errors_143 : decode cL_errors 143 = .ok (.aload_n 0, 1) := by decide +kernel
theorem dL_errors_144 : decode cL_errors 144 = .ok (.iconst 0, 1) := by decide +kernel
theorem dL_errors_145 : decode cL_errors 145 = .ok (.invokestatic 127, 3) := by decide +kernel
theorem dL_errors_148 : decode cL_errors 148 = .ok (.ldc2_w 21, 3) := by decide +kernel
theorem dL_errors_151 : decode cL_errors 151 = .ok (.lcmp, 1) := by decide +kernel
theorem dL_errors_152 : decode cL_errors 152 = .ok (.ifCond .ne 44, 3) := by decide +kernel
theorem dL_errors_155 : decode cL_errors 155 = .ok (.aload_n 0, 1) := by decide +kernel
theorem dL_errors_156 : decode cL_errors 156 = .ok (.iconst (-1), 1) := by decide +kernel
theorem dL_errors_157 : decode cL_errors 157 = .ok (.invokestatic 129, 3) := by decide +kernel
theorem dL_errors_160 : decode cL_errors 160 = .ok (.ldc2_w 17, 3) := by decide +kernel
theorem dL_errors_163 : decode cL_errors 163 = .ok (.lcmp, 1) := by decide +kernel
theorem dL_errors_164 : decode cL_errors 164 = .ok (.ifCond .ne 32, 3) := by decide +kernel
theorem dL_errors_167 : decode cL_errors 167 = .ok (.aload_n 0, 1) := by decide +kernel
theorem dL_errors_168 : decode cL_errors 168 = .ok (.bipush 16, 2) := by decide +kernel
theorem dL_errors_170 : decode cL_errors 170 = .ok (.invokestatic 131, 3) := by decide +kernel
theorem dL_errors_173 : decode cL_errors 173 = .ok (.ldc2_w 17, 3) := by decide +kernel
theorem dL_errors_176 : decode cL_errors 176 = .ok (.lcmp, 1) := by decide +kernel
theorem dL_errors_177 : decode cL_errors 177 = .ok (.ifCond .ne 19, 3) := by decide +kernel
theorem dL_errors_180 : decode cL_errors 180 = .ok (.aload_n 0, 1) := by decide +kernel
theorem dL_errors_181 : decode cL_errors 181 = .ok (.iconst 3, 1) := by decide +kernel
theorem dL_errors_182 : decode cL_errors 182 = .ok (.invokestatic 114, 3) := by decide +kernel
theorem dL_errors_185 : decode cL_errors 185 = .ok (.ldc2_w 17, 3) := by decide +kernel
theorem dL_errors_188 : decode cL_errors 188 = .ok (.lcmp, 1) := by decide +kernel
theorem dL_errors_189 : decode cL_errors 189 = .ok (.ifCond .ne 7, 3) := by decide +kernel
theorem dL_errors_192 : decode cL_errors 192 = .ok (.iconst 1, 1) := by decide +kernel
theorem dL_errors_193 : decode cL_errors 193 = .ok (.goto 4, 3) := by decide +kernel
theorem dL_errors_197 : decode cL_errors 197 = .ok (.istore 6, 2) := by decide +kernel
theorem dL_errors_199 : decode cL_errors 199 = .ok (.iload 6, 2) := by decide +kernel
theorem dL_errors_201 : decode cL_errors 201 = .ok (.ifCond .eq 200, 3) := by decide +kernel
theorem dL_errors_204 : decode cL_errors 204 = .ok (.aload_n 0, 1) := by decide +kernel
theorem dL_errors_205 : decode cL_errors 205 = .ok (.bipush 16, 2) := by decide +kernel
theorem dL_errors_207 : decode cL_errors 207 = .ok (.iconst 0, 1) := by decide +kernel
theorem dL_errors_208 : decode cL_errors 208 = .ok (.invokestatic 133, 3) := by decide +kernel
theorem dL_errors_211 : decode cL_errors 211 = .ok (.ldc2_w 17, 3) := by decide +kernel
theorem dL_errors_214 : decode cL_errors 214 = .ok (.lcmp, 1) := by decide +kernel
theorem dL_errors_215 : decode cL_errors 215 = .ok (.ifCond .ne 186, 3) := by decide +kernel
theorem dL_errors_218 : decode cL_errors 218 = .ok (.aload_n 0, 1) := by decide +kernel
theorem dL_errors_219 : decode cL_errors 219 = .ok (.iconst 0, 1) := by decide +kernel
theorem dL_errors_220 : decode cL_errors 220 = .ok (.sipush 1000, 3) := by decide +kernel
theorem dL_errors_223 : decode cL_errors 223 = .ok (.invokestatic 133, 3) := by decide +kernel
theorem dL_errors_226 : decode cL_errors 226 = .ok (.ldc2_w 17, 3) := by decide +kernel
theorem dL_errors_229 : decode cL_errors 229 = .ok (.lcmp, 1) := by decide +kernel
theorem dL_errors_230 : decode cL_errors 230 = .ok (.ifCond .ne 171, 3) := by decide +kernel
theorem dL_errors_233 : decode cL_errors 233 = .ok (.iload 5, 2) := by decide +kernel
theorem dL_errors_235 : decode cL_errors 235 = .ok (.ifCond .eq 41, 3) := by decide +kernel
theorem dL_errors_238 : decode cL_errors 238 = .ok (.aload_n 0, 1) := by decide +kernel
theorem dL_errors_239 : decode cL_errors 239 = .ok (.iconst 0, 1) := by decide +kernel
theorem dL_errors_240 : decode cL_errors 240 = .ok (.iconst 0, 1) := by decide +kernel
theorem dL_errors_241 : decode cL_errors 241 = .ok (.invokestatic 133, 3) := by decide +kernel
theorem dL_errors_244 : decode cL_errors 244 = .ok (.ldc2_w 21, 3) := by decide +kernel
theorem dL_errors_247 : decode cL_errors 247 = .ok (.lcmp, 1) := by decide +kernel
theorem dL_errors_248 : decode cL_errors 248 = .ok (.ifCond .ne 153, 3) := by decide +kernel
theorem dL_errors_251 : decode cL_errors 251 = .ok (.aload_n 0, 1) := by decide +kernel
theorem dL_errors_252 : decode cL_errors 252 = .ok (.invokestatic 135, 3) := by decide +kernel
theorem dL_errors_255 : decode cL_errors 255 = .ok (.ldc2_w 21, 3) := by decide +kernel
theorem dL_errors_258 : decode cL_errors 258 = .ok (.lcmp, 1) := by decide +kernel
theorem dL_errors_259 : decode cL_errors 259 = .ok (.ifCond .ne 142, 3) := by decide +kernel
theorem dL_errors_262 : decode cL_errors 262 = .ok (.aload_n 0, 1) := by decide +kernel
theorem dL_errors_263 : decode cL_errors 263 = .ok (.iconst 0, 1) := by decide +kernel
theorem dL_errors_264 : decode cL_errors 264 = .ok (.iconst 0, 1) := by decide +kernel
theorem dL_errors_265 : decode cL_errors 265 = .ok (.iconst 1, 1) := by decide +kernel
theorem dL_errors_266 : decode cL_errors 266 = .ok (.invokestatic 137, 3) := by decide +kernel
theorem dL_errors_269 : decode cL_errors 269 = .ok (.ldc2_w 21, 3) := by decide +kernel
theorem dL_errors_272 : decode cL_errors 272 = .ok (.lcmp, 1) := by decide +kernel
theorem dL_errors_273 : decode cL_errors 273 = .ok (.ifCond .ne 128, 3) := by decide +kernel
theorem dL_errors_276 : decode cL_errors 276 = .ok (.aload_n 0, 1) := by decide +kernel
theorem dL_errors_277 : decode cL_errors 277 = .ok (.iconst (-1), 1) := by decide +kernel
theorem dL_errors_278 : decode cL_errors 278 = .ok (.invokestatic 140, 3) := by decide +kernel
theorem dL_errors_281 : decode cL_errors 281 = .ok (.ldc2_w 17, 3) := by decide +kernel
theorem dL_errors_284 : decode cL_errors 284 = .ok (.lcmp, 1) := by decide +kernel
theorem dL_errors_285 : decode cL_errors 285 = .ok (.ifCond .ne 116, 3) := by decide +kernel
theorem dL_errors_288 : decode cL_errors 288 = .ok (.iload 5, 2) := by decide +kernel
theorem dL_errors_290 : decode cL_errors 290 = .ok (.ifCond .ne 16, 3) := by decide +kernel
theorem dL_errors_293 : decode cL_errors 293 = .ok (.aload_n 0, 1) := by decide +kernel
theorem dL_errors_294 : decode cL_errors 294 = .ok (.bipush 7, 2) := by decide +kernel
theorem dL_errors_296 : decode cL_errors 296 = .ok (.invokestatic 127, 3) := by decide +kernel
theorem dL_errors_299 : decode cL_errors 299 = .ok (.ldc2_w 142, 3) := by decide +kernel
theorem dL_errors_302 : decode cL_errors 302 = .ok (.lcmp, 1) := by decide +kernel
theorem dL_errors_303 : decode cL_errors 303 = .ok (.ifCond .ne 16, 3) := by decide +kernel
theorem dL_errors_306 : decode cL_errors 306 = .ok (.aload_n 0, 1) := by decide +kernel
theorem dL_errors_307 : decode cL_errors 307 = .ok (.bipush 7, 2) := by decide +kernel
theorem dL_errors_309 : decode cL_errors 309 = .ok (.invokestatic 140, 3) := by decide +kernel
theorem dL_errors_312 : decode cL_errors 312 = .ok (.ldc2_w 21, 3) := by decide +kernel
theorem dL_errors_315 : decode cL_errors 315 = .ok (.lcmp, 1) := by decide +kernel
theorem dL_errors_316 : decode cL_errors 316 = .ok (.ifCond .ne 85, 3) := by decide +kernel
theorem dL_errors_319 : decode cL_errors 319 = .ok (.aload_n 0, 1) := by decide +kernel
theorem dL_errors_320 : decode cL_errors 320 = .ok (.invokevirtual 144, 3) := by decide +kernel
theorem dL_errors_323 : decode cL_errors 323 = .ok (.bipush (-9), 2) := by decide +kernel
theorem dL_errors_325 : decode cL_errors 325 = .ok (.if_icmp .ne 14, 3) := by decide +kernel
theorem dL_errors_328 : decode cL_errors 328 = .ok (.aload_n 0, 1) := by decide +kernel
theorem dL_errors_329 : decode cL_errors 329 = .ok (.invokestatic 147, 3) := by decide +kernel
theorem dL_errors_332 : decode cL_errors 332 = .ok (.ldc2_w 21, 3) := by decide +kernel
theorem dL_errors_335 : decode cL_errors 335 = .ok (.lcmp, 1) := by decide +kernel
theorem dL_errors_336 : decode cL_errors 336 = .ok (.ifCond .ne 65, 3) := by decide +kernel
theorem dL_errors_339 : decode cL_errors 339 = .ok (.aload_n 0, 1) := by decide +kernel
theorem dL_errors_340 : decode cL_errors 340 = .ok (.bipush 100, 2) := by decide +kernel
theorem dL_errors_342 : decode cL_errors 342 = .ok (.invokestatic 149, 3) := by decide +kernel
theorem dL_errors_345 : decode cL_errors 345 = .ok (.ldc2_w 17, 3) := by decide +kernel
theorem dL_errors_348 : decode cL_errors 348 = .ok (.lcmp, 1) := by decide +kernel
theorem dL_errors_349 : decode cL_errors 349 = .ok (.ifCond .ne 52, 3) := by decide +kernel
theorem dL_errors_352 : decode cL_errors 352 = .ok (.iload 4, 2) := by decide +kernel
theorem dL_errors_354 : decode cL_errors 354 = .ok (.ifCond .eq 15, 3) := by decide +kernel
theorem dL_errors_357 : decode cL_errors 357 = .ok (.aload_n 0, 1) := by decide +kernel
theorem dL_errors_358 : decode cL_errors 358 = .ok (.iconst 5, 1) := by decide +kernel
theorem dL_errors_359 : decode cL_errors 359 = .ok (.invokestatic 149, 3) := by decide +kernel
theorem dL_errors_362 : decode cL_errors 362 = .ok (.ldc2_w 21, 3) := by decide +kernel
theorem dL_errors_365 : decode cL_errors 365 = .ok (.lcmp, 1) := by decide +kernel
theorem dL_errors_366 : decode cL_errors 366 = .ok (.ifCond .ne 35, 3) := by decide +kernel
theorem dL_errors_369 : decode cL_errors 369 = .ok (.iload 4, 2) := by decide +kernel
theorem dL_errors_371 : decode cL_errors 371 = .ok (.ifCond .ne 14, 3) := by decide +kernel
theorem dL_errors_374 : decode cL_errors 374 = .ok (.aload_n 0, 1) := by decide +kernel
theorem dL_errors_375 : decode cL_errors 375 = .ok (.invokestatic 151, 3) := by decide +kernel
theorem dL_errors_378 : decode cL_errors 378 = .ok (.ldc2_w 21, 3) := by decide +kernel
theorem dL_errors_381 : decode cL_errors 381 = .ok (.lcmp, 1) := by decide +kernel
theorem dL_errors_382 : decode cL_errors 382 = .ok (.ifCond .ne 19, 3) := by decide +kernel
theorem dL_errors_385 : decode cL_errors 385 = .ok (.aload_n 0, 1) := by decide +kernel
theorem dL_errors_386 : decode cL_errors 386 = .ok (.iconst 3, 1) := by decide +kernel
theorem dL_errors_387 : decode cL_errors 387 = .ok (.invokestatic 153, 3) := by decide +kernel
theorem dL_errors_390 : decode cL_errors 390 = .ok (.ldc2_w 17, 3) := by decide +kernel
theorem dL_errors_393 : decode cL_errors 393 = .ok (.lcmp, 1) := by decide +kernel
theorem dL_errors_394 : decode cL_errors 394 = .ok (.ifCond .ne 7, 3) := by decide +kernel
theorem dL_errors_397 : decode cL_errors 397 = .ok (.iconst 1, 1) := by decide +kernel
theorem dL_errors_398 : decode cL_errors 398 = .ok (.goto 4, 3) := by decide +kernel
theorem dL_errors_402 : decode cL_errors 402 = .ok (.istore 6, 2) := by decide +kernel
theorem dL_errors_404 : decode cL_errors 404 = .ok (.iload 6, 2) := by decide +kernel
theorem dL_errors_406 : decode cL_errors 406 = .ok (.ifCond .eq 134, 3) := by decide +kernel
theorem dL_errors_409 : decode cL_errors 409 = .ok (.aload_n 0, 1) := by decide +kernel
theorem dL_errors_410 : decode cL_errors 410 = .ok (.iconst 0, 1) := by decide +kernel
theorem dL_errors_411 : decode cL_errors 411 = .ok (.iconst 0, 1) := by decide +kernel
theorem dL_errors_412 : decode cL_errors 412 = .ok (.iconst 0, 1) := by decide +kernel
theorem dL_errors_413 : decode cL_errors 413 = .ok (.invokestatic 137, 3) := by decide +kernel
theorem dL_errors_416 : decode cL_errors 416 = .ok (.ldc2_w 17, 3) := by decide +kernel
theorem dL_errors_419 : decode cL_errors 419 = .ok (.lcmp, 1) := by decide +kernel
theorem dL_errors_420 : decode cL_errors 420 = .ok (.ifCond .ne 120, 3) := by decide +kernel
theorem dL_errors_423 : decode cL_errors 423 = .ok (.aload_n 0, 1) := by decide +kernel
theorem dL_errors_424 : decode cL_errors 424 = .ok (.iconst 0, 1) := by decide +kernel
theorem dL_errors_425 : decode cL_errors 425 = .ok (.iconst (-1), 1) := by decide +kernel
theorem dL_errors_426 : decode cL_errors 426 = .ok (.iconst 1, 1) := by decide +kernel
theorem dL_errors_427 : decode cL_errors 427 = .ok (.invokestatic 137, 3) := by decide +kernel
theorem dL_errors_430 : decode cL_errors 430 = .ok (.ldc2_w 17, 3) := by decide +kernel
theorem dL_errors_433 : decode cL_errors 433 = .ok (.lcmp, 1) := by decide +kernel
theorem dL_errors_434 : decode cL_errors 434 = .ok (.ifCond .ne 106, 3) := by decide +kernel
theorem dL_errors_437 : decode cL_errors 437 = .ok (.aload_n 0, 1) := by decide +kernel
theorem dL_errors_438 : decode cL_errors 438 = .ok (.bipush 16, 2) := by decide +kernel
theorem dL_errors_440 : decode cL_errors 440 = .ok (.invokestatic 155, 3) := by decide +kernel
theorem dL_errors_443 : decode cL_errors 443 = .ok (.ldc2_w 17, 3) := by decide +kernel
theorem dL_errors_446 : decode cL_errors 446 = .ok (.lcmp, 1) := by decide +kernel
theorem dL_errors_447 : decode cL_errors 447 = .ok (.ifCond .ne 93, 3) := by decide +kernel
theorem dL_errors_450 : decode cL_errors 450 = .ok (.aload_n 0, 1) := by decide +kernel
theorem dL_errors_451 : decode cL_errors 451 = .ok (.iconst 0, 1) := by decide +kernel
theorem dL_errors_452 : decode cL_errors 452 = .ok (.lconst 0, 1) := by decide +kernel
theorem dL_errors_453 : decode cL_errors 453 = .ok (.invokestatic 157, 3) := by decide +kernel
theorem dL_errors_456 : decode cL_errors 456 = .ok (.ldc2_w 17, 3) := by decide +kernel
theorem dL_errors_459 : decode cL_errors 459 = .ok (.lcmp, 1) := by decide +kernel
theorem dL_errors_460 : decode cL_errors 460 = .ok (.ifCond .ne 80, 3) := by decide +kernel
theorem dL_errors_463 : decode cL_errors 463 = .ok (.aload_n 0, 1) := by decide +kernel
theorem dL_errors_464 : decode cL_errors 464 = .ok (.iconst 4, 1) := by decide +kernel
theorem dL_errors_465 : decode cL_errors 465 = .ok (.ldc2_w 161, 3) := by decide +kernel
theorem dL_errors_468 : decode cL_errors 468 = .ok (.invokestatic 157, 3) := by decide +kernel
theorem dL_errors_471 : decode cL_errors 471 = .ok (.ldc2_w 17, 3) := by decide +kernel
theorem dL_errors_474 : decode cL_errors 474 = .ok (.lcmp, 1) := by decide +kernel
theorem dL_errors_475 : decode cL_errors 475 = .ok (.ifCond .ne 65, 3) := by decide +kernel
theorem dL_errors_478 : decode cL_errors 478 = .ok (.aload_n 0, 1) := by decide +kernel
theorem dL_errors_479 : decode cL_errors 479 = .ok (.lconst 1, 1) := by decide +kernel
theorem dL_errors_480 : decode cL_errors 480 = .ok (.iconst 0, 1) := by decide +kernel
theorem dL_errors_481 : decode cL_errors 481 = .ok (.invokestatic 163, 3) := by decide +kernel
theorem dL_errors_484 : decode cL_errors 484 = .ok (.ldc2_w 17, 3) := by decide +kernel
theorem dL_errors_487 : decode cL_errors 487 = .ok (.lcmp, 1) := by decide +kernel
theorem dL_errors_488 : decode cL_errors 488 = .ok (.ifCond .ne 52, 3) := by decide +kernel
theorem dL_errors_491 : decode cL_errors 491 = .ok (.aload_n 0, 1) := by decide +kernel
theorem dL_errors_492 : decode cL_errors 492 = .ok (.iconst 2, 1) := by decide +kernel
theorem dL_errors_493 : decode cL_errors 493 = .ok (.invokestatic 166, 3) := by decide +kernel
theorem dL_errors_496 : decode cL_errors 496 = .ok (.ldc2_w 36, 3) := by decide +kernel
theorem dL_errors_499 : decode cL_errors 499 = .ok (.lcmp, 1) := by decide +kernel
theorem dL_errors_500 : decode cL_errors 500 = .ok (.ifCond .ne 40, 3) := by decide +kernel
theorem dL_errors_503 : decode cL_errors 503 = .ok (.aload_n 0, 1) := by decide +kernel
theorem dL_errors_504 : decode cL_errors 504 = .ok (.iconst 2, 1) := by decide +kernel
theorem dL_errors_505 : decode cL_errors 505 = .ok (.invokestatic 168, 3) := by decide +kernel
theorem dL_errors_508 : decode cL_errors 508 = .ok (.ldc2_w 36, 3) := by decide +kernel
theorem dL_errors_511 : decode cL_errors 511 = .ok (.lcmp, 1) := by decide +kernel
theorem dL_errors_512 : decode cL_errors 512 = .ok (.ifCond .ne 28, 3) := by decide +kernel
theorem dL_errors_515 : decode cL_errors 515 = .ok (.aload_n 0, 1) := by decide +kernel
theorem dL_errors_516 : decode cL_errors 516 = .ok (.iconst (-1), 1) := by decide +kernel
theorem dL_errors_517 : decode cL_errors 517 = .ok (.invokestatic 170, 3) := by decide +kernel
theorem dL_errors_520 : decode cL_errors 520 = .ok (.ldc2_w 17, 3) := by decide +kernel
theorem dL_errors_523 : decode cL_errors 523 = .ok (.lcmp, 1) := by decide +kernel
theorem dL_errors_524 : decode cL_errors 524 = .ok (.ifCond .ne 16, 3) := by decide +kernel
theorem dL_errors_527 : decode cL_errors 527 = .ok (.aload_n 0, 1) := by decide +kernel
theorem dL_errors_528 : decode cL_errors 528 = .ok (.invokestatic 120, 3) := by decide +kernel
theorem dL_errors_531 : decode cL_errors 531 = .ok (.lload_n 1, 1) := by decide +kernel
theorem dL_errors_532 : decode cL_errors 532 = .ok (.lcmp, 1) := by decide +kernel
theorem dL_errors_533 : decode cL_errors 533 = .ok (.ifCond .ne 7, 3) := by decide +kernel
theorem dL_errors_536 : decode cL_errors 536 = .ok (.iconst 1, 1) := by decide +kernel
theorem dL_errors_537 : decode cL_errors 537 = .ok (.goto 4, 3) := by decide +kernel
theorem dL_errors_541 : decode cL_errors 541 = .ok (.ireturn, 1) := by decide +kernel
set_option maxHeartbeats 8000000 in
set_option maxRecDepth 100000 in
theorem c_errors (l : Launch) (hst : l.stackTraces = false) (D : va_G) (cI cL cZ : ClassId) (Gs : Nat → Geo) (hG : GeoOk (Gs 0)) (a : AS) (hGo : Go a) : LZ l yL_errors cL_errors 7 9 222 460 2760 D cI cL cZ Gs [a] [.ref ((Gs 0).1 1)] 1 [a] := by
  have hB := inv_B hGo.2
  refine lz_of (by decide) rfl (Nat.le_of_ble_eq_true rfl) ?_
  intro p e s m below meth c ls H A hF hr hlocks hw hl
  have hx := hF.1.1
  have hb := hF.1.2.1
  have hown := hF.1.2.2.2.1
  have hts := hF.1.2.2.2.2
  have hl : lv_has ls 7 [(0, .ref ((Gs 0).1 1))] := hl
  refine W.widen (k := 0) (n := 6 * 0) (Nat.le_refl _) (Nat.le_refl _) ?_
  have JP385 : ∀ (H : Heap) (locs : List Loc) (ls : Array Slot), LO D cI cL cZ A s Gs [a] H locs → lv_has ls 7 [(6, .int (1)), (5, .int (bI (¬ wnV a.2.1 = 0))), (4, .int (bI (¬ a.2.1.1.1 = true))), (1, .long (nwZ a.2.1)), (3, .int (nI (a.2.1.1.2))), (0, .ref ((Gs 0).1 1))] → W p l e ({ frames := 9, cells := 460, slots := 2760, locals := 222 } : Room) s m [.ref ((Gs 0).1 1)].toArray below meth c H locs (238) (6 * (238)) (MQ below (lqI D cI cL cZ Gs 1 [a] A) [.ref ((Gs 0).1 1)].toArray s 460 2760 A) (F0 m 385 ls []) := by
    intro H locs ls hw hl
    refine lv_aload_n hx hb dL_errors_385 rfl (lv_at hl 5 rfl) ?_
    refine lv_iconst (v := 3) hx hb dL_errors_386 (by decide) ?_
    refine lo_callX hF (lx_eq (x_setPolicy (Gs := fun _ => Gs 0) hst hG hGo 3) (show _ = (-9000000000000000002) from (rf_pol3).1) (show _ = [a] from congrArg (fun y => [y]) (rf_pol3).2)) k_setPolicy ⟨Nat.le_of_ble_eq_true rfl, Nat.le_of_ble_eq_true rfl⟩ hw [0] (by decide) rfl (hg_one rfl) rfl hl.1 rfl (Nat.le_of_ble_eq_true rfl) dL_errors_387 ⟨by show _ ≤ (460 : Nat); omega, by show _ ≤ (2760 : Nat); omega⟩ (fun H locs hw => ?_)
    have hw : LO D cI cL cZ A s Gs [a] H locs := hw
    refine W.widen (k := 238 + 1) (n := 6 * (238 + 1)) (Nat.le_refl _) (by omega) ?_
    refine lv_ldc2 (v := (-9000000000000000002)) hx hb hown (hts _ (mlA 4 rfl)) dL_errors_390 ?_
    refine W.lcmp hx hb dL_errors_393 ?_
    refine lv_if_ne (tgt := 401) hx hb dL_errors_394 (by decide) (fun c394 => ?_) (fun c394 => ?_)
    · skip
      exact (c394 ((lg_cmp_eq _ _).mpr rfl)).elim
    · skip
      have c394 := (lg_cmp_eq _ _).mp c394
      refine lv_iconst (v := 1) hx hb dL_errors_397 (by decide) ?_
      refine lv_goto (tgt := 402) hx hb dL_errors_398 (by decide) ?_
      refine lv_istore (lv' := [(6, .int (1)), (5, .int (bI (¬ wnV a.2.1 = 0))), (4, .int (bI (¬ a.2.1.1.1 = true))), (1, .long (nwZ a.2.1)), (3, .int (nI (a.2.1.1.2))), (0, .ref ((Gs 0).1 1))]) hx hb dL_errors_402 hl (by decide) rfl (fun ls hl => ?_)
      refine lv_iload hx hb dL_errors_404 (lv_at hl 0 rfl) ?_
      refine lv_if_eq (tgt := 540) hx hb dL_errors_406 (by decide) (fun c406 => ?_) (fun c406 => ?_)
      · skip
        exact absurd c406 (by decide)
      · skip
        refine lv_aload_n hx hb dL_errors_409 rfl (lv_at hl 5 rfl) ?_
        refine lv_iconst (v := 0) hx hb dL_errors_410 (by decide) ?_
        refine lv_iconst (v := 0) hx hb dL_errors_411 (by decide) ?_
        refine lv_iconst (v := 0) hx hb dL_errors_412 (by decide) ?_
        refine lo_callX hF (lx_eq (x_afterCut (Gs := fun _ => Gs 0) hst hG hGo 0 0 0) (show _ = (-9000000000000000002) from rf_afc0) (show _ = [a] from rfl)) k_afterCut ⟨Nat.le_of_ble_eq_true rfl, Nat.le_of_ble_eq_true rfl⟩ hw [0] (by decide) rfl (hg_one rfl) rfl hl.1 rfl (Nat.le_of_ble_eq_true rfl) dL_errors_413 ⟨by show _ ≤ (460 : Nat); omega, by show _ ≤ (2760 : Nat); omega⟩ (fun H locs hw => ?_)
        have hw : LO D cI cL cZ A s Gs [a] H locs := hw
        refine W.widen (k := 238 + 1 + 1) (n := 6 * (238 + 1 + 1)) (Nat.le_refl _) (by omega) ?_
        refine lv_ldc2 (v := (-9000000000000000002)) hx hb hown (hts _ (mlA 4 rfl)) dL_errors_416 ?_
        refine W.lcmp hx hb dL_errors_419 ?_
        refine lv_if_ne (tgt := 540) hx hb dL_errors_420 (by decide) (fun c420 => ?_) (fun c420 => ?_)
        · skip
          exact (c420 ((lg_cmp_eq _ _).mpr rfl)).elim
        · skip
          have c420 := (lg_cmp_eq _ _).mp c420
          refine lv_aload_n hx hb dL_errors_423 rfl (lv_at hl 5 rfl) ?_
          refine lv_iconst (v := 0) hx hb dL_errors_424 (by decide) ?_
          refine lv_iconst (v := (-1)) hx hb dL_errors_425 (by decide) ?_
          refine lv_iconst (v := 1) hx hb dL_errors_426 (by decide) ?_
          refine lo_callX hF (lx_eq (x_afterCut (Gs := fun _ => Gs 0) hst hG hGo 0 (-1) 1) (show _ = (-9000000000000000002) from rf_afcn) (show _ = [a] from rfl)) k_afterCut ⟨Nat.le_of_ble_eq_true rfl, Nat.le_of_ble_eq_true rfl⟩ hw [0] (by decide) rfl (hg_one rfl) rfl hl.1 rfl (Nat.le_of_ble_eq_true rfl) dL_errors_427 ⟨by show _ ≤ (460 : Nat); omega, by show _ ≤ (2760 : Nat); omega⟩ (fun H locs hw => ?_)
          have hw : LO D cI cL cZ A s Gs [a] H locs := hw
          refine W.widen (k := 238 + 1 + 1 + 1) (n := 6 * (238 + 1 + 1 + 1)) (Nat.le_refl _) (by omega) ?_
          refine lv_ldc2 (v := (-9000000000000000002)) hx hb hown (hts _ (mlA 4 rfl)) dL_errors_430 ?_
          refine W.lcmp hx hb dL_errors_433 ?_
          refine lv_if_ne (tgt := 540) hx hb dL_errors_434 (by decide) (fun c434 => ?_) (fun c434 => ?_)
          · skip
            exact (c434 ((lg_cmp_eq _ _).mpr rfl)).elim
          · skip
            have c434 := (lg_cmp_eq _ _).mp c434
            refine lv_aload_n hx hb dL_errors_437 rfl (lv_at hl 5 rfl) ?_
            refine lv_bipush (v := 16) hx hb dL_errors_438 (by decide) ?_
            refine lo_callX hF (lx_eq (x_lasts (Gs := fun _ => Gs 0) hst hG hGo 16) (show _ = (-9000000000000000002) from if_neg (by decide)) (show _ = [a] from rfl)) k_lasts ⟨Nat.le_of_ble_eq_true rfl, Nat.le_of_ble_eq_true rfl⟩ hw [0] (by decide) rfl (hg_one rfl) rfl hl.1 rfl (Nat.le_of_ble_eq_true rfl) dL_errors_440 ⟨by show _ ≤ (460 : Nat); omega, by show _ ≤ (2760 : Nat); omega⟩ (fun H locs hw => ?_)
            have hw : LO D cI cL cZ A s Gs [a] H locs := hw
            refine W.widen (k := 238 + 1 + 1 + 1 + 1) (n := 6 * (238 + 1 + 1 + 1 + 1)) (Nat.le_refl _) (by omega) ?_
            refine lv_ldc2 (v := (-9000000000000000002)) hx hb hown (hts _ (mlA 4 rfl)) dL_errors_443 ?_
            refine W.lcmp hx hb dL_errors_446 ?_
            refine lv_if_ne (tgt := 540) hx hb dL_errors_447 (by decide) (fun c447 => ?_) (fun c447 => ?_)
            · skip
              exact (c447 ((lg_cmp_eq _ _).mpr rfl)).elim
            · skip
              have c447 := (lg_cmp_eq _ _).mp c447
              refine lv_aload_n hx hb dL_errors_450 rfl (lv_at hl 5 rfl) ?_
              refine lv_iconst (v := 0) hx hb dL_errors_451 (by decide) ?_
              refine lv_lconst (v := 0) hx hb dL_errors_452 (by decide) ?_
              refine lo_callX hF (lx_eq (x_script (Gs := fun _ => Gs 0) hst hG hGo 0 0) (show _ = (-9000000000000000002) from if_neg (by decide)) (show _ = [a] from rfl)) k_script ⟨Nat.le_of_ble_eq_true rfl, Nat.le_of_ble_eq_true rfl⟩ hw [0] (by decide) rfl (hg_one rfl) rfl hl.1 rfl (Nat.le_of_ble_eq_true rfl) dL_errors_453 ⟨by show _ ≤ (460 : Nat); omega, by show _ ≤ (2760 : Nat); omega⟩ (fun H locs hw => ?_)
              have hw : LO D cI cL cZ A s Gs [a] H locs := hw
              refine W.widen (k := 238 + 1 + 1 + 1 + 1 + 1) (n := 6 * (238 + 1 + 1 + 1 + 1 + 1)) (Nat.le_refl _) (by omega) ?_
              refine lv_ldc2 (v := (-9000000000000000002)) hx hb hown (hts _ (mlA 4 rfl)) dL_errors_456 ?_
              refine W.lcmp hx hb dL_errors_459 ?_
              refine lv_if_ne (tgt := 540) hx hb dL_errors_460 (by decide) (fun c460 => ?_) (fun c460 => ?_)
              · skip
                exact (c460 ((lg_cmp_eq _ _).mpr rfl)).elim
              · skip
                have c460 := (lg_cmp_eq _ _).mp c460
                refine lv_aload_n hx hb dL_errors_463 rfl (lv_at hl 5 rfl) ?_
                refine lv_iconst (v := 4) hx hb dL_errors_464 (by decide) ?_
                refine lv_ldc2 (v := 10000000000000000) hx hb hown (hts _ (mlA 119 rfl)) dL_errors_465 ?_
                refine lo_callX hF (lx_eq (x_script (Gs := fun _ => Gs 0) hst hG hGo 4 10000000000000000) (show _ = (-9000000000000000002) from rf_sc4) (show _ = [a] from rfl)) k_script ⟨Nat.le_of_ble_eq_true rfl, Nat.le_of_ble_eq_true rfl⟩ hw [0] (by decide) rfl (hg_one rfl) rfl hl.1 rfl (Nat.le_of_ble_eq_true rfl) dL_errors_468 ⟨by show _ ≤ (460 : Nat); omega, by show _ ≤ (2760 : Nat); omega⟩ (fun H locs hw => ?_)
                have hw : LO D cI cL cZ A s Gs [a] H locs := hw
                refine W.widen (k := 238 + 1 + 1 + 1 + 1 + 1 + 1) (n := 6 * (238 + 1 + 1 + 1 + 1 + 1 + 1)) (Nat.le_refl _) (by omega) ?_
                refine lv_ldc2 (v := (-9000000000000000002)) hx hb hown (hts _ (mlA 4 rfl)) dL_errors_471 ?_
                refine W.lcmp hx hb dL_errors_474 ?_
                refine lv_if_ne (tgt := 540) hx hb dL_errors_475 (by decide) (fun c475 => ?_) (fun c475 => ?_)
                · skip
                  exact (c475 ((lg_cmp_eq _ _).mpr rfl)).elim
                · skip
                  have c475 := (lg_cmp_eq _ _).mp c475
                  refine lv_aload_n hx hb dL_errors_478 rfl (lv_at hl 5 rfl) ?_
                  refine lv_lconst (v := 1) hx hb dL_errors_479 (by decide) ?_
                  refine lv_iconst (v := 0) hx hb dL_errors_480 (by decide) ?_
                  refine lo_callX hF (lx_eq (x_simulate (Gs := fun _ => Gs 0) hst hG hGo 1 0) (show _ = (-9000000000000000002) from if_neg (by decide)) (show _ = [a] from rfl)) k_simulate ⟨Nat.le_of_ble_eq_true rfl, Nat.le_of_ble_eq_true rfl⟩ hw [0] (by decide) rfl (hg_one rfl) rfl hl.1 rfl (Nat.le_of_ble_eq_true rfl) dL_errors_481 ⟨by show _ ≤ (460 : Nat); omega, by show _ ≤ (2760 : Nat); omega⟩ (fun H locs hw => ?_)
                  have hw : LO D cI cL cZ A s Gs [a] H locs := hw
                  refine W.widen (k := 238 + 1 + 1 + 1 + 1 + 1 + 1 + 1) (n := 6 * (238 + 1 + 1 + 1 + 1 + 1 + 1 + 1)) (Nat.le_refl _) (by omega) ?_
                  refine lv_ldc2 (v := (-9000000000000000002)) hx hb hown (hts _ (mlA 4 rfl)) dL_errors_484 ?_
                  refine W.lcmp hx hb dL_errors_487 ?_
                  refine lv_if_ne (tgt := 540) hx hb dL_errors_488 (by decide) (fun c488 => ?_) (fun c488 => ?_)
                  · skip
                    exact (c488 ((lg_cmp_eq _ _).mpr rfl)).elim
                  · skip
                    have c488 := (lg_cmp_eq _ _).mp c488
                    refine lv_aload_n hx hb dL_errors_491 rfl (lv_at hl 5 rfl) ?_
                    refine lv_iconst (v := 2) hx hb dL_errors_492 (by decide) ?_
                    refine lo_callX hF (lx_eq (x_save (Gs := fun _ => Gs 0) hst hG hGo 2) (show _ = (-9000000000000000001) from (rf_sav2).1) (show _ = [a] from congrArg (fun y => [y]) (rf_sav2).2)) k_save ⟨Nat.le_of_ble_eq_true rfl, Nat.le_of_ble_eq_true rfl⟩ hw [0] (by decide) rfl (hg_one rfl) rfl hl.1 rfl (Nat.le_of_ble_eq_true rfl) dL_errors_493 ⟨by show _ ≤ (460 : Nat); omega, by show _ ≤ (2760 : Nat); omega⟩ (fun H locs hw => ?_)
                    have hw : LO D cI cL cZ A s Gs [a] H locs := hw
                    refine W.widen (k := 238 + 1 + 1 + 1 + 1 + 1 + 1 + 1 + 1) (n := 6 * (238 + 1 + 1 + 1 + 1 + 1 + 1 + 1 + 1)) (Nat.le_refl _) (by omega) ?_
                    refine lv_ldc2 (v := (-9000000000000000001)) hx hb hown (hts _ (mlA 19 rfl)) dL_errors_496 ?_
                    refine W.lcmp hx hb dL_errors_499 ?_
                    refine lv_if_ne (tgt := 540) hx hb dL_errors_500 (by decide) (fun c500 => ?_) (fun c500 => ?_)
                    · skip
                      exact (c500 ((lg_cmp_eq _ _).mpr rfl)).elim
                    · skip
                      have c500 := (lg_cmp_eq _ _).mp c500
                      refine lv_aload_n hx hb dL_errors_503 rfl (lv_at hl 5 rfl) ?_
                      refine lv_iconst (v := 2) hx hb dL_errors_504 (by decide) ?_
                      refine lo_callX hF (lx_eq (x_restore (Gs := fun _ => Gs 0) hst hG hGo 2) (show _ = (-9000000000000000001) from (rf_rst2).1) (show _ = [a] from congrArg (fun y => [y]) (rf_rst2).2)) k_restore ⟨Nat.le_of_ble_eq_true rfl, Nat.le_of_ble_eq_true rfl⟩ hw [0] (by decide) rfl (hg_one rfl) rfl hl.1 rfl (Nat.le_of_ble_eq_true rfl) dL_errors_505 ⟨by show _ ≤ (460 : Nat); omega, by show _ ≤ (2760 : Nat); omega⟩ (fun H locs hw => ?_)
                      have hw : LO D cI cL cZ A s Gs [a] H locs := hw
                      refine W.widen (k := 238 + 1 + 1 + 1 + 1 + 1 + 1 + 1 + 1 + 1) (n := 6 * (238 + 1 + 1 + 1 + 1 + 1 + 1 + 1 + 1 + 1)) (Nat.le_refl _) (by omega) ?_
                      refine lv_ldc2 (v := (-9000000000000000001)) hx hb hown (hts _ (mlA 19 rfl)) dL_errors_508 ?_
                      refine W.lcmp hx hb dL_errors_511 ?_
                      refine lv_if_ne (tgt := 540) hx hb dL_errors_512 (by decide) (fun c512 => ?_) (fun c512 => ?_)
                      · skip
                        exact (c512 ((lg_cmp_eq _ _).mpr rfl)).elim
                      · skip
                        have c512 := (lg_cmp_eq _ _).mp c512
                        refine lv_aload_n hx hb dL_errors_515 rfl (lv_at hl 5 rfl) ?_
                        refine lv_iconst (v := (-1)) hx hb dL_errors_516 (by decide) ?_
                        refine lo_callX hF (lx_eq (x_append (Gs := fun _ => Gs 0) hst hG hGo (-1)) (show _ = (-9000000000000000002) from (rf_appn).1) (show _ = [a] from congrArg (fun y => [y]) (rf_appn).2)) k_append ⟨Nat.le_of_ble_eq_true rfl, Nat.le_of_ble_eq_true rfl⟩ hw [0] (by decide) rfl (hg_one rfl) rfl hl.1 rfl (Nat.le_of_ble_eq_true rfl) dL_errors_517 ⟨by show _ ≤ (460 : Nat); omega, by show _ ≤ (2760 : Nat); omega⟩ (fun H locs hw => ?_)
                        have hw : LO D cI cL cZ A s Gs [a] H locs := hw
                        refine W.widen (k := 238 + 1 + 1 + 1 + 1 + 1 + 1 + 1 + 1 + 1 + 1) (n := 6 * (238 + 1 + 1 + 1 + 1 + 1 + 1 + 1 + 1 + 1 + 1)) (Nat.le_refl _) (by omega) ?_
                        refine lv_ldc2 (v := (-9000000000000000002)) hx hb hown (hts _ (mlA 4 rfl)) dL_errors_520 ?_
                        refine W.lcmp hx hb dL_errors_523 ?_
                        refine lv_if_ne (tgt := 540) hx hb dL_errors_524 (by decide) (fun c524 => ?_) (fun c524 => ?_)
                        · skip
                          exact (c524 ((lg_cmp_eq _ _).mpr rfl)).elim
                        · skip
                          have c524 := (lg_cmp_eq _ _).mp c524
                          refine lv_aload_n hx hb dL_errors_527 rfl (lv_at hl 5 rfl) ?_
                          refine lo_callJ hF (c_now l hst D cI cL cZ (fun _ => Gs 0) hG a hGo ) k_now ⟨Nat.le_of_ble_eq_true rfl, Nat.le_of_ble_eq_true rfl⟩ hw [0] (by decide) rfl (hg_one rfl) rfl hl.1 rfl (Nat.le_of_ble_eq_true rfl) dL_errors_528 ⟨by show _ ≤ (460 : Nat); omega, by show _ ≤ (2760 : Nat); omega⟩ (fun H locs hw => ?_)
                          have hw : LO D cI cL cZ A s Gs [a] H locs := hw
                          refine W.widen (k := 238 + 1 + 1 + 1 + 1 + 1 + 1 + 1 + 1 + 1 + 1 + 200) (n := 6 * (238 + 1 + 1 + 1 + 1 + 1 + 1 + 1 + 1 + 1 + 1 + 200)) (Nat.le_refl _) (by omega) ?_
                          refine lv_lload_n hx hb dL_errors_531 rfl (lv_at hl 3 rfl) ?_
                          refine W.lcmp hx hb dL_errors_532 ?_
                          refine lv_if_ne (tgt := 540) hx hb dL_errors_533 (by decide) (fun c533 => ?_) (fun c533 => ?_)
                          · skip
                            exact (c533 ((lg_cmp_eq _ _).mpr rfl)).elim
                          · skip
                            have c533 := (lg_cmp_eq _ _).mp c533
                            refine lv_iconst (v := 1) hx hb dL_errors_536 (by decide) ?_
                            refine lv_goto (tgt := 541) hx hb dL_errors_537 (by decide) ?_
                            exact lo_retz hF hr hlocks hw (rfl) (rfl) (by omega) (by omega) dL_errors_541
  have JP369 : ∀ (H : Heap) (locs : List Loc) (ls : Array Slot), LO D cI cL cZ A s Gs [a] H locs → lv_has ls 7 [(6, .int (1)), (5, .int (bI (¬ wnV a.2.1 = 0))), (4, .int (bI (¬ a.2.1.1.1 = true))), (1, .long (nwZ a.2.1)), (3, .int (nI (a.2.1.1.2))), (0, .ref ((Gs 0).1 1))] → W p l e ({ frames := 9, cells := 460, slots := 2760, locals := 222 } : Room) s m [.ref ((Gs 0).1 1)].toArray below meth c H locs (236) (6 * (236)) (MQ below (lqI D cI cL cZ Gs 1 [a] A) [.ref ((Gs 0).1 1)].toArray s 460 2760 A) (F0 m 369 ls []) := by
    intro H locs ls hw hl
    refine lv_iload hx hb dL_errors_369 (lv_at hl 2 rfl) ?_
    refine lv_if_ne (tgt := 385) hx hb dL_errors_371 (by decide) (fun c371 => ?_) (fun c371 => ?_)
    · skip
      have c371 := bI_t c371
      exact W.widen (by omega) (by omega) (JP385  _ _ _  hw (lv_sub hl [0, 1, 2, 3, 4, 5] rfl))
    · skip
      have c371 := bI_f c371
      refine lv_aload_n hx hb dL_errors_374 rfl (lv_at hl 5 rfl) ?_
      refine lo_callX hF (lx_eq (x_start (Gs := fun _ => Gs 0) hst hG hGo ) (show _ = (-9000000000000000003) from (rf_sta (Decidable.not_not.mp c371)).1) (show _ = [a] from congrArg (fun y => [y]) (rf_sta (Decidable.not_not.mp c371)).2)) k_start ⟨Nat.le_of_ble_eq_true rfl, Nat.le_of_ble_eq_true rfl⟩ hw [0] (by decide) rfl (hg_one rfl) rfl hl.1 rfl (Nat.le_of_ble_eq_true rfl) dL_errors_375 ⟨by show _ ≤ (460 : Nat); omega, by show _ ≤ (2760 : Nat); omega⟩ (fun H locs hw => ?_)
      have hw : LO D cI cL cZ A s Gs [a] H locs := hw
      refine W.widen (k := 236 + 1) (n := 6 * (236 + 1)) (Nat.le_refl _) (by omega) ?_
      refine lv_ldc2 (v := (-9000000000000000003)) hx hb hown (hts _ (mlA 5 rfl)) dL_errors_378 ?_
      refine W.lcmp hx hb dL_errors_381 ?_
      refine lv_if_ne (tgt := 401) hx hb dL_errors_382 (by decide) (fun c382 => ?_) (fun c382 => ?_)
      · skip
        exact (c382 ((lg_cmp_eq _ _).mpr rfl)).elim
      · skip
        have c382 := (lg_cmp_eq _ _).mp c382
        exact W.widen (by omega) (by omega) (JP385  _ _ _  hw (lv_sub hl [0, 1, 2, 3, 4, 5] rfl))
  have JP339 : ∀ (H : Heap) (locs : List Loc) (ls : Array Slot), LO D cI cL cZ A s Gs [a] H locs → lv_has ls 7 [(6, .int (1)), (5, .int (bI (¬ wnV a.2.1 = 0))), (4, .int (bI (¬ a.2.1.1.1 = true))), (1, .long (nwZ a.2.1)), (3, .int (nI (a.2.1.1.2))), (0, .ref ((Gs 0).1 1))] → W p l e ({ frames := 9, cells := 460, slots := 2760, locals := 222 } : Room) s m [.ref ((Gs 0).1 1)].toArray below meth c H locs (232) (6 * (232)) (MQ below (lqI D cI cL cZ Gs 1 [a] A) [.ref ((Gs 0).1 1)].toArray s 460 2760 A) (F0 m 339 ls []) := by
    intro H locs ls hw hl
    refine lv_aload_n hx hb dL_errors_339 rfl (lv_at hl 5 rfl) ?_
    refine lv_bipush (v := 100) hx hb dL_errors_340 (by decide) ?_
    refine lo_callX hF (lx_eq (x_cut (Gs := fun _ => Gs 0) hst hG hGo 100) (show _ = (-9000000000000000002) from (rf_cut100).1) (show _ = [a] from congrArg (fun y => [y]) (rf_cut100).2)) k_cut ⟨Nat.le_of_ble_eq_true rfl, Nat.le_of_ble_eq_true rfl⟩ hw [0] (by decide) rfl (hg_one rfl) rfl hl.1 rfl (Nat.le_of_ble_eq_true rfl) dL_errors_342 ⟨by show _ ≤ (460 : Nat); omega, by show _ ≤ (2760 : Nat); omega⟩ (fun H locs hw => ?_)
    have hw : LO D cI cL cZ A s Gs [a] H locs := hw
    refine W.widen (k := 232 + 1) (n := 6 * (232 + 1)) (Nat.le_refl _) (by omega) ?_
    refine lv_ldc2 (v := (-9000000000000000002)) hx hb hown (hts _ (mlA 4 rfl)) dL_errors_345 ?_
    refine W.lcmp hx hb dL_errors_348 ?_
    refine lv_if_ne (tgt := 401) hx hb dL_errors_349 (by decide) (fun c349 => ?_) (fun c349 => ?_)
    · skip
      exact (c349 ((lg_cmp_eq _ _).mpr rfl)).elim
    · skip
      have c349 := (lg_cmp_eq _ _).mp c349
      refine lv_iload hx hb dL_errors_352 (lv_at hl 2 rfl) ?_
      refine lv_if_eq (tgt := 369) hx hb dL_errors_354 (by decide) (fun c354 => ?_) (fun c354 => ?_)
      · skip
        have c354 := bI_f c354
        exact W.widen (by omega) (by omega) (JP369  _ _ _  hw (lv_sub hl [0, 1, 2, 3, 4, 5] rfl))
      · skip
        have c354 := bI_t c354
        refine lv_aload_n hx hb dL_errors_357 rfl (lv_at hl 5 rfl) ?_
        refine lv_iconst (v := 5) hx hb dL_errors_358 (by decide) ?_
        refine lo_callX hF (lx_eq (x_cut (Gs := fun _ => Gs 0) hst hG hGo 5) (show _ = (-9000000000000000003) from (rf_cut5 c354).1) (show _ = [a] from congrArg (fun y => [y]) (rf_cut5 c354).2)) k_cut ⟨Nat.le_of_ble_eq_true rfl, Nat.le_of_ble_eq_true rfl⟩ hw [0] (by decide) rfl (hg_one rfl) rfl hl.1 rfl (Nat.le_of_ble_eq_true rfl) dL_errors_359 ⟨by show _ ≤ (460 : Nat); omega, by show _ ≤ (2760 : Nat); omega⟩ (fun H locs hw => ?_)
        have hw : LO D cI cL cZ A s Gs [a] H locs := hw
        refine W.widen (k := 232 + 1 + 1) (n := 6 * (232 + 1 + 1)) (Nat.le_refl _) (by omega) ?_
        refine lv_ldc2 (v := (-9000000000000000003)) hx hb hown (hts _ (mlA 5 rfl)) dL_errors_362 ?_
        refine W.lcmp hx hb dL_errors_365 ?_
        refine lv_if_ne (tgt := 401) hx hb dL_errors_366 (by decide) (fun c366 => ?_) (fun c366 => ?_)
        · skip
          exact (c366 ((lg_cmp_eq _ _).mpr rfl)).elim
        · skip
          have c366 := (lg_cmp_eq _ _).mp c366
          exact W.widen (by omega) (by omega) (JP369  _ _ _  hw (lv_sub hl [0, 1, 2, 3, 4, 5] rfl))
  have JP319 : ∀ (H : Heap) (locs : List Loc) (ls : Array Slot), LO D cI cL cZ A s Gs [a] H locs → lv_has ls 7 [(6, .int (1)), (5, .int (bI (¬ wnV a.2.1 = 0))), (4, .int (bI (¬ a.2.1.1.1 = true))), (1, .long (nwZ a.2.1)), (3, .int (nI (a.2.1.1.2))), (0, .ref ((Gs 0).1 1))] → W p l e ({ frames := 9, cells := 460, slots := 2760, locals := 222 } : Room) s m [.ref ((Gs 0).1 1)].toArray below meth c H locs (230) (6 * (230)) (MQ below (lqI D cI cL cZ Gs 1 [a] A) [.ref ((Gs 0).1 1)].toArray s 460 2760 A) (F0 m 319 ls []) := by
    intro H locs ls hw hl
    refine lv_aload_n hx hb dL_errors_319 rfl (lv_at hl 5 rfl) ?_
    refine lo_callV (i := 0) hF (x_victim (Gs := fun _ => Gs 0) hGo) k_victim ⟨Nat.le_of_ble_eq_true rfl, Nat.le_of_ble_eq_true rfl⟩ hw rfl rfl rfl hl.1 rfl (Nat.le_of_ble_eq_true rfl) dL_errors_320 ⟨by show _ ≤ (460 : Nat); omega, by show _ ≤ (2760 : Nat); omega⟩ (fun H locs hw => ?_)
    have hw : LO D cI cL cZ A s Gs [a] H locs := hw
    refine lv_bipush (v := (-9)) hx hb dL_errors_323 (by decide) ?_
    refine lv_icmp_ne (tgt := 339) hx hb dL_errors_325 (by decide) (fun c325 => ?_) (fun c325 => ?_)
    · skip
      exact W.widen (by omega) (by omega) (JP339  _ _ _  hw (lv_sub hl [0, 1, 2, 3, 4, 5] rfl))
    · skip
      refine lv_aload_n hx hb dL_errors_328 rfl (lv_at hl 5 rfl) ?_
      refine lo_callX hF (lx_eq (x_sweep (Gs := fun _ => Gs 0) hst hG hGo ) (show _ = (-9000000000000000003) from (rf_swp c325).1) (show _ = [a] from congrArg (fun y => [y]) (rf_swp c325).2)) k_sweep ⟨Nat.le_of_ble_eq_true rfl, Nat.le_of_ble_eq_true rfl⟩ hw [0] (by decide) rfl (hg_one rfl) rfl hl.1 rfl (Nat.le_of_ble_eq_true rfl) dL_errors_329 ⟨by show _ ≤ (460 : Nat); omega, by show _ ≤ (2760 : Nat); omega⟩ (fun H locs hw => ?_)
      have hw : LO D cI cL cZ A s Gs [a] H locs := hw
      refine W.widen (k := 230 + 1) (n := 6 * (230 + 1)) (Nat.le_refl _) (by omega) ?_
      refine lv_ldc2 (v := (-9000000000000000003)) hx hb hown (hts _ (mlA 5 rfl)) dL_errors_332 ?_
      refine W.lcmp hx hb dL_errors_335 ?_
      refine lv_if_ne (tgt := 401) hx hb dL_errors_336 (by decide) (fun c336 => ?_) (fun c336 => ?_)
      · skip
        exact (c336 ((lg_cmp_eq _ _).mpr rfl)).elim
      · skip
        have c336 := (lg_cmp_eq _ _).mp c336
        exact W.widen (by omega) (by omega) (JP339  _ _ _  hw (lv_sub hl [0, 1, 2, 3, 4, 5] rfl))
  have JP276 : ∀ (H : Heap) (locs : List Loc) (ls : Array Slot), LO D cI cL cZ A s Gs [a] H locs → lv_has ls 7 [(6, .int (1)), (5, .int (bI (¬ wnV a.2.1 = 0))), (4, .int (bI (¬ a.2.1.1.1 = true))), (1, .long (nwZ a.2.1)), (3, .int (nI (a.2.1.1.2))), (0, .ref ((Gs 0).1 1))] → W p l e ({ frames := 9, cells := 460, slots := 2760, locals := 222 } : Room) s m [.ref ((Gs 0).1 1)].toArray below meth c H locs (225) (6 * (225)) (MQ below (lqI D cI cL cZ Gs 1 [a] A) [.ref ((Gs 0).1 1)].toArray s 460 2760 A) (F0 m 276 ls []) := by
    intro H locs ls hw hl
    refine lv_aload_n hx hb dL_errors_276 rfl (lv_at hl 5 rfl) ?_
    refine lv_iconst (v := (-1)) hx hb dL_errors_277 (by decide) ?_
    refine lo_callX hF (lx_eq (x_remove (Gs := fun _ => Gs 0) hst hG hGo (-1)) (show _ = (-9000000000000000002) from (rf_remn).1) (show _ = [a] from congrArg (fun y => [y]) (rf_remn).2)) k_remove ⟨Nat.le_of_ble_eq_true rfl, Nat.le_of_ble_eq_true rfl⟩ hw [0] (by decide) rfl (hg_one rfl) rfl hl.1 rfl (Nat.le_of_ble_eq_true rfl) dL_errors_278 ⟨by show _ ≤ (460 : Nat); omega, by show _ ≤ (2760 : Nat); omega⟩ (fun H locs hw => ?_)
    have hw : LO D cI cL cZ A s Gs [a] H locs := hw
    refine W.widen (k := 225 + 1) (n := 6 * (225 + 1)) (Nat.le_refl _) (by omega) ?_
    refine lv_ldc2 (v := (-9000000000000000002)) hx hb hown (hts _ (mlA 4 rfl)) dL_errors_281 ?_
    refine W.lcmp hx hb dL_errors_284 ?_
    refine lv_if_ne (tgt := 401) hx hb dL_errors_285 (by decide) (fun c285 => ?_) (fun c285 => ?_)
    · skip
      exact (c285 ((lg_cmp_eq _ _).mpr rfl)).elim
    · skip
      have c285 := (lg_cmp_eq _ _).mp c285
      refine lv_iload hx hb dL_errors_288 (lv_at hl 1 rfl) ?_
      refine lv_if_ne (tgt := 306) hx hb dL_errors_290 (by decide) (fun c290 => ?_) (fun c290 => ?_)
      · skip
        have c290 := bI_t c290
        refine lv_aload_n hx hb dL_errors_306 rfl (lv_at hl 5 rfl) ?_
        refine lv_bipush (v := 7) hx hb dL_errors_307 (by decide) ?_
        refine lo_callX hF (lx_eq (x_remove (Gs := fun _ => Gs 0) hst hG hGo 7) (show _ = (-9000000000000000003) from (rf_rem7 hGo.2 c290).1) (show _ = [a] from congrArg (fun y => [y]) (rf_rem7 hGo.2 c290).2)) k_remove ⟨Nat.le_of_ble_eq_true rfl, Nat.le_of_ble_eq_true rfl⟩ hw [0] (by decide) rfl (hg_one rfl) rfl hl.1 rfl (Nat.le_of_ble_eq_true rfl) dL_errors_309 ⟨by show _ ≤ (460 : Nat); omega, by show _ ≤ (2760 : Nat); omega⟩ (fun H locs hw => ?_)
        have hw : LO D cI cL cZ A s Gs [a] H locs := hw
        refine W.widen (k := 225 + 1 + 1) (n := 6 * (225 + 1 + 1)) (Nat.le_refl _) (by omega) ?_
        refine lv_ldc2 (v := (-9000000000000000003)) hx hb hown (hts _ (mlA 5 rfl)) dL_errors_312 ?_
        refine W.lcmp hx hb dL_errors_315 ?_
        refine lv_if_ne (tgt := 401) hx hb dL_errors_316 (by decide) (fun c316 => ?_) (fun c316 => ?_)
        · skip
          exact (c316 ((lg_cmp_eq _ _).mpr rfl)).elim
        · skip
          have c316 := (lg_cmp_eq _ _).mp c316
          exact W.widen (by omega) (by omega) (JP319  _ _ _  hw (lv_sub hl [0, 1, 2, 3, 4, 5] rfl))
      · skip
        have c290 := bI_f c290
        refine lv_aload_n hx hb dL_errors_293 rfl (lv_at hl 5 rfl) ?_
        refine lv_bipush (v := 7) hx hb dL_errors_294 (by decide) ?_
        refine lo_callX hF (lx_eq (x_get (Gs := fun _ => Gs 0) hst hG hGo 7) (show _ = ((vaZ a.2.1 (nI 7)).toInt64) from ge_J (k := 7) (by decide) (wn_0 (Decidable.not_not.mp c290)).1) (show _ = [a] from rfl)) k_get ⟨Nat.le_of_ble_eq_true rfl, Nat.le_of_ble_eq_true rfl⟩ hw [0] (by decide) rfl (hg_one rfl) rfl hl.1 rfl (Nat.le_of_ble_eq_true rfl) dL_errors_296 ⟨by show _ ≤ (460 : Nat); omega, by show _ ≤ (2760 : Nat); omega⟩ (fun H locs hw => ?_)
        have hw : LO D cI cL cZ A s Gs [a] H locs := hw
        refine W.widen (k := 225 + 1 + 1) (n := 6 * (225 + 1 + 1)) (Nat.le_refl _) (by omega) ?_
        refine lv_ldc2 (v := (-9)) hx hb hown (hts _ (mlA 118 rfl)) dL_errors_299 ?_
        refine W.lcmp hx hb dL_errors_302 ?_
        refine lv_if_ne (tgt := 319) hx hb dL_errors_303 (by decide) (fun c303 => ?_) (fun c303 => ?_)
        · skip
          have c303 := (fun z => c303 ((lg_cmp_eq _ _).mpr z))
          exact W.widen (by omega) (by omega) (JP319  _ _ _  hw (lv_sub hl [0, 1, 2, 3, 4, 5] rfl))
        · skip
          have c303 := (lg_cmp_eq _ _).mp c303
          refine lv_aload_n hx hb dL_errors_306 rfl (lv_at hl 5 rfl) ?_
          refine lv_bipush (v := 7) hx hb dL_errors_307 (by decide) ?_
          refine lo_callX hF (lx_eq (x_remove (Gs := fun _ => Gs 0) hst hG hGo 7) (show _ = (-9000000000000000003) from (rf_rem7v (jl_n9 c303)).1) (show _ = [a] from congrArg (fun y => [y]) (rf_rem7v (jl_n9 c303)).2)) k_remove ⟨Nat.le_of_ble_eq_true rfl, Nat.le_of_ble_eq_true rfl⟩ hw [0] (by decide) rfl (hg_one rfl) rfl hl.1 rfl (Nat.le_of_ble_eq_true rfl) dL_errors_309 ⟨by show _ ≤ (460 : Nat); omega, by show _ ≤ (2760 : Nat); omega⟩ (fun H locs hw => ?_)
          have hw : LO D cI cL cZ A s Gs [a] H locs := hw
          refine W.widen (k := 225 + 1 + 1 + 1) (n := 6 * (225 + 1 + 1 + 1)) (Nat.le_refl _) (by omega) ?_
          refine lv_ldc2 (v := (-9000000000000000003)) hx hb hown (hts _ (mlA 5 rfl)) dL_errors_312 ?_
          refine W.lcmp hx hb dL_errors_315 ?_
          refine lv_if_ne (tgt := 401) hx hb dL_errors_316 (by decide) (fun c316 => ?_) (fun c316 => ?_)
          · skip
            exact (c316 ((lg_cmp_eq _ _).mpr rfl)).elim
          · skip
            have c316 := (lg_cmp_eq _ _).mp c316
            exact W.widen (by omega) (by omega) (JP319  _ _ _  hw (lv_sub hl [0, 1, 2, 3, 4, 5] rfl))
  have JP155 : ∀ (H : Heap) (locs : List Loc) (ls : Array Slot), LO D cI cL cZ A s Gs [a] H locs → lv_has ls 7 [(5, .int (bI (¬ wnV a.2.1 = 0))), (4, .int (bI (¬ a.2.1.1.1 = true))), (1, .long (nwZ a.2.1)), (3, .int (nI (a.2.1.1.2))), (0, .ref ((Gs 0).1 1))] → W p l e ({ frames := 9, cells := 460, slots := 2760, locals := 222 } : Room) s m [.ref ((Gs 0).1 1)].toArray below meth c H locs (212) (6 * (212)) (MQ below (lqI D cI cL cZ Gs 1 [a] A) [.ref ((Gs 0).1 1)].toArray s 460 2760 A) (F0 m 155 ls []) := by
    intro H locs ls hw hl
    refine lv_aload_n hx hb dL_errors_155 rfl (lv_at hl 4 rfl) ?_
    refine lv_iconst (v := (-1)) hx hb dL_errors_156 (by decide) ?_
    refine lo_callX hF (lx_eq (x_keyAt (Gs := fun _ => Gs 0) hst hG hGo (-1)) (show _ = (-9000000000000000002) from if_neg (by decide)) (show _ = [a] from rfl)) k_keyAt ⟨Nat.le_of_ble_eq_true rfl, Nat.le_of_ble_eq_true rfl⟩ hw [0] (by decide) rfl (hg_one rfl) rfl hl.1 rfl (Nat.le_of_ble_eq_true rfl) dL_errors_157 ⟨by show _ ≤ (460 : Nat); omega, by show _ ≤ (2760 : Nat); omega⟩ (fun H locs hw => ?_)
    have hw : LO D cI cL cZ A s Gs [a] H locs := hw
    refine W.widen (k := 212 + 1) (n := 6 * (212 + 1)) (Nat.le_refl _) (by omega) ?_
    refine lv_ldc2 (v := (-9000000000000000002)) hx hb hown (hts _ (mlA 4 rfl)) dL_errors_160 ?_
    refine W.lcmp hx hb dL_errors_163 ?_
    refine lv_if_ne (tgt := 196) hx hb dL_errors_164 (by decide) (fun c164 => ?_) (fun c164 => ?_)
    · skip
      exact (c164 ((lg_cmp_eq _ _).mpr rfl)).elim
    · skip
      have c164 := (lg_cmp_eq _ _).mp c164
      refine lv_aload_n hx hb dL_errors_167 rfl (lv_at hl 4 rfl) ?_
      refine lv_bipush (v := 16) hx hb dL_errors_168 (by decide) ?_
      refine lo_callX hF (lx_eq (x_newest (Gs := fun _ => Gs 0) hst hG hGo 16) (show _ = (-9000000000000000002) from if_neg (by decide)) (show _ = [a] from rfl)) k_newest ⟨Nat.le_of_ble_eq_true rfl, Nat.le_of_ble_eq_true rfl⟩ hw [0] (by decide) rfl (hg_one rfl) rfl hl.1 rfl (Nat.le_of_ble_eq_true rfl) dL_errors_170 ⟨by show _ ≤ (460 : Nat); omega, by show _ ≤ (2760 : Nat); omega⟩ (fun H locs hw => ?_)
      have hw : LO D cI cL cZ A s Gs [a] H locs := hw
      refine W.widen (k := 212 + 1 + 1) (n := 6 * (212 + 1 + 1)) (Nat.le_refl _) (by omega) ?_
      refine lv_ldc2 (v := (-9000000000000000002)) hx hb hown (hts _ (mlA 4 rfl)) dL_errors_173 ?_
      refine W.lcmp hx hb dL_errors_176 ?_
      refine lv_if_ne (tgt := 196) hx hb dL_errors_177 (by decide) (fun c177 => ?_) (fun c177 => ?_)
      · skip
        exact (c177 ((lg_cmp_eq _ _).mpr rfl)).elim
      · skip
        have c177 := (lg_cmp_eq _ _).mp c177
        refine lv_aload_n hx hb dL_errors_180 rfl (lv_at hl 4 rfl) ?_
        refine lv_iconst (v := 3) hx hb dL_errors_181 (by decide) ?_
        refine lo_callX hF (lx_eq (x_lastCut (Gs := fun _ => Gs 0) hst hG hGo 3) (show _ = (-9000000000000000002) from if_neg (by decide)) (show _ = [a] from rfl)) k_lastCut ⟨Nat.le_of_ble_eq_true rfl, Nat.le_of_ble_eq_true rfl⟩ hw [0] (by decide) rfl (hg_one rfl) rfl hl.1 rfl (Nat.le_of_ble_eq_true rfl) dL_errors_182 ⟨by show _ ≤ (460 : Nat); omega, by show _ ≤ (2760 : Nat); omega⟩ (fun H locs hw => ?_)
        have hw : LO D cI cL cZ A s Gs [a] H locs := hw
        refine W.widen (k := 212 + 1 + 1 + 1) (n := 6 * (212 + 1 + 1 + 1)) (Nat.le_refl _) (by omega) ?_
        refine lv_ldc2 (v := (-9000000000000000002)) hx hb hown (hts _ (mlA 4 rfl)) dL_errors_185 ?_
        refine W.lcmp hx hb dL_errors_188 ?_
        refine lv_if_ne (tgt := 196) hx hb dL_errors_189 (by decide) (fun c189 => ?_) (fun c189 => ?_)
        · skip
          exact (c189 ((lg_cmp_eq _ _).mpr rfl)).elim
        · skip
          have c189 := (lg_cmp_eq _ _).mp c189
          refine lv_iconst (v := 1) hx hb dL_errors_192 (by decide) ?_
          refine lv_goto (tgt := 197) hx hb dL_errors_193 (by decide) ?_
          refine lv_istore (lv' := [(6, .int (1)), (5, .int (bI (¬ wnV a.2.1 = 0))), (4, .int (bI (¬ a.2.1.1.1 = true))), (1, .long (nwZ a.2.1)), (3, .int (nI (a.2.1.1.2))), (0, .ref ((Gs 0).1 1))]) hx hb dL_errors_197 hl (by decide) rfl (fun ls hl => ?_)
          refine lv_iload hx hb dL_errors_199 (lv_at hl 0 rfl) ?_
          refine lv_if_eq (tgt := 401) hx hb dL_errors_201 (by decide) (fun c201 => ?_) (fun c201 => ?_)
          · skip
            exact absurd c201 (by decide)
          · skip
            refine lv_aload_n hx hb dL_errors_204 rfl (lv_at hl 5 rfl) ?_
            refine lv_bipush (v := 16) hx hb dL_errors_205 (by decide) ?_
            refine lv_iconst (v := 0) hx hb dL_errors_207 (by decide) ?_
            refine lo_callX hF (lx_eq (x_put (Gs := fun _ => Gs 0) hst hG hGo 16 0) (show _ = (-9000000000000000002) from (rf_put16).1) (show _ = [a] from congrArg (fun y => [y]) (rf_put16).2)) k_put ⟨Nat.le_of_ble_eq_true rfl, Nat.le_of_ble_eq_true rfl⟩ hw [0] (by decide) rfl (hg_one rfl) rfl hl.1 rfl (Nat.le_of_ble_eq_true rfl) dL_errors_208 ⟨by show _ ≤ (460 : Nat); omega, by show _ ≤ (2760 : Nat); omega⟩ (fun H locs hw => ?_)
            have hw : LO D cI cL cZ A s Gs [a] H locs := hw
            refine W.widen (k := 212 + 1 + 1 + 1 + 1) (n := 6 * (212 + 1 + 1 + 1 + 1)) (Nat.le_refl _) (by omega) ?_
            refine lv_ldc2 (v := (-9000000000000000002)) hx hb hown (hts _ (mlA 4 rfl)) dL_errors_211 ?_
            refine W.lcmp hx hb dL_errors_214 ?_
            refine lv_if_ne (tgt := 401) hx hb dL_errors_215 (by decide) (fun c215 => ?_) (fun c215 => ?_)
            · skip
              exact (c215 ((lg_cmp_eq _ _).mpr rfl)).elim
            · skip
              have c215 := (lg_cmp_eq _ _).mp c215
              refine lv_aload_n hx hb dL_errors_218 rfl (lv_at hl 5 rfl) ?_
              refine lv_iconst (v := 0) hx hb dL_errors_219 (by decide) ?_
              refine lv_sipush (v := 1000) hx hb dL_errors_220 (by decide) ?_
              refine lo_callX hF (lx_eq (x_put (Gs := fun _ => Gs 0) hst hG hGo 0 1000) (show _ = (-9000000000000000002) from (rf_put1000).1) (show _ = [a] from congrArg (fun y => [y]) (rf_put1000).2)) k_put ⟨Nat.le_of_ble_eq_true rfl, Nat.le_of_ble_eq_true rfl⟩ hw [0] (by decide) rfl (hg_one rfl) rfl hl.1 rfl (Nat.le_of_ble_eq_true rfl) dL_errors_223 ⟨by show _ ≤ (460 : Nat); omega, by show _ ≤ (2760 : Nat); omega⟩ (fun H locs hw => ?_)
              have hw : LO D cI cL cZ A s Gs [a] H locs := hw
              refine W.widen (k := 212 + 1 + 1 + 1 + 1 + 1) (n := 6 * (212 + 1 + 1 + 1 + 1 + 1)) (Nat.le_refl _) (by omega) ?_
              refine lv_ldc2 (v := (-9000000000000000002)) hx hb hown (hts _ (mlA 4 rfl)) dL_errors_226 ?_
              refine W.lcmp hx hb dL_errors_229 ?_
              refine lv_if_ne (tgt := 401) hx hb dL_errors_230 (by decide) (fun c230 => ?_) (fun c230 => ?_)
              · skip
                exact (c230 ((lg_cmp_eq _ _).mpr rfl)).elim
              · skip
                have c230 := (lg_cmp_eq _ _).mp c230
                refine lv_iload hx hb dL_errors_233 (lv_at hl 1 rfl) ?_
                refine lv_if_eq (tgt := 276) hx hb dL_errors_235 (by decide) (fun c235 => ?_) (fun c235 => ?_)
                · skip
                  have c235 := bI_f c235
                  exact W.widen (by omega) (by omega) (JP276  _ _ _  hw (lv_sub hl [0, 1, 2, 3, 4, 5] rfl))
                · skip
                  have c235 := bI_t c235
                  refine lv_aload_n hx hb dL_errors_238 rfl (lv_at hl 5 rfl) ?_
                  refine lv_iconst (v := 0) hx hb dL_errors_239 (by decide) ?_
                  refine lv_iconst (v := 0) hx hb dL_errors_240 (by decide) ?_
                  refine lo_callX hF (lx_eq (x_put (Gs := fun _ => Gs 0) hst hG hGo 0 0) (show _ = (-9000000000000000003) from (rf_put0 hGo.2 c235).1) (show _ = [a] from congrArg (fun y => [y]) (rf_put0 hGo.2 c235).2)) k_put ⟨Nat.le_of_ble_eq_true rfl, Nat.le_of_ble_eq_true rfl⟩ hw [0] (by decide) rfl (hg_one rfl) rfl hl.1 rfl (Nat.le_of_ble_eq_true rfl) dL_errors_241 ⟨by show _ ≤ (460 : Nat); omega, by show _ ≤ (2760 : Nat); omega⟩ (fun H locs hw => ?_)
                  have hw : LO D cI cL cZ A s Gs [a] H locs := hw
                  refine W.widen (k := 212 + 1 + 1 + 1 + 1 + 1 + 1) (n := 6 * (212 + 1 + 1 + 1 + 1 + 1 + 1)) (Nat.le_refl _) (by omega) ?_
                  refine lv_ldc2 (v := (-9000000000000000003)) hx hb hown (hts _ (mlA 5 rfl)) dL_errors_244 ?_
                  refine W.lcmp hx hb dL_errors_247 ?_
                  refine lv_if_ne (tgt := 401) hx hb dL_errors_248 (by decide) (fun c248 => ?_) (fun c248 => ?_)
                  · skip
                    exact (c248 ((lg_cmp_eq _ _).mpr rfl)).elim
                  · skip
                    have c248 := (lg_cmp_eq _ _).mp c248
                    refine lv_aload_n hx hb dL_errors_251 rfl (lv_at hl 5 rfl) ?_
                    refine lo_callX hF (lx_eq (x_operations (Gs := fun _ => Gs 0) hst hG hGo ) (show _ = (-9000000000000000003) from rf_ops hGo.2 c235) (show _ = [a] from rfl)) k_operations ⟨Nat.le_of_ble_eq_true rfl, Nat.le_of_ble_eq_true rfl⟩ hw [0] (by decide) rfl (hg_one rfl) rfl hl.1 rfl (Nat.le_of_ble_eq_true rfl) dL_errors_252 ⟨by show _ ≤ (460 : Nat); omega, by show _ ≤ (2760 : Nat); omega⟩ (fun H locs hw => ?_)
                    have hw : LO D cI cL cZ A s Gs [a] H locs := hw
                    refine W.widen (k := 212 + 1 + 1 + 1 + 1 + 1 + 1 + 1) (n := 6 * (212 + 1 + 1 + 1 + 1 + 1 + 1 + 1)) (Nat.le_refl _) (by omega) ?_
                    refine lv_ldc2 (v := (-9000000000000000003)) hx hb hown (hts _ (mlA 5 rfl)) dL_errors_255 ?_
                    refine W.lcmp hx hb dL_errors_258 ?_
                    refine lv_if_ne (tgt := 401) hx hb dL_errors_259 (by decide) (fun c259 => ?_) (fun c259 => ?_)
                    · skip
                      exact (c259 ((lg_cmp_eq _ _).mpr rfl)).elim
                    · skip
                      have c259 := (lg_cmp_eq _ _).mp c259
                      refine lv_aload_n hx hb dL_errors_262 rfl (lv_at hl 5 rfl) ?_
                      refine lv_iconst (v := 0) hx hb dL_errors_263 (by decide) ?_
                      refine lv_iconst (v := 0) hx hb dL_errors_264 (by decide) ?_
                      refine lv_iconst (v := 1) hx hb dL_errors_265 (by decide) ?_
                      refine lo_callX hF (lx_eq (x_afterCut (Gs := fun _ => Gs 0) hst hG hGo 0 0 1) (show _ = (-9000000000000000003) from rf_afc1 hGo.2 c235) (show _ = [a] from rfl)) k_afterCut ⟨Nat.le_of_ble_eq_true rfl, Nat.le_of_ble_eq_true rfl⟩ hw [0] (by decide) rfl (hg_one rfl) rfl hl.1 rfl (Nat.le_of_ble_eq_true rfl) dL_errors_266 ⟨by show _ ≤ (460 : Nat); omega, by show _ ≤ (2760 : Nat); omega⟩ (fun H locs hw => ?_)
                      have hw : LO D cI cL cZ A s Gs [a] H locs := hw
                      refine W.widen (k := 212 + 1 + 1 + 1 + 1 + 1 + 1 + 1 + 1) (n := 6 * (212 + 1 + 1 + 1 + 1 + 1 + 1 + 1 + 1)) (Nat.le_refl _) (by omega) ?_
                      refine lv_ldc2 (v := (-9000000000000000003)) hx hb hown (hts _ (mlA 5 rfl)) dL_errors_269 ?_
                      refine W.lcmp hx hb dL_errors_272 ?_
                      refine lv_if_ne (tgt := 401) hx hb dL_errors_273 (by decide) (fun c273 => ?_) (fun c273 => ?_)
                      · skip
                        exact (c273 ((lg_cmp_eq _ _).mpr rfl)).elim
                      · skip
                        have c273 := (lg_cmp_eq _ _).mp c273
                        exact W.widen (by omega) (by omega) (JP276  _ _ _  hw (lv_sub hl [0, 1, 2, 3, 4, 5] rfl))
  have JP43 : ∀ (H : Heap) (locs : List Loc) (ls : Array Slot), LO D cI cL cZ A s Gs [a] H locs → lv_has ls 7 [(5, .int (bI (¬ wnV a.2.1 = 0))), (4, .int (bI (¬ a.2.1.1.1 = true))), (1, .long (nwZ a.2.1)), (3, .int (nI (a.2.1.1.2))), (0, .ref ((Gs 0).1 1))] → W p l e ({ frames := 9, cells := 460, slots := 2760, locals := 222 } : Room) s m [.ref ((Gs 0).1 1)].toArray below meth c H locs (202) (6 * (202)) (MQ below (lqI D cI cL cZ Gs 1 [a] A) [.ref ((Gs 0).1 1)].toArray s 460 2760 A) (F0 m 43 ls []) := by
    intro H locs ls hw hl
    refine lv_aload_n hx hb dL_errors_43 rfl (lv_at hl 4 rfl) ?_
    refine lv_iconst (v := (-1)) hx hb dL_errors_44 (by decide) ?_
    refine lo_callX hF (lx_eq (x_about (Gs := fun _ => Gs 0) hst hG hGo (-1)) (show _ = (-9000000000000000002) from if_neg (by decide)) (show _ = [a] from rfl)) k_about ⟨Nat.le_of_ble_eq_true rfl, Nat.le_of_ble_eq_true rfl⟩ hw [0] (by decide) rfl (hg_one rfl) rfl hl.1 rfl (Nat.le_of_ble_eq_true rfl) dL_errors_45 ⟨by show _ ≤ (460 : Nat); omega, by show _ ≤ (2760 : Nat); omega⟩ (fun H locs hw => ?_)
    have hw : LO D cI cL cZ A s Gs [a] H locs := hw
    refine W.widen (k := 202 + 1) (n := 6 * (202 + 1)) (Nat.le_refl _) (by omega) ?_
    refine lv_ldc2 (v := (-9000000000000000002)) hx hb hown (hts _ (mlA 4 rfl)) dL_errors_48 ?_
    refine W.lcmp hx hb dL_errors_51 ?_
    refine lv_if_ne (tgt := 196) hx hb dL_errors_52 (by decide) (fun c52 => ?_) (fun c52 => ?_)
    · skip
      exact (c52 ((lg_cmp_eq _ _).mpr rfl)).elim
    · skip
      have c52 := (lg_cmp_eq _ _).mp c52
      refine lv_aload_n hx hb dL_errors_55 rfl (lv_at hl 4 rfl) ?_
      refine lv_bipush (v := 14) hx hb dL_errors_56 (by decide) ?_
      refine lo_callX hF (lx_eq (x_about (Gs := fun _ => Gs 0) hst hG hGo 14) (show _ = (-9000000000000000002) from if_neg (by decide)) (show _ = [a] from rfl)) k_about ⟨Nat.le_of_ble_eq_true rfl, Nat.le_of_ble_eq_true rfl⟩ hw [0] (by decide) rfl (hg_one rfl) rfl hl.1 rfl (Nat.le_of_ble_eq_true rfl) dL_errors_58 ⟨by show _ ≤ (460 : Nat); omega, by show _ ≤ (2760 : Nat); omega⟩ (fun H locs hw => ?_)
      have hw : LO D cI cL cZ A s Gs [a] H locs := hw
      refine W.widen (k := 202 + 1 + 1) (n := 6 * (202 + 1 + 1)) (Nat.le_refl _) (by omega) ?_
      refine lv_ldc2 (v := (-9000000000000000002)) hx hb hown (hts _ (mlA 4 rfl)) dL_errors_61 ?_
      refine W.lcmp hx hb dL_errors_64 ?_
      refine lv_if_ne (tgt := 196) hx hb dL_errors_65 (by decide) (fun c65 => ?_) (fun c65 => ?_)
      · skip
        exact (c65 ((lg_cmp_eq _ _).mpr rfl)).elim
      · skip
        have c65 := (lg_cmp_eq _ _).mp c65
        refine lv_aload_n hx hb dL_errors_68 rfl (lv_at hl 4 rfl) ?_
        refine lv_iconst (v := 4) hx hb dL_errors_69 (by decide) ?_
        refine lv_iload_n hx hb dL_errors_70 rfl (lv_at hl 3 rfl) ?_
        refine lv_imul hx hb dL_errors_71 ?_
        refine lv_as (y := nI (4 * a.2.1.1.2)) (pk_mul (4) (a.2.1.1.2)) ?_
        refine lv_bipush (v := 9) hx hb dL_errors_72 (by decide) ?_
        refine lo_callX hF (lx_eq (x_page (Gs := fun _ => Gs 0) hst hG hGo (nI (4 * a.2.1.1.2)) 9) (show _ = (-9000000000000000001) from rf_page4 hB) (show _ = [a] from rfl)) k_page ⟨Nat.le_of_ble_eq_true rfl, Nat.le_of_ble_eq_true rfl⟩ hw [0] (by decide) rfl (hg_one rfl) rfl hl.1 rfl (Nat.le_of_ble_eq_true rfl) dL_errors_74 ⟨by show _ ≤ (460 : Nat); omega, by show _ ≤ (2760 : Nat); omega⟩ (fun H locs hw => ?_)
        have hw : LO D cI cL cZ A s Gs [a] H locs := hw
        refine W.widen (k := 202 + 1 + 1 + 1) (n := 6 * (202 + 1 + 1 + 1)) (Nat.le_refl _) (by omega) ?_
        refine lv_ldc2 (v := (-9000000000000000001)) hx hb hown (hts _ (mlA 19 rfl)) dL_errors_77 ?_
        refine W.lcmp hx hb dL_errors_80 ?_
        refine lv_if_ne (tgt := 196) hx hb dL_errors_81 (by decide) (fun c81 => ?_) (fun c81 => ?_)
        · skip
          exact (c81 ((lg_cmp_eq _ _).mpr rfl)).elim
        · skip
          have c81 := (lg_cmp_eq _ _).mp c81
          refine lv_aload_n hx hb dL_errors_84 rfl (lv_at hl 4 rfl) ?_
          refine lv_iconst (v := 0) hx hb dL_errors_85 (by decide) ?_
          refine lv_iconst (v := 5) hx hb dL_errors_86 (by decide) ?_
          refine lo_callX hF (lx_eq (x_page (Gs := fun _ => Gs 0) hst hG hGo 0 5) (show _ = (-9000000000000000002) from rf_page5 hGo.2) (show _ = [a] from rfl)) k_page ⟨Nat.le_of_ble_eq_true rfl, Nat.le_of_ble_eq_true rfl⟩ hw [0] (by decide) rfl (hg_one rfl) rfl hl.1 rfl (Nat.le_of_ble_eq_true rfl) dL_errors_87 ⟨by show _ ≤ (460 : Nat); omega, by show _ ≤ (2760 : Nat); omega⟩ (fun H locs hw => ?_)
          have hw : LO D cI cL cZ A s Gs [a] H locs := hw
          refine W.widen (k := 202 + 1 + 1 + 1 + 1) (n := 6 * (202 + 1 + 1 + 1 + 1)) (Nat.le_refl _) (by omega) ?_
          refine lv_ldc2 (v := (-9000000000000000002)) hx hb hown (hts _ (mlA 4 rfl)) dL_errors_90 ?_
          refine W.lcmp hx hb dL_errors_93 ?_
          refine lv_if_ne (tgt := 196) hx hb dL_errors_94 (by decide) (fun c94 => ?_) (fun c94 => ?_)
          · skip
            exact (c94 ((lg_cmp_eq _ _).mpr rfl)).elim
          · skip
            have c94 := (lg_cmp_eq _ _).mp c94
            refine lv_aload_n hx hb dL_errors_97 rfl (lv_at hl 4 rfl) ?_
            refine lv_iload_n hx hb dL_errors_98 rfl (lv_at hl 3 rfl) ?_
            refine lv_bipush (v := 9) hx hb dL_errors_99 (by decide) ?_
            refine lo_callX hF (lx_eq (x_block (Gs := fun _ => Gs 0) hst hG hGo (nI (a.2.1.1.2)) 9) (show _ = (-9000000000000000001) from rf_blockn hB) (show _ = [a] from rfl)) k_block ⟨Nat.le_of_ble_eq_true rfl, Nat.le_of_ble_eq_true rfl⟩ hw [0] (by decide) rfl (hg_one rfl) rfl hl.1 rfl (Nat.le_of_ble_eq_true rfl) dL_errors_101 ⟨by show _ ≤ (460 : Nat); omega, by show _ ≤ (2760 : Nat); omega⟩ (fun H locs hw => ?_)
            have hw : LO D cI cL cZ A s Gs [a] H locs := hw
            refine W.widen (k := 202 + 1 + 1 + 1 + 1 + 1) (n := 6 * (202 + 1 + 1 + 1 + 1 + 1)) (Nat.le_refl _) (by omega) ?_
            refine lv_ldc2 (v := (-9000000000000000001)) hx hb hown (hts _ (mlA 19 rfl)) dL_errors_104 ?_
            refine W.lcmp hx hb dL_errors_107 ?_
            refine lv_if_ne (tgt := 196) hx hb dL_errors_108 (by decide) (fun c108 => ?_) (fun c108 => ?_)
            · skip
              exact (c108 ((lg_cmp_eq _ _).mpr rfl)).elim
            · skip
              have c108 := (lg_cmp_eq _ _).mp c108
              refine lv_aload_n hx hb dL_errors_111 rfl (lv_at hl 4 rfl) ?_
              refine lv_iconst (v := 0) hx hb dL_errors_112 (by decide) ?_
              refine lv_bipush (v := 6) hx hb dL_errors_113 (by decide) ?_
              refine lo_callX hF (lx_eq (x_block (Gs := fun _ => Gs 0) hst hG hGo 0 6) (show _ = (-9000000000000000002) from rf_block6 hGo.2) (show _ = [a] from rfl)) k_block ⟨Nat.le_of_ble_eq_true rfl, Nat.le_of_ble_eq_true rfl⟩ hw [0] (by decide) rfl (hg_one rfl) rfl hl.1 rfl (Nat.le_of_ble_eq_true rfl) dL_errors_115 ⟨by show _ ≤ (460 : Nat); omega, by show _ ≤ (2760 : Nat); omega⟩ (fun H locs hw => ?_)
              have hw : LO D cI cL cZ A s Gs [a] H locs := hw
              refine W.widen (k := 202 + 1 + 1 + 1 + 1 + 1 + 1) (n := 6 * (202 + 1 + 1 + 1 + 1 + 1 + 1)) (Nat.le_refl _) (by omega) ?_
              refine lv_ldc2 (v := (-9000000000000000002)) hx hb hown (hts _ (mlA 4 rfl)) dL_errors_118 ?_
              refine W.lcmp hx hb dL_errors_121 ?_
              refine lv_if_ne (tgt := 196) hx hb dL_errors_122 (by decide) (fun c122 => ?_) (fun c122 => ?_)
              · skip
                exact (c122 ((lg_cmp_eq _ _).mpr rfl)).elim
              · skip
                have c122 := (lg_cmp_eq _ _).mp c122
                refine lv_aload_n hx hb dL_errors_125 rfl (lv_at hl 4 rfl) ?_
                refine lv_bipush (v := 16) hx hb dL_errors_126 (by decide) ?_
                refine lo_callX hF (lx_eq (x_get (Gs := fun _ => Gs 0) hst hG hGo 16) (show _ = (-9000000000000000002) from rf_get16) (show _ = [a] from rfl)) k_get ⟨Nat.le_of_ble_eq_true rfl, Nat.le_of_ble_eq_true rfl⟩ hw [0] (by decide) rfl (hg_one rfl) rfl hl.1 rfl (Nat.le_of_ble_eq_true rfl) dL_errors_128 ⟨by show _ ≤ (460 : Nat); omega, by show _ ≤ (2760 : Nat); omega⟩ (fun H locs hw => ?_)
                have hw : LO D cI cL cZ A s Gs [a] H locs := hw
                refine W.widen (k := 202 + 1 + 1 + 1 + 1 + 1 + 1 + 1) (n := 6 * (202 + 1 + 1 + 1 + 1 + 1 + 1 + 1)) (Nat.le_refl _) (by omega) ?_
                refine lv_ldc2 (v := (-9000000000000000002)) hx hb hown (hts _ (mlA 4 rfl)) dL_errors_131 ?_
                refine W.lcmp hx hb dL_errors_134 ?_
                refine lv_if_ne (tgt := 196) hx hb dL_errors_135 (by decide) (fun c135 => ?_) (fun c135 => ?_)
                · skip
                  exact (c135 ((lg_cmp_eq _ _).mpr rfl)).elim
                · skip
                  have c135 := (lg_cmp_eq _ _).mp c135
                  refine lv_iload hx hb dL_errors_138 (lv_at hl 1 rfl) ?_
                  refine lv_if_eq (tgt := 155) hx hb dL_errors_140 (by decide) (fun c140 => ?_) (fun c140 => ?_)
                  · skip
                    have c140 := bI_f c140
                    exact W.widen (by omega) (by omega) (JP155  _ _ _  hw (lv_sub hl [0, 1, 2, 3, 4] rfl))
                  · skip
                    have c140 := bI_t c140
                    refine lv_aload_n hx hb dL_errors_143 rfl (lv_at hl 4 rfl) ?_
                    refine lv_iconst (v := 0) hx hb dL_errors_144 (by decide) ?_
                    refine lo_callX hF (lx_eq (x_get (Gs := fun _ => Gs 0) hst hG hGo 0) (show _ = (-9000000000000000003) from ge_off (k := 0) (by decide) c140) (show _ = [a] from rfl)) k_get ⟨Nat.le_of_ble_eq_true rfl, Nat.le_of_ble_eq_true rfl⟩ hw [0] (by decide) rfl (hg_one rfl) rfl hl.1 rfl (Nat.le_of_ble_eq_true rfl) dL_errors_145 ⟨by show _ ≤ (460 : Nat); omega, by show _ ≤ (2760 : Nat); omega⟩ (fun H locs hw => ?_)
                    have hw : LO D cI cL cZ A s Gs [a] H locs := hw
                    refine W.widen (k := 202 + 1 + 1 + 1 + 1 + 1 + 1 + 1 + 1) (n := 6 * (202 + 1 + 1 + 1 + 1 + 1 + 1 + 1 + 1)) (Nat.le_refl _) (by omega) ?_
                    refine lv_ldc2 (v := (-9000000000000000003)) hx hb hown (hts _ (mlA 5 rfl)) dL_errors_148 ?_
                    refine W.lcmp hx hb dL_errors_151 ?_
                    refine lv_if_ne (tgt := 196) hx hb dL_errors_152 (by decide) (fun c152 => ?_) (fun c152 => ?_)
                    · skip
                      exact (c152 ((lg_cmp_eq _ _).mpr rfl)).elim
                    · skip
                      have c152 := (lg_cmp_eq _ _).mp c152
                      exact W.widen (by omega) (by omega) (JP155  _ _ _  hw (lv_sub hl [0, 1, 2, 3, 4] rfl))
  have JP29 : ∀ (H : Heap) (locs : List Loc) (ls : Array Slot), LO D cI cL cZ A s Gs [a] H locs → lv_has ls 7 [(4, .int (bI (¬ a.2.1.1.1 = true))), (1, .long (nwZ a.2.1)), (3, .int (nI (a.2.1.1.2))), (0, .ref ((Gs 0).1 1))] → W p l e ({ frames := 9, cells := 460, slots := 2760, locals := 222 } : Room) s m [.ref ((Gs 0).1 1)].toArray below meth c H locs (202) (6 * (202)) (MQ below (lqI D cI cL cZ Gs 1 [a] A) [.ref ((Gs 0).1 1)].toArray s 460 2760 A) (F0 m 29 ls []) := by
    intro H locs ls hw hl
    refine lv_aload_n hx hb dL_errors_29 rfl (lv_at hl 3 rfl) ?_
    refine lo_callV (i := 0) hF (x_whyNoRoom (Gs := fun _ => Gs 0) hGo) k_whyNoRoom ⟨Nat.le_of_ble_eq_true rfl, Nat.le_of_ble_eq_true rfl⟩ hw rfl rfl rfl hl.1 rfl (Nat.le_of_ble_eq_true rfl) dL_errors_30 ⟨by show _ ≤ (460 : Nat); omega, by show _ ≤ (2760 : Nat); omega⟩ (fun H locs hw => ?_)
    have hw : LO D cI cL cZ A s Gs [a] H locs := hw
    refine lv_if_eq (tgt := 40) hx hb dL_errors_33 (by decide) (fun c33 => ?_) (fun c33 => ?_)
    · skip
      have c33 := Decidable.not_not.mpr c33
      refine lv_iconst (v := 0) hx hb dL_errors_40 (by decide) ?_
      refine lv_istore (lv' := [(5, .int (0)), (4, .int (bI (¬ a.2.1.1.1 = true))), (1, .long (nwZ a.2.1)), (3, .int (nI (a.2.1.1.2))), (0, .ref ((Gs 0).1 1))]) hx hb dL_errors_41 hl (by decide) rfl (fun ls hl => ?_)
      have hl : lv_has ls 7 [(5, .int (bI (¬ wnV a.2.1 = 0))), (4, .int (bI (¬ a.2.1.1.1 = true))), (1, .long (nwZ a.2.1)), (3, .int (nI (a.2.1.1.2))), (0, .ref ((Gs 0).1 1))] := lv_re hl 0 rfl (show 0 = bI (¬ wnV a.2.1 = 0) from (bI_0 c33).symm)
      exact W.widen (by omega) (by omega) (JP43  _ _ _  hw (lv_sub hl [0, 1, 2, 3, 4] rfl))
    · skip
      refine lv_iconst (v := 1) hx hb dL_errors_36 (by decide) ?_
      refine lv_goto (tgt := 41) hx hb dL_errors_37 (by decide) ?_
      refine lv_istore (lv' := [(5, .int (1)), (4, .int (bI (¬ a.2.1.1.1 = true))), (1, .long (nwZ a.2.1)), (3, .int (nI (a.2.1.1.2))), (0, .ref ((Gs 0).1 1))]) hx hb dL_errors_41 hl (by decide) rfl (fun ls hl => ?_)
      have hl : lv_has ls 7 [(5, .int (bI (¬ wnV a.2.1 = 0))), (4, .int (bI (¬ a.2.1.1.1 = true))), (1, .long (nwZ a.2.1)), (3, .int (nI (a.2.1.1.2))), (0, .ref ((Gs 0).1 1))] := lv_re hl 0 rfl (show 1 = bI (¬ wnV a.2.1 = 0) from (bI_1 c33).symm)
      exact W.widen (by omega) (by omega) (JP43  _ _ _  hw (lv_sub hl [0, 1, 2, 3, 4] rfl))
  refine lv_aload_n hx hb dL_errors_0 rfl (lv_at hl 0 rfl) ?_
  refine lo_callJ hF (c_now l hst D cI cL cZ (fun _ => Gs 0) hG a hGo ) k_now ⟨Nat.le_of_ble_eq_true rfl, Nat.le_of_ble_eq_true rfl⟩ hw [0] (by decide) rfl (hg_one rfl) rfl hl.1 rfl (Nat.le_of_ble_eq_true rfl) dL_errors_1 ⟨by show _ ≤ (460 : Nat); omega, by show _ ≤ (2760 : Nat); omega⟩ (fun H locs hw => ?_)
  have hw : LO D cI cL cZ A s Gs [a] H locs := hw
  refine W.widen (k := 0 + 200) (n := 6 * (0 + 200)) (Nat.le_refl _) (by omega) ?_
  refine lv_lstore_n (lv' := [(1, .long (nwZ a.2.1)), (0, .ref ((Gs 0).1 1))]) hx hb dL_errors_4 rfl hl (by decide) rfl (fun ls hl => ?_)
  refine lv_aload_n hx hb dL_errors_5 rfl (lv_at hl 1 rfl) ?_
  refine lv_iconst (v := 0) hx hb dL_errors_6 (by decide) ?_
  refine lo_callX hF (lx_eq (x_about (Gs := fun _ => Gs 0) hst hG hGo 0) (show _ = ((nI a.2.1.1.2).toInt64) from ab_0) (show _ = [a] from rfl)) k_about ⟨Nat.le_of_ble_eq_true rfl, Nat.le_of_ble_eq_true rfl⟩ hw [0] (by decide) rfl (hg_one rfl) rfl hl.1 rfl (Nat.le_of_ble_eq_true rfl) dL_errors_7 ⟨by show _ ≤ (460 : Nat); omega, by show _ ≤ (2760 : Nat); omega⟩ (fun H locs hw => ?_)
  have hw : LO D cI cL cZ A s Gs [a] H locs := hw
  refine W.widen (k := 0 + 200 + 1) (n := 6 * (0 + 200 + 1)) (Nat.le_refl _) (by omega) ?_
  refine lv_l2i (v := ((nI a.2.1.1.2).toInt64).toInt32) hx hb dL_errors_10 rfl ?_
  refine lv_as (show ((nI a.2.1.1.2).toInt64).toInt32 = nI (a.2.1.1.2) from Int32.toInt32_toInt64 _) ?_
  refine lv_istore_n (lv' := [(3, .int (nI (a.2.1.1.2))), (1, .long (nwZ a.2.1)), (0, .ref ((Gs 0).1 1))]) hx hb dL_errors_11 rfl hl (by decide) rfl (fun ls hl => ?_)
  refine lv_aload_n hx hb dL_errors_12 rfl (lv_at hl 2 rfl) ?_
  refine lv_iconst (v := 2) hx hb dL_errors_13 (by decide) ?_
  refine lo_callX hF (x_about (Gs := fun _ => Gs 0) hst hG hGo 2) k_about ⟨Nat.le_of_ble_eq_true rfl, Nat.le_of_ble_eq_true rfl⟩ hw [0] (by decide) rfl (hg_one rfl) rfl hl.1 rfl (Nat.le_of_ble_eq_true rfl) dL_errors_14 ⟨by show _ ≤ (460 : Nat); omega, by show _ ≤ (2760 : Nat); omega⟩ (fun H locs hw => ?_)
  have hw : LO D cI cL cZ A s Gs [a] H locs := hw
  refine W.widen (k := 0 + 200 + 1 + 1) (n := 6 * (0 + 200 + 1 + 1)) (Nat.le_refl _) (by omega) ?_
  refine lv_lconst (v := 0) hx hb dL_errors_17 (by decide) ?_
  refine W.lcmp hx hb dL_errors_18 ?_
  refine lv_if_ne (tgt := 26) hx hb dL_errors_19 (by decide) (fun c19 => ?_) (fun c19 => ?_)
  · skip
    have c19 := (fun z => c19 ((lg_cmp_eq _ _).mpr z))
    have c19 := Decidable.not_not.mpr (jl_b1 c19)
    refine lv_iconst (v := 0) hx hb dL_errors_26 (by decide) ?_
    refine lv_istore (lv' := [(4, .int (0)), (3, .int (nI (a.2.1.1.2))), (1, .long (nwZ a.2.1)), (0, .ref ((Gs 0).1 1))]) hx hb dL_errors_27 hl (by decide) rfl (fun ls hl => ?_)
    have hl : lv_has ls 7 [(4, .int (bI (¬ a.2.1.1.1 = true))), (3, .int (nI (a.2.1.1.2))), (1, .long (nwZ a.2.1)), (0, .ref ((Gs 0).1 1))] := lv_re hl 0 rfl (show 0 = bI (¬ a.2.1.1.1 = true) from (bI_0 c19).symm)
    exact W.widen (by omega) (by omega) (JP29  _ _ _  hw (lv_sub hl [0, 2, 1, 3] rfl))
  · skip
    have c19 := (lg_cmp_eq _ _).mp c19
    have c19 := jl_b0 c19
    refine lv_iconst (v := 1) hx hb dL_errors_22 (by decide) ?_
    refine lv_goto (tgt := 27) hx hb dL_errors_23 (by decide) ?_
    refine lv_istore (lv' := [(4, .int (1)), (3, .int (nI (a.2.1.1.2))), (1, .long (nwZ a.2.1)), (0, .ref ((Gs 0).1 1))]) hx hb dL_errors_27 hl (by decide) rfl (fun ls hl => ?_)
    have hl : lv_has ls 7 [(4, .int (bI (¬ a.2.1.1.1 = true))), (3, .int (nI (a.2.1.1.2))), (1, .long (nwZ a.2.1)), (0, .ref ((Gs 0).1 1))] := lv_re hl 0 rfl (show 1 = bI (¬ a.2.1.1.1 = true) from (bI_1 c19).symm)
    exact W.widen (by omega) (by omega) (JP29  _ _ _  hw (lv_sub hl [0, 2, 1, 3] rfl))
