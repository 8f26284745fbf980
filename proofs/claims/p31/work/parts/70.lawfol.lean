theorem lo_hist {D : va_G} {cI cL cZ : ClassId} {A : Nat → Prop} {s : State} {Gs : Nat → Geo} {H : Heap} {locs : List Loc} {b : AS} (hw : LO D cI cL cZ A s Gs [b] H locs) : b.2.2.1.length ≤ 14 := by
  obtain ⟨Bs, hB, -⟩ := hw
  obtain ⟨w, rfl, q, vv, nx, ct, uf, zz, -, h1, h2, h3, h4⟩ := OBs_out hB
  rw [← h3]
  unfold hiL
  rw [List.length_map, List.length_range]
  exact h1.2.2.1
theorem dL_follows_0 : decode cL_follows 0 = .ok (.aload_n 0, 1) := by decide +kernel
theorem dL_follows_1 : decode cL_follows 1 = .ok (.invokestatic 120, 3) := by decide +kernel
theorem dL_follows_4 : decode cL_follows 4 = .ok (.lstore_n 2, 1) := by decide +kernel
theorem dL_follows_5 : decode cL_follows 5 = .ok (.iload_n 1, 1) := by decide +kernel
theorem dL_follows_6 : decode cL_follows 6 = .ok (.bipush 16, 2) := by decide +kernel
theorem dL_follows_8 : decode cL_follows 8 = .ok (.irem, 1) := by decide +kernel
theorem dL_follows_9 : decode cL_follows 9 = .ok (.istore 4, 2) := by decide +kernel
theorem dL_follows_11 : decode cL_follows 11 = .ok (.iload_n 1, 1) := by decide +kernel
theorem dL_follows_12 : decode cL_follows 12 = .ok (.bipush 16, 2) := by decide +kernel
theorem dL_follows_14 : decode cL_follows 14 = .ok (.idiv, 1) := by decide +kernel
theorem dL_follows_15 : decode cL_follows 15 = .ok (.sipush 1000, 3) := by decide +kernel
theorem dL_follows_18 : decode cL_follows 18 = .ok (.irem, 1) := by decide +kernel
theorem dL_follows_19 : decode cL_follows 19 = .ok (.istore 5, 2) := by decide +kernel
theorem dL_follows_21 : decode cL_follows 21 = .ok (.iconst 1, 1) := by decide +kernel
theorem dL_follows_22 : decode cL_follows 22 = .ok (.iload_n 1, 1) := by decide +kernel
theorem dL_follows_23 : decode cL_follows 23 = .ok (.bipush 7, 2) := by decide +kernel
theorem dL_follows_25 : decode cL_follows 25 = .ok (.idiv, 1) := by decide +kernel
theorem dL_follows_26 : decode cL_follows 26 = .ok (.bipush 12, 2) := by decide +kernel
theorem dL_follows_28 : decode cL_follows 28 = .ok (.irem, 1) := by decide +kernel
theorem dL_follows_29 : decode cL_follows 29 = .ok (.iadd, 1) := by decide +kernel
theorem dL_follows_30 : decode cL_follows 30 = .ok (.istore 6, 2) := by decide +kernel
theorem dL_follows_32 : decode cL_follows 32 = .ok (.aload_n 0, 1) := by decide +kernel
theorem dL_follows_33 : decode cL_follows 33 = .ok (.iload 4, 2) := by decide +kernel
theorem dL_follows_35 : decode cL_follows 35 = .ok (.invokestatic 191, 3) := by decide +kernel
theorem dL_follows_38 : decode cL_follows 38 = .ok (.lstore 7, 2) := by decide +kernel
theorem dL_follows_40 : decode cL_follows 40 = .ok (.aload_n 0, 1) := by decide +kernel
theorem dL_follows_41 : decode cL_follows 41 = .ok (.iload 4, 2) := by decide +kernel
theorem dL_follows_43 : decode cL_follows 43 = .ok (.invokestatic 194, 3) := by decide +kernel
theorem dL_follows_46 : decode cL_follows 46 = .ok (.lstore 9, 2) := by decide +kernel
theorem dL_follows_48 : decode cL_follows 48 = .ok (.aload_n 0, 1) := by decide +kernel
theorem dL_follows_49 : decode cL_follows 49 = .ok (.iconst 5, 1) := by decide +kernel
theorem dL_follows_50 : decode cL_follows 50 = .ok (.invokestatic 102, 3) := by decide +kernel
theorem dL_follows_53 : decode cL_follows 53 = .ok (.lstore 11, 2) := by decide +kernel
theorem dL_follows_55 : decode cL_follows 55 = .ok (.aload_n 0, 1) := by decide +kernel
theorem dL_follows_56 : decode cL_follows 56 = .ok (.iconst 1, 1) := by decide +kernel
theorem dL_follows_57 : decode cL_follows 57 = .ok (.invokestatic 166, 3) := by decide +kernel
theorem dL_follows_60 : decode cL_follows 60 = .ok (.lload 11, 2) := by decide +kernel
theorem dL_follows_62 : decode cL_follows 62 = .ok (.lcmp, 1) := by decide +kernel
theorem dL_follows_63 : decode cL_follows 63 = .ok (.ifCond .ne 27, 3) := by decide +kernel
theorem dL_follows_66 : decode cL_follows 66 = .ok (.aload_n 0, 1) := by decide +kernel
theorem dL_follows_67 : decode cL_follows 67 = .ok (.iload_n 1, 1) := by decide +kernel
theorem dL_follows_68 : decode cL_follows 68 = .ok (.i2l, 1) := by decide +kernel
theorem dL_follows_69 : decode cL_follows 69 = .ok (.bipush 9, 2) := by decide +kernel
theorem dL_follows_71 : decode cL_follows 71 = .ok (.invokestatic 163, 3) := by decide +kernel
theorem dL_follows_74 : decode cL_follows 74 = .ok (.aload_n 0, 1) := by decide +kernel
theorem dL_follows_75 : decode cL_follows 75 = .ok (.iload_n 1, 1) := by decide +kernel
theorem dL_follows_76 : decode cL_follows 76 = .ok (.i2l, 1) := by decide +kernel
theorem dL_follows_77 : decode cL_follows 77 = .ok (.bipush 9, 2) := by decide +kernel
theorem dL_follows_79 : decode cL_follows 79 = .ok (.invokestatic 163, 3) := by decide +kernel
theorem dL_follows_82 : decode cL_follows 82 = .ok (.lcmp, 1) := by decide +kernel
theorem dL_follows_83 : decode cL_follows 83 = .ok (.ifCond .ne 7, 3) := by decide +kernel
theorem dL_follows_86 : decode cL_follows 86 = .ok (.iconst 1, 1) := by decide +kernel
theorem dL_follows_87 : decode cL_follows 87 = .ok (.goto 4, 3) := by decide +kernel
theorem dL_follows_91 : decode cL_follows 91 = .ok (.istore 13, 2) := by decide +kernel
theorem dL_follows_93 : decode cL_follows 93 = .ok (.aload_n 0, 1) := by decide +kernel
theorem dL_follows_94 : decode cL_follows 94 = .ok (.iconst 2, 1) := by decide +kernel
theorem dL_follows_95 : decode cL_follows 95 = .ok (.invokestatic 102, 3) := by decide +kernel
theorem dL_follows_98 : decode cL_follows 98 = .ok (.lconst 1, 1) := by decide +kernel
theorem dL_follows_99 : decode cL_follows 99 = .ok (.lcmp, 1) := by decide +kernel
theorem dL_follows_100 : decode cL_follows 100 = .ok (.ifCond .ne 7, 3) := by decide +kernel
theorem dL_follows_103 : decode cL_follows 103 = .ok (.iconst 1, 1) := by decide +kernel
theorem dL_follows_104 : decode cL_follows 104 = .ok (.goto 4, 3) := by decide +kernel
theorem dL_follows_107 : decode cL_follows 107 = .ok (.iconst 0, 1) := by decide +kernel
theorem dL_follows_108 : decode cL_follows 108 = .ok (.istore 14, 2) := by decide +kernel
theorem dL_follows_110 : decode cL_follows 110 = .ok (.aload_n 0, 1) := by decide +kernel
theorem dL_follows_111 : decode cL_follows 111 = .ok (.invokevirtual 124, 3) := by decide +kernel
theorem dL_follows_114 : decode cL_follows 114 = .ok (.ifCond .ne 7, 3) := by decide +kernel
theorem dL_follows_117 : decode cL_follows 117 = .ok (.iconst 1, 1) := by decide +kernel
theorem dL_follows_118 : decode cL_follows 118 = .ok (.goto 4, 3) := by decide +kernel
theorem dL_follows_121 : decode cL_follows 121 = .ok (.iconst 0, 1) := by decide +kernel
theorem dL_follows_122 : decode cL_follows 122 = .ok (.istore 15, 2) := by decide +kernel
theorem dL_follows_124 : decode cL_follows 124 = .ok (.aload_n 0, 1) := by decide +kernel
theorem dL_follows_125 : decode cL_follows 125 = .ok (.iload 4, 2) := by decide +kernel
theorem dL_follows_127 : decode cL_follows 127 = .ok (.invokestatic 155, 3) := by decide +kernel
theorem dL_follows_130 : decode cL_follows 130 = .ok (.lstore 16, 2) := by decide +kernel
theorem dL_follows_132 : decode cL_follows 132 = .ok (.iload 13, 2) := by decide +kernel
theorem dL_follows_134 : decode cL_follows 134 = .ok (.ifCond .eq 36, 3) := by decide +kernel
theorem dL_follows_137 : decode cL_follows 137 = .ok (.lload 16, 2) := by decide +kernel
theorem dL_follows_139 : decode cL_follows 139 = .ok (.lconst 0, 1) := by decide +kernel
theorem dL_follows_140 : decode cL_follows 140 = .ok (.lcmp, 1) := by decide +kernel
theorem dL_follows_141 : decode cL_follows 141 = .ok (.ifCond .le 7, 3) := by decide +kernel
theorem dL_follows_144 : decode cL_follows 144 = .ok (.iconst 1, 1) := by decide +kernel
theorem dL_follows_145 : decode cL_follows 145 = .ok (.goto 4, 3) := by decide +kernel
theorem dL_follows_148 : decode cL_follows 148 = .ok (.iconst 0, 1) := by decide +kernel
theorem dL_follows_149 : decode cL_follows 149 = .ok (.iload 15, 2) := by decide +kernel
theorem dL_follows_151 : decode cL_follows 151 = .ok (.if_icmp .ne 19, 3) := by decide +kernel
theorem dL_follows_154 : decode cL_follows 154 = .ok (.lload 16, 2) := by decide +kernel
theorem dL_follows_156 : decode cL_follows 156 = .ok (.lconst 0, 1) := by decide +kernel
theorem dL_follows_157 : decode cL_follows 157 = .ok (.ldc2_w 197, 3) := by decide +kernel
theorem dL_follows_160 : decode cL_follows 160 = .ok (.invokestatic 174, 3) := by decide +kernel
theorem dL_follows_163 : decode cL_follows 163 = .ok (.ifCond .eq 7, 3) := by decide +kernel
theorem dL_follows_166 : decode cL_follows 166 = .ok (.iconst 1, 1) := by decide +kernel
theorem dL_follows_167 : decode cL_follows 167 = .ok (.goto 4, 3) := by decide +kernel
theorem dL_follows_171 : decode cL_follows 171 = .ok (.istore 13, 2) := by decide +kernel
theorem dL_follows_173 : decode cL_follows 173 = .ok (.iload 15, 2) := by decide +kernel
theorem dL_follows_175 : decode cL_follows 175 = .ok (.ifCond .eq 396, 3) := by decide +kernel
theorem dL_follows_178 : decode cL_follows 178 = .ok (.iload 13, 2) := by decide +kernel
theorem dL_follows_180 : decode cL_follows 180 = .ok (.ifCond .eq 391, 3) := by decide +kernel
theorem dL_follows_183 : decode cL_follows 183 = .ok (.aload_n 0, 1) := by decide +kernel
theorem dL_follows_184 : decode cL_follows 184 = .ok (.invokestatic 135, 3) := by decide +kernel
theorem dL_follows_187 : decode cL_follows 187 = .ok (.lstore 18, 2) := by decide +kernel
theorem dL_follows_189 : decode cL_follows 189 = .ok (.aload_n 0, 1) := by decide +kernel
theorem dL_follows_190 : decode cL_follows 190 = .ok (.bipush 11, 2) := by decide +kernel
theorem dL_follows_192 : decode cL_follows 192 = .ok (.invokestatic 102, 3) := by decide +kernel
theorem dL_follows_195 : decode cL_follows 195 = .ok (.lstore 20, 2) := by decide +kernel
theorem dL_follows_197 : decode cL_follows 197 = .ok (.aload_n 0, 1) := by decide +kernel
theorem dL_follows_198 : decode cL_follows 198 = .ok (.iload 4, 2) := by decide +kernel
theorem dL_follows_200 : decode cL_follows 200 = .ok (.iload 5, 2) := by decide +kernel
theorem dL_follows_202 : decode cL_follows 202 = .ok (.iload 6, 2) := by decide +kernel
theorem dL_follows_204 : decode cL_follows 204 = .ok (.invokestatic 137, 3) := by decide +kernel
theorem dL_follows_207 : decode cL_follows 207 = .ok (.lstore 22, 2) := by decide +kernel
theorem dL_follows_209 : decode cL_follows 209 = .ok (.iload 6, 2) := by decide +kernel
theorem dL_follows_211 : decode cL_follows 211 = .ok (.i2l, 1) := by decide +kernel
theorem dL_follows_212 : decode cL_follows 212 = .ok (.lload 18, 2) := by decide +kernel
theorem dL_follows_214 : decode cL_follows 214 = .ok (.lcmp, 1) := by decide +kernel
theorem dL_follows_215 : decode cL_follows 215 = .ok (.ifCond .gt 11, 3) := by decide +kernel
theorem dL_follows_218 : decode cL_follows 218 = .ok (.lload 22, 2) := by decide +kernel
theorem dL_follows_220 : decode cL_follows 220 = .ok (.lload 7, 2) := by decide +kernel
theorem dL_follows_222 : decode cL_follows 222 = .ok (.lcmp, 1) := by decide +kernel
theorem dL_follows_223 : decode cL_follows 223 = .ok (.ifCond .ne 59, 3) := by decide +kernel
theorem dL_follows_226 : decode cL_follows 226 = .ok (.iload 6, 2) := by decide +kernel
theorem dL_follows_228 : decode cL_follows 228 = .ok (.i2l, 1) := by decide +kernel
theorem dL_follows_229 : decode cL_follows 229 = .ok (.lload 18, 2) := by decide +kernel
theorem dL_follows_231 : decode cL_follows 231 = .ok (.lcmp, 1) := by decide +kernel
theorem dL_follows_232 : decode cL_follows 232 = .ok (.ifCond .le 12, 3) := by decide +kernel
theorem dL_follows_235 : decode cL_follows 235 = .ok (.lload 22, 2) := by decide +kernel
theorem dL_follows_237 : decode cL_follows 237 = .ok (.iload 5, 2) := by decide +kernel
theorem dL_follows_239 : decode cL_follows 239 = .ok (.i2l, 1) := by decide +kernel
theorem dL_follows_240 : decode cL_follows 240 = .ok (.lcmp, 1) := by decide +kernel
theorem dL_follows_241 : decode cL_follows 241 = .ok (.ifCond .ne 41, 3) := by decide +kernel
theorem dL_follows_244 : decode cL_follows 244 = .ok (.aload_n 0, 1) := by decide +kernel
theorem dL_follows_245 : decode cL_follows 245 = .ok (.invokestatic 120, 3) := by decide +kernel
theorem dL_follows_248 : decode cL_follows 248 = .ok (.lload_n 2, 1) := by decide +kernel
theorem dL_follows_249 : decode cL_follows 249 = .ok (.lcmp, 1) := by decide +kernel
theorem dL_follows_250 : decode cL_follows 250 = .ok (.ifCond .ne 32, 3) := by decide +kernel
theorem dL_follows_253 : decode cL_follows 253 = .ok (.aload_n 0, 1) := by decide +kernel
theorem dL_follows_254 : decode cL_follows 254 = .ok (.iload 6, 2) := by decide +kernel
theorem dL_follows_256 : decode cL_follows 256 = .ok (.invokestatic 149, 3) := by decide +kernel
theorem dL_follows_259 : decode cL_follows 259 = .ok (.lload 20, 2) := by decide +kernel
theorem dL_follows_261 : decode cL_follows 261 = .ok (.lcmp, 1) := by decide +kernel
theorem dL_follows_262 : decode cL_follows 262 = .ok (.ifCond .ne 20, 3) := by decide +kernel
theorem dL_follows_265 : decode cL_follows 265 = .ok (.aload_n 0, 1) := by decide +kernel
theorem dL_follows_266 : decode cL_follows 266 = .ok (.bipush 11, 2) := by decide +kernel
theorem dL_follows_268 : decode cL_follows 268 = .ok (.invokestatic 102, 3) := by decide +kernel
theorem dL_follows_271 : decode cL_follows 271 = .ok (.iload 6, 2) := by decide +kernel
theorem dL_follows_273 : decode cL_follows 273 = .ok (.i2l, 1) := by decide +kernel
theorem dL_follows_274 : decode cL_follows 274 = .ok (.lcmp, 1) := by decide +kernel
theorem dL_follows_275 : decode cL_follows 275 = .ok (.ifCond .ne 7, 3) := by decide +kernel
theorem dL_follows_278 : decode cL_follows 278 = .ok (.iconst 1, 1) := by decide +kernel
theorem dL_follows_279 : decode cL_follows 279 = .ok (.goto 4, 3) := by decide +kernel
theorem dL_follows_283 : decode cL_follows 283 = .ok (.istore 13, 2) := by decide +kernel
theorem dL_follows_285 : decode cL_follows 285 = .ok (.aload_n 0, 1) := by decide +kernel
theorem dL_follows_286 : decode cL_follows 286 = .ok (.iload 4, 2) := by decide +kernel
theorem dL_follows_288 : decode cL_follows 288 = .ok (.iload 5, 2) := by decide +kernel
theorem dL_follows_290 : decode cL_follows 290 = .ok (.invokestatic 133, 3) := by decide +kernel
theorem dL_follows_293 : decode cL_follows 293 = .ok (.lstore 24, 2) := by decide +kernel
theorem dL_follows_295 : decode cL_follows 295 = .ok (.iload 13, 2) := by decide +kernel
theorem dL_follows_297 : decode cL_follows 297 = .ok (.ifCond .eq 85, 3) := by decide +kernel
theorem dL_follows_300 : decode cL_follows 300 = .ok (.lload 24, 2) := by decide +kernel
theorem dL_follows_302 : decode cL_follows 302 = .ok (.ldc2_w 199, 3) := by decide +kernel
theorem dL_follows_305 : decode cL_follows 305 = .ok (.lcmp, 1) := by decide +kernel
theorem dL_follows_306 : decode cL_follows 306 = .ok (.ifCond .ne 7, 3) := by decide +kernel
theorem dL_follows_309 : decode cL_follows 309 = .ok (.iconst 1, 1) := by decide +kernel
theorem dL_follows_310 : decode cL_follows 310 = .ok (.goto 4, 3) := by decide +kernel
theorem dL_follows_313 : decode cL_follows 313 = .ok (.iconst 0, 1) := by decide +kernel
theorem dL_follows_314 : decode cL_follows 314 = .ok (.iload 6, 2) := by decide +kernel
theorem dL_follows_316 : decode cL_follows 316 = .ok (.i2l, 1) := by decide +kernel
theorem dL_follows_317 : decode cL_follows 317 = .ok (.lload 18, 2) := by decide +kernel
theorem dL_follows_319 : decode cL_follows 319 = .ok (.lcmp, 1) := by decide +kernel
theorem dL_follows_320 : decode cL_follows 320 = .ok (.ifCond .gt 7, 3) := by decide +kernel
theorem dL_follows_323 : decode cL_follows 323 = .ok (.iconst 1, 1) := by decide +kernel
theorem dL_follows_324 : decode cL_follows 324 = .ok (.goto 4, 3) := by decide +kernel
theorem dL_follows_327 : decode cL_follows 327 = .ok (.iconst 0, 1) := by decide +kernel
theorem dL_follows_328 : decode cL_follows 328 = .ok (.if_icmp .ne 54, 3) := by decide +kernel
theorem dL_follows_331 : decode cL_follows 331 = .ok (.aload_n 0, 1) := by decide +kernel
theorem dL_follows_332 : decode cL_follows 332 = .ok (.iconst 2, 1) := by decide +kernel
theorem dL_follows_333 : decode cL_follows 333 = .ok (.invokestatic 102, 3) := by decide +kernel
theorem dL_follows_336 : decode cL_follows 336 = .ok (.lload 24, 2) := by decide +kernel
theorem dL_follows_338 : decode cL_follows 338 = .ok (.ldc2_w 199, 3) := by decide +kernel
theorem dL_follows_341 : decode cL_follows 341 = .ok (.lcmp, 1) := by decide +kernel
theorem dL_follows_342 : decode cL_follows 342 = .ok (.ifCond .ne 7, 3) := by decide +kernel
theorem dL_follows_345 : decode cL_follows 345 = .ok (.lconst 0, 1) := by decide +kernel
theorem dL_follows_346 : decode cL_follows 346 = .ok (.goto 4, 3) := by decide +kernel
theorem dL_follows_349 : decode cL_follows 349 = .ok (.lconst 1, 1) := by decide +kernel
theorem dL_follows_350 : decode cL_follows 350 = .ok (.lcmp, 1) := by decide +kernel
theorem dL_follows_351 : decode cL_follows 351 = .ok (.ifCond .ne 31, 3) := by decide +kernel
theorem dL_follows_354 : decode cL_follows 354 = .ok (.aload_n 0, 1) := by decide +kernel
theorem dL_follows_355 : decode cL_follows 355 = .ok (.iload 4, 2) := by decide +kernel
theorem dL_follows_357 : decode cL_follows 357 = .ok (.invokestatic 191, 3) := by decide +kernel
theorem dL_follows_360 : decode cL_follows 360 = .ok (.lload 22, 2) := by decide +kernel
theorem dL_follows_362 : decode cL_follows 362 = .ok (.lcmp, 1) := by decide +kernel
theorem dL_follows_363 : decode cL_follows 363 = .ok (.ifCond .ne 19, 3) := by decide +kernel
theorem dL_follows_366 : decode cL_follows 366 = .ok (.aload_n 0, 1) := by decide +kernel
theorem dL_follows_367 : decode cL_follows 367 = .ok (.iload 4, 2) := by decide +kernel
theorem dL_follows_369 : decode cL_follows 369 = .ok (.invokestatic 194, 3) := by decide +kernel
theorem dL_follows_372 : decode cL_follows 372 = .ok (.lload 9, 2) := by decide +kernel
theorem dL_follows_374 : decode cL_follows 374 = .ok (.lcmp, 1) := by decide +kernel
theorem dL_follows_375 : decode cL_follows 375 = .ok (.ifCond .ne 7, 3) := by decide +kernel
theorem dL_follows_378 : decode cL_follows 378 = .ok (.iconst 1, 1) := by decide +kernel
theorem dL_follows_379 : decode cL_follows 379 = .ok (.goto 4, 3) := by decide +kernel
theorem dL_follows_383 : decode cL_follows 383 = .ok (.istore 13, 2) := by decide +kernel
theorem dL_follows_385 : decode cL_follows 385 = .ok (.lload 24, 2) := by decide +kernel
theorem dL_follows_387 : decode cL_follows 387 = .ok (.ldc2_w 199, 3) := by decide +kernel
theorem dL_follows_390 : decode cL_follows 390 = .ok (.lcmp, 1) := by decide +kernel
theorem dL_follows_391 : decode cL_follows 391 = .ok (.ifCond .ne 61, 3) := by decide +kernel
theorem dL_follows_394 : decode cL_follows 394 = .ok (.iload 13, 2) := by decide +kernel
theorem dL_follows_396 : decode cL_follows 396 = .ok (.ifCond .eq 56, 3) := by decide +kernel
theorem dL_follows_399 : decode cL_follows 399 = .ok (.aload_n 0, 1) := by decide +kernel
theorem dL_follows_400 : decode cL_follows 400 = .ok (.invokestatic 151, 3) := by decide +kernel
theorem dL_follows_403 : decode cL_follows 403 = .ok (.aload_n 0, 1) := by decide +kernel
theorem dL_follows_404 : decode cL_follows 404 = .ok (.iconst 5, 1) := by decide +kernel
theorem dL_follows_405 : decode cL_follows 405 = .ok (.invokestatic 102, 3) := by decide +kernel
theorem dL_follows_408 : decode cL_follows 408 = .ok (.lcmp, 1) := by decide +kernel
theorem dL_follows_409 : decode cL_follows 409 = .ok (.ifCond .ne 40, 3) := by decide +kernel
theorem dL_follows_412 : decode cL_follows 412 = .ok (.aload_n 0, 1) := by decide +kernel
theorem dL_follows_413 : decode cL_follows 413 = .ok (.iload 4, 2) := by decide +kernel
theorem dL_follows_415 : decode cL_follows 415 = .ok (.invokestatic 127, 3) := by decide +kernel
theorem dL_follows_418 : decode cL_follows 418 = .ok (.lload 22, 2) := by decide +kernel
theorem dL_follows_420 : decode cL_follows 420 = .ok (.lcmp, 1) := by decide +kernel
theorem dL_follows_421 : decode cL_follows 421 = .ok (.ifCond .ne 28, 3) := by decide +kernel
theorem dL_follows_424 : decode cL_follows 424 = .ok (.aload_n 0, 1) := by decide +kernel
theorem dL_follows_425 : decode cL_follows 425 = .ok (.iload 4, 2) := by decide +kernel
theorem dL_follows_427 : decode cL_follows 427 = .ok (.invokestatic 194, 3) := by decide +kernel
theorem dL_follows_430 : decode cL_follows 430 = .ok (.lload 9, 2) := by decide +kernel
theorem dL_follows_432 : decode cL_follows 432 = .ok (.lcmp, 1) := by decide +kernel
theorem dL_follows_433 : decode cL_follows 433 = .ok (.ifCond .ne 16, 3) := by decide +kernel
theorem dL_follows_436 : decode cL_follows 436 = .ok (.aload_n 0, 1) := by decide +kernel
theorem dL_follows_437 : decode cL_follows 437 = .ok (.invokestatic 201, 3) := by decide +kernel
theorem dL_follows_440 : decode cL_follows 440 = .ok (.lconst 0, 1) := by decide +kernel
theorem dL_follows_441 : decode cL_follows 441 = .ok (.lcmp, 1) := by decide +kernel
theorem dL_follows_442 : decode cL_follows 442 = .ok (.ifCond .lt 7, 3) := by decide +kernel
theorem dL_follows_445 : decode cL_follows 445 = .ok (.iconst 1, 1) := by decide +kernel
theorem dL_follows_446 : decode cL_follows 446 = .ok (.goto 4, 3) := by decide +kernel
theorem dL_follows_450 : decode cL_follows 450 = .ok (.istore 13, 2) := by decide +kernel
theorem dL_follows_452 : decode cL_follows 452 = .ok (.iload 13, 2) := by decide +kernel
theorem dL_follows_454 : decode cL_follows 454 = .ok (.ifCond .eq 114, 3) := by decide +kernel
theorem dL_follows_457 : decode cL_follows 457 = .ok (.aload_n 0, 1) := by decide +kernel
theorem dL_follows_458 : decode cL_follows 458 = .ok (.invokestatic 201, 3) := by decide +kernel
theorem dL_follows_461 : decode cL_follows 461 = .ok (.lconst 0, 1) := by decide +kernel
theorem dL_follows_462 : decode cL_follows 462 = .ok (.lcmp, 1) := by decide +kernel
theorem dL_follows_463 : decode cL_follows 463 = .ok (.ifCond .lt 105, 3) := by decide +kernel
theorem dL_follows_466 : decode cL_follows 466 = .ok (.aload_n 0, 1) := by decide +kernel
theorem dL_follows_467 : decode cL_follows 467 = .ok (.invokestatic 201, 3) := by decide +kernel
theorem dL_follows_470 : decode cL_follows 470 = .ok (.lconst 0, 1) := by decide +kernel
theorem dL_follows_471 : decode cL_follows 471 = .ok (.lcmp, 1) := by decide +kernel
theorem dL_follows_472 : decode cL_follows 472 = .ok (.ifCond .lt 96, 3) := by decide +kernel
theorem dL_follows_475 : decode cL_follows 475 = .ok (.aload_n 0, 1) := by decide +kernel
theorem dL_follows_476 : decode cL_follows 476 = .ok (.invokestatic 120, 3) := by decide +kernel
theorem dL_follows_479 : decode cL_follows 479 = .ok (.lload_n 2, 1) := by decide +kernel
theorem dL_follows_480 : decode cL_follows 480 = .ok (.lcmp, 1) := by decide +kernel
theorem dL_follows_481 : decode cL_follows 481 = .ok (.ifCond .ne 87, 3) := by decide +kernel
theorem dL_follows_484 : decode cL_follows 484 = .ok (.aload_n 0, 1) := by decide +kernel
theorem dL_follows_485 : decode cL_follows 485 = .ok (.iconst 0, 1) := by decide +kernel
theorem dL_follows_486 : decode cL_follows 486 = .ok (.invokestatic 149, 3) := by decide +kernel
theorem dL_follows_489 : decode cL_follows 489 = .ok (.lconst 0, 1) := by decide +kernel
theorem dL_follows_490 : decode cL_follows 490 = .ok (.lcmp, 1) := by decide +kernel
theorem dL_follows_491 : decode cL_follows 491 = .ok (.ifCond .lt 77, 3) := by decide +kernel
theorem dL_follows_494 : decode cL_follows 494 = .ok (.aload_n 0, 1) := by decide +kernel
theorem dL_follows_495 : decode cL_follows 495 = .ok (.iload 4, 2) := by decide +kernel
theorem dL_follows_497 : decode cL_follows 497 = .ok (.iload 5, 2) := by decide +kernel
theorem dL_follows_499 : decode cL_follows 499 = .ok (.invokestatic 133, 3) := by decide +kernel
theorem dL_follows_502 : decode cL_follows 502 = .ok (.aload_n 0, 1) := by decide +kernel
theorem dL_follows_503 : decode cL_follows 503 = .ok (.iload 4, 2) := by decide +kernel
theorem dL_follows_505 : decode cL_follows 505 = .ok (.invokestatic 131, 3) := by decide +kernel
theorem dL_follows_508 : decode cL_follows 508 = .ok (.lcmp, 1) := by decide +kernel
theorem dL_follows_509 : decode cL_follows 509 = .ok (.ifCond .ne 59, 3) := by decide +kernel
theorem dL_follows_512 : decode cL_follows 512 = .ok (.aload_n 0, 1) := by decide +kernel
theorem dL_follows_513 : decode cL_follows 513 = .ok (.iload 4, 2) := by decide +kernel
theorem dL_follows_515 : decode cL_follows 515 = .ok (.invokestatic 127, 3) := by decide +kernel
theorem dL_follows_518 : decode cL_follows 518 = .ok (.iload 5, 2) := by decide +kernel
theorem dL_follows_520 : decode cL_follows 520 = .ok (.i2l, 1) := by decide +kernel
theorem dL_follows_521 : decode cL_follows 521 = .ok (.lcmp, 1) := by decide +kernel
theorem dL_follows_522 : decode cL_follows 522 = .ok (.ifCond .ne 46, 3) := by decide +kernel
theorem dL_follows_525 : decode cL_follows 525 = .ok (.aload_n 0, 1) := by decide +kernel
theorem dL_follows_526 : decode cL_follows 526 = .ok (.iload 4, 2) := by decide +kernel
theorem dL_follows_528 : decode cL_follows 528 = .ok (.invokestatic 194, 3) := by decide +kernel
theorem dL_follows_531 : decode cL_follows 531 = .ok (.lload 9, 2) := by decide +kernel
theorem dL_follows_533 : decode cL_follows 533 = .ok (.lcmp, 1) := by decide +kernel
theorem dL_follows_534 : decode cL_follows 534 = .ok (.ifCond .ne 34, 3) := by decide +kernel
theorem dL_follows_537 : decode cL_follows 537 = .ok (.aload_n 0, 1) := by decide +kernel
theorem dL_follows_538 : decode cL_follows 538 = .ok (.invokestatic 201, 3) := by decide +kernel
theorem dL_follows_541 : decode cL_follows 541 = .ok (.lconst 0, 1) := by decide +kernel
theorem dL_follows_542 : decode cL_follows 542 = .ok (.lcmp, 1) := by decide +kernel
theorem dL_follows_543 : decode cL_follows 543 = .ok (.ifCond .lt 25, 3) := by decide +kernel
theorem dL_follows_546 : decode cL_follows 546 = .ok (.aload_n 0, 1) := by decide +kernel
theorem dL_follows_547 : decode cL_follows 547 = .ok (.invokestatic 201, 3) := by decide +kernel
theorem dL_follows_550 : decode cL_follows 550 = .ok (.lconst 0, 1) := by decide +kernel
theorem dL_follows_551 : decode cL_follows 551 = .ok (.lcmp, 1) := by decide +kernel
theorem dL_follows_552 : decode cL_follows 552 = .ok (.ifCond .lt 16, 3) := by decide +kernel
theorem dL_follows_555 : decode cL_follows 555 = .ok (.aload_n 0, 1) := by decide +kernel
theorem dL_follows_556 : decode cL_follows 556 = .ok (.invokestatic 120, 3) := by decide +kernel
theorem dL_follows_559 : decode cL_follows 559 = .ok (.lload_n 2, 1) := by decide +kernel
theorem dL_follows_560 : decode cL_follows 560 = .ok (.lcmp, 1) := by decide +kernel
theorem dL_follows_561 : decode cL_follows 561 = .ok (.ifCond .ne 7, 3) := by decide +kernel
theorem dL_follows_564 : decode cL_follows 564 = .ok (.iconst 1, 1) := by decide +kernel
theorem dL_follows_565 : decode cL_follows 565 = .ok (.goto 4, 3) := by decide +kernel
theorem dL_follows_569 : decode cL_follows 569 = .ok (.istore 13, 2) := by decide +kernel
theorem dL_follows_571 : decode cL_follows 571 = .ok (.aload_n 0, 1) := by decide +kernel
theorem dL_follows_572 : decode cL_follows 572 = .ok (.invokevirtual 144, 3) := by decide +kernel
theorem dL_follows_575 : decode cL_follows 575 = .ok (.istore 18, 2) := by decide +kernel
theorem dL_follows_577 : decode cL_follows 577 = .ok (.iload 18, 2) := by decide +kernel
theorem dL_follows_579 : decode cL_follows 579 = .ok (.bipush (-9), 2) := by decide +kernel
theorem dL_follows_581 : decode cL_follows 581 = .ok (.if_icmp .eq 147, 3) := by decide +kernel
theorem dL_follows_584 : decode cL_follows 584 = .ok (.iload 13, 2) := by decide +kernel
theorem dL_follows_586 : decode cL_follows 586 = .ok (.ifCond .eq 142, 3) := by decide +kernel
theorem dL_follows_589 : decode cL_follows 589 = .ok (.aload_n 0, 1) := by decide +kernel
theorem dL_follows_590 : decode cL_follows 590 = .ok (.iload 18, 2) := by decide +kernel
theorem dL_follows_592 : decode cL_follows 592 = .ok (.iconst 0, 1) := by decide +kernel
theorem dL_follows_593 : decode cL_follows 593 = .ok (.invokestatic 107, 3) := by decide +kernel
theorem dL_follows_596 : decode cL_follows 596 = .ok (.lstore 19, 2) := by decide +kernel
theorem dL_follows_598 : decode cL_follows 598 = .ok (.aload_n 0, 1) := by decide +kernel
theorem dL_follows_599 : decode cL_follows 599 = .ok (.bipush 9, 2) := by decide +kernel
theorem dL_follows_601 : decode cL_follows 601 = .ok (.invokestatic 102, 3) := by decide +kernel
theorem dL_follows_604 : decode cL_follows 604 = .ok (.lstore 21, 2) := by decide +kernel
theorem dL_follows_606 : decode cL_follows 606 = .ok (.aload_n 0, 1) := by decide +kernel
theorem dL_follows_607 : decode cL_follows 607 = .ok (.iconst 0, 1) := by decide +kernel
theorem dL_follows_608 : decode cL_follows 608 = .ok (.invokestatic 149, 3) := by decide +kernel
theorem dL_follows_611 : decode cL_follows 611 = .ok (.lconst 0, 1) := by decide +kernel
theorem dL_follows_612 : decode cL_follows 612 = .ok (.lcmp, 1) := by decide +kernel
theorem dL_follows_613 : decode cL_follows 613 = .ok (.ifCond .lt 112, 3) := by decide +kernel
theorem dL_follows_616 : decode cL_follows 616 = .ok (.aload_n 0, 1) := by decide +kernel
theorem dL_follows_617 : decode cL_follows 617 = .ok (.invokestatic 147, 3) := by decide +kernel
theorem dL_follows_620 : decode cL_follows 620 = .ok (.iload 18, 2) := by decide +kernel
theorem dL_follows_622 : decode cL_follows 622 = .ok (.i2l, 1) := by decide +kernel
theorem dL_follows_623 : decode cL_follows 623 = .ok (.lcmp, 1) := by decide +kernel
theorem dL_follows_624 : decode cL_follows 624 = .ok (.ifCond .ne 101, 3) := by decide +kernel
theorem dL_follows_627 : decode cL_follows 627 = .ok (.aload_n 0, 1) := by decide +kernel
theorem dL_follows_628 : decode cL_follows 628 = .ok (.iload 18, 2) := by decide +kernel
theorem dL_follows_630 : decode cL_follows 630 = .ok (.iconst 0, 1) := by decide +kernel
theorem dL_follows_631 : decode cL_follows 631 = .ok (.invokestatic 107, 3) := by decide +kernel
theorem dL_follows_634 : decode cL_follows 634 = .ok (.lload 19, 2) := by decide +kernel
theorem dL_follows_636 : decode cL_follows 636 = .ok (.lconst 1, 1) := by decide +kernel
theorem dL_follows_637 : decode cL_follows 637 = .ok (.ladd, 1) := by decide +kernel
theorem dL_follows_638 : decode cL_follows 638 = .ok (.lcmp, 1) := by decide +kernel
theorem dL_follows_639 : decode cL_follows 639 = .ok (.ifCond .ne 86, 3) := by decide +kernel
theorem dL_follows_642 : decode cL_follows 642 = .ok (.aload_n 0, 1) := by decide +kernel
theorem dL_follows_643 : decode cL_follows 643 = .ok (.iload 18, 2) := by decide +kernel
theorem dL_follows_645 : decode cL_follows 645 = .ok (.iconst 2, 1) := by decide +kernel
theorem dL_follows_646 : decode cL_follows 646 = .ok (.invokestatic 107, 3) := by decide +kernel
theorem dL_follows_649 : decode cL_follows 649 = .ok (.ldc2_w 110, 3) := by decide +kernel
theorem dL_follows_652 : decode cL_follows 652 = .ok (.lcmp, 1) := by decide +kernel
theorem dL_follows_653 : decode cL_follows 653 = .ok (.ifCond .ne 72, 3) := by decide +kernel
theorem dL_follows_656 : decode cL_follows 656 = .ok (.aload_n 0, 1) := by decide +kernel
theorem dL_follows_657 : decode cL_follows 657 = .ok (.bipush 9, 2) := by decide +kernel
theorem dL_follows_659 : decode cL_follows 659 = .ok (.invokestatic 102, 3) := by decide +kernel
theorem dL_follows_662 : decode cL_follows 662 = .ok (.lload 21, 2) := by decide +kernel
theorem dL_follows_664 : decode cL_follows 664 = .ok (.lconst 1, 1) := by decide +kernel
theorem dL_follows_665 : decode cL_follows 665 = .ok (.ladd, 1) := by decide +kernel
theorem dL_follows_666 : decode cL_follows 666 = .ok (.lcmp, 1) := by decide +kernel
theorem dL_follows_667 : decode cL_follows 667 = .ok (.ifCond .ne 58, 3) := by decide +kernel
theorem dL_follows_670 : decode cL_follows 670 = .ok (.aload_n 0, 1) := by decide +kernel
theorem dL_follows_671 : decode cL_follows 671 = .ok (.iload 4, 2) := by decide +kernel
theorem dL_follows_673 : decode cL_follows 673 = .ok (.invokestatic 191, 3) := by decide +kernel
theorem dL_follows_676 : decode cL_follows 676 = .ok (.lload 7, 2) := by decide +kernel
theorem dL_follows_678 : decode cL_follows 678 = .ok (.lcmp, 1) := by decide +kernel
theorem dL_follows_679 : decode cL_follows 679 = .ok (.ifCond .ne 46, 3) := by decide +kernel
theorem dL_follows_682 : decode cL_follows 682 = .ok (.aload_n 0, 1) := by decide +kernel
theorem dL_follows_683 : decode cL_follows 683 = .ok (.iload 4, 2) := by decide +kernel
theorem dL_follows_685 : decode cL_follows 685 = .ok (.invokestatic 194, 3) := by decide +kernel
theorem dL_follows_688 : decode cL_follows 688 = .ok (.lload 9, 2) := by decide +kernel
theorem dL_follows_690 : decode cL_follows 690 = .ok (.lcmp, 1) := by decide +kernel
theorem dL_follows_691 : decode cL_follows 691 = .ok (.ifCond .ne 34, 3) := by decide +kernel
theorem dL_follows_694 : decode cL_follows 694 = .ok (.aload_n 0, 1) := by decide +kernel
theorem dL_follows_695 : decode cL_follows 695 = .ok (.invokestatic 201, 3) := by decide +kernel
theorem dL_follows_698 : decode cL_follows 698 = .ok (.lconst 0, 1) := by decide +kernel
theorem dL_follows_699 : decode cL_follows 699 = .ok (.lcmp, 1) := by decide +kernel
theorem dL_follows_700 : decode cL_follows 700 = .ok (.ifCond .lt 25, 3) := by decide +kernel
theorem dL_follows_703 : decode cL_follows 703 = .ok (.aload_n 0, 1) := by decide +kernel
theorem dL_follows_704 : decode cL_follows 704 = .ok (.invokestatic 201, 3) := by decide +kernel
theorem dL_follows_707 : decode cL_follows 707 = .ok (.lconst 0, 1) := by decide +kernel
theorem dL_follows_708 : decode cL_follows 708 = .ok (.lcmp, 1) := by decide +kernel
theorem dL_follows_709 : decode cL_follows 709 = .ok (.ifCond .lt 16, 3) := by decide +kernel
theorem dL_follows_712 : decode cL_follows 712 = .ok (.aload_n 0, 1) := by decide +kernel
theorem dL_follows_713 : decode cL_follows 713 = .ok (.invokestatic 120, 3) := by decide +kernel
theorem dL_follows_716 : decode cL_follows 716 = .ok (.lload_n 2, 1) := by decide +kernel
theorem dL_follows_717 : decode cL_follows 717 = .ok (.lcmp, 1) := by decide +kernel
theorem dL_follows_718 : decode cL_follows 718 = .ok (.ifCond .ne 7, 3) := by decide +kernel
theorem dL_follows_721 : decode cL_follows 721 = .ok (.iconst 1, 1) := by decide +kernel
theorem dL_follows_722 : decode cL_follows 722 = .ok (.goto 4, 3) := by decide +kernel
theorem dL_follows_726 : decode cL_follows 726 = .ok (.istore 13, 2) := by decide +kernel
theorem dL_follows_728 : decode cL_follows 728 = .ok (.iload 14, 2) := by decide +kernel
theorem dL_follows_730 : decode cL_follows 730 = .ok (.ifCond .ne 67, 3) := by decide +kernel
theorem dL_follows_733 : decode cL_follows 733 = .ok (.iload 13, 2) := by decide +kernel
theorem dL_follows_735 : decode cL_follows 735 = .ok (.ifCond .eq 62, 3) := by decide +kernel
theorem dL_follows_738 : decode cL_follows 738 = .ok (.aload_n 0, 1) := by decide +kernel
theorem dL_follows_739 : decode cL_follows 739 = .ok (.invokestatic 151, 3) := by decide +kernel
theorem dL_follows_742 : decode cL_follows 742 = .ok (.lload 11, 2) := by decide +kernel
theorem dL_follows_744 : decode cL_follows 744 = .ok (.lcmp, 1) := by decide +kernel
theorem dL_follows_745 : decode cL_follows 745 = .ok (.ifCond .ne 49, 3) := by decide +kernel
theorem dL_follows_748 : decode cL_follows 748 = .ok (.aload_n 0, 1) := by decide +kernel
theorem dL_follows_749 : decode cL_follows 749 = .ok (.iload 4, 2) := by decide +kernel
theorem dL_follows_751 : decode cL_follows 751 = .ok (.invokestatic 191, 3) := by decide +kernel
theorem dL_follows_754 : decode cL_follows 754 = .ok (.lload 7, 2) := by decide +kernel
theorem dL_follows_756 : decode cL_follows 756 = .ok (.lcmp, 1) := by decide +kernel
theorem dL_follows_757 : decode cL_follows 757 = .ok (.ifCond .ne 37, 3) := by decide +kernel
theorem dL_follows_760 : decode cL_follows 760 = .ok (.aload_n 0, 1) := by decide +kernel
theorem dL_follows_761 : decode cL_follows 761 = .ok (.iload 4, 2) := by decide +kernel
theorem dL_follows_763 : decode cL_follows 763 = .ok (.invokestatic 194, 3) := by decide +kernel
theorem dL_follows_766 : decode cL_follows 766 = .ok (.lload 9, 2) := by decide +kernel
theorem dL_follows_768 : decode cL_follows 768 = .ok (.lcmp, 1) := by decide +kernel
theorem dL_follows_769 : decode cL_follows 769 = .ok (.ifCond .ne 25, 3) := by decide +kernel
theorem dL_follows_772 : decode cL_follows 772 = .ok (.aload_n 0, 1) := by decide +kernel
theorem dL_follows_773 : decode cL_follows 773 = .ok (.invokestatic 201, 3) := by decide +kernel
theorem dL_follows_776 : decode cL_follows 776 = .ok (.lconst 0, 1) := by decide +kernel
theorem dL_follows_777 : decode cL_follows 777 = .ok (.lcmp, 1) := by decide +kernel
theorem dL_follows_778 : decode cL_follows 778 = .ok (.ifCond .lt 16, 3) := by decide +kernel
theorem dL_follows_781 : decode cL_follows 781 = .ok (.aload_n 0, 1) := by decide +kernel
theorem dL_follows_782 : decode cL_follows 782 = .ok (.invokestatic 120, 3) := by decide +kernel
theorem dL_follows_785 : decode cL_follows 785 = .ok (.lload_n 2, 1) := by decide +kernel
theorem dL_follows_786 : decode cL_follows 786 = .ok (.lcmp, 1) := by decide +kernel
theorem dL_follows_787 : decode cL_follows 787 = .ok (.ifCond .ne 7, 3) := by decide +kernel
theorem dL_follows_790 : decode cL_follows 790 = .ok (.iconst 1, 1) := by decide +kernel
theorem dL_follows_791 : decode cL_follows 791 = .ok (.goto 4, 3) := by decide +kernel
theorem dL_follows_795 : decode cL_follows 795 = .ok (.istore 13, 2) := by decide +kernel
theorem dL_follows_797 : decode cL_follows 797 = .ok (.iload 13, 2) := by decide +kernel
theorem dL_follows_799 : decode cL_follows 799 = .ok (.ifCond .eq 38, 3) := by decide +kernel
theorem dL_follows_802 : decode cL_follows 802 = .ok (.aload_n 0, 1) := by decide +kernel
theorem dL_follows_803 : decode cL_follows 803 = .ok (.iconst 1, 1) := by decide +kernel
theorem dL_follows_804 : decode cL_follows 804 = .ok (.invokestatic 168, 3) := by decide +kernel
theorem dL_follows_807 : decode cL_follows 807 = .ok (.lload 11, 2) := by decide +kernel
theorem dL_follows_809 : decode cL_follows 809 = .ok (.lcmp, 1) := by decide +kernel
theorem dL_follows_810 : decode cL_follows 810 = .ok (.ifCond .ne 27, 3) := by decide +kernel
theorem dL_follows_813 : decode cL_follows 813 = .ok (.aload_n 0, 1) := by decide +kernel
theorem dL_follows_814 : decode cL_follows 814 = .ok (.invokestatic 120, 3) := by decide +kernel
theorem dL_follows_817 : decode cL_follows 817 = .ok (.lload_n 2, 1) := by decide +kernel
theorem dL_follows_818 : decode cL_follows 818 = .ok (.lcmp, 1) := by decide +kernel
theorem dL_follows_819 : decode cL_follows 819 = .ok (.ifCond .ne 18, 3) := by decide +kernel
theorem dL_follows_822 : decode cL_follows 822 = .ok (.aload_n 0, 1) := by decide +kernel
theorem dL_follows_823 : decode cL_follows 823 = .ok (.invokestatic 201, 3) := by decide +kernel
theorem dL_follows_826 : decode cL_follows 826 = .ok (.ldc2_w 21, 3) := by decide +kernel
theorem dL_follows_829 : decode cL_follows 829 = .ok (.lcmp, 1) := by decide +kernel
theorem dL_follows_830 : decode cL_follows 830 = .ok (.ifCond .ne 7, 3) := by decide +kernel
theorem dL_follows_833 : decode cL_follows 833 = .ok (.iconst 1, 1) := by decide +kernel
theorem dL_follows_834 : decode cL_follows 834 = .ok (.goto 4, 3) := by decide +kernel
theorem dL_follows_838 : decode cL_follows 838 = .ok (.ireturn, 1) := by decide +kernel
set_option maxHeartbeats 8000000 in
set_option maxRecDepth 100000 in
theorem c_follows (l : Launch) (hst : l.stackTraces = false) (D : va_G) (cI cL cZ : ClassId) (Gs : Nat → Geo) (hG : GeoOk (Gs 0)) (a : AS) (hn9 : a.1.2 ≤ 90) (hX : InvX a.2.1) (x : Nat) (hx9 : x < 2 ^ 31) : LZ l yL_follows cL_follows 26 9 220 1800 10800 D cI cL cZ Gs [a] [.ref ((Gs 0).1 1), .int (nI (x))] 1 [fS a a.2.1 []] := by
  have hGo : Go a := ⟨hn9, hX.1⟩
  have hB := inv_B hX.1
  have hI0 : Inv (zC a.2.1 0) := inv_zC (c := 0) hX.1 (by decide)
  refine lz_of (by decide) rfl (Nat.le_of_ble_eq_true rfl) ?_
  intro p e s m below meth c ls H A hF hr hlocks hw hl
  have hx := hF.1.1
  have hb := hF.1.2.1
  have hown := hF.1.2.2.2.1
  have hts := hF.1.2.2.2.2
  have hl : lv_has ls 26 [(0, .ref ((Gs 0).1 1)), (1, .int (nI (x)))] := hl
  refine W.widen (k := 0) (n := 6 * 0) (Nat.le_refl _) (Nat.le_refl _) ?_
  have JP797 : ∀ (h9 : List LgS) (H : Heap) (locs : List Loc) (ls : Array Slot), (hh9 : h9.length ≤ 14) → LO D cI cL cZ A s Gs [fS a a.2.1 h9] H locs → lv_has ls 26 [(2, .long (nwZ a.2.1)), (4, .int (nI (x % 16))), (5, .int (nI (x / 16 % 1000))), (6, .int (nI (1 + x / 7 % 12))), (7, .long ((vaZ a.2.1 (nI (x % 16))).toInt64)), (9, .long (otZ a.2.1 (x % 16) 16)), (11, .long ((nI (ckZ a.2.1 16)).toInt64)), (13, .int (1)), (0, .ref ((Gs 0).1 1)), (1, .int (nI (x))), (14, .int (bI (a.2.1.1.1 = true))), (15, .int (bI (wnV a.2.1 = 0)))] → W p l e ({ frames := 9, cells := 1800, slots := 10800, locals := 220 } : Room) s m [.ref ((Gs 0).1 1), .int (nI (x))].toArray below meth c H locs (1595) (6 * (1595)) (MQ below (lqI D cI cL cZ Gs 1 [fS a a.2.1 []] A) [.ref ((Gs 0).1 1), .int (nI (x))].toArray s 1800 10800 A) (F0 m 797 ls []) := by
    intro h9 H locs ls hh9 hw hl
    refine lv_iload hx hb dL_follows_797 (lv_at hl 7 rfl) ?_
    refine lv_if_eq (tgt := 837) hx hb dL_follows_799 (by decide) (fun c799 => ?_) (fun c799 => ?_)
    · skip
      exact absurd c799 (by decide)
    · skip
      refine lv_aload_n hx hb dL_follows_802 rfl (lv_at hl 8 rfl) ?_
      refine lv_iconst (v := 1) hx hb dL_follows_803 (by decide) ?_
      refine lo_callX hF (lx_eq (x_restore (Gs := fun _ => Gs 0) hst hG (fS_go hn9 hX.1) 1) (show _ = ((nI (ckZ a.2.1 16)).toInt64) from (rs_ok (a := a) (h := h9)).1) (show _ = [fS a a.2.1 ([])] from congrArg (fun y => [y]) (rs_ok (a := a) (h := h9)).2)) k_restore ⟨Nat.le_of_ble_eq_true rfl, Nat.le_of_ble_eq_true rfl⟩ hw [0] (by decide) rfl (hg_one rfl) rfl hl.1 rfl (Nat.le_of_ble_eq_true rfl) dL_follows_804 ⟨by show _ ≤ (1800 : Nat); omega, by show _ ≤ (10800 : Nat); omega⟩ (fun H locs hw => ?_)
      have hw : LO D cI cL cZ A s Gs [fS a a.2.1 ([])] H locs := hw
      refine W.widen (k := 1595 + 1) (n := 6 * (1595 + 1)) (Nat.le_refl _) (by omega) ?_
      refine lv_lload hx hb dL_follows_807 (lv_at hl 6 rfl) ?_
      refine W.lcmp hx hb dL_follows_809 ?_
      refine lv_if_ne (tgt := 837) hx hb dL_follows_810 (by decide) (fun c810 => ?_) (fun c810 => ?_)
      · skip
        exact (c810 ((lg_cmp_eq _ _).mpr rfl)).elim
      · skip
        have c810 := (lg_cmp_eq _ _).mp c810
        refine lv_aload_n hx hb dL_follows_813 rfl (lv_at hl 8 rfl) ?_
        refine lo_callJ hF (lj_eq (c_now l hst D cI cL cZ (fun _ => Gs 0) hG (fS a a.2.1 ([])) (fS_go hn9 hX.1) ) (show _ = (nwZ a.2.1) from rfl) rfl) k_now ⟨Nat.le_of_ble_eq_true rfl, Nat.le_of_ble_eq_true rfl⟩ hw [0] (by decide) rfl (hg_one rfl) rfl hl.1 rfl (Nat.le_of_ble_eq_true rfl) dL_follows_814 ⟨by show _ ≤ (1800 : Nat); omega, by show _ ≤ (10800 : Nat); omega⟩ (fun H locs hw => ?_)
        have hw : LO D cI cL cZ A s Gs [fS a a.2.1 ([])] H locs := hw
        refine W.widen (k := 1595 + 1 + 200) (n := 6 * (1595 + 1 + 200)) (Nat.le_refl _) (by omega) ?_
        refine lv_lload_n hx hb dL_follows_817 rfl (lv_at hl 0 rfl) ?_
        refine W.lcmp hx hb dL_follows_818 ?_
        refine lv_if_ne (tgt := 837) hx hb dL_follows_819 (by decide) (fun c819 => ?_) (fun c819 => ?_)
        · skip
          exact (c819 ((lg_cmp_eq _ _).mpr rfl)).elim
        · skip
          have c819 := (lg_cmp_eq _ _).mp c819
          refine lv_aload_n hx hb dL_follows_822 rfl (lv_at hl 8 rfl) ?_
          refine lo_callX hF (lx_eq (x_undo (Gs := fun _ => Gs 0) hst hG (fS_go hn9 hX.1) ) (show _ = (-9000000000000000003) from un_nil.1) (show _ = [fS a a.2.1 ([])] from rfl)) k_undo ⟨Nat.le_of_ble_eq_true rfl, Nat.le_of_ble_eq_true rfl⟩ hw [0] (by decide) rfl (hg_one rfl) rfl hl.1 rfl (Nat.le_of_ble_eq_true rfl) dL_follows_823 ⟨by show _ ≤ (1800 : Nat); omega, by show _ ≤ (10800 : Nat); omega⟩ (fun H locs hw => ?_)
          have hw : LO D cI cL cZ A s Gs [fS a a.2.1 ([])] H locs := hw
          refine W.widen (k := 1595 + 1 + 200 + 1) (n := 6 * (1595 + 1 + 200 + 1)) (Nat.le_refl _) (by omega) ?_
          refine lv_ldc2 (v := (-9000000000000000003)) hx hb hown (hts _ (mlA 5 rfl)) dL_follows_826 ?_
          refine W.lcmp hx hb dL_follows_829 ?_
          refine lv_if_ne (tgt := 837) hx hb dL_follows_830 (by decide) (fun c830 => ?_) (fun c830 => ?_)
          · skip
            exact (c830 ((lg_cmp_eq _ _).mpr rfl)).elim
          · skip
            have c830 := (lg_cmp_eq _ _).mp c830
            refine lv_iconst (v := 1) hx hb dL_follows_833 (by decide) ?_
            refine lv_goto (tgt := 838) hx hb dL_follows_834 (by decide) ?_
            exact lo_retz hF hr hlocks hw (rfl) (rfl) (by omega) (by omega) dL_follows_838
  have JP728 : ∀ (h9 : List LgS) (H : Heap) (locs : List Loc) (ls : Array Slot), (hh9 : h9.length ≤ 14) → LO D cI cL cZ A s Gs [fS a a.2.1 h9] H locs → lv_has ls 26 [(2, .long (nwZ a.2.1)), (4, .int (nI (x % 16))), (5, .int (nI (x / 16 % 1000))), (6, .int (nI (1 + x / 7 % 12))), (7, .long ((vaZ a.2.1 (nI (x % 16))).toInt64)), (9, .long (otZ a.2.1 (x % 16) 16)), (11, .long ((nI (ckZ a.2.1 16)).toInt64)), (13, .int (1)), (0, .ref ((Gs 0).1 1)), (1, .int (nI (x))), (14, .int (bI (a.2.1.1.1 = true))), (15, .int (bI (wnV a.2.1 = 0)))] → W p l e ({ frames := 9, cells := 1800, slots := 10800, locals := 220 } : Room) s m [.ref ((Gs 0).1 1), .int (nI (x))].toArray below meth c H locs (1340) (6 * (1340)) (MQ below (lqI D cI cL cZ Gs 1 [fS a a.2.1 []] A) [.ref ((Gs 0).1 1), .int (nI (x))].toArray s 1800 10800 A) (F0 m 728 ls []) := by
    intro h9 H locs ls hh9 hw hl
    refine lv_iload hx hb dL_follows_728 (lv_at hl 10 rfl) ?_
    refine lv_if_ne (tgt := 797) hx hb dL_follows_730 (by decide) (fun c730 => ?_) (fun c730 => ?_)
    · skip
      have c730 := bI_t c730
      exact W.widen (by omega) (by omega) (JP797 h9 _ _ _ (by first | omega | (simp; omega)) hw (lv_sub hl [0, 1, 2, 3, 4, 5, 6, 7, 8, 9, 10, 11] rfl))
    · skip
      have c730 := bI_f c730
      refine lv_iload hx hb dL_follows_733 (lv_at hl 7 rfl) ?_
      refine lv_if_eq (tgt := 797) hx hb dL_follows_735 (by decide) (fun c735 => ?_) (fun c735 => ?_)
      · skip
        exact absurd c735 (by decide)
      · skip
        refine lv_aload_n hx hb dL_follows_738 rfl (lv_at hl 8 rfl) ?_
        refine lo_callX hF (lx_eq (x_start (Gs := fun _ => Gs 0) hst hG (fS_go hn9 hX.1) ) (show _ = ((nI (ckZ a.2.1 16)).toInt64) from ((st_okk (a := a) (z := a.2.1) (h := h9) c730).imp_left (fun y => y.trans (by rw [ck_zSw]))).1) (show _ = [fS a (zSw a.2.1) (a.2.1 :: h9.take 13)] from congrArg (fun y => [y]) ((st_okk (a := a) (z := a.2.1) (h := h9) c730).imp_left (fun y => y.trans (by rw [ck_zSw]))).2)) k_start ⟨Nat.le_of_ble_eq_true rfl, Nat.le_of_ble_eq_true rfl⟩ hw [0] (by decide) rfl (hg_one rfl) rfl hl.1 rfl (Nat.le_of_ble_eq_true rfl) dL_follows_739 ⟨by show _ ≤ (1800 : Nat); omega, by show _ ≤ (10800 : Nat); omega⟩ (fun H locs hw => ?_)
        have hw : LO D cI cL cZ A s Gs [fS a (zSw a.2.1) (a.2.1 :: h9.take 13)] H locs := hw
        refine W.widen (k := 1340 + 1) (n := 6 * (1340 + 1)) (Nat.le_refl _) (by omega) ?_
        refine lv_lload hx hb dL_follows_742 (lv_at hl 6 rfl) ?_
        refine W.lcmp hx hb dL_follows_744 ?_
        refine lv_if_ne (tgt := 794) hx hb dL_follows_745 (by decide) (fun c745 => ?_) (fun c745 => ?_)
        · skip
          exact (c745 ((lg_cmp_eq _ _).mpr rfl)).elim
        · skip
          have c745 := (lg_cmp_eq _ _).mp c745
          refine lv_aload_n hx hb dL_follows_748 rfl (lv_at hl 8 rfl) ?_
          refine lv_iload hx hb dL_follows_749 (lv_at hl 1 rfl) ?_
          refine lo_callJ hF (lj_eq (c_valueOf l hst D cI cL cZ (fun _ => Gs 0) hG (fS a (zSw a.2.1) (a.2.1 :: h9.take 13)) (fS_go hn9 (inv_zSw hX.1)) (x % 16) (by omega)) (show _ = ((vaZ a.2.1 (nI (x % 16))).toInt64) from congrArg Int32.toInt64 va_zSw) rfl) k_valueOf ⟨Nat.le_of_ble_eq_true rfl, Nat.le_of_ble_eq_true rfl⟩ hw [0] (by decide) rfl (hg_one rfl) rfl hl.1 rfl (Nat.le_of_ble_eq_true rfl) dL_follows_751 ⟨by show _ ≤ (1800 : Nat); omega, by show _ ≤ (10800 : Nat); omega⟩ (fun H locs hw => ?_)
          have hw : LO D cI cL cZ A s Gs [fS a (zSw a.2.1) (a.2.1 :: h9.take 13)] H locs := hw
          refine W.widen (k := 1340 + 1 + 2) (n := 6 * (1340 + 1 + 2)) (Nat.le_refl _) (by omega) ?_
          refine lv_lload hx hb dL_follows_754 (lv_at hl 4 rfl) ?_
          refine W.lcmp hx hb dL_follows_756 ?_
          refine lv_if_ne (tgt := 794) hx hb dL_follows_757 (by decide) (fun c757 => ?_) (fun c757 => ?_)
          · skip
            exact (c757 ((lg_cmp_eq _ _).mpr rfl)).elim
          · skip
            have c757 := (lg_cmp_eq _ _).mp c757
            refine lv_aload_n hx hb dL_follows_760 rfl (lv_at hl 8 rfl) ?_
            refine lv_iload hx hb dL_follows_761 (lv_at hl 1 rfl) ?_
            refine lo_callJ hF (lj_eq (c_others l hst D cI cL cZ (fun _ => Gs 0) hG (fS a (zSw a.2.1) (a.2.1 :: h9.take 13)) (fS_go hn9 (inv_zSw hX.1)) (x % 16) (by omega)) (show _ = (otZ a.2.1 (x % 16) 16) from ot_eq (fun j h1 _ => va_zSw) 16 (Nat.le_refl _)) rfl) k_others ⟨Nat.le_of_ble_eq_true rfl, Nat.le_of_ble_eq_true rfl⟩ hw [0] (by decide) rfl (hg_one rfl) rfl hl.1 rfl (Nat.le_of_ble_eq_true rfl) dL_follows_763 ⟨by show _ ≤ (1800 : Nat); omega, by show _ ≤ (10800 : Nat); omega⟩ (fun H locs hw => ?_)
            have hw : LO D cI cL cZ A s Gs [fS a (zSw a.2.1) (a.2.1 :: h9.take 13)] H locs := hw
            refine W.widen (k := 1340 + 1 + 2 + 50) (n := 6 * (1340 + 1 + 2 + 50)) (Nat.le_refl _) (by omega) ?_
            refine lv_lload hx hb dL_follows_766 (lv_at hl 5 rfl) ?_
            refine W.lcmp hx hb dL_follows_768 ?_
            refine lv_if_ne (tgt := 794) hx hb dL_follows_769 (by decide) (fun c769 => ?_) (fun c769 => ?_)
            · skip
              exact (c769 ((lg_cmp_eq _ _).mpr rfl)).elim
            · skip
              have c769 := (lg_cmp_eq _ _).mp c769
              refine lv_aload_n hx hb dL_follows_772 rfl (lv_at hl 8 rfl) ?_
              refine lo_callX hF (lx_eq (x_undo (Gs := fun _ => Gs 0) hst hG (fS_go hn9 (inv_zSw hX.1)) ) (show _ = ((nI (h9.take 13).length).toInt64) from un_ok.1) (show _ = [fS a a.2.1 (h9.take 13)] from rfl)) k_undo ⟨Nat.le_of_ble_eq_true rfl, Nat.le_of_ble_eq_true rfl⟩ hw [0] (by decide) rfl (hg_one rfl) rfl hl.1 rfl (Nat.le_of_ble_eq_true rfl) dL_follows_773 ⟨by show _ ≤ (1800 : Nat); omega, by show _ ≤ (10800 : Nat); omega⟩ (fun H locs hw => ?_)
              have hw : LO D cI cL cZ A s Gs [fS a a.2.1 (h9.take 13)] H locs := hw
              refine W.widen (k := 1340 + 1 + 2 + 50 + 1) (n := 6 * (1340 + 1 + 2 + 50 + 1)) (Nat.le_refl _) (by omega) ?_
              refine lv_lconst (v := 0) hx hb dL_follows_776 (by decide) ?_
              refine W.lcmp hx hb dL_follows_777 ?_
              refine lv_if_lt (tgt := 794) hx hb dL_follows_778 (by decide) (fun c778 => ?_) (fun c778 => ?_)
              · skip
                have c778 := (lg_cmp_lt _ _).mp c778
                exact absurd c778 (un_ge (by first | omega | (simp; omega)))
              · skip
                have c778 := (fun z => c778 ((lg_cmp_lt _ _).mpr z))
                refine lv_aload_n hx hb dL_follows_781 rfl (lv_at hl 8 rfl) ?_
                refine lo_callJ hF (lj_eq (c_now l hst D cI cL cZ (fun _ => Gs 0) hG (fS a a.2.1 (h9.take 13)) (fS_go hn9 hX.1) ) (show _ = (nwZ a.2.1) from rfl) rfl) k_now ⟨Nat.le_of_ble_eq_true rfl, Nat.le_of_ble_eq_true rfl⟩ hw [0] (by decide) rfl (hg_one rfl) rfl hl.1 rfl (Nat.le_of_ble_eq_true rfl) dL_follows_782 ⟨by show _ ≤ (1800 : Nat); omega, by show _ ≤ (10800 : Nat); omega⟩ (fun H locs hw => ?_)
                have hw : LO D cI cL cZ A s Gs [fS a a.2.1 (h9.take 13)] H locs := hw
                refine W.widen (k := 1340 + 1 + 2 + 50 + 1 + 200) (n := 6 * (1340 + 1 + 2 + 50 + 1 + 200)) (Nat.le_refl _) (by omega) ?_
                refine lv_lload_n hx hb dL_follows_785 rfl (lv_at hl 0 rfl) ?_
                refine W.lcmp hx hb dL_follows_786 ?_
                refine lv_if_ne (tgt := 794) hx hb dL_follows_787 (by decide) (fun c787 => ?_) (fun c787 => ?_)
                · skip
                  exact (c787 ((lg_cmp_eq _ _).mpr rfl)).elim
                · skip
                  have c787 := (lg_cmp_eq _ _).mp c787
                  refine lv_iconst (v := 1) hx hb dL_follows_790 (by decide) ?_
                  refine lv_goto (tgt := 795) hx hb dL_follows_791 (by decide) ?_
                  refine lv_istore (lv' := [(13, .int (1)), (2, .long (nwZ a.2.1)), (4, .int (nI (x % 16))), (5, .int (nI (x / 16 % 1000))), (6, .int (nI (1 + x / 7 % 12))), (7, .long ((vaZ a.2.1 (nI (x % 16))).toInt64)), (9, .long (otZ a.2.1 (x % 16) 16)), (11, .long ((nI (ckZ a.2.1 16)).toInt64)), (0, .ref ((Gs 0).1 1)), (1, .int (nI (x))), (14, .int (bI (a.2.1.1.1 = true))), (15, .int (bI (wnV a.2.1 = 0)))]) hx hb dL_follows_795 hl (by decide) rfl (fun ls hl => ?_)
                  exact W.widen (by omega) (by omega) (JP797 (h9.take 13) _ _ _ (by first | omega | (simp; omega)) hw (lv_sub hl [1, 2, 3, 4, 5, 6, 7, 0, 8, 9, 10, 11] rfl))
  have JP571 : ∀ (h9 : List LgS) (H : Heap) (locs : List Loc) (ls : Array Slot), (hh9 : h9.length ≤ 14) → LO D cI cL cZ A s Gs [fS a a.2.1 h9] H locs → lv_has ls 26 [(2, .long (nwZ a.2.1)), (4, .int (nI (x % 16))), (5, .int (nI (x / 16 % 1000))), (6, .int (nI (1 + x / 7 % 12))), (7, .long ((vaZ a.2.1 (nI (x % 16))).toInt64)), (9, .long (otZ a.2.1 (x % 16) 16)), (11, .long ((nI (ckZ a.2.1 16)).toInt64)), (13, .int (1)), (0, .ref ((Gs 0).1 1)), (1, .int (nI (x))), (14, .int (bI (a.2.1.1.1 = true))), (15, .int (bI (wnV a.2.1 = 0)))] → W p l e ({ frames := 9, cells := 1800, slots := 10800, locals := 220 } : Room) s m [.ref ((Gs 0).1 1), .int (nI (x))].toArray below meth c H locs (1070) (6 * (1070)) (MQ below (lqI D cI cL cZ Gs 1 [fS a a.2.1 []] A) [.ref ((Gs 0).1 1), .int (nI (x))].toArray s 1800 10800 A) (F0 m 571 ls []) := by
    intro h9 H locs ls hh9 hw hl
    refine lv_aload_n hx hb dL_follows_571 rfl (lv_at hl 8 rfl) ?_
    refine lo_callV (i := 0) hF (lv_eq (x_victim (Gs := fun _ => Gs 0) (fS_go hn9 hX.1)) (show _ = oI (cvZ a.2.1) from rfl) (show _ = [fS a a.2.1 h9] from rfl)) k_victim ⟨Nat.le_of_ble_eq_true rfl, Nat.le_of_ble_eq_true rfl⟩ hw rfl rfl rfl hl.1 rfl (Nat.le_of_ble_eq_true rfl) dL_follows_572 ⟨by show _ ≤ (1800 : Nat); omega, by show _ ≤ (10800 : Nat); omega⟩ (fun H locs hw => ?_)
    have hw : LO D cI cL cZ A s Gs [fS a a.2.1 h9] H locs := hw
    refine lv_istore (lv' := [(18, .int (oI (cvZ a.2.1))), (2, .long (nwZ a.2.1)), (4, .int (nI (x % 16))), (5, .int (nI (x / 16 % 1000))), (6, .int (nI (1 + x / 7 % 12))), (7, .long ((vaZ a.2.1 (nI (x % 16))).toInt64)), (9, .long (otZ a.2.1 (x % 16) 16)), (11, .long ((nI (ckZ a.2.1 16)).toInt64)), (13, .int (1)), (0, .ref ((Gs 0).1 1)), (1, .int (nI (x))), (14, .int (bI (a.2.1.1.1 = true))), (15, .int (bI (wnV a.2.1 = 0)))]) hx hb dL_follows_575 hl (by decide) rfl (fun ls hl => ?_)
    refine lv_iload hx hb dL_follows_577 (lv_at hl 0 rfl) ?_
    refine lv_bipush (v := (-9)) hx hb dL_follows_579 (by decide) ?_
    refine lv_icmp_eq (tgt := 728) hx hb dL_follows_581 (by decide) (fun c581 => ?_) (fun c581 => ?_)
    · skip
      exact W.widen (by omega) (by omega) (JP728 h9 _ _ _ (by first | omega | (simp; omega)) hw (lv_sub hl [1, 2, 3, 4, 5, 6, 7, 8, 9, 10, 11, 12] rfl))
    · skip
      obtain ⟨vb, hvb, hvb8⟩ := cv_some hB c581
      have hl : lv_has ls 26 [(18, .int (nI (vb))), (2, .long (nwZ a.2.1)), (4, .int (nI (x % 16))), (5, .int (nI (x / 16 % 1000))), (6, .int (nI (1 + x / 7 % 12))), (7, .long ((vaZ a.2.1 (nI (x % 16))).toInt64)), (9, .long (otZ a.2.1 (x % 16) 16)), (11, .long ((nI (ckZ a.2.1 16)).toInt64)), (13, .int (1)), (0, .ref ((Gs 0).1 1)), (1, .int (nI (x))), (14, .int (bI (a.2.1.1.1 = true))), (15, .int (bI (wnV a.2.1 = 0)))] := by rw [hvb] at hl; exact hl
      obtain ⟨s1, s2, s3, s4, s5, s6⟩ := sweep_through hX hvb
      have hIs : Inv (sbT vb (zC a.2.1 0)).2 := (inv_sb (z := zC a.2.1 0) hI0 hvb).2
      have hon9 : a.2.1.1.1 = true := cv_on hvb
      refine lv_iload hx hb dL_follows_584 (lv_at hl 8 rfl) ?_
      refine lv_if_eq (tgt := 728) hx hb dL_follows_586 (by decide) (fun c586 => ?_) (fun c586 => ?_)
      · skip
        exact absurd c586 (by decide)
      · skip
        refine lv_aload_n hx hb dL_follows_589 rfl (lv_at hl 9 rfl) ?_
        refine lv_iload hx hb dL_follows_590 (lv_at hl 0 rfl) ?_
        refine lv_iconst (v := 0) hx hb dL_follows_592 (by decide) ?_
        refine lo_callX hF (lx_eq (x_block (Gs := fun _ => Gs 0) hst hG (fS_go hn9 hX.1) (nI (vb)) 0) (show _ = ((a.2.1.2.2 4 vb).toInt64) from bl_0 hB hvb8) (show _ = [fS a a.2.1 h9] from rfl)) k_block ⟨Nat.le_of_ble_eq_true rfl, Nat.le_of_ble_eq_true rfl⟩ hw [0] (by decide) rfl (hg_one rfl) rfl hl.1 rfl (Nat.le_of_ble_eq_true rfl) dL_follows_593 ⟨by show _ ≤ (1800 : Nat); omega, by show _ ≤ (10800 : Nat); omega⟩ (fun H locs hw => ?_)
        have hw : LO D cI cL cZ A s Gs [fS a a.2.1 h9] H locs := hw
        refine W.widen (k := 1070 + 1) (n := 6 * (1070 + 1)) (Nat.le_refl _) (by omega) ?_
        refine lv_lstore (lv' := [(19, .long ((a.2.1.2.2 4 vb).toInt64)), (18, .int (nI (vb))), (2, .long (nwZ a.2.1)), (4, .int (nI (x % 16))), (5, .int (nI (x / 16 % 1000))), (6, .int (nI (1 + x / 7 % 12))), (7, .long ((vaZ a.2.1 (nI (x % 16))).toInt64)), (9, .long (otZ a.2.1 (x % 16) 16)), (11, .long ((nI (ckZ a.2.1 16)).toInt64)), (13, .int (1)), (0, .ref ((Gs 0).1 1)), (1, .int (nI (x))), (14, .int (bI (a.2.1.1.1 = true))), (15, .int (bI (wnV a.2.1 = 0)))]) hx hb dL_follows_596 hl (by decide) rfl (fun ls hl => ?_)
        refine lv_aload_n hx hb dL_follows_598 rfl (lv_at hl 10 rfl) ?_
        refine lv_bipush (v := 9) hx hb dL_follows_599 (by decide) ?_
        refine lo_callX hF (lx_eq (x_about (Gs := fun _ => Gs 0) hst hG (fS_go hn9 hX.1) 9) (show _ = ((a.2.1.2.1 8).toInt64) from ab_9) (show _ = [fS a a.2.1 h9] from rfl)) k_about ⟨Nat.le_of_ble_eq_true rfl, Nat.le_of_ble_eq_true rfl⟩ hw [0] (by decide) rfl (hg_one rfl) rfl hl.1 rfl (Nat.le_of_ble_eq_true rfl) dL_follows_601 ⟨by show _ ≤ (1800 : Nat); omega, by show _ ≤ (10800 : Nat); omega⟩ (fun H locs hw => ?_)
        have hw : LO D cI cL cZ A s Gs [fS a a.2.1 h9] H locs := hw
        refine W.widen (k := 1070 + 1 + 1) (n := 6 * (1070 + 1 + 1)) (Nat.le_refl _) (by omega) ?_
        refine lv_lstore (lv' := [(21, .long ((a.2.1.2.1 8).toInt64)), (19, .long ((a.2.1.2.2 4 vb).toInt64)), (18, .int (nI (vb))), (2, .long (nwZ a.2.1)), (4, .int (nI (x % 16))), (5, .int (nI (x / 16 % 1000))), (6, .int (nI (1 + x / 7 % 12))), (7, .long ((vaZ a.2.1 (nI (x % 16))).toInt64)), (9, .long (otZ a.2.1 (x % 16) 16)), (11, .long ((nI (ckZ a.2.1 16)).toInt64)), (13, .int (1)), (0, .ref ((Gs 0).1 1)), (1, .int (nI (x))), (14, .int (bI (a.2.1.1.1 = true))), (15, .int (bI (wnV a.2.1 = 0)))]) hx hb dL_follows_604 hl (by decide) rfl (fun ls hl => ?_)
        refine lv_aload_n hx hb dL_follows_606 rfl (lv_at hl 11 rfl) ?_
        refine lv_iconst (v := 0) hx hb dL_follows_607 (by decide) ?_
        refine lo_callX hF (lx_eq (x_cut (Gs := fun _ => Gs 0) hst hG (fS_go hn9 hX.1) 0) (show _ = ((a.2.1.2.1 1).toInt64) from (cu_ok (a := a) (h := h9) hon9 (n := 0) (by omega)).1) (show _ = [fS a (zC a.2.1 0) (a.2.1 :: h9.take 13)] from congrArg (fun y => [y]) (cu_ok (a := a) (h := h9) hon9 (n := 0) (by omega)).2)) k_cut ⟨Nat.le_of_ble_eq_true rfl, Nat.le_of_ble_eq_true rfl⟩ hw [0] (by decide) rfl (hg_one rfl) rfl hl.1 rfl (Nat.le_of_ble_eq_true rfl) dL_follows_608 ⟨by show _ ≤ (1800 : Nat); omega, by show _ ≤ (10800 : Nat); omega⟩ (fun H locs hw => ?_)
        have hw : LO D cI cL cZ A s Gs [fS a (zC a.2.1 0) (a.2.1 :: h9.take 13)] H locs := hw
        refine W.widen (k := 1070 + 1 + 1 + 1) (n := 6 * (1070 + 1 + 1 + 1)) (Nat.le_refl _) (by omega) ?_
        refine lv_lconst (v := 0) hx hb dL_follows_611 (by decide) ?_
        refine W.lcmp hx hb dL_follows_612 ?_
        refine lv_if_lt (tgt := 725) hx hb dL_follows_613 (by decide) (fun c613 => ?_) (fun c613 => ?_)
        · skip
          have c613 := (lg_cmp_lt _ _).mp c613
          exact absurd c613 (cu_ge hX.1)
        · skip
          have c613 := (fun z => c613 ((lg_cmp_lt _ _).mpr z))
          refine lv_aload_n hx hb dL_follows_616 rfl (lv_at hl 11 rfl) ?_
          refine lo_callX hF (lx_eq (x_sweep (Gs := fun _ => Gs 0) hst hG (fS_go hn9 hI0) ) (show _ = ((nI (vb) : Int32).toInt64) from (sw_ok (a := a) (h := a.2.1 :: h9.take 13) hX hvb).1) (show _ = [fS a ((sbT vb (zC a.2.1 0)).2) ((zC a.2.1 0) :: (a.2.1 :: h9.take 13).take 13)] from congrArg (fun y => [y]) (sw_ok (a := a) (h := a.2.1 :: h9.take 13) hX hvb).2)) k_sweep ⟨Nat.le_of_ble_eq_true rfl, Nat.le_of_ble_eq_true rfl⟩ hw [0] (by decide) rfl (hg_one rfl) rfl hl.1 rfl (Nat.le_of_ble_eq_true rfl) dL_follows_617 ⟨by show _ ≤ (1800 : Nat); omega, by show _ ≤ (10800 : Nat); omega⟩ (fun H locs hw => ?_)
          have hw : LO D cI cL cZ A s Gs [fS a ((sbT vb (zC a.2.1 0)).2) ((zC a.2.1 0) :: (a.2.1 :: h9.take 13).take 13)] H locs := hw
          refine W.widen (k := 1070 + 1 + 1 + 1 + 1) (n := 6 * (1070 + 1 + 1 + 1 + 1)) (Nat.le_refl _) (by omega) ?_
          refine lv_iload hx hb dL_follows_620 (lv_at hl 2 rfl) ?_
          refine lv_i2l (v := (nI (vb) : Int32).toInt64) hx hb dL_follows_622 rfl ?_
          refine W.lcmp hx hb dL_follows_623 ?_
          refine lv_if_ne (tgt := 725) hx hb dL_follows_624 (by decide) (fun c624 => ?_) (fun c624 => ?_)
          · skip
            exact (c624 ((lg_cmp_eq _ _).mpr rfl)).elim
          · skip
            have c624 := (lg_cmp_eq _ _).mp c624
            refine lv_aload_n hx hb dL_follows_627 rfl (lv_at hl 11 rfl) ?_
            refine lv_iload hx hb dL_follows_628 (lv_at hl 2 rfl) ?_
            refine lv_iconst (v := 0) hx hb dL_follows_630 (by decide) ?_
            refine lo_callX hF (lx_eq (x_block (Gs := fun _ => Gs 0) hst hG (fS_go hn9 hIs) (nI (vb)) 0) (show _ = ((a.2.1.2.2 4 vb).toInt64 + 1) from (bl_0 (by rw [show (fS a _ _).2.1.1.2 = a.2.1.1.2 from s2]; exact hB) (by rw [show (fS a _ _).2.1.1.2 = a.2.1.1.2 from s2]; exact hvb8)).trans ((congrArg Int32.toInt64 s3).trans (we_s hX.1 (by omega)))) (show _ = [fS a ((sbT vb (zC a.2.1 0)).2) ((zC a.2.1 0) :: (a.2.1 :: h9.take 13).take 13)] from rfl)) k_block ⟨Nat.le_of_ble_eq_true rfl, Nat.le_of_ble_eq_true rfl⟩ hw [0] (by decide) rfl (hg_one rfl) rfl hl.1 rfl (Nat.le_of_ble_eq_true rfl) dL_follows_631 ⟨by show _ ≤ (1800 : Nat); omega, by show _ ≤ (10800 : Nat); omega⟩ (fun H locs hw => ?_)
            have hw : LO D cI cL cZ A s Gs [fS a ((sbT vb (zC a.2.1 0)).2) ((zC a.2.1 0) :: (a.2.1 :: h9.take 13).take 13)] H locs := hw
            refine W.widen (k := 1070 + 1 + 1 + 1 + 1 + 1) (n := 6 * (1070 + 1 + 1 + 1 + 1 + 1)) (Nat.le_refl _) (by omega) ?_
            refine lv_lload hx hb dL_follows_634 (lv_at hl 1 rfl) ?_
            refine lv_lconst (v := 1) hx hb dL_follows_636 (by decide) ?_
            refine lv_ladd hx hb dL_follows_637 ?_
            refine W.lcmp hx hb dL_follows_638 ?_
            refine lv_if_ne (tgt := 725) hx hb dL_follows_639 (by decide) (fun c639 => ?_) (fun c639 => ?_)
            · skip
              exact (c639 ((lg_cmp_eq _ _).mpr rfl)).elim
            · skip
              have c639 := (lg_cmp_eq _ _).mp c639
              refine lv_aload_n hx hb dL_follows_642 rfl (lv_at hl 11 rfl) ?_
              refine lv_iload hx hb dL_follows_643 (lv_at hl 2 rfl) ?_
              refine lv_iconst (v := 2) hx hb dL_follows_645 (by decide) ?_
              refine lo_callX hF (lx_eq (x_block (Gs := fun _ => Gs 0) hst hG (fS_go hn9 hIs) (nI (vb)) 2) (show _ = 4 from (bl_2 (by rw [show (fS a _ _).2.1.1.2 = a.2.1.1.2 from s2]; exact hB) (by rw [show (fS a _ _).2.1.1.2 = a.2.1.1.2 from s2]; exact hvb8)).trans ((congrArg Int32.toInt64 s4).trans (by decide))) (show _ = [fS a ((sbT vb (zC a.2.1 0)).2) ((zC a.2.1 0) :: (a.2.1 :: h9.take 13).take 13)] from rfl)) k_block ⟨Nat.le_of_ble_eq_true rfl, Nat.le_of_ble_eq_true rfl⟩ hw [0] (by decide) rfl (hg_one rfl) rfl hl.1 rfl (Nat.le_of_ble_eq_true rfl) dL_follows_646 ⟨by show _ ≤ (1800 : Nat); omega, by show _ ≤ (10800 : Nat); omega⟩ (fun H locs hw => ?_)
              have hw : LO D cI cL cZ A s Gs [fS a ((sbT vb (zC a.2.1 0)).2) ((zC a.2.1 0) :: (a.2.1 :: h9.take 13).take 13)] H locs := hw
              refine W.widen (k := 1070 + 1 + 1 + 1 + 1 + 1 + 1) (n := 6 * (1070 + 1 + 1 + 1 + 1 + 1 + 1)) (Nat.le_refl _) (by omega) ?_
              refine lv_ldc2 (v := 4) hx hb hown (hts _ (mlA 102 rfl)) dL_follows_649 ?_
              refine W.lcmp hx hb dL_follows_652 ?_
              refine lv_if_ne (tgt := 725) hx hb dL_follows_653 (by decide) (fun c653 => ?_) (fun c653 => ?_)
              · skip
                exact (c653 ((lg_cmp_eq _ _).mpr rfl)).elim
              · skip
                have c653 := (lg_cmp_eq _ _).mp c653
                refine lv_aload_n hx hb dL_follows_656 rfl (lv_at hl 11 rfl) ?_
                refine lv_bipush (v := 9) hx hb dL_follows_657 (by decide) ?_
                refine lo_callX hF (lx_eq (x_about (Gs := fun _ => Gs 0) hst hG (fS_go hn9 hIs) 9) (show _ = ((a.2.1.2.1 8).toInt64 + 1) from ab_9.trans ((congrArg Int32.toInt64 s5).trans (er_s hX))) (show _ = [fS a ((sbT vb (zC a.2.1 0)).2) ((zC a.2.1 0) :: (a.2.1 :: h9.take 13).take 13)] from rfl)) k_about ⟨Nat.le_of_ble_eq_true rfl, Nat.le_of_ble_eq_true rfl⟩ hw [0] (by decide) rfl (hg_one rfl) rfl hl.1 rfl (Nat.le_of_ble_eq_true rfl) dL_follows_659 ⟨by show _ ≤ (1800 : Nat); omega, by show _ ≤ (10800 : Nat); omega⟩ (fun H locs hw => ?_)
                have hw : LO D cI cL cZ A s Gs [fS a ((sbT vb (zC a.2.1 0)).2) ((zC a.2.1 0) :: (a.2.1 :: h9.take 13).take 13)] H locs := hw
                refine W.widen (k := 1070 + 1 + 1 + 1 + 1 + 1 + 1 + 1) (n := 6 * (1070 + 1 + 1 + 1 + 1 + 1 + 1 + 1)) (Nat.le_refl _) (by omega) ?_
                refine lv_lload hx hb dL_follows_662 (lv_at hl 0 rfl) ?_
                refine lv_lconst (v := 1) hx hb dL_follows_664 (by decide) ?_
                refine lv_ladd hx hb dL_follows_665 ?_
                refine W.lcmp hx hb dL_follows_666 ?_
                refine lv_if_ne (tgt := 725) hx hb dL_follows_667 (by decide) (fun c667 => ?_) (fun c667 => ?_)
                · skip
                  exact (c667 ((lg_cmp_eq _ _).mpr rfl)).elim
                · skip
                  have c667 := (lg_cmp_eq _ _).mp c667
                  refine lv_aload_n hx hb dL_follows_670 rfl (lv_at hl 11 rfl) ?_
                  refine lv_iload hx hb dL_follows_671 (lv_at hl 4 rfl) ?_
                  refine lo_callJ hF (lj_eq (c_valueOf l hst D cI cL cZ (fun _ => Gs 0) hG (fS a ((sbT vb (zC a.2.1 0)).2) ((zC a.2.1 0) :: (a.2.1 :: h9.take 13).take 13)) (fS_go hn9 hIs) (x % 16) (by omega)) (show _ = ((vaZ a.2.1 (nI (x % 16))).toInt64) from congrArg Int32.toInt64 (s6 (x % 16) (by omega))) rfl) k_valueOf ⟨Nat.le_of_ble_eq_true rfl, Nat.le_of_ble_eq_true rfl⟩ hw [0] (by decide) rfl (hg_one rfl) rfl hl.1 rfl (Nat.le_of_ble_eq_true rfl) dL_follows_673 ⟨by show _ ≤ (1800 : Nat); omega, by show _ ≤ (10800 : Nat); omega⟩ (fun H locs hw => ?_)
                  have hw : LO D cI cL cZ A s Gs [fS a ((sbT vb (zC a.2.1 0)).2) ((zC a.2.1 0) :: (a.2.1 :: h9.take 13).take 13)] H locs := hw
                  refine W.widen (k := 1070 + 1 + 1 + 1 + 1 + 1 + 1 + 1 + 2) (n := 6 * (1070 + 1 + 1 + 1 + 1 + 1 + 1 + 1 + 2)) (Nat.le_refl _) (by omega) ?_
                  refine lv_lload hx hb dL_follows_676 (lv_at hl 7 rfl) ?_
                  refine W.lcmp hx hb dL_follows_678 ?_
                  refine lv_if_ne (tgt := 725) hx hb dL_follows_679 (by decide) (fun c679 => ?_) (fun c679 => ?_)
                  · skip
                    exact (c679 ((lg_cmp_eq _ _).mpr rfl)).elim
                  · skip
                    have c679 := (lg_cmp_eq _ _).mp c679
                    refine lv_aload_n hx hb dL_follows_682 rfl (lv_at hl 11 rfl) ?_
                    refine lv_iload hx hb dL_follows_683 (lv_at hl 4 rfl) ?_
                    refine lo_callJ hF (lj_eq (c_others l hst D cI cL cZ (fun _ => Gs 0) hG (fS a ((sbT vb (zC a.2.1 0)).2) ((zC a.2.1 0) :: (a.2.1 :: h9.take 13).take 13)) (fS_go hn9 hIs) (x % 16) (by omega)) (show _ = (otZ a.2.1 (x % 16) 16) from ot_eq (fun j h1 _ => s6 j h1) 16 (Nat.le_refl _)) rfl) k_others ⟨Nat.le_of_ble_eq_true rfl, Nat.le_of_ble_eq_true rfl⟩ hw [0] (by decide) rfl (hg_one rfl) rfl hl.1 rfl (Nat.le_of_ble_eq_true rfl) dL_follows_685 ⟨by show _ ≤ (1800 : Nat); omega, by show _ ≤ (10800 : Nat); omega⟩ (fun H locs hw => ?_)
                    have hw : LO D cI cL cZ A s Gs [fS a ((sbT vb (zC a.2.1 0)).2) ((zC a.2.1 0) :: (a.2.1 :: h9.take 13).take 13)] H locs := hw
                    refine W.widen (k := 1070 + 1 + 1 + 1 + 1 + 1 + 1 + 1 + 2 + 50) (n := 6 * (1070 + 1 + 1 + 1 + 1 + 1 + 1 + 1 + 2 + 50)) (Nat.le_refl _) (by omega) ?_
                    refine lv_lload hx hb dL_follows_688 (lv_at hl 8 rfl) ?_
                    refine W.lcmp hx hb dL_follows_690 ?_
                    refine lv_if_ne (tgt := 725) hx hb dL_follows_691 (by decide) (fun c691 => ?_) (fun c691 => ?_)
                    · skip
                      exact (c691 ((lg_cmp_eq _ _).mpr rfl)).elim
                    · skip
                      have c691 := (lg_cmp_eq _ _).mp c691
                      refine lv_aload_n hx hb dL_follows_694 rfl (lv_at hl 11 rfl) ?_
                      refine lo_callX hF (lx_eq (x_undo (Gs := fun _ => Gs 0) hst hG (fS_go hn9 hIs) ) (show _ = ((nI ((a.2.1 :: h9.take 13).take 13).length).toInt64) from un_ok.1) (show _ = [fS a (zC a.2.1 0) ((a.2.1 :: h9.take 13).take 13)] from rfl)) k_undo ⟨Nat.le_of_ble_eq_true rfl, Nat.le_of_ble_eq_true rfl⟩ hw [0] (by decide) rfl (hg_one rfl) rfl hl.1 rfl (Nat.le_of_ble_eq_true rfl) dL_follows_695 ⟨by show _ ≤ (1800 : Nat); omega, by show _ ≤ (10800 : Nat); omega⟩ (fun H locs hw => ?_)
                      have hw : LO D cI cL cZ A s Gs [fS a (zC a.2.1 0) ((a.2.1 :: h9.take 13).take 13)] H locs := hw
                      refine W.widen (k := 1070 + 1 + 1 + 1 + 1 + 1 + 1 + 1 + 2 + 50 + 1) (n := 6 * (1070 + 1 + 1 + 1 + 1 + 1 + 1 + 1 + 2 + 50 + 1)) (Nat.le_refl _) (by omega) ?_
                      refine lv_lconst (v := 0) hx hb dL_follows_698 (by decide) ?_
                      refine W.lcmp hx hb dL_follows_699 ?_
                      refine lv_if_lt (tgt := 725) hx hb dL_follows_700 (by decide) (fun c700 => ?_) (fun c700 => ?_)
                      · skip
                        have c700 := (lg_cmp_lt _ _).mp c700
                        exact absurd c700 (un_ge (by first | omega | (simp; omega)))
                      · skip
                        have c700 := (fun z => c700 ((lg_cmp_lt _ _).mpr z))
                        refine lv_aload_n hx hb dL_follows_703 rfl (lv_at hl 11 rfl) ?_
                        refine lo_callX hF (lx_eq (x_undo (Gs := fun _ => Gs 0) hst hG (fS_go hn9 hI0) ) (show _ = ((nI ((h9.take 13).take 12).length).toInt64) from un_ok.1) (show _ = [fS a a.2.1 ((h9.take 13).take 12)] from rfl)) k_undo ⟨Nat.le_of_ble_eq_true rfl, Nat.le_of_ble_eq_true rfl⟩ hw [0] (by decide) rfl (hg_one rfl) rfl hl.1 rfl (Nat.le_of_ble_eq_true rfl) dL_follows_704 ⟨by show _ ≤ (1800 : Nat); omega, by show _ ≤ (10800 : Nat); omega⟩ (fun H locs hw => ?_)
                        have hw : LO D cI cL cZ A s Gs [fS a a.2.1 ((h9.take 13).take 12)] H locs := hw
                        refine W.widen (k := 1070 + 1 + 1 + 1 + 1 + 1 + 1 + 1 + 2 + 50 + 1 + 1) (n := 6 * (1070 + 1 + 1 + 1 + 1 + 1 + 1 + 1 + 2 + 50 + 1 + 1)) (Nat.le_refl _) (by omega) ?_
                        refine lv_lconst (v := 0) hx hb dL_follows_707 (by decide) ?_
                        refine W.lcmp hx hb dL_follows_708 ?_
                        refine lv_if_lt (tgt := 725) hx hb dL_follows_709 (by decide) (fun c709 => ?_) (fun c709 => ?_)
                        · skip
                          have c709 := (lg_cmp_lt _ _).mp c709
                          exact absurd c709 (un_ge (by first | omega | (simp; omega)))
                        · skip
                          have c709 := (fun z => c709 ((lg_cmp_lt _ _).mpr z))
                          refine lv_aload_n hx hb dL_follows_712 rfl (lv_at hl 11 rfl) ?_
                          refine lo_callJ hF (lj_eq (c_now l hst D cI cL cZ (fun _ => Gs 0) hG (fS a a.2.1 ((h9.take 13).take 12)) (fS_go hn9 hX.1) ) (show _ = (nwZ a.2.1) from rfl) rfl) k_now ⟨Nat.le_of_ble_eq_true rfl, Nat.le_of_ble_eq_true rfl⟩ hw [0] (by decide) rfl (hg_one rfl) rfl hl.1 rfl (Nat.le_of_ble_eq_true rfl) dL_follows_713 ⟨by show _ ≤ (1800 : Nat); omega, by show _ ≤ (10800 : Nat); omega⟩ (fun H locs hw => ?_)
                          have hw : LO D cI cL cZ A s Gs [fS a a.2.1 ((h9.take 13).take 12)] H locs := hw
                          refine W.widen (k := 1070 + 1 + 1 + 1 + 1 + 1 + 1 + 1 + 2 + 50 + 1 + 1 + 200) (n := 6 * (1070 + 1 + 1 + 1 + 1 + 1 + 1 + 1 + 2 + 50 + 1 + 1 + 200)) (Nat.le_refl _) (by omega) ?_
                          refine lv_lload_n hx hb dL_follows_716 rfl (lv_at hl 3 rfl) ?_
                          refine W.lcmp hx hb dL_follows_717 ?_
                          refine lv_if_ne (tgt := 725) hx hb dL_follows_718 (by decide) (fun c718 => ?_) (fun c718 => ?_)
                          · skip
                            exact (c718 ((lg_cmp_eq _ _).mpr rfl)).elim
                          · skip
                            have c718 := (lg_cmp_eq _ _).mp c718
                            refine lv_iconst (v := 1) hx hb dL_follows_721 (by decide) ?_
                            refine lv_goto (tgt := 726) hx hb dL_follows_722 (by decide) ?_
                            refine lv_istore (lv' := [(13, .int (1)), (21, .long ((a.2.1.2.1 8).toInt64)), (19, .long ((a.2.1.2.2 4 vb).toInt64)), (18, .int (nI (vb))), (2, .long (nwZ a.2.1)), (4, .int (nI (x % 16))), (5, .int (nI (x / 16 % 1000))), (6, .int (nI (1 + x / 7 % 12))), (7, .long ((vaZ a.2.1 (nI (x % 16))).toInt64)), (9, .long (otZ a.2.1 (x % 16) 16)), (11, .long ((nI (ckZ a.2.1 16)).toInt64)), (0, .ref ((Gs 0).1 1)), (1, .int (nI (x))), (14, .int (bI (a.2.1.1.1 = true))), (15, .int (bI (wnV a.2.1 = 0)))]) hx hb dL_follows_726 hl (by decide) rfl (fun ls hl => ?_)
                            exact W.widen (by omega) (by omega) (JP728 ((h9.take 13).take 12) _ _ _ (by first | omega | (simp; omega)) hw (lv_sub hl [4, 5, 6, 7, 8, 9, 10, 0, 11, 12, 13, 14] rfl))
  have JP173 : ∀ (H : Heap) (locs : List Loc) (ls : Array Slot), LO D cI cL cZ A s Gs [fS a a.2.1 a.2.2.1] H locs → lv_has ls 26 [(2, .long (nwZ a.2.1)), (4, .int (nI (x % 16))), (5, .int (nI (x / 16 % 1000))), (6, .int (nI (1 + x / 7 % 12))), (7, .long ((vaZ a.2.1 (nI (x % 16))).toInt64)), (9, .long (otZ a.2.1 (x % 16) 16)), (11, .long ((nI (ckZ a.2.1 16)).toInt64)), (13, .int (1)), (0, .ref ((Gs 0).1 1)), (1, .int (nI (x))), (14, .int (bI (a.2.1.1.1 = true))), (15, .int (bI (wnV a.2.1 = 0))), (16, .long ((laV a.2.1 (x % 16)).toInt64))] → W p l e ({ frames := 9, cells := 1800, slots := 10800, locals := 220 } : Room) s m [.ref ((Gs 0).1 1), .int (nI (x))].toArray below meth c H locs (264) (6 * (264)) (MQ below (lqI D cI cL cZ Gs 1 [fS a a.2.1 []] A) [.ref ((Gs 0).1 1), .int (nI (x))].toArray s 1800 10800 A) (F0 m 173 ls []) := by
    intro H locs ls hw hl
    refine lv_iload hx hb dL_follows_173 (lv_at hl 11 rfl) ?_
    refine lv_if_eq (tgt := 571) hx hb dL_follows_175 (by decide) (fun c175 => ?_) (fun c175 => ?_)
    · skip
      have c175 := bI_f c175
      exact W.widen (by omega) (by omega) (JP571 a.2.2.1 _ _ _ (lo_hist (b := fS a a.2.1 a.2.2.1) hw) hw (lv_sub hl [0, 1, 2, 3, 4, 5, 6, 7, 8, 9, 10, 11] rfl))
    · skip
      have c175 := bI_t c175
      refine lv_iload hx hb dL_follows_178 (lv_at hl 7 rfl) ?_
      refine lv_if_eq (tgt := 571) hx hb dL_follows_180 (by decide) (fun c180 => ?_) (fun c180 => ?_)
      · skip
        exact absurd c180 (by decide)
      · skip
        obtain ⟨hon9, hcs⟩ := wn_0 c175
        obtain ⟨d, d1, d2, hd, -⟩ := cs_d hX.1 hcs
        have hIc : Inv (zC a.2.1 (nI (1 + x / 7 % 12))) := inv_zC hX.1 (by omega)
        have hcn : ¬ csV (zC a.2.1 (nI (1 + x / 7 % 12))) = 0 := by rw [cs_zC]; exact cs_nz hcs
        have hc0 : ¬ csV (zC a.2.1 0) = 0 := by rw [cs_zC]; exact cs_nz hcs
        have hIp : Inv (stT (x % 16) (nI (x / 16 % 1000)) (zC a.2.1 (nI (1 + x / 7 % 12)))).2 := (inv_st hIc hon9 (by omega) (Or.inl (ne9 (by omega)))).2
        have hIq : Inv (stT (x % 16) (nI (x / 16 % 1000)) (zC a.2.1 (nI 0))).2 := (inv_st hI0 hon9 (by omega) (Or.inl (ne9 (by omega)))).2
        obtain ⟨p0, r1, r2, r3, r4, r5, r6⟩ := put_through hX hcs (k := x % 16) (v := x / 16 % 1000) (c := 0) (by omega) (by omega) (by omega) (Or.inl rfl)
        have JP452 : ∀ (h9 : List LgS) (H : Heap) (locs : List Loc) (ls : Array Slot), (hh9 : h9.length ≤ 14) → LO D cI cL cZ A s Gs [fS a ((stT (x % 16) (nI (x / 16 % 1000)) (zC a.2.1 (nI (1 + x / 7 % 12)))).2) ((zC a.2.1 (nI (1 + x / 7 % 12))) :: a.2.1 :: h9)] H locs → lv_has ls 26 [(2, .long (nwZ a.2.1)), (4, .int (nI (x % 16))), (5, .int (nI (x / 16 % 1000))), (6, .int (nI (1 + x / 7 % 12))), (7, .long ((vaZ a.2.1 (nI (x % 16))).toInt64)), (9, .long (otZ a.2.1 (x % 16) 16)), (11, .long ((nI (ckZ a.2.1 16)).toInt64)), (13, .int (1)), (0, .ref ((Gs 0).1 1)), (1, .int (nI (x))), (14, .int (bI (a.2.1.1.1 = true))), (15, .int (bI (wnV a.2.1 = 0))), (18, .long ((nI d).toInt64)), (22, .long ((vaZ (afZ a.2.1 (x % 16) (nI (x / 16 % 1000)) (1 + x / 7 % 12)) (nI (x % 16))).toInt64))] → W p l e ({ frames := 9, cells := 1800, slots := 10800, locals := 220 } : Room) s m [.ref ((Gs 0).1 1), .int (nI (x))].toArray below meth c H locs (600) (6 * (600)) (MQ below (lqI D cI cL cZ Gs 1 [fS a a.2.1 []] A) [.ref ((Gs 0).1 1), .int (nI (x))].toArray s 1800 10800 A) (F0 m 452 ls []) := by
          intro h9 H locs ls hh9 hw hl
          refine lv_iload hx hb dL_follows_452 (lv_at hl 7 rfl) ?_
          refine lv_if_eq (tgt := 568) hx hb dL_follows_454 (by decide) (fun c454 => ?_) (fun c454 => ?_)
          · skip
            exact absurd c454 (by decide)
          · skip
            refine lv_aload_n hx hb dL_follows_457 rfl (lv_at hl 8 rfl) ?_
            refine lo_callX hF (lx_eq (x_undo (Gs := fun _ => Gs 0) hst hG (fS_go hn9 hIp) ) (show _ = ((nI (a.2.1 :: h9).length).toInt64) from un_ok.1) (show _ = [fS a (zC a.2.1 (nI (1 + x / 7 % 12))) (a.2.1 :: h9)] from rfl)) k_undo ⟨Nat.le_of_ble_eq_true rfl, Nat.le_of_ble_eq_true rfl⟩ hw [0] (by decide) rfl (hg_one rfl) rfl hl.1 rfl (Nat.le_of_ble_eq_true rfl) dL_follows_458 ⟨by show _ ≤ (1800 : Nat); omega, by show _ ≤ (10800 : Nat); omega⟩ (fun H locs hw => ?_)
            have hw : LO D cI cL cZ A s Gs [fS a (zC a.2.1 (nI (1 + x / 7 % 12))) (a.2.1 :: h9)] H locs := hw
            refine W.widen (k := 600 + 1) (n := 6 * (600 + 1)) (Nat.le_refl _) (by omega) ?_
            refine lv_lconst (v := 0) hx hb dL_follows_461 (by decide) ?_
            refine W.lcmp hx hb dL_follows_462 ?_
            refine lv_if_lt (tgt := 568) hx hb dL_follows_463 (by decide) (fun c463 => ?_) (fun c463 => ?_)
            · skip
              have c463 := (lg_cmp_lt _ _).mp c463
              exact absurd c463 (un_ge (by first | omega | (simp; omega)))
            · skip
              have c463 := (fun z => c463 ((lg_cmp_lt _ _).mpr z))
              refine lv_aload_n hx hb dL_follows_466 rfl (lv_at hl 8 rfl) ?_
              refine lo_callX hF (lx_eq (x_undo (Gs := fun _ => Gs 0) hst hG (fS_go hn9 hIc) ) (show _ = ((nI h9.length).toInt64) from un_ok.1) (show _ = [fS a a.2.1 h9] from rfl)) k_undo ⟨Nat.le_of_ble_eq_true rfl, Nat.le_of_ble_eq_true rfl⟩ hw [0] (by decide) rfl (hg_one rfl) rfl hl.1 rfl (Nat.le_of_ble_eq_true rfl) dL_follows_467 ⟨by show _ ≤ (1800 : Nat); omega, by show _ ≤ (10800 : Nat); omega⟩ (fun H locs hw => ?_)
              have hw : LO D cI cL cZ A s Gs [fS a a.2.1 h9] H locs := hw
              refine W.widen (k := 600 + 1 + 1) (n := 6 * (600 + 1 + 1)) (Nat.le_refl _) (by omega) ?_
              refine lv_lconst (v := 0) hx hb dL_follows_470 (by decide) ?_
              refine W.lcmp hx hb dL_follows_471 ?_
              refine lv_if_lt (tgt := 568) hx hb dL_follows_472 (by decide) (fun c472 => ?_) (fun c472 => ?_)
              · skip
                have c472 := (lg_cmp_lt _ _).mp c472
                exact absurd c472 (un_ge (by omega))
              · skip
                have c472 := (fun z => c472 ((lg_cmp_lt _ _).mpr z))
                refine lv_aload_n hx hb dL_follows_475 rfl (lv_at hl 8 rfl) ?_
                refine lo_callJ hF (lj_eq (c_now l hst D cI cL cZ (fun _ => Gs 0) hG (fS a a.2.1 h9) (fS_go hn9 hX.1) ) (show _ = (nwZ a.2.1) from rfl) rfl) k_now ⟨Nat.le_of_ble_eq_true rfl, Nat.le_of_ble_eq_true rfl⟩ hw [0] (by decide) rfl (hg_one rfl) rfl hl.1 rfl (Nat.le_of_ble_eq_true rfl) dL_follows_476 ⟨by show _ ≤ (1800 : Nat); omega, by show _ ≤ (10800 : Nat); omega⟩ (fun H locs hw => ?_)
                have hw : LO D cI cL cZ A s Gs [fS a a.2.1 h9] H locs := hw
                refine W.widen (k := 600 + 1 + 1 + 200) (n := 6 * (600 + 1 + 1 + 200)) (Nat.le_refl _) (by omega) ?_
                refine lv_lload_n hx hb dL_follows_479 rfl (lv_at hl 0 rfl) ?_
                refine W.lcmp hx hb dL_follows_480 ?_
                refine lv_if_ne (tgt := 568) hx hb dL_follows_481 (by decide) (fun c481 => ?_) (fun c481 => ?_)
                · skip
                  exact (c481 ((lg_cmp_eq _ _).mpr rfl)).elim
                · skip
                  have c481 := (lg_cmp_eq _ _).mp c481
                  refine lv_aload_n hx hb dL_follows_484 rfl (lv_at hl 8 rfl) ?_
                  refine lv_iconst (v := 0) hx hb dL_follows_485 (by decide) ?_
                  refine lo_callX hF (lx_eq (x_cut (Gs := fun _ => Gs 0) hst hG (fS_go hn9 hX.1) 0) (show _ = ((a.2.1.2.1 1).toInt64) from (cu_ok (a := a) (h := h9) hon9 (n := 0) (by omega)).1) (show _ = [fS a (zC a.2.1 0) (a.2.1 :: h9.take 13)] from congrArg (fun y => [y]) (cu_ok (a := a) (h := h9) hon9 (n := 0) (by omega)).2)) k_cut ⟨Nat.le_of_ble_eq_true rfl, Nat.le_of_ble_eq_true rfl⟩ hw [0] (by decide) rfl (hg_one rfl) rfl hl.1 rfl (Nat.le_of_ble_eq_true rfl) dL_follows_486 ⟨by show _ ≤ (1800 : Nat); omega, by show _ ≤ (10800 : Nat); omega⟩ (fun H locs hw => ?_)
                  have hw : LO D cI cL cZ A s Gs [fS a (zC a.2.1 0) (a.2.1 :: h9.take 13)] H locs := hw
                  refine W.widen (k := 600 + 1 + 1 + 200 + 1) (n := 6 * (600 + 1 + 1 + 200 + 1)) (Nat.le_refl _) (by omega) ?_
                  refine lv_lconst (v := 0) hx hb dL_follows_489 (by decide) ?_
                  refine W.lcmp hx hb dL_follows_490 ?_
                  refine lv_if_lt (tgt := 568) hx hb dL_follows_491 (by decide) (fun c491 => ?_) (fun c491 => ?_)
                  · skip
                    have c491 := (lg_cmp_lt _ _).mp c491
                    exact absurd c491 (cu_ge hX.1)
                  · skip
                    have c491 := (fun z => c491 ((lg_cmp_lt _ _).mpr z))
                    refine lv_aload_n hx hb dL_follows_494 rfl (lv_at hl 8 rfl) ?_
                    refine lv_iload hx hb dL_follows_495 (lv_at hl 1 rfl) ?_
                    refine lv_iload hx hb dL_follows_497 (lv_at hl 2 rfl) ?_
                    refine lo_callX hF (lx_eq (x_put (Gs := fun _ => Gs 0) hst hG (fS_go hn9 hI0) (nI (x % 16)) (nI (x / 16 % 1000))) (show _ = ((nI p0).toInt64) from (pu_ok (a := a) (h := a.2.1 :: h9.take 13) hc0 (k := x % 16) (v := x / 16 % 1000) (by omega) (by omega)).1.trans (congrArg Int32.toInt64 r2)) (show _ = [fS a ((stT (x % 16) (nI (x / 16 % 1000)) (zC a.2.1 (nI 0))).2) ((zC a.2.1 0) :: (a.2.1 :: h9.take 13).take 13)] from congrArg (fun y => [y]) (pu_ok (a := a) (h := a.2.1 :: h9.take 13) hc0 (k := x % 16) (v := x / 16 % 1000) (by omega) (by omega)).2)) k_put ⟨Nat.le_of_ble_eq_true rfl, Nat.le_of_ble_eq_true rfl⟩ hw [0] (by decide) rfl (hg_one rfl) rfl hl.1 rfl (Nat.le_of_ble_eq_true rfl) dL_follows_499 ⟨by show _ ≤ (1800 : Nat); omega, by show _ ≤ (10800 : Nat); omega⟩ (fun H locs hw => ?_)
                    have hw : LO D cI cL cZ A s Gs [fS a ((stT (x % 16) (nI (x / 16 % 1000)) (zC a.2.1 (nI 0))).2) ((zC a.2.1 0) :: (a.2.1 :: h9.take 13).take 13)] H locs := hw
                    refine W.widen (k := 600 + 1 + 1 + 200 + 1 + 1) (n := 6 * (600 + 1 + 1 + 200 + 1 + 1)) (Nat.le_refl _) (by omega) ?_
                    refine lv_aload_n hx hb dL_follows_502 rfl (lv_at hl 8 rfl) ?_
                    refine lv_iload hx hb dL_follows_503 (lv_at hl 1 rfl) ?_
                    refine lo_callX hF (lx_eq (x_newest (Gs := fun _ => Gs 0) hst hG (fS_go hn9 hIq) (nI (x % 16))) (show _ = ((nI p0).toInt64) from (ne_J (by omega)).trans (congrArg Int32.toInt64 r5)) (show _ = [fS a ((stT (x % 16) (nI (x / 16 % 1000)) (zC a.2.1 (nI 0))).2) ((zC a.2.1 0) :: (a.2.1 :: h9.take 13).take 13)] from rfl)) k_newest ⟨Nat.le_of_ble_eq_true rfl, Nat.le_of_ble_eq_true rfl⟩ hw [0] (by decide) rfl (hg_one rfl) rfl hl.1 rfl (Nat.le_of_ble_eq_true rfl) dL_follows_505 ⟨by show _ ≤ (1800 : Nat); omega, by show _ ≤ (10800 : Nat); omega⟩ (fun H locs hw => ?_)
                    have hw : LO D cI cL cZ A s Gs [fS a ((stT (x % 16) (nI (x / 16 % 1000)) (zC a.2.1 (nI 0))).2) ((zC a.2.1 0) :: (a.2.1 :: h9.take 13).take 13)] H locs := hw
                    refine W.widen (k := 600 + 1 + 1 + 200 + 1 + 1 + 1) (n := 6 * (600 + 1 + 1 + 200 + 1 + 1 + 1)) (Nat.le_refl _) (by omega) ?_
                    refine W.lcmp hx hb dL_follows_508 ?_
                    refine lv_if_ne (tgt := 568) hx hb dL_follows_509 (by decide) (fun c509 => ?_) (fun c509 => ?_)
                    · skip
                      exact (c509 ((lg_cmp_eq _ _).mpr rfl)).elim
                    · skip
                      have c509 := (lg_cmp_eq _ _).mp c509
                      refine lv_aload_n hx hb dL_follows_512 rfl (lv_at hl 8 rfl) ?_
                      refine lv_iload hx hb dL_follows_513 (lv_at hl 1 rfl) ?_
                      refine lo_callX hF (lx_eq (x_get (Gs := fun _ => Gs 0) hst hG (fS_go hn9 hIq) (nI (x % 16))) (show _ = ((nI (x / 16 % 1000) : Int32).toInt64) from (ge_J (by omega) r3).trans (congrArg Int32.toInt64 ((r6 (x % 16) (by omega)).trans (if_pos rfl)))) (show _ = [fS a ((stT (x % 16) (nI (x / 16 % 1000)) (zC a.2.1 (nI 0))).2) ((zC a.2.1 0) :: (a.2.1 :: h9.take 13).take 13)] from rfl)) k_get ⟨Nat.le_of_ble_eq_true rfl, Nat.le_of_ble_eq_true rfl⟩ hw [0] (by decide) rfl (hg_one rfl) rfl hl.1 rfl (Nat.le_of_ble_eq_true rfl) dL_follows_515 ⟨by show _ ≤ (1800 : Nat); omega, by show _ ≤ (10800 : Nat); omega⟩ (fun H locs hw => ?_)
                      have hw : LO D cI cL cZ A s Gs [fS a ((stT (x % 16) (nI (x / 16 % 1000)) (zC a.2.1 (nI 0))).2) ((zC a.2.1 0) :: (a.2.1 :: h9.take 13).take 13)] H locs := hw
                      refine W.widen (k := 600 + 1 + 1 + 200 + 1 + 1 + 1 + 1) (n := 6 * (600 + 1 + 1 + 200 + 1 + 1 + 1 + 1)) (Nat.le_refl _) (by omega) ?_
                      refine lv_iload hx hb dL_follows_518 (lv_at hl 2 rfl) ?_
                      refine lv_i2l (v := (nI (x / 16 % 1000) : Int32).toInt64) hx hb dL_follows_520 rfl ?_
                      refine W.lcmp hx hb dL_follows_521 ?_
                      refine lv_if_ne (tgt := 568) hx hb dL_follows_522 (by decide) (fun c522 => ?_) (fun c522 => ?_)
                      · skip
                        exact (c522 ((lg_cmp_eq _ _).mpr rfl)).elim
                      · skip
                        have c522 := (lg_cmp_eq _ _).mp c522
                        refine lv_aload_n hx hb dL_follows_525 rfl (lv_at hl 8 rfl) ?_
                        refine lv_iload hx hb dL_follows_526 (lv_at hl 1 rfl) ?_
                        refine lo_callJ hF (lj_eq (c_others l hst D cI cL cZ (fun _ => Gs 0) hG (fS a ((stT (x % 16) (nI (x / 16 % 1000)) (zC a.2.1 (nI 0))).2) ((zC a.2.1 0) :: (a.2.1 :: h9.take 13).take 13)) (fS_go hn9 hIq) (x % 16) (by omega)) (show _ = (otZ a.2.1 (x % 16) 16) from ot_eq (fun j h1 h2 => (r6 j h1).trans (if_neg h2)) 16 (Nat.le_refl _)) rfl) k_others ⟨Nat.le_of_ble_eq_true rfl, Nat.le_of_ble_eq_true rfl⟩ hw [0] (by decide) rfl (hg_one rfl) rfl hl.1 rfl (Nat.le_of_ble_eq_true rfl) dL_follows_528 ⟨by show _ ≤ (1800 : Nat); omega, by show _ ≤ (10800 : Nat); omega⟩ (fun H locs hw => ?_)
                        have hw : LO D cI cL cZ A s Gs [fS a ((stT (x % 16) (nI (x / 16 % 1000)) (zC a.2.1 (nI 0))).2) ((zC a.2.1 0) :: (a.2.1 :: h9.take 13).take 13)] H locs := hw
                        refine W.widen (k := 600 + 1 + 1 + 200 + 1 + 1 + 1 + 1 + 50) (n := 6 * (600 + 1 + 1 + 200 + 1 + 1 + 1 + 1 + 50)) (Nat.le_refl _) (by omega) ?_
                        refine lv_lload hx hb dL_follows_531 (lv_at hl 5 rfl) ?_
                        refine W.lcmp hx hb dL_follows_533 ?_
                        refine lv_if_ne (tgt := 568) hx hb dL_follows_534 (by decide) (fun c534 => ?_) (fun c534 => ?_)
                        · skip
                          exact (c534 ((lg_cmp_eq _ _).mpr rfl)).elim
                        · skip
                          have c534 := (lg_cmp_eq _ _).mp c534
                          refine lv_aload_n hx hb dL_follows_537 rfl (lv_at hl 8 rfl) ?_
                          refine lo_callX hF (lx_eq (x_undo (Gs := fun _ => Gs 0) hst hG (fS_go hn9 hIq) ) (show _ = ((nI ((a.2.1 :: h9.take 13).take 13).length).toInt64) from un_ok.1) (show _ = [fS a (zC a.2.1 0) ((a.2.1 :: h9.take 13).take 13)] from rfl)) k_undo ⟨Nat.le_of_ble_eq_true rfl, Nat.le_of_ble_eq_true rfl⟩ hw [0] (by decide) rfl (hg_one rfl) rfl hl.1 rfl (Nat.le_of_ble_eq_true rfl) dL_follows_538 ⟨by show _ ≤ (1800 : Nat); omega, by show _ ≤ (10800 : Nat); omega⟩ (fun H locs hw => ?_)
                          have hw : LO D cI cL cZ A s Gs [fS a (zC a.2.1 0) ((a.2.1 :: h9.take 13).take 13)] H locs := hw
                          refine W.widen (k := 600 + 1 + 1 + 200 + 1 + 1 + 1 + 1 + 50 + 1) (n := 6 * (600 + 1 + 1 + 200 + 1 + 1 + 1 + 1 + 50 + 1)) (Nat.le_refl _) (by omega) ?_
                          refine lv_lconst (v := 0) hx hb dL_follows_541 (by decide) ?_
                          refine W.lcmp hx hb dL_follows_542 ?_
                          refine lv_if_lt (tgt := 568) hx hb dL_follows_543 (by decide) (fun c543 => ?_) (fun c543 => ?_)
                          · skip
                            have c543 := (lg_cmp_lt _ _).mp c543
                            exact absurd c543 (un_ge (by first | omega | (simp; omega)))
                          · skip
                            have c543 := (fun z => c543 ((lg_cmp_lt _ _).mpr z))
                            refine lv_aload_n hx hb dL_follows_546 rfl (lv_at hl 8 rfl) ?_
                            refine lo_callX hF (lx_eq (x_undo (Gs := fun _ => Gs 0) hst hG (fS_go hn9 hI0) ) (show _ = ((nI ((h9.take 13).take 12).length).toInt64) from un_ok.1) (show _ = [fS a a.2.1 ((h9.take 13).take 12)] from rfl)) k_undo ⟨Nat.le_of_ble_eq_true rfl, Nat.le_of_ble_eq_true rfl⟩ hw [0] (by decide) rfl (hg_one rfl) rfl hl.1 rfl (Nat.le_of_ble_eq_true rfl) dL_follows_547 ⟨by show _ ≤ (1800 : Nat); omega, by show _ ≤ (10800 : Nat); omega⟩ (fun H locs hw => ?_)
                            have hw : LO D cI cL cZ A s Gs [fS a a.2.1 ((h9.take 13).take 12)] H locs := hw
                            refine W.widen (k := 600 + 1 + 1 + 200 + 1 + 1 + 1 + 1 + 50 + 1 + 1) (n := 6 * (600 + 1 + 1 + 200 + 1 + 1 + 1 + 1 + 50 + 1 + 1)) (Nat.le_refl _) (by omega) ?_
                            refine lv_lconst (v := 0) hx hb dL_follows_550 (by decide) ?_
                            refine W.lcmp hx hb dL_follows_551 ?_
                            refine lv_if_lt (tgt := 568) hx hb dL_follows_552 (by decide) (fun c552 => ?_) (fun c552 => ?_)
                            · skip
                              have c552 := (lg_cmp_lt _ _).mp c552
                              exact absurd c552 (un_ge (by first | omega | (simp; omega)))
                            · skip
                              have c552 := (fun z => c552 ((lg_cmp_lt _ _).mpr z))
                              refine lv_aload_n hx hb dL_follows_555 rfl (lv_at hl 8 rfl) ?_
                              refine lo_callJ hF (lj_eq (c_now l hst D cI cL cZ (fun _ => Gs 0) hG (fS a a.2.1 ((h9.take 13).take 12)) (fS_go hn9 hX.1) ) (show _ = (nwZ a.2.1) from rfl) rfl) k_now ⟨Nat.le_of_ble_eq_true rfl, Nat.le_of_ble_eq_true rfl⟩ hw [0] (by decide) rfl (hg_one rfl) rfl hl.1 rfl (Nat.le_of_ble_eq_true rfl) dL_follows_556 ⟨by show _ ≤ (1800 : Nat); omega, by show _ ≤ (10800 : Nat); omega⟩ (fun H locs hw => ?_)
                              have hw : LO D cI cL cZ A s Gs [fS a a.2.1 ((h9.take 13).take 12)] H locs := hw
                              refine W.widen (k := 600 + 1 + 1 + 200 + 1 + 1 + 1 + 1 + 50 + 1 + 1 + 200) (n := 6 * (600 + 1 + 1 + 200 + 1 + 1 + 1 + 1 + 50 + 1 + 1 + 200)) (Nat.le_refl _) (by omega) ?_
                              refine lv_lload_n hx hb dL_follows_559 rfl (lv_at hl 0 rfl) ?_
                              refine W.lcmp hx hb dL_follows_560 ?_
                              refine lv_if_ne (tgt := 568) hx hb dL_follows_561 (by decide) (fun c561 => ?_) (fun c561 => ?_)
                              · skip
                                exact (c561 ((lg_cmp_eq _ _).mpr rfl)).elim
                              · skip
                                have c561 := (lg_cmp_eq _ _).mp c561
                                refine lv_iconst (v := 1) hx hb dL_follows_564 (by decide) ?_
                                refine lv_goto (tgt := 569) hx hb dL_follows_565 (by decide) ?_
                                refine lv_istore (lv' := [(13, .int (1)), (2, .long (nwZ a.2.1)), (4, .int (nI (x % 16))), (5, .int (nI (x / 16 % 1000))), (6, .int (nI (1 + x / 7 % 12))), (7, .long ((vaZ a.2.1 (nI (x % 16))).toInt64)), (9, .long (otZ a.2.1 (x % 16) 16)), (11, .long ((nI (ckZ a.2.1 16)).toInt64)), (0, .ref ((Gs 0).1 1)), (1, .int (nI (x))), (14, .int (bI (a.2.1.1.1 = true))), (15, .int (bI (wnV a.2.1 = 0))), (18, .long ((nI d).toInt64)), (22, .long ((vaZ (afZ a.2.1 (x % 16) (nI (x / 16 % 1000)) (1 + x / 7 % 12)) (nI (x % 16))).toInt64))]) hx hb dL_follows_569 hl (by decide) rfl (fun ls hl => ?_)
                                exact W.widen (by omega) (by omega) (JP571 ((h9.take 13).take 12) _ _ _ (by first | omega | (simp; omega)) hw (lv_sub hl [1, 2, 3, 4, 5, 6, 7, 0, 8, 9, 10, 11] rfl))
        refine lv_aload_n hx hb dL_follows_183 rfl (lv_at hl 8 rfl) ?_
        refine lo_callX hF (lx_eq (x_operations (Gs := fun _ => Gs 0) hst hG (fS_go hn9 hX.1) ) (show _ = ((nI d).toInt64) from (op_J hX.1 hcs).trans (congrArg Int32.toInt64 hd)) (show _ = [fS a a.2.1 a.2.2.1] from rfl)) k_operations ⟨Nat.le_of_ble_eq_true rfl, Nat.le_of_ble_eq_true rfl⟩ hw [0] (by decide) rfl (hg_one rfl) rfl hl.1 rfl (Nat.le_of_ble_eq_true rfl) dL_follows_184 ⟨by show _ ≤ (1800 : Nat); omega, by show _ ≤ (10800 : Nat); omega⟩ (fun H locs hw => ?_)
        have hw : LO D cI cL cZ A s Gs [fS a a.2.1 a.2.2.1] H locs := hw
        refine W.widen (k := 264 + 1) (n := 6 * (264 + 1)) (Nat.le_refl _) (by omega) ?_
        refine lv_lstore (lv' := [(18, .long ((nI d).toInt64)), (2, .long (nwZ a.2.1)), (4, .int (nI (x % 16))), (5, .int (nI (x / 16 % 1000))), (6, .int (nI (1 + x / 7 % 12))), (7, .long ((vaZ a.2.1 (nI (x % 16))).toInt64)), (9, .long (otZ a.2.1 (x % 16) 16)), (11, .long ((nI (ckZ a.2.1 16)).toInt64)), (13, .int (1)), (0, .ref ((Gs 0).1 1)), (1, .int (nI (x))), (14, .int (bI (a.2.1.1.1 = true))), (15, .int (bI (wnV a.2.1 = 0))), (16, .long ((laV a.2.1 (x % 16)).toInt64))]) hx hb dL_follows_187 hl (by decide) rfl (fun ls hl => ?_)
        refine lv_aload_n hx hb dL_follows_189 rfl (lv_at hl 9 rfl) ?_
        refine lv_bipush (v := 11) hx hb dL_follows_190 (by decide) ?_
        refine lo_callX hF (lx_eq (x_about (Gs := fun _ => Gs 0) hst hG (fS_go hn9 hX.1) 11) (show _ = ((a.2.1.2.1 1).toInt64) from ab_11) (show _ = [fS a a.2.1 a.2.2.1] from rfl)) k_about ⟨Nat.le_of_ble_eq_true rfl, Nat.le_of_ble_eq_true rfl⟩ hw [0] (by decide) rfl (hg_one rfl) rfl hl.1 rfl (Nat.le_of_ble_eq_true rfl) dL_follows_192 ⟨by show _ ≤ (1800 : Nat); omega, by show _ ≤ (10800 : Nat); omega⟩ (fun H locs hw => ?_)
        have hw : LO D cI cL cZ A s Gs [fS a a.2.1 a.2.2.1] H locs := hw
        refine W.widen (k := 264 + 1 + 1) (n := 6 * (264 + 1 + 1)) (Nat.le_refl _) (by omega) ?_
        refine lv_lstore (lv' := [(20, .long ((a.2.1.2.1 1).toInt64)), (18, .long ((nI d).toInt64)), (2, .long (nwZ a.2.1)), (4, .int (nI (x % 16))), (5, .int (nI (x / 16 % 1000))), (6, .int (nI (1 + x / 7 % 12))), (7, .long ((vaZ a.2.1 (nI (x % 16))).toInt64)), (9, .long (otZ a.2.1 (x % 16) 16)), (11, .long ((nI (ckZ a.2.1 16)).toInt64)), (13, .int (1)), (0, .ref ((Gs 0).1 1)), (1, .int (nI (x))), (14, .int (bI (a.2.1.1.1 = true))), (15, .int (bI (wnV a.2.1 = 0))), (16, .long ((laV a.2.1 (x % 16)).toInt64))]) hx hb dL_follows_195 hl (by decide) rfl (fun ls hl => ?_)
        refine lv_aload_n hx hb dL_follows_197 rfl (lv_at hl 10 rfl) ?_
        refine lv_iload hx hb dL_follows_198 (lv_at hl 3 rfl) ?_
        refine lv_iload hx hb dL_follows_200 (lv_at hl 4 rfl) ?_
        refine lv_iload hx hb dL_follows_202 (lv_at hl 5 rfl) ?_
        refine lo_callX hF (lx_eq (x_afterCut (Gs := fun _ => Gs 0) hst hG (fS_go hn9 hX.1) (nI (x % 16)) (nI (x / 16 % 1000)) (nI (1 + x / 7 % 12))) (show _ = ((vaZ (afZ a.2.1 (x % 16) (nI (x / 16 % 1000)) (1 + x / 7 % 12)) (nI (x % 16))).toInt64) from ac_J (cs_nz hcs) (by omega) (by omega) (by omega) (by omega)) (show _ = [fS a a.2.1 a.2.2.1] from rfl)) k_afterCut ⟨Nat.le_of_ble_eq_true rfl, Nat.le_of_ble_eq_true rfl⟩ hw [0] (by decide) rfl (hg_one rfl) rfl hl.1 rfl (Nat.le_of_ble_eq_true rfl) dL_follows_204 ⟨by show _ ≤ (1800 : Nat); omega, by show _ ≤ (10800 : Nat); omega⟩ (fun H locs hw => ?_)
        have hw : LO D cI cL cZ A s Gs [fS a a.2.1 a.2.2.1] H locs := hw
        refine W.widen (k := 264 + 1 + 1 + 1) (n := 6 * (264 + 1 + 1 + 1)) (Nat.le_refl _) (by omega) ?_
        refine lv_lstore (lv' := [(22, .long ((vaZ (afZ a.2.1 (x % 16) (nI (x / 16 % 1000)) (1 + x / 7 % 12)) (nI (x % 16))).toInt64)), (20, .long ((a.2.1.2.1 1).toInt64)), (18, .long ((nI d).toInt64)), (2, .long (nwZ a.2.1)), (4, .int (nI (x % 16))), (5, .int (nI (x / 16 % 1000))), (6, .int (nI (1 + x / 7 % 12))), (7, .long ((vaZ a.2.1 (nI (x % 16))).toInt64)), (9, .long (otZ a.2.1 (x % 16) 16)), (11, .long ((nI (ckZ a.2.1 16)).toInt64)), (13, .int (1)), (0, .ref ((Gs 0).1 1)), (1, .int (nI (x))), (14, .int (bI (a.2.1.1.1 = true))), (15, .int (bI (wnV a.2.1 = 0))), (16, .long ((laV a.2.1 (x % 16)).toInt64))]) hx hb dL_follows_207 hl (by decide) rfl (fun ls hl => ?_)
        refine lv_iload hx hb dL_follows_209 (lv_at hl 6 rfl) ?_
        refine lv_i2l (v := (nI (1 + x / 7 % 12) : Int32).toInt64) hx hb dL_follows_211 rfl ?_
        refine lv_lload hx hb dL_follows_212 (lv_at hl 2 rfl) ?_
        refine W.lcmp hx hb dL_follows_214 ?_
        refine lv_if_gt (tgt := 226) hx hb dL_follows_215 (by decide) (fun c215 => ?_) (fun c215 => ?_)
        · skip
          have c215 := (lg_cmp_gt _ _).mp c215
          have c215 := (jl_lt (a := d) (b := 1 + x / 7 % 12) (by omega) (by omega)).mp c215
          obtain ⟨p, p1, p2, p3, p4, p5, p6⟩ := put_through hX hcs (k := x % 16) (v := x / 16 % 1000) (c := 1 + x / 7 % 12) (by omega) (by omega) (by omega) (Or.inr (fun d9 e9 b9 => by have := cn_eq (a := d9) (b := d) (by omega) (by omega) (e9.symm.trans hd); omega))
          refine lv_iload hx hb dL_follows_226 (lv_at hl 6 rfl) ?_
          refine lv_i2l (v := (nI (1 + x / 7 % 12) : Int32).toInt64) hx hb dL_follows_228 rfl ?_
          refine lv_lload hx hb dL_follows_229 (lv_at hl 2 rfl) ?_
          refine W.lcmp hx hb dL_follows_231 ?_
          refine lv_if_le (tgt := 244) hx hb dL_follows_232 (by decide) (fun c232 => ?_) (fun c232 => ?_)
          · skip
            have c232 := (lg_cmp_le _ _).mp c232
            have := (jl_le (a := 1 + x / 7 % 12) (b := d) (by omega) (by omega)).mp c232
            omega
          · skip
            have c232 := (fun z => c232 ((lg_cmp_le _ _).mpr z))
            refine lv_lload hx hb dL_follows_235 (lv_at hl 0 rfl) ?_
            refine lv_iload hx hb dL_follows_237 (lv_at hl 5 rfl) ?_
            refine lv_i2l (v := (nI (x / 16 % 1000) : Int32).toInt64) hx hb dL_follows_239 rfl ?_
            refine W.lcmp hx hb dL_follows_240 ?_
            refine lv_if_ne (tgt := 282) hx hb dL_follows_241 (by decide) (fun c241 => ?_) (fun c241 => ?_)
            · skip
              have c241 := (fun z => c241 ((lg_cmp_eq _ _).mpr z))
              exact (c241 (congrArg Int32.toInt64 (va_zSw.trans ((p6 (x % 16) (by omega)).trans (if_pos rfl))))).elim
            · skip
              have c241 := (lg_cmp_eq _ _).mp c241
              refine lv_aload_n hx hb dL_follows_244 rfl (lv_at hl 11 rfl) ?_
              refine lo_callJ hF (lj_eq (c_now l hst D cI cL cZ (fun _ => Gs 0) hG (fS a a.2.1 a.2.2.1) (fS_go hn9 hX.1) ) (show _ = (nwZ a.2.1) from rfl) rfl) k_now ⟨Nat.le_of_ble_eq_true rfl, Nat.le_of_ble_eq_true rfl⟩ hw [0] (by decide) rfl (hg_one rfl) rfl hl.1 rfl (Nat.le_of_ble_eq_true rfl) dL_follows_245 ⟨by show _ ≤ (1800 : Nat); omega, by show _ ≤ (10800 : Nat); omega⟩ (fun H locs hw => ?_)
              have hw : LO D cI cL cZ A s Gs [fS a a.2.1 a.2.2.1] H locs := hw
              refine W.widen (k := 264 + 1 + 1 + 1 + 200) (n := 6 * (264 + 1 + 1 + 1 + 200)) (Nat.le_refl _) (by omega) ?_
              refine lv_lload_n hx hb dL_follows_248 rfl (lv_at hl 3 rfl) ?_
              refine W.lcmp hx hb dL_follows_249 ?_
              refine lv_if_ne (tgt := 282) hx hb dL_follows_250 (by decide) (fun c250 => ?_) (fun c250 => ?_)
              · skip
                exact (c250 ((lg_cmp_eq _ _).mpr rfl)).elim
              · skip
                have c250 := (lg_cmp_eq _ _).mp c250
                refine lv_aload_n hx hb dL_follows_253 rfl (lv_at hl 11 rfl) ?_
                refine lv_iload hx hb dL_follows_254 (lv_at hl 6 rfl) ?_
                refine lo_callX hF (lx_eq (x_cut (Gs := fun _ => Gs 0) hst hG (fS_go hn9 hX.1) (nI (1 + x / 7 % 12))) (show _ = ((a.2.1.2.1 1).toInt64) from (cu_ok (a := a) (h := a.2.2.1) hon9 (n := 1 + x / 7 % 12) (by omega)).1) (show _ = [fS a (zC a.2.1 (nI (1 + x / 7 % 12))) (a.2.1 :: a.2.2.1.take 13)] from congrArg (fun y => [y]) (cu_ok (a := a) (h := a.2.2.1) hon9 (n := 1 + x / 7 % 12) (by omega)).2)) k_cut ⟨Nat.le_of_ble_eq_true rfl, Nat.le_of_ble_eq_true rfl⟩ hw [0] (by decide) rfl (hg_one rfl) rfl hl.1 rfl (Nat.le_of_ble_eq_true rfl) dL_follows_256 ⟨by show _ ≤ (1800 : Nat); omega, by show _ ≤ (10800 : Nat); omega⟩ (fun H locs hw => ?_)
                have hw : LO D cI cL cZ A s Gs [fS a (zC a.2.1 (nI (1 + x / 7 % 12))) (a.2.1 :: a.2.2.1.take 13)] H locs := hw
                refine W.widen (k := 264 + 1 + 1 + 1 + 200 + 1) (n := 6 * (264 + 1 + 1 + 1 + 200 + 1)) (Nat.le_refl _) (by omega) ?_
                refine lv_lload hx hb dL_follows_259 (lv_at hl 1 rfl) ?_
                refine W.lcmp hx hb dL_follows_261 ?_
                refine lv_if_ne (tgt := 282) hx hb dL_follows_262 (by decide) (fun c262 => ?_) (fun c262 => ?_)
                · skip
                  exact (c262 ((lg_cmp_eq _ _).mpr rfl)).elim
                · skip
                  have c262 := (lg_cmp_eq _ _).mp c262
                  refine lv_aload_n hx hb dL_follows_265 rfl (lv_at hl 11 rfl) ?_
                  refine lv_bipush (v := 11) hx hb dL_follows_266 (by decide) ?_
                  refine lo_callX hF (lx_eq (x_about (Gs := fun _ => Gs 0) hst hG (fS_go hn9 hIc) 11) (show _ = ((nI (1 + x / 7 % 12) : Int32).toInt64) from ab_11) (show _ = [fS a (zC a.2.1 (nI (1 + x / 7 % 12))) (a.2.1 :: a.2.2.1.take 13)] from rfl)) k_about ⟨Nat.le_of_ble_eq_true rfl, Nat.le_of_ble_eq_true rfl⟩ hw [0] (by decide) rfl (hg_one rfl) rfl hl.1 rfl (Nat.le_of_ble_eq_true rfl) dL_follows_268 ⟨by show _ ≤ (1800 : Nat); omega, by show _ ≤ (10800 : Nat); omega⟩ (fun H locs hw => ?_)
                  have hw : LO D cI cL cZ A s Gs [fS a (zC a.2.1 (nI (1 + x / 7 % 12))) (a.2.1 :: a.2.2.1.take 13)] H locs := hw
                  refine W.widen (k := 264 + 1 + 1 + 1 + 200 + 1 + 1) (n := 6 * (264 + 1 + 1 + 1 + 200 + 1 + 1)) (Nat.le_refl _) (by omega) ?_
                  refine lv_iload hx hb dL_follows_271 (lv_at hl 6 rfl) ?_
                  refine lv_i2l (v := (nI (1 + x / 7 % 12) : Int32).toInt64) hx hb dL_follows_273 rfl ?_
                  refine W.lcmp hx hb dL_follows_274 ?_
                  refine lv_if_ne (tgt := 282) hx hb dL_follows_275 (by decide) (fun c275 => ?_) (fun c275 => ?_)
                  · skip
                    exact (c275 ((lg_cmp_eq _ _).mpr rfl)).elim
                  · skip
                    have c275 := (lg_cmp_eq _ _).mp c275
                    refine lv_iconst (v := 1) hx hb dL_follows_278 (by decide) ?_
                    refine lv_goto (tgt := 283) hx hb dL_follows_279 (by decide) ?_
                    refine lv_istore (lv' := [(13, .int (1)), (22, .long ((vaZ (afZ a.2.1 (x % 16) (nI (x / 16 % 1000)) (1 + x / 7 % 12)) (nI (x % 16))).toInt64)), (20, .long ((a.2.1.2.1 1).toInt64)), (18, .long ((nI d).toInt64)), (2, .long (nwZ a.2.1)), (4, .int (nI (x % 16))), (5, .int (nI (x / 16 % 1000))), (6, .int (nI (1 + x / 7 % 12))), (7, .long ((vaZ a.2.1 (nI (x % 16))).toInt64)), (9, .long (otZ a.2.1 (x % 16) 16)), (11, .long ((nI (ckZ a.2.1 16)).toInt64)), (0, .ref ((Gs 0).1 1)), (1, .int (nI (x))), (14, .int (bI (a.2.1.1.1 = true))), (15, .int (bI (wnV a.2.1 = 0))), (16, .long ((laV a.2.1 (x % 16)).toInt64))]) hx hb dL_follows_283 hl (by decide) rfl (fun ls hl => ?_)
                    refine lv_aload_n hx hb dL_follows_285 rfl (lv_at hl 11 rfl) ?_
                    refine lv_iload hx hb dL_follows_286 (lv_at hl 5 rfl) ?_
                    refine lv_iload hx hb dL_follows_288 (lv_at hl 6 rfl) ?_
                    refine lo_callX hF (lx_eq (x_put (Gs := fun _ => Gs 0) hst hG (fS_go hn9 hIc) (nI (x % 16)) (nI (x / 16 % 1000))) (show _ = ((nI p).toInt64) from (pu_ok (a := a) (h := a.2.1 :: a.2.2.1.take 13) hcn (k := x % 16) (v := x / 16 % 1000) (by omega) (by omega)).1.trans (congrArg Int32.toInt64 p2)) (show _ = [fS a ((stT (x % 16) (nI (x / 16 % 1000)) (zC a.2.1 (nI (1 + x / 7 % 12)))).2) ((zC a.2.1 (nI (1 + x / 7 % 12))) :: (a.2.1 :: a.2.2.1.take 13).take 13)] from congrArg (fun y => [y]) (pu_ok (a := a) (h := a.2.1 :: a.2.2.1.take 13) hcn (k := x % 16) (v := x / 16 % 1000) (by omega) (by omega)).2)) k_put ⟨Nat.le_of_ble_eq_true rfl, Nat.le_of_ble_eq_true rfl⟩ hw [0] (by decide) rfl (hg_one rfl) rfl hl.1 rfl (Nat.le_of_ble_eq_true rfl) dL_follows_290 ⟨by show _ ≤ (1800 : Nat); omega, by show _ ≤ (10800 : Nat); omega⟩ (fun H locs hw => ?_)
                    have hw : LO D cI cL cZ A s Gs [fS a ((stT (x % 16) (nI (x / 16 % 1000)) (zC a.2.1 (nI (1 + x / 7 % 12)))).2) ((zC a.2.1 (nI (1 + x / 7 % 12))) :: (a.2.1 :: a.2.2.1.take 13).take 13)] H locs := hw
                    refine W.widen (k := 264 + 1 + 1 + 1 + 200 + 1 + 1 + 1) (n := 6 * (264 + 1 + 1 + 1 + 200 + 1 + 1 + 1)) (Nat.le_refl _) (by omega) ?_
                    refine lv_lstore (lv' := [(24, .long ((nI p).toInt64)), (13, .int (1)), (22, .long ((vaZ (afZ a.2.1 (x % 16) (nI (x / 16 % 1000)) (1 + x / 7 % 12)) (nI (x % 16))).toInt64)), (20, .long ((a.2.1.2.1 1).toInt64)), (18, .long ((nI d).toInt64)), (2, .long (nwZ a.2.1)), (4, .int (nI (x % 16))), (5, .int (nI (x / 16 % 1000))), (6, .int (nI (1 + x / 7 % 12))), (7, .long ((vaZ a.2.1 (nI (x % 16))).toInt64)), (9, .long (otZ a.2.1 (x % 16) 16)), (11, .long ((nI (ckZ a.2.1 16)).toInt64)), (0, .ref ((Gs 0).1 1)), (1, .int (nI (x))), (14, .int (bI (a.2.1.1.1 = true))), (15, .int (bI (wnV a.2.1 = 0))), (16, .long ((laV a.2.1 (x % 16)).toInt64))]) hx hb dL_follows_293 hl (by decide) rfl (fun ls hl => ?_)
                    refine lv_iload hx hb dL_follows_295 (lv_at hl 1 rfl) ?_
                    refine lv_if_eq (tgt := 382) hx hb dL_follows_297 (by decide) (fun c297 => ?_) (fun c297 => ?_)
                    · skip
                      exact absurd c297 (by decide)
                    · skip
                      refine lv_lload hx hb dL_follows_300 (lv_at hl 0 rfl) ?_
                      refine lv_ldc2 (v := (-2)) hx hb hown (hts _ (mlA 197 rfl)) dL_follows_302 ?_
                      refine W.lcmp hx hb dL_follows_305 ?_
                      refine lv_if_ne (tgt := 313) hx hb dL_follows_306 (by decide) (fun c306 => ?_) (fun c306 => ?_)
                      · skip
                        have c306 := (fun z => c306 ((lg_cmp_eq _ _).mpr z))
                        refine lv_iconst (v := 0) hx hb dL_follows_313 (by decide) ?_
                        refine lv_iload hx hb dL_follows_314 (lv_at hl 8 rfl) ?_
                        refine lv_i2l (v := (nI (1 + x / 7 % 12) : Int32).toInt64) hx hb dL_follows_316 rfl ?_
                        refine lv_lload hx hb dL_follows_317 (lv_at hl 4 rfl) ?_
                        refine W.lcmp hx hb dL_follows_319 ?_
                        refine lv_if_gt (tgt := 327) hx hb dL_follows_320 (by decide) (fun c320 => ?_) (fun c320 => ?_)
                        · skip
                          have c320 := (lg_cmp_gt _ _).mp c320
                          refine lv_iconst (v := 0) hx hb dL_follows_327 (by decide) ?_
                          refine lv_icmp_ne (tgt := 382) hx hb dL_follows_328 (by decide) (fun c328 => ?_) (fun c328 => ?_)
                          · skip
                            exact absurd c328 (by decide)
                          · skip
                            refine lv_aload_n hx hb dL_follows_331 rfl (lv_at hl 12 rfl) ?_
                            refine lv_iconst (v := 2) hx hb dL_follows_332 (by decide) ?_
                            refine lo_callX hF (lx_eq (x_about (Gs := fun _ => Gs 0) hst hG (fS_go hn9 hIp) 2) (show _ = 1 from ab_2.trans (by rw [show (fS a _ _).2.1.1.1 = true from p3]; decide)) (show _ = [fS a ((stT (x % 16) (nI (x / 16 % 1000)) (zC a.2.1 (nI (1 + x / 7 % 12)))).2) ((zC a.2.1 (nI (1 + x / 7 % 12))) :: (a.2.1 :: a.2.2.1.take 13).take 13)] from rfl)) k_about ⟨Nat.le_of_ble_eq_true rfl, Nat.le_of_ble_eq_true rfl⟩ hw [0] (by decide) rfl (hg_one rfl) rfl hl.1 rfl (Nat.le_of_ble_eq_true rfl) dL_follows_333 ⟨by show _ ≤ (1800 : Nat); omega, by show _ ≤ (10800 : Nat); omega⟩ (fun H locs hw => ?_)
                            have hw : LO D cI cL cZ A s Gs [fS a ((stT (x % 16) (nI (x / 16 % 1000)) (zC a.2.1 (nI (1 + x / 7 % 12)))).2) ((zC a.2.1 (nI (1 + x / 7 % 12))) :: (a.2.1 :: a.2.2.1.take 13).take 13)] H locs := hw
                            refine W.widen (k := 264 + 1 + 1 + 1 + 200 + 1 + 1 + 1 + 1) (n := 6 * (264 + 1 + 1 + 1 + 200 + 1 + 1 + 1 + 1)) (Nat.le_refl _) (by omega) ?_
                            refine lv_lload hx hb dL_follows_336 (lv_at hl 0 rfl) ?_
                            refine lv_ldc2 (v := (-2)) hx hb hown (hts _ (mlA 197 rfl)) dL_follows_338 ?_
                            refine W.lcmp hx hb dL_follows_341 ?_
                            refine lv_if_ne (tgt := 349) hx hb dL_follows_342 (by decide) (fun c342 => ?_) (fun c342 => ?_)
                            · skip
                              have c342 := (fun z => c342 ((lg_cmp_eq _ _).mpr z))
                              refine lv_lconst (v := 1) hx hb dL_follows_349 (by decide) ?_
                              refine W.lcmp hx hb dL_follows_350 ?_
                              refine lv_if_ne (tgt := 382) hx hb dL_follows_351 (by decide) (fun c351 => ?_) (fun c351 => ?_)
                              · skip
                                exact (c351 ((lg_cmp_eq _ _).mpr rfl)).elim
                              · skip
                                have c351 := (lg_cmp_eq _ _).mp c351
                                refine lv_aload_n hx hb dL_follows_354 rfl (lv_at hl 12 rfl) ?_
                                refine lv_iload hx hb dL_follows_355 (lv_at hl 6 rfl) ?_
                                refine lo_callJ hF (lj_eq (c_valueOf l hst D cI cL cZ (fun _ => Gs 0) hG (fS a ((stT (x % 16) (nI (x / 16 % 1000)) (zC a.2.1 (nI (1 + x / 7 % 12)))).2) ((zC a.2.1 (nI (1 + x / 7 % 12))) :: (a.2.1 :: a.2.2.1.take 13).take 13)) (fS_go hn9 hIp) (x % 16) (by omega)) (show _ = ((vaZ (afZ a.2.1 (x % 16) (nI (x / 16 % 1000)) (1 + x / 7 % 12)) (nI (x % 16))).toInt64) from congrArg Int32.toInt64 va_zSw.symm) rfl) k_valueOf ⟨Nat.le_of_ble_eq_true rfl, Nat.le_of_ble_eq_true rfl⟩ hw [0] (by decide) rfl (hg_one rfl) rfl hl.1 rfl (Nat.le_of_ble_eq_true rfl) dL_follows_357 ⟨by show _ ≤ (1800 : Nat); omega, by show _ ≤ (10800 : Nat); omega⟩ (fun H locs hw => ?_)
                                have hw : LO D cI cL cZ A s Gs [fS a ((stT (x % 16) (nI (x / 16 % 1000)) (zC a.2.1 (nI (1 + x / 7 % 12)))).2) ((zC a.2.1 (nI (1 + x / 7 % 12))) :: (a.2.1 :: a.2.2.1.take 13).take 13)] H locs := hw
                                refine W.widen (k := 264 + 1 + 1 + 1 + 200 + 1 + 1 + 1 + 1 + 2) (n := 6 * (264 + 1 + 1 + 1 + 200 + 1 + 1 + 1 + 1 + 2)) (Nat.le_refl _) (by omega) ?_
                                refine lv_lload hx hb dL_follows_360 (lv_at hl 2 rfl) ?_
                                refine W.lcmp hx hb dL_follows_362 ?_
                                refine lv_if_ne (tgt := 382) hx hb dL_follows_363 (by decide) (fun c363 => ?_) (fun c363 => ?_)
                                · skip
                                  exact (c363 ((lg_cmp_eq _ _).mpr rfl)).elim
                                · skip
                                  have c363 := (lg_cmp_eq _ _).mp c363
                                  refine lv_aload_n hx hb dL_follows_366 rfl (lv_at hl 12 rfl) ?_
                                  refine lv_iload hx hb dL_follows_367 (lv_at hl 6 rfl) ?_
                                  refine lo_callJ hF (lj_eq (c_others l hst D cI cL cZ (fun _ => Gs 0) hG (fS a ((stT (x % 16) (nI (x / 16 % 1000)) (zC a.2.1 (nI (1 + x / 7 % 12)))).2) ((zC a.2.1 (nI (1 + x / 7 % 12))) :: (a.2.1 :: a.2.2.1.take 13).take 13)) (fS_go hn9 hIp) (x % 16) (by omega)) (show _ = (otZ a.2.1 (x % 16) 16) from ot_eq (fun j h1 h2 => (p6 j h1).trans (if_neg h2)) 16 (Nat.le_refl _)) rfl) k_others ⟨Nat.le_of_ble_eq_true rfl, Nat.le_of_ble_eq_true rfl⟩ hw [0] (by decide) rfl (hg_one rfl) rfl hl.1 rfl (Nat.le_of_ble_eq_true rfl) dL_follows_369 ⟨by show _ ≤ (1800 : Nat); omega, by show _ ≤ (10800 : Nat); omega⟩ (fun H locs hw => ?_)
                                  have hw : LO D cI cL cZ A s Gs [fS a ((stT (x % 16) (nI (x / 16 % 1000)) (zC a.2.1 (nI (1 + x / 7 % 12)))).2) ((zC a.2.1 (nI (1 + x / 7 % 12))) :: (a.2.1 :: a.2.2.1.take 13).take 13)] H locs := hw
                                  refine W.widen (k := 264 + 1 + 1 + 1 + 200 + 1 + 1 + 1 + 1 + 2 + 50) (n := 6 * (264 + 1 + 1 + 1 + 200 + 1 + 1 + 1 + 1 + 2 + 50)) (Nat.le_refl _) (by omega) ?_
                                  refine lv_lload hx hb dL_follows_372 (lv_at hl 10 rfl) ?_
                                  refine W.lcmp hx hb dL_follows_374 ?_
                                  refine lv_if_ne (tgt := 382) hx hb dL_follows_375 (by decide) (fun c375 => ?_) (fun c375 => ?_)
                                  · skip
                                    exact (c375 ((lg_cmp_eq _ _).mpr rfl)).elim
                                  · skip
                                    have c375 := (lg_cmp_eq _ _).mp c375
                                    refine lv_iconst (v := 1) hx hb dL_follows_378 (by decide) ?_
                                    refine lv_goto (tgt := 383) hx hb dL_follows_379 (by decide) ?_
                                    refine lv_istore (lv' := [(13, .int (1)), (24, .long ((nI p).toInt64)), (22, .long ((vaZ (afZ a.2.1 (x % 16) (nI (x / 16 % 1000)) (1 + x / 7 % 12)) (nI (x % 16))).toInt64)), (20, .long ((a.2.1.2.1 1).toInt64)), (18, .long ((nI d).toInt64)), (2, .long (nwZ a.2.1)), (4, .int (nI (x % 16))), (5, .int (nI (x / 16 % 1000))), (6, .int (nI (1 + x / 7 % 12))), (7, .long ((vaZ a.2.1 (nI (x % 16))).toInt64)), (9, .long (otZ a.2.1 (x % 16) 16)), (11, .long ((nI (ckZ a.2.1 16)).toInt64)), (0, .ref ((Gs 0).1 1)), (1, .int (nI (x))), (14, .int (bI (a.2.1.1.1 = true))), (15, .int (bI (wnV a.2.1 = 0))), (16, .long ((laV a.2.1 (x % 16)).toInt64))]) hx hb dL_follows_383 hl (by decide) rfl (fun ls hl => ?_)
                                    refine lv_lload hx hb dL_follows_385 (lv_at hl 1 rfl) ?_
                                    refine lv_ldc2 (v := (-2)) hx hb hown (hts _ (mlA 197 rfl)) dL_follows_387 ?_
                                    refine W.lcmp hx hb dL_follows_390 ?_
                                    refine lv_if_ne (tgt := 452) hx hb dL_follows_391 (by decide) (fun c391 => ?_) (fun c391 => ?_)
                                    · skip
                                      have c391 := (fun z => c391 ((lg_cmp_eq _ _).mpr z))
                                      have hw : LO D cI cL cZ A s Gs [fS a ((stT (x % 16) (nI (x / 16 % 1000)) (zC a.2.1 (nI (1 + x / 7 % 12)))).2) ((zC a.2.1 (nI (1 + x / 7 % 12))) :: a.2.1 :: ((a.2.2.1.take 13).take 12))] H locs := by
                                        rw [show ([fS a ((stT (x % 16) (nI (x / 16 % 1000)) (zC a.2.1 (nI (1 + x / 7 % 12)))).2) ((zC a.2.1 (nI (1 + x / 7 % 12))) :: a.2.1 :: ((a.2.2.1.take 13).take 12))] : List AS) = [fS a ((stT (x % 16) (nI (x / 16 % 1000)) (zC a.2.1 (nI (1 + x / 7 % 12)))).2) ((zC a.2.1 (nI (1 + x / 7 % 12))) :: (a.2.1 :: a.2.2.1.take 13).take 13)] from rfl]
                                        exact hw
                                      exact W.widen (by omega) (by omega) (JP452 ((a.2.2.1.take 13).take 12) _ _ _ (by first | omega | (simp; omega)) hw (lv_sub hl [5, 6, 7, 8, 9, 10, 11, 0, 12, 13, 14, 15, 4, 2] rfl))
                                    · skip
                                      have c391 := (lg_cmp_eq _ _).mp c391
                                      exact absurd c391 (so_n2 (by omega))
                            · skip
                              have c342 := (lg_cmp_eq _ _).mp c342
                              exact absurd c342 (so_n2 (by omega))
                        · skip
                          have c320 := (fun z => c320 ((lg_cmp_gt _ _).mpr z))
                          exact absurd ((jl_lt (a := d) (b := 1 + x / 7 % 12) (by omega) (by omega)).mpr c215) c320
                      · skip
                        have c306 := (lg_cmp_eq _ _).mp c306
                        exact absurd c306 (so_n2 (by omega))
        · skip
          have c215 := (fun z => c215 ((lg_cmp_gt _ _).mpr z))
          have c215 : ¬ d < 1 + x / 7 % 12 := fun z => c215 ((jl_lt (a := d) (b := 1 + x / 7 % 12) (by omega) (by omega)).mpr z)
          obtain ⟨q1, q2, q3, q4⟩ := put_cut hX hcs (k := x % 16) (v := x / 16 % 1000) (c := 1 + x / 7 % 12) (d := d) (by omega) (by omega) (by omega) (by omega) hd (by omega) (by omega)
          refine lv_lload hx hb dL_follows_218 (lv_at hl 0 rfl) ?_
          refine lv_lload hx hb dL_follows_220 (lv_at hl 7 rfl) ?_
          refine W.lcmp hx hb dL_follows_222 ?_
          refine lv_if_ne (tgt := 282) hx hb dL_follows_223 (by decide) (fun c223 => ?_) (fun c223 => ?_)
          · skip
            have c223 := (fun z => c223 ((lg_cmp_eq _ _).mpr z))
            exact (c223 (congrArg Int32.toInt64 (va_zSw.trans (q4 (x % 16) (by omega))))).elim
          · skip
            have c223 := (lg_cmp_eq _ _).mp c223
            refine lv_iload hx hb dL_follows_226 (lv_at hl 6 rfl) ?_
            refine lv_i2l (v := (nI (1 + x / 7 % 12) : Int32).toInt64) hx hb dL_follows_228 rfl ?_
            refine lv_lload hx hb dL_follows_229 (lv_at hl 2 rfl) ?_
            refine W.lcmp hx hb dL_follows_231 ?_
            refine lv_if_le (tgt := 244) hx hb dL_follows_232 (by decide) (fun c232 => ?_) (fun c232 => ?_)
            · skip
              have c232 := (lg_cmp_le _ _).mp c232
              refine lv_aload_n hx hb dL_follows_244 rfl (lv_at hl 11 rfl) ?_
              refine lo_callJ hF (lj_eq (c_now l hst D cI cL cZ (fun _ => Gs 0) hG (fS a a.2.1 a.2.2.1) (fS_go hn9 hX.1) ) (show _ = (nwZ a.2.1) from rfl) rfl) k_now ⟨Nat.le_of_ble_eq_true rfl, Nat.le_of_ble_eq_true rfl⟩ hw [0] (by decide) rfl (hg_one rfl) rfl hl.1 rfl (Nat.le_of_ble_eq_true rfl) dL_follows_245 ⟨by show _ ≤ (1800 : Nat); omega, by show _ ≤ (10800 : Nat); omega⟩ (fun H locs hw => ?_)
              have hw : LO D cI cL cZ A s Gs [fS a a.2.1 a.2.2.1] H locs := hw
              refine W.widen (k := 264 + 1 + 1 + 1 + 200) (n := 6 * (264 + 1 + 1 + 1 + 200)) (Nat.le_refl _) (by omega) ?_
              refine lv_lload_n hx hb dL_follows_248 rfl (lv_at hl 3 rfl) ?_
              refine W.lcmp hx hb dL_follows_249 ?_
              refine lv_if_ne (tgt := 282) hx hb dL_follows_250 (by decide) (fun c250 => ?_) (fun c250 => ?_)
              · skip
                exact (c250 ((lg_cmp_eq _ _).mpr rfl)).elim
              · skip
                have c250 := (lg_cmp_eq _ _).mp c250
                refine lv_aload_n hx hb dL_follows_253 rfl (lv_at hl 11 rfl) ?_
                refine lv_iload hx hb dL_follows_254 (lv_at hl 6 rfl) ?_
                refine lo_callX hF (lx_eq (x_cut (Gs := fun _ => Gs 0) hst hG (fS_go hn9 hX.1) (nI (1 + x / 7 % 12))) (show _ = ((a.2.1.2.1 1).toInt64) from (cu_ok (a := a) (h := a.2.2.1) hon9 (n := 1 + x / 7 % 12) (by omega)).1) (show _ = [fS a (zC a.2.1 (nI (1 + x / 7 % 12))) (a.2.1 :: a.2.2.1.take 13)] from congrArg (fun y => [y]) (cu_ok (a := a) (h := a.2.2.1) hon9 (n := 1 + x / 7 % 12) (by omega)).2)) k_cut ⟨Nat.le_of_ble_eq_true rfl, Nat.le_of_ble_eq_true rfl⟩ hw [0] (by decide) rfl (hg_one rfl) rfl hl.1 rfl (Nat.le_of_ble_eq_true rfl) dL_follows_256 ⟨by show _ ≤ (1800 : Nat); omega, by show _ ≤ (10800 : Nat); omega⟩ (fun H locs hw => ?_)
                have hw : LO D cI cL cZ A s Gs [fS a (zC a.2.1 (nI (1 + x / 7 % 12))) (a.2.1 :: a.2.2.1.take 13)] H locs := hw
                refine W.widen (k := 264 + 1 + 1 + 1 + 200 + 1) (n := 6 * (264 + 1 + 1 + 1 + 200 + 1)) (Nat.le_refl _) (by omega) ?_
                refine lv_lload hx hb dL_follows_259 (lv_at hl 1 rfl) ?_
                refine W.lcmp hx hb dL_follows_261 ?_
                refine lv_if_ne (tgt := 282) hx hb dL_follows_262 (by decide) (fun c262 => ?_) (fun c262 => ?_)
                · skip
                  exact (c262 ((lg_cmp_eq _ _).mpr rfl)).elim
                · skip
                  have c262 := (lg_cmp_eq _ _).mp c262
                  refine lv_aload_n hx hb dL_follows_265 rfl (lv_at hl 11 rfl) ?_
                  refine lv_bipush (v := 11) hx hb dL_follows_266 (by decide) ?_
                  refine lo_callX hF (lx_eq (x_about (Gs := fun _ => Gs 0) hst hG (fS_go hn9 hIc) 11) (show _ = ((nI (1 + x / 7 % 12) : Int32).toInt64) from ab_11) (show _ = [fS a (zC a.2.1 (nI (1 + x / 7 % 12))) (a.2.1 :: a.2.2.1.take 13)] from rfl)) k_about ⟨Nat.le_of_ble_eq_true rfl, Nat.le_of_ble_eq_true rfl⟩ hw [0] (by decide) rfl (hg_one rfl) rfl hl.1 rfl (Nat.le_of_ble_eq_true rfl) dL_follows_268 ⟨by show _ ≤ (1800 : Nat); omega, by show _ ≤ (10800 : Nat); omega⟩ (fun H locs hw => ?_)
                  have hw : LO D cI cL cZ A s Gs [fS a (zC a.2.1 (nI (1 + x / 7 % 12))) (a.2.1 :: a.2.2.1.take 13)] H locs := hw
                  refine W.widen (k := 264 + 1 + 1 + 1 + 200 + 1 + 1) (n := 6 * (264 + 1 + 1 + 1 + 200 + 1 + 1)) (Nat.le_refl _) (by omega) ?_
                  refine lv_iload hx hb dL_follows_271 (lv_at hl 6 rfl) ?_
                  refine lv_i2l (v := (nI (1 + x / 7 % 12) : Int32).toInt64) hx hb dL_follows_273 rfl ?_
                  refine W.lcmp hx hb dL_follows_274 ?_
                  refine lv_if_ne (tgt := 282) hx hb dL_follows_275 (by decide) (fun c275 => ?_) (fun c275 => ?_)
                  · skip
                    exact (c275 ((lg_cmp_eq _ _).mpr rfl)).elim
                  · skip
                    have c275 := (lg_cmp_eq _ _).mp c275
                    refine lv_iconst (v := 1) hx hb dL_follows_278 (by decide) ?_
                    refine lv_goto (tgt := 283) hx hb dL_follows_279 (by decide) ?_
                    refine lv_istore (lv' := [(13, .int (1)), (22, .long ((vaZ (afZ a.2.1 (x % 16) (nI (x / 16 % 1000)) (1 + x / 7 % 12)) (nI (x % 16))).toInt64)), (20, .long ((a.2.1.2.1 1).toInt64)), (18, .long ((nI d).toInt64)), (2, .long (nwZ a.2.1)), (4, .int (nI (x % 16))), (5, .int (nI (x / 16 % 1000))), (6, .int (nI (1 + x / 7 % 12))), (7, .long ((vaZ a.2.1 (nI (x % 16))).toInt64)), (9, .long (otZ a.2.1 (x % 16) 16)), (11, .long ((nI (ckZ a.2.1 16)).toInt64)), (0, .ref ((Gs 0).1 1)), (1, .int (nI (x))), (14, .int (bI (a.2.1.1.1 = true))), (15, .int (bI (wnV a.2.1 = 0))), (16, .long ((laV a.2.1 (x % 16)).toInt64))]) hx hb dL_follows_283 hl (by decide) rfl (fun ls hl => ?_)
                    refine lv_aload_n hx hb dL_follows_285 rfl (lv_at hl 11 rfl) ?_
                    refine lv_iload hx hb dL_follows_286 (lv_at hl 5 rfl) ?_
                    refine lv_iload hx hb dL_follows_288 (lv_at hl 6 rfl) ?_
                    refine lo_callX hF (lx_eq (x_put (Gs := fun _ => Gs 0) hst hG (fS_go hn9 hIc) (nI (x % 16)) (nI (x / 16 % 1000))) (show _ = (-2) from (pu_ok (a := a) (h := a.2.1 :: a.2.2.1.take 13) hcn (k := x % 16) (v := x / 16 % 1000) (by omega) (by omega)).1.trans ((congrArg Int32.toInt64 q1).trans (by decide))) (show _ = [fS a ((stT (x % 16) (nI (x / 16 % 1000)) (zC a.2.1 (nI (1 + x / 7 % 12)))).2) ((zC a.2.1 (nI (1 + x / 7 % 12))) :: (a.2.1 :: a.2.2.1.take 13).take 13)] from congrArg (fun y => [y]) (pu_ok (a := a) (h := a.2.1 :: a.2.2.1.take 13) hcn (k := x % 16) (v := x / 16 % 1000) (by omega) (by omega)).2)) k_put ⟨Nat.le_of_ble_eq_true rfl, Nat.le_of_ble_eq_true rfl⟩ hw [0] (by decide) rfl (hg_one rfl) rfl hl.1 rfl (Nat.le_of_ble_eq_true rfl) dL_follows_290 ⟨by show _ ≤ (1800 : Nat); omega, by show _ ≤ (10800 : Nat); omega⟩ (fun H locs hw => ?_)
                    have hw : LO D cI cL cZ A s Gs [fS a ((stT (x % 16) (nI (x / 16 % 1000)) (zC a.2.1 (nI (1 + x / 7 % 12)))).2) ((zC a.2.1 (nI (1 + x / 7 % 12))) :: (a.2.1 :: a.2.2.1.take 13).take 13)] H locs := hw
                    refine W.widen (k := 264 + 1 + 1 + 1 + 200 + 1 + 1 + 1) (n := 6 * (264 + 1 + 1 + 1 + 200 + 1 + 1 + 1)) (Nat.le_refl _) (by omega) ?_
                    refine lv_lstore (lv' := [(24, .long ((-2))), (13, .int (1)), (22, .long ((vaZ (afZ a.2.1 (x % 16) (nI (x / 16 % 1000)) (1 + x / 7 % 12)) (nI (x % 16))).toInt64)), (20, .long ((a.2.1.2.1 1).toInt64)), (18, .long ((nI d).toInt64)), (2, .long (nwZ a.2.1)), (4, .int (nI (x % 16))), (5, .int (nI (x / 16 % 1000))), (6, .int (nI (1 + x / 7 % 12))), (7, .long ((vaZ a.2.1 (nI (x % 16))).toInt64)), (9, .long (otZ a.2.1 (x % 16) 16)), (11, .long ((nI (ckZ a.2.1 16)).toInt64)), (0, .ref ((Gs 0).1 1)), (1, .int (nI (x))), (14, .int (bI (a.2.1.1.1 = true))), (15, .int (bI (wnV a.2.1 = 0))), (16, .long ((laV a.2.1 (x % 16)).toInt64))]) hx hb dL_follows_293 hl (by decide) rfl (fun ls hl => ?_)
                    refine lv_iload hx hb dL_follows_295 (lv_at hl 1 rfl) ?_
                    refine lv_if_eq (tgt := 382) hx hb dL_follows_297 (by decide) (fun c297 => ?_) (fun c297 => ?_)
                    · skip
                      exact absurd c297 (by decide)
                    · skip
                      refine lv_lload hx hb dL_follows_300 (lv_at hl 0 rfl) ?_
                      refine lv_ldc2 (v := (-2)) hx hb hown (hts _ (mlA 197 rfl)) dL_follows_302 ?_
                      refine W.lcmp hx hb dL_follows_305 ?_
                      refine lv_if_ne (tgt := 313) hx hb dL_follows_306 (by decide) (fun c306 => ?_) (fun c306 => ?_)
                      · skip
                        exact (c306 ((lg_cmp_eq _ _).mpr rfl)).elim
                      · skip
                        have c306 := (lg_cmp_eq _ _).mp c306
                        refine lv_iconst (v := 1) hx hb dL_follows_309 (by decide) ?_
                        refine lv_goto (tgt := 314) hx hb dL_follows_310 (by decide) ?_
                        refine lv_iload hx hb dL_follows_314 (lv_at hl 8 rfl) ?_
                        refine lv_i2l (v := (nI (1 + x / 7 % 12) : Int32).toInt64) hx hb dL_follows_316 rfl ?_
                        refine lv_lload hx hb dL_follows_317 (lv_at hl 4 rfl) ?_
                        refine W.lcmp hx hb dL_follows_319 ?_
                        refine lv_if_gt (tgt := 327) hx hb dL_follows_320 (by decide) (fun c320 => ?_) (fun c320 => ?_)
                        · skip
                          have c320 := (lg_cmp_gt _ _).mp c320
                          exact absurd ((jl_lt (a := d) (b := 1 + x / 7 % 12) (by omega) (by omega)).mp c320) c215
                        · skip
                          have c320 := (fun z => c320 ((lg_cmp_gt _ _).mpr z))
                          refine lv_iconst (v := 1) hx hb dL_follows_323 (by decide) ?_
                          refine lv_goto (tgt := 328) hx hb dL_follows_324 (by decide) ?_
                          refine lv_icmp_ne (tgt := 382) hx hb dL_follows_328 (by decide) (fun c328 => ?_) (fun c328 => ?_)
                          · skip
                            exact absurd c328 (by decide)
                          · skip
                            refine lv_aload_n hx hb dL_follows_331 rfl (lv_at hl 12 rfl) ?_
                            refine lv_iconst (v := 2) hx hb dL_follows_332 (by decide) ?_
                            refine lo_callX hF (lx_eq (x_about (Gs := fun _ => Gs 0) hst hG (fS_go hn9 hIp) 2) (show _ = 0 from ab_2.trans (by rw [show (fS a _ _).2.1.1.1 = false from q2]; decide)) (show _ = [fS a ((stT (x % 16) (nI (x / 16 % 1000)) (zC a.2.1 (nI (1 + x / 7 % 12)))).2) ((zC a.2.1 (nI (1 + x / 7 % 12))) :: (a.2.1 :: a.2.2.1.take 13).take 13)] from rfl)) k_about ⟨Nat.le_of_ble_eq_true rfl, Nat.le_of_ble_eq_true rfl⟩ hw [0] (by decide) rfl (hg_one rfl) rfl hl.1 rfl (Nat.le_of_ble_eq_true rfl) dL_follows_333 ⟨by show _ ≤ (1800 : Nat); omega, by show _ ≤ (10800 : Nat); omega⟩ (fun H locs hw => ?_)
                            have hw : LO D cI cL cZ A s Gs [fS a ((stT (x % 16) (nI (x / 16 % 1000)) (zC a.2.1 (nI (1 + x / 7 % 12)))).2) ((zC a.2.1 (nI (1 + x / 7 % 12))) :: (a.2.1 :: a.2.2.1.take 13).take 13)] H locs := hw
                            refine W.widen (k := 264 + 1 + 1 + 1 + 200 + 1 + 1 + 1 + 1) (n := 6 * (264 + 1 + 1 + 1 + 200 + 1 + 1 + 1 + 1)) (Nat.le_refl _) (by omega) ?_
                            refine lv_lload hx hb dL_follows_336 (lv_at hl 0 rfl) ?_
                            refine lv_ldc2 (v := (-2)) hx hb hown (hts _ (mlA 197 rfl)) dL_follows_338 ?_
                            refine W.lcmp hx hb dL_follows_341 ?_
                            refine lv_if_ne (tgt := 349) hx hb dL_follows_342 (by decide) (fun c342 => ?_) (fun c342 => ?_)
                            · skip
                              exact (c342 ((lg_cmp_eq _ _).mpr rfl)).elim
                            · skip
                              have c342 := (lg_cmp_eq _ _).mp c342
                              refine lv_lconst (v := 0) hx hb dL_follows_345 (by decide) ?_
                              refine lv_goto (tgt := 350) hx hb dL_follows_346 (by decide) ?_
                              refine W.lcmp hx hb dL_follows_350 ?_
                              refine lv_if_ne (tgt := 382) hx hb dL_follows_351 (by decide) (fun c351 => ?_) (fun c351 => ?_)
                              · skip
                                exact (c351 ((lg_cmp_eq _ _).mpr rfl)).elim
                              · skip
                                have c351 := (lg_cmp_eq _ _).mp c351
                                refine lv_aload_n hx hb dL_follows_354 rfl (lv_at hl 12 rfl) ?_
                                refine lv_iload hx hb dL_follows_355 (lv_at hl 6 rfl) ?_
                                refine lo_callJ hF (lj_eq (c_valueOf l hst D cI cL cZ (fun _ => Gs 0) hG (fS a ((stT (x % 16) (nI (x / 16 % 1000)) (zC a.2.1 (nI (1 + x / 7 % 12)))).2) ((zC a.2.1 (nI (1 + x / 7 % 12))) :: (a.2.1 :: a.2.2.1.take 13).take 13)) (fS_go hn9 hIp) (x % 16) (by omega)) (show _ = ((vaZ (afZ a.2.1 (x % 16) (nI (x / 16 % 1000)) (1 + x / 7 % 12)) (nI (x % 16))).toInt64) from congrArg Int32.toInt64 va_zSw.symm) rfl) k_valueOf ⟨Nat.le_of_ble_eq_true rfl, Nat.le_of_ble_eq_true rfl⟩ hw [0] (by decide) rfl (hg_one rfl) rfl hl.1 rfl (Nat.le_of_ble_eq_true rfl) dL_follows_357 ⟨by show _ ≤ (1800 : Nat); omega, by show _ ≤ (10800 : Nat); omega⟩ (fun H locs hw => ?_)
                                have hw : LO D cI cL cZ A s Gs [fS a ((stT (x % 16) (nI (x / 16 % 1000)) (zC a.2.1 (nI (1 + x / 7 % 12)))).2) ((zC a.2.1 (nI (1 + x / 7 % 12))) :: (a.2.1 :: a.2.2.1.take 13).take 13)] H locs := hw
                                refine W.widen (k := 264 + 1 + 1 + 1 + 200 + 1 + 1 + 1 + 1 + 2) (n := 6 * (264 + 1 + 1 + 1 + 200 + 1 + 1 + 1 + 1 + 2)) (Nat.le_refl _) (by omega) ?_
                                refine lv_lload hx hb dL_follows_360 (lv_at hl 2 rfl) ?_
                                refine W.lcmp hx hb dL_follows_362 ?_
                                refine lv_if_ne (tgt := 382) hx hb dL_follows_363 (by decide) (fun c363 => ?_) (fun c363 => ?_)
                                · skip
                                  exact (c363 ((lg_cmp_eq _ _).mpr rfl)).elim
                                · skip
                                  have c363 := (lg_cmp_eq _ _).mp c363
                                  refine lv_aload_n hx hb dL_follows_366 rfl (lv_at hl 12 rfl) ?_
                                  refine lv_iload hx hb dL_follows_367 (lv_at hl 6 rfl) ?_
                                  refine lo_callJ hF (lj_eq (c_others l hst D cI cL cZ (fun _ => Gs 0) hG (fS a ((stT (x % 16) (nI (x / 16 % 1000)) (zC a.2.1 (nI (1 + x / 7 % 12)))).2) ((zC a.2.1 (nI (1 + x / 7 % 12))) :: (a.2.1 :: a.2.2.1.take 13).take 13)) (fS_go hn9 hIp) (x % 16) (by omega)) (show _ = (otZ a.2.1 (x % 16) 16) from ot_eq (fun j h1 _ => q4 j h1) 16 (Nat.le_refl _)) rfl) k_others ⟨Nat.le_of_ble_eq_true rfl, Nat.le_of_ble_eq_true rfl⟩ hw [0] (by decide) rfl (hg_one rfl) rfl hl.1 rfl (Nat.le_of_ble_eq_true rfl) dL_follows_369 ⟨by show _ ≤ (1800 : Nat); omega, by show _ ≤ (10800 : Nat); omega⟩ (fun H locs hw => ?_)
                                  have hw : LO D cI cL cZ A s Gs [fS a ((stT (x % 16) (nI (x / 16 % 1000)) (zC a.2.1 (nI (1 + x / 7 % 12)))).2) ((zC a.2.1 (nI (1 + x / 7 % 12))) :: (a.2.1 :: a.2.2.1.take 13).take 13)] H locs := hw
                                  refine W.widen (k := 264 + 1 + 1 + 1 + 200 + 1 + 1 + 1 + 1 + 2 + 50) (n := 6 * (264 + 1 + 1 + 1 + 200 + 1 + 1 + 1 + 1 + 2 + 50)) (Nat.le_refl _) (by omega) ?_
                                  refine lv_lload hx hb dL_follows_372 (lv_at hl 10 rfl) ?_
                                  refine W.lcmp hx hb dL_follows_374 ?_
                                  refine lv_if_ne (tgt := 382) hx hb dL_follows_375 (by decide) (fun c375 => ?_) (fun c375 => ?_)
                                  · skip
                                    exact (c375 ((lg_cmp_eq _ _).mpr rfl)).elim
                                  · skip
                                    have c375 := (lg_cmp_eq _ _).mp c375
                                    refine lv_iconst (v := 1) hx hb dL_follows_378 (by decide) ?_
                                    refine lv_goto (tgt := 383) hx hb dL_follows_379 (by decide) ?_
                                    refine lv_istore (lv' := [(13, .int (1)), (24, .long ((-2))), (22, .long ((vaZ (afZ a.2.1 (x % 16) (nI (x / 16 % 1000)) (1 + x / 7 % 12)) (nI (x % 16))).toInt64)), (20, .long ((a.2.1.2.1 1).toInt64)), (18, .long ((nI d).toInt64)), (2, .long (nwZ a.2.1)), (4, .int (nI (x % 16))), (5, .int (nI (x / 16 % 1000))), (6, .int (nI (1 + x / 7 % 12))), (7, .long ((vaZ a.2.1 (nI (x % 16))).toInt64)), (9, .long (otZ a.2.1 (x % 16) 16)), (11, .long ((nI (ckZ a.2.1 16)).toInt64)), (0, .ref ((Gs 0).1 1)), (1, .int (nI (x))), (14, .int (bI (a.2.1.1.1 = true))), (15, .int (bI (wnV a.2.1 = 0))), (16, .long ((laV a.2.1 (x % 16)).toInt64))]) hx hb dL_follows_383 hl (by decide) rfl (fun ls hl => ?_)
                                    refine lv_lload hx hb dL_follows_385 (lv_at hl 1 rfl) ?_
                                    refine lv_ldc2 (v := (-2)) hx hb hown (hts _ (mlA 197 rfl)) dL_follows_387 ?_
                                    refine W.lcmp hx hb dL_follows_390 ?_
                                    refine lv_if_ne (tgt := 452) hx hb dL_follows_391 (by decide) (fun c391 => ?_) (fun c391 => ?_)
                                    · skip
                                      exact (c391 ((lg_cmp_eq _ _).mpr rfl)).elim
                                    · skip
                                      have c391 := (lg_cmp_eq _ _).mp c391
                                      refine lv_iload hx hb dL_follows_394 (lv_at hl 0 rfl) ?_
                                      refine lv_if_eq (tgt := 452) hx hb dL_follows_396 (by decide) (fun c396 => ?_) (fun c396 => ?_)
                                      · skip
                                        exact absurd c396 (by decide)
                                      · skip
                                        refine lv_aload_n hx hb dL_follows_399 rfl (lv_at hl 12 rfl) ?_
                                        refine lo_callX hF (lx_eq (x_start (Gs := fun _ => Gs 0) hst hG (fS_go hn9 hIp) ) (show _ = ((nI (ckZ (zSw (stT (x % 16) (nI (x / 16 % 1000)) (zC a.2.1 (nI (1 + x / 7 % 12)))).2) 16)).toInt64) from (st_okk (a := a) (z := (stT (x % 16) (nI (x / 16 % 1000)) (zC a.2.1 (nI (1 + x / 7 % 12)))).2) (h := (zC a.2.1 (nI (1 + x / 7 % 12))) :: (a.2.1 :: a.2.2.1.take 13).take 13) (by rw [q2]; decide)).1) (show _ = [fS a (zSw (stT (x % 16) (nI (x / 16 % 1000)) (zC a.2.1 (nI (1 + x / 7 % 12)))).2) ((stT (x % 16) (nI (x / 16 % 1000)) (zC a.2.1 (nI (1 + x / 7 % 12)))).2 :: ((zC a.2.1 (nI (1 + x / 7 % 12))) :: (a.2.1 :: a.2.2.1.take 13).take 13).take 13)] from congrArg (fun y => [y]) (st_okk (a := a) (z := (stT (x % 16) (nI (x / 16 % 1000)) (zC a.2.1 (nI (1 + x / 7 % 12)))).2) (h := (zC a.2.1 (nI (1 + x / 7 % 12))) :: (a.2.1 :: a.2.2.1.take 13).take 13) (by rw [q2]; decide)).2)) k_start ⟨Nat.le_of_ble_eq_true rfl, Nat.le_of_ble_eq_true rfl⟩ hw [0] (by decide) rfl (hg_one rfl) rfl hl.1 rfl (Nat.le_of_ble_eq_true rfl) dL_follows_400 ⟨by show _ ≤ (1800 : Nat); omega, by show _ ≤ (10800 : Nat); omega⟩ (fun H locs hw => ?_)
                                        have hw : LO D cI cL cZ A s Gs [fS a (zSw (stT (x % 16) (nI (x / 16 % 1000)) (zC a.2.1 (nI (1 + x / 7 % 12)))).2) ((stT (x % 16) (nI (x / 16 % 1000)) (zC a.2.1 (nI (1 + x / 7 % 12)))).2 :: ((zC a.2.1 (nI (1 + x / 7 % 12))) :: (a.2.1 :: a.2.2.1.take 13).take 13).take 13)] H locs := hw
                                        refine W.widen (k := 264 + 1 + 1 + 1 + 200 + 1 + 1 + 1 + 1 + 2 + 50 + 1) (n := 6 * (264 + 1 + 1 + 1 + 200 + 1 + 1 + 1 + 1 + 2 + 50 + 1)) (Nat.le_refl _) (by omega) ?_
                                        refine lv_aload_n hx hb dL_follows_403 rfl (lv_at hl 12 rfl) ?_
                                        refine lv_iconst (v := 5) hx hb dL_follows_404 (by decide) ?_
                                        refine lo_callX hF (lx_eq (x_about (Gs := fun _ => Gs 0) hst hG (fS_go hn9 (inv_zSw hIp)) 5) (show _ = ((nI (ckZ (zSw (stT (x % 16) (nI (x / 16 % 1000)) (zC a.2.1 (nI (1 + x / 7 % 12)))).2) 16)).toInt64) from ab_5) (show _ = [fS a (zSw (stT (x % 16) (nI (x / 16 % 1000)) (zC a.2.1 (nI (1 + x / 7 % 12)))).2) ((stT (x % 16) (nI (x / 16 % 1000)) (zC a.2.1 (nI (1 + x / 7 % 12)))).2 :: ((zC a.2.1 (nI (1 + x / 7 % 12))) :: (a.2.1 :: a.2.2.1.take 13).take 13).take 13)] from rfl)) k_about ⟨Nat.le_of_ble_eq_true rfl, Nat.le_of_ble_eq_true rfl⟩ hw [0] (by decide) rfl (hg_one rfl) rfl hl.1 rfl (Nat.le_of_ble_eq_true rfl) dL_follows_405 ⟨by show _ ≤ (1800 : Nat); omega, by show _ ≤ (10800 : Nat); omega⟩ (fun H locs hw => ?_)
                                        have hw : LO D cI cL cZ A s Gs [fS a (zSw (stT (x % 16) (nI (x / 16 % 1000)) (zC a.2.1 (nI (1 + x / 7 % 12)))).2) ((stT (x % 16) (nI (x / 16 % 1000)) (zC a.2.1 (nI (1 + x / 7 % 12)))).2 :: ((zC a.2.1 (nI (1 + x / 7 % 12))) :: (a.2.1 :: a.2.2.1.take 13).take 13).take 13)] H locs := hw
                                        refine W.widen (k := 264 + 1 + 1 + 1 + 200 + 1 + 1 + 1 + 1 + 2 + 50 + 1 + 1) (n := 6 * (264 + 1 + 1 + 1 + 200 + 1 + 1 + 1 + 1 + 2 + 50 + 1 + 1)) (Nat.le_refl _) (by omega) ?_
                                        refine W.lcmp hx hb dL_follows_408 ?_
                                        refine lv_if_ne (tgt := 449) hx hb dL_follows_409 (by decide) (fun c409 => ?_) (fun c409 => ?_)
                                        · skip
                                          exact (c409 ((lg_cmp_eq _ _).mpr rfl)).elim
                                        · skip
                                          have c409 := (lg_cmp_eq _ _).mp c409
                                          refine lv_aload_n hx hb dL_follows_412 rfl (lv_at hl 12 rfl) ?_
                                          refine lv_iload hx hb dL_follows_413 (lv_at hl 6 rfl) ?_
                                          refine lo_callX hF (lx_eq (x_get (Gs := fun _ => Gs 0) hst hG (fS_go hn9 (inv_zSw hIp)) (nI (x % 16))) (show _ = ((vaZ (afZ a.2.1 (x % 16) (nI (x / 16 % 1000)) (1 + x / 7 % 12)) (nI (x % 16))).toInt64) from ge_J (by omega) (zSw_up _)) (show _ = [fS a (zSw (stT (x % 16) (nI (x / 16 % 1000)) (zC a.2.1 (nI (1 + x / 7 % 12)))).2) ((stT (x % 16) (nI (x / 16 % 1000)) (zC a.2.1 (nI (1 + x / 7 % 12)))).2 :: ((zC a.2.1 (nI (1 + x / 7 % 12))) :: (a.2.1 :: a.2.2.1.take 13).take 13).take 13)] from rfl)) k_get ⟨Nat.le_of_ble_eq_true rfl, Nat.le_of_ble_eq_true rfl⟩ hw [0] (by decide) rfl (hg_one rfl) rfl hl.1 rfl (Nat.le_of_ble_eq_true rfl) dL_follows_415 ⟨by show _ ≤ (1800 : Nat); omega, by show _ ≤ (10800 : Nat); omega⟩ (fun H locs hw => ?_)
                                          have hw : LO D cI cL cZ A s Gs [fS a (zSw (stT (x % 16) (nI (x / 16 % 1000)) (zC a.2.1 (nI (1 + x / 7 % 12)))).2) ((stT (x % 16) (nI (x / 16 % 1000)) (zC a.2.1 (nI (1 + x / 7 % 12)))).2 :: ((zC a.2.1 (nI (1 + x / 7 % 12))) :: (a.2.1 :: a.2.2.1.take 13).take 13).take 13)] H locs := hw
                                          refine W.widen (k := 264 + 1 + 1 + 1 + 200 + 1 + 1 + 1 + 1 + 2 + 50 + 1 + 1 + 1) (n := 6 * (264 + 1 + 1 + 1 + 200 + 1 + 1 + 1 + 1 + 2 + 50 + 1 + 1 + 1)) (Nat.le_refl _) (by omega) ?_
                                          refine lv_lload hx hb dL_follows_418 (lv_at hl 2 rfl) ?_
                                          refine W.lcmp hx hb dL_follows_420 ?_
                                          refine lv_if_ne (tgt := 449) hx hb dL_follows_421 (by decide) (fun c421 => ?_) (fun c421 => ?_)
                                          · skip
                                            exact (c421 ((lg_cmp_eq _ _).mpr rfl)).elim
                                          · skip
                                            have c421 := (lg_cmp_eq _ _).mp c421
                                            refine lv_aload_n hx hb dL_follows_424 rfl (lv_at hl 12 rfl) ?_
                                            refine lv_iload hx hb dL_follows_425 (lv_at hl 6 rfl) ?_
                                            refine lo_callJ hF (lj_eq (c_others l hst D cI cL cZ (fun _ => Gs 0) hG (fS a (zSw (stT (x % 16) (nI (x / 16 % 1000)) (zC a.2.1 (nI (1 + x / 7 % 12)))).2) ((stT (x % 16) (nI (x / 16 % 1000)) (zC a.2.1 (nI (1 + x / 7 % 12)))).2 :: ((zC a.2.1 (nI (1 + x / 7 % 12))) :: (a.2.1 :: a.2.2.1.take 13).take 13).take 13)) (fS_go hn9 (inv_zSw hIp)) (x % 16) (by omega)) (show _ = (otZ a.2.1 (x % 16) 16) from ot_eq (fun j h1 _ => va_zSw.trans (q4 j h1)) 16 (Nat.le_refl _)) rfl) k_others ⟨Nat.le_of_ble_eq_true rfl, Nat.le_of_ble_eq_true rfl⟩ hw [0] (by decide) rfl (hg_one rfl) rfl hl.1 rfl (Nat.le_of_ble_eq_true rfl) dL_follows_427 ⟨by show _ ≤ (1800 : Nat); omega, by show _ ≤ (10800 : Nat); omega⟩ (fun H locs hw => ?_)
                                            have hw : LO D cI cL cZ A s Gs [fS a (zSw (stT (x % 16) (nI (x / 16 % 1000)) (zC a.2.1 (nI (1 + x / 7 % 12)))).2) ((stT (x % 16) (nI (x / 16 % 1000)) (zC a.2.1 (nI (1 + x / 7 % 12)))).2 :: ((zC a.2.1 (nI (1 + x / 7 % 12))) :: (a.2.1 :: a.2.2.1.take 13).take 13).take 13)] H locs := hw
                                            refine W.widen (k := 264 + 1 + 1 + 1 + 200 + 1 + 1 + 1 + 1 + 2 + 50 + 1 + 1 + 1 + 50) (n := 6 * (264 + 1 + 1 + 1 + 200 + 1 + 1 + 1 + 1 + 2 + 50 + 1 + 1 + 1 + 50)) (Nat.le_refl _) (by omega) ?_
                                            refine lv_lload hx hb dL_follows_430 (lv_at hl 10 rfl) ?_
                                            refine W.lcmp hx hb dL_follows_432 ?_
                                            refine lv_if_ne (tgt := 449) hx hb dL_follows_433 (by decide) (fun c433 => ?_) (fun c433 => ?_)
                                            · skip
                                              exact (c433 ((lg_cmp_eq _ _).mpr rfl)).elim
                                            · skip
                                              have c433 := (lg_cmp_eq _ _).mp c433
                                              refine lv_aload_n hx hb dL_follows_436 rfl (lv_at hl 12 rfl) ?_
                                              refine lo_callX hF (lx_eq (x_undo (Gs := fun _ => Gs 0) hst hG (fS_go hn9 (inv_zSw hIp)) ) (show _ = ((nI (((zC a.2.1 (nI (1 + x / 7 % 12))) :: (a.2.1 :: a.2.2.1.take 13).take 13).take 13).length).toInt64) from un_ok.1) (show _ = [fS a ((stT (x % 16) (nI (x / 16 % 1000)) (zC a.2.1 (nI (1 + x / 7 % 12)))).2) (((zC a.2.1 (nI (1 + x / 7 % 12))) :: (a.2.1 :: a.2.2.1.take 13).take 13).take 13)] from rfl)) k_undo ⟨Nat.le_of_ble_eq_true rfl, Nat.le_of_ble_eq_true rfl⟩ hw [0] (by decide) rfl (hg_one rfl) rfl hl.1 rfl (Nat.le_of_ble_eq_true rfl) dL_follows_437 ⟨by show _ ≤ (1800 : Nat); omega, by show _ ≤ (10800 : Nat); omega⟩ (fun H locs hw => ?_)
                                              have hw : LO D cI cL cZ A s Gs [fS a ((stT (x % 16) (nI (x / 16 % 1000)) (zC a.2.1 (nI (1 + x / 7 % 12)))).2) (((zC a.2.1 (nI (1 + x / 7 % 12))) :: (a.2.1 :: a.2.2.1.take 13).take 13).take 13)] H locs := hw
                                              refine W.widen (k := 264 + 1 + 1 + 1 + 200 + 1 + 1 + 1 + 1 + 2 + 50 + 1 + 1 + 1 + 50 + 1) (n := 6 * (264 + 1 + 1 + 1 + 200 + 1 + 1 + 1 + 1 + 2 + 50 + 1 + 1 + 1 + 50 + 1)) (Nat.le_refl _) (by omega) ?_
                                              refine lv_lconst (v := 0) hx hb dL_follows_440 (by decide) ?_
                                              refine W.lcmp hx hb dL_follows_441 ?_
                                              refine lv_if_lt (tgt := 449) hx hb dL_follows_442 (by decide) (fun c442 => ?_) (fun c442 => ?_)
                                              · skip
                                                have c442 := (lg_cmp_lt _ _).mp c442
                                                exact absurd c442 (un_ge (by first | omega | (simp; omega)))
                                              · skip
                                                have c442 := (fun z => c442 ((lg_cmp_lt _ _).mpr z))
                                                refine lv_iconst (v := 1) hx hb dL_follows_445 (by decide) ?_
                                                refine lv_goto (tgt := 450) hx hb dL_follows_446 (by decide) ?_
                                                refine lv_istore (lv' := [(13, .int (1)), (24, .long ((-2))), (22, .long ((vaZ (afZ a.2.1 (x % 16) (nI (x / 16 % 1000)) (1 + x / 7 % 12)) (nI (x % 16))).toInt64)), (20, .long ((a.2.1.2.1 1).toInt64)), (18, .long ((nI d).toInt64)), (2, .long (nwZ a.2.1)), (4, .int (nI (x % 16))), (5, .int (nI (x / 16 % 1000))), (6, .int (nI (1 + x / 7 % 12))), (7, .long ((vaZ a.2.1 (nI (x % 16))).toInt64)), (9, .long (otZ a.2.1 (x % 16) 16)), (11, .long ((nI (ckZ a.2.1 16)).toInt64)), (0, .ref ((Gs 0).1 1)), (1, .int (nI (x))), (14, .int (bI (a.2.1.1.1 = true))), (15, .int (bI (wnV a.2.1 = 0))), (16, .long ((laV a.2.1 (x % 16)).toInt64))]) hx hb dL_follows_450 hl (by decide) rfl (fun ls hl => ?_)
                                                have hw : LO D cI cL cZ A s Gs [fS a ((stT (x % 16) (nI (x / 16 % 1000)) (zC a.2.1 (nI (1 + x / 7 % 12)))).2) ((zC a.2.1 (nI (1 + x / 7 % 12))) :: a.2.1 :: (((a.2.2.1.take 13).take 12).take 11))] H locs := by
                                                  rw [show ([fS a ((stT (x % 16) (nI (x / 16 % 1000)) (zC a.2.1 (nI (1 + x / 7 % 12)))).2) ((zC a.2.1 (nI (1 + x / 7 % 12))) :: a.2.1 :: (((a.2.2.1.take 13).take 12).take 11))] : List AS) = [fS a ((stT (x % 16) (nI (x / 16 % 1000)) (zC a.2.1 (nI (1 + x / 7 % 12)))).2) (((zC a.2.1 (nI (1 + x / 7 % 12))) :: (a.2.1 :: a.2.2.1.take 13).take 13).take 13)] from rfl]
                                                  exact hw
                                                exact W.widen (by omega) (by omega) (JP452 (((a.2.2.1.take 13).take 12).take 11) _ _ _ (by first | omega | (simp; omega)) hw (lv_sub hl [5, 6, 7, 8, 9, 10, 11, 0, 12, 13, 14, 15, 4, 2] rfl))
            · skip
              have c232 := (fun z => c232 ((lg_cmp_le _ _).mpr z))
              exact absurd ((jl_le (a := 1 + x / 7 % 12) (b := d) (by omega) (by omega)).mpr (by omega)) c232
  have JP124 : ∀ (H : Heap) (locs : List Loc) (ls : Array Slot), LO D cI cL cZ A s Gs [fS a a.2.1 a.2.2.1] H locs → lv_has ls 26 [(2, .long (nwZ a.2.1)), (4, .int (nI (x % 16))), (5, .int (nI (x / 16 % 1000))), (6, .int (nI (1 + x / 7 % 12))), (7, .long ((vaZ a.2.1 (nI (x % 16))).toInt64)), (9, .long (otZ a.2.1 (x % 16) 16)), (11, .long ((nI (ckZ a.2.1 16)).toInt64)), (13, .int (1)), (0, .ref ((Gs 0).1 1)), (1, .int (nI (x))), (14, .int (bI (a.2.1.1.1 = true))), (15, .int (bI (wnV a.2.1 = 0)))] → W p l e ({ frames := 9, cells := 1800, slots := 10800, locals := 220 } : Room) s m [.ref ((Gs 0).1 1), .int (nI (x))].toArray below meth c H locs (262) (6 * (262)) (MQ below (lqI D cI cL cZ Gs 1 [fS a a.2.1 []] A) [.ref ((Gs 0).1 1), .int (nI (x))].toArray s 1800 10800 A) (F0 m 124 ls []) := by
    intro H locs ls hw hl
    refine lv_aload_n hx hb dL_follows_124 rfl (lv_at hl 8 rfl) ?_
    refine lv_iload hx hb dL_follows_125 (lv_at hl 1 rfl) ?_
    refine lo_callX hF (lx_eq (x_lasts (Gs := fun _ => Gs 0) hst hG (fS_go hn9 hX.1) (nI (x % 16))) (show _ = ((laV a.2.1 (x % 16)).toInt64) from la_J (by omega)) (show _ = [fS a a.2.1 a.2.2.1] from rfl)) k_lasts ⟨Nat.le_of_ble_eq_true rfl, Nat.le_of_ble_eq_true rfl⟩ hw [0] (by decide) rfl (hg_one rfl) rfl hl.1 rfl (Nat.le_of_ble_eq_true rfl) dL_follows_127 ⟨by show _ ≤ (1800 : Nat); omega, by show _ ≤ (10800 : Nat); omega⟩ (fun H locs hw => ?_)
    have hw : LO D cI cL cZ A s Gs [fS a a.2.1 a.2.2.1] H locs := hw
    refine W.widen (k := 262 + 1) (n := 6 * (262 + 1)) (Nat.le_refl _) (by omega) ?_
    refine lv_lstore (lv' := [(16, .long ((laV a.2.1 (x % 16)).toInt64)), (2, .long (nwZ a.2.1)), (4, .int (nI (x % 16))), (5, .int (nI (x / 16 % 1000))), (6, .int (nI (1 + x / 7 % 12))), (7, .long ((vaZ a.2.1 (nI (x % 16))).toInt64)), (9, .long (otZ a.2.1 (x % 16) 16)), (11, .long ((nI (ckZ a.2.1 16)).toInt64)), (13, .int (1)), (0, .ref ((Gs 0).1 1)), (1, .int (nI (x))), (14, .int (bI (a.2.1.1.1 = true))), (15, .int (bI (wnV a.2.1 = 0)))]) hx hb dL_follows_130 hl (by decide) rfl (fun ls hl => ?_)
    refine lv_iload hx hb dL_follows_132 (lv_at hl 8 rfl) ?_
    refine lv_if_eq (tgt := 170) hx hb dL_follows_134 (by decide) (fun c134 => ?_) (fun c134 => ?_)
    · skip
      exact absurd c134 (by decide)
    · skip
      refine lv_lload hx hb dL_follows_137 (lv_at hl 0 rfl) ?_
      refine lv_lconst (v := 0) hx hb dL_follows_139 (by decide) ?_
      refine W.lcmp hx hb dL_follows_140 ?_
      refine lv_if_le (tgt := 148) hx hb dL_follows_141 (by decide) (fun c141 => ?_) (fun c141 => ?_)
      · skip
        have c141 := (lg_cmp_le _ _).mp c141
        refine lv_iconst (v := 0) hx hb dL_follows_148 (by decide) ?_
        refine lv_iload hx hb dL_follows_149 (lv_at hl 12 rfl) ?_
        refine lv_icmp_ne (tgt := 170) hx hb dL_follows_151 (by decide) (fun c151 => ?_) (fun c151 => ?_)
        · skip
          exact (c151 (bI_0 (la_ng hX.1 c141)).symm).elim
        · skip
          refine lv_lload hx hb dL_follows_154 (lv_at hl 0 rfl) ?_
          refine lv_lconst (v := 0) hx hb dL_follows_156 (by decide) ?_
          refine lv_ldc2 (v := 300) hx hb hown (hts _ (mlA 196 rfl)) dL_follows_157 ?_
          refine lo_callZ hF (c_in l D cI cL cZ (fun _ => Gs 0) ((laV a.2.1 (x % 16)).toInt64) 0 300) k_in ⟨Nat.le_of_ble_eq_true rfl, Nat.le_of_ble_eq_true rfl⟩ hw [] (by decide) rfl (fun j k h => by simp at h) rfl hl.1 rfl (Nat.le_of_ble_eq_true rfl) dL_follows_160 ⟨by show _ ≤ (1800 : Nat); omega, by show _ ≤ (10800 : Nat); omega⟩ (fun H locs hw => ?_)
          have hw : LO D cI cL cZ A s Gs [fS a a.2.1 a.2.2.1] H locs := hw
          refine W.widen (k := 262 + 1 + 0) (n := 6 * (262 + 1 + 0)) (Nat.le_refl _) (by omega) ?_
          refine lv_if_eq (tgt := 170) hx hb dL_follows_163 (by decide) (fun c163 => ?_) (fun c163 => ?_)
          · skip
            have c163 := bI_f c163
            exact (c163 (la_in hX.1 (by omega))).elim
          · skip
            have c163 := bI_t c163
            refine lv_iconst (v := 1) hx hb dL_follows_166 (by decide) ?_
            refine lv_goto (tgt := 171) hx hb dL_follows_167 (by decide) ?_
            refine lv_istore (lv' := [(13, .int (1)), (16, .long ((laV a.2.1 (x % 16)).toInt64)), (2, .long (nwZ a.2.1)), (4, .int (nI (x % 16))), (5, .int (nI (x / 16 % 1000))), (6, .int (nI (1 + x / 7 % 12))), (7, .long ((vaZ a.2.1 (nI (x % 16))).toInt64)), (9, .long (otZ a.2.1 (x % 16) 16)), (11, .long ((nI (ckZ a.2.1 16)).toInt64)), (0, .ref ((Gs 0).1 1)), (1, .int (nI (x))), (14, .int (bI (a.2.1.1.1 = true))), (15, .int (bI (wnV a.2.1 = 0)))]) hx hb dL_follows_171 hl (by decide) rfl (fun ls hl => ?_)
            exact W.widen (by omega) (by omega) (JP173  _ _ _  hw (lv_sub hl [2, 3, 4, 5, 6, 7, 8, 0, 9, 10, 11, 12, 1] rfl))
      · skip
        have c141 := (fun z => c141 ((lg_cmp_le _ _).mpr z))
        refine lv_iconst (v := 1) hx hb dL_follows_144 (by decide) ?_
        refine lv_goto (tgt := 149) hx hb dL_follows_145 (by decide) ?_
        refine lv_iload hx hb dL_follows_149 (lv_at hl 12 rfl) ?_
        refine lv_icmp_ne (tgt := 170) hx hb dL_follows_151 (by decide) (fun c151 => ?_) (fun c151 => ?_)
        · skip
          exact (c151 (bI_1 (la_gt hX.1 (by omega) c141)).symm).elim
        · skip
          refine lv_lload hx hb dL_follows_154 (lv_at hl 0 rfl) ?_
          refine lv_lconst (v := 0) hx hb dL_follows_156 (by decide) ?_
          refine lv_ldc2 (v := 300) hx hb hown (hts _ (mlA 196 rfl)) dL_follows_157 ?_
          refine lo_callZ hF (c_in l D cI cL cZ (fun _ => Gs 0) ((laV a.2.1 (x % 16)).toInt64) 0 300) k_in ⟨Nat.le_of_ble_eq_true rfl, Nat.le_of_ble_eq_true rfl⟩ hw [] (by decide) rfl (fun j k h => by simp at h) rfl hl.1 rfl (Nat.le_of_ble_eq_true rfl) dL_follows_160 ⟨by show _ ≤ (1800 : Nat); omega, by show _ ≤ (10800 : Nat); omega⟩ (fun H locs hw => ?_)
          have hw : LO D cI cL cZ A s Gs [fS a a.2.1 a.2.2.1] H locs := hw
          refine W.widen (k := 262 + 1 + 0) (n := 6 * (262 + 1 + 0)) (Nat.le_refl _) (by omega) ?_
          refine lv_if_eq (tgt := 170) hx hb dL_follows_163 (by decide) (fun c163 => ?_) (fun c163 => ?_)
          · skip
            have c163 := bI_f c163
            exact (c163 (la_in hX.1 (by omega))).elim
          · skip
            have c163 := bI_t c163
            refine lv_iconst (v := 1) hx hb dL_follows_166 (by decide) ?_
            refine lv_goto (tgt := 171) hx hb dL_follows_167 (by decide) ?_
            refine lv_istore (lv' := [(13, .int (1)), (16, .long ((laV a.2.1 (x % 16)).toInt64)), (2, .long (nwZ a.2.1)), (4, .int (nI (x % 16))), (5, .int (nI (x / 16 % 1000))), (6, .int (nI (1 + x / 7 % 12))), (7, .long ((vaZ a.2.1 (nI (x % 16))).toInt64)), (9, .long (otZ a.2.1 (x % 16) 16)), (11, .long ((nI (ckZ a.2.1 16)).toInt64)), (0, .ref ((Gs 0).1 1)), (1, .int (nI (x))), (14, .int (bI (a.2.1.1.1 = true))), (15, .int (bI (wnV a.2.1 = 0)))]) hx hb dL_follows_171 hl (by decide) rfl (fun ls hl => ?_)
            exact W.widen (by omega) (by omega) (JP173  _ _ _  hw (lv_sub hl [2, 3, 4, 5, 6, 7, 8, 0, 9, 10, 11, 12, 1] rfl))
  have JP110 : ∀ (H : Heap) (locs : List Loc) (ls : Array Slot), LO D cI cL cZ A s Gs [fS a a.2.1 a.2.2.1] H locs → lv_has ls 26 [(2, .long (nwZ a.2.1)), (4, .int (nI (x % 16))), (5, .int (nI (x / 16 % 1000))), (6, .int (nI (1 + x / 7 % 12))), (7, .long ((vaZ a.2.1 (nI (x % 16))).toInt64)), (9, .long (otZ a.2.1 (x % 16) 16)), (11, .long ((nI (ckZ a.2.1 16)).toInt64)), (13, .int (1)), (0, .ref ((Gs 0).1 1)), (1, .int (nI (x))), (14, .int (bI (a.2.1.1.1 = true)))] → W p l e ({ frames := 9, cells := 1800, slots := 10800, locals := 220 } : Room) s m [.ref ((Gs 0).1 1), .int (nI (x))].toArray below meth c H locs (262) (6 * (262)) (MQ below (lqI D cI cL cZ Gs 1 [fS a a.2.1 []] A) [.ref ((Gs 0).1 1), .int (nI (x))].toArray s 1800 10800 A) (F0 m 110 ls []) := by
    intro H locs ls hw hl
    refine lv_aload_n hx hb dL_follows_110 rfl (lv_at hl 8 rfl) ?_
    refine lo_callV (i := 0) hF (lv_eq (x_whyNoRoom (Gs := fun _ => Gs 0) (fS_go hn9 hX.1)) (show _ = wnV a.2.1 from rfl) (show _ = [fS a a.2.1 a.2.2.1] from rfl)) k_whyNoRoom ⟨Nat.le_of_ble_eq_true rfl, Nat.le_of_ble_eq_true rfl⟩ hw rfl rfl rfl hl.1 rfl (Nat.le_of_ble_eq_true rfl) dL_follows_111 ⟨by show _ ≤ (1800 : Nat); omega, by show _ ≤ (10800 : Nat); omega⟩ (fun H locs hw => ?_)
    have hw : LO D cI cL cZ A s Gs [fS a a.2.1 a.2.2.1] H locs := hw
    refine lv_if_ne (tgt := 121) hx hb dL_follows_114 (by decide) (fun c114 => ?_) (fun c114 => ?_)
    · skip
      refine lv_iconst (v := 0) hx hb dL_follows_121 (by decide) ?_
      refine lv_istore (lv' := [(15, .int (0)), (2, .long (nwZ a.2.1)), (4, .int (nI (x % 16))), (5, .int (nI (x / 16 % 1000))), (6, .int (nI (1 + x / 7 % 12))), (7, .long ((vaZ a.2.1 (nI (x % 16))).toInt64)), (9, .long (otZ a.2.1 (x % 16) 16)), (11, .long ((nI (ckZ a.2.1 16)).toInt64)), (13, .int (1)), (0, .ref ((Gs 0).1 1)), (1, .int (nI (x))), (14, .int (bI (a.2.1.1.1 = true)))]) hx hb dL_follows_122 hl (by decide) rfl (fun ls hl => ?_)
      have hl : lv_has ls 26 [(15, .int (bI (wnV a.2.1 = 0))), (2, .long (nwZ a.2.1)), (4, .int (nI (x % 16))), (5, .int (nI (x / 16 % 1000))), (6, .int (nI (1 + x / 7 % 12))), (7, .long ((vaZ a.2.1 (nI (x % 16))).toInt64)), (9, .long (otZ a.2.1 (x % 16) 16)), (11, .long ((nI (ckZ a.2.1 16)).toInt64)), (13, .int (1)), (0, .ref ((Gs 0).1 1)), (1, .int (nI (x))), (14, .int (bI (a.2.1.1.1 = true)))] := lv_re hl 0 rfl (show 0 = bI (wnV a.2.1 = 0) from (bI_0 c114).symm)
      exact W.widen (by omega) (by omega) (JP124  _ _ _  hw (lv_sub hl [1, 2, 3, 4, 5, 6, 7, 8, 9, 10, 11, 0] rfl))
    · skip
      refine lv_iconst (v := 1) hx hb dL_follows_117 (by decide) ?_
      refine lv_goto (tgt := 122) hx hb dL_follows_118 (by decide) ?_
      refine lv_istore (lv' := [(15, .int (1)), (2, .long (nwZ a.2.1)), (4, .int (nI (x % 16))), (5, .int (nI (x / 16 % 1000))), (6, .int (nI (1 + x / 7 % 12))), (7, .long ((vaZ a.2.1 (nI (x % 16))).toInt64)), (9, .long (otZ a.2.1 (x % 16) 16)), (11, .long ((nI (ckZ a.2.1 16)).toInt64)), (13, .int (1)), (0, .ref ((Gs 0).1 1)), (1, .int (nI (x))), (14, .int (bI (a.2.1.1.1 = true)))]) hx hb dL_follows_122 hl (by decide) rfl (fun ls hl => ?_)
      have hl : lv_has ls 26 [(15, .int (bI (wnV a.2.1 = 0))), (2, .long (nwZ a.2.1)), (4, .int (nI (x % 16))), (5, .int (nI (x / 16 % 1000))), (6, .int (nI (1 + x / 7 % 12))), (7, .long ((vaZ a.2.1 (nI (x % 16))).toInt64)), (9, .long (otZ a.2.1 (x % 16) 16)), (11, .long ((nI (ckZ a.2.1 16)).toInt64)), (13, .int (1)), (0, .ref ((Gs 0).1 1)), (1, .int (nI (x))), (14, .int (bI (a.2.1.1.1 = true)))] := lv_re hl 0 rfl (show 1 = bI (wnV a.2.1 = 0) from (bI_1 c114).symm)
      exact W.widen (by omega) (by omega) (JP124  _ _ _  hw (lv_sub hl [1, 2, 3, 4, 5, 6, 7, 8, 9, 10, 11, 0] rfl))
  refine lv_aload_n hx hb dL_follows_0 rfl (lv_at hl 0 rfl) ?_
  refine lo_callJ hF (c_now l hst D cI cL cZ (fun _ => Gs 0) hG a ⟨hn9, hX.1⟩ ) k_now ⟨Nat.le_of_ble_eq_true rfl, Nat.le_of_ble_eq_true rfl⟩ hw [0] (by decide) rfl (hg_one rfl) rfl hl.1 rfl (Nat.le_of_ble_eq_true rfl) dL_follows_1 ⟨by show _ ≤ (1800 : Nat); omega, by show _ ≤ (10800 : Nat); omega⟩ (fun H locs hw => ?_)
  have hw : LO D cI cL cZ A s Gs [a] H locs := hw
  refine W.widen (k := 0 + 200) (n := 6 * (0 + 200)) (Nat.le_refl _) (by omega) ?_
  refine lv_lstore_n (lv' := [(2, .long (nwZ a.2.1)), (0, .ref ((Gs 0).1 1)), (1, .int (nI (x)))]) hx hb dL_follows_4 rfl hl (by decide) rfl (fun ls hl => ?_)
  refine lv_iload_n hx hb dL_follows_5 rfl (lv_at hl 2 rfl) ?_
  refine lv_bipush (v := 16) hx hb dL_follows_6 (by decide) ?_
  refine lv_irem hx hb dL_follows_8 (by decide) ?_
  refine lv_as (y := nI (x % 16)) (pk_rem (a := x) (d := 16) (by omega) (by decide) (by decide)) ?_
  refine lv_istore (lv' := [(4, .int (nI (x % 16))), (2, .long (nwZ a.2.1)), (0, .ref ((Gs 0).1 1)), (1, .int (nI (x)))]) hx hb dL_follows_9 hl (by decide) rfl (fun ls hl => ?_)
  refine lv_iload_n hx hb dL_follows_11 rfl (lv_at hl 3 rfl) ?_
  refine lv_bipush (v := 16) hx hb dL_follows_12 (by decide) ?_
  refine lv_idiv hx hb dL_follows_14 (by decide) ?_
  refine lv_as (y := nI (x / 16)) (pk_div (a := x) (d := 16) (by omega) (by decide) (by decide)) ?_
  refine lv_sipush (v := 1000) hx hb dL_follows_15 (by decide) ?_
  refine lv_irem hx hb dL_follows_18 (by decide) ?_
  refine lv_as (y := nI ((x / 16) % 1000)) (pk_rem (a := x / 16) (d := 1000) (by omega) (by decide) (by decide)) ?_
  refine lv_istore (lv' := [(5, .int (nI ((x / 16) % 1000))), (4, .int (nI (x % 16))), (2, .long (nwZ a.2.1)), (0, .ref ((Gs 0).1 1)), (1, .int (nI (x)))]) hx hb dL_follows_19 hl (by decide) rfl (fun ls hl => ?_)
  refine lv_iconst (v := 1) hx hb dL_follows_21 (by decide) ?_
  refine lv_iload_n hx hb dL_follows_22 rfl (lv_at hl 4 rfl) ?_
  refine lv_bipush (v := 7) hx hb dL_follows_23 (by decide) ?_
  refine lv_idiv hx hb dL_follows_25 (by decide) ?_
  refine lv_as (y := nI (x / 7)) (pk_div (a := x) (d := 7) (by omega) (by decide) (by decide)) ?_
  refine lv_bipush (v := 12) hx hb dL_follows_26 (by decide) ?_
  refine lv_irem hx hb dL_follows_28 (by decide) ?_
  refine lv_as (y := nI ((x / 7) % 12)) (pk_rem (a := x / 7) (d := 12) (by omega) (by decide) (by decide)) ?_
  refine lv_iadd hx hb dL_follows_29 ?_
  refine lv_as (y := nI (1 + (x / 7) % 12)) (nI_add (1) ((x / 7) % 12)) ?_
  refine lv_istore (lv' := [(6, .int (nI (1 + (x / 7) % 12))), (5, .int (nI ((x / 16) % 1000))), (4, .int (nI (x % 16))), (2, .long (nwZ a.2.1)), (0, .ref ((Gs 0).1 1)), (1, .int (nI (x)))]) hx hb dL_follows_30 hl (by decide) rfl (fun ls hl => ?_)
  refine lv_aload_n hx hb dL_follows_32 rfl (lv_at hl 4 rfl) ?_
  refine lv_iload hx hb dL_follows_33 (lv_at hl 2 rfl) ?_
  refine lo_callJ hF (c_valueOf l hst D cI cL cZ (fun _ => Gs 0) hG a ⟨hn9, hX.1⟩ (x % 16) (by omega)) k_valueOf ⟨Nat.le_of_ble_eq_true rfl, Nat.le_of_ble_eq_true rfl⟩ hw [0] (by decide) rfl (hg_one rfl) rfl hl.1 rfl (Nat.le_of_ble_eq_true rfl) dL_follows_35 ⟨by show _ ≤ (1800 : Nat); omega, by show _ ≤ (10800 : Nat); omega⟩ (fun H locs hw => ?_)
  have hw : LO D cI cL cZ A s Gs [a] H locs := hw
  refine W.widen (k := 0 + 200 + 2) (n := 6 * (0 + 200 + 2)) (Nat.le_refl _) (by omega) ?_
  refine lv_lstore (lv' := [(7, .long ((vaZ a.2.1 (nI (x % 16))).toInt64)), (6, .int (nI (1 + (x / 7) % 12))), (5, .int (nI ((x / 16) % 1000))), (4, .int (nI (x % 16))), (2, .long (nwZ a.2.1)), (0, .ref ((Gs 0).1 1)), (1, .int (nI (x)))]) hx hb dL_follows_38 hl (by decide) rfl (fun ls hl => ?_)
  refine lv_aload_n hx hb dL_follows_40 rfl (lv_at hl 5 rfl) ?_
  refine lv_iload hx hb dL_follows_41 (lv_at hl 3 rfl) ?_
  refine lo_callJ hF (c_others l hst D cI cL cZ (fun _ => Gs 0) hG a ⟨hn9, hX.1⟩ (x % 16) (by omega)) k_others ⟨Nat.le_of_ble_eq_true rfl, Nat.le_of_ble_eq_true rfl⟩ hw [0] (by decide) rfl (hg_one rfl) rfl hl.1 rfl (Nat.le_of_ble_eq_true rfl) dL_follows_43 ⟨by show _ ≤ (1800 : Nat); omega, by show _ ≤ (10800 : Nat); omega⟩ (fun H locs hw => ?_)
  have hw : LO D cI cL cZ A s Gs [a] H locs := hw
  refine W.widen (k := 0 + 200 + 2 + 50) (n := 6 * (0 + 200 + 2 + 50)) (Nat.le_refl _) (by omega) ?_
  refine lv_lstore (lv' := [(9, .long (otZ a.2.1 (x % 16) 16)), (7, .long ((vaZ a.2.1 (nI (x % 16))).toInt64)), (6, .int (nI (1 + (x / 7) % 12))), (5, .int (nI ((x / 16) % 1000))), (4, .int (nI (x % 16))), (2, .long (nwZ a.2.1)), (0, .ref ((Gs 0).1 1)), (1, .int (nI (x)))]) hx hb dL_follows_46 hl (by decide) rfl (fun ls hl => ?_)
  refine lv_aload_n hx hb dL_follows_48 rfl (lv_at hl 6 rfl) ?_
  refine lv_iconst (v := 5) hx hb dL_follows_49 (by decide) ?_
  refine lo_callX hF (lx_eq (x_about (Gs := fun _ => Gs 0) hst hG ⟨hn9, hX.1⟩ 5) (show _ = ((nI (ckZ a.2.1 16)).toInt64) from ab_5) (show _ = [a] from rfl)) k_about ⟨Nat.le_of_ble_eq_true rfl, Nat.le_of_ble_eq_true rfl⟩ hw [0] (by decide) rfl (hg_one rfl) rfl hl.1 rfl (Nat.le_of_ble_eq_true rfl) dL_follows_50 ⟨by show _ ≤ (1800 : Nat); omega, by show _ ≤ (10800 : Nat); omega⟩ (fun H locs hw => ?_)
  have hw : LO D cI cL cZ A s Gs [a] H locs := hw
  refine W.widen (k := 0 + 200 + 2 + 50 + 1) (n := 6 * (0 + 200 + 2 + 50 + 1)) (Nat.le_refl _) (by omega) ?_
  refine lv_lstore (lv' := [(11, .long ((nI (ckZ a.2.1 16)).toInt64)), (9, .long (otZ a.2.1 (x % 16) 16)), (7, .long ((vaZ a.2.1 (nI (x % 16))).toInt64)), (6, .int (nI (1 + (x / 7) % 12))), (5, .int (nI ((x / 16) % 1000))), (4, .int (nI (x % 16))), (2, .long (nwZ a.2.1)), (0, .ref ((Gs 0).1 1)), (1, .int (nI (x)))]) hx hb dL_follows_53 hl (by decide) rfl (fun ls hl => ?_)
  refine lv_aload_n hx hb dL_follows_55 rfl (lv_at hl 7 rfl) ?_
  refine lv_iconst (v := 1) hx hb dL_follows_56 (by decide) ?_
  refine lo_callX hF (lx_eq (x_save (Gs := fun _ => Gs 0) hst hG ⟨hn9, hX.1⟩ 1) (show _ = ((nI (ckZ a.2.1 16)).toInt64) from (sa_ok (a := a)).1) (show _ = [fS a a.2.1 a.2.2.1] from congrArg (fun y => [y]) (sa_ok (a := a)).2)) k_save ⟨Nat.le_of_ble_eq_true rfl, Nat.le_of_ble_eq_true rfl⟩ hw [0] (by decide) rfl (hg_one rfl) rfl hl.1 rfl (Nat.le_of_ble_eq_true rfl) dL_follows_57 ⟨by show _ ≤ (1800 : Nat); omega, by show _ ≤ (10800 : Nat); omega⟩ (fun H locs hw => ?_)
  have hw : LO D cI cL cZ A s Gs [fS a a.2.1 a.2.2.1] H locs := hw
  refine W.widen (k := 0 + 200 + 2 + 50 + 1 + 1) (n := 6 * (0 + 200 + 2 + 50 + 1 + 1)) (Nat.le_refl _) (by omega) ?_
  refine lv_lload hx hb dL_follows_60 (lv_at hl 0 rfl) ?_
  refine W.lcmp hx hb dL_follows_62 ?_
  refine lv_if_ne (tgt := 90) hx hb dL_follows_63 (by decide) (fun c63 => ?_) (fun c63 => ?_)
  · skip
    exact (c63 ((lg_cmp_eq _ _).mpr rfl)).elim
  · skip
    have c63 := (lg_cmp_eq _ _).mp c63
    refine lv_aload_n hx hb dL_follows_66 rfl (lv_at hl 7 rfl) ?_
    refine lv_iload_n hx hb dL_follows_67 rfl (lv_at hl 8 rfl) ?_
    refine lv_i2l (v := (nI (x) : Int32).toInt64) hx hb dL_follows_68 rfl ?_
    refine lv_bipush (v := 9) hx hb dL_follows_69 (by decide) ?_
    refine lo_callX hF (lx_eq (x_simulate (Gs := fun _ => Gs 0) hst hG (fS_go hn9 hX.1) ((nI (x) : Int32).toInt64) 9) (show _ = (siJ a.2.1 ((nI (x) : Int32).toInt64) 9) from rfl) (show _ = [fS a a.2.1 a.2.2.1] from rfl)) k_simulate ⟨Nat.le_of_ble_eq_true rfl, Nat.le_of_ble_eq_true rfl⟩ hw [0] (by decide) rfl (hg_one rfl) rfl hl.1 rfl (Nat.le_of_ble_eq_true rfl) dL_follows_71 ⟨by show _ ≤ (1800 : Nat); omega, by show _ ≤ (10800 : Nat); omega⟩ (fun H locs hw => ?_)
    have hw : LO D cI cL cZ A s Gs [fS a a.2.1 a.2.2.1] H locs := hw
    refine W.widen (k := 0 + 200 + 2 + 50 + 1 + 1 + 1) (n := 6 * (0 + 200 + 2 + 50 + 1 + 1 + 1)) (Nat.le_refl _) (by omega) ?_
    refine lv_aload_n hx hb dL_follows_74 rfl (lv_at hl 7 rfl) ?_
    refine lv_iload_n hx hb dL_follows_75 rfl (lv_at hl 8 rfl) ?_
    refine lv_i2l (v := (nI (x) : Int32).toInt64) hx hb dL_follows_76 rfl ?_
    refine lv_bipush (v := 9) hx hb dL_follows_77 (by decide) ?_
    refine lo_callX hF (lx_eq (x_simulate (Gs := fun _ => Gs 0) hst hG (fS_go hn9 hX.1) ((nI (x) : Int32).toInt64) 9) (show _ = (siJ a.2.1 ((nI (x) : Int32).toInt64) 9) from rfl) (show _ = [fS a a.2.1 a.2.2.1] from rfl)) k_simulate ⟨Nat.le_of_ble_eq_true rfl, Nat.le_of_ble_eq_true rfl⟩ hw [0] (by decide) rfl (hg_one rfl) rfl hl.1 rfl (Nat.le_of_ble_eq_true rfl) dL_follows_79 ⟨by show _ ≤ (1800 : Nat); omega, by show _ ≤ (10800 : Nat); omega⟩ (fun H locs hw => ?_)
    have hw : LO D cI cL cZ A s Gs [fS a a.2.1 a.2.2.1] H locs := hw
    refine W.widen (k := 0 + 200 + 2 + 50 + 1 + 1 + 1 + 1) (n := 6 * (0 + 200 + 2 + 50 + 1 + 1 + 1 + 1)) (Nat.le_refl _) (by omega) ?_
    refine W.lcmp hx hb dL_follows_82 ?_
    refine lv_if_ne (tgt := 90) hx hb dL_follows_83 (by decide) (fun c83 => ?_) (fun c83 => ?_)
    · skip
      exact (c83 ((lg_cmp_eq _ _).mpr rfl)).elim
    · skip
      have c83 := (lg_cmp_eq _ _).mp c83
      refine lv_iconst (v := 1) hx hb dL_follows_86 (by decide) ?_
      refine lv_goto (tgt := 91) hx hb dL_follows_87 (by decide) ?_
      refine lv_istore (lv' := [(13, .int (1)), (11, .long ((nI (ckZ a.2.1 16)).toInt64)), (9, .long (otZ a.2.1 (x % 16) 16)), (7, .long ((vaZ a.2.1 (nI (x % 16))).toInt64)), (6, .int (nI (1 + (x / 7) % 12))), (5, .int (nI ((x / 16) % 1000))), (4, .int (nI (x % 16))), (2, .long (nwZ a.2.1)), (0, .ref ((Gs 0).1 1)), (1, .int (nI (x)))]) hx hb dL_follows_91 hl (by decide) rfl (fun ls hl => ?_)
      refine lv_aload_n hx hb dL_follows_93 rfl (lv_at hl 8 rfl) ?_
      refine lv_iconst (v := 2) hx hb dL_follows_94 (by decide) ?_
      refine lo_callX hF (lx_eq (x_about (Gs := fun _ => Gs 0) hst hG (fS_go hn9 hX.1) 2) (show _ = ((bI (a.2.1.1.1 = true)).toInt64) from ab_2) (show _ = [fS a a.2.1 a.2.2.1] from rfl)) k_about ⟨Nat.le_of_ble_eq_true rfl, Nat.le_of_ble_eq_true rfl⟩ hw [0] (by decide) rfl (hg_one rfl) rfl hl.1 rfl (Nat.le_of_ble_eq_true rfl) dL_follows_95 ⟨by show _ ≤ (1800 : Nat); omega, by show _ ≤ (10800 : Nat); omega⟩ (fun H locs hw => ?_)
      have hw : LO D cI cL cZ A s Gs [fS a a.2.1 a.2.2.1] H locs := hw
      refine W.widen (k := 0 + 200 + 2 + 50 + 1 + 1 + 1 + 1 + 1) (n := 6 * (0 + 200 + 2 + 50 + 1 + 1 + 1 + 1 + 1)) (Nat.le_refl _) (by omega) ?_
      refine lv_lconst (v := 1) hx hb dL_follows_98 (by decide) ?_
      refine W.lcmp hx hb dL_follows_99 ?_
      refine lv_if_ne (tgt := 107) hx hb dL_follows_100 (by decide) (fun c100 => ?_) (fun c100 => ?_)
      · skip
        have c100 := (fun z => c100 ((lg_cmp_eq _ _).mpr z))
        have c100 : ¬ a.2.1.1.1 = true := jl_n1 c100
        refine lv_iconst (v := 0) hx hb dL_follows_107 (by decide) ?_
        refine lv_istore (lv' := [(14, .int (0)), (13, .int (1)), (11, .long ((nI (ckZ a.2.1 16)).toInt64)), (9, .long (otZ a.2.1 (x % 16) 16)), (7, .long ((vaZ a.2.1 (nI (x % 16))).toInt64)), (6, .int (nI (1 + (x / 7) % 12))), (5, .int (nI ((x / 16) % 1000))), (4, .int (nI (x % 16))), (2, .long (nwZ a.2.1)), (0, .ref ((Gs 0).1 1)), (1, .int (nI (x)))]) hx hb dL_follows_108 hl (by decide) rfl (fun ls hl => ?_)
        have hl : lv_has ls 26 [(14, .int (0)), (13, .int (1)), (11, .long ((nI (ckZ a.2.1 16)).toInt64)), (9, .long (otZ a.2.1 (x % 16) 16)), (7, .long ((vaZ a.2.1 (nI (x % 16))).toInt64)), (6, .int (nI (1 + (x / 7) % 12))), (5, .int (nI (x / 16 % 1000))), (4, .int (nI (x % 16))), (2, .long (nwZ a.2.1)), (0, .ref ((Gs 0).1 1)), (1, .int (nI (x)))] := lv_re hl 6 rfl (show (nI ((x / 16) % 1000)) = nI (x / 16 % 1000) from rfl)
        have hl : lv_has ls 26 [(14, .int (0)), (13, .int (1)), (11, .long ((nI (ckZ a.2.1 16)).toInt64)), (9, .long (otZ a.2.1 (x % 16) 16)), (7, .long ((vaZ a.2.1 (nI (x % 16))).toInt64)), (6, .int (nI (1 + x / 7 % 12))), (5, .int (nI (x / 16 % 1000))), (4, .int (nI (x % 16))), (2, .long (nwZ a.2.1)), (0, .ref ((Gs 0).1 1)), (1, .int (nI (x)))] := lv_re hl 5 rfl (show (nI (1 + (x / 7) % 12)) = nI (1 + x / 7 % 12) from rfl)
        have hl : lv_has ls 26 [(14, .int (bI (a.2.1.1.1 = true))), (13, .int (1)), (11, .long ((nI (ckZ a.2.1 16)).toInt64)), (9, .long (otZ a.2.1 (x % 16) 16)), (7, .long ((vaZ a.2.1 (nI (x % 16))).toInt64)), (6, .int (nI (1 + x / 7 % 12))), (5, .int (nI (x / 16 % 1000))), (4, .int (nI (x % 16))), (2, .long (nwZ a.2.1)), (0, .ref ((Gs 0).1 1)), (1, .int (nI (x)))] := lv_re hl 0 rfl (show 0 = bI (a.2.1.1.1 = true) from (bI_0 c100).symm)
        exact W.widen (by omega) (by omega) (JP110  _ _ _  hw (lv_sub hl [8, 7, 6, 5, 4, 3, 2, 1, 9, 10, 0] rfl))
      · skip
        have c100 := (lg_cmp_eq _ _).mp c100
        have c100 : a.2.1.1.1 = true := jl_1 c100
        refine lv_iconst (v := 1) hx hb dL_follows_103 (by decide) ?_
        refine lv_goto (tgt := 108) hx hb dL_follows_104 (by decide) ?_
        refine lv_istore (lv' := [(14, .int (1)), (13, .int (1)), (11, .long ((nI (ckZ a.2.1 16)).toInt64)), (9, .long (otZ a.2.1 (x % 16) 16)), (7, .long ((vaZ a.2.1 (nI (x % 16))).toInt64)), (6, .int (nI (1 + (x / 7) % 12))), (5, .int (nI ((x / 16) % 1000))), (4, .int (nI (x % 16))), (2, .long (nwZ a.2.1)), (0, .ref ((Gs 0).1 1)), (1, .int (nI (x)))]) hx hb dL_follows_108 hl (by decide) rfl (fun ls hl => ?_)
        have hl : lv_has ls 26 [(14, .int (1)), (13, .int (1)), (11, .long ((nI (ckZ a.2.1 16)).toInt64)), (9, .long (otZ a.2.1 (x % 16) 16)), (7, .long ((vaZ a.2.1 (nI (x % 16))).toInt64)), (6, .int (nI (1 + (x / 7) % 12))), (5, .int (nI (x / 16 % 1000))), (4, .int (nI (x % 16))), (2, .long (nwZ a.2.1)), (0, .ref ((Gs 0).1 1)), (1, .int (nI (x)))] := lv_re hl 6 rfl (show (nI ((x / 16) % 1000)) = nI (x / 16 % 1000) from rfl)
        have hl : lv_has ls 26 [(14, .int (1)), (13, .int (1)), (11, .long ((nI (ckZ a.2.1 16)).toInt64)), (9, .long (otZ a.2.1 (x % 16) 16)), (7, .long ((vaZ a.2.1 (nI (x % 16))).toInt64)), (6, .int (nI (1 + x / 7 % 12))), (5, .int (nI (x / 16 % 1000))), (4, .int (nI (x % 16))), (2, .long (nwZ a.2.1)), (0, .ref ((Gs 0).1 1)), (1, .int (nI (x)))] := lv_re hl 5 rfl (show (nI (1 + (x / 7) % 12)) = nI (1 + x / 7 % 12) from rfl)
        have hl : lv_has ls 26 [(14, .int (bI (a.2.1.1.1 = true))), (13, .int (1)), (11, .long ((nI (ckZ a.2.1 16)).toInt64)), (9, .long (otZ a.2.1 (x % 16) 16)), (7, .long ((vaZ a.2.1 (nI (x % 16))).toInt64)), (6, .int (nI (1 + x / 7 % 12))), (5, .int (nI (x / 16 % 1000))), (4, .int (nI (x % 16))), (2, .long (nwZ a.2.1)), (0, .ref ((Gs 0).1 1)), (1, .int (nI (x)))] := lv_re hl 0 rfl (show 1 = bI (a.2.1.1.1 = true) from (bI_1 c100).symm)
        exact W.widen (by omega) (by omega) (JP110  _ _ _  hw (lv_sub hl [8, 7, 6, 5, 4, 3, 2, 1, 9, 10, 0] rfl))
