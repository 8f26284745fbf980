theorem dX7_does_0 : decode cX7_does 0 = .ok (.iload_n 1, 1) := by decide +kernel
theorem dX7_does_1 : decode cX7_does 1 = .ok (.sipush 1000, 3) := by decide +kernel
theorem dX7_does_4 : decode cX7_does 4 = .ok (.idiv, 1) := by decide +kernel
theorem dX7_does_5 : decode cX7_does 5 = .ok (.istore_n 2, 1) := by decide +kernel
theorem dX7_does_6 : decode cX7_does 6 = .ok (.iload_n 1, 1) := by decide +kernel
theorem dX7_does_7 : decode cX7_does 7 = .ok (.bipush 100, 2) := by decide +kernel
theorem dX7_does_9 : decode cX7_does 9 = .ok (.idiv, 1) := by decide +kernel
theorem dX7_does_10 : decode cX7_does 10 = .ok (.bipush 10, 2) := by decide +kernel
theorem dX7_does_12 : decode cX7_does 12 = .ok (.irem, 1) := by decide +kernel
theorem dX7_does_13 : decode cX7_does 13 = .ok (.istore_n 3, 1) := by decide +kernel
theorem dX7_does_14 : decode cX7_does 14 = .ok (.iload_n 1, 1) := by decide +kernel
theorem dX7_does_15 : decode cX7_does 15 = .ok (.bipush 10, 2) := by decide +kernel
theorem dX7_does_17 : decode cX7_does 17 = .ok (.idiv, 1) := by decide +kernel
theorem dX7_does_18 : decode cX7_does 18 = .ok (.bipush 10, 2) := by decide +kernel
theorem dX7_does_20 : decode cX7_does 20 = .ok (.irem, 1) := by decide +kernel
theorem dX7_does_21 : decode cX7_does 21 = .ok (.istore 4, 2) := by decide +kernel
theorem dX7_does_23 : decode cX7_does 23 = .ok (.iload_n 1, 1) := by decide +kernel
theorem dX7_does_24 : decode cX7_does 24 = .ok (.bipush 10, 2) := by decide +kernel
theorem dX7_does_26 : decode cX7_does 26 = .ok (.irem, 1) := by decide +kernel
theorem dX7_does_27 : decode cX7_does 27 = .ok (.istore 5, 2) := by decide +kernel
theorem dX7_does_29 : decode cX7_does 29 = .ok (.bipush 10, 2) := by decide +kernel
theorem dX7_does_31 : decode cX7_does 31 = .ok (.iload 4, 2) := by decide +kernel
theorem dX7_does_33 : decode cX7_does 33 = .ok (.imul, 1) := by decide +kernel
theorem dX7_does_34 : decode cX7_does 34 = .ok (.iload 5, 2) := by decide +kernel
theorem dX7_does_36 : decode cX7_does 36 = .ok (.iadd, 1) := by decide +kernel
theorem dX7_does_37 : decode cX7_does 37 = .ok (.istore 6, 2) := by decide +kernel
theorem dX7_does_39 : decode cX7_does 39 = .ok (.iload_n 2, 1) := by decide +kernel
theorem dX7_does_40 : decode cX7_does 40 = .ok (.tableswitch 267 1 9 #[52, 64, 87, 113, 135, 160, 189, 217, 244], 52) := by decide +kernel
theorem dX7_does_92 : decode cX7_does 92 = .ok (.aload_n 0, 1) := by decide +kernel
theorem dX7_does_93 : decode cX7_does 93 = .ok (.aload_n 0, 1) := by decide +kernel
theorem dX7_does_94 : decode cX7_does 94 = .ok (.getfield 16, 3) := by decide +kernel
theorem dX7_does_97 : decode cX7_does 97 = .ok (.iload_n 3, 1) := by decide +kernel
theorem dX7_does_98 : decode cX7_does 98 = .ok (.iload 6, 2) := by decide +kernel
theorem dX7_does_100 : decode cX7_does 100 = .ok (.invokevirtual 138, 3) := by decide +kernel
theorem dX7_does_103 : decode cX7_does 103 = .ok (.ireturn, 1) := by decide +kernel
theorem dX7_does_104 : decode cX7_does 104 = .ok (.iload 6, 2) := by decide +kernel
theorem dX7_does_106 : decode cX7_does 106 = .ok (.ifCond .ne 19, 3) := by decide +kernel
theorem dX7_does_109 : decode cX7_does 109 = .ok (.aload_n 0, 1) := by decide +kernel
theorem dX7_does_110 : decode cX7_does 110 = .ok (.aload_n 0, 1) := by decide +kernel
theorem dX7_does_111 : decode cX7_does 111 = .ok (.getfield 16, 3) := by decide +kernel
theorem dX7_does_114 : decode cX7_does 114 = .ok (.iload_n 3, 1) := by decide +kernel
theorem dX7_does_115 : decode cX7_does 115 = .ok (.invokevirtual 181, 3) := by decide +kernel
theorem dX7_does_118 : decode cX7_does 118 = .ok (.ifCond .eq 7, 3) := by decide +kernel
theorem dX7_does_121 : decode cX7_does 121 = .ok (.iconst 1, 1) := by decide +kernel
theorem dX7_does_122 : decode cX7_does 122 = .ok (.goto 4, 3) := by decide +kernel
theorem dX7_does_125 : decode cX7_does 125 = .ok (.iconst 0, 1) := by decide +kernel
theorem dX7_does_126 : decode cX7_does 126 = .ok (.ireturn, 1) := by decide +kernel
theorem dX7_does_127 : decode cX7_does 127 = .ok (.iload_n 3, 1) := by decide +kernel
theorem dX7_does_128 : decode cX7_does 128 = .ok (.ifCond .ne 23, 3) := by decide +kernel
theorem dX7_does_131 : decode cX7_does 131 = .ok (.iload 6, 2) := by decide +kernel
theorem dX7_does_133 : decode cX7_does 133 = .ok (.ifCond .ne 18, 3) := by decide +kernel
theorem dX7_does_136 : decode cX7_does 136 = .ok (.aload_n 0, 1) := by decide +kernel
theorem dX7_does_137 : decode cX7_does 137 = .ok (.aload_n 0, 1) := by decide +kernel
theorem dX7_does_138 : decode cX7_does 138 = .ok (.getfield 16, 3) := by decide +kernel
theorem dX7_does_141 : decode cX7_does 141 = .ok (.invokevirtual 187, 3) := by decide +kernel
theorem dX7_does_144 : decode cX7_does 144 = .ok (.ifCond .eq 7, 3) := by decide +kernel
theorem dX7_does_147 : decode cX7_does 147 = .ok (.iconst 1, 1) := by decide +kernel
theorem dX7_does_148 : decode cX7_does 148 = .ok (.goto 4, 3) := by decide +kernel
theorem dX7_does_151 : decode cX7_does 151 = .ok (.iconst 0, 1) := by decide +kernel
theorem dX7_does_152 : decode cX7_does 152 = .ok (.ireturn, 1) := by decide +kernel
theorem dX7_does_153 : decode cX7_does 153 = .ok (.iload_n 3, 1) := by decide +kernel
theorem dX7_does_154 : decode cX7_does 154 = .ok (.ifCond .ne 19, 3) := by decide +kernel
theorem dX7_does_157 : decode cX7_does 157 = .ok (.aload_n 0, 1) := by decide +kernel
theorem dX7_does_158 : decode cX7_does 158 = .ok (.getfield 16, 3) := by decide +kernel
theorem dX7_does_161 : decode cX7_does 161 = .ok (.iload 6, 2) := by decide +kernel
theorem dX7_does_163 : decode cX7_does 163 = .ok (.invokestatic 184, 3) := by decide +kernel
theorem dX7_does_166 : decode cX7_does 166 = .ok (.ifCond .eq 7, 3) := by decide +kernel
theorem dX7_does_169 : decode cX7_does 169 = .ok (.iconst 1, 1) := by decide +kernel
theorem dX7_does_170 : decode cX7_does 170 = .ok (.goto 4, 3) := by decide +kernel
theorem dX7_does_173 : decode cX7_does 173 = .ok (.iconst 0, 1) := by decide +kernel
theorem dX7_does_174 : decode cX7_does 174 = .ok (.ireturn, 1) := by decide +kernel
theorem dX7_does_175 : decode cX7_does 175 = .ok (.iload_n 3, 1) := by decide +kernel
theorem dX7_does_176 : decode cX7_does 176 = .ok (.ifCond .ne 22, 3) := by decide +kernel
theorem dX7_does_179 : decode cX7_does 179 = .ok (.iload 6, 2) := by decide +kernel
theorem dX7_does_181 : decode cX7_does 181 = .ok (.ifCond .ne 17, 3) := by decide +kernel
theorem dX7_does_184 : decode cX7_does 184 = .ok (.aload_n 0, 1) := by decide +kernel
theorem dX7_does_185 : decode cX7_does 185 = .ok (.getfield 16, 3) := by decide +kernel
theorem dX7_does_188 : decode cX7_does 188 = .ok (.invokestatic 190, 3) := by decide +kernel
theorem dX7_does_191 : decode cX7_does 191 = .ok (.ifCond .eq 7, 3) := by decide +kernel
theorem dX7_does_194 : decode cX7_does 194 = .ok (.iconst 1, 1) := by decide +kernel
theorem dX7_does_195 : decode cX7_does 195 = .ok (.goto 4, 3) := by decide +kernel
theorem dX7_does_198 : decode cX7_does 198 = .ok (.iconst 0, 1) := by decide +kernel
theorem dX7_does_199 : decode cX7_does 199 = .ok (.ireturn, 1) := by decide +kernel
theorem dX7_does_200 : decode cX7_does 200 = .ok (.aload_n 0, 1) := by decide +kernel
theorem dX7_does_201 : decode cX7_does 201 = .ok (.getfield 16, 3) := by decide +kernel
theorem dX7_does_204 : decode cX7_does 204 = .ok (.iconst 2, 1) := by decide +kernel
theorem dX7_does_205 : decode cX7_does 205 = .ok (.iaload, 1) := by decide +kernel
theorem dX7_does_206 : decode cX7_does 206 = .ok (.iconst 1, 1) := by decide +kernel
theorem dX7_does_207 : decode cX7_does 207 = .ok (.if_icmp .ne 20, 3) := by decide +kernel
theorem dX7_does_210 : decode cX7_does 210 = .ok (.aload_n 0, 1) := by decide +kernel
theorem dX7_does_211 : decode cX7_does 211 = .ok (.getfield 16, 3) := by decide +kernel
theorem dX7_does_214 : decode cX7_does 214 = .ok (.iload_n 3, 1) := by decide +kernel
theorem dX7_does_215 : decode cX7_does 215 = .ok (.invokestatic 68, 3) := by decide +kernel
theorem dX7_does_218 : decode cX7_does 218 = .ok (.iload 6, 2) := by decide +kernel
theorem dX7_does_220 : decode cX7_does 220 = .ok (.if_icmp .ne 7, 3) := by decide +kernel
theorem dX7_does_223 : decode cX7_does 223 = .ok (.iconst 1, 1) := by decide +kernel
theorem dX7_does_224 : decode cX7_does 224 = .ok (.goto 4, 3) := by decide +kernel
theorem dX7_does_227 : decode cX7_does 227 = .ok (.iconst 0, 1) := by decide +kernel
theorem dX7_does_228 : decode cX7_does 228 = .ok (.ireturn, 1) := by decide +kernel
theorem dX7_does_229 : decode cX7_does 229 = .ok (.aload_n 0, 1) := by decide +kernel
theorem dX7_does_230 : decode cX7_does 230 = .ok (.iload_n 3, 1) := by decide +kernel
theorem dX7_does_231 : decode cX7_does 231 = .ok (.invokevirtual 223, 3) := by decide +kernel
theorem dX7_does_234 : decode cX7_does 234 = .ok (.ifCond .eq 21, 3) := by decide +kernel
theorem dX7_does_237 : decode cX7_does 237 = .ok (.aload_n 0, 1) := by decide +kernel
theorem dX7_does_238 : decode cX7_does 238 = .ok (.getfield 16, 3) := by decide +kernel
theorem dX7_does_241 : decode cX7_does 241 = .ok (.bipush 15, 2) := by decide +kernel
theorem dX7_does_243 : decode cX7_does 243 = .ok (.iload_n 3, 1) := by decide +kernel
theorem dX7_does_244 : decode cX7_does 244 = .ok (.iadd, 1) := by decide +kernel
theorem dX7_does_245 : decode cX7_does 245 = .ok (.iaload, 1) := by decide +kernel
theorem dX7_does_246 : decode cX7_does 246 = .ok (.iload 6, 2) := by decide +kernel
theorem dX7_does_248 : decode cX7_does 248 = .ok (.if_icmp .gt 7, 3) := by decide +kernel
theorem dX7_does_251 : decode cX7_does 251 = .ok (.iconst 1, 1) := by decide +kernel
theorem dX7_does_252 : decode cX7_does 252 = .ok (.goto 4, 3) := by decide +kernel
theorem dX7_does_255 : decode cX7_does 255 = .ok (.iconst 0, 1) := by decide +kernel
theorem dX7_does_256 : decode cX7_does 256 = .ok (.ireturn, 1) := by decide +kernel
theorem dX7_does_257 : decode cX7_does 257 = .ok (.iload_n 3, 1) := by decide +kernel
theorem dX7_does_258 : decode cX7_does 258 = .ok (.ifCond .ne 24, 3) := by decide +kernel
theorem dX7_does_261 : decode cX7_does 261 = .ok (.iload 4, 2) := by decide +kernel
theorem dX7_does_263 : decode cX7_does 263 = .ok (.ifCond .ne 19, 3) := by decide +kernel
theorem dX7_does_266 : decode cX7_does 266 = .ok (.aload_n 0, 1) := by decide +kernel
theorem dX7_does_267 : decode cX7_does 267 = .ok (.getfield 16, 3) := by decide +kernel
theorem dX7_does_270 : decode cX7_does 270 = .ok (.invokestatic 89, 3) := by decide +kernel
theorem dX7_does_273 : decode cX7_does 273 = .ok (.iload 5, 2) := by decide +kernel
theorem dX7_does_275 : decode cX7_does 275 = .ok (.if_icmp .lt 7, 3) := by decide +kernel
theorem dX7_does_278 : decode cX7_does 278 = .ok (.iconst 1, 1) := by decide +kernel
theorem dX7_does_279 : decode cX7_does 279 = .ok (.goto 4, 3) := by decide +kernel
theorem dX7_does_282 : decode cX7_does 282 = .ok (.iconst 0, 1) := by decide +kernel
theorem dX7_does_283 : decode cX7_does 283 = .ok (.ireturn, 1) := by decide +kernel
theorem dX7_does_284 : decode cX7_does 284 = .ok (.iload_n 3, 1) := by decide +kernel
theorem dX7_does_285 : decode cX7_does 285 = .ok (.ifCond .ne 9, 3) := by decide +kernel
theorem dX7_does_288 : decode cX7_does 288 = .ok (.iload 6, 2) := by decide +kernel
theorem dX7_does_290 : decode cX7_does 290 = .ok (.iconst 2, 1) := by decide +kernel
theorem dX7_does_291 : decode cX7_does 291 = .ok (.if_icmp .le 5, 3) := by decide +kernel
theorem dX7_does_294 : decode cX7_does 294 = .ok (.iconst 0, 1) := by decide +kernel
theorem dX7_does_295 : decode cX7_does 295 = .ok (.ireturn, 1) := by decide +kernel
theorem dX7_does_296 : decode cX7_does 296 = .ok (.aload_n 0, 1) := by decide +kernel
theorem dX7_does_297 : decode cX7_does 297 = .ok (.getfield 16, 3) := by decide +kernel
theorem dX7_does_300 : decode cX7_does 300 = .ok (.bipush 6, 2) := by decide +kernel
theorem dX7_does_302 : decode cX7_does 302 = .ok (.iload 6, 2) := by decide +kernel
theorem dX7_does_304 : decode cX7_does 304 = .ok (.iastore, 1) := by decide +kernel
theorem dX7_does_305 : decode cX7_does 305 = .ok (.iconst 1, 1) := by decide +kernel
theorem dX7_does_306 : decode cX7_does 306 = .ok (.ireturn, 1) := by decide +kernel
theorem dX7_does_307 : decode cX7_does 307 = .ok (.iconst 0, 1) := by decide +kernel
theorem dX7_does_308 : decode cX7_does 308 = .ok (.ireturn, 1) := by decide +kernel
theorem q7_does : CQ W7 yX7_does cX7_does 7 (some .boolean) 1 := ⟨(m7 211 rfl), by decide, by decide, by decide +kernel⟩
set_option maxHeartbeats 4000000 in
set_option maxRecDepth 100000 in
theorem c7_does (l : Launch) (D : va_G) (cI cZ : ClassId) (h sc nw tr lk di kp ik lv : Nat) (rf rb rl : Int32) (ac9 : Nat) (ss : Nat) (ps : Bool × Nat) (fn : Nat → Int32) (B : Nat) (hW : Wf fn B) (hB1 : 1 ≤ B) (f flk fl : Nat → Int32) (hO : Ok f B) (g : Nat) (hg : g < 10000) : GPi l yX7_does cX7_does 7 .boolean W7 14 314 D [(h, .inr (7, [.int (rf), .ref sc, .int (nI (ss)), .int (nI (ps.2)), .int (bI (ps.1 = true)), .int (rb), .int (rl), .ref nw, .ref tr, .ref lk, .ref di, .int (nI (ac9)), .ref kp, .ref ik, .ref lv])), (nw, .inl (cI, 151, .inl fn)), (tr, .inl (cI, 151, .inl f)), (lk, .inl (cI, 151, .inl flk)), (lv, .inl (cI, 4, .inl fl))] [(cI, .int)] [.ref h, .int (nI (g))] (fun (r9 : Int32) (u9 : va_W) => r9 = (bI (dsP f B g)) ∧ ∃ fl9 : Nat → Int32, ∃ lk9 : Nat → Int32, u9 = [(h, .inr (7, [.int (rf), .ref sc, .int (nI (ss)), .int (nI (ps.2)), .int (bI (ps.1 = true)), .int (rb), .int (rl), .ref nw, .ref tr, .ref lk, .ref di, .int (nI (ac9)), .ref kp, .ref ik, .ref lv])), (nw, .inl (cI, 151, .inl fn)), (tr, .inl (cI, 151, .inl (dsR f B g))), (lk, .inl (cI, 151, .inl lk9)), (lv, .inl (cI, 4, .inl fl9))]) := by
  refine gp_of RX7 (by decide) rfl (Nat.le_of_ble_eq_true rfl) ?_
  intro p e s m below meth c ls H hX hr hlocks hK hP hD hS hl
  generalize gp_A [(h, .inr (7, [.int (rf), .ref sc, .int (nI (ss)), .int (nI (ps.2)), .int (bI (ps.1 = true)), .int (rb), .int (rl), .ref nw, .ref tr, .ref lk, .ref di, .int (nI (ac9)), .ref kp, .ref ik, .ref lv])), (nw, .inl (cI, 151, .inl fn)), (tr, .inl (cI, 151, .inl f)), (lk, .inl (cI, 151, .inl flk)), (lv, .inl (cI, 4, .inl fl))] = A at hD hS ⊢
  have hx := hX.1
  have hb := hX.2.1
  have hown := hX.2.2.2.1
  have hts := hX.2.2.2.2
  have hl : lv_has ls 7 [(0, .ref h), (1, .int (nI (g)))] := hl
  refine lv_iload_n hx hb dX7_does_0 rfl (lv_at hl 1 rfl) ?_
  refine lv_sipush (v := 1000) hx hb dX7_does_1 (by decide) ?_
  refine lv_idiv hx hb dX7_does_4 (by decide) ?_
  refine lv_as (y := nI (g / 1000)) (pk_div (a := g) (d := 1000) (by omega) (by decide) (by decide)) ?_
  refine lv_istore_n (lv' := [(2, .int (nI (g / 1000))), (0, .ref h), (1, .int (nI (g)))]) hx hb dX7_does_5 rfl hl (by decide) rfl (fun ls hl => ?_)
  refine lv_iload_n hx hb dX7_does_6 rfl (lv_at hl 2 rfl) ?_
  refine lv_bipush (v := 100) hx hb dX7_does_7 (by decide) ?_
  refine lv_idiv hx hb dX7_does_9 (by decide) ?_
  refine lv_as (y := nI (g / 100)) (pk_div (a := g) (d := 100) (by omega) (by decide) (by decide)) ?_
  refine lv_bipush (v := 10) hx hb dX7_does_10 (by decide) ?_
  refine lv_irem hx hb dX7_does_12 (by decide) ?_
  refine lv_as (y := nI ((g / 100) % 10)) (pk_rem (a := g / 100) (d := 10) (by omega) (by decide) (by decide)) ?_
  refine lv_istore_n (lv' := [(3, .int (nI ((g / 100) % 10))), (2, .int (nI (g / 1000))), (0, .ref h), (1, .int (nI (g)))]) hx hb dX7_does_13 rfl hl (by decide) rfl (fun ls hl => ?_)
  refine lv_iload_n hx hb dX7_does_14 rfl (lv_at hl 3 rfl) ?_
  refine lv_bipush (v := 10) hx hb dX7_does_15 (by decide) ?_
  refine lv_idiv hx hb dX7_does_17 (by decide) ?_
  refine lv_as (y := nI (g / 10)) (pk_div (a := g) (d := 10) (by omega) (by decide) (by decide)) ?_
  refine lv_bipush (v := 10) hx hb dX7_does_18 (by decide) ?_
  refine lv_irem hx hb dX7_does_20 (by decide) ?_
  refine lv_as (y := nI ((g / 10) % 10)) (pk_rem (a := g / 10) (d := 10) (by omega) (by decide) (by decide)) ?_
  refine lv_istore (lv' := [(4, .int (nI ((g / 10) % 10))), (3, .int (nI ((g / 100) % 10))), (2, .int (nI (g / 1000))), (0, .ref h), (1, .int (nI (g)))]) hx hb dX7_does_21 hl (by decide) rfl (fun ls hl => ?_)
  refine lv_iload_n hx hb dX7_does_23 rfl (lv_at hl 4 rfl) ?_
  refine lv_bipush (v := 10) hx hb dX7_does_24 (by decide) ?_
  refine lv_irem hx hb dX7_does_26 (by decide) ?_
  refine lv_as (y := nI (g % 10)) (pk_rem (a := g) (d := 10) (by omega) (by decide) (by decide)) ?_
  refine lv_istore (lv' := [(5, .int (nI (g % 10))), (4, .int (nI ((g / 10) % 10))), (3, .int (nI ((g / 100) % 10))), (2, .int (nI (g / 1000))), (0, .ref h), (1, .int (nI (g)))]) hx hb dX7_does_27 hl (by decide) rfl (fun ls hl => ?_)
  refine lv_bipush (v := 10) hx hb dX7_does_29 (by decide) ?_
  refine lv_iload hx hb dX7_does_31 (lv_at hl 1 rfl) ?_
  refine lv_imul hx hb dX7_does_33 ?_
  refine lv_as (y := nI (10 * ((g / 10) % 10))) (pk_mul (10) ((g / 10) % 10)) ?_
  refine lv_iload hx hb dX7_does_34 (lv_at hl 0 rfl) ?_
  refine lv_iadd hx hb dX7_does_36 ?_
  refine lv_as (y := nI (10 * ((g / 10) % 10) + g % 10)) (nI_add (10 * ((g / 10) % 10)) (g % 10)) ?_
  refine lv_istore (lv' := [(6, .int (nI (10 * ((g / 10) % 10) + g % 10))), (5, .int (nI (g % 10))), (4, .int (nI ((g / 10) % 10))), (3, .int (nI ((g / 100) % 10))), (2, .int (nI (g / 1000))), (0, .ref h), (1, .int (nI (g)))]) hx hb dX7_does_37 hl (by decide) rfl (fun ls hl => ?_)
  have hda : da g < 10 := by unfold da; omega
  have hbo : bo g < 100 := by unfold bo; omega
  have hB8 := hW.2.1
  have hl : lv_has ls 7 [(6, .int (nI (bo g))), (5, .int (nI (g % 10))), (4, .int (nI ((g / 10) % 10))), (3, .int (nI (da g))), (2, .int (nI (g / 1000))), (0, .ref h), (1, .int (nI (g)))] := hl
  refine lv_iload_n hx hb dX7_does_39 rfl (lv_at hl 4 rfl) ?_
  rcases (show g / 1000 = 0 ∨ g / 1000 = 1 ∨ g / 1000 = 2 ∨ g / 1000 = 3 ∨ g / 1000 = 4 ∨ g / 1000 = 5 ∨ g / 1000 = 6 ∨ g / 1000 = 7 ∨ g / 1000 = 8 ∨ g / 1000 = 9 by omega) with hq | hq | hq | hq | hq | hq | hq | hq | hq | hq
  · skip
    refine lv_as (show nI (g / 1000) = 0 from by rw [hq]; rfl) ?_
    refine lv_tableOut (tgt := 307) hx hb dX7_does_40 (by decide) (by decide) ?_
    refine lv_iconst (v := 0) hx hb dX7_does_307 (by decide) ?_
    have hP : va_P D vwCl [(h, .inr (7, [.int (rf), .ref sc, .int (nI (ss)), .int (nI (ps.2)), .int (bI (ps.1 = true)), .int (rb), .int (rl), .ref nw, .ref tr, .ref lk, .ref di, .int (nI (ac9)), .ref kp, .ref ik, .ref lv])), (nw, .inl (cI, 151, .inl fn)), (tr, .inl (cI, 151, .inl (dsR f B g))), (lk, .inl (cI, 151, .inl flk)), (lv, .inl (cI, 4, .inl fl))] H := by
      rw [show (dsR f B g : Nat → Int32) = f from by rw [dsR, if_neg (by omega), if_neg (by omega), if_neg (by omega), if_neg (by omega), if_neg (by omega), if_neg (by omega)]]
      exact hP
    exact gp_retz hX hr hlocks hS hP (P := dsP f B g) ((bI_0 (by rw [dsP, if_neg (by omega), if_neg (by omega), if_neg (by omega), if_neg (by omega), if_neg (by omega), if_neg (by omega), if_neg (by omega), if_neg (by omega), if_neg (by omega)]; exact fun z => z)).symm) ⟨(bI_0 (by rw [dsP, if_neg (by omega), if_neg (by omega), if_neg (by omega), if_neg (by omega), if_neg (by omega), if_neg (by omega), if_neg (by omega), if_neg (by omega), if_neg (by omega)]; exact fun z => z)).symm, _, _, rfl⟩ dX7_does_308
  · skip
    refine lv_as (show nI (g / 1000) = 1 from by rw [hq]; rfl) ?_
    refine lv_tableIn (off := 52) (tgt := 92) hx hb dX7_does_40 (by decide) (by decide) (by decide) (by decide) ?_
    refine lv_aload_n hx hb dX7_does_92 rfl (lv_at hl 5 rfl) ?_
    refine lv_aload_n hx hb dX7_does_93 rfl (lv_at hl 5 rfl) ?_
    refine va_get (D := D) (ci := 7) (v := .ref tr) (C := RX7) (T := TX7) (N := 15) hx hb hts u7 hown hK hP 0 rfl rfl 8 (by decide) (hts _ (m7 6 rfl)) (fun _ h9 => h9) rfl dX7_does_94 ?_
    refine lv_iload_n hx hb dX7_does_97 rfl (lv_at hl 3 rfl) ?_
    refine lv_iload hx hb dX7_does_98 (lv_at hl 0 rfl) ?_
    refine gp_backi (gp_runV hX good7 i7 (c7_doPut l D cI h lv lk tr [.int (rf), .ref sc, .int (nI (ss)), .int (nI (ps.2)), .int (bI (ps.1 = true)), .int (rb), .int (rl), .ref nw, .ref tr, .ref lk, .ref di, .int (nI (ac9)), .ref kp, .ref ik, .ref lv] fl flk f B hO.1 rfl rfl 5000 (lookT B f).1 (lookT B f).2 (ok_look hO) (nI (da g)) (nI (bo g)) 5000 (recT B (nI (da g)) (nI (bo g)) f).1 (recT B (nI (da g)) (nI (bo g)) f).2 (ok_rec hO _ _)) q7_doPut rfl (m7 105 rfl) (m7 106 rfl) (m7 107 rfl) ⟨Nat.le_of_ble_eq_true rfl, Nat.le_of_ble_eq_true rfl⟩ hK [0] rfl hP hD [0, 4, 3, 2] (by decide) rfl (ci := 7) (q0 := 0) rfl rfl rfl hl.1 rfl (Nat.le_of_ble_eq_true rfl) dX7_does_100 ⟨Nat.zero_le _, Nat.zero_le _⟩) hP hD hS [0, 4, 3, 2] rfl (fun r u h => by obtain ⟨-, x1, x2, rfl⟩ := h; simp only [List.map_cons, List.map_nil]) (fun r9 u H locs hpost hP hD hS => ?_)
    obtain ⟨hr9, x1, x2, rfl⟩ := hpost
    refine lv_as hr9 ?_
    have hP : va_P D vwCl [(h, .inr (7, [.int (rf), .ref sc, .int (nI (ss)), .int (nI (ps.2)), .int (bI (ps.1 = true)), .int (rb), .int (rl), .ref nw, .ref tr, .ref lk, .ref di, .int (nI (ac9)), .ref kp, .ref ik, .ref lv])), (nw, .inl (cI, 151, .inl fn)), (tr, .inl (cI, 151, .inl (if f 2 = 1 ∧ ¬ ((lookT B f).1) < 0 then ((recT B (nI (da g)) (nI (bo g)) f).2) else f))), (lk, .inl (cI, 151, .inl x2)), (lv, .inl (cI, 4, .inl x1))] H := hP
    have hD : va_D A [(h, .inr (7, [.int (rf), .ref sc, .int (nI (ss)), .int (nI (ps.2)), .int (bI (ps.1 = true)), .int (rb), .int (rl), .ref nw, .ref tr, .ref lk, .ref di, .int (nI (ac9)), .ref kp, .ref ik, .ref lv])), (nw, .inl (cI, 151, .inl fn)), (tr, .inl (cI, 151, .inl (if f 2 = 1 ∧ ¬ ((lookT B f).1) < 0 then ((recT B (nI (da g)) (nI (bo g)) f).2) else f))), (lk, .inl (cI, 151, .inl x2)), (lv, .inl (cI, 4, .inl x1))] := hD
    have hP : va_P D vwCl [(h, .inr (7, [.int (rf), .ref sc, .int (nI (ss)), .int (nI (ps.2)), .int (bI (ps.1 = true)), .int (rb), .int (rl), .ref nw, .ref tr, .ref lk, .ref di, .int (nI (ac9)), .ref kp, .ref ik, .ref lv])), (nw, .inl (cI, 151, .inl fn)), (tr, .inl (cI, 151, .inl (dsR f B g))), (lk, .inl (cI, 151, .inl x2)), (lv, .inl (cI, 4, .inl x1))] H := by
      rw [show (dsR f B g : Nat → Int32) = if f 2 = 1 ∧ ¬ ((lookT B f).1) < 0 then ((recT B (nI (da g)) (nI (bo g)) f).2) else f from by rw [dsR, if_pos hq]; rfl]
      exact hP
    exact gp_retz hX hr hlocks hS hP (P := dsP f B g) ((show bI (rmP f B) = bI (dsP f B g) from bI_congr (by rw [dsP, if_pos hq]))) ⟨(show bI (rmP f B) = bI (dsP f B g) from bI_congr (by rw [dsP, if_pos hq])), _, _, rfl⟩ dX7_does_103
  · skip
    refine lv_as (show nI (g / 1000) = 2 from by rw [hq]; rfl) ?_
    refine lv_tableIn (off := 64) (tgt := 104) hx hb dX7_does_40 (by decide) (by decide) (by decide) (by decide) ?_
    have hq1 : ¬ g / 1000 = 1 := by omega
    refine lv_iload hx hb dX7_does_104 (lv_at hl 0 rfl) ?_
    refine lv_if_ne (tgt := 125) hx hb dX7_does_106 (by decide) (fun c106_3 => ?_) (fun c106_3 => ?_)
    · skip
      have c106_3 := cn_ne (a := bo g) (b := 0) (by omega) (by omega) c106_3
      refine lv_iconst (v := 0) hx hb dX7_does_125 (by decide) ?_
      have hP : va_P D vwCl [(h, .inr (7, [.int (rf), .ref sc, .int (nI (ss)), .int (nI (ps.2)), .int (bI (ps.1 = true)), .int (rb), .int (rl), .ref nw, .ref tr, .ref lk, .ref di, .int (nI (ac9)), .ref kp, .ref ik, .ref lv])), (nw, .inl (cI, 151, .inl fn)), (tr, .inl (cI, 151, .inl (dsR f B g))), (lk, .inl (cI, 151, .inl flk)), (lv, .inl (cI, 4, .inl fl))] H := by
        rw [show (dsR f B g : Nat → Int32) = f from by rw [dsR, if_neg hq1, if_pos hq, if_neg c106_3]]
        exact hP
      exact gp_retz hX hr hlocks hS hP (P := dsP f B g) ((bI_0 (by rw [dsP, if_neg hq1, if_pos hq]; exact fun z => c106_3 z.1)).symm) ⟨(bI_0 (by rw [dsP, if_neg hq1, if_pos hq]; exact fun z => c106_3 z.1)).symm, _, _, rfl⟩ dX7_does_126
    · skip
      have c106_3 := cn_eq (a := bo g) (b := 0) (by omega) (by omega) c106_3
      refine lv_aload_n hx hb dX7_does_109 rfl (lv_at hl 5 rfl) ?_
      refine lv_aload_n hx hb dX7_does_110 rfl (lv_at hl 5 rfl) ?_
      refine va_get (D := D) (ci := 7) (v := .ref tr) (C := RX7) (T := TX7) (N := 15) hx hb hts u7 hown hK hP 0 rfl rfl 8 (by decide) (hts _ (m7 6 rfl)) (fun _ h9 => h9) rfl dX7_does_111 ?_
      refine lv_iload_n hx hb dX7_does_114 rfl (lv_at hl 3 rfl) ?_
      refine gp_backi (gp_runV hX good7 i7 (c7_doRemove l D cI h lv lk tr [.int (rf), .ref sc, .int (nI (ss)), .int (nI (ps.2)), .int (bI (ps.1 = true)), .int (rb), .int (rl), .ref nw, .ref tr, .ref lk, .ref di, .int (nI (ac9)), .ref kp, .ref ik, .ref lv] fl flk f B hO.1 rfl rfl 5000 (lookT B f).1 (lookT B f).2 (ok_look hO) (nI (da g)) 5000 (recT B (nI (da g)) (-9) f).1 (recT B (nI (da g)) (-9) f).2 (ok_rec hO _ _)) q7_doRemove rfl (m7 140 rfl) (m7 141 rfl) (m7 142 rfl) ⟨Nat.le_of_ble_eq_true rfl, Nat.le_of_ble_eq_true rfl⟩ hK [0] rfl hP hD [0, 4, 3, 2] (by decide) rfl (ci := 7) (q0 := 0) rfl rfl rfl hl.1 rfl (Nat.le_of_ble_eq_true rfl) dX7_does_115 ⟨Nat.zero_le _, Nat.zero_le _⟩) hP hD hS [0, 4, 3, 2] rfl (fun r u h => by obtain ⟨-, x4, x5, rfl⟩ := h; simp only [List.map_cons, List.map_nil]) (fun r9 u H locs hpost hP hD hS => ?_)
      obtain ⟨hr9, x4, x5, rfl⟩ := hpost
      refine lv_as hr9 ?_
      have hP : va_P D vwCl [(h, .inr (7, [.int (rf), .ref sc, .int (nI (ss)), .int (nI (ps.2)), .int (bI (ps.1 = true)), .int (rb), .int (rl), .ref nw, .ref tr, .ref lk, .ref di, .int (nI (ac9)), .ref kp, .ref ik, .ref lv])), (nw, .inl (cI, 151, .inl fn)), (tr, .inl (cI, 151, .inl (if vlu f (nI (da g)) B ≠ -9 ∧ f 2 = 1 ∧ ¬ ((lookT B f).1) < 0 then ((recT B (nI (da g)) (-9) f).2) else f))), (lk, .inl (cI, 151, .inl x5)), (lv, .inl (cI, 4, .inl x4))] H := hP
      have hD : va_D A [(h, .inr (7, [.int (rf), .ref sc, .int (nI (ss)), .int (nI (ps.2)), .int (bI (ps.1 = true)), .int (rb), .int (rl), .ref nw, .ref tr, .ref lk, .ref di, .int (nI (ac9)), .ref kp, .ref ik, .ref lv])), (nw, .inl (cI, 151, .inl fn)), (tr, .inl (cI, 151, .inl (if vlu f (nI (da g)) B ≠ -9 ∧ f 2 = 1 ∧ ¬ ((lookT B f).1) < 0 then ((recT B (nI (da g)) (-9) f).2) else f))), (lk, .inl (cI, 151, .inl x5)), (lv, .inl (cI, 4, .inl x4))] := hD
      refine lv_if_eq (tgt := 125) hx hb dX7_does_118 (by decide) (fun c118_6 => ?_) (fun c118_6 => ?_)
      · skip
        have c118_6 := bI_f c118_6
        refine lv_iconst (v := 0) hx hb dX7_does_125 (by decide) ?_
        have hP : va_P D vwCl [(h, .inr (7, [.int (rf), .ref sc, .int (nI (ss)), .int (nI (ps.2)), .int (bI (ps.1 = true)), .int (rb), .int (rl), .ref nw, .ref tr, .ref lk, .ref di, .int (nI (ac9)), .ref kp, .ref ik, .ref lv])), (nw, .inl (cI, 151, .inl fn)), (tr, .inl (cI, 151, .inl (dsR f B g))), (lk, .inl (cI, 151, .inl x5)), (lv, .inl (cI, 4, .inl x4))] H := by
          rw [show (dsR f B g : Nat → Int32) = if vlu f (nI (da g)) B ≠ -9 ∧ f 2 = 1 ∧ ¬ ((lookT B f).1) < 0 then ((recT B (nI (da g)) (-9) f).2) else f from by rw [dsR, if_neg hq1, if_pos hq, if_pos c106_3]; rfl]
          exact hP
        exact gp_retz hX hr hlocks hS hP (P := dsP f B g) ((bI_0 (by rw [dsP, if_neg hq1, if_pos hq]; exact fun z => c118_6 z.2)).symm) ⟨(bI_0 (by rw [dsP, if_neg hq1, if_pos hq]; exact fun z => c118_6 z.2)).symm, _, _, rfl⟩ dX7_does_126
      · skip
        have c118_6 := bI_t c118_6
        refine lv_iconst (v := 1) hx hb dX7_does_121 (by decide) ?_
        refine lv_goto (tgt := 126) hx hb dX7_does_122 (by decide) ?_
        have hP : va_P D vwCl [(h, .inr (7, [.int (rf), .ref sc, .int (nI (ss)), .int (nI (ps.2)), .int (bI (ps.1 = true)), .int (rb), .int (rl), .ref nw, .ref tr, .ref lk, .ref di, .int (nI (ac9)), .ref kp, .ref ik, .ref lv])), (nw, .inl (cI, 151, .inl fn)), (tr, .inl (cI, 151, .inl (dsR f B g))), (lk, .inl (cI, 151, .inl x5)), (lv, .inl (cI, 4, .inl x4))] H := by
          rw [show (dsR f B g : Nat → Int32) = if vlu f (nI (da g)) B ≠ -9 ∧ f 2 = 1 ∧ ¬ ((lookT B f).1) < 0 then ((recT B (nI (da g)) (-9) f).2) else f from by rw [dsR, if_neg hq1, if_pos hq, if_pos c106_3]; rfl]
          exact hP
        exact gp_retz hX hr hlocks hS hP (P := dsP f B g) ((bI_1 (by rw [dsP, if_neg hq1, if_pos hq]; exact ⟨c106_3, c118_6⟩)).symm) ⟨(bI_1 (by rw [dsP, if_neg hq1, if_pos hq]; exact ⟨c106_3, c118_6⟩)).symm, _, _, rfl⟩ dX7_does_126
  · skip
    refine lv_as (show nI (g / 1000) = 3 from by rw [hq]; rfl) ?_
    refine lv_tableIn (off := 87) (tgt := 127) hx hb dX7_does_40 (by decide) (by decide) (by decide) (by decide) ?_
    have hq1 : ¬ g / 1000 = 1 := by omega
    have hq2 : ¬ g / 1000 = 2 := by omega
    refine lv_iload_n hx hb dX7_does_127 rfl (lv_at hl 3 rfl) ?_
    refine lv_if_ne (tgt := 151) hx hb dX7_does_128 (by decide) (fun c128_7 => ?_) (fun c128_7 => ?_)
    · skip
      have c128_7 := cn_ne (a := da g) (b := 0) (by omega) (by omega) c128_7
      refine lv_iconst (v := 0) hx hb dX7_does_151 (by decide) ?_
      have hP : va_P D vwCl [(h, .inr (7, [.int (rf), .ref sc, .int (nI (ss)), .int (nI (ps.2)), .int (bI (ps.1 = true)), .int (rb), .int (rl), .ref nw, .ref tr, .ref lk, .ref di, .int (nI (ac9)), .ref kp, .ref ik, .ref lv])), (nw, .inl (cI, 151, .inl fn)), (tr, .inl (cI, 151, .inl (dsR f B g))), (lk, .inl (cI, 151, .inl flk)), (lv, .inl (cI, 4, .inl fl))] H := by
        rw [show (dsR f B g : Nat → Int32) = f from by rw [dsR, if_neg hq1, if_neg hq2, if_pos hq, if_neg (fun z => c128_7 z.1)]]
        exact hP
      exact gp_retz hX hr hlocks hS hP (P := dsP f B g) ((bI_0 (by rw [dsP, if_neg hq1, if_neg hq2, if_pos hq]; exact fun z => c128_7 z.1.1)).symm) ⟨(bI_0 (by rw [dsP, if_neg hq1, if_neg hq2, if_pos hq]; exact fun z => c128_7 z.1.1)).symm, _, _, rfl⟩ dX7_does_152
    · skip
      have c128_7 := cn_eq (a := da g) (b := 0) (by omega) (by omega) c128_7
      refine lv_iload hx hb dX7_does_131 (lv_at hl 0 rfl) ?_
      refine lv_if_ne (tgt := 151) hx hb dX7_does_133 (by decide) (fun c133_8 => ?_) (fun c133_8 => ?_)
      · skip
        have c133_8 := cn_ne (a := bo g) (b := 0) (by omega) (by omega) c133_8
        refine lv_iconst (v := 0) hx hb dX7_does_151 (by decide) ?_
        have hP : va_P D vwCl [(h, .inr (7, [.int (rf), .ref sc, .int (nI (ss)), .int (nI (ps.2)), .int (bI (ps.1 = true)), .int (rb), .int (rl), .ref nw, .ref tr, .ref lk, .ref di, .int (nI (ac9)), .ref kp, .ref ik, .ref lv])), (nw, .inl (cI, 151, .inl fn)), (tr, .inl (cI, 151, .inl (dsR f B g))), (lk, .inl (cI, 151, .inl flk)), (lv, .inl (cI, 4, .inl fl))] H := by
          rw [show (dsR f B g : Nat → Int32) = f from by rw [dsR, if_neg hq1, if_neg hq2, if_pos hq, if_neg (fun z => c133_8 z.2)]]
          exact hP
        exact gp_retz hX hr hlocks hS hP (P := dsP f B g) ((bI_0 (by rw [dsP, if_neg hq1, if_neg hq2, if_pos hq]; exact fun z => c133_8 z.1.2)).symm) ⟨(bI_0 (by rw [dsP, if_neg hq1, if_neg hq2, if_pos hq]; exact fun z => c133_8 z.1.2)).symm, _, _, rfl⟩ dX7_does_152
      · skip
        have c133_8 := cn_eq (a := bo g) (b := 0) (by omega) (by omega) c133_8
        refine lv_aload_n hx hb dX7_does_136 rfl (lv_at hl 5 rfl) ?_
        refine lv_aload_n hx hb dX7_does_137 rfl (lv_at hl 5 rfl) ?_
        refine va_get (D := D) (ci := 7) (v := .ref tr) (C := RX7) (T := TX7) (N := 15) hx hb hts u7 hown hK hP 0 rfl rfl 8 (by decide) (hts _ (m7 6 rfl)) (fun _ h9 => h9) rfl dX7_does_138 ?_
        refine gp_backi (gp_runV hX good7 i7 (c7_doSweep l D cI h lv tr [.int (rf), .ref sc, .int (nI (ss)), .int (nI (ps.2)), .int (bI (ps.1 = true)), .int (rb), .int (rl), .ref nw, .ref tr, .ref lk, .ref di, .int (nI (ac9)), .ref kp, .ref ik, .ref lv] fl f B hO.1 rfl (swpT f B).1 (swpT f B).2 (ok_swp hO)) q7_doSweep rfl (m7 147 rfl) (m7 148 rfl) (m7 149 rfl) ⟨Nat.le_of_ble_eq_true rfl, Nat.le_of_ble_eq_true rfl⟩ hK [0] rfl hP hD [0, 4, 2] (by decide) rfl (ci := 7) (q0 := 0) rfl rfl rfl hl.1 rfl (Nat.le_of_ble_eq_true rfl) dX7_does_141 ⟨Nat.zero_le _, Nat.zero_le _⟩) hP hD hS [0, 4, 2] rfl (fun r u h => by obtain ⟨-, x9, rfl⟩ := h; simp only [List.map_cons, List.map_nil]) (fun r9 u H locs hpost hP hD hS => ?_)
        obtain ⟨hr9, x9, rfl⟩ := hpost
        refine lv_as hr9 ?_
        have hP : va_P D vwCl [(h, .inr (7, [.int (rf), .ref sc, .int (nI (ss)), .int (nI (ps.2)), .int (bI (ps.1 = true)), .int (rb), .int (rl), .ref nw, .ref tr, .ref lk, .ref di, .int (nI (ac9)), .ref kp, .ref ik, .ref lv])), (nw, .inl (cI, 151, .inl fn)), (tr, .inl (cI, 151, .inl ((swpT f B).2))), (lk, .inl (cI, 151, .inl flk)), (lv, .inl (cI, 4, .inl x9))] H := hP
        have hD : va_D A [(h, .inr (7, [.int (rf), .ref sc, .int (nI (ss)), .int (nI (ps.2)), .int (bI (ps.1 = true)), .int (rb), .int (rl), .ref nw, .ref tr, .ref lk, .ref di, .int (nI (ac9)), .ref kp, .ref ik, .ref lv])), (nw, .inl (cI, 151, .inl fn)), (tr, .inl (cI, 151, .inl ((swpT f B).2))), (lk, .inl (cI, 151, .inl flk)), (lv, .inl (cI, 4, .inl x9))] := hD
        refine lv_if_eq (tgt := 151) hx hb dX7_does_144 (by decide) (fun c144_10 => ?_) (fun c144_10 => ?_)
        · skip
          have c144_10 := bI_f c144_10
          refine lv_iconst (v := 0) hx hb dX7_does_151 (by decide) ?_
          have hP : va_P D vwCl [(h, .inr (7, [.int (rf), .ref sc, .int (nI (ss)), .int (nI (ps.2)), .int (bI (ps.1 = true)), .int (rb), .int (rl), .ref nw, .ref tr, .ref lk, .ref di, .int (nI (ac9)), .ref kp, .ref ik, .ref lv])), (nw, .inl (cI, 151, .inl fn)), (tr, .inl (cI, 151, .inl (dsR f B g))), (lk, .inl (cI, 151, .inl flk)), (lv, .inl (cI, 4, .inl x9))] H := by
            rw [show (dsR f B g : Nat → Int32) = (swpT f B).2 from by rw [dsR, if_neg hq1, if_neg hq2, if_pos hq, if_pos ⟨c128_7, c133_8⟩]]
            exact hP
          exact gp_retz hX hr hlocks hS hP (P := dsP f B g) ((bI_0 (by rw [dsP, if_neg hq1, if_neg hq2, if_pos hq]; exact fun z => c144_10 z.2)).symm) ⟨(bI_0 (by rw [dsP, if_neg hq1, if_neg hq2, if_pos hq]; exact fun z => c144_10 z.2)).symm, _, _, rfl⟩ dX7_does_152
        · skip
          have c144_10 := bI_t c144_10
          refine lv_iconst (v := 1) hx hb dX7_does_147 (by decide) ?_
          refine lv_goto (tgt := 152) hx hb dX7_does_148 (by decide) ?_
          have hP : va_P D vwCl [(h, .inr (7, [.int (rf), .ref sc, .int (nI (ss)), .int (nI (ps.2)), .int (bI (ps.1 = true)), .int (rb), .int (rl), .ref nw, .ref tr, .ref lk, .ref di, .int (nI (ac9)), .ref kp, .ref ik, .ref lv])), (nw, .inl (cI, 151, .inl fn)), (tr, .inl (cI, 151, .inl (dsR f B g))), (lk, .inl (cI, 151, .inl flk)), (lv, .inl (cI, 4, .inl x9))] H := by
            rw [show (dsR f B g : Nat → Int32) = (swpT f B).2 from by rw [dsR, if_neg hq1, if_neg hq2, if_pos hq, if_pos ⟨c128_7, c133_8⟩]]
            exact hP
          exact gp_retz hX hr hlocks hS hP (P := dsP f B g) ((bI_1 (by rw [dsP, if_neg hq1, if_neg hq2, if_pos hq]; exact ⟨⟨c128_7, c133_8⟩, c144_10⟩)).symm) ⟨(bI_1 (by rw [dsP, if_neg hq1, if_neg hq2, if_pos hq]; exact ⟨⟨c128_7, c133_8⟩, c144_10⟩)).symm, _, _, rfl⟩ dX7_does_152
  · skip
    refine lv_as (show nI (g / 1000) = 4 from by rw [hq]; rfl) ?_
    refine lv_tableIn (off := 113) (tgt := 153) hx hb dX7_does_40 (by decide) (by decide) (by decide) (by decide) ?_
    have hq1 : ¬ g / 1000 = 1 := by omega
    have hq2 : ¬ g / 1000 = 2 := by omega
    have hq3 : ¬ g / 1000 = 3 := by omega
    refine lv_iload_n hx hb dX7_does_153 rfl (lv_at hl 3 rfl) ?_
    refine lv_if_ne (tgt := 173) hx hb dX7_does_154 (by decide) (fun c154_11 => ?_) (fun c154_11 => ?_)
    · skip
      have c154_11 := cn_ne (a := da g) (b := 0) (by omega) (by omega) c154_11
      refine lv_iconst (v := 0) hx hb dX7_does_173 (by decide) ?_
      have hP : va_P D vwCl [(h, .inr (7, [.int (rf), .ref sc, .int (nI (ss)), .int (nI (ps.2)), .int (bI (ps.1 = true)), .int (rb), .int (rl), .ref nw, .ref tr, .ref lk, .ref di, .int (nI (ac9)), .ref kp, .ref ik, .ref lv])), (nw, .inl (cI, 151, .inl fn)), (tr, .inl (cI, 151, .inl (dsR f B g))), (lk, .inl (cI, 151, .inl flk)), (lv, .inl (cI, 4, .inl fl))] H := by
        rw [show (dsR f B g : Nat → Int32) = f from by rw [dsR, if_neg hq1, if_neg hq2, if_neg hq3, if_pos hq, if_neg c154_11]]
        exact hP
      exact gp_retz hX hr hlocks hS hP (P := dsP f B g) ((bI_0 (by rw [dsP, if_neg hq1, if_neg hq2, if_neg hq3, if_pos hq]; exact fun z => c154_11 z.1)).symm) ⟨(bI_0 (by rw [dsP, if_neg hq1, if_neg hq2, if_neg hq3, if_pos hq]; exact fun z => c154_11 z.1)).symm, _, _, rfl⟩ dX7_does_174
    · skip
      have c154_11 := cn_eq (a := da g) (b := 0) (by omega) (by omega) c154_11
      refine lv_aload_n hx hb dX7_does_157 rfl (lv_at hl 5 rfl) ?_
      refine va_get (D := D) (ci := 7) (v := .ref tr) (C := RX7) (T := TX7) (N := 15) hx hb hts u7 hown hK hP 0 rfl rfl 8 (by decide) (hts _ (m7 6 rfl)) (fun _ h9 => h9) rfl dX7_does_158 ?_
      refine lv_iload hx hb dX7_does_161 (lv_at hl 0 rfl) ?_
      refine gp_backi (gp_runS hX good7 i7 (c7_doCut l D cI tr f (nI (bo g))) q7_doCut rfl (m7 144 rfl) (m7 145 rfl) ⟨Nat.le_of_ble_eq_true rfl, Nat.le_of_ble_eq_true rfl⟩ hK [0] rfl hP hD [2] (by decide) rfl hl.1 rfl (Nat.le_of_ble_eq_true rfl) dX7_does_163 ⟨Nat.zero_le _, Nat.zero_le _⟩) hP hD hS [2] rfl (fun r u h => by rw [h.2]; simp only [List.map_cons, List.map_nil]) (fun r9 u H locs hpost hP hD hS => ?_)
      obtain ⟨hr9, rfl⟩ := hpost
      refine lv_as hr9 ?_
      have hP : va_P D vwCl [(h, .inr (7, [.int (rf), .ref sc, .int (nI (ss)), .int (nI (ps.2)), .int (bI (ps.1 = true)), .int (rb), .int (rl), .ref nw, .ref tr, .ref lk, .ref di, .int (nI (ac9)), .ref kp, .ref ik, .ref lv])), (nw, .inl (cI, 151, .inl fn)), (tr, .inl (cI, 151, .inl (if f 2 = 0 then f else upd f 5 (nI (bo g))))), (lk, .inl (cI, 151, .inl flk)), (lv, .inl (cI, 4, .inl fl))] H := hP
      have hD : va_D A [(h, .inr (7, [.int (rf), .ref sc, .int (nI (ss)), .int (nI (ps.2)), .int (bI (ps.1 = true)), .int (rb), .int (rl), .ref nw, .ref tr, .ref lk, .ref di, .int (nI (ac9)), .ref kp, .ref ik, .ref lv])), (nw, .inl (cI, 151, .inl fn)), (tr, .inl (cI, 151, .inl (if f 2 = 0 then f else upd f 5 (nI (bo g))))), (lk, .inl (cI, 151, .inl flk)), (lv, .inl (cI, 4, .inl fl))] := hD
      refine lv_if_eq (tgt := 173) hx hb dX7_does_166 (by decide) (fun c166_12 => ?_) (fun c166_12 => ?_)
      · skip
        have c166_12 := bI_f c166_12
        refine lv_iconst (v := 0) hx hb dX7_does_173 (by decide) ?_
        have hP : va_P D vwCl [(h, .inr (7, [.int (rf), .ref sc, .int (nI (ss)), .int (nI (ps.2)), .int (bI (ps.1 = true)), .int (rb), .int (rl), .ref nw, .ref tr, .ref lk, .ref di, .int (nI (ac9)), .ref kp, .ref ik, .ref lv])), (nw, .inl (cI, 151, .inl fn)), (tr, .inl (cI, 151, .inl (dsR f B g))), (lk, .inl (cI, 151, .inl flk)), (lv, .inl (cI, 4, .inl fl))] H := by
          rw [show (dsR f B g : Nat → Int32) = if f 2 = 0 then f else upd f 5 (nI (bo g)) from by rw [dsR, if_neg hq1, if_neg hq2, if_neg hq3, if_pos hq, if_pos c154_11]; rfl]
          exact hP
        exact gp_retz hX hr hlocks hS hP (P := dsP f B g) ((bI_0 (by rw [dsP, if_neg hq1, if_neg hq2, if_neg hq3, if_pos hq]; exact fun z => c166_12 z.2)).symm) ⟨(bI_0 (by rw [dsP, if_neg hq1, if_neg hq2, if_neg hq3, if_pos hq]; exact fun z => c166_12 z.2)).symm, _, _, rfl⟩ dX7_does_174
      · skip
        have c166_12 := bI_t c166_12
        refine lv_iconst (v := 1) hx hb dX7_does_169 (by decide) ?_
        refine lv_goto (tgt := 174) hx hb dX7_does_170 (by decide) ?_
        have hP : va_P D vwCl [(h, .inr (7, [.int (rf), .ref sc, .int (nI (ss)), .int (nI (ps.2)), .int (bI (ps.1 = true)), .int (rb), .int (rl), .ref nw, .ref tr, .ref lk, .ref di, .int (nI (ac9)), .ref kp, .ref ik, .ref lv])), (nw, .inl (cI, 151, .inl fn)), (tr, .inl (cI, 151, .inl (dsR f B g))), (lk, .inl (cI, 151, .inl flk)), (lv, .inl (cI, 4, .inl fl))] H := by
          rw [show (dsR f B g : Nat → Int32) = if f 2 = 0 then f else upd f 5 (nI (bo g)) from by rw [dsR, if_neg hq1, if_neg hq2, if_neg hq3, if_pos hq, if_pos c154_11]; rfl]
          exact hP
        exact gp_retz hX hr hlocks hS hP (P := dsP f B g) ((bI_1 (by rw [dsP, if_neg hq1, if_neg hq2, if_neg hq3, if_pos hq]; exact ⟨c154_11, c166_12⟩)).symm) ⟨(bI_1 (by rw [dsP, if_neg hq1, if_neg hq2, if_neg hq3, if_pos hq]; exact ⟨c154_11, c166_12⟩)).symm, _, _, rfl⟩ dX7_does_174
  · skip
    refine lv_as (show nI (g / 1000) = 5 from by rw [hq]; rfl) ?_
    refine lv_tableIn (off := 135) (tgt := 175) hx hb dX7_does_40 (by decide) (by decide) (by decide) (by decide) ?_
    have hq1 : ¬ g / 1000 = 1 := by omega
    have hq2 : ¬ g / 1000 = 2 := by omega
    have hq3 : ¬ g / 1000 = 3 := by omega
    have hq4 : ¬ g / 1000 = 4 := by omega
    refine lv_iload_n hx hb dX7_does_175 rfl (lv_at hl 3 rfl) ?_
    refine lv_if_ne (tgt := 198) hx hb dX7_does_176 (by decide) (fun c176_13 => ?_) (fun c176_13 => ?_)
    · skip
      have c176_13 := cn_ne (a := da g) (b := 0) (by omega) (by omega) c176_13
      refine lv_iconst (v := 0) hx hb dX7_does_198 (by decide) ?_
      have hP : va_P D vwCl [(h, .inr (7, [.int (rf), .ref sc, .int (nI (ss)), .int (nI (ps.2)), .int (bI (ps.1 = true)), .int (rb), .int (rl), .ref nw, .ref tr, .ref lk, .ref di, .int (nI (ac9)), .ref kp, .ref ik, .ref lv])), (nw, .inl (cI, 151, .inl fn)), (tr, .inl (cI, 151, .inl (dsR f B g))), (lk, .inl (cI, 151, .inl flk)), (lv, .inl (cI, 4, .inl fl))] H := by
        rw [show (dsR f B g : Nat → Int32) = f from by rw [dsR, if_neg hq1, if_neg hq2, if_neg hq3, if_neg hq4, if_pos hq, if_neg (fun z => c176_13 z.1)]]
        exact hP
      exact gp_retz hX hr hlocks hS hP (P := dsP f B g) ((bI_0 (by rw [dsP, if_neg hq1, if_neg hq2, if_neg hq3, if_neg hq4, if_pos hq]; exact fun z => c176_13 z.1.1)).symm) ⟨(bI_0 (by rw [dsP, if_neg hq1, if_neg hq2, if_neg hq3, if_neg hq4, if_pos hq]; exact fun z => c176_13 z.1.1)).symm, _, _, rfl⟩ dX7_does_199
    · skip
      have c176_13 := cn_eq (a := da g) (b := 0) (by omega) (by omega) c176_13
      refine lv_iload hx hb dX7_does_179 (lv_at hl 0 rfl) ?_
      refine lv_if_ne (tgt := 198) hx hb dX7_does_181 (by decide) (fun c181_14 => ?_) (fun c181_14 => ?_)
      · skip
        have c181_14 := cn_ne (a := bo g) (b := 0) (by omega) (by omega) c181_14
        refine lv_iconst (v := 0) hx hb dX7_does_198 (by decide) ?_
        have hP : va_P D vwCl [(h, .inr (7, [.int (rf), .ref sc, .int (nI (ss)), .int (nI (ps.2)), .int (bI (ps.1 = true)), .int (rb), .int (rl), .ref nw, .ref tr, .ref lk, .ref di, .int (nI (ac9)), .ref kp, .ref ik, .ref lv])), (nw, .inl (cI, 151, .inl fn)), (tr, .inl (cI, 151, .inl (dsR f B g))), (lk, .inl (cI, 151, .inl flk)), (lv, .inl (cI, 4, .inl fl))] H := by
          rw [show (dsR f B g : Nat → Int32) = f from by rw [dsR, if_neg hq1, if_neg hq2, if_neg hq3, if_neg hq4, if_pos hq, if_neg (fun z => c181_14 z.2)]]
          exact hP
        exact gp_retz hX hr hlocks hS hP (P := dsP f B g) ((bI_0 (by rw [dsP, if_neg hq1, if_neg hq2, if_neg hq3, if_neg hq4, if_pos hq]; exact fun z => c181_14 z.1.2)).symm) ⟨(bI_0 (by rw [dsP, if_neg hq1, if_neg hq2, if_neg hq3, if_neg hq4, if_pos hq]; exact fun z => c181_14 z.1.2)).symm, _, _, rfl⟩ dX7_does_199
      · skip
        have c181_14 := cn_eq (a := bo g) (b := 0) (by omega) (by omega) c181_14
        refine lv_aload_n hx hb dX7_does_184 rfl (lv_at hl 5 rfl) ?_
        refine va_get (D := D) (ci := 7) (v := .ref tr) (C := RX7) (T := TX7) (N := 15) hx hb hts u7 hown hK hP 0 rfl rfl 8 (by decide) (hts _ (m7 6 rfl)) (fun _ h9 => h9) rfl dX7_does_185 ?_
        refine gp_backi (gp_runS hX good7 i7 (c7_doStart l D cI tr f B hO.1.1 hO.1.2.1) q7_doStart rfl (m7 151 rfl) (m7 152 rfl) ⟨Nat.le_of_ble_eq_true rfl, Nat.le_of_ble_eq_true rfl⟩ hK [0] rfl hP hD [2] (by decide) rfl hl.1 rfl (Nat.le_of_ble_eq_true rfl) dX7_does_188 ⟨Nat.zero_le _, Nat.zero_le _⟩) hP hD hS [2] rfl (fun r u h => by rw [h.2]; simp only [List.map_cons, List.map_nil]) (fun r9 u H locs hpost hP hD hS => ?_)
        obtain ⟨hr9, rfl⟩ := hpost
        refine lv_as hr9 ?_
        have hP : va_P D vwCl [(h, .inr (7, [.int (rf), .ref sc, .int (nI (ss)), .int (nI (ps.2)), .int (bI (ps.1 = true)), .int (rb), .int (rl), .ref nw, .ref tr, .ref lk, .ref di, .int (nI (ac9)), .ref kp, .ref ik, .ref lv])), (nw, .inl (cI, 151, .inl fn)), (tr, .inl (cI, 151, .inl (if f 2 = 1 then f else puR f B))), (lk, .inl (cI, 151, .inl flk)), (lv, .inl (cI, 4, .inl fl))] H := hP
        have hD : va_D A [(h, .inr (7, [.int (rf), .ref sc, .int (nI (ss)), .int (nI (ps.2)), .int (bI (ps.1 = true)), .int (rb), .int (rl), .ref nw, .ref tr, .ref lk, .ref di, .int (nI (ac9)), .ref kp, .ref ik, .ref lv])), (nw, .inl (cI, 151, .inl fn)), (tr, .inl (cI, 151, .inl (if f 2 = 1 then f else puR f B))), (lk, .inl (cI, 151, .inl flk)), (lv, .inl (cI, 4, .inl fl))] := hD
        refine lv_if_eq (tgt := 198) hx hb dX7_does_191 (by decide) (fun c191_15 => ?_) (fun c191_15 => ?_)
        · skip
          have c191_15 := bI_f c191_15
          refine lv_iconst (v := 0) hx hb dX7_does_198 (by decide) ?_
          have hP : va_P D vwCl [(h, .inr (7, [.int (rf), .ref sc, .int (nI (ss)), .int (nI (ps.2)), .int (bI (ps.1 = true)), .int (rb), .int (rl), .ref nw, .ref tr, .ref lk, .ref di, .int (nI (ac9)), .ref kp, .ref ik, .ref lv])), (nw, .inl (cI, 151, .inl fn)), (tr, .inl (cI, 151, .inl (dsR f B g))), (lk, .inl (cI, 151, .inl flk)), (lv, .inl (cI, 4, .inl fl))] H := by
            rw [show (dsR f B g : Nat → Int32) = if f 2 = 1 then f else puR f B from by rw [dsR, if_neg hq1, if_neg hq2, if_neg hq3, if_neg hq4, if_pos hq, if_pos ⟨c176_13, c181_14⟩]; rfl]
            exact hP
          exact gp_retz hX hr hlocks hS hP (P := dsP f B g) ((bI_0 (by rw [dsP, if_neg hq1, if_neg hq2, if_neg hq3, if_neg hq4, if_pos hq]; exact fun z => c191_15 z.2)).symm) ⟨(bI_0 (by rw [dsP, if_neg hq1, if_neg hq2, if_neg hq3, if_neg hq4, if_pos hq]; exact fun z => c191_15 z.2)).symm, _, _, rfl⟩ dX7_does_199
        · skip
          have c191_15 := bI_t c191_15
          refine lv_iconst (v := 1) hx hb dX7_does_194 (by decide) ?_
          refine lv_goto (tgt := 199) hx hb dX7_does_195 (by decide) ?_
          have hP : va_P D vwCl [(h, .inr (7, [.int (rf), .ref sc, .int (nI (ss)), .int (nI (ps.2)), .int (bI (ps.1 = true)), .int (rb), .int (rl), .ref nw, .ref tr, .ref lk, .ref di, .int (nI (ac9)), .ref kp, .ref ik, .ref lv])), (nw, .inl (cI, 151, .inl fn)), (tr, .inl (cI, 151, .inl (dsR f B g))), (lk, .inl (cI, 151, .inl flk)), (lv, .inl (cI, 4, .inl fl))] H := by
            rw [show (dsR f B g : Nat → Int32) = if f 2 = 1 then f else puR f B from by rw [dsR, if_neg hq1, if_neg hq2, if_neg hq3, if_neg hq4, if_pos hq, if_pos ⟨c176_13, c181_14⟩]; rfl]
            exact hP
          exact gp_retz hX hr hlocks hS hP (P := dsP f B g) ((bI_1 (by rw [dsP, if_neg hq1, if_neg hq2, if_neg hq3, if_neg hq4, if_pos hq]; exact ⟨⟨c176_13, c181_14⟩, c191_15⟩)).symm) ⟨(bI_1 (by rw [dsP, if_neg hq1, if_neg hq2, if_neg hq3, if_neg hq4, if_pos hq]; exact ⟨⟨c176_13, c181_14⟩, c191_15⟩)).symm, _, _, rfl⟩ dX7_does_199
  · skip
    refine lv_as (show nI (g / 1000) = 6 from by rw [hq]; rfl) ?_
    refine lv_tableIn (off := 160) (tgt := 200) hx hb dX7_does_40 (by decide) (by decide) (by decide) (by decide) ?_
    have hq1 : ¬ g / 1000 = 1 := by omega
    have hq2 : ¬ g / 1000 = 2 := by omega
    have hq3 : ¬ g / 1000 = 3 := by omega
    have hq4 : ¬ g / 1000 = 4 := by omega
    have hq5 : ¬ g / 1000 = 5 := by omega
    refine lv_aload_n hx hb dX7_does_200 rfl (lv_at hl 5 rfl) ?_
    refine va_get (D := D) (ci := 7) (v := .ref tr) (C := RX7) (T := TX7) (N := 15) hx hb hts u7 hown hK hP 0 rfl rfl 8 (by decide) (hts _ (m7 6 rfl)) (fun _ h9 => h9) rfl dX7_does_201 ?_
    refine lv_iconst (v := 2) hx hb dX7_does_204 (by decide) ?_
    refine ra_iald (i := 2) hx hb hK hP 2 0 rfl rfl (by omega) (by decide) dX7_does_205 ?_
    refine lv_iconst (v := 1) hx hb dX7_does_206 (by decide) ?_
    refine lv_icmp_ne (tgt := 227) hx hb dX7_does_207 (by decide) (fun c207_16 => ?_) (fun c207_16 => ?_)
    · skip
      refine lv_iconst (v := 0) hx hb dX7_does_227 (by decide) ?_
      have hP : va_P D vwCl [(h, .inr (7, [.int (rf), .ref sc, .int (nI (ss)), .int (nI (ps.2)), .int (bI (ps.1 = true)), .int (rb), .int (rl), .ref nw, .ref tr, .ref lk, .ref di, .int (nI (ac9)), .ref kp, .ref ik, .ref lv])), (nw, .inl (cI, 151, .inl fn)), (tr, .inl (cI, 151, .inl (dsR f B g))), (lk, .inl (cI, 151, .inl flk)), (lv, .inl (cI, 4, .inl fl))] H := by
        rw [show (dsR f B g : Nat → Int32) = f from by rw [dsR, if_neg hq1, if_neg hq2, if_neg hq3, if_neg hq4, if_neg hq5, if_neg (by omega)]]
        exact hP
      exact gp_retz hX hr hlocks hS hP (P := dsP f B g) ((bI_0 (by rw [dsP, if_neg hq1, if_neg hq2, if_neg hq3, if_neg hq4, if_neg hq5, if_pos hq]; exact fun z => c207_16 z.1)).symm) ⟨(bI_0 (by rw [dsP, if_neg hq1, if_neg hq2, if_neg hq3, if_neg hq4, if_neg hq5, if_pos hq]; exact fun z => c207_16 z.1)).symm, _, _, rfl⟩ dX7_does_228
    · skip
      refine lv_aload_n hx hb dX7_does_210 rfl (lv_at hl 5 rfl) ?_
      refine va_get (D := D) (ci := 7) (v := .ref tr) (C := RX7) (T := TX7) (N := 15) hx hb hts u7 hown hK hP 0 rfl rfl 8 (by decide) (hts _ (m7 6 rfl)) (fun _ h9 => h9) rfl dX7_does_211 ?_
      refine lv_iload_n hx hb dX7_does_214 rfl (lv_at hl 3 rfl) ?_
      refine rp_callS hX good7 i7 (c7_valueOf l D cI tr f (nI (da g)) B hO.1.1 hO.1.2.1) q7_valueOf rfl (m7 35 rfl) (m7 36 rfl) ⟨Nat.le_of_ble_eq_true rfl, Nat.le_of_ble_eq_true rfl⟩ hK [0] rfl hP [2] rfl hS hl.1 rfl (Nat.le_of_ble_eq_true rfl) dX7_does_215 ⟨Nat.zero_le _, Nat.zero_le _⟩ (fun H locs hP hS => ?_)
      refine lv_iload hx hb dX7_does_218 (lv_at hl 0 rfl) ?_
      refine lv_icmp_ne (tgt := 227) hx hb dX7_does_220 (by decide) (fun c220_17 => ?_) (fun c220_17 => ?_)
      · skip
        refine lv_iconst (v := 0) hx hb dX7_does_227 (by decide) ?_
        have hP : va_P D vwCl [(h, .inr (7, [.int (rf), .ref sc, .int (nI (ss)), .int (nI (ps.2)), .int (bI (ps.1 = true)), .int (rb), .int (rl), .ref nw, .ref tr, .ref lk, .ref di, .int (nI (ac9)), .ref kp, .ref ik, .ref lv])), (nw, .inl (cI, 151, .inl fn)), (tr, .inl (cI, 151, .inl (dsR f B g))), (lk, .inl (cI, 151, .inl flk)), (lv, .inl (cI, 4, .inl fl))] H := by
          rw [show (dsR f B g : Nat → Int32) = f from by rw [dsR, if_neg hq1, if_neg hq2, if_neg hq3, if_neg hq4, if_neg hq5, if_neg (by omega)]]
          exact hP
        exact gp_retz hX hr hlocks hS hP (P := dsP f B g) ((bI_0 (by rw [dsP, if_neg hq1, if_neg hq2, if_neg hq3, if_neg hq4, if_neg hq5, if_pos hq]; exact fun z => c220_17 z.2)).symm) ⟨(bI_0 (by rw [dsP, if_neg hq1, if_neg hq2, if_neg hq3, if_neg hq4, if_neg hq5, if_pos hq]; exact fun z => c220_17 z.2)).symm, _, _, rfl⟩ dX7_does_228
      · skip
        refine lv_iconst (v := 1) hx hb dX7_does_223 (by decide) ?_
        refine lv_goto (tgt := 228) hx hb dX7_does_224 (by decide) ?_
        have hP : va_P D vwCl [(h, .inr (7, [.int (rf), .ref sc, .int (nI (ss)), .int (nI (ps.2)), .int (bI (ps.1 = true)), .int (rb), .int (rl), .ref nw, .ref tr, .ref lk, .ref di, .int (nI (ac9)), .ref kp, .ref ik, .ref lv])), (nw, .inl (cI, 151, .inl fn)), (tr, .inl (cI, 151, .inl (dsR f B g))), (lk, .inl (cI, 151, .inl flk)), (lv, .inl (cI, 4, .inl fl))] H := by
          rw [show (dsR f B g : Nat → Int32) = f from by rw [dsR, if_neg hq1, if_neg hq2, if_neg hq3, if_neg hq4, if_neg hq5, if_neg (by omega)]]
          exact hP
        exact gp_retz hX hr hlocks hS hP (P := dsP f B g) ((bI_1 (by rw [dsP, if_neg hq1, if_neg hq2, if_neg hq3, if_neg hq4, if_neg hq5, if_pos hq]; exact ⟨c207_16, c220_17⟩)).symm) ⟨(bI_1 (by rw [dsP, if_neg hq1, if_neg hq2, if_neg hq3, if_neg hq4, if_neg hq5, if_pos hq]; exact ⟨c207_16, c220_17⟩)).symm, _, _, rfl⟩ dX7_does_228
  · skip
    refine lv_as (show nI (g / 1000) = 7 from by rw [hq]; rfl) ?_
    refine lv_tableIn (off := 189) (tgt := 229) hx hb dX7_does_40 (by decide) (by decide) (by decide) (by decide) ?_
    have hq1 : ¬ g / 1000 = 1 := by omega
    have hq2 : ¬ g / 1000 = 2 := by omega
    have hq3 : ¬ g / 1000 = 3 := by omega
    have hq4 : ¬ g / 1000 = 4 := by omega
    have hq5 : ¬ g / 1000 = 5 := by omega
    have hq6 : ¬ g / 1000 = 6 := by omega
    refine lv_aload_n hx hb dX7_does_229 rfl (lv_at hl 5 rfl) ?_
    refine lv_iload_n hx hb dX7_does_230 rfl (lv_at hl 3 rfl) ?_
    refine rp_callV hX good7 i7 (c7_isBlock l D cI h nw [.int (rf), .ref sc, .int (nI (ss)), .int (nI (ps.2)), .int (bI (ps.1 = true)), .int (rb), .int (rl), .ref nw, .ref tr, .ref lk, .ref di, .int (nI (ac9)), .ref kp, .ref ik, .ref lv] fn B hW hB1 rfl (nI (da g))) q7_isBlock rfl (m7 181 rfl) (m7 182 rfl) (m7 183 rfl) ⟨Nat.le_of_ble_eq_true rfl, Nat.le_of_ble_eq_true rfl⟩ hK [0] rfl hP [0, 1] rfl (ci := 7) (q0 := 0) rfl rfl rfl hS hl.1 rfl (Nat.le_of_ble_eq_true rfl) dX7_does_231 ⟨Nat.zero_le _, Nat.zero_le _⟩ (fun H locs hP hS => ?_)
    refine lv_if_eq (tgt := 255) hx hb dX7_does_234 (by decide) (fun c234_18 => ?_) (fun c234_18 => ?_)
    · skip
      have c234_18 := bI_f c234_18
      refine lv_iconst (v := 0) hx hb dX7_does_255 (by decide) ?_
      have hP : va_P D vwCl [(h, .inr (7, [.int (rf), .ref sc, .int (nI (ss)), .int (nI (ps.2)), .int (bI (ps.1 = true)), .int (rb), .int (rl), .ref nw, .ref tr, .ref lk, .ref di, .int (nI (ac9)), .ref kp, .ref ik, .ref lv])), (nw, .inl (cI, 151, .inl fn)), (tr, .inl (cI, 151, .inl (dsR f B g))), (lk, .inl (cI, 151, .inl flk)), (lv, .inl (cI, 4, .inl fl))] H := by
        rw [show (dsR f B g : Nat → Int32) = f from by rw [dsR, if_neg hq1, if_neg hq2, if_neg hq3, if_neg hq4, if_neg hq5, if_neg (by omega)]]
        exact hP
      exact gp_retz hX hr hlocks hS hP (P := dsP f B g) ((bI_0 (by rw [dsP, if_neg hq1, if_neg hq2, if_neg hq3, if_neg hq4, if_neg hq5, if_neg hq6, if_pos hq]; exact fun z => c234_18 ((isB_iff hda hB1 hB8).mpr z.1))).symm) ⟨(bI_0 (by rw [dsP, if_neg hq1, if_neg hq2, if_neg hq3, if_neg hq4, if_neg hq5, if_neg hq6, if_pos hq]; exact fun z => c234_18 ((isB_iff hda hB1 hB8).mpr z.1))).symm, _, _, rfl⟩ dX7_does_256
    · skip
      have c234_18 := bI_t c234_18
      have hd7 : da g < B := (isB_iff hda hB1 hB8).mp c234_18
      refine lv_aload_n hx hb dX7_does_237 rfl (lv_at hl 5 rfl) ?_
      refine va_get (D := D) (ci := 7) (v := .ref tr) (C := RX7) (T := TX7) (N := 15) hx hb hts u7 hown hK hP 0 rfl rfl 8 (by decide) (hts _ (m7 6 rfl)) (fun _ h9 => h9) rfl dX7_does_238 ?_
      refine lv_bipush (v := 15) hx hb dX7_does_241 (by decide) ?_
      refine lv_iload_n hx hb dX7_does_243 rfl (lv_at hl 3 rfl) ?_
      refine lv_iadd hx hb dX7_does_244 ?_
      refine lv_as (y := nI (15 + da g)) (nI_add (15) (da g)) ?_
      refine ra_iald (i := 15 + da g) hx hb hK hP 2 0 rfl rfl (by omega) (by decide) dX7_does_245 ?_
      refine lv_iload hx hb dX7_does_246 (lv_at hl 0 rfl) ?_
      refine lv_icmp_gt (tgt := 255) hx hb dX7_does_248 (by decide) (fun c248_19 => ?_) (fun c248_19 => ?_)
      · skip
        refine lv_iconst (v := 0) hx hb dX7_does_255 (by decide) ?_
        have hP : va_P D vwCl [(h, .inr (7, [.int (rf), .ref sc, .int (nI (ss)), .int (nI (ps.2)), .int (bI (ps.1 = true)), .int (rb), .int (rl), .ref nw, .ref tr, .ref lk, .ref di, .int (nI (ac9)), .ref kp, .ref ik, .ref lv])), (nw, .inl (cI, 151, .inl fn)), (tr, .inl (cI, 151, .inl (dsR f B g))), (lk, .inl (cI, 151, .inl flk)), (lv, .inl (cI, 4, .inl fl))] H := by
          rw [show (dsR f B g : Nat → Int32) = f from by rw [dsR, if_neg hq1, if_neg hq2, if_neg hq3, if_neg hq4, if_neg hq5, if_neg (by omega)]]
          exact hP
        exact gp_retz hX hr hlocks hS hP (P := dsP f B g) ((bI_0 (by rw [dsP, if_neg hq1, if_neg hq2, if_neg hq3, if_neg hq4, if_neg hq5, if_neg hq6, if_pos hq]; exact fun z => z.2 c248_19)).symm) ⟨(bI_0 (by rw [dsP, if_neg hq1, if_neg hq2, if_neg hq3, if_neg hq4, if_neg hq5, if_neg hq6, if_pos hq]; exact fun z => z.2 c248_19)).symm, _, _, rfl⟩ dX7_does_256
      · skip
        refine lv_iconst (v := 1) hx hb dX7_does_251 (by decide) ?_
        refine lv_goto (tgt := 256) hx hb dX7_does_252 (by decide) ?_
        have hP : va_P D vwCl [(h, .inr (7, [.int (rf), .ref sc, .int (nI (ss)), .int (nI (ps.2)), .int (bI (ps.1 = true)), .int (rb), .int (rl), .ref nw, .ref tr, .ref lk, .ref di, .int (nI (ac9)), .ref kp, .ref ik, .ref lv])), (nw, .inl (cI, 151, .inl fn)), (tr, .inl (cI, 151, .inl (dsR f B g))), (lk, .inl (cI, 151, .inl flk)), (lv, .inl (cI, 4, .inl fl))] H := by
          rw [show (dsR f B g : Nat → Int32) = f from by rw [dsR, if_neg hq1, if_neg hq2, if_neg hq3, if_neg hq4, if_neg hq5, if_neg (by omega)]]
          exact hP
        exact gp_retz hX hr hlocks hS hP (P := dsP f B g) ((bI_1 (by rw [dsP, if_neg hq1, if_neg hq2, if_neg hq3, if_neg hq4, if_neg hq5, if_neg hq6, if_pos hq]; exact ⟨hd7, c248_19⟩)).symm) ⟨(bI_1 (by rw [dsP, if_neg hq1, if_neg hq2, if_neg hq3, if_neg hq4, if_neg hq5, if_neg hq6, if_pos hq]; exact ⟨hd7, c248_19⟩)).symm, _, _, rfl⟩ dX7_does_256
  · skip
    refine lv_as (show nI (g / 1000) = 8 from by rw [hq]; rfl) ?_
    refine lv_tableIn (off := 217) (tgt := 257) hx hb dX7_does_40 (by decide) (by decide) (by decide) (by decide) ?_
    have hq1 : ¬ g / 1000 = 1 := by omega
    have hq2 : ¬ g / 1000 = 2 := by omega
    have hq3 : ¬ g / 1000 = 3 := by omega
    have hq4 : ¬ g / 1000 = 4 := by omega
    have hq5 : ¬ g / 1000 = 5 := by omega
    have hq6 : ¬ g / 1000 = 6 := by omega
    have hq7 : ¬ g / 1000 = 7 := by omega
    refine lv_iload_n hx hb dX7_does_257 rfl (lv_at hl 3 rfl) ?_
    refine lv_if_ne (tgt := 282) hx hb dX7_does_258 (by decide) (fun c258_20 => ?_) (fun c258_20 => ?_)
    · skip
      have c258_20 := cn_ne (a := da g) (b := 0) (by omega) (by omega) c258_20
      refine lv_iconst (v := 0) hx hb dX7_does_282 (by decide) ?_
      have hP : va_P D vwCl [(h, .inr (7, [.int (rf), .ref sc, .int (nI (ss)), .int (nI (ps.2)), .int (bI (ps.1 = true)), .int (rb), .int (rl), .ref nw, .ref tr, .ref lk, .ref di, .int (nI (ac9)), .ref kp, .ref ik, .ref lv])), (nw, .inl (cI, 151, .inl fn)), (tr, .inl (cI, 151, .inl (dsR f B g))), (lk, .inl (cI, 151, .inl flk)), (lv, .inl (cI, 4, .inl fl))] H := by
        rw [show (dsR f B g : Nat → Int32) = f from by rw [dsR, if_neg hq1, if_neg hq2, if_neg hq3, if_neg hq4, if_neg hq5, if_neg (by omega)]]
        exact hP
      exact gp_retz hX hr hlocks hS hP (P := dsP f B g) ((bI_0 (by rw [dsP, if_neg hq1, if_neg hq2, if_neg hq3, if_neg hq4, if_neg hq5, if_neg hq6, if_neg hq7, if_pos hq]; exact fun z => c258_20 z.1.1)).symm) ⟨(bI_0 (by rw [dsP, if_neg hq1, if_neg hq2, if_neg hq3, if_neg hq4, if_neg hq5, if_neg hq6, if_neg hq7, if_pos hq]; exact fun z => c258_20 z.1.1)).symm, _, _, rfl⟩ dX7_does_283
    · skip
      have c258_20 := cn_eq (a := da g) (b := 0) (by omega) (by omega) c258_20
      refine lv_iload hx hb dX7_does_261 (lv_at hl 2 rfl) ?_
      refine lv_if_ne (tgt := 282) hx hb dX7_does_263 (by decide) (fun c263_21 => ?_) (fun c263_21 => ?_)
      · skip
        have c263_21 := cn_ne (a := (g / 10) % 10) (b := 0) (by omega) (by omega) c263_21
        refine lv_iconst (v := 0) hx hb dX7_does_282 (by decide) ?_
        have hP : va_P D vwCl [(h, .inr (7, [.int (rf), .ref sc, .int (nI (ss)), .int (nI (ps.2)), .int (bI (ps.1 = true)), .int (rb), .int (rl), .ref nw, .ref tr, .ref lk, .ref di, .int (nI (ac9)), .ref kp, .ref ik, .ref lv])), (nw, .inl (cI, 151, .inl fn)), (tr, .inl (cI, 151, .inl (dsR f B g))), (lk, .inl (cI, 151, .inl flk)), (lv, .inl (cI, 4, .inl fl))] H := by
          rw [show (dsR f B g : Nat → Int32) = f from by rw [dsR, if_neg hq1, if_neg hq2, if_neg hq3, if_neg hq4, if_neg hq5, if_neg (by omega)]]
          exact hP
        exact gp_retz hX hr hlocks hS hP (P := dsP f B g) ((bI_0 (by rw [dsP, if_neg hq1, if_neg hq2, if_neg hq3, if_neg hq4, if_neg hq5, if_neg hq6, if_neg hq7, if_pos hq]; exact fun z => c263_21 z.1.2)).symm) ⟨(bI_0 (by rw [dsP, if_neg hq1, if_neg hq2, if_neg hq3, if_neg hq4, if_neg hq5, if_neg hq6, if_neg hq7, if_pos hq]; exact fun z => c263_21 z.1.2)).symm, _, _, rfl⟩ dX7_does_283
      · skip
        have c263_21 := cn_eq (a := (g / 10) % 10) (b := 0) (by omega) (by omega) c263_21
        refine lv_aload_n hx hb dX7_does_266 rfl (lv_at hl 5 rfl) ?_
        refine va_get (D := D) (ci := 7) (v := .ref tr) (C := RX7) (T := TX7) (N := 15) hx hb hts u7 hown hK hP 0 rfl rfl 8 (by decide) (hts _ (m7 6 rfl)) (fun _ h9 => h9) rfl dX7_does_267 ?_
        refine rp_callS hX good7 i7 (c7_cleanBlocks l D cI tr f B hO.1.1 hO.1.2.1) q7_cleanBlocks rfl (m7 56 rfl) (m7 57 rfl) ⟨Nat.le_of_ble_eq_true rfl, Nat.le_of_ble_eq_true rfl⟩ hK [0] rfl hP [2] rfl hS hl.1 rfl (Nat.le_of_ble_eq_true rfl) dX7_does_270 ⟨Nat.zero_le _, Nat.zero_le _⟩ (fun H locs hP hS => ?_)
        refine lv_iload hx hb dX7_does_273 (lv_at hl 1 rfl) ?_
        have hcl := cln_le (f := f) B
        refine lv_icmp_lt (tgt := 282) hx hb dX7_does_275 (by decide) (fun c275_22 => ?_) (fun c275_22 => ?_)
        · skip
          have c275_22 := cn_lt (a := cln f B) (b := g % 10) (by omega) (by omega) c275_22
          refine lv_iconst (v := 0) hx hb dX7_does_282 (by decide) ?_
          have hP : va_P D vwCl [(h, .inr (7, [.int (rf), .ref sc, .int (nI (ss)), .int (nI (ps.2)), .int (bI (ps.1 = true)), .int (rb), .int (rl), .ref nw, .ref tr, .ref lk, .ref di, .int (nI (ac9)), .ref kp, .ref ik, .ref lv])), (nw, .inl (cI, 151, .inl fn)), (tr, .inl (cI, 151, .inl (dsR f B g))), (lk, .inl (cI, 151, .inl flk)), (lv, .inl (cI, 4, .inl fl))] H := by
            rw [show (dsR f B g : Nat → Int32) = f from by rw [dsR, if_neg hq1, if_neg hq2, if_neg hq3, if_neg hq4, if_neg hq5, if_neg (by omega)]]
            exact hP
          exact gp_retz hX hr hlocks hS hP (P := dsP f B g) ((bI_0 (by rw [dsP, if_neg hq1, if_neg hq2, if_neg hq3, if_neg hq4, if_neg hq5, if_neg hq6, if_neg hq7, if_pos hq]; exact fun z => absurd z.2 (by omega))).symm) ⟨(bI_0 (by rw [dsP, if_neg hq1, if_neg hq2, if_neg hq3, if_neg hq4, if_neg hq5, if_neg hq6, if_neg hq7, if_pos hq]; exact fun z => absurd z.2 (by omega))).symm, _, _, rfl⟩ dX7_does_283
        · skip
          have c275_22 := cn_nlt (a := cln f B) (b := g % 10) (by omega) (by omega) c275_22
          refine lv_iconst (v := 1) hx hb dX7_does_278 (by decide) ?_
          refine lv_goto (tgt := 283) hx hb dX7_does_279 (by decide) ?_
          have hP : va_P D vwCl [(h, .inr (7, [.int (rf), .ref sc, .int (nI (ss)), .int (nI (ps.2)), .int (bI (ps.1 = true)), .int (rb), .int (rl), .ref nw, .ref tr, .ref lk, .ref di, .int (nI (ac9)), .ref kp, .ref ik, .ref lv])), (nw, .inl (cI, 151, .inl fn)), (tr, .inl (cI, 151, .inl (dsR f B g))), (lk, .inl (cI, 151, .inl flk)), (lv, .inl (cI, 4, .inl fl))] H := by
            rw [show (dsR f B g : Nat → Int32) = f from by rw [dsR, if_neg hq1, if_neg hq2, if_neg hq3, if_neg hq4, if_neg hq5, if_neg (by omega)]]
            exact hP
          exact gp_retz hX hr hlocks hS hP (P := dsP f B g) ((bI_1 (by rw [dsP, if_neg hq1, if_neg hq2, if_neg hq3, if_neg hq4, if_neg hq5, if_neg hq6, if_neg hq7, if_pos hq]; exact ⟨⟨c258_20, c263_21⟩, c275_22⟩)).symm) ⟨(bI_1 (by rw [dsP, if_neg hq1, if_neg hq2, if_neg hq3, if_neg hq4, if_neg hq5, if_neg hq6, if_neg hq7, if_pos hq]; exact ⟨⟨c258_20, c263_21⟩, c275_22⟩)).symm, _, _, rfl⟩ dX7_does_283
  · skip
    refine lv_as (show nI (g / 1000) = 9 from by rw [hq]; rfl) ?_
    refine lv_tableIn (off := 244) (tgt := 284) hx hb dX7_does_40 (by decide) (by decide) (by decide) (by decide) ?_
    have hq1 : ¬ g / 1000 = 1 := by omega
    have hq2 : ¬ g / 1000 = 2 := by omega
    have hq3 : ¬ g / 1000 = 3 := by omega
    have hq4 : ¬ g / 1000 = 4 := by omega
    have hq5 : ¬ g / 1000 = 5 := by omega
    have hq6 : ¬ g / 1000 = 6 := by omega
    have hq7 : ¬ g / 1000 = 7 := by omega
    have hq8 : ¬ g / 1000 = 8 := by omega
    refine lv_iload_n hx hb dX7_does_284 rfl (lv_at hl 3 rfl) ?_
    refine lv_if_ne (tgt := 294) hx hb dX7_does_285 (by decide) (fun c285_23 => ?_) (fun c285_23 => ?_)
    · skip
      have c285_23 := cn_ne (a := da g) (b := 0) (by omega) (by omega) c285_23
      refine lv_iconst (v := 0) hx hb dX7_does_294 (by decide) ?_
      have hP : va_P D vwCl [(h, .inr (7, [.int (rf), .ref sc, .int (nI (ss)), .int (nI (ps.2)), .int (bI (ps.1 = true)), .int (rb), .int (rl), .ref nw, .ref tr, .ref lk, .ref di, .int (nI (ac9)), .ref kp, .ref ik, .ref lv])), (nw, .inl (cI, 151, .inl fn)), (tr, .inl (cI, 151, .inl (dsR f B g))), (lk, .inl (cI, 151, .inl flk)), (lv, .inl (cI, 4, .inl fl))] H := by
        rw [show (dsR f B g : Nat → Int32) = f from by rw [dsR, if_neg hq1, if_neg hq2, if_neg hq3, if_neg hq4, if_neg hq5, if_pos hq, if_neg (fun z => c285_23 z.1)]]
        exact hP
      exact gp_retz hX hr hlocks hS hP (P := dsP f B g) ((bI_0 (by rw [dsP, if_neg hq1, if_neg hq2, if_neg hq3, if_neg hq4, if_neg hq5, if_neg hq6, if_neg hq7, if_neg hq8, if_pos hq]; exact fun z => c285_23 z.1)).symm) ⟨(bI_0 (by rw [dsP, if_neg hq1, if_neg hq2, if_neg hq3, if_neg hq4, if_neg hq5, if_neg hq6, if_neg hq7, if_neg hq8, if_pos hq]; exact fun z => c285_23 z.1)).symm, _, _, rfl⟩ dX7_does_295
    · skip
      have c285_23 := cn_eq (a := da g) (b := 0) (by omega) (by omega) c285_23
      refine lv_iload hx hb dX7_does_288 (lv_at hl 0 rfl) ?_
      refine lv_iconst (v := 2) hx hb dX7_does_290 (by decide) ?_
      refine lv_icmp_le (tgt := 296) hx hb dX7_does_291 (by decide) (fun c291_24 => ?_) (fun c291_24 => ?_)
      · skip
        have c291_24 := cn_le (a := bo g) (b := 2) (by omega) (by omega) c291_24
        refine lv_aload_n hx hb dX7_does_296 rfl (lv_at hl 5 rfl) ?_
        refine va_get (D := D) (ci := 7) (v := .ref tr) (C := RX7) (T := TX7) (N := 15) hx hb hts u7 hown hK hP 0 rfl rfl 8 (by decide) (hts _ (m7 6 rfl)) (fun _ h9 => h9) rfl dX7_does_297 ?_
        refine lv_bipush (v := 6) hx hb dX7_does_300 (by decide) ?_
        refine lv_iload hx hb dX7_does_302 (lv_at hl 0 rfl) ?_
        refine ra_iast (i := 6) hx hb hK hP hD hS 2 0 rfl rfl (by omega) (by decide) dX7_does_304 (fun H locs hP hD hS => ?_)
        have hP : va_P D vwCl [(h, .inr (7, [.int (rf), .ref sc, .int (nI (ss)), .int (nI (ps.2)), .int (bI (ps.1 = true)), .int (rb), .int (rl), .ref nw, .ref tr, .ref lk, .ref di, .int (nI (ac9)), .ref kp, .ref ik, .ref lv])), (nw, .inl (cI, 151, .inl fn)), (tr, .inl (cI, 151, .inl (upd f 6 (nI (bo g))))), (lk, .inl (cI, 151, .inl flk)), (lv, .inl (cI, 4, .inl fl))] H := hP
        have hD : va_D A [(h, .inr (7, [.int (rf), .ref sc, .int (nI (ss)), .int (nI (ps.2)), .int (bI (ps.1 = true)), .int (rb), .int (rl), .ref nw, .ref tr, .ref lk, .ref di, .int (nI (ac9)), .ref kp, .ref ik, .ref lv])), (nw, .inl (cI, 151, .inl fn)), (tr, .inl (cI, 151, .inl (upd f 6 (nI (bo g))))), (lk, .inl (cI, 151, .inl flk)), (lv, .inl (cI, 4, .inl fl))] := hD
        refine lv_iconst (v := 1) hx hb dX7_does_305 (by decide) ?_
        have hP : va_P D vwCl [(h, .inr (7, [.int (rf), .ref sc, .int (nI (ss)), .int (nI (ps.2)), .int (bI (ps.1 = true)), .int (rb), .int (rl), .ref nw, .ref tr, .ref lk, .ref di, .int (nI (ac9)), .ref kp, .ref ik, .ref lv])), (nw, .inl (cI, 151, .inl fn)), (tr, .inl (cI, 151, .inl (dsR f B g))), (lk, .inl (cI, 151, .inl flk)), (lv, .inl (cI, 4, .inl fl))] H := by
          rw [show (dsR f B g : Nat → Int32) = upd f 6 (nI (bo g)) from by rw [dsR, if_neg hq1, if_neg hq2, if_neg hq3, if_neg hq4, if_neg hq5, if_pos hq, if_pos ⟨c285_23, by omega⟩]]
          exact hP
        exact gp_retz hX hr hlocks hS hP (P := dsP f B g) ((bI_1 (by rw [dsP, if_neg hq1, if_neg hq2, if_neg hq3, if_neg hq4, if_neg hq5, if_neg hq6, if_neg hq7, if_neg hq8, if_pos hq]; exact ⟨c285_23, by omega⟩)).symm) ⟨(bI_1 (by rw [dsP, if_neg hq1, if_neg hq2, if_neg hq3, if_neg hq4, if_neg hq5, if_neg hq6, if_neg hq7, if_neg hq8, if_pos hq]; exact ⟨c285_23, by omega⟩)).symm, _, _, rfl⟩ dX7_does_306
      · skip
        have c291_24 := cn_nle (a := bo g) (b := 2) (by omega) (by omega) c291_24
        refine lv_iconst (v := 0) hx hb dX7_does_294 (by decide) ?_
        have hP : va_P D vwCl [(h, .inr (7, [.int (rf), .ref sc, .int (nI (ss)), .int (nI (ps.2)), .int (bI (ps.1 = true)), .int (rb), .int (rl), .ref nw, .ref tr, .ref lk, .ref di, .int (nI (ac9)), .ref kp, .ref ik, .ref lv])), (nw, .inl (cI, 151, .inl fn)), (tr, .inl (cI, 151, .inl (dsR f B g))), (lk, .inl (cI, 151, .inl flk)), (lv, .inl (cI, 4, .inl fl))] H := by
          rw [show (dsR f B g : Nat → Int32) = f from by rw [dsR, if_neg hq1, if_neg hq2, if_neg hq3, if_neg hq4, if_neg hq5, if_pos hq, if_neg (fun z => absurd z.2 (by omega))]]
          exact hP
        exact gp_retz hX hr hlocks hS hP (P := dsP f B g) ((bI_0 (by rw [dsP, if_neg hq1, if_neg hq2, if_neg hq3, if_neg hq4, if_neg hq5, if_neg hq6, if_neg hq7, if_neg hq8, if_pos hq]; exact fun z => absurd z.2 (by omega))).symm) ⟨(bI_0 (by rw [dsP, if_neg hq1, if_neg hq2, if_neg hq3, if_neg hq4, if_neg hq5, if_neg hq6, if_neg hq7, if_neg hq8, if_pos hq]; exact fun z => absurd z.2 (by omega))).symm, _, _, rfl⟩ dX7_does_295
theorem dX7_runScript_0 : decode cX7_runScript 0 = .ok (.iload_n 1, 1) := by decide +kernel
theorem dX7_runScript_1 : decode cX7_runScript 1 = .ok (.i2l, 1) := by decide +kernel
theorem dX7_runScript_2 : decode cX7_runScript 2 = .ok (.lconst 1, 1) := by decide +kernel
theorem dX7_runScript_3 : decode cX7_runScript 3 = .ok (.ldc2_w 221, 3) := by decide +kernel
theorem dX7_runScript_6 : decode cX7_runScript 6 = .ok (.invokestatic 147, 3) := by decide +kernel
theorem dX7_runScript_9 : decode cX7_runScript 9 = .ok (.istore 4, 2) := by decide +kernel
theorem dX7_runScript_11 : decode cX7_runScript 11 = .ok (.aload_n 0, 1) := by decide +kernel
theorem dX7_runScript_12 : decode cX7_runScript 12 = .ok (.iload 4, 2) := by decide +kernel
theorem dX7_runScript_14 : decode cX7_runScript 14 = .ok (.ifCond .eq 32, 3) := by decide +kernel
theorem dX7_runScript_17 : decode cX7_runScript 17 = .ok (.lload_n 2, 1) := by decide +kernel
theorem dX7_runScript_18 : decode cX7_runScript 18 = .ok (.lconst 0, 1) := by decide +kernel
theorem dX7_runScript_19 : decode cX7_runScript 19 = .ok (.iload 4, 2) := by decide +kernel
theorem dX7_runScript_21 : decode cX7_runScript 21 = .ok (.ifCond .eq 9, 3) := by decide +kernel
theorem dX7_runScript_24 : decode cX7_runScript 24 = .ok (.iconst 4, 1) := by decide +kernel
theorem dX7_runScript_25 : decode cX7_runScript 25 = .ok (.iload_n 1, 1) := by decide +kernel
theorem dX7_runScript_26 : decode cX7_runScript 26 = .ok (.imul, 1) := by decide +kernel
theorem dX7_runScript_27 : decode cX7_runScript 27 = .ok (.goto 4, 3) := by decide +kernel
theorem dX7_runScript_31 : decode cX7_runScript 31 = .ok (.invokestatic 248, 3) := by decide +kernel
theorem dX7_runScript_34 : decode cX7_runScript 34 = .ok (.lconst 1, 1) := by decide +kernel
theorem dX7_runScript_35 : decode cX7_runScript 35 = .ok (.lsub, 1) := by decide +kernel
theorem dX7_runScript_36 : decode cX7_runScript 36 = .ok (.invokestatic 147, 3) := by decide +kernel
theorem dX7_runScript_39 : decode cX7_runScript 39 = .ok (.ifCond .eq 7, 3) := by decide +kernel
theorem dX7_runScript_42 : decode cX7_runScript 42 = .ok (.iconst 0, 1) := by decide +kernel
theorem dX7_runScript_43 : decode cX7_runScript 43 = .ok (.goto 4, 3) := by decide +kernel
theorem dX7_runScript_46 : decode cX7_runScript 46 = .ok (.iconst 1, 1) := by decide +kernel
theorem dX7_runScript_47 : decode cX7_runScript 47 = .ok (.invokevirtual 154, 3) := by decide +kernel
theorem dX7_runScript_50 : decode cX7_runScript 50 = .ok (.ifCond .eq 5, 3) := by decide +kernel
theorem dX7_runScript_53 : decode cX7_runScript 53 = .ok (.iconst 0, 1) := by decide +kernel
theorem dX7_runScript_54 : decode cX7_runScript 54 = .ok (.ireturn, 1) := by decide +kernel
theorem dX7_runScript_55 : decode cX7_runScript 55 = .ok (.aload_n 0, 1) := by decide +kernel
theorem dX7_runScript_56 : decode cX7_runScript 56 = .ok (.invokevirtual 245, 3) := by decide +kernel
theorem dX7_runScript_59 : decode cX7_runScript 59 = .ok (.iconst 0, 1) := by decide +kernel
theorem dX7_runScript_60 : decode cX7_runScript 60 = .ok (.istore 5, 2) := by decide +kernel
theorem dX7_runScript_62 : decode cX7_runScript 62 = .ok (.iload 5, 2) := by decide +kernel
theorem dX7_runScript_64 : decode cX7_runScript 64 = .ok (.iload_n 1, 1) := by decide +kernel
theorem dX7_runScript_65 : decode cX7_runScript 65 = .ok (.if_icmp .ge 37, 3) := by decide +kernel
theorem dX7_runScript_68 : decode cX7_runScript 68 = .ok (.aload_n 0, 1) := by decide +kernel
theorem dX7_runScript_69 : decode cX7_runScript 69 = .ok (.lload_n 2, 1) := by decide +kernel
theorem dX7_runScript_70 : decode cX7_runScript 70 = .ok (.iconst 4, 1) := by decide +kernel
theorem dX7_runScript_71 : decode cX7_runScript 71 = .ok (.iload_n 1, 1) := by decide +kernel
theorem dX7_runScript_72 : decode cX7_runScript 72 = .ok (.iconst 1, 1) := by decide +kernel
theorem dX7_runScript_73 : decode cX7_runScript 73 = .ok (.isub, 1) := by decide +kernel
theorem dX7_runScript_74 : decode cX7_runScript 74 = .ok (.iload 5, 2) := by decide +kernel
theorem dX7_runScript_76 : decode cX7_runScript 76 = .ok (.isub, 1) := by decide +kernel
theorem dX7_runScript_77 : decode cX7_runScript 77 = .ok (.imul, 1) := by decide +kernel
theorem dX7_runScript_78 : decode cX7_runScript 78 = .ok (.invokestatic 248, 3) := by decide +kernel
theorem dX7_runScript_81 : decode cX7_runScript 81 = .ok (.ldiv, 1) := by decide +kernel
theorem dX7_runScript_82 : decode cX7_runScript 82 = .ok (.ldc2_w 252, 3) := by decide +kernel
theorem dX7_runScript_85 : decode cX7_runScript 85 = .ok (.lrem, 1) := by decide +kernel
theorem dX7_runScript_86 : decode cX7_runScript 86 = .ok (.l2i, 1) := by decide +kernel
theorem dX7_runScript_87 : decode cX7_runScript 87 = .ok (.invokevirtual 254, 3) := by decide +kernel
theorem dX7_runScript_90 : decode cX7_runScript 90 = .ok (.ifCond .ne 6, 3) := by decide +kernel
theorem dX7_runScript_93 : decode cX7_runScript 93 = .ok (.iload 5, 2) := by decide +kernel
theorem dX7_runScript_95 : decode cX7_runScript 95 = .ok (.ireturn, 1) := by decide +kernel
theorem dX7_runScript_96 : decode cX7_runScript 96 = .ok (.iinc 5 1, 3) := by decide +kernel
theorem dX7_runScript_99 : decode cX7_runScript 99 = .ok (.goto (-37), 3) := by decide +kernel
theorem dX7_runScript_102 : decode cX7_runScript 102 = .ok (.bipush (-9), 2) := by decide +kernel
theorem dX7_runScript_104 : decode cX7_runScript 104 = .ok (.ireturn, 1) := by decide +kernel
set_option maxHeartbeats 4000000 in
set_option maxRecDepth 100000 in
theorem c7_runScript (l : Launch) (D : va_G) (cI cZ : ClassId) (h sc nw tr lk di kp ik lv : Nat) (rf rb rl : Int32) (ac9 : Nat) (ss : Nat) (ps : Bool × Nat) (f : Nat → Int32) (B : Nat) (ft flk fl : Nat → Int32) (hW : Wf f B) (hB1 : 1 ≤ B) (n : Int32) (told : Int64) (la : Option Nat) (n2 : Nat) (hsc : rsR n told = 0 → scL B n.toNatClampNeg told.toInt.toNat la n2 f 0) : GPi l yX7_runScript cX7_runScript 6 .int W7 15 340 D [(h, .inr (7, [.int (rf), .ref sc, .int (nI (ss)), .int (nI (ps.2)), .int (bI (ps.1 = true)), .int (rb), .int (rl), .ref nw, .ref tr, .ref lk, .ref di, .int (nI (ac9)), .ref kp, .ref ik, .ref lv])), (nw, .inl (cI, 151, .inl f)), (tr, .inl (cI, 151, .inl ft)), (lk, .inl (cI, 151, .inl flk)), (lv, .inl (cI, 4, .inl fl))] [(cI, .int)] [.ref h, .int (n), .long (told)] (fun (r9 : Int32) (u9 : va_W) => r9 = (if rsR n told = 0 then oI la else 0) ∧ ∃ tr9 : Nat → Int32, ∃ fl9 : Nat → Int32, ∃ lk9 : Nat → Int32, u9 = [(h, .inr (7, [.int (rsR n told), .ref sc, .int (nI (ss)), .int (nI (ps.2)), .int (bI (ps.1 = true)), .int (rb), .int (rl), .ref nw, .ref tr, .ref lk, .ref di, .int (nI (ac9)), .ref kp, .ref ik, .ref lv])), (nw, .inl (cI, 151, .inl f)), (tr, .inl (cI, 151, .inl tr9)), (lk, .inl (cI, 151, .inl lk9)), (lv, .inl (cI, 4, .inl fl9))]) := by
  refine gp_of RX7 (by decide) rfl (Nat.le_of_ble_eq_true rfl) ?_
  intro p e s m below meth c ls H hX hr hlocks hK hP hD hS hl
  generalize gp_A [(h, .inr (7, [.int (rf), .ref sc, .int (nI (ss)), .int (nI (ps.2)), .int (bI (ps.1 = true)), .int (rb), .int (rl), .ref nw, .ref tr, .ref lk, .ref di, .int (nI (ac9)), .ref kp, .ref ik, .ref lv])), (nw, .inl (cI, 151, .inl f)), (tr, .inl (cI, 151, .inl ft)), (lk, .inl (cI, 151, .inl flk)), (lv, .inl (cI, 4, .inl fl))] = A at hD hS ⊢
  have hx := hX.1
  have hb := hX.2.1
  have hown := hX.2.2.2.1
  have hts := hX.2.2.2.2
  have hl : lv_has ls 6 [(0, .ref h), (1, .int (n)), (2, .long (told))] := hl
  have hB8 := hW.2.1
  refine lv_iload_n hx hb dX7_runScript_0 rfl (lv_at hl 1 rfl) ?_
  refine lv_i2l (v := (n : Int32).toInt64) hx hb dX7_runScript_1 (rfl) ?_
  refine lv_lconst (v := 1) hx hb dX7_runScript_2 (by decide) ?_
  refine lv_asl (show (1 : Int64) = (1 : Int32).toInt64 from by decide) ?_
  refine lv_ldc2 (v := 4) hx hb hown (hts _ (m7 175 rfl)) dX7_runScript_3 ?_
  refine lv_asl (show (4 : Int64) = (4 : Int32).toInt64 from by decide) ?_
  refine rp_callS hX good7 i7 (c7_inI l D n 1 4) q7_in rfl (m7 114 rfl) (m7 115 rfl) ⟨Nat.le_of_ble_eq_true rfl, Nat.le_of_ble_eq_true rfl⟩ hK [] rfl hP [] rfl hS hl.1 rfl (Nat.le_of_ble_eq_true rfl) dX7_runScript_6 ⟨Nat.zero_le _, Nat.zero_le _⟩ (fun H locs hP hS => ?_)
  refine lv_istore (lv' := [(4, .int (bI (1 ≤ n ∧ n ≤ 4))), (0, .ref h), (1, .int (n)), (2, .long (told))]) hx hb dX7_runScript_9 hl (by decide) rfl (fun ls hl => ?_)
  refine lv_aload_n hx hb dX7_runScript_11 rfl (lv_at hl 1 rfl) ?_
  refine lv_iload hx hb dX7_runScript_12 (lv_at hl 0 rfl) ?_
  refine lv_if_eq (tgt := 46) hx hb dX7_runScript_14 (by decide) (fun c14_1 => ?_) (fun c14_1 => ?_)
  · skip
    have c14_1 := bI_f c14_1
    refine lv_iconst (v := 1) hx hb dX7_runScript_46 (by decide) ?_
    refine gp_backi (gp_runV hX good7 i7 (c7_refused l D h rf 1 [.ref sc, .int (nI (ss)), .int (nI (ps.2)), .int (bI (ps.1 = true)), .int (rb), .int (rl), .ref nw, .ref tr, .ref lk, .ref di, .int (nI (ac9)), .ref kp, .ref ik, .ref lv]) q7_refused rfl (m7 117 rfl) (m7 118 rfl) (m7 119 rfl) ⟨Nat.le_of_ble_eq_true rfl, Nat.le_of_ble_eq_true rfl⟩ hK [] rfl hP hD [0] (by decide) rfl (ci := 7) (q0 := 0) rfl rfl rfl hl.1 rfl (Nat.le_of_ble_eq_true rfl) dX7_runScript_47 ⟨Nat.zero_le _, Nat.zero_le _⟩) hP hD hS [0] rfl (fun r u h => by rw [h.2]; simp only [List.map_cons, List.map_nil]) (fun r9 u H locs hpost hP hD hS => ?_)
    obtain ⟨hr9, rfl⟩ := hpost
    refine lv_as hr9 ?_
    have hP : va_P D vwCl [(h, .inr (7, [.int (1), .ref sc, .int (nI (ss)), .int (nI (ps.2)), .int (bI (ps.1 = true)), .int (rb), .int (rl), .ref nw, .ref tr, .ref lk, .ref di, .int (nI (ac9)), .ref kp, .ref ik, .ref lv])), (nw, .inl (cI, 151, .inl f)), (tr, .inl (cI, 151, .inl ft)), (lk, .inl (cI, 151, .inl flk)), (lv, .inl (cI, 4, .inl fl))] H := hP
    have hD : va_D A [(h, .inr (7, [.int (1), .ref sc, .int (nI (ss)), .int (nI (ps.2)), .int (bI (ps.1 = true)), .int (rb), .int (rl), .ref nw, .ref tr, .ref lk, .ref di, .int (nI (ac9)), .ref kp, .ref ik, .ref lv])), (nw, .inl (cI, 151, .inl f)), (tr, .inl (cI, 151, .inl ft)), (lk, .inl (cI, 151, .inl flk)), (lv, .inl (cI, 4, .inl fl))] := hD
    refine lv_as (show bI (0 < (1 : Int32)) = 1 from by decide) ?_
    refine lv_if_eq (tgt := 55) hx hb dX7_runScript_50 (by decide) (fun c50_2 => ?_) (fun c50_2 => ?_)
    · skip
      exact absurd c50_2 (by decide)
    · skip
      refine lv_iconst (v := 0) hx hb dX7_runScript_53 (by decide) ?_
      have hR9 : rsR n told = 1 := by rw [rsR, if_neg c14_1]
      have hP : va_P D vwCl [(h, .inr (7, [.int (rsR n told), .ref sc, .int (nI (ss)), .int (nI (ps.2)), .int (bI (ps.1 = true)), .int (rb), .int (rl), .ref nw, .ref tr, .ref lk, .ref di, .int (nI (ac9)), .ref kp, .ref ik, .ref lv])), (nw, .inl (cI, 151, .inl f)), (tr, .inl (cI, 151, .inl ft)), (lk, .inl (cI, 151, .inl flk)), (lv, .inl (cI, 4, .inl fl))] H := by
        rw [show (rsR n told : Int32) = 1 from hR9]
        exact hP
      exact gp_reti hX hr hlocks hS hP ⟨oRn hR9 (by decide), _, _, _, rfl⟩ dX7_runScript_54
  · skip
    have c14_1 := bI_t c14_1
    obtain ⟨en, hn1, hn4⟩ := num_of (k := 4) (by decide) c14_1
    have hl : lv_has ls 6 [(4, .int (bI (1 ≤ n ∧ n ≤ 4))), (0, .ref h), (1, .int (nI (n.toNatClampNeg))), (2, .long (told))] := lv_re hl 2 rfl en
    refine lv_lload_n hx hb dX7_runScript_17 rfl (lv_at hl 3 rfl) ?_
    refine lv_lconst (v := 0) hx hb dX7_runScript_18 (by decide) ?_
    refine lv_iload hx hb dX7_runScript_19 (lv_at hl 0 rfl) ?_
    refine lv_if_eq (tgt := 30) hx hb dX7_runScript_21 (by decide) (fun c21_3 => ?_) (fun c21_3 => ?_)
    · skip
      have c21_3 := bI_f c21_3
      exact absurd c14_1 c21_3
    · skip
      have c21_3 := bI_t c21_3
      refine lv_iconst (v := 4) hx hb dX7_runScript_24 (by decide) ?_
      refine lv_iload_n hx hb dX7_runScript_25 rfl (lv_at hl 2 rfl) ?_
      refine lv_imul hx hb dX7_runScript_26 ?_
      refine lv_as (y := nI (4 * n.toNatClampNeg)) (pk_mul (4) (n.toNatClampNeg)) ?_
      refine lv_goto (tgt := 31) hx hb dX7_runScript_27 (by decide) ?_
      refine rpl_callS hX good7 i7 (c7_tenTo l D (4 * n.toNatClampNeg) (by omega)) q7_tenTo rfl (m7 205 rfl) (m7 206 rfl) ⟨Nat.le_of_ble_eq_true rfl, Nat.le_of_ble_eq_true rfl⟩ hK [] rfl hP [] rfl hS hl.1 rfl (Nat.le_of_ble_eq_true rfl) dX7_runScript_31 ⟨Nat.zero_le _, Nat.zero_le _⟩ (fun H locs hP hS => ?_)
      refine lv_lconst (v := 1) hx hb dX7_runScript_34 (by decide) ?_
      refine lv_lsub hx hb dX7_runScript_35 ?_
      refine rp_callS hX good7 i7 (c7_in l D told 0 ((ten (4 * n.toNatClampNeg)) - 1)) q7_in rfl (m7 114 rfl) (m7 115 rfl) ⟨Nat.le_of_ble_eq_true rfl, Nat.le_of_ble_eq_true rfl⟩ hK [] rfl hP [] rfl hS hl.1 rfl (Nat.le_of_ble_eq_true rfl) dX7_runScript_36 ⟨Nat.zero_le _, Nat.zero_le _⟩ (fun H locs hP hS => ?_)
      refine lv_if_eq (tgt := 46) hx hb dX7_runScript_39 (by decide) (fun c39_4 => ?_) (fun c39_4 => ?_)
      · skip
        have c39_4 := bI_f c39_4
        refine lv_iconst (v := 1) hx hb dX7_runScript_46 (by decide) ?_
        refine gp_backi (gp_runV hX good7 i7 (c7_refused l D h rf 1 [.ref sc, .int (nI (ss)), .int (nI (ps.2)), .int (bI (ps.1 = true)), .int (rb), .int (rl), .ref nw, .ref tr, .ref lk, .ref di, .int (nI (ac9)), .ref kp, .ref ik, .ref lv]) q7_refused rfl (m7 117 rfl) (m7 118 rfl) (m7 119 rfl) ⟨Nat.le_of_ble_eq_true rfl, Nat.le_of_ble_eq_true rfl⟩ hK [] rfl hP hD [0] (by decide) rfl (ci := 7) (q0 := 0) rfl rfl rfl hl.1 rfl (Nat.le_of_ble_eq_true rfl) dX7_runScript_47 ⟨Nat.zero_le _, Nat.zero_le _⟩) hP hD hS [0] rfl (fun r u h => by rw [h.2]; simp only [List.map_cons, List.map_nil]) (fun r9 u H locs hpost hP hD hS => ?_)
        obtain ⟨hr9, rfl⟩ := hpost
        refine lv_as hr9 ?_
        have hP : va_P D vwCl [(h, .inr (7, [.int (1), .ref sc, .int (nI (ss)), .int (nI (ps.2)), .int (bI (ps.1 = true)), .int (rb), .int (rl), .ref nw, .ref tr, .ref lk, .ref di, .int (nI (ac9)), .ref kp, .ref ik, .ref lv])), (nw, .inl (cI, 151, .inl f)), (tr, .inl (cI, 151, .inl ft)), (lk, .inl (cI, 151, .inl flk)), (lv, .inl (cI, 4, .inl fl))] H := hP
        have hD : va_D A [(h, .inr (7, [.int (1), .ref sc, .int (nI (ss)), .int (nI (ps.2)), .int (bI (ps.1 = true)), .int (rb), .int (rl), .ref nw, .ref tr, .ref lk, .ref di, .int (nI (ac9)), .ref kp, .ref ik, .ref lv])), (nw, .inl (cI, 151, .inl f)), (tr, .inl (cI, 151, .inl ft)), (lk, .inl (cI, 151, .inl flk)), (lv, .inl (cI, 4, .inl fl))] := hD
        refine lv_as (show bI (0 < (1 : Int32)) = 1 from by decide) ?_
        refine lv_if_eq (tgt := 55) hx hb dX7_runScript_50 (by decide) (fun c50_5 => ?_) (fun c50_5 => ?_)
        · skip
          exact absurd c50_5 (by decide)
        · skip
          refine lv_iconst (v := 0) hx hb dX7_runScript_53 (by decide) ?_
          have hR9 : rsR n told = 1 := by rw [rsR, if_pos c14_1, if_neg c39_4]
          have hP : va_P D vwCl [(h, .inr (7, [.int (rsR n told), .ref sc, .int (nI (ss)), .int (nI (ps.2)), .int (bI (ps.1 = true)), .int (rb), .int (rl), .ref nw, .ref tr, .ref lk, .ref di, .int (nI (ac9)), .ref kp, .ref ik, .ref lv])), (nw, .inl (cI, 151, .inl f)), (tr, .inl (cI, 151, .inl ft)), (lk, .inl (cI, 151, .inl flk)), (lv, .inl (cI, 4, .inl fl))] H := by
            rw [show (rsR n told : Int32) = 1 from hR9]
            exact hP
          exact gp_reti hX hr hlocks hS hP ⟨oRn hR9 (by decide), _, _, _, rfl⟩ dX7_runScript_54
      · skip
        have c39_4 := bI_t c39_4
        refine lv_iconst (v := 0) hx hb dX7_runScript_42 (by decide) ?_
        refine lv_goto (tgt := 47) hx hb dX7_runScript_43 (by decide) ?_
        refine gp_backi (gp_runV hX good7 i7 (c7_refused l D h rf 0 [.ref sc, .int (nI (ss)), .int (nI (ps.2)), .int (bI (ps.1 = true)), .int (rb), .int (rl), .ref nw, .ref tr, .ref lk, .ref di, .int (nI (ac9)), .ref kp, .ref ik, .ref lv]) q7_refused rfl (m7 117 rfl) (m7 118 rfl) (m7 119 rfl) ⟨Nat.le_of_ble_eq_true rfl, Nat.le_of_ble_eq_true rfl⟩ hK [] rfl hP hD [0] (by decide) rfl (ci := 7) (q0 := 0) rfl rfl rfl hl.1 rfl (Nat.le_of_ble_eq_true rfl) dX7_runScript_47 ⟨Nat.zero_le _, Nat.zero_le _⟩) hP hD hS [0] rfl (fun r u h => by rw [h.2]; simp only [List.map_cons, List.map_nil]) (fun r9 u H locs hpost hP hD hS => ?_)
        obtain ⟨hr9, rfl⟩ := hpost
        refine lv_as hr9 ?_
        have hP : va_P D vwCl [(h, .inr (7, [.int (0), .ref sc, .int (nI (ss)), .int (nI (ps.2)), .int (bI (ps.1 = true)), .int (rb), .int (rl), .ref nw, .ref tr, .ref lk, .ref di, .int (nI (ac9)), .ref kp, .ref ik, .ref lv])), (nw, .inl (cI, 151, .inl f)), (tr, .inl (cI, 151, .inl ft)), (lk, .inl (cI, 151, .inl flk)), (lv, .inl (cI, 4, .inl fl))] H := hP
        have hD : va_D A [(h, .inr (7, [.int (0), .ref sc, .int (nI (ss)), .int (nI (ps.2)), .int (bI (ps.1 = true)), .int (rb), .int (rl), .ref nw, .ref tr, .ref lk, .ref di, .int (nI (ac9)), .ref kp, .ref ik, .ref lv])), (nw, .inl (cI, 151, .inl f)), (tr, .inl (cI, 151, .inl ft)), (lk, .inl (cI, 151, .inl flk)), (lv, .inl (cI, 4, .inl fl))] := hD
        refine lv_as (show bI (0 < (0 : Int32)) = 0 from by decide) ?_
        refine lv_if_eq (tgt := 55) hx hb dX7_runScript_50 (by decide) (fun c50_6 => ?_) (fun c50_6 => ?_)
        · skip
          have hR8 : rsR n told = 0 := by rw [rsR, if_pos c14_1, if_pos c39_4]
          have hsc8 := hsc hR8
          obtain ⟨eT, hT⟩ := lnum_of c39_4.1
          have hl : lv_has ls 6 [(4, .int (bI (1 ≤ n ∧ n ≤ 4))), (0, .ref h), (1, .int (nI (n.toNatClampNeg))), (2, .long (lN told.toInt.toNat))] := by rw [← eT]; exact hl
          refine lv_aload_n hx hb dX7_runScript_55 rfl (lv_at hl 1 rfl) ?_
          refine gp_backv (gp_runV hX good7 i7 (c7_begin l D cI h tr nw [.int (0), .ref sc, .int (nI (ss)), .int (nI (ps.2)), .int (bI (ps.1 = true)), .int (rb), .int (rl), .ref nw, .ref tr, .ref lk, .ref di, .int (nI (ac9)), .ref kp, .ref ik, .ref lv] ft f rfl rfl) q7_begin rfl (m7 200 rfl) (m7 201 rfl) (m7 202 rfl) ⟨Nat.le_of_ble_eq_true rfl, Nat.le_of_ble_eq_true rfl⟩ hK [0] rfl hP hD [0, 2, 1] (by decide) rfl (ci := 7) (q0 := 0) rfl rfl rfl hl.1 rfl (Nat.le_of_ble_eq_true rfl) dX7_runScript_56 ⟨Nat.zero_le _, Nat.zero_le _⟩) hP hD hS [0, 2, 1] rfl (fun u h => by rw [h]; simp only [List.map_cons, List.map_nil]) (fun u H locs hpost hP hD hS => ?_)
          subst hpost
          have hP : va_P D vwCl [(h, .inr (7, [.int (0), .ref sc, .int (nI (ss)), .int (nI (ps.2)), .int (bI (ps.1 = true)), .int (rb), .int (rl), .ref nw, .ref tr, .ref lk, .ref di, .int (nI (ac9)), .ref kp, .ref ik, .ref lv])), (nw, .inl (cI, 151, .inl f)), (tr, .inl (cI, 151, .inl f)), (lk, .inl (cI, 151, .inl flk)), (lv, .inl (cI, 4, .inl fl))] H := hP
          have hD : va_D A [(h, .inr (7, [.int (0), .ref sc, .int (nI (ss)), .int (nI (ps.2)), .int (bI (ps.1 = true)), .int (rb), .int (rl), .ref nw, .ref tr, .ref lk, .ref di, .int (nI (ac9)), .ref kp, .ref ik, .ref lv])), (nw, .inl (cI, 151, .inl f)), (tr, .inl (cI, 151, .inl f)), (lk, .inl (cI, 151, .inl flk)), (lv, .inl (cI, 4, .inl fl))] := hD
          refine lv_iconst (v := 0) hx hb dX7_runScript_59 (by decide) ?_
          refine lv_istore (lv' := [(5, .int (0)), (4, .int (bI (1 ≤ n ∧ n ≤ 4))), (0, .ref h), (1, .int (nI (n.toNatClampNeg))), (2, .long (lN told.toInt.toNat))]) hx hb dX7_runScript_60 hl (by decide) rfl (fun ls hl => ?_)
          have LP62 : ∀ n9 : Nat, ∀ (mk : Nat) (g : Nat → Int32) (j : Nat) (kx : Nat → Int32) (lx : Nat → Int32), (hj : j ≤ n.toNatClampNeg) → (hl8 : scL B n.toNatClampNeg told.toInt.toNat la mk g j) → mk < n9 → ∀ (H : Heap) (locs : List Loc), va_P D vwCl [(h, .inr (7, [.int (0), .ref sc, .int (nI (ss)), .int (nI (ps.2)), .int (bI (ps.1 = true)), .int (rb), .int (rl), .ref nw, .ref tr, .ref lk, .ref di, .int (nI (ac9)), .ref kp, .ref ik, .ref lv])), (nw, .inl (cI, 151, .inl f)), (tr, .inl (cI, 151, .inl g)), (lk, .inl (cI, 151, .inl kx)), (lv, .inl (cI, 4, .inl lx))] H → va_D A [(h, .inr (7, [.int (0), .ref sc, .int (nI (ss)), .int (nI (ps.2)), .int (bI (ps.1 = true)), .int (rb), .int (rl), .ref nw, .ref tr, .ref lk, .ref di, .int (nI (ac9)), .ref kp, .ref ik, .ref lv])), (nw, .inl (cI, 151, .inl f)), (tr, .inl (cI, 151, .inl g)), (lk, .inl (cI, 151, .inl kx)), (lv, .inl (cI, 4, .inl lx))] → va_S A s.heap H locs → ∀ ls : Array Slot, lv_has ls 6 [(0, .ref h), (1, .int (nI (n.toNatClampNeg))), (2, .long (lN told.toInt.toNat)), (5, .int (nI (j)))] → W p l e ({ frames := 15, cells := 0, slots := 0, locals := 340 } : Room) s m ([.ref h, .int (n), .long (told)] : List Value).toArray below meth c H locs 0 0 (MQ below (va_Qi (fun (r9 : Int32) (u9 : va_W) => r9 = (if rsR n told = 0 then oI la else 0) ∧ ∃ tr9 : Nat → Int32, ∃ fl9 : Nat → Int32, ∃ lk9 : Nat → Int32, u9 = [(h, .inr (7, [.int (rsR n told), .ref sc, .int (nI (ss)), .int (nI (ps.2)), .int (bI (ps.1 = true)), .int (rb), .int (rl), .ref nw, .ref tr, .ref lk, .ref di, .int (nI (ac9)), .ref kp, .ref ik, .ref lv])), (nw, .inl (cI, 151, .inl f)), (tr, .inl (cI, 151, .inl tr9)), (lk, .inl (cI, 151, .inl lk9)), (lv, .inl (cI, 4, .inl fl9))]) (fun u t => va_P D vwCl u t.heap) A) ([.ref h, .int (n), .long (told)] : List Value).toArray s 0 0 A) (F0 m 62 ls []) := by
            intro n9
            induction n9 with
            | zero => intros; omega
            | succ n9 ih62 =>
              intro mk g j kx lx hj hl8 hm9 H locs hP hD hS ls hl
              obtain ⟨mm, rfl⟩ : ∃ mm, mk = mm + 1 := by cases mk with | zero => cases hl8 | succ n => exact ⟨n, rfl⟩
              rw [scL] at hl8
              refine lv_iload hx hb dX7_runScript_62 (lv_at hl 3 rfl) ?_
              refine lv_iload_n hx hb dX7_runScript_64 rfl (lv_at hl 1 rfl) ?_
              refine lv_icmp_ge (tgt := 102) hx hb dX7_runScript_65 (by decide) (fun c65_7 => ?_) (fun c65_7 => ?_)
              · skip
                have c65_7 := cn_le (a := n.toNatClampNeg) (b := j) (by omega) (by omega) c65_7
                rw [if_neg (by omega)] at hl8
                refine lv_bipush (v := (-9)) hx hb dX7_runScript_102 (by decide) ?_
                have hR9 : rsR n told = 0 := by rw [rsR, if_pos c14_1, if_pos c39_4]
                have hP : va_P D vwCl [(h, .inr (7, [.int (rsR n told), .ref sc, .int (nI (ss)), .int (nI (ps.2)), .int (bI (ps.1 = true)), .int (rb), .int (rl), .ref nw, .ref tr, .ref lk, .ref di, .int (nI (ac9)), .ref kp, .ref ik, .ref lv])), (nw, .inl (cI, 151, .inl f)), (tr, .inl (cI, 151, .inl g)), (lk, .inl (cI, 151, .inl kx)), (lv, .inl (cI, 4, .inl lx))] H := by
                  rw [show (rsR n told : Int32) = 0 from hR9]
                  exact hP
                exact gp_reti hX hr hlocks hS hP ⟨(show ((-9) : Int32) = oI la from by rw [hl8]; rfl).trans (oR0 hR9), _, _, _, rfl⟩ dX7_runScript_104
              · skip
                have c65_7 := cn_nle (a := n.toNatClampNeg) (b := j) (by omega) (by omega) c65_7
                rw [if_pos c65_7] at hl8
                obtain ⟨hO8, hl8⟩ := hl8
                have hg8 : grp n.toNatClampNeg told.toInt.toNat j < 10000 := Nat.mod_lt _ (by decide)
                refine lv_aload_n hx hb dX7_runScript_68 rfl (lv_at hl 0 rfl) ?_
                refine lv_lload_n hx hb dX7_runScript_69 rfl (lv_at hl 2 rfl) ?_
                refine lv_iconst (v := 4) hx hb dX7_runScript_70 (by decide) ?_
                refine lv_iload_n hx hb dX7_runScript_71 rfl (lv_at hl 1 rfl) ?_
                refine lv_iconst (v := 1) hx hb dX7_runScript_72 (by decide) ?_
                refine lv_isub hx hb dX7_runScript_73 ?_
                refine lv_as (y := nI (n.toNatClampNeg - 1)) (pk_sub (a := n.toNatClampNeg) (b := 1) (by omega)) ?_
                refine lv_iload hx hb dX7_runScript_74 (lv_at hl 3 rfl) ?_
                refine lv_isub hx hb dX7_runScript_76 ?_
                refine lv_as (y := nI (n.toNatClampNeg - 1 - j)) (pk_sub (a := n.toNatClampNeg - 1) (b := j) (by omega)) ?_
                refine lv_imul hx hb dX7_runScript_77 ?_
                refine lv_as (y := nI (4 * (n.toNatClampNeg - 1 - j))) (pk_mul (4) (n.toNatClampNeg - 1 - j)) ?_
                refine rpl_callS hX good7 i7 (c7_tenTo l D (4 * (n.toNatClampNeg - 1 - j)) (by omega)) q7_tenTo rfl (m7 205 rfl) (m7 206 rfl) ⟨Nat.le_of_ble_eq_true rfl, Nat.le_of_ble_eq_true rfl⟩ hK [] rfl hP [] rfl hS hl.1 rfl (Nat.le_of_ble_eq_true rfl) dX7_runScript_78 ⟨Nat.zero_le _, Nat.zero_le _⟩ (fun H locs hP hS => ?_)
                refine lv_ldiv hx hb dX7_runScript_81 (ten_ne (by omega)) ?_
                refine lv_ldc2 (v := 10000) hx hb hown (hts _ (m7 204 rfl)) dX7_runScript_82 ?_
                refine lv_lrem hx hb dX7_runScript_85 (by decide) ?_
                refine lv_asl (y := lN (grp n.toNatClampNeg told.toInt.toNat j)) (grp_eq hT hn4) ?_
                refine lv_l2i (v := nI (grp n.toNatClampNeg told.toInt.toNat j)) hx hb dX7_runScript_86 (lN_i _) ?_
                refine gp_backi (gp_runV hX good7 i7 (c7_does l D cI cZ h sc nw tr lk di kp ik lv 0 rb rl ac9 ss ps f B hW hB1 g kx lx hO8 (grp n.toNatClampNeg told.toInt.toNat j) (by omega)) q7_does rfl (m7 208 rfl) (m7 209 rfl) (m7 210 rfl) ⟨Nat.le_of_ble_eq_true rfl, Nat.le_of_ble_eq_true rfl⟩ hK [0] rfl hP hD [0, 1, 2, 3, 4] (by decide) rfl (ci := 7) (q0 := 0) rfl rfl rfl hl.1 rfl (Nat.le_of_ble_eq_true rfl) dX7_runScript_87 ⟨Nat.zero_le _, Nat.zero_le _⟩) hP hD hS [0, 1, 2, 3, 4] rfl (fun r u h => by obtain ⟨-, x8, x9, rfl⟩ := h; simp only [List.map_cons, List.map_nil]) (fun r9 u H locs hpost hP hD hS => ?_)
                obtain ⟨hr9, x8, x9, rfl⟩ := hpost
                refine lv_as hr9 ?_
                have hP : va_P D vwCl [(h, .inr (7, [.int (0), .ref sc, .int (nI (ss)), .int (nI (ps.2)), .int (bI (ps.1 = true)), .int (rb), .int (rl), .ref nw, .ref tr, .ref lk, .ref di, .int (nI (ac9)), .ref kp, .ref ik, .ref lv])), (nw, .inl (cI, 151, .inl f)), (tr, .inl (cI, 151, .inl (dsR g B (grp n.toNatClampNeg told.toInt.toNat j)))), (lk, .inl (cI, 151, .inl x9)), (lv, .inl (cI, 4, .inl x8))] H := hP
                have hD : va_D A [(h, .inr (7, [.int (0), .ref sc, .int (nI (ss)), .int (nI (ps.2)), .int (bI (ps.1 = true)), .int (rb), .int (rl), .ref nw, .ref tr, .ref lk, .ref di, .int (nI (ac9)), .ref kp, .ref ik, .ref lv])), (nw, .inl (cI, 151, .inl f)), (tr, .inl (cI, 151, .inl (dsR g B (grp n.toNatClampNeg told.toInt.toNat j)))), (lk, .inl (cI, 151, .inl x9)), (lv, .inl (cI, 4, .inl x8))] := hD
                refine lv_if_ne (tgt := 96) hx hb dX7_runScript_90 (by decide) (fun c90_10 => ?_) (fun c90_10 => ?_)
                · skip
                  have c90_10 := bI_t c90_10
                  refine lv_iinc (v := nI (j + 1)) (lv' := [(5, .int (nI (j + 1))), (0, .ref h), (1, .int (nI (n.toNatClampNeg))), (2, .long (lN told.toInt.toNat))]) hx hb dX7_runScript_96 hl (k := 3) rfl (nI_add _ 1) (by decide) rfl (fun ls hl => ?_)
                  refine lv_goto (tgt := 62) hx hb dX7_runScript_99 (by decide) ?_
                  have hl : lv_has ls 6 [(5, .int (nI ((j + 1)))), (0, .ref h), (1, .int (nI (n.toNatClampNeg))), (2, .long (lN told.toInt.toNat))] := lv_re hl 0 rfl (show nI (j + 1) = nI ((j + 1)) from rfl)
                  exact ih62 mm (dsR g B (grp n.toNatClampNeg told.toInt.toNat j)) (j + 1) x9 x8 (by omega) (by rw [if_pos c90_10] at hl8; exact hl8) (by omega) _ _ hP hD hS _ (lv_sub hl [1, 2, 3, 0] rfl)
                · skip
                  have c90_10 := bI_f c90_10
                  refine lv_iload hx hb dX7_runScript_93 (lv_at hl 3 rfl) ?_
                  rw [if_neg c90_10] at hl8
                  have hR9 : rsR n told = 0 := by rw [rsR, if_pos c14_1, if_pos c39_4]
                  have hP : va_P D vwCl [(h, .inr (7, [.int (rsR n told), .ref sc, .int (nI (ss)), .int (nI (ps.2)), .int (bI (ps.1 = true)), .int (rb), .int (rl), .ref nw, .ref tr, .ref lk, .ref di, .int (nI (ac9)), .ref kp, .ref ik, .ref lv])), (nw, .inl (cI, 151, .inl f)), (tr, .inl (cI, 151, .inl (dsR g B (grp n.toNatClampNeg told.toInt.toNat j)))), (lk, .inl (cI, 151, .inl x9)), (lv, .inl (cI, 4, .inl x8))] H := by
                    rw [show (rsR n told : Int32) = 0 from hR9]
                    exact hP
                  exact gp_reti hX hr hlocks hS hP ⟨(show nI (j) = oI la from by rw [hl8]; rfl).trans (oR0 hR9), _, _, _, rfl⟩ dX7_runScript_95
          have hl : lv_has ls 6 [(5, .int (nI (0))), (4, .int (bI (1 ≤ n ∧ n ≤ 4))), (0, .ref h), (1, .int (nI (n.toNatClampNeg))), (2, .long (lN told.toInt.toNat))] := lv_re hl 0 rfl (show 0 = nI (0) from rfl)
          exact LP62 (n2 + 1) n2 f 0 flk fl (by omega) (hsc8) (by omega) _ _ hP hD hS _ (lv_sub hl [2, 3, 4, 0] rfl)
        · skip
          exact absurd c50_6 (by decide)
theorem dX7_round_0 : decode cX7_round 0 = .ok (.aload_n 0, 1) := by decide +kernel
theorem dX7_round_1 : decode cX7_round 1 = .ok (.getfield 16, 3) := by decide +kernel
theorem dX7_round_4 : decode cX7_round 4 = .ok (.iconst 2, 1) := by decide +kernel
theorem dX7_round_5 : decode cX7_round 5 = .ok (.iaload, 1) := by decide +kernel
theorem dX7_round_6 : decode cX7_round 6 = .ok (.ifCond .ne 10, 3) := by decide +kernel
theorem dX7_round_9 : decode cX7_round 9 = .ok (.aload_n 0, 1) := by decide +kernel
theorem dX7_round_10 : decode cX7_round 10 = .ok (.getfield 16, 3) := by decide +kernel
theorem dX7_round_13 : decode cX7_round 13 = .ok (.invokestatic 141, 3) := by decide +kernel
theorem dX7_round_16 : decode cX7_round 16 = .ok (.iload_n 1, 1) := by decide +kernel
theorem dX7_round_17 : decode cX7_round 17 = .ok (.bipush 8, 2) := by decide +kernel
theorem dX7_round_19 : decode cX7_round 19 = .ok (.idiv, 1) := by decide +kernel
theorem dX7_round_20 : decode cX7_round 20 = .ok (.bipush 16, 2) := by decide +kernel
theorem dX7_round_22 : decode cX7_round 22 = .ok (.irem, 1) := by decide +kernel
theorem dX7_round_23 : decode cX7_round 23 = .ok (.istore_n 2, 1) := by decide +kernel
theorem dX7_round_24 : decode cX7_round 24 = .ok (.iload_n 1, 1) := by decide +kernel
theorem dX7_round_25 : decode cX7_round 25 = .ok (.bipush 8, 2) := by decide +kernel
theorem dX7_round_27 : decode cX7_round 27 = .ok (.irem, 1) := by decide +kernel
theorem dX7_round_28 : decode cX7_round 28 = .ok (.ifCond .ne 16, 3) := by decide +kernel
theorem dX7_round_31 : decode cX7_round 31 = .ok (.aload_n 0, 1) := by decide +kernel
theorem dX7_round_32 : decode cX7_round 32 = .ok (.aload_n 0, 1) := by decide +kernel
theorem dX7_round_33 : decode cX7_round 33 = .ok (.getfield 16, 3) := by decide +kernel
theorem dX7_round_36 : decode cX7_round 36 = .ok (.iload_n 2, 1) := by decide +kernel
theorem dX7_round_37 : decode cX7_round 37 = .ok (.invokevirtual 181, 3) := by decide +kernel
theorem dX7_round_40 : decode cX7_round 40 = .ok (.pop, 1) := by decide +kernel
theorem dX7_round_41 : decode cX7_round 41 = .ok (.goto 48, 3) := by decide +kernel
theorem dX7_round_44 : decode cX7_round 44 = .ok (.iload_n 1, 1) := by decide +kernel
theorem dX7_round_45 : decode cX7_round 45 = .ok (.bipush 8, 2) := by decide +kernel
theorem dX7_round_47 : decode cX7_round 47 = .ok (.irem, 1) := by decide +kernel
theorem dX7_round_48 : decode cX7_round 48 = .ok (.iconst 1, 1) := by decide +kernel
theorem dX7_round_49 : decode cX7_round 49 = .ok (.if_icmp .ne 21, 3) := by decide +kernel
theorem dX7_round_52 : decode cX7_round 52 = .ok (.aload_n 0, 1) := by decide +kernel
theorem dX7_round_53 : decode cX7_round 53 = .ok (.getfield 16, 3) := by decide +kernel
theorem dX7_round_56 : decode cX7_round 56 = .ok (.iconst 5, 1) := by decide +kernel
theorem dX7_round_57 : decode cX7_round 57 = .ok (.iconst 1, 1) := by decide +kernel
theorem dX7_round_58 : decode cX7_round 58 = .ok (.iload_n 1, 1) := by decide +kernel
theorem dX7_round_59 : decode cX7_round 59 = .ok (.bipush 8, 2) := by decide +kernel
theorem dX7_round_61 : decode cX7_round 61 = .ok (.idiv, 1) := by decide +kernel
theorem dX7_round_62 : decode cX7_round 62 = .ok (.bipush 20, 2) := by decide +kernel
theorem dX7_round_64 : decode cX7_round 64 = .ok (.irem, 1) := by decide +kernel
theorem dX7_round_65 : decode cX7_round 65 = .ok (.iadd, 1) := by decide +kernel
theorem dX7_round_66 : decode cX7_round 66 = .ok (.iastore, 1) := by decide +kernel
theorem dX7_round_67 : decode cX7_round 67 = .ok (.goto 22, 3) := by decide +kernel
theorem dX7_round_70 : decode cX7_round 70 = .ok (.aload_n 0, 1) := by decide +kernel
theorem dX7_round_71 : decode cX7_round 71 = .ok (.aload_n 0, 1) := by decide +kernel
theorem dX7_round_72 : decode cX7_round 72 = .ok (.getfield 16, 3) := by decide +kernel
theorem dX7_round_75 : decode cX7_round 75 = .ok (.iload_n 2, 1) := by decide +kernel
theorem dX7_round_76 : decode cX7_round 76 = .ok (.iload_n 1, 1) := by decide +kernel
theorem dX7_round_77 : decode cX7_round 77 = .ok (.sipush 128, 3) := by decide +kernel
theorem dX7_round_80 : decode cX7_round 80 = .ok (.idiv, 1) := by decide +kernel
theorem dX7_round_81 : decode cX7_round 81 = .ok (.sipush 1000, 3) := by decide +kernel
theorem dX7_round_84 : decode cX7_round 84 = .ok (.irem, 1) := by decide +kernel
theorem dX7_round_85 : decode cX7_round 85 = .ok (.invokevirtual 138, 3) := by decide +kernel
theorem dX7_round_88 : decode cX7_round 88 = .ok (.pop, 1) := by decide +kernel
theorem dX7_round_89 : decode cX7_round 89 = .ok (.return_, 1) := by decide +kernel
theorem q7_round : CQ W7 yX7_round cX7_round 3 none 1 := ⟨(m7 217 rfl), by decide, by decide, by decide +kernel⟩
set_option maxHeartbeats 4000000 in
set_option maxRecDepth 100000 in
theorem c7_round (l : Launch) (D : va_G) (cI cZ : ClassId) (h sc nw tr lk di kp ik lv : Nat) (rf rb rl : Int32) (ac9 : Nat) (ss : Nat) (ps : Bool × Nat) (f flk fl : Nat → Int32) (B : Nat) (hW : Wf f B) (hO : Ok (rdU f B) B) (q : Nat) (hq : q < 2 ^ 31) : GPv l yX7_round cX7_round 3 W7 14 314 D [(h, .inr (7, [.int (rf), .ref sc, .int (nI (ss)), .int (nI (ps.2)), .int (bI (ps.1 = true)), .int (rb), .int (rl), .ref nw, .ref tr, .ref lk, .ref di, .int (nI (ac9)), .ref kp, .ref ik, .ref lv])), (tr, .inl (cI, 151, .inl f)), (lk, .inl (cI, 151, .inl flk)), (lv, .inl (cI, 4, .inl fl))] [(cI, .int)] [.ref h, .int (nI (q))] (fun u9 : va_W => ∃ fl9 : Nat → Int32, ∃ lk9 : Nat → Int32, u9 = [(h, .inr (7, [.int (rf), .ref sc, .int (nI (ss)), .int (nI (ps.2)), .int (bI (ps.1 = true)), .int (rb), .int (rl), .ref nw, .ref tr, .ref lk, .ref di, .int (nI (ac9)), .ref kp, .ref ik, .ref lv])), (tr, .inl (cI, 151, .inl (rdR f B q))), (lk, .inl (cI, 151, .inl lk9)), (lv, .inl (cI, 4, .inl fl9))]) := by
  refine gp_of RX7 (by decide) rfl (Nat.le_of_ble_eq_true rfl) ?_
  intro p e s m below meth c ls H hX hr hlocks hK hP hD hS hl
  generalize gp_A [(h, .inr (7, [.int (rf), .ref sc, .int (nI (ss)), .int (nI (ps.2)), .int (bI (ps.1 = true)), .int (rb), .int (rl), .ref nw, .ref tr, .ref lk, .ref di, .int (nI (ac9)), .ref kp, .ref ik, .ref lv])), (tr, .inl (cI, 151, .inl f)), (lk, .inl (cI, 151, .inl flk)), (lv, .inl (cI, 4, .inl fl))] = A at hD hS ⊢
  have hx := hX.1
  have hb := hX.2.1
  have hown := hX.2.2.2.1
  have hts := hX.2.2.2.2
  have hl : lv_has ls 3 [(0, .ref h), (1, .int (nI (q)))] := hl
  refine lv_aload_n hx hb dX7_round_0 rfl (lv_at hl 0 rfl) ?_
  refine va_get (D := D) (ci := 7) (v := .ref tr) (C := RX7) (T := TX7) (N := 15) hx hb hts u7 hown hK hP 0 rfl rfl 8 (by decide) (hts _ (m7 6 rfl)) (fun _ h9 => h9) rfl dX7_round_1 ?_
  refine lv_iconst (v := 2) hx hb dX7_round_4 (by decide) ?_
  refine ra_iald (i := 2) hx hb hK hP 1 0 rfl rfl (by omega) (by decide) dX7_round_5 ?_
  refine lv_if_ne (tgt := 16) hx hb dX7_round_6 (by decide) (fun c6_1 => ?_) (fun c6_1 => ?_)
  · skip
    have hP : va_P D vwCl [(h, .inr (7, [.int (rf), .ref sc, .int (nI (ss)), .int (nI (ps.2)), .int (bI (ps.1 = true)), .int (rb), .int (rl), .ref nw, .ref tr, .ref lk, .ref di, .int (nI (ac9)), .ref kp, .ref ik, .ref lv])), (tr, .inl (cI, 151, .inl (rdU f B))), (lk, .inl (cI, 151, .inl flk)), (lv, .inl (cI, 4, .inl fl))] H := by
      rw [show (rdU f B : Nat → Int32) = f from by rw [rdU, if_neg c6_1]]
      exact hP
    have hD : va_D A [(h, .inr (7, [.int (rf), .ref sc, .int (nI (ss)), .int (nI (ps.2)), .int (bI (ps.1 = true)), .int (rb), .int (rl), .ref nw, .ref tr, .ref lk, .ref di, .int (nI (ac9)), .ref kp, .ref ik, .ref lv])), (tr, .inl (cI, 151, .inl (rdU f B))), (lk, .inl (cI, 151, .inl flk)), (lv, .inl (cI, 4, .inl fl))] := by
      rw [show (rdU f B : Nat → Int32) = f from by rw [rdU, if_neg c6_1]]
      exact hD
    refine lv_iload_n hx hb dX7_round_16 rfl (lv_at hl 1 rfl) ?_
    refine lv_bipush (v := 8) hx hb dX7_round_17 (by decide) ?_
    refine lv_idiv hx hb dX7_round_19 (by decide) ?_
    refine lv_as (y := nI (q / 8)) (pk_div (a := q) (d := 8) (by omega) (by decide) (by decide)) ?_
    refine lv_bipush (v := 16) hx hb dX7_round_20 (by decide) ?_
    refine lv_irem hx hb dX7_round_22 (by decide) ?_
    refine lv_as (y := nI ((q / 8) % 16)) (pk_rem (a := q / 8) (d := 16) (by omega) (by decide) (by decide)) ?_
    refine lv_istore_n (lv' := [(2, .int (nI ((q / 8) % 16))), (0, .ref h), (1, .int (nI (q)))]) hx hb dX7_round_23 rfl hl (by decide) rfl (fun ls hl => ?_)
    refine lv_iload_n hx hb dX7_round_24 rfl (lv_at hl 2 rfl) ?_
    refine lv_bipush (v := 8) hx hb dX7_round_25 (by decide) ?_
    refine lv_irem hx hb dX7_round_27 (by decide) ?_
    refine lv_as (y := nI (q % 8)) (pk_rem (a := q) (d := 8) (by omega) (by decide) (by decide)) ?_
    refine lv_if_ne (tgt := 44) hx hb dX7_round_28 (by decide) (fun c28_2 => ?_) (fun c28_2 => ?_)
    · skip
      have c28_2 := cn_ne (a := q % 8) (b := 0) (by omega) (by omega) c28_2
      refine lv_iload_n hx hb dX7_round_44 rfl (lv_at hl 2 rfl) ?_
      refine lv_bipush (v := 8) hx hb dX7_round_45 (by decide) ?_
      refine lv_irem hx hb dX7_round_47 (by decide) ?_
      refine lv_as (y := nI (q % 8)) (pk_rem (a := q) (d := 8) (by omega) (by decide) (by decide)) ?_
      refine lv_iconst (v := 1) hx hb dX7_round_48 (by decide) ?_
      refine lv_icmp_ne (tgt := 70) hx hb dX7_round_49 (by decide) (fun c49_3 => ?_) (fun c49_3 => ?_)
      · skip
        have c49_3 := cn_ne (a := q % 8) (b := 1) (by omega) (by omega) c49_3
        refine lv_aload_n hx hb dX7_round_70 rfl (lv_at hl 1 rfl) ?_
        refine lv_aload_n hx hb dX7_round_71 rfl (lv_at hl 1 rfl) ?_
        refine va_get (D := D) (ci := 7) (v := .ref tr) (C := RX7) (T := TX7) (N := 15) hx hb hts u7 hown hK hP 0 rfl rfl 8 (by decide) (hts _ (m7 6 rfl)) (fun _ h9 => h9) rfl dX7_round_72 ?_
        refine lv_iload_n hx hb dX7_round_75 rfl (lv_at hl 0 rfl) ?_
        refine lv_iload_n hx hb dX7_round_76 rfl (lv_at hl 2 rfl) ?_
        refine lv_sipush (v := 128) hx hb dX7_round_77 (by decide) ?_
        refine lv_idiv hx hb dX7_round_80 (by decide) ?_
        refine lv_as (y := nI (q / 128)) (pk_div (a := q) (d := 128) (by omega) (by decide) (by decide)) ?_
        refine lv_sipush (v := 1000) hx hb dX7_round_81 (by decide) ?_
        refine lv_irem hx hb dX7_round_84 (by decide) ?_
        refine lv_as (y := nI ((q / 128) % 1000)) (pk_rem (a := q / 128) (d := 1000) (by omega) (by decide) (by decide)) ?_
        refine gp_backi (gp_runV hX good7 i7 (c7_doPut l D cI h lv lk tr [.int (rf), .ref sc, .int (nI (ss)), .int (nI (ps.2)), .int (bI (ps.1 = true)), .int (rb), .int (rl), .ref nw, .ref tr, .ref lk, .ref di, .int (nI (ac9)), .ref kp, .ref ik, .ref lv] fl flk (rdU f B) B hO.1 rfl rfl 5000 (lookT B (rdU f B)).1 (lookT B (rdU f B)).2 (ok_look hO) (nI ((q / 8) % 16)) (nI ((q / 128) % 1000)) 5000 (recT B (nI (q / 8 % 16)) (nI (q / 128 % 1000)) (rdU f B)).1 (recT B (nI (q / 8 % 16)) (nI (q / 128 % 1000)) (rdU f B)).2 (ok_rec hO _ _)) q7_doPut rfl (m7 105 rfl) (m7 106 rfl) (m7 107 rfl) ⟨Nat.le_of_ble_eq_true rfl, Nat.le_of_ble_eq_true rfl⟩ hK [0] rfl hP hD [0, 3, 2, 1] (by decide) rfl (ci := 7) (q0 := 0) rfl rfl rfl hl.1 rfl (Nat.le_of_ble_eq_true rfl) dX7_round_85 ⟨Nat.zero_le _, Nat.zero_le _⟩) hP hD hS [0, 3, 2, 1] rfl (fun r u h => by obtain ⟨-, x4, x5, rfl⟩ := h; simp only [List.map_cons, List.map_nil]) (fun r9 u H locs hpost hP hD hS => ?_)
        obtain ⟨hr9, x4, x5, rfl⟩ := hpost
        refine lv_as hr9 ?_
        have hP : va_P D vwCl [(h, .inr (7, [.int (rf), .ref sc, .int (nI (ss)), .int (nI (ps.2)), .int (bI (ps.1 = true)), .int (rb), .int (rl), .ref nw, .ref tr, .ref lk, .ref di, .int (nI (ac9)), .ref kp, .ref ik, .ref lv])), (tr, .inl (cI, 151, .inl (if (rdU f B) 2 = 1 ∧ ¬ ((lookT B (rdU f B)).1) < 0 then ((recT B (nI (q / 8 % 16)) (nI (q / 128 % 1000)) (rdU f B)).2) else (rdU f B)))), (lk, .inl (cI, 151, .inl x5)), (lv, .inl (cI, 4, .inl x4))] H := hP
        have hD : va_D A [(h, .inr (7, [.int (rf), .ref sc, .int (nI (ss)), .int (nI (ps.2)), .int (bI (ps.1 = true)), .int (rb), .int (rl), .ref nw, .ref tr, .ref lk, .ref di, .int (nI (ac9)), .ref kp, .ref ik, .ref lv])), (tr, .inl (cI, 151, .inl (if (rdU f B) 2 = 1 ∧ ¬ ((lookT B (rdU f B)).1) < 0 then ((recT B (nI (q / 8 % 16)) (nI (q / 128 % 1000)) (rdU f B)).2) else (rdU f B)))), (lk, .inl (cI, 151, .inl x5)), (lv, .inl (cI, 4, .inl x4))] := hD
        refine lv_pop hx hb dX7_round_88 rfl ?_
        have hP : va_P D vwCl [(h, .inr (7, [.int (rf), .ref sc, .int (nI (ss)), .int (nI (ps.2)), .int (bI (ps.1 = true)), .int (rb), .int (rl), .ref nw, .ref tr, .ref lk, .ref di, .int (nI (ac9)), .ref kp, .ref ik, .ref lv])), (tr, .inl (cI, 151, .inl (rdR f B q))), (lk, .inl (cI, 151, .inl x5)), (lv, .inl (cI, 4, .inl x4))] H := by
          rw [show (rdR f B q : Nat → Int32) = if (rdU f B) 2 = 1 ∧ ¬ ((lookT B (rdU f B)).1) < 0 then ((recT B (nI (q / 8 % 16)) (nI (q / 128 % 1000)) (rdU f B)).2) else (rdU f B) from by rw [rdR, if_neg c28_2, if_neg c49_3]; rfl]
          exact hP
        exact gp_retv hX hr hlocks hS hP ⟨_, _, rfl⟩ dX7_round_89
      · skip
        have c49_3 := cn_eq (a := q % 8) (b := 1) (by omega) (by omega) c49_3
        refine lv_aload_n hx hb dX7_round_52 rfl (lv_at hl 1 rfl) ?_
        refine va_get (D := D) (ci := 7) (v := .ref tr) (C := RX7) (T := TX7) (N := 15) hx hb hts u7 hown hK hP 0 rfl rfl 8 (by decide) (hts _ (m7 6 rfl)) (fun _ h9 => h9) rfl dX7_round_53 ?_
        refine lv_iconst (v := 5) hx hb dX7_round_56 (by decide) ?_
        refine lv_iconst (v := 1) hx hb dX7_round_57 (by decide) ?_
        refine lv_iload_n hx hb dX7_round_58 rfl (lv_at hl 2 rfl) ?_
        refine lv_bipush (v := 8) hx hb dX7_round_59 (by decide) ?_
        refine lv_idiv hx hb dX7_round_61 (by decide) ?_
        refine lv_as (y := nI (q / 8)) (pk_div (a := q) (d := 8) (by omega) (by decide) (by decide)) ?_
        refine lv_bipush (v := 20) hx hb dX7_round_62 (by decide) ?_
        refine lv_irem hx hb dX7_round_64 (by decide) ?_
        refine lv_as (y := nI ((q / 8) % 20)) (pk_rem (a := q / 8) (d := 20) (by omega) (by decide) (by decide)) ?_
        refine lv_iadd hx hb dX7_round_65 ?_
        refine lv_as (y := nI (1 + (q / 8) % 20)) (nI_add (1) ((q / 8) % 20)) ?_
        refine ra_iast (i := 5) hx hb hK hP hD hS 1 0 rfl rfl (by omega) (by decide) dX7_round_66 (fun H locs hP hD hS => ?_)
        have hP : va_P D vwCl [(h, .inr (7, [.int (rf), .ref sc, .int (nI (ss)), .int (nI (ps.2)), .int (bI (ps.1 = true)), .int (rb), .int (rl), .ref nw, .ref tr, .ref lk, .ref di, .int (nI (ac9)), .ref kp, .ref ik, .ref lv])), (tr, .inl (cI, 151, .inl (upd (rdU f B) 5 (nI (1 + (q / 8) % 20))))), (lk, .inl (cI, 151, .inl flk)), (lv, .inl (cI, 4, .inl fl))] H := hP
        have hD : va_D A [(h, .inr (7, [.int (rf), .ref sc, .int (nI (ss)), .int (nI (ps.2)), .int (bI (ps.1 = true)), .int (rb), .int (rl), .ref nw, .ref tr, .ref lk, .ref di, .int (nI (ac9)), .ref kp, .ref ik, .ref lv])), (tr, .inl (cI, 151, .inl (upd (rdU f B) 5 (nI (1 + (q / 8) % 20))))), (lk, .inl (cI, 151, .inl flk)), (lv, .inl (cI, 4, .inl fl))] := hD
        refine lv_goto (tgt := 89) hx hb dX7_round_67 (by decide) ?_
        have hP : va_P D vwCl [(h, .inr (7, [.int (rf), .ref sc, .int (nI (ss)), .int (nI (ps.2)), .int (bI (ps.1 = true)), .int (rb), .int (rl), .ref nw, .ref tr, .ref lk, .ref di, .int (nI (ac9)), .ref kp, .ref ik, .ref lv])), (tr, .inl (cI, 151, .inl (rdR f B q))), (lk, .inl (cI, 151, .inl flk)), (lv, .inl (cI, 4, .inl fl))] H := by
          rw [show (rdR f B q : Nat → Int32) = upd (rdU f B) 5 (nI (1 + (q / 8) % 20)) from by rw [rdR, if_neg c28_2, if_pos c49_3]]
          exact hP
        exact gp_retv hX hr hlocks hS hP ⟨_, _, rfl⟩ dX7_round_89
    · skip
      have c28_2 := cn_eq (a := q % 8) (b := 0) (by omega) (by omega) c28_2
      refine lv_aload_n hx hb dX7_round_31 rfl (lv_at hl 1 rfl) ?_
      refine lv_aload_n hx hb dX7_round_32 rfl (lv_at hl 1 rfl) ?_
      refine va_get (D := D) (ci := 7) (v := .ref tr) (C := RX7) (T := TX7) (N := 15) hx hb hts u7 hown hK hP 0 rfl rfl 8 (by decide) (hts _ (m7 6 rfl)) (fun _ h9 => h9) rfl dX7_round_33 ?_
      refine lv_iload_n hx hb dX7_round_36 rfl (lv_at hl 0 rfl) ?_
      refine gp_backi (gp_runV hX good7 i7 (c7_doRemove l D cI h lv lk tr [.int (rf), .ref sc, .int (nI (ss)), .int (nI (ps.2)), .int (bI (ps.1 = true)), .int (rb), .int (rl), .ref nw, .ref tr, .ref lk, .ref di, .int (nI (ac9)), .ref kp, .ref ik, .ref lv] fl flk (rdU f B) B hO.1 rfl rfl 5000 (lookT B (rdU f B)).1 (lookT B (rdU f B)).2 (ok_look hO) (nI ((q / 8) % 16)) 5000 (recT B (nI (q / 8 % 16)) (-9) (rdU f B)).1 (recT B (nI (q / 8 % 16)) (-9) (rdU f B)).2 (ok_rec hO _ _)) q7_doRemove rfl (m7 140 rfl) (m7 141 rfl) (m7 142 rfl) ⟨Nat.le_of_ble_eq_true rfl, Nat.le_of_ble_eq_true rfl⟩ hK [0] rfl hP hD [0, 3, 2, 1] (by decide) rfl (ci := 7) (q0 := 0) rfl rfl rfl hl.1 rfl (Nat.le_of_ble_eq_true rfl) dX7_round_37 ⟨Nat.zero_le _, Nat.zero_le _⟩) hP hD hS [0, 3, 2, 1] rfl (fun r u h => by obtain ⟨-, x6, x7, rfl⟩ := h; simp only [List.map_cons, List.map_nil]) (fun r9 u H locs hpost hP hD hS => ?_)
      obtain ⟨hr9, x6, x7, rfl⟩ := hpost
      refine lv_as hr9 ?_
      have hP : va_P D vwCl [(h, .inr (7, [.int (rf), .ref sc, .int (nI (ss)), .int (nI (ps.2)), .int (bI (ps.1 = true)), .int (rb), .int (rl), .ref nw, .ref tr, .ref lk, .ref di, .int (nI (ac9)), .ref kp, .ref ik, .ref lv])), (tr, .inl (cI, 151, .inl (if vlu (rdU f B) (nI ((q / 8) % 16)) B ≠ -9 ∧ (rdU f B) 2 = 1 ∧ ¬ ((lookT B (rdU f B)).1) < 0 then ((recT B (nI (q / 8 % 16)) (-9) (rdU f B)).2) else (rdU f B)))), (lk, .inl (cI, 151, .inl x7)), (lv, .inl (cI, 4, .inl x6))] H := hP
      have hD : va_D A [(h, .inr (7, [.int (rf), .ref sc, .int (nI (ss)), .int (nI (ps.2)), .int (bI (ps.1 = true)), .int (rb), .int (rl), .ref nw, .ref tr, .ref lk, .ref di, .int (nI (ac9)), .ref kp, .ref ik, .ref lv])), (tr, .inl (cI, 151, .inl (if vlu (rdU f B) (nI ((q / 8) % 16)) B ≠ -9 ∧ (rdU f B) 2 = 1 ∧ ¬ ((lookT B (rdU f B)).1) < 0 then ((recT B (nI (q / 8 % 16)) (-9) (rdU f B)).2) else (rdU f B)))), (lk, .inl (cI, 151, .inl x7)), (lv, .inl (cI, 4, .inl x6))] := hD
      refine lv_pop hx hb dX7_round_40 rfl ?_
      refine lv_goto (tgt := 89) hx hb dX7_round_41 (by decide) ?_
      have hP : va_P D vwCl [(h, .inr (7, [.int (rf), .ref sc, .int (nI (ss)), .int (nI (ps.2)), .int (bI (ps.1 = true)), .int (rb), .int (rl), .ref nw, .ref tr, .ref lk, .ref di, .int (nI (ac9)), .ref kp, .ref ik, .ref lv])), (tr, .inl (cI, 151, .inl (rdR f B q))), (lk, .inl (cI, 151, .inl x7)), (lv, .inl (cI, 4, .inl x6))] H := by
        rw [show (rdR f B q : Nat → Int32) = if vlu (rdU f B) (nI ((q / 8) % 16)) B ≠ -9 ∧ (rdU f B) 2 = 1 ∧ ¬ ((lookT B (rdU f B)).1) < 0 then ((recT B (nI (q / 8 % 16)) (-9) (rdU f B)).2) else (rdU f B) from by rw [rdR, if_pos c28_2]; rfl]
        exact hP
      exact gp_retv hX hr hlocks hS hP ⟨_, _, rfl⟩ dX7_round_89
  · skip
    refine lv_aload_n hx hb dX7_round_9 rfl (lv_at hl 0 rfl) ?_
    refine va_get (D := D) (ci := 7) (v := .ref tr) (C := RX7) (T := TX7) (N := 15) hx hb hts u7 hown hK hP 0 rfl rfl 8 (by decide) (hts _ (m7 6 rfl)) (fun _ h9 => h9) rfl dX7_round_10 ?_
    refine gp_backv (gp_runS hX good7 i7 (c7_powerUp l D cI tr f B hW.1 hW.2.1) q7_powerUp rfl (m7 109 rfl) (m7 110 rfl) ⟨Nat.le_of_ble_eq_true rfl, Nat.le_of_ble_eq_true rfl⟩ hK [0] rfl hP hD [1] (by decide) rfl hl.1 rfl (Nat.le_of_ble_eq_true rfl) dX7_round_13 ⟨Nat.zero_le _, Nat.zero_le _⟩) hP hD hS [1] rfl (fun u h => by rw [h]; simp only [List.map_cons, List.map_nil]) (fun u H locs hpost hP hD hS => ?_)
    subst hpost
    have hP : va_P D vwCl [(h, .inr (7, [.int (rf), .ref sc, .int (nI (ss)), .int (nI (ps.2)), .int (bI (ps.1 = true)), .int (rb), .int (rl), .ref nw, .ref tr, .ref lk, .ref di, .int (nI (ac9)), .ref kp, .ref ik, .ref lv])), (tr, .inl (cI, 151, .inl (puR f B))), (lk, .inl (cI, 151, .inl flk)), (lv, .inl (cI, 4, .inl fl))] H := hP
    have hD : va_D A [(h, .inr (7, [.int (rf), .ref sc, .int (nI (ss)), .int (nI (ps.2)), .int (bI (ps.1 = true)), .int (rb), .int (rl), .ref nw, .ref tr, .ref lk, .ref di, .int (nI (ac9)), .ref kp, .ref ik, .ref lv])), (tr, .inl (cI, 151, .inl (puR f B))), (lk, .inl (cI, 151, .inl flk)), (lv, .inl (cI, 4, .inl fl))] := hD
    have hP : va_P D vwCl [(h, .inr (7, [.int (rf), .ref sc, .int (nI (ss)), .int (nI (ps.2)), .int (bI (ps.1 = true)), .int (rb), .int (rl), .ref nw, .ref tr, .ref lk, .ref di, .int (nI (ac9)), .ref kp, .ref ik, .ref lv])), (tr, .inl (cI, 151, .inl (rdU f B))), (lk, .inl (cI, 151, .inl flk)), (lv, .inl (cI, 4, .inl fl))] H := by
      rw [show (rdU f B : Nat → Int32) = puR f B from by rw [rdU, if_pos c6_1]]
      exact hP
    have hD : va_D A [(h, .inr (7, [.int (rf), .ref sc, .int (nI (ss)), .int (nI (ps.2)), .int (bI (ps.1 = true)), .int (rb), .int (rl), .ref nw, .ref tr, .ref lk, .ref di, .int (nI (ac9)), .ref kp, .ref ik, .ref lv])), (tr, .inl (cI, 151, .inl (rdU f B))), (lk, .inl (cI, 151, .inl flk)), (lv, .inl (cI, 4, .inl fl))] := by
      rw [show (rdU f B : Nat → Int32) = puR f B from by rw [rdU, if_pos c6_1]]
      exact hD
    refine lv_iload_n hx hb dX7_round_16 rfl (lv_at hl 1 rfl) ?_
    refine lv_bipush (v := 8) hx hb dX7_round_17 (by decide) ?_
    refine lv_idiv hx hb dX7_round_19 (by decide) ?_
    refine lv_as (y := nI (q / 8)) (pk_div (a := q) (d := 8) (by omega) (by decide) (by decide)) ?_
    refine lv_bipush (v := 16) hx hb dX7_round_20 (by decide) ?_
    refine lv_irem hx hb dX7_round_22 (by decide) ?_
    refine lv_as (y := nI ((q / 8) % 16)) (pk_rem (a := q / 8) (d := 16) (by omega) (by decide) (by decide)) ?_
    refine lv_istore_n (lv' := [(2, .int (nI ((q / 8) % 16))), (0, .ref h), (1, .int (nI (q)))]) hx hb dX7_round_23 rfl hl (by decide) rfl (fun ls hl => ?_)
    refine lv_iload_n hx hb dX7_round_24 rfl (lv_at hl 2 rfl) ?_
    refine lv_bipush (v := 8) hx hb dX7_round_25 (by decide) ?_
    refine lv_irem hx hb dX7_round_27 (by decide) ?_
    refine lv_as (y := nI (q % 8)) (pk_rem (a := q) (d := 8) (by omega) (by decide) (by decide)) ?_
    refine lv_if_ne (tgt := 44) hx hb dX7_round_28 (by decide) (fun c28_8 => ?_) (fun c28_8 => ?_)
    · skip
      have c28_8 := cn_ne (a := q % 8) (b := 0) (by omega) (by omega) c28_8
      refine lv_iload_n hx hb dX7_round_44 rfl (lv_at hl 2 rfl) ?_
      refine lv_bipush (v := 8) hx hb dX7_round_45 (by decide) ?_
      refine lv_irem hx hb dX7_round_47 (by decide) ?_
      refine lv_as (y := nI (q % 8)) (pk_rem (a := q) (d := 8) (by omega) (by decide) (by decide)) ?_
      refine lv_iconst (v := 1) hx hb dX7_round_48 (by decide) ?_
      refine lv_icmp_ne (tgt := 70) hx hb dX7_round_49 (by decide) (fun c49_9 => ?_) (fun c49_9 => ?_)
      · skip
        have c49_9 := cn_ne (a := q % 8) (b := 1) (by omega) (by omega) c49_9
        refine lv_aload_n hx hb dX7_round_70 rfl (lv_at hl 1 rfl) ?_
        refine lv_aload_n hx hb dX7_round_71 rfl (lv_at hl 1 rfl) ?_
        refine va_get (D := D) (ci := 7) (v := .ref tr) (C := RX7) (T := TX7) (N := 15) hx hb hts u7 hown hK hP 0 rfl rfl 8 (by decide) (hts _ (m7 6 rfl)) (fun _ h9 => h9) rfl dX7_round_72 ?_
        refine lv_iload_n hx hb dX7_round_75 rfl (lv_at hl 0 rfl) ?_
        refine lv_iload_n hx hb dX7_round_76 rfl (lv_at hl 2 rfl) ?_
        refine lv_sipush (v := 128) hx hb dX7_round_77 (by decide) ?_
        refine lv_idiv hx hb dX7_round_80 (by decide) ?_
        refine lv_as (y := nI (q / 128)) (pk_div (a := q) (d := 128) (by omega) (by decide) (by decide)) ?_
        refine lv_sipush (v := 1000) hx hb dX7_round_81 (by decide) ?_
        refine lv_irem hx hb dX7_round_84 (by decide) ?_
        refine lv_as (y := nI ((q / 128) % 1000)) (pk_rem (a := q / 128) (d := 1000) (by omega) (by decide) (by decide)) ?_
        refine gp_backi (gp_runV hX good7 i7 (c7_doPut l D cI h lv lk tr [.int (rf), .ref sc, .int (nI (ss)), .int (nI (ps.2)), .int (bI (ps.1 = true)), .int (rb), .int (rl), .ref nw, .ref tr, .ref lk, .ref di, .int (nI (ac9)), .ref kp, .ref ik, .ref lv] fl flk (rdU f B) B hO.1 rfl rfl 5000 (lookT B (rdU f B)).1 (lookT B (rdU f B)).2 (ok_look hO) (nI ((q / 8) % 16)) (nI ((q / 128) % 1000)) 5000 (recT B (nI (q / 8 % 16)) (nI (q / 128 % 1000)) (rdU f B)).1 (recT B (nI (q / 8 % 16)) (nI (q / 128 % 1000)) (rdU f B)).2 (ok_rec hO _ _)) q7_doPut rfl (m7 105 rfl) (m7 106 rfl) (m7 107 rfl) ⟨Nat.le_of_ble_eq_true rfl, Nat.le_of_ble_eq_true rfl⟩ hK [0] rfl hP hD [0, 3, 2, 1] (by decide) rfl (ci := 7) (q0 := 0) rfl rfl rfl hl.1 rfl (Nat.le_of_ble_eq_true rfl) dX7_round_85 ⟨Nat.zero_le _, Nat.zero_le _⟩) hP hD hS [0, 3, 2, 1] rfl (fun r u h => by obtain ⟨-, x10, x11, rfl⟩ := h; simp only [List.map_cons, List.map_nil]) (fun r9 u H locs hpost hP hD hS => ?_)
        obtain ⟨hr9, x10, x11, rfl⟩ := hpost
        refine lv_as hr9 ?_
        have hP : va_P D vwCl [(h, .inr (7, [.int (rf), .ref sc, .int (nI (ss)), .int (nI (ps.2)), .int (bI (ps.1 = true)), .int (rb), .int (rl), .ref nw, .ref tr, .ref lk, .ref di, .int (nI (ac9)), .ref kp, .ref ik, .ref lv])), (tr, .inl (cI, 151, .inl (if (rdU f B) 2 = 1 ∧ ¬ ((lookT B (rdU f B)).1) < 0 then ((recT B (nI (q / 8 % 16)) (nI (q / 128 % 1000)) (rdU f B)).2) else (rdU f B)))), (lk, .inl (cI, 151, .inl x11)), (lv, .inl (cI, 4, .inl x10))] H := hP
        have hD : va_D A [(h, .inr (7, [.int (rf), .ref sc, .int (nI (ss)), .int (nI (ps.2)), .int (bI (ps.1 = true)), .int (rb), .int (rl), .ref nw, .ref tr, .ref lk, .ref di, .int (nI (ac9)), .ref kp, .ref ik, .ref lv])), (tr, .inl (cI, 151, .inl (if (rdU f B) 2 = 1 ∧ ¬ ((lookT B (rdU f B)).1) < 0 then ((recT B (nI (q / 8 % 16)) (nI (q / 128 % 1000)) (rdU f B)).2) else (rdU f B)))), (lk, .inl (cI, 151, .inl x11)), (lv, .inl (cI, 4, .inl x10))] := hD
        refine lv_pop hx hb dX7_round_88 rfl ?_
        have hP : va_P D vwCl [(h, .inr (7, [.int (rf), .ref sc, .int (nI (ss)), .int (nI (ps.2)), .int (bI (ps.1 = true)), .int (rb), .int (rl), .ref nw, .ref tr, .ref lk, .ref di, .int (nI (ac9)), .ref kp, .ref ik, .ref lv])), (tr, .inl (cI, 151, .inl (rdR f B q))), (lk, .inl (cI, 151, .inl x11)), (lv, .inl (cI, 4, .inl x10))] H := by
          rw [show (rdR f B q : Nat → Int32) = if (rdU f B) 2 = 1 ∧ ¬ ((lookT B (rdU f B)).1) < 0 then ((recT B (nI (q / 8 % 16)) (nI (q / 128 % 1000)) (rdU f B)).2) else (rdU f B) from by rw [rdR, if_neg c28_8, if_neg c49_9]; rfl]
          exact hP
        exact gp_retv hX hr hlocks hS hP ⟨_, _, rfl⟩ dX7_round_89
      · skip
        have c49_9 := cn_eq (a := q % 8) (b := 1) (by omega) (by omega) c49_9
        refine lv_aload_n hx hb dX7_round_52 rfl (lv_at hl 1 rfl) ?_
        refine va_get (D := D) (ci := 7) (v := .ref tr) (C := RX7) (T := TX7) (N := 15) hx hb hts u7 hown hK hP 0 rfl rfl 8 (by decide) (hts _ (m7 6 rfl)) (fun _ h9 => h9) rfl dX7_round_53 ?_
        refine lv_iconst (v := 5) hx hb dX7_round_56 (by decide) ?_
        refine lv_iconst (v := 1) hx hb dX7_round_57 (by decide) ?_
        refine lv_iload_n hx hb dX7_round_58 rfl (lv_at hl 2 rfl) ?_
        refine lv_bipush (v := 8) hx hb dX7_round_59 (by decide) ?_
        refine lv_idiv hx hb dX7_round_61 (by decide) ?_
        refine lv_as (y := nI (q / 8)) (pk_div (a := q) (d := 8) (by omega) (by decide) (by decide)) ?_
        refine lv_bipush (v := 20) hx hb dX7_round_62 (by decide) ?_
        refine lv_irem hx hb dX7_round_64 (by decide) ?_
        refine lv_as (y := nI ((q / 8) % 20)) (pk_rem (a := q / 8) (d := 20) (by omega) (by decide) (by decide)) ?_
        refine lv_iadd hx hb dX7_round_65 ?_
        refine lv_as (y := nI (1 + (q / 8) % 20)) (nI_add (1) ((q / 8) % 20)) ?_
        refine ra_iast (i := 5) hx hb hK hP hD hS 1 0 rfl rfl (by omega) (by decide) dX7_round_66 (fun H locs hP hD hS => ?_)
        have hP : va_P D vwCl [(h, .inr (7, [.int (rf), .ref sc, .int (nI (ss)), .int (nI (ps.2)), .int (bI (ps.1 = true)), .int (rb), .int (rl), .ref nw, .ref tr, .ref lk, .ref di, .int (nI (ac9)), .ref kp, .ref ik, .ref lv])), (tr, .inl (cI, 151, .inl (upd (rdU f B) 5 (nI (1 + (q / 8) % 20))))), (lk, .inl (cI, 151, .inl flk)), (lv, .inl (cI, 4, .inl fl))] H := hP
        have hD : va_D A [(h, .inr (7, [.int (rf), .ref sc, .int (nI (ss)), .int (nI (ps.2)), .int (bI (ps.1 = true)), .int (rb), .int (rl), .ref nw, .ref tr, .ref lk, .ref di, .int (nI (ac9)), .ref kp, .ref ik, .ref lv])), (tr, .inl (cI, 151, .inl (upd (rdU f B) 5 (nI (1 + (q / 8) % 20))))), (lk, .inl (cI, 151, .inl flk)), (lv, .inl (cI, 4, .inl fl))] := hD
        refine lv_goto (tgt := 89) hx hb dX7_round_67 (by decide) ?_
        have hP : va_P D vwCl [(h, .inr (7, [.int (rf), .ref sc, .int (nI (ss)), .int (nI (ps.2)), .int (bI (ps.1 = true)), .int (rb), .int (rl), .ref nw, .ref tr, .ref lk, .ref di, .int (nI (ac9)), .ref kp, .ref ik, .ref lv])), (tr, .inl (cI, 151, .inl (rdR f B q))), (lk, .inl (cI, 151, .inl flk)), (lv, .inl (cI, 4, .inl fl))] H := by
          rw [show (rdR f B q : Nat → Int32) = upd (rdU f B) 5 (nI (1 + (q / 8) % 20)) from by rw [rdR, if_neg c28_8, if_pos c49_9]]
          exact hP
        exact gp_retv hX hr hlocks hS hP ⟨_, _, rfl⟩ dX7_round_89
    · skip
      have c28_8 := cn_eq (a := q % 8) (b := 0) (by omega) (by omega) c28_8
      refine lv_aload_n hx hb dX7_round_31 rfl (lv_at hl 1 rfl) ?_
      refine lv_aload_n hx hb dX7_round_32 rfl (lv_at hl 1 rfl) ?_
      refine va_get (D := D) (ci := 7) (v := .ref tr) (C := RX7) (T := TX7) (N := 15) hx hb hts u7 hown hK hP 0 rfl rfl 8 (by decide) (hts _ (m7 6 rfl)) (fun _ h9 => h9) rfl dX7_round_33 ?_
      refine lv_iload_n hx hb dX7_round_36 rfl (lv_at hl 0 rfl) ?_
      refine gp_backi (gp_runV hX good7 i7 (c7_doRemove l D cI h lv lk tr [.int (rf), .ref sc, .int (nI (ss)), .int (nI (ps.2)), .int (bI (ps.1 = true)), .int (rb), .int (rl), .ref nw, .ref tr, .ref lk, .ref di, .int (nI (ac9)), .ref kp, .ref ik, .ref lv] fl flk (rdU f B) B hO.1 rfl rfl 5000 (lookT B (rdU f B)).1 (lookT B (rdU f B)).2 (ok_look hO) (nI ((q / 8) % 16)) 5000 (recT B (nI (q / 8 % 16)) (-9) (rdU f B)).1 (recT B (nI (q / 8 % 16)) (-9) (rdU f B)).2 (ok_rec hO _ _)) q7_doRemove rfl (m7 140 rfl) (m7 141 rfl) (m7 142 rfl) ⟨Nat.le_of_ble_eq_true rfl, Nat.le_of_ble_eq_true rfl⟩ hK [0] rfl hP hD [0, 3, 2, 1] (by decide) rfl (ci := 7) (q0 := 0) rfl rfl rfl hl.1 rfl (Nat.le_of_ble_eq_true rfl) dX7_round_37 ⟨Nat.zero_le _, Nat.zero_le _⟩) hP hD hS [0, 3, 2, 1] rfl (fun r u h => by obtain ⟨-, x12, x13, rfl⟩ := h; simp only [List.map_cons, List.map_nil]) (fun r9 u H locs hpost hP hD hS => ?_)
      obtain ⟨hr9, x12, x13, rfl⟩ := hpost
      refine lv_as hr9 ?_
      have hP : va_P D vwCl [(h, .inr (7, [.int (rf), .ref sc, .int (nI (ss)), .int (nI (ps.2)), .int (bI (ps.1 = true)), .int (rb), .int (rl), .ref nw, .ref tr, .ref lk, .ref di, .int (nI (ac9)), .ref kp, .ref ik, .ref lv])), (tr, .inl (cI, 151, .inl (if vlu (rdU f B) (nI ((q / 8) % 16)) B ≠ -9 ∧ (rdU f B) 2 = 1 ∧ ¬ ((lookT B (rdU f B)).1) < 0 then ((recT B (nI (q / 8 % 16)) (-9) (rdU f B)).2) else (rdU f B)))), (lk, .inl (cI, 151, .inl x13)), (lv, .inl (cI, 4, .inl x12))] H := hP
      have hD : va_D A [(h, .inr (7, [.int (rf), .ref sc, .int (nI (ss)), .int (nI (ps.2)), .int (bI (ps.1 = true)), .int (rb), .int (rl), .ref nw, .ref tr, .ref lk, .ref di, .int (nI (ac9)), .ref kp, .ref ik, .ref lv])), (tr, .inl (cI, 151, .inl (if vlu (rdU f B) (nI ((q / 8) % 16)) B ≠ -9 ∧ (rdU f B) 2 = 1 ∧ ¬ ((lookT B (rdU f B)).1) < 0 then ((recT B (nI (q / 8 % 16)) (-9) (rdU f B)).2) else (rdU f B)))), (lk, .inl (cI, 151, .inl x13)), (lv, .inl (cI, 4, .inl x12))] := hD
      refine lv_pop hx hb dX7_round_40 rfl ?_
      refine lv_goto (tgt := 89) hx hb dX7_round_41 (by decide) ?_
      have hP : va_P D vwCl [(h, .inr (7, [.int (rf), .ref sc, .int (nI (ss)), .int (nI (ps.2)), .int (bI (ps.1 = true)), .int (rb), .int (rl), .ref nw, .ref tr, .ref lk, .ref di, .int (nI (ac9)), .ref kp, .ref ik, .ref lv])), (tr, .inl (cI, 151, .inl (rdR f B q))), (lk, .inl (cI, 151, .inl x13)), (lv, .inl (cI, 4, .inl x12))] H := by
        rw [show (rdR f B q : Nat → Int32) = if vlu (rdU f B) (nI ((q / 8) % 16)) B ≠ -9 ∧ (rdU f B) 2 = 1 ∧ ¬ ((lookT B (rdU f B)).1) < 0 then ((recT B (nI (q / 8 % 16)) (-9) (rdU f B)).2) else (rdU f B) from by rw [rdR, if_pos c28_8]; rfl]
        exact hP
      exact gp_retv hX hr hlocks hS hP ⟨_, _, rfl⟩ dX7_round_89
theorem dX7_simulate_0 : decode cX7_simulate 0 = .ok (.aload_n 0, 1) := by decide +kernel
theorem dX7_simulate_1 : decode cX7_simulate 1 = .ok (.iload_n 3, 1) := by decide +kernel
theorem dX7_simulate_2 : decode cX7_simulate 2 = .ok (.i2l, 1) := by decide +kernel
theorem dX7_simulate_3 : decode cX7_simulate 3 = .ok (.lconst 1, 1) := by decide +kernel
theorem dX7_simulate_4 : decode cX7_simulate 4 = .ok (.ldc2_w 240, 3) := by decide +kernel
theorem dX7_simulate_7 : decode cX7_simulate 7 = .ok (.invokestatic 147, 3) := by decide +kernel
theorem dX7_simulate_10 : decode cX7_simulate 10 = .ok (.ifCond .eq 7, 3) := by decide +kernel
theorem dX7_simulate_13 : decode cX7_simulate 13 = .ok (.iconst 0, 1) := by decide +kernel
theorem dX7_simulate_14 : decode cX7_simulate 14 = .ok (.goto 4, 3) := by decide +kernel
theorem dX7_simulate_17 : decode cX7_simulate 17 = .ok (.iconst 1, 1) := by decide +kernel
theorem dX7_simulate_18 : decode cX7_simulate 18 = .ok (.invokevirtual 154, 3) := by decide +kernel
theorem dX7_simulate_21 : decode cX7_simulate 21 = .ok (.ifCond .eq 5, 3) := by decide +kernel
theorem dX7_simulate_24 : decode cX7_simulate 24 = .ok (.iconst 0, 1) := by decide +kernel
theorem dX7_simulate_25 : decode cX7_simulate 25 = .ok (.ireturn, 1) := by decide +kernel
theorem dX7_simulate_26 : decode cX7_simulate 26 = .ok (.aload_n 0, 1) := by decide +kernel
theorem dX7_simulate_27 : decode cX7_simulate 27 = .ok (.invokevirtual 245, 3) := by decide +kernel
theorem dX7_simulate_30 : decode cX7_simulate 30 = .ok (.lload_n 1, 1) := by decide +kernel
theorem dX7_simulate_31 : decode cX7_simulate 31 = .ok (.lstore 4, 2) := by decide +kernel
theorem dX7_simulate_33 : decode cX7_simulate 33 = .ok (.iconst 0, 1) := by decide +kernel
theorem dX7_simulate_34 : decode cX7_simulate 34 = .ok (.istore 6, 2) := by decide +kernel
theorem dX7_simulate_36 : decode cX7_simulate 36 = .ok (.iload 6, 2) := by decide +kernel
theorem dX7_simulate_38 : decode cX7_simulate 38 = .ok (.iload_n 3, 1) := by decide +kernel
theorem dX7_simulate_39 : decode cX7_simulate 39 = .ok (.if_icmp .ge 31, 3) := by decide +kernel
theorem dX7_simulate_42 : decode cX7_simulate 42 = .ok (.lload 4, 2) := by decide +kernel
theorem dX7_simulate_44 : decode cX7_simulate 44 = .ok (.ldc2_w 257, 3) := by decide +kernel
theorem dX7_simulate_47 : decode cX7_simulate 47 = .ok (.lmul, 1) := by decide +kernel
theorem dX7_simulate_48 : decode cX7_simulate 48 = .ok (.ldc2_w 259, 3) := by decide +kernel
theorem dX7_simulate_51 : decode cX7_simulate 51 = .ok (.ladd, 1) := by decide +kernel
theorem dX7_simulate_52 : decode cX7_simulate 52 = .ok (.lstore 4, 2) := by decide +kernel
theorem dX7_simulate_54 : decode cX7_simulate 54 = .ok (.aload_n 0, 1) := by decide +kernel
theorem dX7_simulate_55 : decode cX7_simulate 55 = .ok (.lload 4, 2) := by decide +kernel
theorem dX7_simulate_57 : decode cX7_simulate 57 = .ok (.bipush 33, 2) := by decide +kernel
theorem dX7_simulate_59 : decode cX7_simulate 59 = .ok (.lushr, 1) := by decide +kernel
theorem dX7_simulate_60 : decode cX7_simulate 60 = .ok (.l2i, 1) := by decide +kernel
theorem dX7_simulate_61 : decode cX7_simulate 61 = .ok (.invokevirtual 261, 3) := by decide +kernel
theorem dX7_simulate_64 : decode cX7_simulate 64 = .ok (.iinc 6 1, 3) := by decide +kernel
theorem dX7_simulate_67 : decode cX7_simulate 67 = .ok (.goto (-31), 3) := by decide +kernel
theorem dX7_simulate_70 : decode cX7_simulate 70 = .ok (.sipush 1000, 3) := by decide +kernel
theorem dX7_simulate_73 : decode cX7_simulate 73 = .ok (.aload_n 0, 1) := by decide +kernel
theorem dX7_simulate_74 : decode cX7_simulate 74 = .ok (.getfield 16, 3) := by decide +kernel
theorem dX7_simulate_77 : decode cX7_simulate 77 = .ok (.bipush 7, 2) := by decide +kernel
theorem dX7_simulate_79 : decode cX7_simulate 79 = .ok (.iaload, 1) := by decide +kernel
theorem dX7_simulate_80 : decode cX7_simulate 80 = .ok (.aload_n 0, 1) := by decide +kernel
theorem dX7_simulate_81 : decode cX7_simulate 81 = .ok (.getfield 13, 3) := by decide +kernel
theorem dX7_simulate_84 : decode cX7_simulate 84 = .ok (.bipush 7, 2) := by decide +kernel
theorem dX7_simulate_86 : decode cX7_simulate 86 = .ok (.iaload, 1) := by decide +kernel
theorem dX7_simulate_87 : decode cX7_simulate 87 = .ok (.isub, 1) := by decide +kernel
theorem dX7_simulate_88 : decode cX7_simulate 88 = .ok (.imul, 1) := by decide +kernel
theorem dX7_simulate_89 : decode cX7_simulate 89 = .ok (.bipush 20, 2) := by decide +kernel
theorem dX7_simulate_91 : decode cX7_simulate 91 = .ok (.aload_n 0, 1) := by decide +kernel
theorem dX7_simulate_92 : decode cX7_simulate 92 = .ok (.getfield 16, 3) := by decide +kernel
theorem dX7_simulate_95 : decode cX7_simulate 95 = .ok (.bipush 11, 2) := by decide +kernel
theorem dX7_simulate_97 : decode cX7_simulate 97 = .ok (.iaload, 1) := by decide +kernel
theorem dX7_simulate_98 : decode cX7_simulate 98 = .ok (.aload_n 0, 1) := by decide +kernel
theorem dX7_simulate_99 : decode cX7_simulate 99 = .ok (.getfield 13, 3) := by decide +kernel
theorem dX7_simulate_102 : decode cX7_simulate 102 = .ok (.bipush 11, 2) := by decide +kernel
theorem dX7_simulate_104 : decode cX7_simulate 104 = .ok (.iaload, 1) := by decide +kernel
theorem dX7_simulate_105 : decode cX7_simulate 105 = .ok (.isub, 1) := by decide +kernel
theorem dX7_simulate_106 : decode cX7_simulate 106 = .ok (.imul, 1) := by decide +kernel
theorem dX7_simulate_107 : decode cX7_simulate 107 = .ok (.iadd, 1) := by decide +kernel
theorem dX7_simulate_108 : decode cX7_simulate 108 = .ok (.aload_n 0, 1) := by decide +kernel
theorem dX7_simulate_109 : decode cX7_simulate 109 = .ok (.getfield 16, 3) := by decide +kernel
theorem dX7_simulate_112 : decode cX7_simulate 112 = .ok (.invokestatic 212, 3) := by decide +kernel
theorem dX7_simulate_115 : decode cX7_simulate 115 = .ok (.iadd, 1) := by decide +kernel
theorem dX7_simulate_116 : decode cX7_simulate 116 = .ok (.ireturn, 1) := by decide +kernel
set_option maxHeartbeats 4000000 in
set_option maxRecDepth 100000 in
theorem c7_simulate (l : Launch) (D : va_G) (cI cZ : ClassId) (h sc nw tr lk di kp ik lv : Nat) (rf rb rl : Int32) (ac9 : Nat) (ss : Nat) (ps : Bool × Nat) (f : Nat → Int32) (B : Nat) (ft flk fl : Nat → Int32) (hW : Wf f B) (hB1 : 1 ≤ B) (seed : Int64) (m9 : Int32) (f9 : Nat → Int32) (n2 : Nat) (hW2 : 1 ≤ m9 ∧ m9 ≤ 99 → Wf f9 B) (hsm : 1 ≤ m9 ∧ m9 ≤ 99 → smL B m9.toNatClampNeg f9 n2 seed f 0) : GPi l yX7_simulate cX7_simulate 7 .int W7 15 336 D [(h, .inr (7, [.int (rf), .ref sc, .int (nI (ss)), .int (nI (ps.2)), .int (bI (ps.1 = true)), .int (rb), .int (rl), .ref nw, .ref tr, .ref lk, .ref di, .int (nI (ac9)), .ref kp, .ref ik, .ref lv])), (nw, .inl (cI, 151, .inl f)), (tr, .inl (cI, 151, .inl ft)), (lk, .inl (cI, 151, .inl flk)), (lv, .inl (cI, 4, .inl fl))] [(cI, .int)] [.ref h, .long (seed), .int (m9)] (fun (r9 : Int32) (u9 : va_W) => r9 = (if rg1R m9 99 = 0 then 1000 * (f9 7 - f 7) + 20 * (f9 11 - f 11) + nI (kys f9 B 16) else 0) ∧ ∃ tr9 : Nat → Int32, ∃ fl9 : Nat → Int32, ∃ lk9 : Nat → Int32, u9 = [(h, .inr (7, [.int (rg1R m9 99), .ref sc, .int (nI (ss)), .int (nI (ps.2)), .int (bI (ps.1 = true)), .int (rb), .int (rl), .ref nw, .ref tr, .ref lk, .ref di, .int (nI (ac9)), .ref kp, .ref ik, .ref lv])), (nw, .inl (cI, 151, .inl f)), (tr, .inl (cI, 151, .inl tr9)), (lk, .inl (cI, 151, .inl lk9)), (lv, .inl (cI, 4, .inl fl9))]) := by
  refine gp_of RX7 (by decide) rfl (Nat.le_of_ble_eq_true rfl) ?_
  intro p e s m below meth c ls H hX hr hlocks hK hP hD hS hl
  generalize gp_A [(h, .inr (7, [.int (rf), .ref sc, .int (nI (ss)), .int (nI (ps.2)), .int (bI (ps.1 = true)), .int (rb), .int (rl), .ref nw, .ref tr, .ref lk, .ref di, .int (nI (ac9)), .ref kp, .ref ik, .ref lv])), (nw, .inl (cI, 151, .inl f)), (tr, .inl (cI, 151, .inl ft)), (lk, .inl (cI, 151, .inl flk)), (lv, .inl (cI, 4, .inl fl))] = A at hD hS ⊢
  have hx := hX.1
  have hb := hX.2.1
  have hown := hX.2.2.2.1
  have hts := hX.2.2.2.2
  have hl : lv_has ls 7 [(0, .ref h), (1, .long (seed)), (3, .int (m9))] := hl
  have hB8 := hW.2.1
  refine lv_aload_n hx hb dX7_simulate_0 rfl (lv_at hl 0 rfl) ?_
  refine lv_iload_n hx hb dX7_simulate_1 rfl (lv_at hl 2 rfl) ?_
  refine lv_i2l (v := (m9 : Int32).toInt64) hx hb dX7_simulate_2 (rfl) ?_
  refine lv_lconst (v := 1) hx hb dX7_simulate_3 (by decide) ?_
  refine lv_asl (show (1 : Int64) = (1 : Int32).toInt64 from by decide) ?_
  refine lv_ldc2 (v := 99) hx hb hown (hts _ (m7 195 rfl)) dX7_simulate_4 ?_
  refine lv_asl (show (99 : Int64) = (99 : Int32).toInt64 from by decide) ?_
  refine rp_callS hX good7 i7 (c7_inI l D m9 1 99) q7_in rfl (m7 114 rfl) (m7 115 rfl) ⟨Nat.le_of_ble_eq_true rfl, Nat.le_of_ble_eq_true rfl⟩ hK [] rfl hP [] rfl hS hl.1 rfl (Nat.le_of_ble_eq_true rfl) dX7_simulate_7 ⟨Nat.zero_le _, Nat.zero_le _⟩ (fun H locs hP hS => ?_)
  refine lv_if_eq (tgt := 17) hx hb dX7_simulate_10 (by decide) (fun c10_1 => ?_) (fun c10_1 => ?_)
  · skip
    have c10_1 := bI_f c10_1
    refine lv_iconst (v := 1) hx hb dX7_simulate_17 (by decide) ?_
    refine gp_backi (gp_runV hX good7 i7 (c7_refused l D h rf 1 [.ref sc, .int (nI (ss)), .int (nI (ps.2)), .int (bI (ps.1 = true)), .int (rb), .int (rl), .ref nw, .ref tr, .ref lk, .ref di, .int (nI (ac9)), .ref kp, .ref ik, .ref lv]) q7_refused rfl (m7 117 rfl) (m7 118 rfl) (m7 119 rfl) ⟨Nat.le_of_ble_eq_true rfl, Nat.le_of_ble_eq_true rfl⟩ hK [] rfl hP hD [0] (by decide) rfl (ci := 7) (q0 := 0) rfl rfl rfl hl.1 rfl (Nat.le_of_ble_eq_true rfl) dX7_simulate_18 ⟨Nat.zero_le _, Nat.zero_le _⟩) hP hD hS [0] rfl (fun r u h => by rw [h.2]; simp only [List.map_cons, List.map_nil]) (fun r9 u H locs hpost hP hD hS => ?_)
    obtain ⟨hr9, rfl⟩ := hpost
    refine lv_as hr9 ?_
    have hP : va_P D vwCl [(h, .inr (7, [.int (1), .ref sc, .int (nI (ss)), .int (nI (ps.2)), .int (bI (ps.1 = true)), .int (rb), .int (rl), .ref nw, .ref tr, .ref lk, .ref di, .int (nI (ac9)), .ref kp, .ref ik, .ref lv])), (nw, .inl (cI, 151, .inl f)), (tr, .inl (cI, 151, .inl ft)), (lk, .inl (cI, 151, .inl flk)), (lv, .inl (cI, 4, .inl fl))] H := hP
    have hD : va_D A [(h, .inr (7, [.int (1), .ref sc, .int (nI (ss)), .int (nI (ps.2)), .int (bI (ps.1 = true)), .int (rb), .int (rl), .ref nw, .ref tr, .ref lk, .ref di, .int (nI (ac9)), .ref kp, .ref ik, .ref lv])), (nw, .inl (cI, 151, .inl f)), (tr, .inl (cI, 151, .inl ft)), (lk, .inl (cI, 151, .inl flk)), (lv, .inl (cI, 4, .inl fl))] := hD
    refine lv_as (show bI (0 < (1 : Int32)) = 1 from by decide) ?_
    refine lv_if_eq (tgt := 26) hx hb dX7_simulate_21 (by decide) (fun c21_2 => ?_) (fun c21_2 => ?_)
    · skip
      exact absurd c21_2 (by decide)
    · skip
      refine lv_iconst (v := 0) hx hb dX7_simulate_24 (by decide) ?_
      have hR9 : rg1R m9 99 = 1 := by rw [rg1R, if_neg c10_1]
      have hP : va_P D vwCl [(h, .inr (7, [.int (rg1R m9 99), .ref sc, .int (nI (ss)), .int (nI (ps.2)), .int (bI (ps.1 = true)), .int (rb), .int (rl), .ref nw, .ref tr, .ref lk, .ref di, .int (nI (ac9)), .ref kp, .ref ik, .ref lv])), (nw, .inl (cI, 151, .inl f)), (tr, .inl (cI, 151, .inl ft)), (lk, .inl (cI, 151, .inl flk)), (lv, .inl (cI, 4, .inl fl))] H := by
        rw [show (rg1R m9 99 : Int32) = 1 from hR9]
        exact hP
      exact gp_reti hX hr hlocks hS hP ⟨oRn hR9 (by decide), _, _, _, rfl⟩ dX7_simulate_25
  · skip
    have c10_1 := bI_t c10_1
    refine lv_iconst (v := 0) hx hb dX7_simulate_13 (by decide) ?_
    refine lv_goto (tgt := 18) hx hb dX7_simulate_14 (by decide) ?_
    refine gp_backi (gp_runV hX good7 i7 (c7_refused l D h rf 0 [.ref sc, .int (nI (ss)), .int (nI (ps.2)), .int (bI (ps.1 = true)), .int (rb), .int (rl), .ref nw, .ref tr, .ref lk, .ref di, .int (nI (ac9)), .ref kp, .ref ik, .ref lv]) q7_refused rfl (m7 117 rfl) (m7 118 rfl) (m7 119 rfl) ⟨Nat.le_of_ble_eq_true rfl, Nat.le_of_ble_eq_true rfl⟩ hK [] rfl hP hD [0] (by decide) rfl (ci := 7) (q0 := 0) rfl rfl rfl hl.1 rfl (Nat.le_of_ble_eq_true rfl) dX7_simulate_18 ⟨Nat.zero_le _, Nat.zero_le _⟩) hP hD hS [0] rfl (fun r u h => by rw [h.2]; simp only [List.map_cons, List.map_nil]) (fun r9 u H locs hpost hP hD hS => ?_)
    obtain ⟨hr9, rfl⟩ := hpost
    refine lv_as hr9 ?_
    have hP : va_P D vwCl [(h, .inr (7, [.int (0), .ref sc, .int (nI (ss)), .int (nI (ps.2)), .int (bI (ps.1 = true)), .int (rb), .int (rl), .ref nw, .ref tr, .ref lk, .ref di, .int (nI (ac9)), .ref kp, .ref ik, .ref lv])), (nw, .inl (cI, 151, .inl f)), (tr, .inl (cI, 151, .inl ft)), (lk, .inl (cI, 151, .inl flk)), (lv, .inl (cI, 4, .inl fl))] H := hP
    have hD : va_D A [(h, .inr (7, [.int (0), .ref sc, .int (nI (ss)), .int (nI (ps.2)), .int (bI (ps.1 = true)), .int (rb), .int (rl), .ref nw, .ref tr, .ref lk, .ref di, .int (nI (ac9)), .ref kp, .ref ik, .ref lv])), (nw, .inl (cI, 151, .inl f)), (tr, .inl (cI, 151, .inl ft)), (lk, .inl (cI, 151, .inl flk)), (lv, .inl (cI, 4, .inl fl))] := hD
    refine lv_as (show bI (0 < (0 : Int32)) = 0 from by decide) ?_
    refine lv_if_eq (tgt := 26) hx hb dX7_simulate_21 (by decide) (fun c21_3 => ?_) (fun c21_3 => ?_)
    · skip
      refine lv_aload_n hx hb dX7_simulate_26 rfl (lv_at hl 0 rfl) ?_
      refine gp_backv (gp_runV hX good7 i7 (c7_begin l D cI h tr nw [.int (0), .ref sc, .int (nI (ss)), .int (nI (ps.2)), .int (bI (ps.1 = true)), .int (rb), .int (rl), .ref nw, .ref tr, .ref lk, .ref di, .int (nI (ac9)), .ref kp, .ref ik, .ref lv] ft f rfl rfl) q7_begin rfl (m7 200 rfl) (m7 201 rfl) (m7 202 rfl) ⟨Nat.le_of_ble_eq_true rfl, Nat.le_of_ble_eq_true rfl⟩ hK [0] rfl hP hD [0, 2, 1] (by decide) rfl (ci := 7) (q0 := 0) rfl rfl rfl hl.1 rfl (Nat.le_of_ble_eq_true rfl) dX7_simulate_27 ⟨Nat.zero_le _, Nat.zero_le _⟩) hP hD hS [0, 2, 1] rfl (fun u h => by rw [h]; simp only [List.map_cons, List.map_nil]) (fun u H locs hpost hP hD hS => ?_)
      subst hpost
      have hP : va_P D vwCl [(h, .inr (7, [.int (0), .ref sc, .int (nI (ss)), .int (nI (ps.2)), .int (bI (ps.1 = true)), .int (rb), .int (rl), .ref nw, .ref tr, .ref lk, .ref di, .int (nI (ac9)), .ref kp, .ref ik, .ref lv])), (nw, .inl (cI, 151, .inl f)), (tr, .inl (cI, 151, .inl f)), (lk, .inl (cI, 151, .inl flk)), (lv, .inl (cI, 4, .inl fl))] H := hP
      have hD : va_D A [(h, .inr (7, [.int (0), .ref sc, .int (nI (ss)), .int (nI (ps.2)), .int (bI (ps.1 = true)), .int (rb), .int (rl), .ref nw, .ref tr, .ref lk, .ref di, .int (nI (ac9)), .ref kp, .ref ik, .ref lv])), (nw, .inl (cI, 151, .inl f)), (tr, .inl (cI, 151, .inl f)), (lk, .inl (cI, 151, .inl flk)), (lv, .inl (cI, 4, .inl fl))] := hD
      obtain ⟨en, hn1, hn4⟩ := num_of (k := 99) (by decide) c10_1
      have hsmk := hsm c10_1
      have hl : lv_has ls 7 [(0, .ref h), (1, .long (seed)), (3, .int (nI (m9.toNatClampNeg)))] := lv_re hl 2 rfl en
      refine lv_lload_n hx hb dX7_simulate_30 rfl (lv_at hl 1 rfl) ?_
      refine lv_lstore (lv' := [(4, .long (seed)), (0, .ref h), (1, .long (seed)), (3, .int (nI (m9.toNatClampNeg)))]) hx hb dX7_simulate_31 hl (by decide) rfl (fun ls hl => ?_)
      refine lv_iconst (v := 0) hx hb dX7_simulate_33 (by decide) ?_
      refine lv_istore (lv' := [(6, .int (0)), (4, .long (seed)), (0, .ref h), (1, .long (seed)), (3, .int (nI (m9.toNatClampNeg)))]) hx hb dX7_simulate_34 hl (by decide) rfl (fun ls hl => ?_)
      have LP36 : ∀ n9 : Nat, ∀ (mk : Nat) (x : Int64) (g : Nat → Int32) (j : Nat) (kx : Nat → Int32) (lx : Nat → Int32), (hj : j ≤ m9.toNatClampNeg) → (hl8 : smL B m9.toNatClampNeg f9 mk x g j) → mk < n9 → ∀ (H : Heap) (locs : List Loc), va_P D vwCl [(h, .inr (7, [.int (0), .ref sc, .int (nI (ss)), .int (nI (ps.2)), .int (bI (ps.1 = true)), .int (rb), .int (rl), .ref nw, .ref tr, .ref lk, .ref di, .int (nI (ac9)), .ref kp, .ref ik, .ref lv])), (nw, .inl (cI, 151, .inl f)), (tr, .inl (cI, 151, .inl g)), (lk, .inl (cI, 151, .inl kx)), (lv, .inl (cI, 4, .inl lx))] H → va_D A [(h, .inr (7, [.int (0), .ref sc, .int (nI (ss)), .int (nI (ps.2)), .int (bI (ps.1 = true)), .int (rb), .int (rl), .ref nw, .ref tr, .ref lk, .ref di, .int (nI (ac9)), .ref kp, .ref ik, .ref lv])), (nw, .inl (cI, 151, .inl f)), (tr, .inl (cI, 151, .inl g)), (lk, .inl (cI, 151, .inl kx)), (lv, .inl (cI, 4, .inl lx))] → va_S A s.heap H locs → ∀ ls : Array Slot, lv_has ls 7 [(0, .ref h), (3, .int (nI (m9.toNatClampNeg))), (4, .long (x)), (6, .int (nI (j)))] → W p l e ({ frames := 15, cells := 0, slots := 0, locals := 336 } : Room) s m ([.ref h, .long (seed), .int (m9)] : List Value).toArray below meth c H locs 0 0 (MQ below (va_Qi (fun (r9 : Int32) (u9 : va_W) => r9 = (if rg1R m9 99 = 0 then 1000 * (f9 7 - f 7) + 20 * (f9 11 - f 11) + nI (kys f9 B 16) else 0) ∧ ∃ tr9 : Nat → Int32, ∃ fl9 : Nat → Int32, ∃ lk9 : Nat → Int32, u9 = [(h, .inr (7, [.int (rg1R m9 99), .ref sc, .int (nI (ss)), .int (nI (ps.2)), .int (bI (ps.1 = true)), .int (rb), .int (rl), .ref nw, .ref tr, .ref lk, .ref di, .int (nI (ac9)), .ref kp, .ref ik, .ref lv])), (nw, .inl (cI, 151, .inl f)), (tr, .inl (cI, 151, .inl tr9)), (lk, .inl (cI, 151, .inl lk9)), (lv, .inl (cI, 4, .inl fl9))]) (fun u t => va_P D vwCl u t.heap) A) ([.ref h, .long (seed), .int (m9)] : List Value).toArray s 0 0 A) (F0 m 36 ls []) := by
        intro n9
        induction n9 with
        | zero => intros; omega
        | succ n9 ih36 =>
          intro mk x g j kx lx hj hl8 hm9 H locs hP hD hS ls hl
          obtain ⟨mm, rfl⟩ : ∃ mm, mk = mm + 1 := by cases mk with | zero => cases hl8 | succ n => exact ⟨n, rfl⟩
          rw [smL] at hl8
          refine lv_iload hx hb dX7_simulate_36 (lv_at hl 3 rfl) ?_
          refine lv_iload_n hx hb dX7_simulate_38 rfl (lv_at hl 1 rfl) ?_
          refine lv_icmp_ge (tgt := 70) hx hb dX7_simulate_39 (by decide) (fun c39_4 => ?_) (fun c39_4 => ?_)
          · skip
            have c39_4 := cn_le (a := m9.toNatClampNeg) (b := j) (by omega) (by omega) c39_4
            rw [if_neg (by omega)] at hl8
            have hW9 : Wf g B := by rw [hl8]; exact hW2 c10_1
            refine lv_sipush (v := 1000) hx hb dX7_simulate_70 (by decide) ?_
            refine lv_aload_n hx hb dX7_simulate_73 rfl (lv_at hl 0 rfl) ?_
            refine va_get (D := D) (ci := 7) (v := .ref tr) (C := RX7) (T := TX7) (N := 15) hx hb hts u7 hown hK hP 0 rfl rfl 8 (by decide) (hts _ (m7 6 rfl)) (fun _ h9 => h9) rfl dX7_simulate_74 ?_
            refine lv_bipush (v := 7) hx hb dX7_simulate_77 (by decide) ?_
            refine ra_iald (i := 7) hx hb hK hP 2 0 rfl rfl (by omega) (by decide) dX7_simulate_79 ?_
            refine lv_aload_n hx hb dX7_simulate_80 rfl (lv_at hl 0 rfl) ?_
            refine va_get (D := D) (ci := 7) (v := .ref nw) (C := RX7) (T := TX7) (N := 15) hx hb hts u7 hown hK hP 0 rfl rfl 7 (by decide) (hts _ (m7 5 rfl)) (fun _ h9 => h9) rfl dX7_simulate_81 ?_
            refine lv_bipush (v := 7) hx hb dX7_simulate_84 (by decide) ?_
            refine ra_iald (i := 7) hx hb hK hP 1 0 rfl rfl (by omega) (by decide) dX7_simulate_86 ?_
            refine lv_isub hx hb dX7_simulate_87 ?_
            refine lv_imul hx hb dX7_simulate_88 ?_
            refine lv_bipush (v := 20) hx hb dX7_simulate_89 (by decide) ?_
            refine lv_aload_n hx hb dX7_simulate_91 rfl (lv_at hl 0 rfl) ?_
            refine va_get (D := D) (ci := 7) (v := .ref tr) (C := RX7) (T := TX7) (N := 15) hx hb hts u7 hown hK hP 0 rfl rfl 8 (by decide) (hts _ (m7 6 rfl)) (fun _ h9 => h9) rfl dX7_simulate_92 ?_
            refine lv_bipush (v := 11) hx hb dX7_simulate_95 (by decide) ?_
            refine ra_iald (i := 11) hx hb hK hP 2 0 rfl rfl (by omega) (by decide) dX7_simulate_97 ?_
            refine lv_aload_n hx hb dX7_simulate_98 rfl (lv_at hl 0 rfl) ?_
            refine va_get (D := D) (ci := 7) (v := .ref nw) (C := RX7) (T := TX7) (N := 15) hx hb hts u7 hown hK hP 0 rfl rfl 7 (by decide) (hts _ (m7 5 rfl)) (fun _ h9 => h9) rfl dX7_simulate_99 ?_
            refine lv_bipush (v := 11) hx hb dX7_simulate_102 (by decide) ?_
            refine ra_iald (i := 11) hx hb hK hP 1 0 rfl rfl (by omega) (by decide) dX7_simulate_104 ?_
            refine lv_isub hx hb dX7_simulate_105 ?_
            refine lv_imul hx hb dX7_simulate_106 ?_
            refine lv_iadd hx hb dX7_simulate_107 ?_
            refine lv_aload_n hx hb dX7_simulate_108 rfl (lv_at hl 0 rfl) ?_
            refine va_get (D := D) (ci := 7) (v := .ref tr) (C := RX7) (T := TX7) (N := 15) hx hb hts u7 hown hK hP 0 rfl rfl 8 (by decide) (hts _ (m7 6 rfl)) (fun _ h9 => h9) rfl dX7_simulate_109 ?_
            refine rp_callS hX good7 i7 (c7_keysOf l D cI tr g B hW9.1 hW9.2.1) q7_keysOf rfl (m7 169 rfl) (m7 170 rfl) ⟨Nat.le_of_ble_eq_true rfl, Nat.le_of_ble_eq_true rfl⟩ hK [0] rfl hP [2] rfl hS hl.1 rfl (Nat.le_of_ble_eq_true rfl) dX7_simulate_112 ⟨Nat.zero_le _, Nat.zero_le _⟩ (fun H locs hP hS => ?_)
            refine lv_iadd hx hb dX7_simulate_115 ?_
            have hR9 : rg1R m9 99 = 0 := by rw [rg1R, if_pos c10_1]
            have hP : va_P D vwCl [(h, .inr (7, [.int (rg1R m9 99), .ref sc, .int (nI (ss)), .int (nI (ps.2)), .int (bI (ps.1 = true)), .int (rb), .int (rl), .ref nw, .ref tr, .ref lk, .ref di, .int (nI (ac9)), .ref kp, .ref ik, .ref lv])), (nw, .inl (cI, 151, .inl f)), (tr, .inl (cI, 151, .inl g)), (lk, .inl (cI, 151, .inl kx)), (lv, .inl (cI, 4, .inl lx))] H := by
              rw [show (rg1R m9 99 : Int32) = 0 from hR9]
              exact hP
            exact gp_reti hX hr hlocks hS hP ⟨(show ((1000 * ((g (7)) - (f (7)))) + (20 * ((g (11)) - (f (11))))) + (nI (kys g B 16)) = 1000 * (f9 7 - f 7) + 20 * (f9 11 - f 11) + nI (kys f9 B 16) from by rw [hl8]).trans (oR0 hR9), _, _, _, rfl⟩ dX7_simulate_116
          · skip
            have c39_4 := cn_nle (a := m9.toNatClampNeg) (b := j) (by omega) (by omega) c39_4
            rw [if_pos c39_4] at hl8
            obtain ⟨hWg, hO8, hl8⟩ := hl8
            have hrn := rnd_lt (nxL x)
            refine lv_lload hx hb dX7_simulate_42 (lv_at hl 2 rfl) ?_
            refine lv_ldc2 (v := 6364136223846793005) hx hb hown (hts _ (m7 212 rfl)) dX7_simulate_44 ?_
            refine lv_lmul hx hb dX7_simulate_47 ?_
            refine lv_ldc2 (v := 1442695040888963407) hx hb hown (hts _ (m7 213 rfl)) dX7_simulate_48 ?_
            refine lv_ladd hx hb dX7_simulate_51 ?_
            refine lv_asl (y := nxL x) (rfl) ?_
            refine lv_lstore (lv' := [(4, .long (nxL x)), (0, .ref h), (3, .int (nI (m9.toNatClampNeg))), (6, .int (nI (j)))]) hx hb dX7_simulate_52 hl (by decide) rfl (fun ls hl => ?_)
            refine lv_aload_n hx hb dX7_simulate_54 rfl (lv_at hl 1 rfl) ?_
            refine lv_lload hx hb dX7_simulate_55 (lv_at hl 0 rfl) ?_
            refine lv_bipush (v := 33) hx hb dX7_simulate_57 (by decide) ?_
            refine lv_lushr (v := lN (rnd (nxL x))) hx hb dX7_simulate_59 (lush _) ?_
            refine lv_l2i (v := nI (rnd (nxL x))) hx hb dX7_simulate_60 (lN_i _) ?_
            refine gp_backv (gp_runV hX good7 i7 (c7_round l D cI cZ h sc nw tr lk di kp ik lv 0 rb rl ac9 ss ps g kx lx B hWg hO8 (rnd (nxL x)) (by omega)) q7_round rfl (m7 214 rfl) (m7 215 rfl) (m7 216 rfl) ⟨Nat.le_of_ble_eq_true rfl, Nat.le_of_ble_eq_true rfl⟩ hK [0] rfl hP hD [0, 2, 3, 4] (by decide) rfl (ci := 7) (q0 := 0) rfl rfl rfl hl.1 rfl (Nat.le_of_ble_eq_true rfl) dX7_simulate_61 ⟨Nat.zero_le _, Nat.zero_le _⟩) hP hD hS [0, 2, 3, 4] rfl (fun u h => by obtain ⟨x5, x6, rfl⟩ := h; simp only [List.map_cons, List.map_nil]) (fun u H locs hpost hP hD hS => ?_)
            obtain ⟨x5, x6, rfl⟩ := hpost
            have hP : va_P D vwCl [(h, .inr (7, [.int (0), .ref sc, .int (nI (ss)), .int (nI (ps.2)), .int (bI (ps.1 = true)), .int (rb), .int (rl), .ref nw, .ref tr, .ref lk, .ref di, .int (nI (ac9)), .ref kp, .ref ik, .ref lv])), (nw, .inl (cI, 151, .inl f)), (tr, .inl (cI, 151, .inl (rdR g B (rnd (nxL x))))), (lk, .inl (cI, 151, .inl x6)), (lv, .inl (cI, 4, .inl x5))] H := hP
            have hD : va_D A [(h, .inr (7, [.int (0), .ref sc, .int (nI (ss)), .int (nI (ps.2)), .int (bI (ps.1 = true)), .int (rb), .int (rl), .ref nw, .ref tr, .ref lk, .ref di, .int (nI (ac9)), .ref kp, .ref ik, .ref lv])), (nw, .inl (cI, 151, .inl f)), (tr, .inl (cI, 151, .inl (rdR g B (rnd (nxL x))))), (lk, .inl (cI, 151, .inl x6)), (lv, .inl (cI, 4, .inl x5))] := hD
            refine lv_iinc (v := nI (j + 1)) (lv' := [(6, .int (nI (j + 1))), (4, .long (nxL x)), (0, .ref h), (3, .int (nI (m9.toNatClampNeg)))]) hx hb dX7_simulate_64 hl (k := 3) rfl (nI_add _ 1) (by decide) rfl (fun ls hl => ?_)
            refine lv_goto (tgt := 36) hx hb dX7_simulate_67 (by decide) ?_
            have hl : lv_has ls 7 [(6, .int (nI (j + 1))), (4, .long ((nxL x))), (0, .ref h), (3, .int (nI (m9.toNatClampNeg)))] := hl
            have hl : lv_has ls 7 [(6, .int (nI ((j + 1)))), (4, .long ((nxL x))), (0, .ref h), (3, .int (nI (m9.toNatClampNeg)))] := lv_re hl 0 rfl (show nI (j + 1) = nI ((j + 1)) from rfl)
            exact ih36 mm (nxL x) (rdR g B (rnd (nxL x))) (j + 1) x6 x5 (by omega) (hl8) (by omega) _ _ hP hD hS _ (lv_sub hl [2, 3, 1, 0] rfl)
      have hl : lv_has ls 7 [(6, .int (nI (0))), (4, .long (seed)), (0, .ref h), (1, .long (seed)), (3, .int (nI (m9.toNatClampNeg)))] := lv_re hl 0 rfl (show 0 = nI (0) from rfl)
      exact LP36 (n2 + 1) n2 seed f 0 flk fl (by omega) (hsmk) (by omega) _ _ hP hD hS _ (lv_sub hl [2, 4, 1, 0] rfl)
    · skip
      exact absurd c21_3 (by decide)
