theorem dX6_simulate_0 : decode cX6_simulate 0 = .ok (.iload_n 3, 1) := by decide +kernel
theorem dX6_simulate_1 : decode cX6_simulate 1 = .ok (.iconst 1, 1) := by decide +kernel
theorem dX6_simulate_2 : decode cX6_simulate 2 = .ok (.if_icmp .lt 9, 3) := by decide +kernel
theorem dX6_simulate_5 : decode cX6_simulate 5 = .ok (.iload_n 3, 1) := by decide +kernel
theorem dX6_simulate_6 : decode cX6_simulate 6 = .ok (.bipush 99, 2) := by decide +kernel
theorem dX6_simulate_8 : decode cX6_simulate 8 = .ok (.if_icmp .le 13, 3) := by decide +kernel
theorem dX6_simulate_11 : decode cX6_simulate 11 = .ok (.new 43, 3) := by decide +kernel
theorem dX6_simulate_14 : decode cX6_simulate 14 = .ok (.dup, 1) := by decide +kernel
theorem dX6_simulate_15 : decode cX6_simulate 15 = .ok (.ldc 254, 2) := by decide +kernel
theorem dX6_simulate_17 : decode cX6_simulate 17 = .ok (.invokespecial 47, 3) := by decide +kernel
theorem dX6_simulate_20 : decode cX6_simulate 20 = .ok (.athrow, 1) := by decide +kernel
theorem dX6_simulate_21 : decode cX6_simulate 21 = .ok (.aload_n 0, 1) := by decide +kernel
theorem dX6_simulate_22 : decode cX6_simulate 22 = .ok (.getfield 37, 3) := by decide +kernel
theorem dX6_simulate_25 : decode cX6_simulate 25 = .ok (.aload_n 0, 1) := by decide +kernel
theorem dX6_simulate_26 : decode cX6_simulate 26 = .ok (.getfield 33, 3) := by decide +kernel
theorem dX6_simulate_29 : decode cX6_simulate 29 = .ok (.invokevirtual 236, 3) := by decide +kernel
theorem dX6_simulate_32 : decode cX6_simulate 32 = .ok (.lload_n 1, 1) := by decide +kernel
theorem dX6_simulate_33 : decode cX6_simulate 33 = .ok (.lstore 4, 2) := by decide +kernel
theorem dX6_simulate_35 : decode cX6_simulate 35 = .ok (.iconst 0, 1) := by decide +kernel
theorem dX6_simulate_36 : decode cX6_simulate 36 = .ok (.istore 6, 2) := by decide +kernel
theorem dX6_simulate_38 : decode cX6_simulate 38 = .ok (.iload 6, 2) := by decide +kernel
theorem dX6_simulate_40 : decode cX6_simulate 40 = .ok (.iload_n 3, 1) := by decide +kernel
theorem dX6_simulate_41 : decode cX6_simulate 41 = .ok (.if_icmp .ge 138, 3) := by decide +kernel
theorem dX6_simulate_44 : decode cX6_simulate 44 = .ok (.lload 4, 2) := by decide +kernel
theorem dX6_simulate_46 : decode cX6_simulate 46 = .ok (.ldc2_w 256, 3) := by decide +kernel
theorem dX6_simulate_49 : decode cX6_simulate 49 = .ok (.lmul, 1) := by decide +kernel
theorem dX6_simulate_50 : decode cX6_simulate 50 = .ok (.ldc2_w 258, 3) := by decide +kernel
theorem dX6_simulate_53 : decode cX6_simulate 53 = .ok (.ladd, 1) := by decide +kernel
theorem dX6_simulate_54 : decode cX6_simulate 54 = .ok (.lstore 4, 2) := by decide +kernel
theorem dX6_simulate_56 : decode cX6_simulate 56 = .ok (.lload 4, 2) := by decide +kernel
theorem dX6_simulate_58 : decode cX6_simulate 58 = .ok (.bipush 33, 2) := by decide +kernel
theorem dX6_simulate_60 : decode cX6_simulate 60 = .ok (.lushr, 1) := by decide +kernel
theorem dX6_simulate_61 : decode cX6_simulate 61 = .ok (.l2i, 1) := by decide +kernel
theorem dX6_simulate_62 : decode cX6_simulate 62 = .ok (.istore 7, 2) := by decide +kernel
theorem dX6_simulate_64 : decode cX6_simulate 64 = .ok (.aload_n 0, 1) := by decide +kernel
theorem dX6_simulate_65 : decode cX6_simulate 65 = .ok (.getfield 37, 3) := by decide +kernel
theorem dX6_simulate_68 : decode cX6_simulate 68 = .ok (.getfield 158, 3) := by decide +kernel
theorem dX6_simulate_71 : decode cX6_simulate 71 = .ok (.ifCond .ne 11, 3) := by decide +kernel
theorem dX6_simulate_74 : decode cX6_simulate 74 = .ok (.aload_n 0, 1) := by decide +kernel
theorem dX6_simulate_75 : decode cX6_simulate 75 = .ok (.getfield 37, 3) := by decide +kernel
theorem dX6_simulate_78 : decode cX6_simulate 78 = .ok (.invokevirtual 212, 3) := by decide +kernel
theorem dX6_simulate_81 : decode cX6_simulate 81 = .ok (.pop, 1) := by decide +kernel
theorem dX6_simulate_82 : decode cX6_simulate 82 = .ok (.iload 7, 2) := by decide +kernel
theorem dX6_simulate_84 : decode cX6_simulate 84 = .ok (.bipush 8, 2) := by decide +kernel
theorem dX6_simulate_86 : decode cX6_simulate 86 = .ok (.irem, 1) := by decide +kernel
theorem dX6_simulate_87 : decode cX6_simulate 87 = .ok (.ifCond .ne 25, 3) := by decide +kernel
theorem dX6_simulate_90 : decode cX6_simulate 90 = .ok (.aload_n 0, 1) := by decide +kernel
theorem dX6_simulate_91 : decode cX6_simulate 91 = .ok (.aload_n 0, 1) := by decide +kernel
theorem dX6_simulate_92 : decode cX6_simulate 92 = .ok (.getfield 37, 3) := by decide +kernel
theorem dX6_simulate_95 : decode cX6_simulate 95 = .ok (.iconst 2, 1) := by decide +kernel
theorem dX6_simulate_96 : decode cX6_simulate 96 = .ok (.iload 7, 2) := by decide +kernel
theorem dX6_simulate_98 : decode cX6_simulate 98 = .ok (.bipush 8, 2) := by decide +kernel
theorem dX6_simulate_100 : decode cX6_simulate 100 = .ok (.idiv, 1) := by decide +kernel
theorem dX6_simulate_101 : decode cX6_simulate 101 = .ok (.bipush 16, 2) := by decide +kernel
theorem dX6_simulate_103 : decode cX6_simulate 103 = .ok (.irem, 1) := by decide +kernel
theorem dX6_simulate_104 : decode cX6_simulate 104 = .ok (.iconst 0, 1) := by decide +kernel
theorem dX6_simulate_105 : decode cX6_simulate 105 = .ok (.invokevirtual 106, 3) := by decide +kernel
theorem dX6_simulate_108 : decode cX6_simulate 108 = .ok (.pop, 1) := by decide +kernel
theorem dX6_simulate_109 : decode cX6_simulate 109 = .ok (.goto 64, 3) := by decide +kernel
theorem dX6_simulate_112 : decode cX6_simulate 112 = .ok (.iload 7, 2) := by decide +kernel
theorem dX6_simulate_114 : decode cX6_simulate 114 = .ok (.bipush 8, 2) := by decide +kernel
theorem dX6_simulate_116 : decode cX6_simulate 116 = .ok (.irem, 1) := by decide +kernel
theorem dX6_simulate_117 : decode cX6_simulate 117 = .ok (.iconst 1, 1) := by decide +kernel
theorem dX6_simulate_118 : decode cX6_simulate 118 = .ok (.if_icmp .ne 27, 3) := by decide +kernel
theorem dX6_simulate_121 : decode cX6_simulate 121 = .ok (.aload_n 0, 1) := by decide +kernel
theorem dX6_simulate_122 : decode cX6_simulate 122 = .ok (.aload_n 0, 1) := by decide +kernel
theorem dX6_simulate_123 : decode cX6_simulate 123 = .ok (.getfield 37, 3) := by decide +kernel
theorem dX6_simulate_126 : decode cX6_simulate 126 = .ok (.iconst 4, 1) := by decide +kernel
theorem dX6_simulate_127 : decode cX6_simulate 127 = .ok (.iconst 0, 1) := by decide +kernel
theorem dX6_simulate_128 : decode cX6_simulate 128 = .ok (.iconst 1, 1) := by decide +kernel
theorem dX6_simulate_129 : decode cX6_simulate 129 = .ok (.iload 7, 2) := by decide +kernel
theorem dX6_simulate_131 : decode cX6_simulate 131 = .ok (.bipush 8, 2) := by decide +kernel
theorem dX6_simulate_133 : decode cX6_simulate 133 = .ok (.idiv, 1) := by decide +kernel
theorem dX6_simulate_134 : decode cX6_simulate 134 = .ok (.bipush 20, 2) := by decide +kernel
theorem dX6_simulate_136 : decode cX6_simulate 136 = .ok (.irem, 1) := by decide +kernel
theorem dX6_simulate_137 : decode cX6_simulate 137 = .ok (.iadd, 1) := by decide +kernel
theorem dX6_simulate_138 : decode cX6_simulate 138 = .ok (.invokevirtual 106, 3) := by decide +kernel
theorem dX6_simulate_141 : decode cX6_simulate 141 = .ok (.pop, 1) := by decide +kernel
theorem dX6_simulate_142 : decode cX6_simulate 142 = .ok (.goto 31, 3) := by decide +kernel
theorem dX6_simulate_145 : decode cX6_simulate 145 = .ok (.aload_n 0, 1) := by decide +kernel
theorem dX6_simulate_146 : decode cX6_simulate 146 = .ok (.aload_n 0, 1) := by decide +kernel
theorem dX6_simulate_147 : decode cX6_simulate 147 = .ok (.getfield 37, 3) := by decide +kernel
theorem dX6_simulate_150 : decode cX6_simulate 150 = .ok (.iconst 1, 1) := by decide +kernel
theorem dX6_simulate_151 : decode cX6_simulate 151 = .ok (.iload 7, 2) := by decide +kernel
theorem dX6_simulate_153 : decode cX6_simulate 153 = .ok (.bipush 8, 2) := by decide +kernel
theorem dX6_simulate_155 : decode cX6_simulate 155 = .ok (.idiv, 1) := by decide +kernel
theorem dX6_simulate_156 : decode cX6_simulate 156 = .ok (.bipush 16, 2) := by decide +kernel
theorem dX6_simulate_158 : decode cX6_simulate 158 = .ok (.irem, 1) := by decide +kernel
theorem dX6_simulate_159 : decode cX6_simulate 159 = .ok (.iload 7, 2) := by decide +kernel
theorem dX6_simulate_161 : decode cX6_simulate 161 = .ok (.sipush 128, 3) := by decide +kernel
theorem dX6_simulate_164 : decode cX6_simulate 164 = .ok (.idiv, 1) := by decide +kernel
theorem dX6_simulate_165 : decode cX6_simulate 165 = .ok (.sipush 1000, 3) := by decide +kernel
theorem dX6_simulate_168 : decode cX6_simulate 168 = .ok (.irem, 1) := by decide +kernel
theorem dX6_simulate_169 : decode cX6_simulate 169 = .ok (.invokevirtual 106, 3) := by decide +kernel
theorem dX6_simulate_172 : decode cX6_simulate 172 = .ok (.pop, 1) := by decide +kernel
theorem dX6_simulate_173 : decode cX6_simulate 173 = .ok (.iinc 6 1, 3) := by decide +kernel
theorem dX6_simulate_176 : decode cX6_simulate 176 = .ok (.goto (-138), 3) := by decide +kernel
theorem dX6_simulate_179 : decode cX6_simulate 179 = .ok (.aload_n 0, 1) := by decide +kernel
theorem dX6_simulate_180 : decode cX6_simulate 180 = .ok (.getfield 37, 3) := by decide +kernel
theorem dX6_simulate_183 : decode cX6_simulate 183 = .ok (.getfield 115, 3) := by decide +kernel
theorem dX6_simulate_186 : decode cX6_simulate 186 = .ok (.getfield 260, 3) := by decide +kernel
theorem dX6_simulate_189 : decode cX6_simulate 189 = .ok (.aload_n 0, 1) := by decide +kernel
theorem dX6_simulate_190 : decode cX6_simulate 190 = .ok (.getfield 33, 3) := by decide +kernel
theorem dX6_simulate_193 : decode cX6_simulate 193 = .ok (.getfield 115, 3) := by decide +kernel
theorem dX6_simulate_196 : decode cX6_simulate 196 = .ok (.getfield 260, 3) := by decide +kernel
theorem dX6_simulate_199 : decode cX6_simulate 199 = .ok (.isub, 1) := by decide +kernel
theorem dX6_simulate_200 : decode cX6_simulate 200 = .ok (.istore 6, 2) := by decide +kernel
theorem dX6_simulate_202 : decode cX6_simulate 202 = .ok (.aload_n 0, 1) := by decide +kernel
theorem dX6_simulate_203 : decode cX6_simulate 203 = .ok (.getfield 37, 3) := by decide +kernel
theorem dX6_simulate_206 : decode cX6_simulate 206 = .ok (.getfield 115, 3) := by decide +kernel
theorem dX6_simulate_209 : decode cX6_simulate 209 = .ok (.getfield 263, 3) := by decide +kernel
theorem dX6_simulate_212 : decode cX6_simulate 212 = .ok (.aload_n 0, 1) := by decide +kernel
theorem dX6_simulate_213 : decode cX6_simulate 213 = .ok (.getfield 33, 3) := by decide +kernel
theorem dX6_simulate_216 : decode cX6_simulate 216 = .ok (.getfield 115, 3) := by decide +kernel
theorem dX6_simulate_219 : decode cX6_simulate 219 = .ok (.getfield 263, 3) := by decide +kernel
theorem dX6_simulate_222 : decode cX6_simulate 222 = .ok (.isub, 1) := by decide +kernel
theorem dX6_simulate_223 : decode cX6_simulate 223 = .ok (.istore 7, 2) := by decide +kernel
theorem dX6_simulate_225 : decode cX6_simulate 225 = .ok (.sipush 1000, 3) := by decide +kernel
theorem dX6_simulate_228 : decode cX6_simulate 228 = .ok (.iload 6, 2) := by decide +kernel
theorem dX6_simulate_230 : decode cX6_simulate 230 = .ok (.imul, 1) := by decide +kernel
theorem dX6_simulate_231 : decode cX6_simulate 231 = .ok (.bipush 20, 2) := by decide +kernel
theorem dX6_simulate_233 : decode cX6_simulate 233 = .ok (.iload 7, 2) := by decide +kernel
theorem dX6_simulate_235 : decode cX6_simulate 235 = .ok (.imul, 1) := by decide +kernel
theorem dX6_simulate_236 : decode cX6_simulate 236 = .ok (.iadd, 1) := by decide +kernel
theorem dX6_simulate_237 : decode cX6_simulate 237 = .ok (.aload_n 0, 1) := by decide +kernel
theorem dX6_simulate_238 : decode cX6_simulate 238 = .ok (.getfield 37, 3) := by decide +kernel
theorem dX6_simulate_241 : decode cX6_simulate 241 = .ok (.getfield 122, 3) := by decide +kernel
theorem dX6_simulate_244 : decode cX6_simulate 244 = .ok (.invokevirtual 215, 3) := by decide +kernel
theorem dX6_simulate_247 : decode cX6_simulate 247 = .ok (.iadd, 1) := by decide +kernel
theorem dX6_simulate_248 : decode cX6_simulate 248 = .ok (.ireturn, 1) := by decide +kernel
set_option maxHeartbeats 4000000 in
set_option maxRecDepth 100000 in
theorem c6_simulate (l : Launch) (hst : l.stackTraces = false)  (D : va_G) (cI : ClassId) (ob so ho sl : Nat) (dg dc dt : Nat → Nat) (z : LgS) (hz : Inv z) (zc : LgS) (hBc : zc.1.2 ≤ 8) (zt : LgS) (hBt : zt.1.2 ≤ 8) (sd : Int64) (x : Int32) : GE l yX6_simulate cX6_simulate 8 6 169 D [[(ob, .inr (6, [.ref so, .ref ho, .ref sl, .ref (dg 0), .ref (dc 0), .ref (dt 0)]))], zL cI dg z, zL cI dc zc, zL cI dt zt] [(cI, .int)] [.ref ob, .long (sd), .int (x)] (fun (r9 : Int32) (u9 : List va_W) => (c6sim x) = 0 ∧ r9 = (1000 * ((smZ x.toNatClampNeg sd z).2.1 5 - z.2.1 5) + 20 * ((smZ x.toNatClampNeg sd z).2.1 9 - z.2.1 9) + nI (ckZ (smZ x.toNatClampNeg sd z) 16)) ∧ ∃ zc9 : LgS, ∃ zt9 : LgS, (zc9.1.2 ≤ 8) ∧ (zt9.1.2 ≤ 8) ∧ u9 = [[(ob, .inr (6, [.ref so, .ref ho, .ref sl, .ref (dg 0), .ref (dc 0), .ref (dt 0)]))], zL cI dg z, zL cI dc zc9, zL cI dt zt9]) (fun (e9 : String) (u9 : List va_W) => ((e9 = xIA ∧ (c6sim x) = 1)) ∧ ∃ zc9 : LgS, ∃ zt9 : LgS, (zc9.1.2 ≤ 8) ∧ (zt9.1.2 ≤ 8) ∧ u9 = [[(ob, .inr (6, [.ref so, .ref ho, .ref sl, .ref (dg 0), .ref (dc 0), .ref (dt 0)]))], zL cI dg z, zL cI dc zc9, zL cI dt zt9]) := by
  refine ge_of (by decide) rfl (Nat.le_of_ble_eq_true rfl) ?_
  intro p e s m below meth c ls H hX hEx hnt hr hlocks hK hN hE hSW hZ hP hD hS hl
  generalize gp_A (bw [[(ob, .inr (6, [.ref so, .ref ho, .ref sl, .ref (dg 0), .ref (dc 0), .ref (dt 0)]))], zL cI dg z, zL cI dc zc, zL cI dt zt]) = A at hZ hD hS ⊢
  have hx := hX.1
  have hb := hX.2.1
  have hown := hX.2.2.2.1
  have hts := hX.2.2.2.2
  have hl : lv_has ls 8 [(0, .ref ob), (1, .long (sd)), (3, .int (x))] := hl
  refine lv_iload_n hx hb dX6_simulate_0 rfl (lv_at hl 2 rfl) ?_
  refine lv_iconst (v := 1) hx hb dX6_simulate_1 (by decide) ?_
  refine lv_icmp_lt (tgt := 11) hx hb dX6_simulate_2 (by decide) (fun c2_1 => ?_) (fun c2_1 => ?_)
  · skip
    exact ge_tia hst hX hEx hnt hlocks hE hSW hZ hS hP (m6 272 rfl) (m6 273 rfl) (show (254, _) ∈ xT from List.mem_of_getElem? (i := 23) rfl) ⟨⟨rfl, by rw [c6sim, if_neg (fun y => y.1 c2_1)]⟩, _, _, hBc, hBt, rfl⟩ hl.1 dX6_simulate_11 dX6_simulate_14 dX6_simulate_15 dX6_simulate_17 dX6_simulate_20 (Nat.le_of_ble_eq_true rfl) (Nat.le_of_ble_eq_true rfl) (Nat.le_of_ble_eq_true rfl) (Nat.le_of_ble_eq_true rfl) (Nat.le_of_ble_eq_true rfl) (Nat.le_of_ble_eq_true rfl)
  · skip
    refine lv_iload_n hx hb dX6_simulate_5 rfl (lv_at hl 2 rfl) ?_
    refine lv_bipush (v := 99) hx hb dX6_simulate_6 (by decide) ?_
    refine lv_icmp_le (tgt := 21) hx hb dX6_simulate_8 (by decide) (fun c8_2 => ?_) (fun c8_2 => ?_)
    · skip
      have c8_2 := i_nlt c8_2
      obtain ⟨en3, hn1, hn9⟩ := n_one c2_1 c8_2
      have hl : lv_has ls 8 [(0, .ref ob), (1, .long (sd)), (3, .int (nI (x.toNatClampNeg)))] := lv_re hl 2 rfl en3
      refine lv_aload_n hx hb dX6_simulate_21 rfl (lv_at hl 0 rfl) ?_
      refine va_get (D := D) (ci := 6) (v := .ref (dc 0)) (C := RX6) (T := TX6) (N := 6) hx hb hts u6_X6 hown hK hP 0 rfl rfl 4 (by decide) (hts _ (m6 261 rfl)) (fun _ h9 => h9) rfl dX6_simulate_22 ?_
      refine lv_aload_n hx hb dX6_simulate_25 rfl (lv_at hl 0 rfl) ?_
      refine va_get (D := D) (ci := 6) (v := .ref (dg 0)) (C := RX6) (T := TX6) (N := 6) hx hb hts u6_X6 hown hK hP 0 rfl rfl 3 (by decide) (hts _ (m6 260 rfl)) (fun _ h9 => h9) rfl dX6_simulate_26 ?_
      refine bq_backv (bq_runV hX good6 (m6 83 rfl) (b2_copyFrom l D cI dc dg zc z hBc (inv_B hz)) q2_copyFrom rfl (m6 296 rfl) (m6 104 rfl) (m6 105 rfl) ⟨Nat.le_of_ble_eq_true rfl, Nat.le_of_ble_eq_true rfl⟩ hK hN [0] rfl hP hD [2, 1] (by decide) rfl (ci := 2) (q0 := 0) rfl rfl rfl hl.1 rfl (Nat.le_of_ble_eq_true rfl) dX6_simulate_29 ⟨Nat.zero_le _, Nat.zero_le _⟩) hP hD hS [2, 1] rfl (fun u h => by rw [h]; rfl) (fun u H locs hpost hP hD hS => ?_)
      subst hpost
      have hP : va_P D vwCl (bw [[(ob, .inr (6, [.ref so, .ref ho, .ref sl, .ref (dg 0), .ref (dc 0), .ref (dt 0)]))], zL cI dg z, zL cI dc z, zL cI dt zt]) H := hP
      have hD : va_D A (bw [[(ob, .inr (6, [.ref so, .ref ho, .ref sl, .ref (dg 0), .ref (dc 0), .ref (dt 0)]))], zL cI dg z, zL cI dc z, zL cI dt zt]) := hD
      refine lv_lload_n hx hb dX6_simulate_32 rfl (lv_at hl 1 rfl) ?_
      refine lv_lstore (lv' := [(4, .long (sd)), (0, .ref ob), (1, .long (sd)), (3, .int (nI (x.toNatClampNeg)))]) hx hb dX6_simulate_33 hl (by decide) rfl (fun ls hl => ?_)
      refine lv_iconst (v := 0) hx hb dX6_simulate_35 (by decide) ?_
      refine lv_istore (lv' := [(6, .int (0)), (4, .long (sd)), (0, .ref ob), (1, .long (sd)), (3, .int (nI (x.toNatClampNeg)))]) hx hb dX6_simulate_36 hl (by decide) rfl (fun ls hl => ?_)
      have LP38 : ∀ n9 : Nat, ∀ (j : Nat) (x8 : Int64) (z8 : LgS) (zt8 : LgS), (hj : j ≤ x.toNatClampNeg) → (hI8 : Inv z8) → (hB8t : zt8.1.2 ≤ 8) → (hs8 : smZ (x.toNatClampNeg - j) x8 z8 = smZ x.toNatClampNeg sd z) → x.toNatClampNeg - j < n9 → ∀ (H : Heap) (locs : List Loc), va_P D vwCl (bw [[(ob, .inr (6, [.ref so, .ref ho, .ref sl, .ref (dg 0), .ref (dc 0), .ref (dt 0)]))], zL cI dg z, zL cI dc z8, zL cI dt zt8]) H → va_D A (bw [[(ob, .inr (6, [.ref so, .ref ho, .ref sl, .ref (dg 0), .ref (dc 0), .ref (dt 0)]))], zL cI dg z, zL cI dc z8, zL cI dt zt8]) → va_S A s.heap H locs → ∀ ls : Array Slot, lv_has ls 8 [(0, .ref ob), (3, .int (nI (x.toNatClampNeg))), (4, .long (x8)), (6, .int (nI (j)))] → W p l e ({ frames := 6, cells := 1, slots := 6, locals := 169 } : Room) s m ([.ref ob, .long (sd), .int (x)] : List Value).toArray below meth c H locs 0 0 (vx_MQ below (va_Qi (fun (r9 : Int32) (u9 : List va_W) => (c6sim x) = 0 ∧ r9 = (1000 * ((smZ x.toNatClampNeg sd z).2.1 5 - z.2.1 5) + 20 * ((smZ x.toNatClampNeg sd z).2.1 9 - z.2.1 9) + nI (ckZ (smZ x.toNatClampNeg sd z) 16)) ∧ ∃ zc9 : LgS, ∃ zt9 : LgS, (zc9.1.2 ≤ 8) ∧ (zt9.1.2 ≤ 8) ∧ u9 = [[(ob, .inr (6, [.ref so, .ref ho, .ref sl, .ref (dg 0), .ref (dc 0), .ref (dt 0)]))], zL cI dg z, zL cI dc zc9, zL cI dt zt9]) (fun u t => va_P D vwCl (bw u) t.heap) A) (ge_X (fun (e9 : String) (u9 : List va_W) => ((e9 = xIA ∧ (c6sim x) = 1)) ∧ ∃ zc9 : LgS, ∃ zt9 : LgS, (zc9.1.2 ≤ 8) ∧ (zt9.1.2 ≤ 8) ∧ u9 = [[(ob, .inr (6, [.ref so, .ref ho, .ref sl, .ref (dg 0), .ref (dc 0), .ref (dt 0)]))], zL cI dg z, zL cI dc zc9, zL cI dt zt9]) D A) ([.ref ob, .long (sd), .int (x)] : List Value).toArray s 1 6 A) (F0 m 38 ls []) := by
        intro n9
        induction n9 with
        | zero => intros; omega
        | succ n9 ih38 =>
          intro j x8 z8 zt8 hj hI8 hB8t hs8 hm9 H locs hP hD hS ls hl
          refine lv_iload hx hb dX6_simulate_38 (lv_at hl 3 rfl) ?_
          refine lv_iload_n hx hb dX6_simulate_40 rfl (lv_at hl 1 rfl) ?_
          refine lv_icmp_ge (tgt := 179) hx hb dX6_simulate_41 (by decide) (fun c41_3 => ?_) (fun c41_3 => ?_)
          · skip
            have c41_3 := cn_le (a := x.toNatClampNeg) (b := j) (by omega) (by omega) c41_3
            have hs8 := smZ_e c41_3 hs8
            refine lv_aload_n hx hb dX6_simulate_179 rfl (lv_at hl 0 rfl) ?_
            refine va_get (D := D) (ci := 6) (v := .ref (dc 0)) (C := RX6) (T := TX6) (N := 6) hx hb hts u6_X6 hown hK hP 0 rfl rfl 4 (by decide) (hts _ (m6 261 rfl)) (fun _ h9 => h9) rfl dX6_simulate_180 ?_
            refine va_get (D := D) (ci := 2) (v := .ref (dc 10)) (C := RX2) (T := TX2) (N := 8) hx hb hts u6_X2 hown hK hP 12 rfl rfl 1 (by decide) (hts _ (m6 294 rfl)) (fun _ h9 => h9) rfl dX6_simulate_183 ?_
            refine va_get (D := D) (ci := 5) (v := .int (z8.2.1 5)) (C := RX5) (T := TX5) (N := 8) hx hb hts u6_X5 hown hK hP 22 rfl rfl 0 (by decide) (hts _ (m6 295 rfl)) (fun _ h9 => h9) rfl dX6_simulate_186 ?_
            refine lv_aload_n hx hb dX6_simulate_189 rfl (lv_at hl 0 rfl) ?_
            refine va_get (D := D) (ci := 6) (v := .ref (dg 0)) (C := RX6) (T := TX6) (N := 6) hx hb hts u6_X6 hown hK hP 0 rfl rfl 3 (by decide) (hts _ (m6 260 rfl)) (fun _ h9 => h9) rfl dX6_simulate_190 ?_
            refine va_get (D := D) (ci := 2) (v := .ref (dg 10)) (C := RX2) (T := TX2) (N := 8) hx hb hts u6_X2 hown hK hP 1 rfl rfl 1 (by decide) (hts _ (m6 294 rfl)) (fun _ h9 => h9) rfl dX6_simulate_193 ?_
            refine va_get (D := D) (ci := 5) (v := .int (z.2.1 5)) (C := RX5) (T := TX5) (N := 8) hx hb hts u6_X5 hown hK hP 11 rfl rfl 0 (by decide) (hts _ (m6 295 rfl)) (fun _ h9 => h9) rfl dX6_simulate_196 ?_
            refine lv_isub hx hb dX6_simulate_199 ?_
            refine lv_istore (lv' := [(6, .int ((z8.2.1 5) - (z.2.1 5))), (0, .ref ob), (3, .int (nI (x.toNatClampNeg))), (4, .long (x8))]) hx hb dX6_simulate_200 hl (by decide) rfl (fun ls hl => ?_)
            refine lv_aload_n hx hb dX6_simulate_202 rfl (lv_at hl 1 rfl) ?_
            refine va_get (D := D) (ci := 6) (v := .ref (dc 0)) (C := RX6) (T := TX6) (N := 6) hx hb hts u6_X6 hown hK hP 0 rfl rfl 4 (by decide) (hts _ (m6 261 rfl)) (fun _ h9 => h9) rfl dX6_simulate_203 ?_
            refine va_get (D := D) (ci := 2) (v := .ref (dc 10)) (C := RX2) (T := TX2) (N := 8) hx hb hts u6_X2 hown hK hP 12 rfl rfl 1 (by decide) (hts _ (m6 294 rfl)) (fun _ h9 => h9) rfl dX6_simulate_206 ?_
            refine va_get (D := D) (ci := 5) (v := .int (z8.2.1 9)) (C := RX5) (T := TX5) (N := 8) hx hb hts u6_X5 hown hK hP 22 rfl rfl 4 (by decide) (hts _ (m6 390 rfl)) (fun _ h9 => h9) rfl dX6_simulate_209 ?_
            refine lv_aload_n hx hb dX6_simulate_212 rfl (lv_at hl 1 rfl) ?_
            refine va_get (D := D) (ci := 6) (v := .ref (dg 0)) (C := RX6) (T := TX6) (N := 6) hx hb hts u6_X6 hown hK hP 0 rfl rfl 3 (by decide) (hts _ (m6 260 rfl)) (fun _ h9 => h9) rfl dX6_simulate_213 ?_
            refine va_get (D := D) (ci := 2) (v := .ref (dg 10)) (C := RX2) (T := TX2) (N := 8) hx hb hts u6_X2 hown hK hP 1 rfl rfl 1 (by decide) (hts _ (m6 294 rfl)) (fun _ h9 => h9) rfl dX6_simulate_216 ?_
            refine va_get (D := D) (ci := 5) (v := .int (z.2.1 9)) (C := RX5) (T := TX5) (N := 8) hx hb hts u6_X5 hown hK hP 11 rfl rfl 4 (by decide) (hts _ (m6 390 rfl)) (fun _ h9 => h9) rfl dX6_simulate_219 ?_
            refine lv_isub hx hb dX6_simulate_222 ?_
            refine lv_istore (lv' := [(7, .int ((z8.2.1 9) - (z.2.1 9))), (6, .int ((z8.2.1 5) - (z.2.1 5))), (0, .ref ob), (3, .int (nI (x.toNatClampNeg))), (4, .long (x8))]) hx hb dX6_simulate_223 hl (by decide) rfl (fun ls hl => ?_)
            refine lv_sipush (v := 1000) hx hb dX6_simulate_225 (by decide) ?_
            refine lv_iload hx hb dX6_simulate_228 (lv_at hl 1 rfl) ?_
            refine lv_imul hx hb dX6_simulate_230 ?_
            refine lv_bipush (v := 20) hx hb dX6_simulate_231 (by decide) ?_
            refine lv_iload hx hb dX6_simulate_233 (lv_at hl 0 rfl) ?_
            refine lv_imul hx hb dX6_simulate_235 ?_
            refine lv_iadd hx hb dX6_simulate_236 ?_
            refine lv_aload_n hx hb dX6_simulate_237 rfl (lv_at hl 2 rfl) ?_
            refine va_get (D := D) (ci := 6) (v := .ref (dc 0)) (C := RX6) (T := TX6) (N := 6) hx hb hts u6_X6 hown hK hP 0 rfl rfl 4 (by decide) (hts _ (m6 261 rfl)) (fun _ h9 => h9) rfl dX6_simulate_238 ?_
            refine va_get (D := D) (ci := 2) (v := .ref (dc 1)) (C := RX2) (T := TX2) (N := 8) hx hb hts u6_X2 hown hK hP 12 rfl rfl 0 (by decide) (hts _ (m6 301 rfl)) (fun _ h9 => h9) rfl dX6_simulate_241 ?_
            refine bq_readV hX good6 (m6 23 rfl) (b0_countKeys l D cI dc z8 (inv_B hI8) ) q0_countKeys rfl (m6 371 rfl) (m6 120 rfl) (m6 121 rfl) ⟨Nat.le_of_ble_eq_true rfl, Nat.le_of_ble_eq_true rfl⟩ hK hN [0] rfl hP [2] rfl (ci := 0) (q0 := 1) rfl rfl rfl hS hl.1 rfl (Nat.le_of_ble_eq_true rfl) dX6_simulate_244 ⟨Nat.zero_le _, Nat.zero_le _⟩ (fun H locs hP hS => ?_)
            refine lv_iadd hx hb dX6_simulate_247 ?_
            exact ge_ret hX hr hlocks hS hP ⟨by rw [c6sim, if_pos ⟨c2_1, c8_2⟩], by rw [← hs8], _, _, (inv_B hI8), hB8t, rfl⟩ (Nat.le_of_ble_eq_true rfl) (Nat.le_of_ble_eq_true rfl) dX6_simulate_248
          · skip
            have c41_3 := cn_nle (a := x.toNatClampNeg) (b := j) (by omega) (by omega) c41_3
            obtain ⟨xlq, exlq⟩ : ∃ xlq, xlq = nxL x8 := ⟨_, rfl⟩
            obtain ⟨qlq, eq8⟩ : ∃ qlq, qlq = rnd xlq := ⟨_, rfl⟩
            have hrn : qlq < 2 ^ 31 := by rw [eq8]; exact rnd_lt xlq
            refine lv_lload hx hb dX6_simulate_44 (lv_at hl 2 rfl) ?_
            refine lv_ldc2 (v := 6364136223846793005) hx hb hown (hts _ (m6 388 rfl)) dX6_simulate_46 ?_
            refine lv_lmul hx hb dX6_simulate_49 ?_
            refine lv_ldc2 (v := 1442695040888963407) hx hb hown (hts _ (m6 389 rfl)) dX6_simulate_50 ?_
            refine lv_ladd hx hb dX6_simulate_53 ?_
            refine lv_asl (y := xlq) (exlq.symm) ?_
            refine lv_lstore (lv' := [(4, .long (xlq)), (0, .ref ob), (3, .int (nI (x.toNatClampNeg))), (6, .int (nI (j)))]) hx hb dX6_simulate_54 hl (by decide) rfl (fun ls hl => ?_)
            refine lv_lload hx hb dX6_simulate_56 (lv_at hl 0 rfl) ?_
            refine lv_bipush (v := 33) hx hb dX6_simulate_58 (by decide) ?_
            refine lv_lushr (v := lN qlq) hx hb dX6_simulate_60 (by rw [eq8]; exact lush _) ?_
            refine lv_l2i (v := nI (qlq)) hx hb dX6_simulate_61 (lN_i _) ?_
            refine lv_istore (lv' := [(7, .int (nI (qlq))), (4, .long (xlq)), (0, .ref ob), (3, .int (nI (x.toNatClampNeg))), (6, .int (nI (j)))]) hx hb dX6_simulate_62 hl (by decide) rfl (fun ls hl => ?_)
            obtain ⟨mq, hm⟩ : ∃ mq, x.toNatClampNeg - j = mq + 1 := ⟨x.toNatClampNeg - j - 1, by omega⟩
            have hm3 : mq = x.toNatClampNeg - (j + 1) := by omega
            refine lv_aload_n hx hb dX6_simulate_64 rfl (lv_at hl 2 rfl) ?_
            refine va_get (D := D) (ci := 6) (v := .ref (dc 0)) (C := RX6) (T := TX6) (N := 6) hx hb hts u6_X6 hown hK hP 0 rfl rfl 4 (by decide) (hts _ (m6 261 rfl)) (fun _ h9 => h9) rfl dX6_simulate_65 ?_
            refine va_get (D := D) (ci := 2) (v := .int (bI (z8.1.1 = true))) (C := RX2) (T := TX2) (N := 8) hx hb hts u6_X2 hown hK hP 12 rfl rfl 2 (by decide) (hts _ (m6 292 rfl)) (fun _ h9 => h9) rfl dX6_simulate_68 ?_
            refine lv_if_ne (tgt := 82) hx hb dX6_simulate_71 (by decide) (fun c71_4 => ?_) (fun c71_4 => ?_)
            · skip
              have c71_4 := bI_t c71_4
              have hISw := inv_zSw hI8
              have hP : va_P D vwCl (bw [[(ob, .inr (6, [.ref so, .ref ho, .ref sl, .ref (dg 0), .ref (dc 0), .ref (dt 0)]))], zL cI dg z, zL cI dc (zSw z8), zL cI dt zt8]) H := by
                rw [show (zSw z8) = z8 from zSw_on c71_4]
                exact hP
              have hD : va_D A (bw [[(ob, .inr (6, [.ref so, .ref ho, .ref sl, .ref (dg 0), .ref (dc 0), .ref (dt 0)]))], zL cI dg z, zL cI dc (zSw z8), zL cI dt zt8]) := by
                rw [show (zSw z8) = z8 from zSw_on c71_4]
                exact hD
              refine lv_iload hx hb dX6_simulate_82 (lv_at hl 0 rfl) ?_
              refine lv_bipush (v := 8) hx hb dX6_simulate_84 (by decide) ?_
              refine lv_irem hx hb dX6_simulate_86 (by decide) ?_
              refine lv_as (y := nI (qlq % 8)) (pk_rem (a := qlq) (d := 8) (by omega) (by decide) (by decide)) ?_
              refine lv_if_ne (tgt := 112) hx hb dX6_simulate_87 (by decide) (fun c87_5 => ?_) (fun c87_5 => ?_)
              · skip
                have c87_5 := cn_ne (a := qlq % 8) (b := 0) (by omega) (by omega) c87_5
                refine lv_iload hx hb dX6_simulate_112 (lv_at hl 0 rfl) ?_
                refine lv_bipush (v := 8) hx hb dX6_simulate_114 (by decide) ?_
                refine lv_irem hx hb dX6_simulate_116 (by decide) ?_
                refine lv_as (y := nI (qlq % 8)) (pk_rem (a := qlq) (d := 8) (by omega) (by decide) (by decide)) ?_
                refine lv_iconst (v := 1) hx hb dX6_simulate_117 (by decide) ?_
                refine lv_icmp_ne (tgt := 145) hx hb dX6_simulate_118 (by decide) (fun c118_6 => ?_) (fun c118_6 => ?_)
                · skip
                  have c118_6 := cn_ne (a := qlq % 8) (b := 1) (by omega) (by omega) c118_6
                  refine lv_aload_n hx hb dX6_simulate_145 rfl (lv_at hl 2 rfl) ?_
                  refine lv_aload_n hx hb dX6_simulate_146 rfl (lv_at hl 2 rfl) ?_
                  refine va_get (D := D) (ci := 6) (v := .ref (dc 0)) (C := RX6) (T := TX6) (N := 6) hx hb hts u6_X6 hown hK hP 0 rfl rfl 4 (by decide) (hts _ (m6 261 rfl)) (fun _ h9 => h9) rfl dX6_simulate_147 ?_
                  refine lv_iconst (v := 1) hx hb dX6_simulate_150 (by decide) ?_
                  refine lv_iload hx hb dX6_simulate_151 (lv_at hl 0 rfl) ?_
                  refine lv_bipush (v := 8) hx hb dX6_simulate_153 (by decide) ?_
                  refine lv_idiv hx hb dX6_simulate_155 (by decide) ?_
                  refine lv_as (y := nI (qlq / 8)) (pk_div (a := qlq) (d := 8) (by omega) (by decide) (by decide)) ?_
                  refine lv_bipush (v := 16) hx hb dX6_simulate_156 (by decide) ?_
                  refine lv_irem hx hb dX6_simulate_158 (by decide) ?_
                  refine lv_as (y := nI ((qlq / 8) % 16)) (pk_rem (a := qlq / 8) (d := 16) (by omega) (by decide) (by decide)) ?_
                  refine lv_iload hx hb dX6_simulate_159 (lv_at hl 0 rfl) ?_
                  refine lv_sipush (v := 128) hx hb dX6_simulate_161 (by decide) ?_
                  refine lv_idiv hx hb dX6_simulate_164 (by decide) ?_
                  refine lv_as (y := nI (qlq / 128)) (pk_div (a := qlq) (d := 128) (by omega) (by decide) (by decide)) ?_
                  refine lv_sipush (v := 1000) hx hb dX6_simulate_165 (by decide) ?_
                  refine lv_irem hx hb dX6_simulate_168 (by decide) ?_
                  refine lv_as (y := nI ((qlq / 128) % 1000)) (pk_rem (a := qlq / 128) (d := 1000) (by omega) (by decide) (by decide)) ?_
                  refine bq_backi (bq_runV hX good6 (m6 31 rfl) (c6_perform l D cI ob so ho sl dg dc dt zt8 hB8t dc (zSw z8) hISw 1 ((qlq / 8) % 16) (by omega) (by omega) (by omega) (nI ((qlq / 128) % 1000)) (fun _ => oI_ne (a := (qlq) / 128 % 1000) (by omega))) q6_perform rfl (m6 340 rfl) (m6 341 rfl) (m6 342 rfl) ⟨Nat.le_of_ble_eq_true rfl, Nat.le_of_ble_eq_true rfl⟩ hK hN [0] rfl hP hD [0, 3, 2] (by decide) rfl (ci := 6) (q0 := 0) rfl rfl rfl hl.1 rfl (Nat.le_of_ble_eq_true rfl) dX6_simulate_169 ⟨Nat.zero_le _, Nat.zero_le _⟩) hP hD hS [0, 3, 2] rfl (fun r u h => by obtain ⟨-, x7, hx8, rfl⟩ := h; rfl) (fun r9 u H locs hpost hP hD hS => ?_)
                  obtain ⟨hr9, x7, hx8, rfl⟩ := hpost
                  refine lv_as hr9 ?_
                  have hP : va_P D vwCl (bw [[(ob, .inr (6, [.ref so, .ref ho, .ref sl, .ref (dg 0), .ref (dc 0), .ref (dt 0)]))], zL cI dg z, zL cI dc (pfZ (zSw z8) 1 ((qlq / 8) % 16) (nI ((qlq / 128) % 1000))), zL cI dt x7]) H := hP
                  have hD : va_D A (bw [[(ob, .inr (6, [.ref so, .ref ho, .ref sl, .ref (dg 0), .ref (dc 0), .ref (dt 0)]))], zL cI dg z, zL cI dc (pfZ (zSw z8) 1 ((qlq / 8) % 16) (nI ((qlq / 128) % 1000))), zL cI dt x7]) := hD
                  refine lv_pop hx hb dX6_simulate_172 rfl ?_
                  refine lv_iinc (v := nI (j + 1)) (lv' := [(6, .int (nI (j + 1))), (7, .int (nI (qlq))), (4, .long (xlq)), (0, .ref ob), (3, .int (nI (x.toNatClampNeg)))]) hx hb dX6_simulate_173 hl (k := 4) rfl (nI_add _ 1) (by decide) rfl (fun ls hl => ?_)
                  refine lv_goto (tgt := 38) hx hb dX6_simulate_176 (by decide) ?_
                  have hP : va_P D vwCl (bw [[(ob, .inr (6, [.ref so, .ref ho, .ref sl, .ref (dg 0), .ref (dc 0), .ref (dt 0)]))], zL cI dg z, zL cI dc (rnZ z8 qlq), zL cI dt x7]) H := by
                    rw [show (rnZ z8 qlq) = (pfZ (zSw z8) 1 ((qlq / 8) % 16) (nI ((qlq / 128) % 1000))) from by rw [rnZ, if_neg c87_5, if_neg c118_6]]
                    exact hP
                  have hD : va_D A (bw [[(ob, .inr (6, [.ref so, .ref ho, .ref sl, .ref (dg 0), .ref (dc 0), .ref (dt 0)]))], zL cI dg z, zL cI dc (rnZ z8 qlq), zL cI dt x7]) := by
                    rw [show (rnZ z8 qlq) = (pfZ (zSw z8) 1 ((qlq / 8) % 16) (nI ((qlq / 128) % 1000))) from by rw [rnZ, if_neg c87_5, if_neg c118_6]]
                    exact hD
                  have hl : lv_has ls 8 [(6, .int (nI ((j + 1)))), (7, .int (nI (qlq))), (4, .long (xlq)), (0, .ref ob), (3, .int (nI (x.toNatClampNeg)))] := lv_re hl 0 rfl (show (nI (j + 1)) = nI ((j + 1)) from rfl)
                  exact ih38 (j + 1) xlq (rnZ z8 qlq) x7 (by omega) (by rw [rnZ, if_neg c87_5, if_neg c118_6]; exact inv_pf hISw (by omega) (fun _ => oI_ne (a := (qlq) / 128 % 1000) (by omega)) (fun y => absurd y (by decide))) (hx8) (by rw [eq8, exlq]; exact smZ_n hm hs8) (by omega) _ _ hP hD hS _ (lv_sub hl [3, 4, 2, 0] rfl)
                · skip
                  have c118_6 := cn_eq (a := qlq % 8) (b := 1) (by omega) (by omega) c118_6
                  refine lv_aload_n hx hb dX6_simulate_121 rfl (lv_at hl 2 rfl) ?_
                  refine lv_aload_n hx hb dX6_simulate_122 rfl (lv_at hl 2 rfl) ?_
                  refine va_get (D := D) (ci := 6) (v := .ref (dc 0)) (C := RX6) (T := TX6) (N := 6) hx hb hts u6_X6 hown hK hP 0 rfl rfl 4 (by decide) (hts _ (m6 261 rfl)) (fun _ h9 => h9) rfl dX6_simulate_123 ?_
                  refine lv_iconst (v := 4) hx hb dX6_simulate_126 (by decide) ?_
                  refine lv_iconst (v := 0) hx hb dX6_simulate_127 (by decide) ?_
                  refine lv_iconst (v := 1) hx hb dX6_simulate_128 (by decide) ?_
                  refine lv_iload hx hb dX6_simulate_129 (lv_at hl 0 rfl) ?_
                  refine lv_bipush (v := 8) hx hb dX6_simulate_131 (by decide) ?_
                  refine lv_idiv hx hb dX6_simulate_133 (by decide) ?_
                  refine lv_as (y := nI (qlq / 8)) (pk_div (a := qlq) (d := 8) (by omega) (by decide) (by decide)) ?_
                  refine lv_bipush (v := 20) hx hb dX6_simulate_134 (by decide) ?_
                  refine lv_irem hx hb dX6_simulate_136 (by decide) ?_
                  refine lv_as (y := nI ((qlq / 8) % 20)) (pk_rem (a := qlq / 8) (d := 20) (by omega) (by decide) (by decide)) ?_
                  refine lv_iadd hx hb dX6_simulate_137 ?_
                  refine lv_as (y := nI (1 + (qlq / 8) % 20)) (nI_add (1) ((qlq / 8) % 20)) ?_
                  refine bq_backi (bq_runV hX good6 (m6 31 rfl) (c6_perform l D cI ob so ho sl dg dc dt zt8 hB8t dc (zSw z8) hISw 4 0 (by omega) (by omega) (by omega) (nI (1 + (qlq / 8) % 20)) (fun y => absurd y (by decide))) q6_perform rfl (m6 340 rfl) (m6 341 rfl) (m6 342 rfl) ⟨Nat.le_of_ble_eq_true rfl, Nat.le_of_ble_eq_true rfl⟩ hK hN [0] rfl hP hD [0, 3, 2] (by decide) rfl (ci := 6) (q0 := 0) rfl rfl rfl hl.1 rfl (Nat.le_of_ble_eq_true rfl) dX6_simulate_138 ⟨Nat.zero_le _, Nat.zero_le _⟩) hP hD hS [0, 3, 2] rfl (fun r u h => by obtain ⟨-, x9, hx10, rfl⟩ := h; rfl) (fun r9 u H locs hpost hP hD hS => ?_)
                  obtain ⟨hr9, x9, hx10, rfl⟩ := hpost
                  refine lv_as hr9 ?_
                  have hP : va_P D vwCl (bw [[(ob, .inr (6, [.ref so, .ref ho, .ref sl, .ref (dg 0), .ref (dc 0), .ref (dt 0)]))], zL cI dg z, zL cI dc (pfZ (zSw z8) 4 0 (nI (1 + (qlq / 8) % 20))), zL cI dt x9]) H := hP
                  have hD : va_D A (bw [[(ob, .inr (6, [.ref so, .ref ho, .ref sl, .ref (dg 0), .ref (dc 0), .ref (dt 0)]))], zL cI dg z, zL cI dc (pfZ (zSw z8) 4 0 (nI (1 + (qlq / 8) % 20))), zL cI dt x9]) := hD
                  refine lv_pop hx hb dX6_simulate_141 rfl ?_
                  refine lv_goto (tgt := 173) hx hb dX6_simulate_142 (by decide) ?_
                  refine lv_iinc (v := nI (j + 1)) (lv' := [(6, .int (nI (j + 1))), (7, .int (nI (qlq))), (4, .long (xlq)), (0, .ref ob), (3, .int (nI (x.toNatClampNeg)))]) hx hb dX6_simulate_173 hl (k := 4) rfl (nI_add _ 1) (by decide) rfl (fun ls hl => ?_)
                  refine lv_goto (tgt := 38) hx hb dX6_simulate_176 (by decide) ?_
                  have hP : va_P D vwCl (bw [[(ob, .inr (6, [.ref so, .ref ho, .ref sl, .ref (dg 0), .ref (dc 0), .ref (dt 0)]))], zL cI dg z, zL cI dc (rnZ z8 qlq), zL cI dt x9]) H := by
                    rw [show (rnZ z8 qlq) = (pfZ (zSw z8) 4 0 (nI (1 + (qlq / 8) % 20))) from by rw [rnZ, if_neg c87_5, if_pos c118_6]]
                    exact hP
                  have hD : va_D A (bw [[(ob, .inr (6, [.ref so, .ref ho, .ref sl, .ref (dg 0), .ref (dc 0), .ref (dt 0)]))], zL cI dg z, zL cI dc (rnZ z8 qlq), zL cI dt x9]) := by
                    rw [show (rnZ z8 qlq) = (pfZ (zSw z8) 4 0 (nI (1 + (qlq / 8) % 20))) from by rw [rnZ, if_neg c87_5, if_pos c118_6]]
                    exact hD
                  have hl : lv_has ls 8 [(6, .int (nI ((j + 1)))), (7, .int (nI (qlq))), (4, .long (xlq)), (0, .ref ob), (3, .int (nI (x.toNatClampNeg)))] := lv_re hl 0 rfl (show (nI (j + 1)) = nI ((j + 1)) from rfl)
                  exact ih38 (j + 1) xlq (rnZ z8 qlq) x9 (by omega) (by rw [rnZ, if_neg c87_5, if_pos c118_6]; exact inv_pf hISw (by omega) (fun y => absurd y (by decide)) (fun _ => ⟨_, by omega, rfl⟩)) (hx10) (by rw [eq8, exlq]; exact smZ_n hm hs8) (by omega) _ _ hP hD hS _ (lv_sub hl [3, 4, 2, 0] rfl)
              · skip
                have c87_5 := cn_eq (a := qlq % 8) (b := 0) (by omega) (by omega) c87_5
                refine lv_aload_n hx hb dX6_simulate_90 rfl (lv_at hl 2 rfl) ?_
                refine lv_aload_n hx hb dX6_simulate_91 rfl (lv_at hl 2 rfl) ?_
                refine va_get (D := D) (ci := 6) (v := .ref (dc 0)) (C := RX6) (T := TX6) (N := 6) hx hb hts u6_X6 hown hK hP 0 rfl rfl 4 (by decide) (hts _ (m6 261 rfl)) (fun _ h9 => h9) rfl dX6_simulate_92 ?_
                refine lv_iconst (v := 2) hx hb dX6_simulate_95 (by decide) ?_
                refine lv_iload hx hb dX6_simulate_96 (lv_at hl 0 rfl) ?_
                refine lv_bipush (v := 8) hx hb dX6_simulate_98 (by decide) ?_
                refine lv_idiv hx hb dX6_simulate_100 (by decide) ?_
                refine lv_as (y := nI (qlq / 8)) (pk_div (a := qlq) (d := 8) (by omega) (by decide) (by decide)) ?_
                refine lv_bipush (v := 16) hx hb dX6_simulate_101 (by decide) ?_
                refine lv_irem hx hb dX6_simulate_103 (by decide) ?_
                refine lv_as (y := nI ((qlq / 8) % 16)) (pk_rem (a := qlq / 8) (d := 16) (by omega) (by decide) (by decide)) ?_
                refine lv_iconst (v := 0) hx hb dX6_simulate_104 (by decide) ?_
                refine bq_backi (bq_runV hX good6 (m6 31 rfl) (c6_perform l D cI ob so ho sl dg dc dt zt8 hB8t dc (zSw z8) hISw 2 ((qlq / 8) % 16) (by omega) (by omega) (by omega) 0 (fun y => absurd y (by decide))) q6_perform rfl (m6 340 rfl) (m6 341 rfl) (m6 342 rfl) ⟨Nat.le_of_ble_eq_true rfl, Nat.le_of_ble_eq_true rfl⟩ hK hN [0] rfl hP hD [0, 3, 2] (by decide) rfl (ci := 6) (q0 := 0) rfl rfl rfl hl.1 rfl (Nat.le_of_ble_eq_true rfl) dX6_simulate_105 ⟨Nat.zero_le _, Nat.zero_le _⟩) hP hD hS [0, 3, 2] rfl (fun r u h => by obtain ⟨-, x11, hx12, rfl⟩ := h; rfl) (fun r9 u H locs hpost hP hD hS => ?_)
                obtain ⟨hr9, x11, hx12, rfl⟩ := hpost
                refine lv_as hr9 ?_
                have hP : va_P D vwCl (bw [[(ob, .inr (6, [.ref so, .ref ho, .ref sl, .ref (dg 0), .ref (dc 0), .ref (dt 0)]))], zL cI dg z, zL cI dc (pfZ (zSw z8) 2 ((qlq / 8) % 16) 0), zL cI dt x11]) H := hP
                have hD : va_D A (bw [[(ob, .inr (6, [.ref so, .ref ho, .ref sl, .ref (dg 0), .ref (dc 0), .ref (dt 0)]))], zL cI dg z, zL cI dc (pfZ (zSw z8) 2 ((qlq / 8) % 16) 0), zL cI dt x11]) := hD
                refine lv_pop hx hb dX6_simulate_108 rfl ?_
                refine lv_goto (tgt := 173) hx hb dX6_simulate_109 (by decide) ?_
                refine lv_iinc (v := nI (j + 1)) (lv' := [(6, .int (nI (j + 1))), (7, .int (nI (qlq))), (4, .long (xlq)), (0, .ref ob), (3, .int (nI (x.toNatClampNeg)))]) hx hb dX6_simulate_173 hl (k := 4) rfl (nI_add _ 1) (by decide) rfl (fun ls hl => ?_)
                refine lv_goto (tgt := 38) hx hb dX6_simulate_176 (by decide) ?_
                have hP : va_P D vwCl (bw [[(ob, .inr (6, [.ref so, .ref ho, .ref sl, .ref (dg 0), .ref (dc 0), .ref (dt 0)]))], zL cI dg z, zL cI dc (rnZ z8 qlq), zL cI dt x11]) H := by
                  rw [show (rnZ z8 qlq) = (pfZ (zSw z8) 2 ((qlq / 8) % 16) 0) from by rw [rnZ, if_pos c87_5]]
                  exact hP
                have hD : va_D A (bw [[(ob, .inr (6, [.ref so, .ref ho, .ref sl, .ref (dg 0), .ref (dc 0), .ref (dt 0)]))], zL cI dg z, zL cI dc (rnZ z8 qlq), zL cI dt x11]) := by
                  rw [show (rnZ z8 qlq) = (pfZ (zSw z8) 2 ((qlq / 8) % 16) 0) from by rw [rnZ, if_pos c87_5]]
                  exact hD
                have hl : lv_has ls 8 [(6, .int (nI ((j + 1)))), (7, .int (nI (qlq))), (4, .long (xlq)), (0, .ref ob), (3, .int (nI (x.toNatClampNeg)))] := lv_re hl 0 rfl (show (nI (j + 1)) = nI ((j + 1)) from rfl)
                exact ih38 (j + 1) xlq (rnZ z8 qlq) x11 (by omega) (by rw [rnZ, if_pos c87_5]; exact inv_pf hISw (by omega) (fun y => absurd y (by decide)) (fun y => absurd y (by decide))) (hx12) (by rw [eq8, exlq]; exact smZ_n hm hs8) (by omega) _ _ hP hD hS _ (lv_sub hl [3, 4, 2, 0] rfl)
            · skip
              have c71_4 := bI_f c71_4
              refine lv_aload_n hx hb dX6_simulate_74 rfl (lv_at hl 2 rfl) ?_
              refine va_get (D := D) (ci := 6) (v := .ref (dc 0)) (C := RX6) (T := TX6) (N := 6) hx hb hts u6_X6 hown hK hP 0 rfl rfl 4 (by decide) (hts _ (m6 261 rfl)) (fun _ h9 => h9) rfl dX6_simulate_75 ?_
              refine bq_backi (bq_runV hX good6 (m6 83 rfl) (b2_switchOn l D cI dc z8 (inv_B hI8)) q2_switchOn rfl (m6 310 rfl) (m6 311 rfl) (m6 312 rfl) ⟨Nat.le_of_ble_eq_true rfl, Nat.le_of_ble_eq_true rfl⟩ hK hN [0] rfl hP hD [2] (by decide) rfl (ci := 2) (q0 := 0) rfl rfl rfl hl.1 rfl (Nat.le_of_ble_eq_true rfl) dX6_simulate_78 ⟨Nat.zero_le _, Nat.zero_le _⟩) hP hD hS [2] rfl (fun r u h => by obtain ⟨-, rfl⟩ := h; rfl) (fun r9 u H locs hpost hP hD hS => ?_)
              obtain ⟨hr9, rfl⟩ := hpost
              refine lv_as hr9 ?_
              have hP : va_P D vwCl (bw [[(ob, .inr (6, [.ref so, .ref ho, .ref sl, .ref (dg 0), .ref (dc 0), .ref (dt 0)]))], zL cI dg z, zL cI dc (zSw z8), zL cI dt zt8]) H := hP
              have hD : va_D A (bw [[(ob, .inr (6, [.ref so, .ref ho, .ref sl, .ref (dg 0), .ref (dc 0), .ref (dt 0)]))], zL cI dg z, zL cI dc (zSw z8), zL cI dt zt8]) := hD
              refine lv_pop hx hb dX6_simulate_81 rfl ?_
              have hISw := inv_zSw hI8
              refine lv_iload hx hb dX6_simulate_82 (lv_at hl 0 rfl) ?_
              refine lv_bipush (v := 8) hx hb dX6_simulate_84 (by decide) ?_
              refine lv_irem hx hb dX6_simulate_86 (by decide) ?_
              refine lv_as (y := nI (qlq % 8)) (pk_rem (a := qlq) (d := 8) (by omega) (by decide) (by decide)) ?_
              refine lv_if_ne (tgt := 112) hx hb dX6_simulate_87 (by decide) (fun c87_13 => ?_) (fun c87_13 => ?_)
              · skip
                have c87_13 := cn_ne (a := qlq % 8) (b := 0) (by omega) (by omega) c87_13
                refine lv_iload hx hb dX6_simulate_112 (lv_at hl 0 rfl) ?_
                refine lv_bipush (v := 8) hx hb dX6_simulate_114 (by decide) ?_
                refine lv_irem hx hb dX6_simulate_116 (by decide) ?_
                refine lv_as (y := nI (qlq % 8)) (pk_rem (a := qlq) (d := 8) (by omega) (by decide) (by decide)) ?_
                refine lv_iconst (v := 1) hx hb dX6_simulate_117 (by decide) ?_
                refine lv_icmp_ne (tgt := 145) hx hb dX6_simulate_118 (by decide) (fun c118_14 => ?_) (fun c118_14 => ?_)
                · skip
                  have c118_14 := cn_ne (a := qlq % 8) (b := 1) (by omega) (by omega) c118_14
                  refine lv_aload_n hx hb dX6_simulate_145 rfl (lv_at hl 2 rfl) ?_
                  refine lv_aload_n hx hb dX6_simulate_146 rfl (lv_at hl 2 rfl) ?_
                  refine va_get (D := D) (ci := 6) (v := .ref (dc 0)) (C := RX6) (T := TX6) (N := 6) hx hb hts u6_X6 hown hK hP 0 rfl rfl 4 (by decide) (hts _ (m6 261 rfl)) (fun _ h9 => h9) rfl dX6_simulate_147 ?_
                  refine lv_iconst (v := 1) hx hb dX6_simulate_150 (by decide) ?_
                  refine lv_iload hx hb dX6_simulate_151 (lv_at hl 0 rfl) ?_
                  refine lv_bipush (v := 8) hx hb dX6_simulate_153 (by decide) ?_
                  refine lv_idiv hx hb dX6_simulate_155 (by decide) ?_
                  refine lv_as (y := nI (qlq / 8)) (pk_div (a := qlq) (d := 8) (by omega) (by decide) (by decide)) ?_
                  refine lv_bipush (v := 16) hx hb dX6_simulate_156 (by decide) ?_
                  refine lv_irem hx hb dX6_simulate_158 (by decide) ?_
                  refine lv_as (y := nI ((qlq / 8) % 16)) (pk_rem (a := qlq / 8) (d := 16) (by omega) (by decide) (by decide)) ?_
                  refine lv_iload hx hb dX6_simulate_159 (lv_at hl 0 rfl) ?_
                  refine lv_sipush (v := 128) hx hb dX6_simulate_161 (by decide) ?_
                  refine lv_idiv hx hb dX6_simulate_164 (by decide) ?_
                  refine lv_as (y := nI (qlq / 128)) (pk_div (a := qlq) (d := 128) (by omega) (by decide) (by decide)) ?_
                  refine lv_sipush (v := 1000) hx hb dX6_simulate_165 (by decide) ?_
                  refine lv_irem hx hb dX6_simulate_168 (by decide) ?_
                  refine lv_as (y := nI ((qlq / 128) % 1000)) (pk_rem (a := qlq / 128) (d := 1000) (by omega) (by decide) (by decide)) ?_
                  refine bq_backi (bq_runV hX good6 (m6 31 rfl) (c6_perform l D cI ob so ho sl dg dc dt zt8 hB8t dc (zSw z8) hISw 1 ((qlq / 8) % 16) (by omega) (by omega) (by omega) (nI ((qlq / 128) % 1000)) (fun _ => oI_ne (a := (qlq) / 128 % 1000) (by omega))) q6_perform rfl (m6 340 rfl) (m6 341 rfl) (m6 342 rfl) ⟨Nat.le_of_ble_eq_true rfl, Nat.le_of_ble_eq_true rfl⟩ hK hN [0] rfl hP hD [0, 3, 2] (by decide) rfl (ci := 6) (q0 := 0) rfl rfl rfl hl.1 rfl (Nat.le_of_ble_eq_true rfl) dX6_simulate_169 ⟨Nat.zero_le _, Nat.zero_le _⟩) hP hD hS [0, 3, 2] rfl (fun r u h => by obtain ⟨-, x15, hx16, rfl⟩ := h; rfl) (fun r9 u H locs hpost hP hD hS => ?_)
                  obtain ⟨hr9, x15, hx16, rfl⟩ := hpost
                  refine lv_as hr9 ?_
                  have hP : va_P D vwCl (bw [[(ob, .inr (6, [.ref so, .ref ho, .ref sl, .ref (dg 0), .ref (dc 0), .ref (dt 0)]))], zL cI dg z, zL cI dc (pfZ (zSw z8) 1 ((qlq / 8) % 16) (nI ((qlq / 128) % 1000))), zL cI dt x15]) H := hP
                  have hD : va_D A (bw [[(ob, .inr (6, [.ref so, .ref ho, .ref sl, .ref (dg 0), .ref (dc 0), .ref (dt 0)]))], zL cI dg z, zL cI dc (pfZ (zSw z8) 1 ((qlq / 8) % 16) (nI ((qlq / 128) % 1000))), zL cI dt x15]) := hD
                  refine lv_pop hx hb dX6_simulate_172 rfl ?_
                  refine lv_iinc (v := nI (j + 1)) (lv' := [(6, .int (nI (j + 1))), (7, .int (nI (qlq))), (4, .long (xlq)), (0, .ref ob), (3, .int (nI (x.toNatClampNeg)))]) hx hb dX6_simulate_173 hl (k := 4) rfl (nI_add _ 1) (by decide) rfl (fun ls hl => ?_)
                  refine lv_goto (tgt := 38) hx hb dX6_simulate_176 (by decide) ?_
                  have hP : va_P D vwCl (bw [[(ob, .inr (6, [.ref so, .ref ho, .ref sl, .ref (dg 0), .ref (dc 0), .ref (dt 0)]))], zL cI dg z, zL cI dc (rnZ z8 qlq), zL cI dt x15]) H := by
                    rw [show (rnZ z8 qlq) = (pfZ (zSw z8) 1 ((qlq / 8) % 16) (nI ((qlq / 128) % 1000))) from by rw [rnZ, if_neg c87_13, if_neg c118_14]]
                    exact hP
                  have hD : va_D A (bw [[(ob, .inr (6, [.ref so, .ref ho, .ref sl, .ref (dg 0), .ref (dc 0), .ref (dt 0)]))], zL cI dg z, zL cI dc (rnZ z8 qlq), zL cI dt x15]) := by
                    rw [show (rnZ z8 qlq) = (pfZ (zSw z8) 1 ((qlq / 8) % 16) (nI ((qlq / 128) % 1000))) from by rw [rnZ, if_neg c87_13, if_neg c118_14]]
                    exact hD
                  have hl : lv_has ls 8 [(6, .int (nI ((j + 1)))), (7, .int (nI (qlq))), (4, .long (xlq)), (0, .ref ob), (3, .int (nI (x.toNatClampNeg)))] := lv_re hl 0 rfl (show (nI (j + 1)) = nI ((j + 1)) from rfl)
                  exact ih38 (j + 1) xlq (rnZ z8 qlq) x15 (by omega) (by rw [rnZ, if_neg c87_13, if_neg c118_14]; exact inv_pf hISw (by omega) (fun _ => oI_ne (a := (qlq) / 128 % 1000) (by omega)) (fun y => absurd y (by decide))) (hx16) (by rw [eq8, exlq]; exact smZ_n hm hs8) (by omega) _ _ hP hD hS _ (lv_sub hl [3, 4, 2, 0] rfl)
                · skip
                  have c118_14 := cn_eq (a := qlq % 8) (b := 1) (by omega) (by omega) c118_14
                  refine lv_aload_n hx hb dX6_simulate_121 rfl (lv_at hl 2 rfl) ?_
                  refine lv_aload_n hx hb dX6_simulate_122 rfl (lv_at hl 2 rfl) ?_
                  refine va_get (D := D) (ci := 6) (v := .ref (dc 0)) (C := RX6) (T := TX6) (N := 6) hx hb hts u6_X6 hown hK hP 0 rfl rfl 4 (by decide) (hts _ (m6 261 rfl)) (fun _ h9 => h9) rfl dX6_simulate_123 ?_
                  refine lv_iconst (v := 4) hx hb dX6_simulate_126 (by decide) ?_
                  refine lv_iconst (v := 0) hx hb dX6_simulate_127 (by decide) ?_
                  refine lv_iconst (v := 1) hx hb dX6_simulate_128 (by decide) ?_
                  refine lv_iload hx hb dX6_simulate_129 (lv_at hl 0 rfl) ?_
                  refine lv_bipush (v := 8) hx hb dX6_simulate_131 (by decide) ?_
                  refine lv_idiv hx hb dX6_simulate_133 (by decide) ?_
                  refine lv_as (y := nI (qlq / 8)) (pk_div (a := qlq) (d := 8) (by omega) (by decide) (by decide)) ?_
                  refine lv_bipush (v := 20) hx hb dX6_simulate_134 (by decide) ?_
                  refine lv_irem hx hb dX6_simulate_136 (by decide) ?_
                  refine lv_as (y := nI ((qlq / 8) % 20)) (pk_rem (a := qlq / 8) (d := 20) (by omega) (by decide) (by decide)) ?_
                  refine lv_iadd hx hb dX6_simulate_137 ?_
                  refine lv_as (y := nI (1 + (qlq / 8) % 20)) (nI_add (1) ((qlq / 8) % 20)) ?_
                  refine bq_backi (bq_runV hX good6 (m6 31 rfl) (c6_perform l D cI ob so ho sl dg dc dt zt8 hB8t dc (zSw z8) hISw 4 0 (by omega) (by omega) (by omega) (nI (1 + (qlq / 8) % 20)) (fun y => absurd y (by decide))) q6_perform rfl (m6 340 rfl) (m6 341 rfl) (m6 342 rfl) ⟨Nat.le_of_ble_eq_true rfl, Nat.le_of_ble_eq_true rfl⟩ hK hN [0] rfl hP hD [0, 3, 2] (by decide) rfl (ci := 6) (q0 := 0) rfl rfl rfl hl.1 rfl (Nat.le_of_ble_eq_true rfl) dX6_simulate_138 ⟨Nat.zero_le _, Nat.zero_le _⟩) hP hD hS [0, 3, 2] rfl (fun r u h => by obtain ⟨-, x17, hx18, rfl⟩ := h; rfl) (fun r9 u H locs hpost hP hD hS => ?_)
                  obtain ⟨hr9, x17, hx18, rfl⟩ := hpost
                  refine lv_as hr9 ?_
                  have hP : va_P D vwCl (bw [[(ob, .inr (6, [.ref so, .ref ho, .ref sl, .ref (dg 0), .ref (dc 0), .ref (dt 0)]))], zL cI dg z, zL cI dc (pfZ (zSw z8) 4 0 (nI (1 + (qlq / 8) % 20))), zL cI dt x17]) H := hP
                  have hD : va_D A (bw [[(ob, .inr (6, [.ref so, .ref ho, .ref sl, .ref (dg 0), .ref (dc 0), .ref (dt 0)]))], zL cI dg z, zL cI dc (pfZ (zSw z8) 4 0 (nI (1 + (qlq / 8) % 20))), zL cI dt x17]) := hD
                  refine lv_pop hx hb dX6_simulate_141 rfl ?_
                  refine lv_goto (tgt := 173) hx hb dX6_simulate_142 (by decide) ?_
                  refine lv_iinc (v := nI (j + 1)) (lv' := [(6, .int (nI (j + 1))), (7, .int (nI (qlq))), (4, .long (xlq)), (0, .ref ob), (3, .int (nI (x.toNatClampNeg)))]) hx hb dX6_simulate_173 hl (k := 4) rfl (nI_add _ 1) (by decide) rfl (fun ls hl => ?_)
                  refine lv_goto (tgt := 38) hx hb dX6_simulate_176 (by decide) ?_
                  have hP : va_P D vwCl (bw [[(ob, .inr (6, [.ref so, .ref ho, .ref sl, .ref (dg 0), .ref (dc 0), .ref (dt 0)]))], zL cI dg z, zL cI dc (rnZ z8 qlq), zL cI dt x17]) H := by
                    rw [show (rnZ z8 qlq) = (pfZ (zSw z8) 4 0 (nI (1 + (qlq / 8) % 20))) from by rw [rnZ, if_neg c87_13, if_pos c118_14]]
                    exact hP
                  have hD : va_D A (bw [[(ob, .inr (6, [.ref so, .ref ho, .ref sl, .ref (dg 0), .ref (dc 0), .ref (dt 0)]))], zL cI dg z, zL cI dc (rnZ z8 qlq), zL cI dt x17]) := by
                    rw [show (rnZ z8 qlq) = (pfZ (zSw z8) 4 0 (nI (1 + (qlq / 8) % 20))) from by rw [rnZ, if_neg c87_13, if_pos c118_14]]
                    exact hD
                  have hl : lv_has ls 8 [(6, .int (nI ((j + 1)))), (7, .int (nI (qlq))), (4, .long (xlq)), (0, .ref ob), (3, .int (nI (x.toNatClampNeg)))] := lv_re hl 0 rfl (show (nI (j + 1)) = nI ((j + 1)) from rfl)
                  exact ih38 (j + 1) xlq (rnZ z8 qlq) x17 (by omega) (by rw [rnZ, if_neg c87_13, if_pos c118_14]; exact inv_pf hISw (by omega) (fun y => absurd y (by decide)) (fun _ => ⟨_, by omega, rfl⟩)) (hx18) (by rw [eq8, exlq]; exact smZ_n hm hs8) (by omega) _ _ hP hD hS _ (lv_sub hl [3, 4, 2, 0] rfl)
              · skip
                have c87_13 := cn_eq (a := qlq % 8) (b := 0) (by omega) (by omega) c87_13
                refine lv_aload_n hx hb dX6_simulate_90 rfl (lv_at hl 2 rfl) ?_
                refine lv_aload_n hx hb dX6_simulate_91 rfl (lv_at hl 2 rfl) ?_
                refine va_get (D := D) (ci := 6) (v := .ref (dc 0)) (C := RX6) (T := TX6) (N := 6) hx hb hts u6_X6 hown hK hP 0 rfl rfl 4 (by decide) (hts _ (m6 261 rfl)) (fun _ h9 => h9) rfl dX6_simulate_92 ?_
                refine lv_iconst (v := 2) hx hb dX6_simulate_95 (by decide) ?_
                refine lv_iload hx hb dX6_simulate_96 (lv_at hl 0 rfl) ?_
                refine lv_bipush (v := 8) hx hb dX6_simulate_98 (by decide) ?_
                refine lv_idiv hx hb dX6_simulate_100 (by decide) ?_
                refine lv_as (y := nI (qlq / 8)) (pk_div (a := qlq) (d := 8) (by omega) (by decide) (by decide)) ?_
                refine lv_bipush (v := 16) hx hb dX6_simulate_101 (by decide) ?_
                refine lv_irem hx hb dX6_simulate_103 (by decide) ?_
                refine lv_as (y := nI ((qlq / 8) % 16)) (pk_rem (a := qlq / 8) (d := 16) (by omega) (by decide) (by decide)) ?_
                refine lv_iconst (v := 0) hx hb dX6_simulate_104 (by decide) ?_
                refine bq_backi (bq_runV hX good6 (m6 31 rfl) (c6_perform l D cI ob so ho sl dg dc dt zt8 hB8t dc (zSw z8) hISw 2 ((qlq / 8) % 16) (by omega) (by omega) (by omega) 0 (fun y => absurd y (by decide))) q6_perform rfl (m6 340 rfl) (m6 341 rfl) (m6 342 rfl) ⟨Nat.le_of_ble_eq_true rfl, Nat.le_of_ble_eq_true rfl⟩ hK hN [0] rfl hP hD [0, 3, 2] (by decide) rfl (ci := 6) (q0 := 0) rfl rfl rfl hl.1 rfl (Nat.le_of_ble_eq_true rfl) dX6_simulate_105 ⟨Nat.zero_le _, Nat.zero_le _⟩) hP hD hS [0, 3, 2] rfl (fun r u h => by obtain ⟨-, x19, hx20, rfl⟩ := h; rfl) (fun r9 u H locs hpost hP hD hS => ?_)
                obtain ⟨hr9, x19, hx20, rfl⟩ := hpost
                refine lv_as hr9 ?_
                have hP : va_P D vwCl (bw [[(ob, .inr (6, [.ref so, .ref ho, .ref sl, .ref (dg 0), .ref (dc 0), .ref (dt 0)]))], zL cI dg z, zL cI dc (pfZ (zSw z8) 2 ((qlq / 8) % 16) 0), zL cI dt x19]) H := hP
                have hD : va_D A (bw [[(ob, .inr (6, [.ref so, .ref ho, .ref sl, .ref (dg 0), .ref (dc 0), .ref (dt 0)]))], zL cI dg z, zL cI dc (pfZ (zSw z8) 2 ((qlq / 8) % 16) 0), zL cI dt x19]) := hD
                refine lv_pop hx hb dX6_simulate_108 rfl ?_
                refine lv_goto (tgt := 173) hx hb dX6_simulate_109 (by decide) ?_
                refine lv_iinc (v := nI (j + 1)) (lv' := [(6, .int (nI (j + 1))), (7, .int (nI (qlq))), (4, .long (xlq)), (0, .ref ob), (3, .int (nI (x.toNatClampNeg)))]) hx hb dX6_simulate_173 hl (k := 4) rfl (nI_add _ 1) (by decide) rfl (fun ls hl => ?_)
                refine lv_goto (tgt := 38) hx hb dX6_simulate_176 (by decide) ?_
                have hP : va_P D vwCl (bw [[(ob, .inr (6, [.ref so, .ref ho, .ref sl, .ref (dg 0), .ref (dc 0), .ref (dt 0)]))], zL cI dg z, zL cI dc (rnZ z8 qlq), zL cI dt x19]) H := by
                  rw [show (rnZ z8 qlq) = (pfZ (zSw z8) 2 ((qlq / 8) % 16) 0) from by rw [rnZ, if_pos c87_13]]
                  exact hP
                have hD : va_D A (bw [[(ob, .inr (6, [.ref so, .ref ho, .ref sl, .ref (dg 0), .ref (dc 0), .ref (dt 0)]))], zL cI dg z, zL cI dc (rnZ z8 qlq), zL cI dt x19]) := by
                  rw [show (rnZ z8 qlq) = (pfZ (zSw z8) 2 ((qlq / 8) % 16) 0) from by rw [rnZ, if_pos c87_13]]
                  exact hD
                have hl : lv_has ls 8 [(6, .int (nI ((j + 1)))), (7, .int (nI (qlq))), (4, .long (xlq)), (0, .ref ob), (3, .int (nI (x.toNatClampNeg)))] := lv_re hl 0 rfl (show (nI (j + 1)) = nI ((j + 1)) from rfl)
                exact ih38 (j + 1) xlq (rnZ z8 qlq) x19 (by omega) (by rw [rnZ, if_pos c87_13]; exact inv_pf hISw (by omega) (fun y => absurd y (by decide)) (fun y => absurd y (by decide))) (hx20) (by rw [eq8, exlq]; exact smZ_n hm hs8) (by omega) _ _ hP hD hS _ (lv_sub hl [3, 4, 2, 0] rfl)
      have hl : lv_has ls 8 [(6, .int (nI (0))), (4, .long (sd)), (0, .ref ob), (1, .long (sd)), (3, .int (nI (x.toNatClampNeg)))] := lv_re hl 0 rfl (show 0 = nI (0) from rfl)
      exact LP38 ((x.toNatClampNeg - 0) + 1) 0 sd z zt (by omega) (hz) (hBt) (rfl) (by omega) _ _ hP hD hS _ (lv_sub hl [2, 4, 1, 0] rfl)
    · skip
      have c8_2 := i_lt c8_2
      exact ge_tia hst hX hEx hnt hlocks hE hSW hZ hS hP (m6 272 rfl) (m6 273 rfl) (show (254, _) ∈ xT from List.mem_of_getElem? (i := 23) rfl) ⟨⟨rfl, by rw [c6sim, if_neg (fun y => y.2 c8_2)]⟩, _, _, hBc, hBt, rfl⟩ hl.1 dX6_simulate_11 dX6_simulate_14 dX6_simulate_15 dX6_simulate_17 dX6_simulate_20 (Nat.le_of_ble_eq_true rfl) (Nat.le_of_ble_eq_true rfl) (Nat.le_of_ble_eq_true rfl) (Nat.le_of_ble_eq_true rfl) (Nat.le_of_ble_eq_true rfl) (Nat.le_of_ble_eq_true rfl)
