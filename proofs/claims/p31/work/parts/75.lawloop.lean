-- THE LAW'S LOOP
theorem dL_law_0 : decode cL_law 0 = .ok (.new 10, 3) := by decide +kernel
theorem dL_law_3 : decode cL_law 3 = .ok (.dup, 1) := by decide +kernel
theorem dL_law_4 : decode cL_law 4 = .ok (.invokespecial 216, 3) := by decide +kernel
theorem dL_law_7 : decode cL_law 7 = .ok (.astore_n 1, 1) := by decide +kernel
theorem dL_law_8 : decode cL_law 8 = .ok (.new 10, 3) := by decide +kernel
theorem dL_law_11 : decode cL_law 11 = .ok (.dup, 1) := by decide +kernel
theorem dL_law_12 : decode cL_law 12 = .ok (.invokespecial 216, 3) := by decide +kernel
theorem dL_law_15 : decode cL_law 15 = .ok (.astore_n 2, 1) := by decide +kernel
theorem dL_law_16 : decode cL_law 16 = .ok (.aload_n 1, 1) := by decide +kernel
theorem dL_law_17 : decode cL_law 17 = .ok (.aload_n 2, 1) := by decide +kernel
theorem dL_law_18 : decode cL_law 18 = .ok (.aload_n 0, 1) := by decide +kernel
theorem dL_law_19 : decode cL_law 19 = .ok (.iconst 0, 1) := by decide +kernel
theorem dL_law_20 : decode cL_law 20 = .ok (.invokestatic 217, 3) := by decide +kernel
theorem dL_law_23 : decode cL_law 23 = .ok (.invokestatic 221, 3) := by decide +kernel
theorem dL_law_26 : decode cL_law 26 = .ok (.ifCond .eq 21, 3) := by decide +kernel
theorem dL_law_29 : decode cL_law 29 = .ok (.aload_n 1, 1) := by decide +kernel
theorem dL_law_30 : decode cL_law 30 = .ok (.invokestatic 225, 3) := by decide +kernel
theorem dL_law_33 : decode cL_law 33 = .ok (.ifCond .eq 14, 3) := by decide +kernel
theorem dL_law_36 : decode cL_law 36 = .ok (.aload_n 1, 1) := by decide +kernel
theorem dL_law_37 : decode cL_law 37 = .ok (.invokestatic 229, 3) := by decide +kernel
theorem dL_law_40 : decode cL_law 40 = .ok (.ifCond .eq 7, 3) := by decide +kernel
theorem dL_law_43 : decode cL_law 43 = .ok (.iconst 1, 1) := by decide +kernel
theorem dL_law_44 : decode cL_law 44 = .ok (.goto 4, 3) := by decide +kernel
theorem dL_law_48 : decode cL_law 48 = .ok (.istore_n 3, 1) := by decide +kernel
theorem dL_law_49 : decode cL_law 49 = .ok (.iconst 0, 1) := by decide +kernel
theorem dL_law_50 : decode cL_law 50 = .ok (.istore 4, 2) := by decide +kernel
theorem dL_law_52 : decode cL_law 52 = .ok (.iload 4, 2) := by decide +kernel
theorem dL_law_54 : decode cL_law 54 = .ok (.bipush 54, 2) := by decide +kernel
theorem dL_law_56 : decode cL_law 56 = .ok (.if_icmp .ge 220, 3) := by decide +kernel
theorem dL_law_59 : decode cL_law 59 = .ok (.iload_n 3, 1) := by decide +kernel
theorem dL_law_60 : decode cL_law 60 = .ok (.ifCond .eq 216, 3) := by decide +kernel
theorem dL_law_63 : decode cL_law 63 = .ok (.aload_n 0, 1) := by decide +kernel
theorem dL_law_64 : decode cL_law 64 = .ok (.iconst 2, 1) := by decide +kernel
theorem dL_law_65 : decode cL_law 65 = .ok (.iload 4, 2) := by decide +kernel
theorem dL_law_67 : decode cL_law 67 = .ok (.imul, 1) := by decide +kernel
theorem dL_law_68 : decode cL_law 68 = .ok (.invokestatic 217, 3) := by decide +kernel
theorem dL_law_71 : decode cL_law 71 = .ok (.istore 5, 2) := by decide +kernel
theorem dL_law_73 : decode cL_law 73 = .ok (.aload_n 0, 1) := by decide +kernel
theorem dL_law_74 : decode cL_law 74 = .ok (.iconst 2, 1) := by decide +kernel
theorem dL_law_75 : decode cL_law 75 = .ok (.iload 4, 2) := by decide +kernel
theorem dL_law_77 : decode cL_law 77 = .ok (.imul, 1) := by decide +kernel
theorem dL_law_78 : decode cL_law 78 = .ok (.iconst 1, 1) := by decide +kernel
theorem dL_law_79 : decode cL_law 79 = .ok (.iadd, 1) := by decide +kernel
theorem dL_law_80 : decode cL_law 80 = .ok (.invokestatic 217, 3) := by decide +kernel
theorem dL_law_83 : decode cL_law 83 = .ok (.istore 6, 2) := by decide +kernel
theorem dL_law_85 : decode cL_law 85 = .ok (.iload 4, 2) := by decide +kernel
theorem dL_law_87 : decode cL_law 87 = .ok (.bipush 27, 2) := by decide +kernel
theorem dL_law_89 : decode cL_law 89 = .ok (.irem, 1) := by decide +kernel
theorem dL_law_90 : decode cL_law 90 = .ok (.ifCond .ne 46, 3) := by decide +kernel
theorem dL_law_93 : decode cL_law 93 = .ok (.aload_n 1, 1) := by decide +kernel
theorem dL_law_94 : decode cL_law 94 = .ok (.iload 5, 2) := by decide +kernel
theorem dL_law_96 : decode cL_law 96 = .ok (.iload 6, 2) := by decide +kernel
theorem dL_law_98 : decode cL_law 98 = .ok (.invokestatic 232, 3) := by decide +kernel
theorem dL_law_101 : decode cL_law 101 = .ok (.ifCond .eq 30, 3) := by decide +kernel
theorem dL_law_104 : decode cL_law 104 = .ok (.aload_n 2, 1) := by decide +kernel
theorem dL_law_105 : decode cL_law 105 = .ok (.iload 5, 2) := by decide +kernel
theorem dL_law_107 : decode cL_law 107 = .ok (.iload 6, 2) := by decide +kernel
theorem dL_law_109 : decode cL_law 109 = .ok (.invokestatic 232, 3) := by decide +kernel
theorem dL_law_112 : decode cL_law 112 = .ok (.ifCond .eq 19, 3) := by decide +kernel
theorem dL_law_115 : decode cL_law 115 = .ok (.aload_n 1, 1) := by decide +kernel
theorem dL_law_116 : decode cL_law 116 = .ok (.invokestatic 235, 3) := by decide +kernel
theorem dL_law_119 : decode cL_law 119 = .ok (.aload_n 2, 1) := by decide +kernel
theorem dL_law_120 : decode cL_law 120 = .ok (.invokestatic 235, 3) := by decide +kernel
theorem dL_law_123 : decode cL_law 123 = .ok (.lcmp, 1) := by decide +kernel
theorem dL_law_124 : decode cL_law 124 = .ok (.ifCond .ne 7, 3) := by decide +kernel
theorem dL_law_127 : decode cL_law 127 = .ok (.iconst 1, 1) := by decide +kernel
theorem dL_law_128 : decode cL_law 128 = .ok (.goto 4, 3) := by decide +kernel
theorem dL_law_132 : decode cL_law 132 = .ok (.istore_n 3, 1) := by decide +kernel
theorem dL_law_133 : decode cL_law 133 = .ok (.goto 137, 3) := by decide +kernel
theorem dL_law_136 : decode cL_law 136 = .ok (.aload_n 1, 1) := by decide +kernel
theorem dL_law_137 : decode cL_law 137 = .ok (.iload 5, 2) := by decide +kernel
theorem dL_law_139 : decode cL_law 139 = .ok (.iload 6, 2) := by decide +kernel
theorem dL_law_141 : decode cL_law 141 = .ok (.invokestatic 237, 3) := by decide +kernel
theorem dL_law_144 : decode cL_law 144 = .ok (.aload_n 2, 1) := by decide +kernel
theorem dL_law_145 : decode cL_law 145 = .ok (.iload 5, 2) := by decide +kernel
theorem dL_law_147 : decode cL_law 147 = .ok (.iload 6, 2) := by decide +kernel
theorem dL_law_149 : decode cL_law 149 = .ok (.invokestatic 237, 3) := by decide +kernel
theorem dL_law_152 : decode cL_law 152 = .ok (.lcmp, 1) := by decide +kernel
theorem dL_law_153 : decode cL_law 153 = .ok (.ifCond .ne 7, 3) := by decide +kernel
theorem dL_law_156 : decode cL_law 156 = .ok (.iconst 1, 1) := by decide +kernel
theorem dL_law_157 : decode cL_law 157 = .ok (.goto 4, 3) := by decide +kernel
theorem dL_law_161 : decode cL_law 161 = .ok (.istore_n 3, 1) := by decide +kernel
theorem dL_law_162 : decode cL_law 162 = .ok (.iload 4, 2) := by decide +kernel
theorem dL_law_164 : decode cL_law 164 = .ok (.iconst 5, 1) := by decide +kernel
theorem dL_law_165 : decode cL_law 165 = .ok (.irem, 1) := by decide +kernel
theorem dL_law_166 : decode cL_law 166 = .ok (.ifCond .ne 27, 3) := by decide +kernel
theorem dL_law_169 : decode cL_law 169 = .ok (.iload_n 3, 1) := by decide +kernel
theorem dL_law_170 : decode cL_law 170 = .ok (.ifCond .eq 21, 3) := by decide +kernel
theorem dL_law_173 : decode cL_law 173 = .ok (.aload_n 2, 1) := by decide +kernel
theorem dL_law_174 : decode cL_law 174 = .ok (.invokestatic 225, 3) := by decide +kernel
theorem dL_law_177 : decode cL_law 177 = .ok (.ifCond .eq 14, 3) := by decide +kernel
theorem dL_law_180 : decode cL_law 180 = .ok (.aload_n 2, 1) := by decide +kernel
theorem dL_law_181 : decode cL_law 181 = .ok (.invokestatic 229, 3) := by decide +kernel
theorem dL_law_184 : decode cL_law 184 = .ok (.ifCond .eq 7, 3) := by decide +kernel
theorem dL_law_187 : decode cL_law 187 = .ok (.iconst 1, 1) := by decide +kernel
theorem dL_law_188 : decode cL_law 188 = .ok (.goto 4, 3) := by decide +kernel
theorem dL_law_192 : decode cL_law 192 = .ok (.istore_n 3, 1) := by decide +kernel
theorem dL_law_193 : decode cL_law 193 = .ok (.iload 4, 2) := by decide +kernel
theorem dL_law_195 : decode cL_law 195 = .ok (.bipush 9, 2) := by decide +kernel
theorem dL_law_197 : decode cL_law 197 = .ok (.irem, 1) := by decide +kernel
theorem dL_law_198 : decode cL_law 198 = .ok (.bipush 8, 2) := by decide +kernel
theorem dL_law_200 : decode cL_law 200 = .ok (.if_icmp .ne 42, 3) := by decide +kernel
theorem dL_law_203 : decode cL_law 203 = .ok (.iload_n 3, 1) := by decide +kernel
theorem dL_law_204 : decode cL_law 204 = .ok (.ifCond .eq 36, 3) := by decide +kernel
theorem dL_law_207 : decode cL_law 207 = .ok (.aload_n 2, 1) := by decide +kernel
theorem dL_law_208 : decode cL_law 208 = .ok (.iload 6, 2) := by decide +kernel
theorem dL_law_210 : decode cL_law 210 = .ok (.invokestatic 240, 3) := by decide +kernel
theorem dL_law_213 : decode cL_law 213 = .ok (.ifCond .eq 27, 3) := by decide +kernel
theorem dL_law_216 : decode cL_law 216 = .ok (.aload_n 1, 1) := by decide +kernel
theorem dL_law_217 : decode cL_law 217 = .ok (.iconst 1, 1) := by decide +kernel
theorem dL_law_218 : decode cL_law 218 = .ok (.invokestatic 166, 3) := by decide +kernel
theorem dL_law_221 : decode cL_law 221 = .ok (.lconst 0, 1) := by decide +kernel
theorem dL_law_222 : decode cL_law 222 = .ok (.lcmp, 1) := by decide +kernel
theorem dL_law_223 : decode cL_law 223 = .ok (.ifCond .lt 17, 3) := by decide +kernel
theorem dL_law_226 : decode cL_law 226 = .ok (.aload_n 1, 1) := by decide +kernel
theorem dL_law_227 : decode cL_law 227 = .ok (.iconst 1, 1) := by decide +kernel
theorem dL_law_228 : decode cL_law 228 = .ok (.invokestatic 168, 3) := by decide +kernel
theorem dL_law_231 : decode cL_law 231 = .ok (.lconst 0, 1) := by decide +kernel
theorem dL_law_232 : decode cL_law 232 = .ok (.lcmp, 1) := by decide +kernel
theorem dL_law_233 : decode cL_law 233 = .ok (.ifCond .lt 7, 3) := by decide +kernel
theorem dL_law_236 : decode cL_law 236 = .ok (.iconst 1, 1) := by decide +kernel
theorem dL_law_237 : decode cL_law 237 = .ok (.goto 4, 3) := by decide +kernel
theorem dL_law_241 : decode cL_law 241 = .ok (.istore_n 3, 1) := by decide +kernel
theorem dL_law_242 : decode cL_law 242 = .ok (.iload_n 3, 1) := by decide +kernel
theorem dL_law_243 : decode cL_law 243 = .ok (.ifCond .eq 25, 3) := by decide +kernel
theorem dL_law_246 : decode cL_law 246 = .ok (.iload 4, 2) := by decide +kernel
theorem dL_law_248 : decode cL_law 248 = .ok (.bipush 6, 2) := by decide +kernel
theorem dL_law_250 : decode cL_law 250 = .ok (.irem, 1) := by decide +kernel
theorem dL_law_251 : decode cL_law 251 = .ok (.ifCond .gt 13, 3) := by decide +kernel
theorem dL_law_254 : decode cL_law 254 = .ok (.aload_n 1, 1) := by decide +kernel
theorem dL_law_255 : decode cL_law 255 = .ok (.aload_n 2, 1) := by decide +kernel
theorem dL_law_256 : decode cL_law 256 = .ok (.iload 6, 2) := by decide +kernel
theorem dL_law_258 : decode cL_law 258 = .ok (.invokestatic 221, 3) := by decide +kernel
theorem dL_law_261 : decode cL_law 261 = .ok (.ifCond .eq 7, 3) := by decide +kernel
theorem dL_law_264 : decode cL_law 264 = .ok (.iconst 1, 1) := by decide +kernel
theorem dL_law_265 : decode cL_law 265 = .ok (.goto 4, 3) := by decide +kernel
theorem dL_law_269 : decode cL_law 269 = .ok (.istore_n 3, 1) := by decide +kernel
theorem dL_law_270 : decode cL_law 270 = .ok (.iinc 4 1, 3) := by decide +kernel
theorem dL_law_273 : decode cL_law 273 = .ok (.goto (-221), 3) := by decide +kernel
theorem dL_law_276 : decode cL_law 276 = .ok (.iload_n 3, 1) := by decide +kernel
theorem dL_law_277 : decode cL_law 277 = .ok (.ifCond .eq 17, 3) := by decide +kernel
theorem dL_law_280 : decode cL_law 280 = .ok (.aload_n 1, 1) := by decide +kernel
theorem dL_law_281 : decode cL_law 281 = .ok (.aload_n 2, 1) := by decide +kernel
theorem dL_law_282 : decode cL_law 282 = .ok (.ldc 243, 2) := by decide +kernel
theorem dL_law_284 : decode cL_law 284 = .ok (.invokestatic 221, 3) := by decide +kernel
theorem dL_law_287 : decode cL_law 287 = .ok (.ifCond .eq 7, 3) := by decide +kernel
theorem dL_law_290 : decode cL_law 290 = .ok (.iconst 1, 1) := by decide +kernel
theorem dL_law_291 : decode cL_law 291 = .ok (.goto 4, 3) := by decide +kernel
theorem dL_law_295 : decode cL_law 295 = .ok (.ireturn, 1) := by decide +kernel
set_option maxHeartbeats 8000000 in
set_option maxRecDepth 100000 in
theorem law_run {p : Program} {l : Launch} {e : Env} {s : State} {m : MethodId} {below : List Frame} {meth : Method} {c : Code} {Q : State → Prop} {D : va_G} {A : Nat → Prop} {cI cL cZ : ClassId} {Gs : Nat → Geo} {b L : Nat} {xs : Nat → Int32} {H : Heap} {locs : List Loc} {ls : Array Slot} (hst : l.stackTraces = false) (hF : LF p m c cL_law 7 s #[Value.ref b] D cI cL cZ A) (hXs : va_X b L xs s s.heap) (hbl : b < s.heap.size) (hbA : ¬ A b) (hL : L < 2 ^ 31) (hG : GeoOk (Gs 0)) (hG1 : GeoOk (Gs 1)) (hend : ∀ (H : Heap) (locs : List Loc) (ls : Array Slot) (cells slots : Nat), cells ≤ 600130 → slots ≤ 7301080 → va_S A s.heap H locs → W p l e room_1 s m #[Value.ref b] below meth c H locs cells slots Q (F0 m 295 ls [.int 1])) (hw : LO D cI cL cZ A s Gs [a0S, a0S] H locs) (hl : lv_has ls 7 [(2, .ref ((Gs 1).1 1)), (1, .ref ((Gs 0).1 1)), (0, .ref b)]) : W p l e room_1 s m #[Value.ref b] below meth c H locs (1420) (6 * (1420)) Q (F0 m 16 ls []) := by
  have hx := hF.1.1
  have hb := hF.1.2.1
  have hown := hF.1.2.2.2.1
  have hts := hF.1.2.2.2.2
  refine lv_aload_n hx hb dL_law_16 rfl (lv_at hl 1 rfl) ?_
  refine lv_aload_n hx hb dL_law_17 rfl (lv_at hl 0 rfl) ?_
  refine lv_aload_n hx hb dL_law_18 rfl (lv_at hl 2 rfl) ?_
  refine lv_iconst (v := 0) hx hb dL_law_19 (by decide) ?_
  refine dr_call (k := 0) hF hXs hbl hbA hL (by omega) hw ⟨Nat.le_of_ble_eq_true rfl, Nat.le_of_ble_eq_true rfl⟩ hl.1 (Nat.le_of_ble_eq_true rfl) dL_law_20 ⟨by show _ ≤ (600130 : Nat); omega, by show _ ≤ (7301080 : Nat); omega⟩ (fun x hx9 H locs hw => ?_)
  refine lo_callZ hF (c_alike l hst D cI cL cZ Gs hG hG1 a0S ⟨ox_0.1, ox_0.2.1.1⟩ x (by omega)) k_alike ⟨Nat.le_of_ble_eq_true rfl, Nat.le_of_ble_eq_true rfl⟩ hw [0, 1] (by decide) rfl (hg_two rfl rfl) rfl hl.1 rfl (Nat.le_of_ble_eq_true rfl) dL_law_23 ⟨by show _ ≤ (600130 : Nat); omega, by show _ ≤ (7301080 : Nat); omega⟩ (fun H locs hw => ?_)
  have hw : LO D cI cL cZ A s Gs [a0S, a0S] H locs := hw
  refine W.widen (k := 1420 + 420) (n := 6 * (1420 + 420)) (Nat.le_refl _) (by omega) ?_
  refine lv_if_eq (tgt := 47) hx hb dL_law_26 (by decide) (fun c26 => ?_) (fun c26 => ?_)
  · skip
    exact absurd c26 (by decide)
  · skip
    refine lv_aload_n hx hb dL_law_29 rfl (lv_at hl 1 rfl) ?_
    refine lo_callZ hF (c_errors l hst D cI cL cZ (fun _ => Gs 0) hG a0S ⟨ox_0.1, ox_0.2.1.1⟩ ) k_errors ⟨Nat.le_of_ble_eq_true rfl, Nat.le_of_ble_eq_true rfl⟩ hw [0] (by decide) rfl (hg_one rfl) rfl hl.1 rfl (Nat.le_of_ble_eq_true rfl) dL_law_30 ⟨by show _ ≤ (600130 : Nat); omega, by show _ ≤ (7301080 : Nat); omega⟩ (fun H locs hw => ?_)
    have hw : LO D cI cL cZ A s Gs [a0S, a0S] H locs := hw
    refine W.widen (k := 1420 + 420 + 460) (n := 6 * (1420 + 420 + 460)) (Nat.le_refl _) (by omega) ?_
    refine lv_if_eq (tgt := 47) hx hb dL_law_33 (by decide) (fun c33 => ?_) (fun c33 => ?_)
    · skip
      exact absurd c33 (by decide)
    · skip
      refine lv_aload_n hx hb dL_law_36 rfl (lv_at hl 1 rfl) ?_
      refine lo_callZ hF (c_kept l hst D cI cL cZ (fun _ => Gs 0) hG a0S ox_0.1 ox_0.2.1) k_kept ⟨Nat.le_of_ble_eq_true rfl, Nat.le_of_ble_eq_true rfl⟩ hw [0] (by decide) rfl (hg_one rfl) rfl hl.1 rfl (Nat.le_of_ble_eq_true rfl) dL_law_37 ⟨by show _ ≤ (600130 : Nat); omega, by show _ ≤ (7301080 : Nat); omega⟩ (fun H locs hw => ?_)
      have hw : LO D cI cL cZ A s Gs [a0S, a0S] H locs := hw
      refine W.widen (k := 1420 + 420 + 460 + 3600) (n := 6 * (1420 + 420 + 460 + 3600)) (Nat.le_refl _) (by omega) ?_
      refine lv_if_eq (tgt := 47) hx hb dL_law_40 (by decide) (fun c40 => ?_) (fun c40 => ?_)
      · skip
        exact absurd c40 (by decide)
      · skip
        refine lv_iconst (v := 1) hx hb dL_law_43 (by decide) ?_
        refine lv_goto (tgt := 48) hx hb dL_law_44 (by decide) ?_
        refine lv_istore_n (lv' := [(3, .int (1)), (2, .ref ((Gs 1).1 1)), (1, .ref ((Gs 0).1 1)), (0, .ref b)]) hx hb dL_law_48 rfl hl (by decide) rfl (fun ls hl => ?_)
        refine lv_iconst (v := 0) hx hb dL_law_49 (by decide) ?_
        refine lv_istore (lv' := [(4, .int (0)), (3, .int (1)), (2, .ref ((Gs 1).1 1)), (1, .ref ((Gs 0).1 1)), (0, .ref b)]) hx hb dL_law_50 hl (by decide) rfl (fun ls hl => ?_)
        have LP52 : ∀ n9 : Nat, ∀ (k : Nat) (a : AS) (H : Heap) (locs : List Loc) (ls : Array Slot), (hk9 : k ≤ 54) → (hO : OkX a) → 54 - k < n9 → LO D cI cL cZ A s Gs [a, a] H locs → lv_has ls 7 [(4, .int (nI (k))), (3, .int (1)), (2, .ref ((Gs 1).1 1)), (1, .ref ((Gs 0).1 1)), (0, .ref b)] → W p l e room_1 s m #[Value.ref b] below meth c H locs (5900 + 6290 * k) (6 * (5900 + 6290 * k)) Q (F0 m 52 ls []) := by
          intro n9
          induction n9 with
          | zero => intros; omega
          | succ n9 ih52 =>
            intro k a H locs ls hk9 hO hm9 hw hl
            refine lv_iload hx hb dL_law_52 (lv_at hl 0 rfl) ?_
            refine lv_bipush (v := 54) hx hb dL_law_54 (by decide) ?_
            refine lv_icmp_ge (tgt := 276) hx hb dL_law_56 (by decide) (fun c56 => ?_) (fun c56 => ?_)
            · skip
              have c56 := cn_le (a := 54) (b := k) (by omega) (by omega) c56
              refine lv_iload_n hx hb dL_law_276 rfl (lv_at hl 1 rfl) ?_
              refine lv_if_eq (tgt := 294) hx hb dL_law_277 (by decide) (fun c277 => ?_) (fun c277 => ?_)
              · skip
                exact absurd c277 (by decide)
              · skip
                refine lv_aload_n hx hb dL_law_280 rfl (lv_at hl 3 rfl) ?_
                refine lv_aload_n hx hb dL_law_281 rfl (lv_at hl 2 rfl) ?_
                refine lv_ldc (v := 83003) hx hb hown (hts _ (mlA 222 rfl)) dL_law_282 ?_
                refine lo_callZ hF (c_alike l hst D cI cL cZ Gs hG hG1 a ⟨hO.1, hO.2.1.1⟩ 83003 (by omega)) k_alike ⟨Nat.le_of_ble_eq_true rfl, Nat.le_of_ble_eq_true rfl⟩ hw [0, 1] (by decide) rfl (hg_two rfl rfl) rfl hl.1 rfl (Nat.le_of_ble_eq_true rfl) dL_law_284 ⟨by show _ ≤ (600130 : Nat); omega, by show _ ≤ (7301080 : Nat); omega⟩ (fun H locs hw => ?_)
                have hw : LO D cI cL cZ A s Gs [a, a] H locs := hw
                refine W.widen (k := 5900 + 6290 * k + 420) (n := 6 * (5900 + 6290 * k + 420)) (Nat.le_refl _) (by omega) ?_
                refine lv_if_eq (tgt := 294) hx hb dL_law_287 (by decide) (fun c287 => ?_) (fun c287 => ?_)
                · skip
                  exact absurd c287 (by decide)
                · skip
                  refine lv_iconst (v := 1) hx hb dL_law_290 (by decide) ?_
                  refine lv_goto (tgt := 295) hx hb dL_law_291 (by decide) ?_
                  exact hend _ _ _ _ _ (by omega) (by omega) (lo_S hw)
            · skip
              have c56 := cn_nle (a := 54) (b := k) (by omega) (by omega) c56
              refine lv_iload_n hx hb dL_law_59 rfl (lv_at hl 1 rfl) ?_
              refine lv_if_eq (tgt := 276) hx hb dL_law_60 (by decide) (fun c60 => ?_) (fun c60 => ?_)
              · skip
                exact absurd c60 (by decide)
              · skip
                have hk54 : k < 54 := by omega
                refine lv_aload_n hx hb dL_law_63 rfl (lv_at hl 4 rfl) ?_
                refine lv_iconst (v := 2) hx hb dL_law_64 (by decide) ?_
                refine lv_iload hx hb dL_law_65 (lv_at hl 0 rfl) ?_
                refine lv_imul hx hb dL_law_67 ?_
                refine lv_as (y := nI (2 * k)) (pk_mul (2) (k)) ?_
                refine dr_call (k := 2 * k) hF hXs hbl hbA hL (by omega) hw ⟨Nat.le_of_ble_eq_true rfl, Nat.le_of_ble_eq_true rfl⟩ hl.1 (Nat.le_of_ble_eq_true rfl) dL_law_68 ⟨by show _ ≤ (600130 : Nat); omega, by show _ ≤ (7301080 : Nat); omega⟩ (fun x hx9 H locs hw => ?_)
                refine lv_istore (lv' := [(5, .int (nI (x))), (4, .int (nI (k))), (3, .int (1)), (2, .ref ((Gs 1).1 1)), (1, .ref ((Gs 0).1 1)), (0, .ref b)]) hx hb dL_law_71 hl (by decide) rfl (fun ls hl => ?_)
                refine lv_aload_n hx hb dL_law_73 rfl (lv_at hl 5 rfl) ?_
                refine lv_iconst (v := 2) hx hb dL_law_74 (by decide) ?_
                refine lv_iload hx hb dL_law_75 (lv_at hl 1 rfl) ?_
                refine lv_imul hx hb dL_law_77 ?_
                refine lv_as (y := nI (2 * k)) (pk_mul (2) (k)) ?_
                refine lv_iconst (v := 1) hx hb dL_law_78 (by decide) ?_
                refine lv_iadd hx hb dL_law_79 ?_
                refine lv_as (y := nI (2 * k + 1)) (nI_add (2 * k) (1)) ?_
                refine dr_call (k := 2 * k + 1) hF hXs hbl hbA hL (by omega) hw ⟨Nat.le_of_ble_eq_true rfl, Nat.le_of_ble_eq_true rfl⟩ hl.1 (Nat.le_of_ble_eq_true rfl) dL_law_80 ⟨by show _ ≤ (600130 : Nat); omega, by show _ ≤ (7301080 : Nat); omega⟩ (fun y hy9 H locs hw => ?_)
                refine lv_istore (lv' := [(6, .int (nI (y))), (5, .int (nI (x))), (4, .int (nI (k))), (3, .int (1)), (2, .ref ((Gs 1).1 1)), (1, .ref ((Gs 0).1 1)), (0, .ref b)]) hx hb dL_law_83 hl (by decide) rfl (fun ls hl => ?_)
                have JP270 : ∀ (a9 : AS) (H : Heap) (locs : List Loc) (ls : Array Slot), (hO9 : OkX a9) → LO D cI cL cZ A s Gs [a9, a9] H locs → lv_has ls 7 [(4, .int (nI (k))), (3, .int (1)), (2, .ref ((Gs 1).1 1)), (1, .ref ((Gs 0).1 1)), (0, .ref b)] → W p l e room_1 s m #[Value.ref b] below meth c H locs (5900 + 6290 * k + 6286) (6 * (5900 + 6290 * k + 6286)) Q (F0 m 270 ls []) := by
                  intro a9 H locs ls hO9 hw hl
                  refine lv_iinc (v := nI (k + 1)) (lv' := [(4, .int (nI (k + 1))), (3, .int (1)), (2, .ref ((Gs 1).1 1)), (1, .ref ((Gs 0).1 1)), (0, .ref b)]) hx hb dL_law_270 hl (k := 0) rfl (nI_add _ 1) (by decide) rfl (fun ls hl => ?_)
                  refine lv_goto (tgt := 52) hx hb dL_law_273 (by decide) ?_
                  have hl : lv_has ls 7 [(4, .int (nI ((k + 1)))), (3, .int (1)), (2, .ref ((Gs 1).1 1)), (1, .ref ((Gs 0).1 1)), (0, .ref b)] := lv_re hl 0 rfl (show (nI (k + 1)) = nI ((k + 1)) from rfl)
                  exact W.widen (by omega) (by omega) (ih52 (k + 1) a9 _ _ _ (by omega) (hO9) (by omega) hw (lv_sub hl [0, 1, 2, 3, 4] rfl))
                have JP242 : ∀ (a9 : AS) (H : Heap) (locs : List Loc) (ls : Array Slot), (hO9 : OkX a9) → LO D cI cL cZ A s Gs [a9, a9] H locs → lv_has ls 7 [(6, .int (nI (y))), (4, .int (nI (k))), (3, .int (1)), (2, .ref ((Gs 1).1 1)), (1, .ref ((Gs 0).1 1)), (0, .ref b)] → W p l e room_1 s m #[Value.ref b] below meth c H locs (5900 + 6290 * k + 5864) (6 * (5900 + 6290 * k + 5864)) Q (F0 m 242 ls []) := by
                  intro a9 H locs ls hO9 hw hl
                  refine lv_iload_n hx hb dL_law_242 rfl (lv_at hl 2 rfl) ?_
                  refine lv_if_eq (tgt := 268) hx hb dL_law_243 (by decide) (fun c243 => ?_) (fun c243 => ?_)
                  · skip
                    exact absurd c243 (by decide)
                  · skip
                    refine lv_iload hx hb dL_law_246 (lv_at hl 1 rfl) ?_
                    refine lv_bipush (v := 6) hx hb dL_law_248 (by decide) ?_
                    refine lv_irem hx hb dL_law_250 (by decide) ?_
                    refine lv_as (y := nI (k % 6)) (pk_rem (a := k) (d := 6) (by omega) (by decide) (by decide)) ?_
                    refine lv_if_gt (tgt := 264) hx hb dL_law_251 (by decide) (fun c251 => ?_) (fun c251 => ?_)
                    · skip
                      have c251 := cn_lt (a := 0) (b := k % 6) (by omega) (by omega) c251
                      refine lv_iconst (v := 1) hx hb dL_law_264 (by decide) ?_
                      refine lv_goto (tgt := 269) hx hb dL_law_265 (by decide) ?_
                      refine lv_istore_n (lv' := [(3, .int (1)), (6, .int (nI (y))), (4, .int (nI (k))), (2, .ref ((Gs 1).1 1)), (1, .ref ((Gs 0).1 1)), (0, .ref b)]) hx hb dL_law_269 rfl hl (by decide) rfl (fun ls hl => ?_)
                      exact W.widen (by omega) (by omega) (JP270 a9 _ _ _ (hO9) hw (lv_sub hl [2, 0, 3, 4, 5] rfl))
                    · skip
                      have c251 := cn_nlt (a := 0) (b := k % 6) (by omega) (by omega) c251
                      refine lv_aload_n hx hb dL_law_254 rfl (lv_at hl 4 rfl) ?_
                      refine lv_aload_n hx hb dL_law_255 rfl (lv_at hl 3 rfl) ?_
                      refine lv_iload hx hb dL_law_256 (lv_at hl 0 rfl) ?_
                      refine lo_callZ hF (c_alike l hst D cI cL cZ Gs hG hG1 a9 ⟨hO9.1, hO9.2.1.1⟩ y (by omega)) k_alike ⟨Nat.le_of_ble_eq_true rfl, Nat.le_of_ble_eq_true rfl⟩ hw [0, 1] (by decide) rfl (hg_two rfl rfl) rfl hl.1 rfl (Nat.le_of_ble_eq_true rfl) dL_law_258 ⟨by show _ ≤ (600130 : Nat); omega, by show _ ≤ (7301080 : Nat); omega⟩ (fun H locs hw => ?_)
                      have hw : LO D cI cL cZ A s Gs [a9, a9] H locs := hw
                      refine W.widen (k := 5900 + 6290 * k + 5864 + 420) (n := 6 * (5900 + 6290 * k + 5864 + 420)) (Nat.le_refl _) (by omega) ?_
                      refine lv_if_eq (tgt := 268) hx hb dL_law_261 (by decide) (fun c261 => ?_) (fun c261 => ?_)
                      · skip
                        exact absurd c261 (by decide)
                      · skip
                        refine lv_iconst (v := 1) hx hb dL_law_264 (by decide) ?_
                        refine lv_goto (tgt := 269) hx hb dL_law_265 (by decide) ?_
                        refine lv_istore_n (lv' := [(3, .int (1)), (6, .int (nI (y))), (4, .int (nI (k))), (2, .ref ((Gs 1).1 1)), (1, .ref ((Gs 0).1 1)), (0, .ref b)]) hx hb dL_law_269 rfl hl (by decide) rfl (fun ls hl => ?_)
                        exact W.widen (by omega) (by omega) (JP270 a9 _ _ _ (hO9) hw (lv_sub hl [2, 0, 3, 4, 5] rfl))
                have JP193 : ∀ (a9 : AS) (H : Heap) (locs : List Loc) (ls : Array Slot), (hO9 : OkX a9) → LO D cI cL cZ A s Gs [a9, a9] H locs → lv_has ls 7 [(6, .int (nI (y))), (4, .int (nI (k))), (3, .int (1)), (2, .ref ((Gs 1).1 1)), (1, .ref ((Gs 0).1 1)), (0, .ref b)] → W p l e room_1 s m #[Value.ref b] below meth c H locs (5900 + 6290 * k + 4062) (6 * (5900 + 6290 * k + 4062)) Q (F0 m 193 ls []) := by
                  intro a9 H locs ls hO9 hw hl
                  refine lv_iload hx hb dL_law_193 (lv_at hl 1 rfl) ?_
                  refine lv_bipush (v := 9) hx hb dL_law_195 (by decide) ?_
                  refine lv_irem hx hb dL_law_197 (by decide) ?_
                  refine lv_as (y := nI (k % 9)) (pk_rem (a := k) (d := 9) (by omega) (by decide) (by decide)) ?_
                  refine lv_bipush (v := 8) hx hb dL_law_198 (by decide) ?_
                  refine lv_icmp_ne (tgt := 242) hx hb dL_law_200 (by decide) (fun c200 => ?_) (fun c200 => ?_)
                  · skip
                    have c200 := cn_ne (a := k % 9) (b := 8) (by omega) (by omega) c200
                    exact W.widen (by omega) (by omega) (JP242 a9 _ _ _ (hO9) hw (lv_sub hl [0, 1, 2, 3, 4, 5] rfl))
                  · skip
                    have c200 := cn_eq (a := k % 9) (b := 8) (by omega) (by omega) c200
                    refine lv_iload_n hx hb dL_law_203 rfl (lv_at hl 2 rfl) ?_
                    refine lv_if_eq (tgt := 240) hx hb dL_law_204 (by decide) (fun c204 => ?_) (fun c204 => ?_)
                    · skip
                      exact absurd c204 (by decide)
                    · skip
                      refine lv_aload_n hx hb dL_law_207 rfl (lv_at hl 3 rfl) ?_
                      refine lv_iload hx hb dL_law_208 (lv_at hl 0 rfl) ?_
                      refine lo_callZ hF (c_follows l hst D cI cL cZ (fun _ => Gs 1) hG1 a9 hO9.1 hO9.2.1 y (by omega)) k_follows ⟨Nat.le_of_ble_eq_true rfl, Nat.le_of_ble_eq_true rfl⟩ hw [1] (by decide) rfl (hg_one rfl) rfl hl.1 rfl (Nat.le_of_ble_eq_true rfl) dL_law_210 ⟨by show _ ≤ (600130 : Nat); omega, by show _ ≤ (7301080 : Nat); omega⟩ (fun H locs hw => ?_)
                      have hw : LO D cI cL cZ A s Gs [a9, fS a9 a9.2.1 []] H locs := hw
                      refine W.widen (k := 5900 + 6290 * k + 4062 + 1800) (n := 6 * (5900 + 6290 * k + 4062 + 1800)) (Nat.le_refl _) (by omega) ?_
                      refine lv_if_eq (tgt := 240) hx hb dL_law_213 (by decide) (fun c213 => ?_) (fun c213 => ?_)
                      · skip
                        exact absurd c213 (by decide)
                      · skip
                        refine lv_aload_n hx hb dL_law_216 rfl (lv_at hl 4 rfl) ?_
                        refine lv_iconst (v := 1) hx hb dL_law_217 (by decide) ?_
                        refine lo_callX hF (lx_eq (x_save (Gs := fun _ => Gs 0) hst hG ⟨hO9.1, hO9.2.1.1⟩ 1) (show _ = ((nI (ckZ a9.2.1 16)).toInt64) from (sa_ok (a := a9)).1) (show _ = [fS a9 a9.2.1 a9.2.2.1] from congrArg (fun y => [y]) (sa_ok (a := a9)).2)) k_save ⟨Nat.le_of_ble_eq_true rfl, Nat.le_of_ble_eq_true rfl⟩ hw [0] (by decide) rfl (hg_one rfl) rfl hl.1 rfl (Nat.le_of_ble_eq_true rfl) dL_law_218 ⟨by show _ ≤ (600130 : Nat); omega, by show _ ≤ (7301080 : Nat); omega⟩ (fun H locs hw => ?_)
                        have hw : LO D cI cL cZ A s Gs [fS a9 a9.2.1 a9.2.2.1, fS a9 a9.2.1 []] H locs := hw
                        refine W.widen (k := 5900 + 6290 * k + 4062 + 1800 + 1) (n := 6 * (5900 + 6290 * k + 4062 + 1800 + 1)) (Nat.le_refl _) (by omega) ?_
                        refine lv_lconst (v := 0) hx hb dL_law_221 (by decide) ?_
                        refine W.lcmp hx hb dL_law_222 ?_
                        refine lv_if_lt (tgt := 240) hx hb dL_law_223 (by decide) (fun c223 => ?_) (fun c223 => ?_)
                        · skip
                          have c223 := (lg_cmp_lt _ _).mp c223
                          exact absurd c223 (un_ge (Nat.le_trans (ck_16 (Nat.le_refl _)) (by decide)))
                        · skip
                          have c223 := (fun z => c223 ((lg_cmp_lt _ _).mpr z))
                          refine lv_aload_n hx hb dL_law_226 rfl (lv_at hl 4 rfl) ?_
                          refine lv_iconst (v := 1) hx hb dL_law_227 (by decide) ?_
                          refine lo_callX hF (lx_eq (x_restore (Gs := fun _ => Gs 0) hst hG (show Go (fS a9 a9.2.1 a9.2.2.1) from ⟨hO9.1, hO9.2.1.1⟩) 1) (show _ = ((nI (ckZ a9.2.1 16)).toInt64) from (rs_ok (a := a9) (z := a9.2.1) (h := a9.2.2.1)).1) (show _ = [fS a9 a9.2.1 []] from congrArg (fun y => [y]) (rs_ok (a := a9) (z := a9.2.1) (h := a9.2.2.1)).2)) k_restore ⟨Nat.le_of_ble_eq_true rfl, Nat.le_of_ble_eq_true rfl⟩ hw [0] (by decide) rfl (hg_one rfl) rfl hl.1 rfl (Nat.le_of_ble_eq_true rfl) dL_law_228 ⟨by show _ ≤ (600130 : Nat); omega, by show _ ≤ (7301080 : Nat); omega⟩ (fun H locs hw => ?_)
                          have hw : LO D cI cL cZ A s Gs [fS a9 a9.2.1 [], fS a9 a9.2.1 []] H locs := hw
                          refine W.widen (k := 5900 + 6290 * k + 4062 + 1800 + 1 + 1) (n := 6 * (5900 + 6290 * k + 4062 + 1800 + 1 + 1)) (Nat.le_refl _) (by omega) ?_
                          refine lv_lconst (v := 0) hx hb dL_law_231 (by decide) ?_
                          refine W.lcmp hx hb dL_law_232 ?_
                          refine lv_if_lt (tgt := 240) hx hb dL_law_233 (by decide) (fun c233 => ?_) (fun c233 => ?_)
                          · skip
                            have c233 := (lg_cmp_lt _ _).mp c233
                            exact absurd c233 (un_ge (Nat.le_trans (ck_16 (Nat.le_refl _)) (by decide)))
                          · skip
                            have c233 := (fun z => c233 ((lg_cmp_lt _ _).mpr z))
                            refine lv_iconst (v := 1) hx hb dL_law_236 (by decide) ?_
                            refine lv_goto (tgt := 241) hx hb dL_law_237 (by decide) ?_
                            refine lv_istore_n (lv' := [(3, .int (1)), (6, .int (nI (y))), (4, .int (nI (k))), (2, .ref ((Gs 1).1 1)), (1, .ref ((Gs 0).1 1)), (0, .ref b)]) hx hb dL_law_241 rfl hl (by decide) rfl (fun ls hl => ?_)
                            have hw : LO D cI cL cZ A s Gs [(fS a9 a9.2.1 []), (fS a9 a9.2.1 [])] H locs := by
                              rw [show ([(fS a9 a9.2.1 []), (fS a9 a9.2.1 [])] : List AS) = [fS a9 a9.2.1 [], fS a9 a9.2.1 []] from rfl]
                              exact hw
                            exact W.widen (by omega) (by omega) (JP242 (fS a9 a9.2.1 []) _ _ _ (ox_fS hO9) hw (lv_sub hl [1, 2, 0, 3, 4, 5] rfl))
                refine lv_iload hx hb dL_law_85 (lv_at hl 2 rfl) ?_
                refine lv_bipush (v := 27) hx hb dL_law_87 (by decide) ?_
                refine lv_irem hx hb dL_law_89 (by decide) ?_
                refine lv_as (y := nI (k % 27)) (pk_rem (a := k) (d := 27) (by omega) (by decide) (by decide)) ?_
                refine lv_if_ne (tgt := 136) hx hb dL_law_90 (by decide) (fun c90 => ?_) (fun c90 => ?_)
                · skip
                  have c90 := cn_ne (a := k % 27) (b := 0) (by omega) (by omega) c90
                  refine lv_aload_n hx hb dL_law_136 rfl (lv_at hl 5 rfl) ?_
                  refine lv_iload hx hb dL_law_137 (lv_at hl 1 rfl) ?_
                  refine lv_iload hx hb dL_law_139 (lv_at hl 0 rfl) ?_
                  refine lo_callJ hF (c_act l hst D cI cL cZ (fun _ => Gs 0) hG a ⟨hO.1, hO.2.1.1⟩ x y (by omega) (by omega)) k_act ⟨Nat.le_of_ble_eq_true rfl, Nat.le_of_ble_eq_true rfl⟩ hw [0] (by decide) rfl (hg_one rfl) rfl hl.1 rfl (Nat.le_of_ble_eq_true rfl) dL_law_141 ⟨by show _ ≤ (600130 : Nat); omega, by show _ ≤ (7301080 : Nat); omega⟩ (fun H locs hw => ?_)
                  have hw : LO D cI cL cZ A s Gs [(acR a x y).2, a] H locs := hw
                  refine W.widen (k := 5900 + 6290 * k + 1) (n := 6 * (5900 + 6290 * k + 1)) (Nat.le_refl _) (by omega) ?_
                  refine lv_aload_n hx hb dL_law_144 rfl (lv_at hl 4 rfl) ?_
                  refine lv_iload hx hb dL_law_145 (lv_at hl 1 rfl) ?_
                  refine lv_iload hx hb dL_law_147 (lv_at hl 0 rfl) ?_
                  refine lo_callJ hF (c_act l hst D cI cL cZ (fun _ => Gs 1) hG1 a ⟨hO.1, hO.2.1.1⟩ x y (by omega) (by omega)) k_act ⟨Nat.le_of_ble_eq_true rfl, Nat.le_of_ble_eq_true rfl⟩ hw [1] (by decide) rfl (hg_one rfl) rfl hl.1 rfl (Nat.le_of_ble_eq_true rfl) dL_law_149 ⟨by show _ ≤ (600130 : Nat); omega, by show _ ≤ (7301080 : Nat); omega⟩ (fun H locs hw => ?_)
                  have hw : LO D cI cL cZ A s Gs [(acR a x y).2, (acR a x y).2] H locs := hw
                  refine W.widen (k := 5900 + 6290 * k + 1 + 1) (n := 6 * (5900 + 6290 * k + 1 + 1)) (Nat.le_refl _) (by omega) ?_
                  obtain ⟨a1, hO1, ea⟩ : ∃ a1, OkX a1 ∧ (acR a x y).2 = a1 := ⟨_, ox_ac hO, rfl⟩
                  rw [ea] at hw
                  refine W.lcmp hx hb dL_law_152 ?_
                  refine lv_if_ne (tgt := 160) hx hb dL_law_153 (by decide) (fun c153 => ?_) (fun c153 => ?_)
                  · skip
                    exact (c153 ((lg_cmp_eq _ _).mpr rfl)).elim
                  · skip
                    have c153 := (lg_cmp_eq _ _).mp c153
                    refine lv_iconst (v := 1) hx hb dL_law_156 (by decide) ?_
                    refine lv_goto (tgt := 161) hx hb dL_law_157 (by decide) ?_
                    refine lv_istore_n (lv' := [(3, .int (1)), (6, .int (nI (y))), (5, .int (nI (x))), (4, .int (nI (k))), (2, .ref ((Gs 1).1 1)), (1, .ref ((Gs 0).1 1)), (0, .ref b)]) hx hb dL_law_161 rfl hl (by decide) rfl (fun ls hl => ?_)
                    refine lv_iload hx hb dL_law_162 (lv_at hl 3 rfl) ?_
                    refine lv_iconst (v := 5) hx hb dL_law_164 (by decide) ?_
                    refine lv_irem hx hb dL_law_165 (by decide) ?_
                    refine lv_as (y := nI (k % 5)) (pk_rem (a := k) (d := 5) (by omega) (by decide) (by decide)) ?_
                    refine lv_if_ne (tgt := 193) hx hb dL_law_166 (by decide) (fun c166 => ?_) (fun c166 => ?_)
                    · skip
                      have c166 := cn_ne (a := k % 5) (b := 0) (by omega) (by omega) c166
                      exact W.widen (by omega) (by omega) (JP193 a1 _ _ _ (hO1) hw (lv_sub hl [1, 3, 0, 4, 5, 6] rfl))
                    · skip
                      have c166 := cn_eq (a := k % 5) (b := 0) (by omega) (by omega) c166
                      refine lv_iload_n hx hb dL_law_169 rfl (lv_at hl 0 rfl) ?_
                      refine lv_if_eq (tgt := 191) hx hb dL_law_170 (by decide) (fun c170 => ?_) (fun c170 => ?_)
                      · skip
                        exact absurd c170 (by decide)
                      · skip
                        refine lv_aload_n hx hb dL_law_173 rfl (lv_at hl 4 rfl) ?_
                        refine lo_callZ hF (c_errors l hst D cI cL cZ (fun _ => Gs 1) hG1 a1 ⟨hO1.1, hO1.2.1.1⟩ ) k_errors ⟨Nat.le_of_ble_eq_true rfl, Nat.le_of_ble_eq_true rfl⟩ hw [1] (by decide) rfl (hg_one rfl) rfl hl.1 rfl (Nat.le_of_ble_eq_true rfl) dL_law_174 ⟨by show _ ≤ (600130 : Nat); omega, by show _ ≤ (7301080 : Nat); omega⟩ (fun H locs hw => ?_)
                        have hw : LO D cI cL cZ A s Gs [a1, a1] H locs := hw
                        refine W.widen (k := 5900 + 6290 * k + 1 + 1 + 460) (n := 6 * (5900 + 6290 * k + 1 + 1 + 460)) (Nat.le_refl _) (by omega) ?_
                        refine lv_if_eq (tgt := 191) hx hb dL_law_177 (by decide) (fun c177 => ?_) (fun c177 => ?_)
                        · skip
                          exact absurd c177 (by decide)
                        · skip
                          refine lv_aload_n hx hb dL_law_180 rfl (lv_at hl 4 rfl) ?_
                          refine lo_callZ hF (c_kept l hst D cI cL cZ (fun _ => Gs 1) hG1 a1 hO1.1 hO1.2.1) k_kept ⟨Nat.le_of_ble_eq_true rfl, Nat.le_of_ble_eq_true rfl⟩ hw [1] (by decide) rfl (hg_one rfl) rfl hl.1 rfl (Nat.le_of_ble_eq_true rfl) dL_law_181 ⟨by show _ ≤ (600130 : Nat); omega, by show _ ≤ (7301080 : Nat); omega⟩ (fun H locs hw => ?_)
                          have hw : LO D cI cL cZ A s Gs [a1, a1] H locs := hw
                          refine W.widen (k := 5900 + 6290 * k + 1 + 1 + 460 + 3600) (n := 6 * (5900 + 6290 * k + 1 + 1 + 460 + 3600)) (Nat.le_refl _) (by omega) ?_
                          refine lv_if_eq (tgt := 191) hx hb dL_law_184 (by decide) (fun c184 => ?_) (fun c184 => ?_)
                          · skip
                            exact absurd c184 (by decide)
                          · skip
                            refine lv_iconst (v := 1) hx hb dL_law_187 (by decide) ?_
                            refine lv_goto (tgt := 192) hx hb dL_law_188 (by decide) ?_
                            refine lv_istore_n (lv' := [(3, .int (1)), (6, .int (nI (y))), (5, .int (nI (x))), (4, .int (nI (k))), (2, .ref ((Gs 1).1 1)), (1, .ref ((Gs 0).1 1)), (0, .ref b)]) hx hb dL_law_192 rfl hl (by decide) rfl (fun ls hl => ?_)
                            exact W.widen (by omega) (by omega) (JP193 a1 _ _ _ (hO1) hw (lv_sub hl [1, 3, 0, 4, 5, 6] rfl))
                · skip
                  have c90 := cn_eq (a := k % 27) (b := 0) (by omega) (by omega) c90
                  refine lv_aload_n hx hb dL_law_93 rfl (lv_at hl 5 rfl) ?_
                  refine lv_iload hx hb dL_law_94 (lv_at hl 1 rfl) ?_
                  refine lv_iload hx hb dL_law_96 (lv_at hl 0 rfl) ?_
                  refine lo_callZ hF (c_tells l hst D cI cL cZ (fun _ => Gs 0) hG a ⟨hO.1, hO.2.1.1⟩ x y (by omega) (by omega)) k_tells ⟨Nat.le_of_ble_eq_true rfl, Nat.le_of_ble_eq_true rfl⟩ hw [0] (by decide) rfl (hg_one rfl) rfl hl.1 rfl (Nat.le_of_ble_eq_true rfl) dL_law_98 ⟨by show _ ≤ (600130 : Nat); omega, by show _ ≤ (7301080 : Nat); omega⟩ (fun H locs hw => ?_)
                  have hw : LO D cI cL cZ A s Gs [tlS a x (y % 12), a] H locs := hw
                  refine W.widen (k := 5900 + 6290 * k + 100) (n := 6 * (5900 + 6290 * k + 100)) (Nat.le_refl _) (by omega) ?_
                  refine lv_if_eq (tgt := 131) hx hb dL_law_101 (by decide) (fun c101 => ?_) (fun c101 => ?_)
                  · skip
                    exact absurd c101 (by decide)
                  · skip
                    refine lv_aload_n hx hb dL_law_104 rfl (lv_at hl 4 rfl) ?_
                    refine lv_iload hx hb dL_law_105 (lv_at hl 1 rfl) ?_
                    refine lv_iload hx hb dL_law_107 (lv_at hl 0 rfl) ?_
                    refine lo_callZ hF (c_tells l hst D cI cL cZ (fun _ => Gs 1) hG1 a ⟨hO.1, hO.2.1.1⟩ x y (by omega) (by omega)) k_tells ⟨Nat.le_of_ble_eq_true rfl, Nat.le_of_ble_eq_true rfl⟩ hw [1] (by decide) rfl (hg_one rfl) rfl hl.1 rfl (Nat.le_of_ble_eq_true rfl) dL_law_109 ⟨by show _ ≤ (600130 : Nat); omega, by show _ ≤ (7301080 : Nat); omega⟩ (fun H locs hw => ?_)
                    have hw : LO D cI cL cZ A s Gs [tlS a x (y % 12), tlS a x (y % 12)] H locs := hw
                    refine W.widen (k := 5900 + 6290 * k + 100 + 100) (n := 6 * (5900 + 6290 * k + 100 + 100)) (Nat.le_refl _) (by omega) ?_
                    refine lv_if_eq (tgt := 131) hx hb dL_law_112 (by decide) (fun c112 => ?_) (fun c112 => ?_)
                    · skip
                      exact absurd c112 (by decide)
                    · skip
                      refine lv_aload_n hx hb dL_law_115 rfl (lv_at hl 5 rfl) ?_
                      refine lo_callX hF (x_load (Gs := fun _ => Gs 0) hst hG ⟨(ox_tl hO (i := y % 12) (by omega)).1, (ox_tl hO (i := y % 12) (by omega)).2.1.1⟩ ) k_load ⟨Nat.le_of_ble_eq_true rfl, Nat.le_of_ble_eq_true rfl⟩ hw [0] (by decide) rfl (hg_one rfl) rfl hl.1 rfl (Nat.le_of_ble_eq_true rfl) dL_law_116 ⟨by show _ ≤ (600130 : Nat); omega, by show _ ≤ (7301080 : Nat); omega⟩ (fun H locs hw => ?_)
                      have hw : LO D cI cL cZ A s Gs [ldA (tlS a x (y % 12)), tlS a x (y % 12)] H locs := hw
                      refine W.widen (k := 5900 + 6290 * k + 100 + 100 + 1) (n := 6 * (5900 + 6290 * k + 100 + 100 + 1)) (Nat.le_refl _) (by omega) ?_
                      refine lv_aload_n hx hb dL_law_119 rfl (lv_at hl 4 rfl) ?_
                      refine lo_callX hF (x_load (Gs := fun _ => Gs 1) hst hG1 ⟨(ox_tl hO (i := y % 12) (by omega)).1, (ox_tl hO (i := y % 12) (by omega)).2.1.1⟩ ) k_load ⟨Nat.le_of_ble_eq_true rfl, Nat.le_of_ble_eq_true rfl⟩ hw [1] (by decide) rfl (hg_one rfl) rfl hl.1 rfl (Nat.le_of_ble_eq_true rfl) dL_law_120 ⟨by show _ ≤ (600130 : Nat); omega, by show _ ≤ (7301080 : Nat); omega⟩ (fun H locs hw => ?_)
                      have hw : LO D cI cL cZ A s Gs [ldA (tlS a x (y % 12)), ldA (tlS a x (y % 12))] H locs := hw
                      refine W.widen (k := 5900 + 6290 * k + 100 + 100 + 1 + 1) (n := 6 * (5900 + 6290 * k + 100 + 100 + 1 + 1)) (Nat.le_refl _) (by omega) ?_
                      refine W.lcmp hx hb dL_law_123 ?_
                      refine lv_if_ne (tgt := 131) hx hb dL_law_124 (by decide) (fun c124 => ?_) (fun c124 => ?_)
                      · skip
                        exact (c124 ((lg_cmp_eq _ _).mpr rfl)).elim
                      · skip
                        have c124 := (lg_cmp_eq _ _).mp c124
                        refine lv_iconst (v := 1) hx hb dL_law_127 (by decide) ?_
                        refine lv_goto (tgt := 132) hx hb dL_law_128 (by decide) ?_
                        refine lv_istore_n (lv' := [(3, .int (1)), (6, .int (nI (y))), (5, .int (nI (x))), (4, .int (nI (k))), (2, .ref ((Gs 1).1 1)), (1, .ref ((Gs 0).1 1)), (0, .ref b)]) hx hb dL_law_132 rfl hl (by decide) rfl (fun ls hl => ?_)
                        refine lv_goto (tgt := 270) hx hb dL_law_133 (by decide) ?_
                        have hw : LO D cI cL cZ A s Gs [(ldA (tlS a x (y % 12))), (ldA (tlS a x (y % 12)))] H locs := by
                          rw [show ([(ldA (tlS a x (y % 12))), (ldA (tlS a x (y % 12)))] : List AS) = [ldA (tlS a x (y % 12)), ldA (tlS a x (y % 12))] from rfl]
                          exact hw
                        exact W.widen (by omega) (by omega) (JP270 (ldA (tlS a x (y % 12))) _ _ _ (ox_ld (ox_tl hO (by omega))) hw (lv_sub hl [3, 0, 4, 5, 6] rfl))
        have hl : lv_has ls 7 [(4, .int (nI (0))), (3, .int (1)), (2, .ref ((Gs 1).1 1)), (1, .ref ((Gs 0).1 1)), (0, .ref b)] := lv_re hl 0 rfl (show 0 = nI (0) from rfl)
        exact W.widen (by omega) (by omega) (LP52 ((54 - 0) + 1) 0 a0S _ _ _ (by omega) (ox_0) (by omega) hw (lv_sub hl [0, 1, 2, 3, 4] rfl))
