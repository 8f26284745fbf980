-- THE LAW'S CASES THAT CALL A HELPER
theorem zLs_adr {cI : ClassId} {dl : Nat → Nat → Nat} {z1 z2 : Nat → LgS} : ∀ n, (zLs cI dl z1 n).map (fun b => b.map Prod.fst) = (zLs cI dl z2 n).map (fun b => b.map Prod.fst)
  | 0 => rfl
  | n + 1 => by
    rw [zLs, zLs, List.map_append, List.map_append, zLs_adr n]
    rfl
theorem lw_adr {cI cL cZ cJ : ClassId} {ad : Nat → Nat} {dl : Nat → Nat → Nat} {sf sg : Nat → Option Nat} {fo fo2 : Nat → Int64} {t t2 : Nat → Int32} {n n2 q q2 : Nat} {vv vv2 : Nat → Int32} {nx nx2 ct ct2 : Nat} {uf uf2 : Nat → Int32} {zz zz2 : Nat → LgS} : (lwB cI cL cZ cJ ad dl sf sg fo t n q vv nx ct uf zz).map (fun b => b.map Prod.fst) = (lwB cI cL cZ cJ ad dl sf sg fo2 t2 n2 q2 vv2 nx2 ct2 uf2 zz2).map (fun b => b.map Prod.fst) := by
  rw [lwB, lwB, cwB, cwB, List.map_append, List.map_append, zLs_adr (z1 := zz) (z2 := zz2)]
  rfl
theorem vaB {zz : Nat → LgS} {k : Nat} {z : LgS} (h : ∀ j, (zz j).1.2 ≤ 8) (hz : z.1.2 ≤ 8) : ∀ j, (va_up zz k z j).1.2 ≤ 8 := fun j => by
  by_cases e : j = k
  · subst e; rw [va_up_self]; exact hz
  · rw [va_up_ne _ _ e]; exact h j
/-- a case of the law, from its first instruction on -/
def LCS (S : Nat) (p : Program) (l : Launch) (e : Env) (s : State) (m : MethodId) (below : List Frame) (meth : Method) (c : Code) (D : va_G) (cI cL cZ cJ : ClassId) (ar ad : Nat → Nat) (dl : Nat → Nat → Nat) (sf sg : Nat → Option Nat) (A : Nat → Prop) (b L i cells slots : Nat) (xs : Nat → Int32) (Q : State → Prop) : Prop :=
  l.stackTraces = false → (∀ j, j < 14 → sf j = some (dl j 0)) → (∀ j, j < 2 → sg j = some (dl (14 + j) 0)) → LXc D cI cL cZ cJ p s m meth c A b L xs → 4 * i + 4 ≤ L → L ≤ 2048 → ∀ (H : Heap) (locs : List Loc) (ls : Array Slot), cells + 1 ≤ room_1.cells ∧ slots + 6 ≤ room_1.slots → LST D cI cL cZ cJ ar ad dl sf sg A H → va_S A s.heap H locs → lv_has ls 7 [(0, .ref b), (1, .ref (ad 1)), (2, .ref (ar 0)), (3, .ref (ad 0)), (4, .int (nI (4 * i)))] → LK p l e s m below meth c D cI cL cZ cJ ar ad dl sf sg A b i (cells + 1) (slots + 6) Q → W p l e room_1 s m #[Value.ref b] below meth c H locs cells slots Q (F0 m S ls [])
theorem gL_get : GoodIn lw_tbl [.methodLink RL 125 yL_get, .static yL_get, .initialized RL, .codeWith yL_get cL_get 4 (some .int) [(0, 9, 12, 13), (0, 9, 15, 15)]] := gdW (List.forall_mem_cons.mpr ⟨wt_780, List.forall_mem_cons.mpr ⟨wt_781, List.forall_mem_cons.mpr ⟨wt_726, List.forall_mem_cons.mpr ⟨wt_782, fun _ h => absurd h List.not_mem_nil⟩⟩⟩⟩) (by decide +kernel)
theorem g7_get : GoodIn lw_tbl [.methodLink RL 127 yX7_get, .instanceMethod yX7_get, .selects RX7 yX7_get yX7_get, .initialized RX7, .code yX7_get cX7_get 2 (some .int)] := gdW (List.forall_mem_cons.mpr ⟨wt_783, List.forall_mem_cons.mpr ⟨wt_784, List.forall_mem_cons.mpr ⟨wt_785, List.forall_mem_cons.mpr ⟨wt_15, List.forall_mem_cons.mpr ⟨wt_786, fun _ h => absurd h List.not_mem_nil⟩⟩⟩⟩⟩) (by decide +kernel)
theorem g7_thrown : GoodIn lw_tbl [.methodLink RL 100 yX7_thrown, .instanceMethod yX7_thrown, .selects RX7 yX7_thrown yX7_thrown, .initialized RX7, .code yX7_thrown cX7_thrown 1 (some .int)] := gdW (List.forall_mem_cons.mpr ⟨wt_732, List.forall_mem_cons.mpr ⟨wt_733, List.forall_mem_cons.mpr ⟨wt_734, List.forall_mem_cons.mpr ⟨wt_15, List.forall_mem_cons.mpr ⟨wt_735, fun _ h => absurd h List.not_mem_nil⟩⟩⟩⟩⟩) (by decide +kernel)
theorem wt_K180 : Cond.constantLong RL 180 (4294967295) ∈ lw_tbl := wt_717
section CS
variable {p : Program} {l : Launch} {e : Env} {s : State} {m : MethodId} {below : List Frame} {meth : Method} {c : Code} {cells slots : Nat} {Q : State → Prop} {D : va_G} {A : Nat → Prop} {b : Addr} {cI cL cZ cJ : ClassId} {ar ad : Nat → Nat} {dl : Nat → Nat → Nat} {sf sg : Nat → Option Nat} {L i : Nat} {xs : Nat → Int32}
set_option maxHeartbeats 4000000 in
set_option maxRecDepth 100000 in
theorem lc_get : LCS 482 p l e s m below meth c D cI cL cZ cJ ar ad dl sf sg A b L i cells slots xs Q := by
  intro hst hsf hsg hL0 hi hL9 H locs ls hcs hst0 hS hl hk
  obtain ⟨rf, rb, rl, ss, ps, t, f, ft, flk, fd, fkp, fik, fl, fo, q, vv, nx, ct, uf, zz, hP, hD, hR⟩ := hst0
  obtain ⟨hX, hr, hlocks, hK, hN, hE, hSW, hZ, hCN, hXs, hbl, hbA⟩ := id hL0
  obtain ⟨⟨hn, hq, hnx, hct⟩, hRz, hR3, hR4, hB⟩ := id hR
  have hx := hX.1
  have hb := hX.2.1
  have hown := hX.2.2.2.1
  have hts := hX.2.2.2.2
  have hin : ∀ k, k ≤ 3 → vp_in (nI (4 * i) + nI k) L := fun k hk => by rw [nI_add]; exact vp_in_nI (by omega) (by omega)
  obtain ⟨ya, hya⟩ : ∃ y, xs (nI (4 * i) + 1).toNatClampNeg = y := ⟨_, rfl⟩
  obtain ⟨yb, hyb⟩ : ∃ y, xs (nI (4 * i) + 2).toNatClampNeg = y := ⟨_, rfl⟩
  obtain ⟨yc, hyc⟩ : ∃ y, xs (nI (4 * i) + 3).toNatClampNeg = y := ⟨_, rfl⟩
  refine lv_aload_n hx hb dL_law_482 rfl (lv_at hl 1 rfl) ?_
  refine lv_aload_n hx hb dL_law_483 rfl (lv_at hl 0 rfl) ?_
  refine lv_iload hx hb dL_law_484 (lv_at hl 4 rfl) ?_
  refine lv_iconst (v := 1) hx hb dL_law_486 (by decide) ?_
  refine lv_iadd hx hb dL_law_487 ?_
  refine va_sld hx hb hXs hbl hbA hS (hin 1 (by decide)) dL_law_488 ?_
  rw [hya]
  refine lv_aload_n hx hb dL_law_489 rfl (lv_at hl 3 rfl) ?_
  refine lw_help hX (cL_getH l hst D cI cL cZ cJ ad dl sf sg hsf hsg fo t ss q hn hq vv nx ct hnx hct uf zz hRz.1 hB ya) ⟨by decide, by decide, show (parseMethodDescriptor yL_get.desc).map (fun d => d.parameters.length) = some 3 by decide +kernel⟩ rfl gL_get ⟨Nat.le_of_ble_eq_true rfl, Nat.le_of_ble_eq_true rfl⟩ hK hN hE hSW hZ hCN [0, 1, 2, 3] rfl hP hD hS (List.range' 9 27) (by decide) (rf_sub lw_len) hl.1 rfl (Nat.le_of_ble_eq_true rfl) dL_law_490 hcs (fun r u h => ?_) (fun r u H locs hpost hP hD hS => ?_)
  · rcases h with ⟨-, -, rfl⟩ | ⟨-, -, rfl⟩ <;> exact lw_adr
  rw [r_get hRz] at hpost
  rcases hpost with ⟨hc, rfl, rfl⟩ | ⟨hc, rfl, rfl⟩
  · rw [rf_put lw_len lw_len] at hP hD
    refine lv_istore (lv' := [(5, .int (0)), (0, .ref b), (1, .ref (ad 1)), (2, .ref (ar 0)), (3, .ref (ad 0)), (4, .int (nI (4 * i)))]) hx hb dL_law_493 hl (by decide) rfl (fun ls hl => ?_)
    refine lv_aload_n hx hb dL_law_495 rfl (lv_at hl 3 rfl) ?_
    refine lv_aload_n hx hb dL_law_496 rfl (lv_at hl 1 rfl) ?_
    refine lv_iload hx hb dL_law_497 (lv_at hl 5 rfl) ?_
    refine lv_iconst (v := 1) hx hb dL_law_499 (by decide) ?_
    refine lv_iadd hx hb dL_law_500 ?_
    refine va_sld hx hb hXs hbl hbA hS (hin 1 (by decide)) dL_law_501 ?_
    rw [hya]
    refine lw_refi hX (c7_get l D cI cZ (ar 0) (ar 1) (ar 2) (ar 3) (ar 4) (ar 5) (ar 6) (ar 7) (ar 8) rf rb rl ct ss ps f (zz 16).1.2 (rz_wf hRz) ya) (Cs := [[((ar 0), .inr (7, [.int (rf), .ref (ar 1), .int (nI (ss)), .int (nI (ps.2)), .int (bI (ps.1 = true)), .int (rb), .int (rl), .ref (ar 2), .ref (ar 3), .ref (ar 4), .ref (ar 5), .int (nI (ct)), .ref (ar 6), .ref (ar 7), .ref (ar 8)]))], [((ar 2), .inl (cI, 151, .inl f))]]) rfl ⟨by decide, by decide, show (parseMethodDescriptor yX7_get.desc).map (fun d => d.parameters.length) = some 1 by decide +kernel⟩ rfl g7_get ⟨Nat.le_of_ble_eq_true rfl, Nat.le_of_ble_eq_true rfl⟩ hK [0] rfl hP hD hS [0, 2] (by decide) rfl rfl hl.1 rfl (Nat.le_of_ble_eq_true rfl) dL_law_502 hcs (fun r9 U9 => r9 = (if getR f ya = 0 then vlu f ya (zz 16).1.2 else 0) ∧ U9 = [[((ar 0), .inr (7, [.int (getR f ya), .ref (ar 1), .int (nI (ss)), .int (nI (ps.2)), .int (bI (ps.1 = true)), .int (rb), .int (rl), .ref (ar 2), .ref (ar 3), .ref (ar 4), .ref (ar 5), .int (nI (ct)), .ref (ar 6), .ref (ar 7), .ref (ar 8)]))], [((ar 2), .inl (cI, 151, .inl f))]]) (fun r9 u9 h => ?_) (fun r9 U9 h => ?_) (fun r9 U9 H locs hpost hP hD hS => ?_)
    · obtain ⟨e9, rfl⟩ := h
      exact ⟨[[((ar 0), .inr (7, [.int (getR f ya), .ref (ar 1), .int (nI (ss)), .int (nI (ps.2)), .int (bI (ps.1 = true)), .int (rb), .int (rl), .ref (ar 2), .ref (ar 3), .ref (ar 4), .ref (ar 5), .int (nI (ct)), .ref (ar 6), .ref (ar 7), .ref (ar 8)]))], [((ar 2), .inl (cI, 151, .inl f))]], rfl, e9, rfl⟩
    · obtain ⟨-, rfl⟩ := h
      rfl
    obtain ⟨e9, rfl⟩ := hpost
    rw [if_pos hc] at e9
    subst e9
    have hP : va_P D vwCl (bw (rfB cI cZ ar 0 rb rl ss ps ct t f ft flk fd fkp fik fl (lwB cI cL cZ cJ ad dl sf sg (vp_updL fo 0 (vaZ (zz 16) ya : Int32).toInt64) t ss q vv nx ct uf zz))) H := by
      rw [hc] at hP
      exact hP
    have hD : va_D A (bw (rfB cI cZ ar 0 rb rl ss ps ct t f ft flk fd fkp fik fl (lwB cI cL cZ cJ ad dl sf sg (vp_updL fo 0 (vaZ (zz 16) ya : Int32).toInt64) t ss q vv nx ct uf zz))) := by
      rw [hc] at hD
      exact hD
    refine lv_istore (lv' := [(6, .int (vlu f ya (zz 16).1.2)), (5, .int (0)), (0, .ref b), (1, .ref (ad 1)), (2, .ref (ar 0)), (3, .ref (ad 0)), (4, .int (nI (4 * i)))]) hx hb dL_law_505 hl (by decide) rfl (fun ls hl => ?_)
    exact lw_tail hL0 g7_thrown dL_law_507 dL_law_508 dL_law_511 dL_law_513 dL_law_518 dL_law_520 dL_law_523 dL_law_524 dL_law_525 dL_law_526 dL_law_528 dL_law_529 dL_law_530 dL_law_535 (by decide) hP hD hS hR (fun _ => (show vp_updL fo 0 ((vaZ (zz 16) ya : Int32).toInt64) 0 = (vlu f ya (zz 16).1.2 : Int32).toInt64 from (if_pos rfl).trans (congrArg Int32.toInt64 (v_get hRz hc)))) hl hcs hk
  · rw [rf_put lw_len lw_len] at hP hD
    refine lv_istore (lv' := [(5, .int (getR f ya)), (0, .ref b), (1, .ref (ad 1)), (2, .ref (ar 0)), (3, .ref (ad 0)), (4, .int (nI (4 * i)))]) hx hb dL_law_493 hl (by decide) rfl (fun ls hl => ?_)
    refine lv_aload_n hx hb dL_law_495 rfl (lv_at hl 3 rfl) ?_
    refine lv_aload_n hx hb dL_law_496 rfl (lv_at hl 1 rfl) ?_
    refine lv_iload hx hb dL_law_497 (lv_at hl 5 rfl) ?_
    refine lv_iconst (v := 1) hx hb dL_law_499 (by decide) ?_
    refine lv_iadd hx hb dL_law_500 ?_
    refine va_sld hx hb hXs hbl hbA hS (hin 1 (by decide)) dL_law_501 ?_
    rw [hya]
    refine lw_refi hX (c7_get l D cI cZ (ar 0) (ar 1) (ar 2) (ar 3) (ar 4) (ar 5) (ar 6) (ar 7) (ar 8) rf rb rl ct ss ps f (zz 16).1.2 (rz_wf hRz) ya) (Cs := [[((ar 0), .inr (7, [.int (rf), .ref (ar 1), .int (nI (ss)), .int (nI (ps.2)), .int (bI (ps.1 = true)), .int (rb), .int (rl), .ref (ar 2), .ref (ar 3), .ref (ar 4), .ref (ar 5), .int (nI (ct)), .ref (ar 6), .ref (ar 7), .ref (ar 8)]))], [((ar 2), .inl (cI, 151, .inl f))]]) rfl ⟨by decide, by decide, show (parseMethodDescriptor yX7_get.desc).map (fun d => d.parameters.length) = some 1 by decide +kernel⟩ rfl g7_get ⟨Nat.le_of_ble_eq_true rfl, Nat.le_of_ble_eq_true rfl⟩ hK [0] rfl hP hD hS [0, 2] (by decide) rfl rfl hl.1 rfl (Nat.le_of_ble_eq_true rfl) dL_law_502 hcs (fun r9 U9 => r9 = (if getR f ya = 0 then vlu f ya (zz 16).1.2 else 0) ∧ U9 = [[((ar 0), .inr (7, [.int (getR f ya), .ref (ar 1), .int (nI (ss)), .int (nI (ps.2)), .int (bI (ps.1 = true)), .int (rb), .int (rl), .ref (ar 2), .ref (ar 3), .ref (ar 4), .ref (ar 5), .int (nI (ct)), .ref (ar 6), .ref (ar 7), .ref (ar 8)]))], [((ar 2), .inl (cI, 151, .inl f))]]) (fun r9 u9 h => ?_) (fun r9 U9 h => ?_) (fun r9 U9 H locs hpost hP hD hS => ?_)
    · obtain ⟨e9, rfl⟩ := h
      exact ⟨[[((ar 0), .inr (7, [.int (getR f ya), .ref (ar 1), .int (nI (ss)), .int (nI (ps.2)), .int (bI (ps.1 = true)), .int (rb), .int (rl), .ref (ar 2), .ref (ar 3), .ref (ar 4), .ref (ar 5), .int (nI (ct)), .ref (ar 6), .ref (ar 7), .ref (ar 8)]))], [((ar 2), .inl (cI, 151, .inl f))]], rfl, e9, rfl⟩
    · obtain ⟨-, rfl⟩ := h
      rfl
    obtain ⟨e9, rfl⟩ := hpost
    rw [if_neg hc] at e9
    subst e9
    have hP : va_P D vwCl (bw (rfB cI cZ ar (getR f ya) rb rl ss ps ct t f ft flk fd fkp fik fl (lwB cI cL cZ cJ ad dl sf sg fo t ss q vv nx ct uf zz))) H := by
      try simp only [if_neg hc] at hP
      exact hP
    have hD : va_D A (bw (rfB cI cZ ar (getR f ya) rb rl ss ps ct t f ft flk fd fkp fik fl (lwB cI cL cZ cJ ad dl sf sg fo t ss q vv nx ct uf zz))) := by
      try simp only [if_neg hc] at hD
      exact hD
    refine lv_istore (lv' := [(6, .int (0)), (5, .int (getR f ya)), (0, .ref b), (1, .ref (ad 1)), (2, .ref (ar 0)), (3, .ref (ad 0)), (4, .int (nI (4 * i)))]) hx hb dL_law_505 hl (by decide) rfl (fun ls hl => ?_)
    exact lw_tail hL0 g7_thrown dL_law_507 dL_law_508 dL_law_511 dL_law_513 dL_law_518 dL_law_520 dL_law_523 dL_law_524 dL_law_525 dL_law_526 dL_law_528 dL_law_529 dL_law_530 dL_law_535 (by decide) hP hD hS hR (fun h9 => absurd h9 hc) hl hcs hk
end CS
