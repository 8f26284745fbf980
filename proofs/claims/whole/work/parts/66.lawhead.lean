-- THE LAW'S LOOP
section LP9
variable {p : Program} {l : Launch} {e : Env} {s : State} {m : MethodId} {below : List Frame} {meth : Method} {c : Code} {Q : State → Prop} {D : va_G} {A : Nat → Prop} {b : Addr} {cI cL cZ cJ : ClassId} {ar ad : Nat → Nat} {dl : Nat → Nat → Nat} {sf sg : Nat → Option Nat} {L : Nat} {xs : Nat → Int32}
theorem law_loop (hst : l.stackTraces = false) (hsf : ∀ j, j < 14 → sf j = some (dl j 0)) (hsg : ∀ j, j < 2 → sg j = some (dl (14 + j) 0)) (hL0 : LXc D cI cL cZ cJ p s m meth c A b L xs) (hL9 : L ≤ 2048)
    (hend : ∀ (H : Heap) (locs : List Loc) (ls : Array Slot) (cells slots : Nat), cells ≤ 3000 → slots ≤ 12000 → va_S A s.heap H locs → W p l e room_1 s m #[Value.ref b] below meth c H locs cells slots Q (F0 m 1611 ls [])) :
    ∀ (d i : Nat), L ≤ 4 * i + d → i ≤ 512 → LH23 p l e s m below meth c D cI cL cZ cJ ar ad dl sf sg A b i (230 + i) (7300 + 6 * i) Q := by
  intro d
  induction d with
  | zero =>
    intro i h1 h2 H locs ls hLst hS hl
    obtain ⟨hX, hr, hlocks, hK, hN, hE, hSW, hZ, hCN, hXs, hbl, hbA⟩ := id hL0
    have hx := hX.1
    have hb := hX.2.1
    refine lv_iload hx hb dL_law_23 (lv_at hl 4 rfl) ?_
    refine lv_aload_n hx hb dL_law_25 rfl (lv_at hl 0 rfl) ?_
    refine va_slen hx hb hXs hbl hbA hS dL_law_26 ?_
    refine lv_iconst (v := 4) hx hb dL_law_27 (by decide) ?_
    refine lv_isub hx hb dL_law_28 ?_
    refine lv_icmp_gt (tgt := 1611) hx hb dL_law_29 (by decide) (fun h => hend _ _ _ _ _ (by omega) (by omega) hS) (fun h => ?_)
    exfalso
    apply h
    rw [i_lt_i, show (4 : Int32) = nI 4 from rfl, show Int32.ofNat L = nI L from rfl, pk_sub_toInt (a := L) (b := 4) (by omega) (by decide), nI_toInt (n := 4 * i) (by omega)]
    omega
  | succ d ih =>
    intro i h1 h2 H locs ls hLst hS hl
    obtain ⟨hX, hr, hlocks, hK, hN, hE, hSW, hZ, hCN, hXs, hbl, hbA⟩ := id hL0
    have hx := hX.1
    have hb := hX.2.1
    refine lv_iload hx hb dL_law_23 (lv_at hl 4 rfl) ?_
    refine lv_aload_n hx hb dL_law_25 rfl (lv_at hl 0 rfl) ?_
    refine va_slen hx hb hXs hbl hbA hS dL_law_26 ?_
    refine lv_iconst (v := 4) hx hb dL_law_27 (by decide) ?_
    refine lv_isub hx hb dL_law_28 ?_
    refine lv_icmp_gt (tgt := 1611) hx hb dL_law_29 (by decide) (fun h => hend _ _ _ _ _ (by omega) (by omega) hS) (fun h => ?_)
    have hi : 4 * i + 4 ≤ L := by
      rw [i_lt_i, show (4 : Int32) = nI 4 from rfl, show Int32.ofNat L = nI L from rfl, pk_sub_toInt (a := L) (b := 4) (by omega) (by decide), nI_toInt (n := 4 * i) (by omega)] at h
      omega
    refine lv_aload_n hx hb dL_law_32 rfl (lv_at hl 0 rfl) ?_
    refine lv_iload hx hb dL_law_33 (lv_at hl 4 rfl) ?_
    refine va_sld hx hb hXs hbl hbA hS (vp_in_nI (show 4 * i < L by omega) (by omega)) dL_law_35 ?_
    refine lv_bipush (v := 31) hx hb dL_law_36 (by decide) ?_
    refine lv_iand hx hb dL_law_38 ?_
    exact lw_switch (cells := 230 + i) (slots := 7300 + 6 * i) hst hsf hsg hL0 hi hL9 ⟨by show 230 + i + 1 ≤ 601024; omega, by show 7300 + 6 * i + 6 ≤ 7293034; omega⟩ hLst hS hl (lw_step hL0 (ih (i + 1) (by omega) (by omega))) _
end LP9
