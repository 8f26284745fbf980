-- PURE: WHAT A KEY HAS STAYS THROUGH SWEEPS AND CUTS
section PV
variable {z : LgS}
theorem er_vq (h : Inv z) {z2 : LgS} (h2 : Inv z2) {b : Nat} {x : Int32} (hp : z2.2.2 = wpF z.2.2 b x) (hB2 : z2.1.2 = z.1.2) (hx : ¬ x = 1) (hd : ∀ i, i < 4 → ¬ z.2.2 5 (4 * b + i) = 1) {k : Nat} (hk : k < 16) : vaZ z2 (nI k) = vaZ z (nI k) := by
  have hB := inv_B h
  obtain ⟨F0, F1, F2, F3, -⟩ := wp_F (F := z.2.2) (b := b) (x := x)
  rw [← hp] at F0 F1 F2 F3
  have hk0 : ∀ j, z2.2.2 0 j = if 4 * b ≤ j ∧ j < 4 * b + 4 then x else z.2.2 0 j := fun j => by rw [F0, k4_at]
  have hwr : ∀ j, z2.2.2 0 j = 1 → z.2.2 0 j = 1 ∧ ¬ (4 * b ≤ j ∧ j < 4 * b + 4) := fun j hj => by
    rw [hk0] at hj
    split at hj
    · exact absurd hj hx
    · rename_i hn; exact ⟨hj, hn⟩
  rcases ne_or h hk with ⟨e, hn⟩ | ⟨o, e, c1, c2, c3, c4⟩
  · have hn2 : nwst (zr z2) (nI k) 32 = none := by
      cases hc : nwst (zr z2) (nI k) 32 with
      | none => rfl
      | some o2 =>
        have w2 := nwst_wr hc
        rw [zr_pg (by decide), zr_pg (by decide), F1] at w2
        exact absurd (show pg (zr z) o2 1 = nI k by rw [zr_pg (by decide)]; exact w2.2) (nwst_nn hn o2 (nwst_lt hc) (by rw [zr_pg (by decide)]; exact (hwr o2 w2.1).1))
    rw [va_none h hk e, va_none h2 hk (by rw [h2.2.2.2.1 k hk, hn2]; rfl)]
  · by_cases hob : 4 * b ≤ o ∧ o < 4 * b + 4
    · have hnl := hd (o - 4 * b) (by omega)
      rw [show 4 * b + (o - 4 * b) = o by omega, h.2.2.2.2.1 o (by omega), bI_one] at hnl
      have hv : z.2.2 2 o = -9 ∧ ¬ 1 < cnt (zr z) (nI k) 32 := by
        constructor
        · refine Decidable.byContradiction fun y => hnl ⟨by rw [zr_pg (by decide)]; exact c3, ?_, Or.inl (by rw [zr_pg (by decide)]; exact y)⟩
          rw [zr_pg (by decide), c4]; exact c1
        · intro y
          refine hnl ⟨by rw [zr_pg (by decide)]; exact c3, ?_, Or.inr ?_⟩
          · rw [zr_pg (by decide), c4]; exact c1
          · rw [zr_pg (by decide), c4]; exact y
      have hn2 : nwst (zr z2) (nI k) 32 = none := by
        cases hc : nwst (zr z2) (nI k) 32 with
        | none => rfl
        | some o2 =>
          have w2 := nwst_wr hc
          have l2 := nwst_lt hc
          rw [zr_pg (by decide), zr_pg (by decide), F1] at w2
          obtain ⟨w3, w4⟩ := hwr o2 w2.1
          have p1 : pg (zr z) o2 0 = 1 ∧ pg (zr z) o2 1 = nI k := ⟨by rw [zr_pg (by decide)]; exact w3, by rw [zr_pg (by decide)]; exact w2.2⟩
          have p2 : pg (zr z) o 0 = 1 ∧ pg (zr z) o 1 = nI k := ⟨by rw [zr_pg (by decide)]; exact c3, by rw [zr_pg (by decide)]; exact c4⟩
          refine absurd ?_ hv.2
          rcases Nat.lt_or_ge o2 o with g | g
          · exact cnt_two g (by omega) p1 p2
          · exact cnt_two (show o < o2 by omega) (by omega) p2 p1
      rw [va_none h2 hk (by rw [h2.2.2.2.1 k hk, hn2]; rfl), va_some h hk e c2]
      exact hv.1.symm
    · have ho0 : z2.2.2 0 o = 1 := by rw [hk0, if_neg hob]; exact c3
      have hn : nwst (zr z2) (nI k) 32 = some o := by
        cases hc : nwst (zr z2) (nI k) 32 with
        | none =>
          exact absurd (show pg (zr z2) o 1 = nI k by rw [zr_pg (by decide), F1]; exact c4) (nwst_nn hc o (by omega) (by rw [zr_pg (by decide)]; exact ho0))
        | some o2 =>
          have l2 := nwst_lt hc
          have w2 := nwst_wr hc
          have m2 := nwst_mx hc o (by omega) (by rw [zr_pg (by decide)]; exact ho0) (by rw [zr_pg (by decide), F1]; exact c4)
          rw [zr_pg (by decide), zr_pg (by decide), F1] at w2
          have e2 := (hwr o2 w2.1).1
          have m1 := nwst_mx c1 o2 l2 (by rw [zr_pg (by decide)]; exact e2) (by rw [zr_pg (by decide)]; exact w2.2)
          rw [zr_pg (by decide), zr_pg (by decide)] at m1 m2
          rw [F3] at m2
          have : z.2.2 3 o2 = z.2.2 3 o := by
            rw [i_lt_i] at m1 m2
            exact Int32.toInt_inj.mp (by omega)
          rw [h.2.2.1.2 o2 o l2 (by omega) e2 c3 this]
      have e2 : z2.2.2 6 k = nI o := by rw [h2.2.2.2.1 k hk, hn]; rfl
      rw [va_some h hk e c2, va_some h2 hk e2 (by rw [hB2]; exact c2), F2]
/-- the values of z0, its blocks, its life, its policy -/
def VM (z0 w : LgS) : Prop := w.1.2 = z0.1.2 ∧ ∀ k, k < 16 → vaZ w (nI k) = vaZ z0 (nI k)
theorem cl_VM {z0 : LgS} : Cl (VM z0) := by
  refine ⟨fun w b hI ho hb hf h => h, fun w b a j k hI ho hn hj h0 h1 hk h6 hc h => ⟨h.1, fun i hi => ?_⟩, fun w b a sw hI ho hn hc h => ⟨h.1, fun i hi => ?_⟩, fun w b hI ho hb hw hd hc h => ⟨h.1, fun i hi => ?_⟩, fun w b hI ho hb hw hd hc h => ⟨h.1, fun i hi => ?_⟩⟩
  · rw [w2_va hI hn hi]
    by_cases e : i = k
    · subst e
      rw [if_pos rfl, ← h.2 i hi]
      have hjB : j < 4 * w.1.2 := Nat.lt_of_not_le (fun y => by rw [hI.1.2.2 j hj y] at h0; exact absurd h0 (by decide))
      exact (va_some hI hi h6 hjB).symm
    · rw [if_neg e]; exact h.2 i hi
  · obtain ⟨F0, F1, F2, F3, F4, F5, F6, F7⟩ := w1_F (z := w) (a := a) (sw := sw)
    rw [← h.2 i hi, zk_va hi, zk_va hi, F6, F2]
    rfl
  · have hR := rz_erase (rz_self hI) (b := b) hb hw hc
    rw [← h.2 i hi]
    exact er_vq hI hR.1 rfl rfl (by decide) hd hi
  · have hR := rz_erasecut (rz_self hI) (b := b) hb hw hc
    rw [← h.2 i hi]
    exact er_vq hI hR.1 rfl rfl (by decide) hd hi
/-- operations and the cut: the power goes off with the operation c -/
def Pc (o : Int32) (c : Nat) (w : LgS) : Prop := (w.1.1 = true → ∃ j, w.2.1 5 = o + nI j ∧ ((c = 0 ∧ w.2.1 1 = 0) ∨ (j < c ∧ w.2.1 1 = nI (c - j)))) ∧ (w.1.1 = false → w.2.1 5 = o + nI c ∧ 1 ≤ c)
theorem add_1 {o : Int32} {j : Nat} : o + nI j + 1 = o + nI (j + 1) := by rw [Int32.add_assoc, nI_s]
theorem icC_j {c j : Nat} (hc : c ≤ 99) (hj : j < c) (h : ¬ icP (nI (c - j))) : j + 1 < c ∧ icC (nI (c - j)) = nI (c - (j + 1)) := by
  have h0 : ¬ nI (c - j) = 0 := fun y => by have := cn_eq (a := c - j) (b := 0) (by omega) (by decide) y; omega
  have hs : nI (c - j) - 1 = nI (c - (j + 1)) := (pk_sub (a := c - j) (b := 1) (by omega)).trans (congrArg nI (by omega))
  refine ⟨Nat.lt_of_not_le fun y => h ⟨h0, ?_⟩, ?_⟩
  · rw [hs, show c - (j + 1) = 0 by omega]; rfl
  · rw [icC, if_neg h0, hs]
theorem icP_j {c j : Nat} (hc : c ≤ 99) (hj : j < c) (h : icP (nI (c - j))) : j + 1 = c := by
  have hs : nI (c - j) - 1 = nI (c - (j + 1)) := (pk_sub (a := c - j) (b := 1) (by omega)).trans (congrArg nI (by omega))
  have h2 := h.2
  rw [hs] at h2
  have := cn_eq (a := c - (j + 1)) (b := 0) (by omega) (by decide) h2
  omega
theorem Pc_w2 {o : Int32} {c : Nat} (hc9 : c ≤ 99) {w : LgS} {a k : Nat} {x : Int32} {sw : Bool} (ho : w.1.1 = true) (hc : ¬ icP (w.2.1 1)) (h : Pc o c w) : Pc o c (lsW2 w a k x sw) := by
  refine ⟨fun _ => ?_, fun y => by rw [show w.1.1 = false from y] at ho; exact absurd ho (by decide)⟩
  obtain ⟨i, h5, h9⟩ := h.1 ho
  refine ⟨i + 1, ?_, ?_⟩
  · show w.2.1 5 + 1 = _
    rw [h5, add_1]
  · show (c = 0 ∧ icC (w.2.1 1) = 0) ∨ (i + 1 < c ∧ icC (w.2.1 1) = nI (c - (i + 1)))
    rcases h9 with ⟨e1, e2⟩ | ⟨e1, e2⟩
    · exact Or.inl ⟨e1, by rw [e2]; rfl⟩
    · rw [e2] at hc ⊢
      exact Or.inr (icC_j hc9 e1 hc)
theorem cl_Pc {o : Int32} {c : Nat} (hc9 : c ≤ 99) : Cl (Pc o c) := by
  refine ⟨fun w b hI ho hb hf h => ⟨fun _ => ?_, fun y => by rw [show w.1.1 = false from y] at ho; exact absurd ho (by decide)⟩, fun w b a j k hI ho hn hj h0 h1 hk h6 hc h => ⟨fun _ => ?_, fun y => by rw [show w.1.1 = false from y] at ho; exact absurd ho (by decide)⟩, fun w b a sw hI ho hn hc h => ⟨fun y => Bool.noConfusion (show false = true from y), fun _ => ?_⟩, fun w b hI ho hb hw hd hc h => ⟨fun _ => ?_, fun y => by rw [show w.1.1 = false from y] at ho; exact absurd ho (by decide)⟩, fun w b hI ho hb hw hd hc h => ⟨fun y => Bool.noConfusion (show false = true from y), fun _ => ?_⟩⟩
  · obtain ⟨j, h5, h1⟩ := h.1 ho
    exact ⟨j, (pk_un (f := w.2.1) (k := 3) (j := 5) (x := nI b) (by decide)).trans h5, by
      have e : upd w.2.1 3 (nI b) 1 = w.2.1 1 := pk_un (by decide)
      show (c = 0 ∧ upd w.2.1 3 (nI b) 1 = 0) ∨ (j < c ∧ upd w.2.1 3 (nI b) 1 = _)
      rw [e]
      exact h1⟩
  · obtain ⟨i, h5, h9⟩ := h.1 ho
    refine ⟨i + 1, ?_, ?_⟩
    · show w.2.1 5 + 1 = _
      rw [h5, add_1]
    · show (c = 0 ∧ icC (w.2.1 1) = 0) ∨ (i + 1 < c ∧ icC (w.2.1 1) = nI (c - (i + 1)))
      rcases h9 with ⟨e1, e2⟩ | ⟨e1, e2⟩
      · exact Or.inl ⟨e1, by rw [e2]; rfl⟩
      · rw [e2] at hc ⊢
        exact Or.inr (icC_j hc9 e1 hc)
  · obtain ⟨i, h5, h9⟩ := h.1 ho
    rcases h9 with ⟨e1, e2⟩ | ⟨e1, e2⟩
    · rw [e2] at hc; exact absurd rfl hc.1
    · rw [e2] at hc
      have := icP_j hc9 e1 hc
      refine ⟨?_, by omega⟩
      show w.2.1 5 + 1 = _
      rw [h5, add_1, this]
  · obtain ⟨i, h5, h9⟩ := h.1 ho
    refine ⟨i + 1, ?_, ?_⟩
    · show w.2.1 5 + 1 = _
      rw [h5, add_1]
    · show (c = 0 ∧ icC (w.2.1 1) = 0) ∨ (i + 1 < c ∧ icC (w.2.1 1) = nI (c - (i + 1)))
      rcases h9 with ⟨e1, e2⟩ | ⟨e1, e2⟩
      · exact Or.inl ⟨e1, by rw [e2]; rfl⟩
      · rw [e2] at hc ⊢
        exact Or.inr (icC_j hc9 e1 hc)
  · obtain ⟨i, h5, h9⟩ := h.1 ho
    rcases h9 with ⟨e1, e2⟩ | ⟨e1, e2⟩
    · rw [e2] at hc; exact absurd rfl hc.1
    · rw [e2] at hc
      have := icP_j hc9 e1 hc
      refine ⟨?_, by omega⟩
      show w.2.1 5 + 1 = _
      rw [h5, add_1, this]
-- the same run without the cut, with another record, with a later cut
theorem zc_st2 {k : Nat} {x : Int32} : ∀ {m : Nat} {z z2 : LgS} {w : Int32}, stL k x m z = some (w, z2) → ¬ w = -2 → stL k x m (zC z 0) = some (w, zC z2 0)
  | 0, z, z2, w, h, hw => by cases h; rfl
  | m + 1, z, z2, w, h, hw => by
    rw [stL] at h ⊢
    cases ht : tkN 2 z with
    | some r =>
      obtain ⟨v, z1⟩ := r
      rw [ht] at h
      rw [zc_tk ht]
      dsimp only at h ⊢
      rw [stW] at h ⊢
      split at h
      · rename_i hv
        rw [if_pos hv, if_neg zc_ic, zc_w2]
        split at h
        · cases h; exact absurd rfl hw
        · cases h; rfl
      · cases h
    | none =>
      rw [ht] at h
      rw [zc_tkn ht]
      dsimp only at h ⊢
      rw [show cvZ (zC z 0) = cvZ z from rfl]
      cases hv : cvZ z with
      | none =>
        rw [hv] at h
        cases h
        rfl
      | some b =>
        rw [hv] at h
        dsimp only at h ⊢
        cases hs : sbl b z with
        | none => rw [hs] at h; cases h
        | some r =>
          obtain ⟨w1, z1⟩ := r
          rw [hs] at h
          dsimp only at h
          by_cases hw1 : w1 = -2
          · rw [if_pos hw1] at h
            cases h
            exact absurd rfl hw
          · rw [if_neg hw1] at h
            rw [zc_sbl hs hw1]
            dsimp only
            rw [if_neg hw1]
            exact zc_st2 h hw
theorem st_any {k1 k2 : Nat} {x1 x2 : Int32} : ∀ {m : Nat} {z z2 : LgS} {w : Int32}, stL k1 x1 m z = some (w, z2) → ¬ w = -2 → ¬ w = -9 → ∃ z3, stL k2 x2 m z = some (w, z3) ∧ z3.2.1 5 = z2.2.1 5
  | 0, z, z2, w, h, hw, h9 => by cases h; exact absurd rfl h9
  | m + 1, z, z2, w, h, hw, h9 => by
    rw [stL] at h ⊢
    cases ht : tkN 2 z with
    | some r =>
      obtain ⟨v, z1⟩ := r
      rw [ht] at h
      dsimp only at h ⊢
      rw [stW] at h ⊢
      split at h
      · rename_i hv
        rw [if_pos hv]
        split at h
        · cases h; exact absurd rfl hw
        · rename_i hc
          rw [if_neg hc]
          cases h
          exact ⟨_, rfl, rfl⟩
      · cases h
    | none =>
      rw [ht] at h
      dsimp only at h ⊢
      cases hv : cvZ z with
      | none =>
        rw [hv] at h
        cases h
        exact absurd rfl h9
      | some b =>
        rw [hv] at h
        dsimp only at h ⊢
        cases hs : sbl b z with
        | none => rw [hs] at h; cases h
        | some r =>
          obtain ⟨w1, z1⟩ := r
          rw [hs] at h
          dsimp only at h ⊢
          by_cases hw1 : w1 = -2
          · rw [if_pos hw1] at h
            cases h
            exact absurd rfl hw
          · rw [if_neg hw1] at h ⊢
            exact st_any h hw h9
theorem zn_w2 {a k c : Nat} {x : Int32} {sw : Bool} (h0 : z.2.1 1 = 0) (hc : 2 ≤ c) (hc9 : c < 2 ^ 31) : lsW2 (zC z (nI c)) a k x sw = zC (lsW2 z a k x sw) (nI (c - 1)) := by
  have hi : icC (nI c) = nI (c - 1) := by
    rw [icC, if_neg (fun y => by have := cn_eq (a := c) (b := 0) (by omega) (by decide) y; omega)]
    exact pk_sub (a := c) (b := 1) (by omega)
  refine Prod.ext rfl (Prod.ext ?_ rfl)
  funext j
  show upd (upd (upd (upd (upd (upd z.2.1 1 (nI c)) 1 (icC (nI c))) 4 (z.2.1 4 + 1)) 5 (z.2.1 5 + 1)) 6 (z.2.1 6 + 1)) 7 (z.2.1 7 + bI (sw = true)) j = upd (upd (upd (upd (upd (upd z.2.1 1 (icC (z.2.1 1))) 4 (z.2.1 4 + 1)) 5 (z.2.1 5 + 1)) 6 (z.2.1 6 + 1)) 7 (z.2.1 7 + bI (sw = true))) 1 (nI (c - 1)) j
  rw [hi]
  by_cases e1 : j = 1
  · subst e1; rfl
  · rcases (show j = 4 ∨ j = 5 ∨ j = 6 ∨ j = 7 ∨ (j ≠ 4 ∧ j ≠ 5 ∧ j ≠ 6 ∧ j ≠ 7) by omega) with rfl | rfl | rfl | rfl | ⟨e4, e5, e6, e7⟩
    iterate 4 (· rfl)
    rw [pk_un e7, pk_un e6, pk_un e5, pk_un e4, pk_un e1, pk_un e1, pk_un e1, pk_un e7, pk_un e6, pk_un e5, pk_un e4, pk_un e1]
theorem zn_e2 {b c : Nat} (h0 : z.2.1 1 = 0) (hc : 2 ≤ c) (hc9 : c < 2 ^ 31) : lsE2 (zC z (nI c)) b = zC (lsE2 z b) (nI (c - 1)) := by
  have hi : icC (nI c) = nI (c - 1) := by
    rw [icC, if_neg (fun y => by have := cn_eq (a := c) (b := 0) (by omega) (by decide) y; omega)]
    exact pk_sub (a := c) (b := 1) (by omega)
  refine Prod.ext rfl (Prod.ext ?_ rfl)
  funext j
  show upd (upd (upd (upd z.2.1 1 (nI c)) 1 (icC (nI c))) 5 (z.2.1 5 + 1)) 8 (z.2.1 8 + 1) j = upd (upd (upd (upd z.2.1 1 (icC (z.2.1 1))) 5 (z.2.1 5 + 1)) 8 (z.2.1 8 + 1)) 1 (nI (c - 1)) j
  rw [hi]
  by_cases e1 : j = 1
  · subst e1; rfl
  · rcases (show j = 5 ∨ j = 8 ∨ (j ≠ 5 ∧ j ≠ 8) by omega) with rfl | rfl | ⟨e5, e8⟩
    iterate 2 (· rfl)
    rw [pk_un e8, pk_un e5, pk_un e1, pk_un e1, pk_un e1, pk_un e8, pk_un e5, pk_un e1]
theorem zn_tk {n : Nat} {v y : Int32} {z1 : LgS} (h : tkN n z = some (v, z1)) : tkN n (zC z y) = some (v, zC z1 y) ∧ z1.2.1 1 = z.2.1 1 ∧ z1.2.1 5 = z.2.1 5 := by
  rw [tkN] at h ⊢
  show (if frZ z = 0 then if cbZ z < n then none else some (4 * (lwZ z + 1) - at_ (z.2.2 7) 8 0 (lwZ z), tkO (zC z y)) else some (4 * (z.2.1 3 + 1) - frZ z, zC z y)) = _ ∧ _
  split at h
  · rename_i h1
    rw [if_pos h1]
    split at h
    · cases h
    · rename_i h2
      rw [if_neg h2]
      cases h
      have : tkO (zC z y) = zC (tkO z) y := Prod.ext rfl (Prod.ext (upd_cm (a := 1) (b := 3) (by decide)) rfl)
      rw [this]
      exact ⟨rfl, pk_un (f := z.2.1) (k := 3) (j := 1) (x := lwZ z) (by decide), pk_un (f := z.2.1) (k := 3) (j := 5) (x := lwZ z) (by decide)⟩
  · rename_i h1
    rw [if_neg h1]
    cases h
    exact ⟨rfl, rfl, rfl⟩
theorem zn_tkn {n : Nat} {y : Int32} (h : tkN n z = none) : tkN n (zC z y) = none := by
  rw [tkN] at h ⊢
  show (if frZ z = 0 then if cbZ z < n then none else some (4 * (lwZ z + 1) - at_ (z.2.2 7) 8 0 (lwZ z), tkO (zC z y)) else some (4 * (z.2.1 3 + 1) - frZ z, zC z y)) = _
  split at h
  · rename_i h1
    rw [if_pos h1]
    split at h
    · rename_i h2
      rw [if_pos h2]
    · cases h
  · cases h
theorem zn_ic {c : Nat} (hc : 2 ≤ c) (hc9 : c < 2 ^ 31) : ¬ icP ((zC z (nI c)).2.1 1) := fun y => by
  have h2 : nI c - 1 = 0 := y.2
  rw [show nI c - 1 = nI (c - 1) from pk_sub (a := c) (b := 1) (by omega)] at h2
  have := cn_eq (a := c - 1) (b := 0) (by omega) (by decide) h2
  omega
theorem zz_C {x y : Int32} : zC (zC z x) y = zC z y := by
  refine Prod.ext rfl (Prod.ext ?_ rfl)
  funext j
  show upd (upd z.2.1 1 x) 1 y j = upd z.2.1 1 y j
  by_cases e : j = 1
  · subst e; rfl
  · rw [pk_un e, pk_un e, pk_un e]
theorem zn_slp {b : Nat} {M : Int32} : ∀ {m q : Nat} {z z2 : LgS}, slp b M m q z = some (true, z2) → z.2.1 1 = 0 → z2.2.1 1 = 0 ∧ ∃ d, d ≤ m ∧ z2.2.1 5 = z.2.1 5 + nI d ∧ ∀ c, d < c → c < 2 ^ 31 → slp b M m q (zC z (nI c)) = some (true, zC z2 (nI (c - d)))
  | 0, q, z, z2, h, h0 => by
    cases h
    exact ⟨h0, 0, Nat.le_refl _, (Int32.add_zero _).symm, fun c _ _ => rfl⟩
  | m + 1, q, z, z2, h, h0 => by
    rw [slp] at h
    by_cases hb : (M >>> (nI q &&& 31)) &&& 1 = 0
    · rw [if_pos hb] at h
      obtain ⟨g0, d, g1, g2, g3⟩ := zn_slp h h0
      exact ⟨g0, d, by omega, g2, fun c h1 h2 => by rw [slp, if_pos hb]; exact g3 c h1 h2⟩
    · rw [if_neg hb] at h
      cases ht : tkN 1 z with
      | none => rw [ht] at h; cases h
      | some r =>
        obtain ⟨v, z1⟩ := r
        obtain ⟨-, t1, t5⟩ := zn_tk (y := 0) ht
        rw [ht] at h
        dsimp only at h
        rw [slS] at h
        by_cases hv : inN v 32 ∧ inN (tpZ z (nI (4 * b + q)) 1) 16
        · rw [if_pos hv, if_neg (fun y => y.1 (t1.trans h0))] at h
          obtain ⟨g0, d, g1, g2, g3⟩ := zn_slp h (show icC (z1.2.1 1) = 0 by rw [t1, h0]; rfl)
          refine ⟨g0, d + 1, by omega, ?_, fun c h1 h2 => ?_⟩
          · rw [g2]
            show z1.2.1 5 + 1 + nI d = _
            rw [t5, Int32.add_assoc, show (1 : Int32) + nI d = nI (1 + d) from nI_add 1 d, Nat.add_comm]
          · rw [slp, if_neg hb, (zn_tk (y := nI c) ht).1]
            dsimp only
            rw [slS]
            rw [show (if inN v 32 ∧ inN (tpZ (zC z (nI c)) (nI (4 * b + q)) 1) 16 then if icP ((zC z1 (nI c)).2.1 1) then some (false, lsW1 (zC z1 (nI c)) v.toNatClampNeg true) else slp b M m (q + 1) (lsW2 (zC z1 (nI c)) v.toNatClampNeg (tpZ (zC z (nI c)) (nI (4 * b + q)) 1).toNatClampNeg (tpZ (zC z (nI c)) (nI (4 * b + q)) 2) true) else none) = _ from if_pos hv, if_neg (zn_ic (by omega) h2), zn_w2 (t1.trans h0) (by omega) h2]
            refine (g3 (c - 1) (by omega) (by omega)).trans ?_
            rw [show c - 1 - d = c - (d + 1) by omega]
        · rw [if_neg hv] at h
          cases h
theorem no_cut {b : Nat} {M : Int32} {m q : Nat} {z zf : LgS} (h0 : z.2.1 1 = 0) : ¬ slp b M m q z = some (false, zf) := fun h => by
  induction m generalizing q z with
  | zero => cases h
  | succ m ih =>
    rw [slp] at h
    split at h
    · exact ih h0 h
    · cases ht : tkN 1 z with
      | none => rw [ht] at h; cases h
      | some r =>
        obtain ⟨v, z1⟩ := r
        obtain ⟨-, t1, t5⟩ := zn_tk (y := 0) ht
        rw [ht] at h
        dsimp only at h
        rw [slS] at h
        split at h
        · rw [if_neg (fun y => y.1 (t1.trans h0))] at h
          exact ih (show icC (z1.2.1 1) = 0 by rw [t1, h0]; rfl) h
        · cases h
theorem zn_sbl {b : Nat} {w : Int32} {z2 : LgS} (h : sbl b z = some (w, z2)) (h0 : z.2.1 1 = 0) : z2.2.1 1 = 0 ∧ w = nI b ∧ ∃ d, d ≤ 5 ∧ z2.2.1 5 = z.2.1 5 + nI d ∧ ∀ c, d < c → c < 2 ^ 31 → sbl b (zC z (nI c)) = some (w, zC z2 (nI (c - d))) := by
  rw [sbl] at h
  rcases hC : slp b (lvM z b 4) 4 0 z with _ | ⟨ok, zf⟩
  · rw [hC] at h; cases h
  · rw [hC] at h
    cases ok
    · exact absurd hC (no_cut h0)
    · obtain ⟨g0, d, g1, g2, g3⟩ := zn_slp hC h0
      rw [sbE, if_neg (fun y => y.1 g0)] at h
      cases h
      refine ⟨by show icC (zf.2.1 1) = 0; rw [g0]; rfl, rfl, d + 1, by omega, by show zf.2.1 5 + 1 = _; rw [g2, add_1], fun c h1 h2 => ?_⟩
      rw [sbl, show slp b (lvM (zC z (nI c)) b 4) 4 0 (zC z (nI c)) = _ from g3 c (by omega) h2, sbE, if_neg (zn_ic (by omega) (by omega)), zn_e2 g0 (by omega) (by omega), show c - d - 1 = c - (d + 1) by omega]
theorem ne_m2 {a : Nat} (h : a < 2 ^ 31) : ¬ nI a = -2 := fun y => by
  have := nI_pos h
  rw [y] at this
  exact this (by decide)
theorem zn_st {k : Nat} {x : Int32} : ∀ {m : Nat} {z z2 : LgS} {w : Int32}, stL k x m z = some (w, z2) → z.1.2 ≤ 8 → z.2.1 1 = 0 → ¬ w = -9 → ∃ d, 1 ≤ d ∧ d ≤ 6 * m ∧ z2.2.1 5 = z.2.1 5 + nI d ∧ ∀ c, d < c → c < 2 ^ 31 → stL k x m (zC z (nI c)) = some (w, zC z2 (nI (c - d)))
  | 0, z, z2, w, h, hB, h0, h9 => by cases h; exact absurd rfl h9
  | m + 1, z, z2, w, h, hB, h0, h9 => by
    rw [stL] at h
    cases ht : tkN 2 z with
    | some r =>
      obtain ⟨v, z1⟩ := r
      obtain ⟨-, t1, t5⟩ := zn_tk (y := 0) ht
      rw [ht] at h
      dsimp only at h
      rw [stW] at h
      split at h
      · rename_i hv
        rw [if_neg (fun y => y.1 (t1.trans h0))] at h
        cases h
        refine ⟨1, Nat.le_refl _, by omega, by show z1.2.1 5 + 1 = _; rw [t5]; rfl, fun c h1 h2 => ?_⟩
        rw [stL, (zn_tk (y := nI c) ht).1]
        dsimp only
        rw [stW, if_pos hv, if_neg (zn_ic (by omega) h2), zn_w2 (t1.trans h0) (by omega) h2]
      · cases h
    | none =>
      rw [ht] at h
      dsimp only at h
      cases hv : cvZ z with
      | none =>
        rw [hv] at h
        cases h
        exact absurd rfl h9
      | some b =>
        rw [hv] at h
        dsimp only at h
        cases hs : sbl b z with
        | none => rw [hs] at h; cases h
        | some r =>
          obtain ⟨w1, z1⟩ := r
          rw [hs] at h
          dsimp only at h
          obtain ⟨g0, gw, d1, g1, g2, g3⟩ := zn_sbl hs h0
          have hw1 : ¬ w1 = -2 := by rw [gw]; exact ne_m2 (by have := cvF_lt hv; omega)
          rw [if_neg hw1] at h
          obtain ⟨d2, k1, k2, k3, k4⟩ := zn_st h (by rw [sbl_B hs]; exact hB) g0 h9
          refine ⟨d1 + d2, by omega, by omega, by rw [k3, g2, Int32.add_assoc, nI_add], fun c h1 h2 => ?_⟩
          rw [stL, zn_tkn ht]
          dsimp only
          rw [show cvZ (zC z (nI c)) = cvZ z from rfl, hv]
          dsimp only
          rw [g3 c (by omega) h2]
          dsimp only
          rw [if_neg hw1, k4 (c - d1) (by omega) (by omega), show c - d1 - d2 = c - (d1 + d2) by omega]
theorem Pc_0 (h : z.1.1 = true) {c : Nat} (hc : c ≤ 99) : Pc (z.2.1 5) c (zC z (nI c)) := by
  refine ⟨fun _ => ⟨0, (Int32.add_zero _).symm, ?_⟩, fun y => by rw [show z.1.1 = false from y] at h; exact absurd h (by decide)⟩
  show (c = 0 ∧ nI c = 0) ∨ (0 < c ∧ nI c = nI (c - 0))
  rcases Nat.eq_zero_or_pos c with e | e
  · exact Or.inl ⟨e, by rw [e]; rfl⟩
  · exact Or.inr ⟨e, rfl⟩
/-- what a record costs, with every record, without a cut and with a late one -/
theorem cs_d (h : Inv z) (hc : 0 < csV z) : ∃ d, 1 ≤ d ∧ d ≤ 6000 ∧ csV z = nI d ∧ ∀ (k : Nat) (x : Int32), ∃ w z2, stL k x 1000 (zC z 0) = some (w, z2) ∧ ¬ w = -2 ∧ ¬ w = -9 ∧ z2.2.1 5 = z.2.1 5 + nI d ∧ ∀ c, d < c → c < 2 ^ 31 → stL k x 1000 (zC z (nI c)) = some (w, zC z2 (nI (c - d))) := by
  have hon := cs_on hc
  have hI0 : Inv (zC z 0) := inv_zC (c := 0) h (by decide)
  have hok : okX (zC z 0) 0 0 := Or.inl (by decide)
  have hs := (inv_st hI0 hon (by decide) hok).1
  have hR := stT_P (cl_Pc (o := z.2.1 5) (c := 0) (by decide)) hI0 hon (k := 0) (x := 0) (by decide) hok (Pc_0 (c := 0) hon (by decide))
  have h9 : ¬ (stT 0 0 (zC z 0)).1 = -9 := fun y => by
    rw [csV, if_pos hon, if_pos y] at hc
    exact absurd hc (by decide)
  have h2 : ¬ (stT 0 0 (zC z 0)).1 = -2 := fun y => by
    rcases hR with ⟨e, -⟩ | ⟨-, e, eo⟩ | ⟨z1, b0, p, hp, e, -⟩
    · exact h9 e
    · have := (e.2 eo).2; omega
    · rw [e] at y; exact ne_m2 (by omega) y
  obtain ⟨d, d1, d2, d3, -⟩ := zn_st hs (inv_B hI0) rfl h9
  have e5 : csV z = nI d := by
    rw [csV, if_pos hon, if_neg h9, d3]
    show z.2.1 5 + nI d - z.2.1 5 = nI d
    rw [Int32.add_comm, Int32.add_sub_cancel]
  refine ⟨d, d1, d2, e5, fun k x => ?_⟩
  obtain ⟨z3, g1, g2⟩ := st_any (k2 := k) (x2 := x) hs h2 h9
  obtain ⟨d', k1, k2, k3, k4⟩ := zn_st g1 (inv_B hI0) rfl h9
  have : nI d' = nI d := by
    have e : z.2.1 5 + nI d' = z.2.1 5 + nI d := by
      rw [g2, d3] at k3
      exact k3.symm
    exact (Int32.add_right_inj _).mp e
  have := cn_eq (a := d') (b := d) (by omega) (by omega) this
  subst this
  refine ⟨_, z3, g1, h2, h9, k3, fun c c1 c2 => ?_⟩
  rw [← k4 c c1 c2, zz_C]
theorem stT_eq {k : Nat} {x w : Int32} {z2 : LgS} (h : stL k x 1000 z = some (w, z2)) : stT k x z = (w, z2) := by
  rw [stT, h]; rfl
/-- a put behind which nothing is cut -/
theorem put_through (h : InvX z) (hc : 0 < csV z) {k v c : Nat} (hk : k < 16) (hv : v ≤ 999) (hc9 : c ≤ 99) (hcd : c = 0 ∨ ∀ d, csV z = nI d → d ≤ 6000 → d < c) : ∃ p, p < 32 ∧ (stT k (nI v) (zC z (nI c))).1 = nI p ∧ (stT k (nI v) (zC z (nI c))).2.1.1 = true ∧ (stT k (nI v) (zC z (nI c))).2.1.2 = z.1.2 ∧ (stT k (nI v) (zC z (nI c))).2.2.2 6 k = nI p ∧ ∀ j, j < 16 → vaZ (stT k (nI v) (zC z (nI c))).2 (nI j) = if j = k then nI v else vaZ z (nI j) := by
  have hon := cs_on hc
  have hIc : Inv (zC z (nI c)) := inv_zC h.1 hc9
  have hok : okX (zC z (nI c)) k (nI v) := Or.inl (ne9 (by omega))
  obtain ⟨d, d1, d2, d3, d4⟩ := cs_d h.1 hc
  obtain ⟨w, z2, g1, g2, g3, g4, g5⟩ := d4 k (nI v)
  have hw : (stT k (nI v) (zC z (nI c))).1 = w := by
    rcases hcd with e | e
    · subst e; exact congrArg Prod.fst (stT_eq g1)
    · exact congrArg Prod.fst (stT_eq (g5 c (e d d3 d2) (by omega)))
  have hR := stT_P (cl_VM (z0 := z)) hIc hon hk hok ⟨rfl, fun _ _ => rfl⟩
  rw [hw] at hR
  rcases hR with ⟨e, -⟩ | ⟨e, -⟩ | ⟨z1, b0, p, hp, e, e2, h1, h2, h3, h4, h5⟩
  · exact absurd e g3
  · exact absurd e g2
  · rw [hw, e2]
    refine ⟨p, hp, e, h3, h1.1, ?_, fun j hj => ?_⟩
    · rw [(w2_F (z := z1) (a := p) (k := k) (x := nI v) (sw := false)).2.2.2.2.2.2.1, pk_us]
    · rw [w2_va h2 h4 hj, h1.2 j hj]
/-- a put that is cut -/
theorem put_cut (h : InvX z) (hc : 0 < csV z) {k v c d : Nat} (hk : k < 16) (hv : v ≤ 999) (hc9 : c ≤ 99) (h1 : 1 ≤ c) (hd : csV z = nI d) (hd9 : d < 2 ^ 31) (hcd : c ≤ d) : (stT k (nI v) (zC z (nI c))).1 = -2 ∧ (stT k (nI v) (zC z (nI c))).2.1.1 = false ∧ (stT k (nI v) (zC z (nI c))).2.1.2 = z.1.2 ∧ ∀ j, j < 16 → vaZ (stT k (nI v) (zC z (nI c))).2 (nI j) = vaZ z (nI j) := by
  have hon := cs_on hc
  have hIc : Inv (zC z (nI c)) := inv_zC h.1 hc9
  have hok : okX (zC z (nI c)) k (nI v) := Or.inl (ne9 (by omega))
  obtain ⟨d', d1, d2, d3, d4⟩ := cs_d h.1 hc
  have : d' = d := cn_eq (by omega) hd9 (d3.symm.trans hd)
  subst this
  obtain ⟨w, z2, g1, g2, g3, g4, -⟩ := d4 k (nI v)
  have hs := (inv_st hIc hon hk hok).1
  rcases stT_P (cl_VM (z0 := z)) hIc hon hk hok ⟨rfl, fun _ _ => rfl⟩ with ⟨e, -⟩ | ⟨e, e2, e3⟩ | ⟨z1, b0, p, hp, e, -⟩
  · rw [e] at hs
    have := zc_st (k2 := k) (x2 := nI v) hs
    rw [zz_C, g1] at this
    exact absurd (so_inj this).1 g3
  · exact ⟨e, e3, e2.1, e2.2⟩
  · rcases stT_P (cl_Pc (o := z.2.1 5) hc9) hIc hon hk hok (Pc_0 hon hc9) with ⟨y, -⟩ | ⟨y, -⟩ | ⟨z1, b0, p2, hp2, y, y2, k1, k2, k3, k4, k5⟩
    · rw [e] at y; exact absurd y (ne9 (by omega))
    · rw [e] at y; exact absurd y (ne_m2 (by omega))
    · have hPc := Pc_w2 (a := p2) (k := k) (x := nI v) (sw := false) hc9 k3 k5 k1
      obtain ⟨j, j5, j1⟩ := hPc.1 k3
      have hz := zc_st2 hs (by rw [e]; exact ne_m2 (by omega))
      rw [zz_C, g1] at hz
      have e5 : z2.2.1 5 = (stT k (nI v) (zC z (nI c))).2.2.1 5 := by rw [(so_inj hz).2]; rfl
      rw [g4, y2, j5] at e5
      have := (Int32.add_right_inj _).mp e5
      rcases j1 with ⟨j1, -⟩ | ⟨j1, -⟩
      · omega
      · have := cn_eq (a := d') (b := j) (by omega) (by omega) this
        omega
theorem va_zSw {k : Nat} : vaZ (zSw z) (nI k) = vaZ z (nI k) := by
  unfold zSw
  split <;> rfl
/-- a sweep without a cut -/
theorem sweep_through (h : InvX z) {b : Nat} (hv : cvZ z = some b) : (sbT b (zC z 0)).1 = nI b ∧ (sbT b (zC z 0)).2.1.2 = z.1.2 ∧ (sbT b (zC z 0)).2.2.2 4 b = z.2.2 4 b + 1 ∧ (sbT b (zC z 0)).2.2.2 7 b = 4 ∧ (sbT b (zC z 0)).2.2.1 8 = z.2.1 8 + 1 ∧ ∀ j, j < 16 → vaZ (sbT b (zC z 0)).2 (nI j) = vaZ z (nI j) := by
  have hI0 : Inv (zC z 0) := inv_zC (c := 0) h.1 (by decide)
  have hv0 : cvZ (zC z 0) = some b := hv
  have hs := (inv_sb hI0 hv0).1
  obtain ⟨-, hw, -⟩ := zn_sbl hs rfl
  have hb8 : b < 8 := by have := cvF_lt hv; have := inv_B h.1; omega
  -- the erased blocks that were counted, as long as no wear has changed
  have hC : Cl (fun w => (∀ j, j < 8 → weN_ z j ≤ weN_ w j) ∧ (w.2.2 4 = z.2.2 4 → w.2.1 8 = z.2.1 8)) := by
    refine ⟨fun w b hI ho hb hf h => ⟨h.1, fun y => h.2 y⟩, fun w b a j k hI ho hn hj h0 h1 hk h6 hc h => ⟨h.1, fun y => h.2 y⟩, fun w b a sw hI ho hn hc h => ⟨h.1, fun y => h.2 y⟩, fun w b hI ho hb hw hd hc h => ?_, fun w b hI ho hb hw hd hc h => ?_⟩
    · obtain ⟨-, e1, e2⟩ := suT_wp (z2 := lsE2 w b) hI hb hw rfl
      have hBw := inv_B hI
      refine ⟨fun j hj => ?_, fun y => ?_⟩
      · by_cases e : j = b
        · subst e; rw [e1]; have := h.1 j hj; omega
        · rw [e2 j e]; exact h.1 j hj
      · have : weN_ (lsE2 w b) b = weN_ z b := by unfold weN_; rw [y]
        have := h.1 b (by omega)
        omega
    · obtain ⟨-, e1, e2⟩ := suT_wp (z2 := lsE1 w b) hI hb hw rfl
      have hBw := inv_B hI
      refine ⟨fun j hj => ?_, fun y => ?_⟩
      · by_cases e : j = b
        · subst e; rw [e1]; have := h.1 j hj; omega
        · rw [e2 j e]; exact h.1 j hj
      · have : weN_ (lsE1 w b) b = weN_ z b := by unfold weN_; rw [y]
        have := h.1 b (by omega)
        omega
  obtain ⟨k1, k2⟩ := sbT_P (cl_VM (z0 := z)) hI0 hv0 ⟨rfl, fun _ _ => rfl⟩
  obtain ⟨-, k3⟩ := sbT_P hC hI0 hv0 ⟨fun _ _ => Nat.le_refl _, fun _ => rfl⟩
  refine ⟨hw, k1.1, ?_, ?_, ?_, k1.2⟩
  · rcases k3 with ⟨y, -⟩ | ⟨-, z1, g1, g2, g3, g4, g5, g6, g7⟩
    · rw [hw] at y; exact absurd y (ne_m2 (by omega))
    · rw [g7, show (lsE2 z1 b).2.2 4 = upd (z1.2.2 4) b (z1.2.2 4 b + 1) from (wp_F (F := z1.2.2) (b := b) (x := 0)).2.2.2.2.1, pk_us, g5]
      rfl
  · rcases k3 with ⟨y, -⟩ | ⟨-, z1, g1, g2, g3, g4, g5, g6, g7⟩
    · rw [hw] at y; exact absurd y (ne_m2 (by omega))
    · rw [g7, show (lsE2 z1 b).2.2 7 = upd (z1.2.2 7) b (if (0 : Int32) = 0 then 4 else 0) from (wp_F (F := z1.2.2) (b := b) (x := 0)).2.2.2.2.2.2.2, pk_us]
      rfl
  · rcases k3 with ⟨y, -⟩ | ⟨-, z1, g1, g2, g3, g4, g5, g6, g7⟩
    · rw [hw] at y; exact absurd y (ne_m2 (by omega))
    · rw [g7]
      show z1.2.1 8 + 1 = _
      rw [g1.2 g5]
end PV
