-- THE PURE PART: a page is written
section W2
variable {z : LgS} {a k : Nat} {x : Int32} {sw : Bool}
theorem w2_F : (lsW2 z a k x sw).2.2 0 = upd (z.2.2 0) a 1 ∧ (lsW2 z a k x sw).2.2 1 = upd (z.2.2 1) a (nI k) ∧ (lsW2 z a k x sw).2.2 2 = upd (z.2.2 2) a x ∧ (lsW2 z a k x sw).2.2 3 = upd (z.2.2 3) a (z.2.1 4) ∧ (lsW2 z a k x sw).2.2 4 = z.2.2 4 ∧ (lsW2 z a k x sw).2.2 5 = lvW (z.2.2 5) (z.2.2 6) a k ∧ (lsW2 z a k x sw).2.2 6 = upd (z.2.2 6) k (nI a) ∧ (lsW2 z a k x sw).2.2 7 = upd (z.2.2 7) (a / 4) (z.2.2 7 (a / 4) - 1) := by
  simp [lsW2, va_up]
theorem w2_N : (lsW2 z a k x sw).2.1 0 = z.2.1 0 ∧ (lsW2 z a k x sw).2.1 1 = icC (z.2.1 1) ∧ (lsW2 z a k x sw).2.1 2 = z.2.1 2 ∧ (lsW2 z a k x sw).2.1 3 = z.2.1 3 ∧ (lsW2 z a k x sw).2.1 4 = z.2.1 4 + 1 ∧ (lsW2 z a k x sw).2.1 5 = z.2.1 5 + 1 := by
  simp [lsW2, upd]
/-- pages other than a are as they were -/
theorem w2_pg {j w : Nat} (hj : j ≠ a) (hw : w < 4) : pg (zr (lsW2 z a k x sw)) j w = pg (zr z) j w := by
  obtain ⟨h0, h1, h2, h3, -⟩ := w2_F (z := z) (a := a) (k := k) (x := x) (sw := sw)
  rw [zr_pg hw, zr_pg hw]
  rcases (show w = 0 ∨ w = 1 ∨ w = 2 ∨ w = 3 by omega) with rfl | rfl | rfl | rfl
  · rw [h0, pk_un hj]
  · rw [h1, pk_un hj]
  · rw [h2, pk_un hj]
  · rw [h3, pk_un hj]
theorem w2_pa : pg (zr (lsW2 z a k x sw)) a 0 = 1 ∧ pg (zr (lsW2 z a k x sw)) a 1 = nI k ∧ pg (zr (lsW2 z a k x sw)) a 2 = x ∧ pg (zr (lsW2 z a k x sw)) a 3 = z.2.1 4 := by
  obtain ⟨h0, h1, h2, h3, -⟩ := w2_F (z := z) (a := a) (k := k) (x := x) (sw := sw)
  rw [zr_pg (by decide), zr_pg (by decide), zr_pg (by decide), zr_pg (by decide), h0, h1, h2, h3]
  exact ⟨pk_us, pk_us, pk_us, pk_us⟩
theorem i_irr {x y : Int32} (h : x < y) : ¬ y < x := fun h2 => by
  rw [Int32.lt_iff_toInt_lt] at h h2
  omega
theorem w2_nw (hM : iM z) (ha : a < 32) (h0 : ¬ z.2.2 0 a = 1) {key : Int32} : ∀ {n : Nat}, n ≤ 32 → nwst (zr (lsW2 z a k x sw)) key n = if key = nI k ∧ a < n then some a else nwst (zr z) key n
  | 0, _ => by rw [if_neg (fun y => absurd y.2 (Nat.not_lt_zero _))]; rfl
  | n + 1, hn => by
    have ih := w2_nw hM ha h0 (key := key) (n := n) (by omega)
    obtain ⟨p0, p1, p2, p3⟩ := w2_pa (z := z) (a := a) (k := k) (x := x) (sw := sw)
    have hmk : ∀ o, o < 32 → z.2.2 0 o = 1 → z.2.2 3 o < z.2.1 4 := fun o h1 h2 => (hM.1 o h1 h2).2
    have hold : ∀ o, nwst (zr z) key n = some o → o < 32 ∧ o ≠ a ∧ z.2.2 0 o = 1 ∧ z.2.2 1 o = key := fun o ho => by
      have h1 := nwst_lt ho
      have h2 := nwst_wr ho
      rw [zr_pg (by decide), zr_pg (by decide)] at h2
      exact ⟨by omega, fun e => h0 (e ▸ h2.1), h2.1, h2.2⟩
    by_cases e : n = a
    · subst e
      rw [if_neg (fun y => absurd y.2 (Nat.lt_irrefl _))] at ih
      by_cases hk : key = nI k
      · rw [if_pos ⟨hk, Nat.lt_succ_self _⟩, nwst, ih]
        cases ho : nwst (zr z) key n with
        | none =>
          dsimp only
          rw [if_pos ⟨p0, p1.trans hk.symm⟩]
        | some o =>
          obtain ⟨g1, g2, g3, g4⟩ := hold o ho
          dsimp only
          rw [if_pos ⟨p0, p1.trans hk.symm, by rw [w2_pg g2 (by decide), p3, zr_pg (by decide)]; exact hmk o g1 g3⟩]
      · rw [if_neg (fun y => hk y.1), nwst, ih, nwst]
        cases ho : nwst (zr z) key n with
        | none =>
          dsimp only
          rw [if_neg (fun y => hk (y.2.symm.trans p1)), if_neg (fun y => h0 (by have := y.1; rw [zr_pg (by decide)] at this; exact this))]
        | some o =>
          dsimp only
          rw [if_neg (fun y => hk (y.2.1.symm.trans p1)), if_neg (fun y => h0 (by have := y.1; rw [zr_pg (by decide)] at this; exact this))]
    · by_cases hc : key = nI k ∧ a < n
      · rw [if_pos hc] at ih
        rw [if_pos ⟨hc.1, by omega⟩, nwst, ih]
        dsimp only
        rw [if_neg]
        intro y
        have h1 := y.1
        have h3 := y.2.2
        rw [w2_pg e (by decide), zr_pg (by decide)] at h1
        rw [w2_pg e (by decide), p3, zr_pg (by decide)] at h3
        exact i_irr (hmk n (by omega) h1) h3
      · rw [if_neg hc] at ih
        rw [if_neg (fun y => hc ⟨y.1, by omega⟩), nwst, ih, nwst]
        cases ho : nwst (zr z) key n with
        | none =>
          dsimp only
          rw [w2_pg e (by decide), w2_pg e (by decide)]
        | some o =>
          obtain ⟨g1, g2, g3, g4⟩ := hold o ho
          dsimp only
          rw [w2_pg e (by decide), w2_pg e (by decide), w2_pg e (by decide), w2_pg g2 (by decide)]
theorem w2_ct (ha : a < 32) (h0 : ¬ z.2.2 0 a = 1) {key : Int32} : ∀ {n : Nat}, n ≤ 32 → cnt (zr (lsW2 z a k x sw)) key n = cnt (zr z) key n + if key = nI k ∧ a < n then 1 else 0
  | 0, _ => by rw [if_neg (fun y => absurd y.2 (Nat.not_lt_zero _))]; rfl
  | n + 1, hn => by
    have ih := w2_ct ha h0 (key := key) (n := n) (by omega)
    obtain ⟨p0, p1, p2, p3⟩ := w2_pa (z := z) (a := a) (k := k) (x := x) (sw := sw)
    rw [cnt, cnt, ih]
    by_cases e : n = a
    · subst e
      rw [if_neg (fun y => absurd y.2 (Nat.lt_irrefl _)), if_neg (show ¬ (pg (zr z) n 0 = 1 ∧ pg (zr z) n 1 = key) from fun y => h0 (by have := y.1; rw [zr_pg (by decide)] at this; exact this))]
      by_cases hk : key = nI k
      · rw [if_pos ⟨p0, p1.trans hk.symm⟩, if_pos ⟨hk, Nat.lt_succ_self _⟩]
      · rw [if_neg (fun y => hk (y.2.symm.trans p1)), if_neg (fun y => hk y.1)]
    · rw [w2_pg e (by decide), w2_pg e (by decide)]
      by_cases hc : key = nI k ∧ a < n
      · rw [if_pos hc, if_pos (show key = nI k ∧ a < n + 1 from ⟨hc.1, by omega⟩)]
        omega
      · rw [if_neg hc, if_neg (show ¬ (key = nI k ∧ a < n + 1) from fun y => hc ⟨y.1, by omega⟩)]
        omega
theorem nI_ne {i j : Nat} (hi : i < 2 ^ 31) (hj : j < 2 ^ 31) (h : i ≠ j) : ¬ nI i = nI j := fun e => h ((nI_eq hi hj).mp e)
/-- a page with the key counts -/
theorem cnt_pos {f : Nat → Int32} {key : Int32} {i : Nat} (h : pg f i 0 = 1 ∧ pg f i 1 = key) : ∀ {n : Nat}, i < n → 1 ≤ cnt f key n
  | 0, hn => absurd hn (Nat.not_lt_zero _)
  | n + 1, hn => by
    rw [cnt]
    by_cases e : i = n
    · subst e
      rw [if_pos h]
      omega
    · have := cnt_pos h (n := n) (by omega)
      omega
/-- live, behind the writing -/
theorem w2_liv (h : Inv z) (ha : a < 32) (h0 : ¬ z.2.2 0 a = 1) (hx : ¬ x = -9 ∨ ∃ i, i < 32 ∧ z.2.2 0 i = 1 ∧ z.2.2 1 i = nI k) {j : Nat} (hj : j < 32) : livP (zr (lsW2 z a k x sw)) 8 j ↔ (j = a ∨ (livP (zr z) 8 j ∧ ¬ z.2.2 1 j = nI k)) := by
  have hM := h.2.2.1
  obtain ⟨p0, p1, p2, p3⟩ := w2_pa (z := z) (a := a) (k := k) (x := x) (sw := sw)
  have nw := fun key => w2_nw (k := k) (x := x) (sw := sw) hM ha h0 (key := key) (n := 32) (Nat.le_refl _)
  have ct := fun key => w2_ct (k := k) (x := x) (sw := sw) ha h0 (key := key) (n := 32) (Nat.le_refl _)
  unfold livP
  by_cases e : j = a
  · subst e
    rw [p0, p1, p2]
    refine ⟨fun _ => Or.inl rfl, fun _ => ⟨rfl, ?_, ?_⟩⟩
    · show nwst _ _ 32 = _
      rw [nw, if_pos ⟨rfl, ha⟩]
    · rcases hx with hx | ⟨i, h1, h2, h3⟩
      · exact Or.inl hx
      · refine Or.inr ?_
        show 1 < cnt _ _ 32
        rw [ct, if_pos ⟨rfl, ha⟩]
        have := cnt_pos (f := zr z) (key := nI k) (i := i) ⟨by rw [zr_pg (by decide)]; exact h2, by rw [zr_pg (by decide)]; exact h3⟩ h1
        omega
  · rw [w2_pg e (by decide), w2_pg e (by decide), w2_pg e (by decide), zr_pg (w := 1) (by decide)]
    show (_ ∧ nwst _ _ 32 = _ ∧ (_ ∨ 1 < cnt _ _ 32)) ↔ (_ ∨ ((_ ∧ nwst _ _ 32 = _ ∧ (_ ∨ 1 < cnt _ _ 32)) ∧ _))
    rw [nw, ct]
    by_cases hk : z.2.2 1 j = nI k
    · rw [if_pos ⟨hk, ha⟩]
      constructor
      · intro y; exact absurd (Option.some.inj y.2.1).symm e
      · intro y
        rcases y with y | y
        · exact absurd y e
        · exact absurd hk y.2
    · rw [if_neg (fun y => hk y.1), if_neg (fun y => hk y.1), Nat.add_zero]
      constructor
      · intro y; exact Or.inr ⟨y, hk⟩
      · intro y
        rcases y with y | y
        · exact absurd y e
        · exact y.1
/-- what a page must be to be the next one: of block b, the first clean one -/
def nxA (z : LgS) (b a : Nat) : Prop := b < z.1.2 ∧ 1 ≤ frN_ z b ∧ a + frN_ z b = 4 * b + 4
theorem nxA_a (h : Inv z) {b : Nat} (hn : nxA z b a) : a < 32 ∧ a < 4 * z.1.2 ∧ a / 4 = b ∧ z.2.2 0 a = 0 := by
  obtain ⟨h1, h2, h3⟩ := hn
  have hB := inv_B h
  obtain ⟨h4, -⟩ := inv_fr h (show b < 8 by omega)
  refine ⟨by omega, by omega, by omega, ?_⟩
  have := ((h.2.2.2.2.2.1 b (by omega)).2 (4 - frN_ z b) (by omega)).mpr (Nat.le_refl _)
  rw [show 4 * b + (4 - frN_ z b) = a by omega] at this
  exact this
theorem suW_c {z2 : LgS} : ∀ {n : Nat}, (∀ b, b < n → weN_ z2 b = weN_ z b ∧ frN_ z2 b = frN_ z b) → suW z2 n = suW z n
  | 0, _ => rfl
  | n + 1, h => by rw [suW, suW, suW_c (fun b hb => h b (by omega)), (h n (by omega)).1, (h n (by omega)).2]
/-- one block's clean pages are one less -/
theorem suW_1 {z2 : LgS} {b : Nat} (hw : ∀ j, weN_ z2 j = weN_ z j) (hf : ∀ j, j ≠ b → frN_ z2 j = frN_ z j) (h1 : frN_ z2 b + 1 = frN_ z b) (h4 : frN_ z b ≤ 4) : ∀ {n : Nat}, suW z2 n = suW z n + if b < n then 1 else 0
  | 0 => by rw [if_neg (Nat.not_lt_zero _)]; rfl
  | n + 1 => by
    rw [suW, suW, suW_1 hw hf h1 h4 (n := n), hw]
    by_cases e : n = b
    · subst e
      rw [if_neg (Nat.lt_irrefl _), if_pos (Nat.lt_succ_self _)]
      omega
    · rw [hf n e]
      by_cases hb : b < n
      · rw [if_pos hb, if_pos (by omega)]
        omega
      · rw [if_neg hb, if_neg (by omega)]
        omega
theorem suW_le (h : Inv z) : ∀ {n : Nat}, n ≤ 8 → suW z n ≤ 400 * n
  | 0, _ => Nat.le_refl _
  | n + 1, hn => by
    have := suW_le h (n := n) (by omega)
    have h1 := (h.2.2.2.2.2.2.1.2.2 n (by omega)).2
    have h2 : liN_ z ≤ 99 := h.2.2.2.2.2.2.1.1.2
    rw [suW]
    have h3 : weN_ z n ≤ liN_ z := h1
    omega
theorem nm_le (h : Inv z) : nmN_ z ≤ 3201 ∧ z.2.1 4 = nI (nmN_ z) ∧ 1 ≤ nmN_ z := by
  obtain ⟨⟨h1, h2⟩, h3⟩ := h.2.2.2.2.2.2.2.2.2.2
  have := suW_le h (n := 8) (Nat.le_refl _)
  have h4 : nmN_ z ≤ 1 + suW z 8 := h2
  exact ⟨by omega, h1, h3⟩
theorem icC_n (h : Inv z) : isN (icC (z.2.1 1)) 99 := by
  obtain ⟨h1, h2⟩ := h.2.2.2.2.2.2.2.2.2.1
  unfold icC
  by_cases e : z.2.1 1 = 0
  · rw [if_pos e]
    exact ⟨h1, h2⟩
  · rw [if_neg e]
    obtain ⟨j, hj⟩ : ∃ j, (z.2.1 1).toNatClampNeg = j + 1 := by
      cases hc : (z.2.1 1).toNatClampNeg with
      | zero => rw [hc] at h1; exact absurd h1 e
      | succ j => exact ⟨j, rfl⟩
    rw [h1, hj, nI_pred]
    exact isN_of (by omega) (by decide)
theorem inv_w2 (h : Inv z) {b : Nat} (hn : nxA z b a) (hk : k < 16) (hx : ¬ x = -9 ∨ ∃ i, i < 32 ∧ z.2.2 0 i = 1 ∧ z.2.2 1 i = nI k) : Inv (lsW2 z a k x sw) := by
  obtain ⟨ha, haB, hab, h0a⟩ := nxA_a h hn
  have h0 : ¬ z.2.2 0 a = 1 := by rw [h0a]; decide
  obtain ⟨F0, F1, F2, F3, F4, F5, F6, F7⟩ := w2_F (z := z) (a := a) (k := k) (x := x) (sw := sw)
  obtain ⟨N0, N1, N2, N3, N4, N5⟩ := w2_N (z := z) (a := a) (k := k) (x := x) (sw := sw)
  have hB := inv_B h
  obtain ⟨nm1, nm2, nm3⟩ := nm_le h
  obtain ⟨hf4, hf7, -⟩ := inv_fr h (show b < 8 by have := hn.1; omega)
  have hM := h.2.2.1
  have hmlt : z.2.1 4 < z.2.1 4 + 1 := by rw [nm2, nI_1]; exact nI_lt (by omega) (by omega)
  have hf1 : frN_ (lsW2 z a k x sw) b + 1 = frN_ z b := by
    have e : (lsW2 z a k x sw).2.2 7 b = nI (frN_ z b - 1) := by
      rw [F7, hab, pk_us, hf7, show (1 : Int32) = nI 1 from rfl, pk_sub (by have := hn.2.1; omega)]
    unfold frN_ at e ⊢
    rw [e, nI_clamp (by have := hf4; unfold frN_ at this; omega)]
    have := hn.2.1
    unfold frN_ at this
    omega
  have hfo : ∀ j, j ≠ b → frN_ (lsW2 z a k x sw) j = frN_ z j := fun j hj => by
    unfold frN_
    rw [F7, hab, pk_un hj]
  have hwe : ∀ j, weN_ (lsW2 z a k x sw) j = weN_ z j := fun j => by
    unfold weN_
    rw [F4]
  refine ⟨⟨⟨h.1.1.1, hB⟩, fun j hj => ?_, fun j hj hjB => ?_⟩, fun j hj hj1 => ?_, ⟨fun j hj hj1 => ?_, fun i j hi hj hi1 hj1 he => ?_⟩, fun j hj => ?_, fun j hj => ?_, fun j hj => ?_, ⟨?_, ?_, fun j hj => ?_⟩, ?_, ?_, ?_, ?_, ?_⟩
  · rw [F0]
    by_cases e : j = a
    · subst e; rw [pk_us]; exact Or.inr (Or.inl rfl)
    · rw [pk_un e]; exact h.1.2.1 j hj
  · have hjB : 4 * z.1.2 ≤ j := hjB
    rw [F0, pk_un (by omega)]
    exact h.1.2.2 j hj hjB
  · rw [F0] at hj1
    rw [F1]
    by_cases e : j = a
    · subst e
      rw [pk_us]
      exact ⟨nI_pos (by omega), nI_lt (show k < 16 by omega) (by decide)⟩
    · rw [pk_un e] at hj1 ⊢
      exact h.2.1 j hj hj1
  · rw [F0] at hj1
    rw [F3, N4]
    by_cases e : j = a
    · subst e
      rw [pk_us]
      refine ⟨?_, hmlt⟩
      rw [nm2]
      exact nI_lt (show 0 < nmN_ z by omega) (by omega)
    · rw [pk_un e] at hj1 ⊢
      obtain ⟨g1, g2⟩ := hM.1 j hj hj1
      exact ⟨g1, Int32.lt_trans g2 hmlt⟩
  · rw [F0] at hi1 hj1
    rw [F3] at he
    by_cases e : i = a
    · subst e
      by_cases e2 : j = i
      · exact e2.symm
      · rw [pk_un e2] at hj1
        rw [pk_us, pk_un e2] at he
        have := (hM.1 j hj hj1).2
        rw [← he] at this
        exact absurd this (i_irr this)
    · rw [pk_un e] at hi1
      by_cases e2 : j = a
      · subst e2
        rw [pk_us, pk_un e] at he
        have := (hM.1 i hi hi1).2
        rw [he] at this
        exact absurd this (i_irr this)
      · rw [pk_un e2] at hj1
        rw [pk_un e, pk_un e2] at he
        exact hM.2 i j hi hj hi1 hj1 he
  · rw [F6, w2_nw hM ha h0 (Nat.le_refl _)]
    by_cases e : j = k
    · subst e
      rw [pk_us, if_pos ⟨rfl, ha⟩]
      rfl
    · rw [pk_un e, if_neg (fun y => nI_ne (by omega) (by omega) e y.1)]
      exact h.2.2.2.1 j hj
  · have hlv := w2_liv (sw := sw) h ha h0 hx hj
    rw [F5, bI_congr hlv]
    have hnw := h.2.2.2.1 k hk
    have h5 := h.2.2.2.2.1 j hj
    unfold lvW
    cases ho : nwst (zr z) (nI k) 32 with
    | none =>
      rw [if_neg (by rw [hnw, ho]; intro y; exact absurd y.1 (by decide))]
      by_cases e : j = a
      · subst e
        rw [pk_us, bI_1 (Or.inl rfl)]
      · rw [pk_un e, h5]
        refine bI_congr ⟨fun y => Or.inr ⟨y, fun y2 => ?_⟩, fun y => y.elim (fun y => absurd y e) (fun y => y.1)⟩
        have h6 := y.2.1
        rw [zr_pg (by decide), y2] at h6
        rw [show (4 * 8 : Nat) = 32 from rfl, ho] at h6
        cases h6
    | some o =>
      have o1 := nwst_lt ho
      have o2 := nwst_wr ho
      rw [zr_pg (by decide), zr_pg (by decide)] at o2
      have hoa : o ≠ a := fun e => h0 (e ▸ o2.1)
      have hc : (z.2.2 6 k).toNatClampNeg = o := by rw [hnw, ho]; exact nI_clamp (by omega)
      rw [if_pos (by rw [hnw, ho]; exact ⟨nI_pos (by omega), nI_lt (show o < 32 by omega) (by decide)⟩), hc]
      by_cases e : j = a
      · subst e
        rw [pk_un (Ne.symm hoa), pk_us, bI_1 (Or.inl rfl)]
      · by_cases e2 : j = o
        · subst e2
          rw [pk_us, bI_0 (fun y => y.elim (fun y => e y) (fun y => y.2 o2.2))]
        · rw [pk_un e2, pk_un e, h5]
          refine bI_congr ⟨fun y => Or.inr ⟨y, fun y2 => ?_⟩, fun y => y.elim (fun y => absurd y e) (fun y => y.1)⟩
          have h6 := y.2.1
          rw [zr_pg (by decide), y2] at h6
          rw [show (4 * 8 : Nat) = 32 from rfl, ho] at h6
          exact e2 (Option.some.inj h6).symm
  · by_cases e : j = b
    · subst e
      have hq := (h.2.2.2.2.2.1 j hj).2
      refine ⟨⟨?_, ?_⟩, fun q hq4 => ?_⟩
      · rw [F7, hab, pk_us, hf7, show (1 : Int32) = nI 1 from rfl, pk_sub (by have := hn.2.1; omega), nI_clamp (by omega)]
      · show frN_ (lsW2 z a k x sw) j ≤ 4
        omega
      · rw [F0]
        have hn3 := hn.2.2
        by_cases e : 4 * j + q = a
        · rw [e, pk_us]
          exact ⟨fun y => absurd y (by decide), fun y => by omega⟩
        · rw [pk_un e, hq q hq4]
          constructor <;> intro y <;> omega
    · obtain ⟨g1, g2⟩ := h.2.2.2.2.2.1 j hj
      refine ⟨?_, fun q hq4 => ?_⟩
      · rw [F7, hab, pk_un e]; exact g1
      · rw [F0, pk_un (by omega), hfo j e]
        exact g2 q hq4
  · rw [N2]; exact h.2.2.2.2.2.2.1.1
  · show 1 ≤ ((lsW2 z a k x sw).2.1 2).toNatClampNeg
    rw [N2]; exact h.2.2.2.2.2.2.1.2.1
  · rw [F4]
    show isN _ ((lsW2 z a k x sw).2.1 2).toNatClampNeg
    rw [N2]
    exact h.2.2.2.2.2.2.1.2.2 j hj
  · unfold iOp
    rw [N3]
    exact h.2.2.2.2.2.2.2.1
  · unfold iPo
    rw [N0]
    exact h.2.2.2.2.2.2.2.2.1
  · unfold iCu
    rw [N1]
    exact icC_n h
  · rw [N4, nm2, nI_1]
    have hs := suW_1 hwe hfo hf1 hf4 (n := 8)
    rw [if_pos (show b < 8 by have := hn.1; omega)] at hs
    rw [hs]
    have := h.2.2.2.2.2.2.2.2.2.2.1.2
    have h7 : nmN_ z ≤ 1 + suW z 8 := this
    exact isN_of (by omega) (by have := suW_le h (n := 8) (Nat.le_refl _); omega)
  · show 1 ≤ ((lsW2 z a k x sw).2.1 4).toNatClampNeg
    rw [N4, nm2, nI_1, nI_clamp (by omega)]
    omega
end W2
