-- PURE: WHAT EVERY STEP KEEPS, A SWEEP AND A STORE KEEP
/-- P is kept by every step of a Log: opening, copying, tearing, erasing -/
def Cl (P : LgS → Prop) : Prop :=
  (∀ (w : LgS) (b : Nat), Inv w → w.1.1 = true → b < w.1.2 → frN_ w b = 4 → P w → P (w.1, upd w.2.1 3 (nI b), w.2.2)) ∧
  (∀ (w : LgS) (b a j k : Nat), Inv w → w.1.1 = true → nxA w b a → j < 32 → w.2.2 0 j = 1 → w.2.2 1 j = nI k → k < 16 → w.2.2 6 k = nI j → ¬ icP (w.2.1 1) → P w → P (lsW2 w a k (w.2.2 2 j) true)) ∧
  (∀ (w : LgS) (b a : Nat) (sw : Bool), Inv w → w.1.1 = true → nxA w b a → icP (w.2.1 1) → P w → P (lsW1 w a sw)) ∧
  (∀ (w : LgS) (b : Nat), Inv w → w.1.1 = true → b < w.1.2 → weN_ w b < liN_ w → (∀ i, i < 4 → ¬ w.2.2 5 (4 * b + i) = 1) → ¬ icP (w.2.1 1) → P w → P (lsE2 w b)) ∧
  (∀ (w : LgS) (b : Nat), Inv w → w.1.1 = true → b < w.1.2 → weN_ w b < liN_ w → (∀ i, i < 4 → ¬ w.2.2 5 (4 * b + i) = 1) → icP (w.2.1 1) → P w → P (lsE1 w b))
section P31
variable {z : LgS} {f : Nat → Int32} {P : LgS → Prop}
theorem tk_P (hC : Cl P) (h : Rz z f) (hon : z.1.1 = true) (hP : P z) {n : Nat} (hn : 1 ≤ n) (hr : ¬ frZ z = 0 ∨ n ≤ cln f z.1.2) : ∃ z1 b0 p, tkN n z = some (nI p, z1) ∧ Inv z1 ∧ z1.1 = z.1 ∧ z1.2.2 = z.2.2 ∧ (∀ j, j ≠ 3 → z1.2.1 j = z.2.1 j) ∧ nxA z1 b0 p ∧ P z1 := by
  obtain ⟨z1, b0, p, c1, c2, c3, c4, c5, c6, c7⟩ := rz_take h hon hn hr
  refine ⟨z1, b0, p, c1, c2.1, by rw [c6], by rw [c6], fun j hj => by rw [c6]; exact pk_un hj, c4, ?_⟩
  rcases c7 with ⟨y1, y2, -⟩ | ⟨y1, y2, -⟩
  · have : z1 = z := by rw [c6, ← y2, upd_self]
    rw [this]; exact hP
  · rw [c6]
    have hb : b0 < z.1.2 := by have := c4.1; rw [c6] at this; exact this
    exact hC.1 z b0 h.1 hon hb y2 hP
theorem slp_P (hC : Cl P) {b : Nat} {Pq : Nat → Bool} {M : Int32} (hM : ∀ q, q < 4 → ((M >>> (nI q &&& 31)) &&& 1 = 0 ↔ ¬ Pq q = true)) : ∀ {m q : Nat} {z : LgS} {f : Nat → Int32}, q + m = 4 → SI z f b Pq q → (remL b Pq q m).length ≤ roZ z → P z → ∀ {ok : Bool} {z2 : LgS}, slp b M m q z = some (ok, z2) → P z2
  | 0, q, z, f, hq, h, hr, hP, ok, z2, e => by cases e; exact hP
  | m + 1, q, z, f, hq, h, hr, hP, ok, z2, e => by
    by_cases hPq : Pq q = true
    · have hbit : ¬ (M >>> (nI q &&& 31)) &&& 1 = 0 := fun y => (hM q (by omega)).mp y hPq
      rw [remL, if_pos hPq, List.length_cons] at hr
      have hl := remL_len (b := b) (P := Pq) (q := q + 1) (m := m)
      obtain ⟨z1, p, k, c1, c2, c3, c4, c5, c6, c7, c8, c9, c10, c11⟩ := si_copy h (by omega) hPq hr (by omega)
      obtain ⟨h1, hon, hbB, h3, hf4, hlv⟩ := id h
      obtain ⟨z1', b0, p', d1, d2, d3, d4, d5, d6, d7⟩ := tk_P hC h1 hon hP (n := 1) (Nat.le_refl _) (ro_has h1 (by omega))
      rw [c1] at d1
      have hpp : nI p = nI p' ∧ z1 = z1' := by
        have := Option.some.inj d1
        exact ⟨congrArg Prod.fst this, congrArg Prod.snd this⟩
      obtain ⟨hpp, rfl⟩ := hpp
      have p32 := (nxA_a d2 d6).1
      have : p = p' := (nI_eq (by omega) (by omega)).mp hpp
      subst this
      have haq : 4 * b + q < 32 := by have := inv_B h1.1; omega
      have hlq : z.2.2 5 (4 * b + q) = 1 := (hlv q (by omega)).mpr ⟨hPq, Nat.le_refl _⟩
      obtain ⟨e0, k', hk, ek, e6⟩ := inv_live h1.1 haq hlq
      have t1 := (tp_1 haq e0).1
      have t2 := (tp_1 haq e0).2.1
      have : k = k' := (nI_eq (by omega) (by omega)).mp (c4.symm.trans (t1.trans ek))
      subst this
      have hon1 : z1.1.1 = true := by rw [d3]; exact hon
      have e1 : slp b M (m + 1) q z = slS (nI p) (nI k) (tpZ z (nI (4 * b + q)) 2) z1 (slp b M m (q + 1)) := by
        rw [slp, if_neg hbit, c1]
        dsimp only
        rw [c4]
      have hin : inN (nI p) 32 ∧ inN (nI k) 16 := ⟨in_32 p32, in_16 hk⟩
      rw [e1, slS, if_pos hin, nI_clamp (by omega), nI_clamp (by omega), c5] at e
      by_cases hc : icP (z.2.1 1)
      · rw [if_pos hc] at e
        cases e
        exact hC.2.2.1 z1 b0 p true d2 hon1 d6 (by rw [c5]; exact hc) d7
      · rw [if_neg hc] at e
        obtain ⟨g1, g2, g3, g4⟩ := c11 hc
        have hP1 : P (lsW2 z1 p k (tpZ z (nI (4 * b + q)) 2) true) := by
          rw [t2, ← d4]
          exact hC.2.1 z1 b0 p (4 * b + q) k d2 hon1 d6 haq (by rw [d4]; exact e0) (by rw [d4]; exact ek) hk (by rw [d4]; exact e6) (by rw [c5]; exact hc) d7
        exact slp_P hC hM (m := m) (q := q + 1) (by omega) g1 g4 hP1 e
    · have hbit : (M >>> (nI q &&& 31)) &&& 1 = 0 := (hM q (by omega)).mpr hPq
      rw [remL, if_neg hPq] at hr
      have h1 : SI z f b Pq (q + 1) := by
        refine ⟨h.1, h.2.1, h.2.2.1, h.2.2.2.1, h.2.2.2.2.1, fun i hi => (h.2.2.2.2.2 i hi).trans ?_⟩
        constructor
        · intro y
          refine ⟨y.1, ?_⟩
          rcases Nat.eq_or_lt_of_le y.2 with e | e
          · subst e; exact absurd y.1 hPq
          · exact e
        · intro y; exact ⟨y.1, by omega⟩
      rw [slp, if_pos hbit] at e
      exact slp_P hC hM (m := m) (q := q + 1) (by omega) h1 hr hP e
/-- what holds where a sweep begins -/
theorem sb_pre (h : Rz z f) {b : Nat} (hv : cvZ z = some b) : ∃ Pq : Nat → Bool, SI z f b Pq 0 ∧ (remL b Pq 0 4).length ≤ roZ z ∧ (∀ q, q < 4 → ((lvM z b 4 >>> (nI q &&& 31)) &&& 1 = 0 ↔ ¬ Pq q = true)) ∧ b < z.1.2 ∧ b < 8 ∧ weN_ z b < liN_ z ∧ z.1.1 = true := by
  have hB := inv_B h.1
  rw [rz_vc h] at hv
  have hbB := vcm_lt hv
  have hb8 : b < 8 := by omega
  have hf2 : f 2 = 1 ∧ vct f z.1.2 (opn f) z.1.2 = some b := by
    unfold vcm at hv
    split at hv
    · rename_i hc; exact ⟨hc, hv⟩
    · cases hv
  have hon := (rz_on h).mp hf2.1
  obtain ⟨v1, v2, v3⟩ := vct_vic hf2.2
  let Pq : Nat → Bool := fun i => decide (livP f z.1.2 (4 * b + i))
  have hP : ∀ i, Pq i = true ↔ livP f z.1.2 (4 * b + i) := fun i => decide_eq_true_iff
  have hlv : ∀ i, i < 4 → (z.2.2 5 (4 * b + i) = 1 ↔ livP f z.1.2 (4 * b + i)) := fun i hi => by
    rw [rz_lv h (show 4 * b + i < 32 by omega)]
    exact bI_one
  have hw : weN_ z b < liN_ z := by
    rw [rz_w h hb8, show f 1 = z.2.1 2 by rw [rz_k h (by decide), zr_1]] at v2
    exact (isN_lt (h.1.2.2.2.2.2.2.1.2.2 b hb8) h.1.2.2.2.2.2.2.1.1 (by have := h.1.2.2.2.2.2.2.1.1.2; unfold liN_; omega) (by decide)).mp v2
  have hSI : SI z f b Pq 0 := by
    refine ⟨h, hon, hbB, fun y => v1.1 ?_, fun y => ?_, fun i hi => ?_⟩
    · rw [rz_3 h, y]
    · have s1 := rz_sum h hb8 (n := 4) (by decide)
      have s2 := rz_cst0 h hb8
      have := v1.2.2
      omega
    · rw [hlv i hi, hP]
      exact ⟨fun y => ⟨y, Nat.zero_le _⟩, fun y => y.1⟩
  have hL : lvL f z.1.2 b 4 = remL b Pq 0 4 := lvL_rem (fun i _ => (hP i).symm)
  have hro : (remL b Pq 0 4).length ≤ roZ z := by
    rw [← hL, ← lvs_len, rz_ro h]
    rcases v3 with e | e
    · rw [e]; exact Nat.zero_le _
    · exact e
  have hM : ∀ q, q < 4 → ((lvM z b 4 >>> (nI q &&& 31)) &&& 1 = 0 ↔ ¬ Pq q = true) := fun q hq => by
    rw [lvM_bit hq, hP, ← hlv q hq]
    refine not_congr ?_
    rw [tpZ, tpV, if_pos ⟨nI_pos (by omega), nI_lt (show 4 * b + q < 32 by omega) (by decide)⟩, nI_clamp (by omega), tpF, if_neg (show ¬ (4 : Int32) = 0 by decide), if_neg (show ¬ (4 : Int32) = 1 by decide), if_neg (show ¬ (4 : Int32) = 2 by decide), if_neg (show ¬ (4 : Int32) = 3 by decide)]
    constructor
    · intro y
      split at y
      · exact y
      · exact absurd y (by decide)
    · intro y
      rw [if_pos (inv_live h.1 (by omega) y).1]
      exact y
  exact ⟨Pq, hSI, hro, hM, hbB, hb8, hw, hon⟩
theorem slp_off {b : Nat} {M : Int32} : ∀ {m q : Nat} {z z2 : LgS}, slp b M m q z = some (false, z2) → z2.1.1 = false
  | 0, q, z, z2, e => by cases e
  | m + 1, q, z, z2, e => by
    rw [slp] at e
    split at e
    · exact slp_off e
    · split at e
      · cases e
      · rw [slS] at e
        split at e
        · split at e
          · cases e; rfl
          · exact slp_off e
        · cases e
/-- a sweep: cut in a copy, cut in the erasing, or through -/
theorem sb_P (hC : Cl P) (h : Rz z f) {b : Nat} (hv : cvZ z = some b) (hP : P z) {w : Int32} {z2 : LgS} (e : sbl b z = some (w, z2)) :
    P z2 ∧ ((w = -2 ∧ z2.1.1 = false) ∨ (w = nI b ∧ ∃ z1, P z1 ∧ Inv z1 ∧ z1.1.1 = true ∧ z1.1.2 = z.1.2 ∧ z1.2.2 4 = z.2.2 4 ∧ ¬ icP (z1.2.1 1) ∧ z2 = lsE2 z1 b)) := by
  obtain ⟨Pq, hSI, hro, hM, hbB, hb8, hw, hon⟩ := sb_pre h hv
  obtain ⟨ok, z1, f1, i1, i2, i3, i4, i5, i6⟩ := slp_ok hM (m := 4) (q := 0) rfl hSI hro
  have hP1 := slp_P hC hM (m := 4) (q := 0) rfl hSI hro hP i1
  rw [sbl, i1] at e
  cases ok with
  | false =>
    cases e
    refine ⟨hP1, Or.inl ⟨rfl, ?_⟩⟩
    exact slp_off i1
  | true =>
    obtain ⟨g1, g2⟩ := i5 rfl
    have hwe : ∀ j, weN_ z1 j = weN_ z j := fun j => by unfold weN_; rw [g1]
    have hli : liN_ z1 = liN_ z := by unfold liN_; rw [i4.2.1]
    have hw1 : weN_ z1 b < liN_ z1 := by rw [hwe, hli]; exact hw
    have hd : ∀ i, i < 4 → ¬ z1.2.2 5 (4 * b + i) = 1 := fun i hi y => by have := (g2.2.2.2.2.2 i hi).mp y; omega
    have hB1 := i4.1
    rw [sbE] at e
    by_cases hc : icP (z1.2.1 1)
    · rw [if_pos hc] at e
      cases e
      exact ⟨hC.2.2.2.2 z1 b i3.1 g2.2.1 (by omega) hw1 hd hc hP1, Or.inl ⟨rfl, rfl⟩⟩
    · rw [if_neg hc] at e
      cases e
      exact ⟨hC.2.2.2.1 z1 b i3.1 g2.2.1 (by omega) hw1 hd hc hP1, Or.inr ⟨rfl, z1, hP1, i3.1, g2.2.1, hB1, g1, hc, rfl⟩⟩
/-- a store: no room, cut, or written -/
def StR (P : LgS → Prop) (k : Nat) (x w : Int32) (z2 : LgS) : Prop :=
  (w = -9 ∧ P z2 ∧ z2.1.1 = true) ∨ (w = -2 ∧ P z2 ∧ z2.1.1 = false) ∨ ∃ z1 b0 p, p < 32 ∧ w = nI p ∧ z2 = lsW2 z1 p k x false ∧ P z1 ∧ Inv z1 ∧ z1.1.1 = true ∧ nxA z1 b0 p ∧ ¬ icP (z1.2.1 1)
theorem st_P (hC : Cl P) {k : Nat} {x : Int32} (hk : k < 16) : ∀ {m : Nat} {z : LgS} {f : Nat → Int32}, Rz z f → z.1.1 = true → okX z k x → leZ z 8 < m → P z → ∀ {w : Int32} {z2 : LgS}, stL k x m z = some (w, z2) → StR P k x w z2
  | 0, z, f, h, hon, hx, hl, hP, w, z2, e => absurd hl (Nat.not_lt_zero _)
  | m + 1, z, f, h, hon, hx, hl, hP, w, z2, e => by
    have hB := inv_B h.1
    by_cases hr : ¬ frZ z = 0 ∨ 2 ≤ cln f z.1.2
    · obtain ⟨z1, b0, p, c1, c2, c3, c4, c5, c6, c7⟩ := tk_P hC h hon hP (n := 2) (by decide) hr
      have p32 := (nxA_a c2 c6).1
      rw [stL, c1] at e
      dsimp only at e
      rw [stW, if_pos (in_32 p32), nI_clamp (by omega)] at e
      have hon1 : z1.1.1 = true := by rw [c3]; exact hon
      by_cases hc : icP (z1.2.1 1)
      · rw [if_pos hc] at e
        cases e
        exact Or.inr (Or.inl ⟨rfl, hC.2.2.1 z1 b0 p false c2 hon1 c6 hc c7, rfl⟩)
      · rw [if_neg hc] at e
        cases e
        exact Or.inr (Or.inr ⟨z1, b0, p, p32, rfl, rfl, c7, c2, hon1, c6, hc⟩)
    · have hf : frZ z = 0 := Classical.byContradiction (fun y => hr (Or.inl y))
      have hc : ¬ 2 ≤ cln f z.1.2 := fun y => hr (Or.inr y)
      have t1 : tkN 2 z = none := by
        rw [tkN, if_pos hf, if_pos (by rw [show cbZ z = cln f z.1.2 from rz_cln h hB]; omega)]
      cases hv : cvZ z with
      | none =>
        rw [stL, t1] at e
        dsimp only at e
        rw [hv] at e
        cases e
        exact Or.inl ⟨rfl, hP, hon⟩
      | some b =>
        obtain ⟨w1, z1, f1, c1, c2, c3, c4, c5⟩ := sb_ok h hv
        obtain ⟨hP1, hw⟩ := sb_P hC h hv hP c1
        rw [stL, t1] at e
        dsimp only at e
        rw [hv] at e
        dsimp only at e
        rw [c1] at e
        dsimp only at e
        rcases c5 with ⟨d1, d2⟩ | ⟨d1, d2, d3, d4⟩
        · subst d1
          rw [if_pos rfl] at e
          cases e
          rcases hw with ⟨-, hw⟩ | ⟨hw, -⟩
          · exact Or.inr (Or.inl ⟨rfl, hP1, hw⟩)
          · exact absurd hw.symm (ne2 (by have := cvF_lt hv; omega))
        · subst d1
          rw [if_neg (ne2 (by omega))] at e
          have hox : okX z1 k x := hx.elim Or.inl (fun y => Or.inr (c4.2.2.2.2 k hk y))
          exact st_P hC hk c3 d3 hox (by omega) hP1 e
where
  ne2 {a : Nat} (h : a < 2 ^ 31) : ¬ nI a = -2 := fun y => by
    have := nI_pos h
    rw [y] at this
    exact this (by decide)
theorem stT_P (hC : Cl P) (h : Inv z) (hon : z.1.1 = true) {k : Nat} (hk : k < 16) {x : Int32} (hx : okX z k x) (hP : P z) : StR P k x (stT k x z).1 (stT k x z).2 := by
  have hl := le_bd h (n := 8)
  exact st_P hC hk (rz_self h) hon hx (m := 1000) (by omega) hP (inv_st h hon hk hx).1
theorem sbT_P (hC : Cl P) (h : Inv z) {b : Nat} (hv : cvZ z = some b) (hP : P z) : P (sbT b z).2 ∧ (((sbT b z).1 = -2 ∧ (sbT b z).2.1.1 = false) ∨ ((sbT b z).1 = nI b ∧ ∃ z1, P z1 ∧ Inv z1 ∧ z1.1.1 = true ∧ z1.1.2 = z.1.2 ∧ z1.2.2 4 = z.2.2 4 ∧ ¬ icP (z1.2.1 1) ∧ (sbT b z).2 = lsE2 z1 b)) :=
  sb_P hC (rz_self h) hv hP (inv_sb h hv).1
end P31
