-- THE LAW: equal answers where neither side refuses
theorem if0 {P : Prop} [Decidable P] {x y : Int32} (hy : ¬ y = 0) (h : (if P then x else y) = 0) : P ∧ x = 0 := by
  by_cases p : P
  · rw [if_pos p] at h; exact ⟨p, h⟩
  · rw [if_neg p] at h; exact absurd h hy
theorem ran {w : Int32} {n : Nat} (hn : n < 2 ^ 31) (h : 0 ≤ w ∧ w ≤ nI n) : w = nI w.toNatClampNeg ∧ w.toNatClampNeg ≤ n := by
  obtain ⟨j, hj, e⟩ := rng hn h
  have hc : w.toNatClampNeg = j := by rw [e]; exact nI_clamp (by omega)
  rw [hc]
  exact ⟨e, hj⟩
theorem rg2_0 {w : Int32} {n : Nat} (hn : n < 2 ^ 31) (h : rg2R w (nI n) = 0) : w = nI w.toNatClampNeg ∧ w.toNatClampNeg ≤ n := ran hn (if0 (by decide) h).1
theorem kyp {w : Int32} (h : keyP w) : w = nI w.toNatClampNeg ∧ w.toNatClampNeg < 16 := by
  obtain ⟨e, hk⟩ := ran (w := w) (n := 15) (by decide) h
  exact ⟨e, by omega⟩
theorem key_0 {w : Int32} (h : keyR w = 0) : w = nI w.toNatClampNeg ∧ w.toNatClampNeg < 16 := kyp (if0 (by decide) h).1
section VV
variable {z : LgS} {f : Nat → Int32} {a w v : Int32}
theorem v_about (h : Rz z f) (hc : rg2R w 13 = 0) : abZ z w.toNatClampNeg = abV f z.1.2 w.toNatClampNeg := rz_about h (rg2_0 (n := 13) (by decide) hc).2
theorem v_page (h : Rz z f) (hc : pgR z.1.2 a w = 0) : tpZ z a w = pgV f z.1.2 a.toNatClampNeg w.toNatClampNeg := by
  have hB := inv_B h.1
  have hB3 := h.1.1.1.1
  obtain ⟨h1, h2⟩ := if0 (by decide) hc
  obtain ⟨h3, -⟩ := if0 (by decide) h2
  obtain ⟨e1, l1⟩ := ran (by omega) h1
  obtain ⟨e2, l2⟩ := ran (w := w) (n := 4) (by decide) h3
  have := a_page h (j := a.toNatClampNeg) (k := w.toNatClampNeg) (by omega) l2
  rw [← e1, ← e2] at this
  exact this
theorem v_block (h : Rz z f) (hc : blR z.1.2 a w = 0) : blZ z a w.toNatClampNeg = blV f z.1.2 a.toNatClampNeg w.toNatClampNeg := by
  have hB := inv_B h.1
  have hB3 := h.1.1.1.1
  obtain ⟨h1, h2⟩ := if0 (by decide) hc
  obtain ⟨h3, -⟩ := if0 (by decide) h2
  obtain ⟨e1, l1⟩ := ran (by omega) h1
  obtain ⟨e2, l2⟩ := ran (w := w) (n := 5) (by decide) h3
  have := a_block h (j := a.toNatClampNeg) (k := w.toNatClampNeg) (by omega) l2
  rw [← e1] at this
  exact this
theorem v_get (h : Rz z f) (hc : getR f w = 0) : vaZ z w = vlu f w z.1.2 := by
  obtain ⟨e, hk⟩ := kyp (if0 (by decide) hc).1
  have := rz_va h hk
  rw [← e] at this
  exact this
theorem v_keyAt (h : Rz z f) : oI (kaF z w 16) = oI (kat f z.1.2 w 16) := by rw [a_keyAt h (Nat.le_refl 16)]
theorem v_newest (h : Rz z f) (hc : keyR w = 0) : at_ (z.2.2 6) 16 (-9) w = oI (nwst f w (4 * z.1.2)) := by
  obtain ⟨e, hk⟩ := key_0 hc
  have := rz_newest h hk
  rw [← e] at this
  exact this
theorem v_lastCut (h : Rz z f) (hc : rg2R w 2 = 0) : tcF (z.2.1 10) (z.2.1 11) (z.2.1 12) w.toNatClampNeg = f (12 + w.toNatClampNeg) := a_cut h (rg2_0 (n := 2) (by decide) hc).2
theorem v_put (h : Rz z f) (hc : putR f z.1.2 w v = 0) : (stT w.toNatClampNeg v z).1 = (recT z.1.2 w v f).1 ∧ Rz (stT w.toNatClampNeg v z).2 (recT z.1.2 w v f).2 ∧ (stT w.toNatClampNeg v z).2.1.2 = z.1.2 := by
  obtain ⟨h1, h2⟩ := if0 (by decide) hc
  obtain ⟨h3, -⟩ := if0 (by decide) h2
  obtain ⟨e, hk⟩ := kyp h1.1
  have := st_val h ((cs_rm h).mpr h3) hk (x := v) (Or.inl (fun y => absurd (y ▸ h1.2.1) (by decide)))
  rw [← e] at this
  exact this
theorem v_remove (h : Rz z f) (hc : remR f z.1.2 w = 0) : (stT w.toNatClampNeg (-9) z).1 = (recT z.1.2 w (-9) f).1 ∧ Rz (stT w.toNatClampNeg (-9) z).2 (recT z.1.2 w (-9) f).2 ∧ (stT w.toNatClampNeg (-9) z).2.1.2 = z.1.2 := by
  obtain ⟨h1, h2⟩ := if0 (by decide) hc
  obtain ⟨h3, -⟩ := if0 (by decide) h2
  obtain ⟨e, hk⟩ := kyp h1
  have hv : ¬ vaZ z (nI w.toNatClampNeg) = -9 := by rw [rz_va h hk, ← e]; exact h3.2
  have := st_val h ((cs_rm h).mpr h3.1) hk (x := -9) (Or.inr hv)
  rw [← e] at this
  exact this
theorem v_sweep (h : Rz z f) (hc : swpR f z.1.2 = 0) : (sbT (oI (cvZ z)).toNatClampNeg z).1 = (swpT f z.1.2).1 ∧ Rz (sbT (oI (cvZ z)).toNatClampNeg z).2 (swpT f z.1.2).2 ∧ (sbT (oI (cvZ z)).toNatClampNeg z).2.1.2 = z.1.2 := by
  have hB := inv_B h.1
  unfold swpR at hc
  rw [rz_vc h]
  cases hv : vcm f z.1.2 (opn f) with
  | none => rw [hv, if_pos rfl] at hc; exact absurd hc (by decide)
  | some b =>
    have hb := vcm_lt hv
    rw [show (oI (some b)).toNatClampNeg = b from nI_clamp (by omega)]
    obtain ⟨-, g1, g2, g3, -⟩ := sb_T h (b := b) (by rw [rz_vc h]; exact hv)
    exact ⟨g1, g2, g3⟩
theorem v_cut (h : Rz z f) (hc : cutRf f w = 0) : z.2.1 1 = f 5 ∧ Rz (zC z w) (upd f 5 w) := by
  obtain ⟨e, hk⟩ := ran (w := w) (n := 99) (by decide) (if0 (by decide) hc).1
  refine ⟨(rz_5 h).symm, ?_⟩
  have := rz_zC h hk
  rw [← e] at this
  exact this
theorem v_start (h : Rz z f) (hc : staR f = 0) : nI (ckZ (zSw z) 16) = nI (kys (puR f z.1.2) z.1.2 16) ∧ Rz (zSw z) (puR f z.1.2) ∧ (zSw z).1.2 = z.1.2 := by
  have hoff : ¬ z.1.1 = true := fun y => by
    rw [staR, if_pos ((rz_on h).mpr y)] at hc
    exact absurd hc (by decide)
  have hz := rz_zSw h hoff
  have hB2 : (zSw z).1.2 = z.1.2 := by rw [zSw, if_neg hoff]
  refine ⟨?_, hz, hB2⟩
  rw [rz_ck hz (Nat.le_refl 16), hB2]
theorem v_pol (h : Rz z f) (hc : rg2R w 2 = 0) : z.2.1 0 = f 6 ∧ Rz (zPo z w) (upd f 6 w) := by
  obtain ⟨e, hk⟩ := rg2_0 (n := 2) (by decide) hc
  refine ⟨(rz_po h).1.symm, ?_⟩
  have := rz_zPo h hk
  rw [← e] at this
  exact this
theorem v_ops (h : Rz z f) (hc : opsR f z.1.2 = 0) : csV z = (lookT z.1.2 f).2 7 - f 7 := by
  obtain ⟨h1, -⟩ := if0 (by decide) hc
  rcases cs_look h with ⟨-, -, -, e⟩ | ⟨y, -⟩
  · exact e
  · exact absurd h1 y
theorem v_afc (h : Rz z f) {n : Int32} (hc : afcR f z.1.2 w v n = 0) : vaZ (afZ z w.toNatClampNeg v n.toNatClampNeg) w = vlu (recT z.1.2 w v (upd f 5 n)).2 w z.1.2 := by
  obtain ⟨h1, h2⟩ := if0 (by decide) hc
  obtain ⟨h3, -⟩ := if0 (by decide) h2
  obtain ⟨e, hk⟩ := kyp h1.1
  obtain ⟨e2, l1, l2⟩ := n_one (x := n) (Int32.not_lt.mpr h1.2.2.1) (Int32.not_lt.mpr h1.2.2.2)
  have := a_afc h ((cs_rm h).mpr h3) hk l2 (v := v) (fun y => absurd (y ▸ h1.2.1.1) (by decide))
  rw [← e, ← e2] at this
  exact this
theorem v_lasts (h : Rz z f) (w : Int32) : ∃ la, (keyR w = 0 → laV z w.toNatClampNeg = nI la) ∧ (keyP w → lsL z.1.2 w la 301 (upd f 5 0) 0) := by
  by_cases hc : keyP w
  · obtain ⟨e, hk⟩ := kyp hc
    obtain ⟨la, h1, h2⟩ := a_last h hk
    rw [← e] at h2
    exact ⟨la, fun _ => h1, fun _ => h2⟩
  · exact ⟨0, fun y => absurd (if0 (by decide) y).1 hc, fun y => absurd y hc⟩
theorem r_sc {told : Int64} : c6sc w told = rsR w told := by
  unfold c6sc rsR
  by_cases h1 : 1 ≤ w ∧ w ≤ 4
  · rw [if_pos ((ge_le1 (x := w) (a := 4)).mpr h1), if_pos h1]
    obtain ⟨e, l1, l2⟩ := num_of (x := w) (k := 4) (by decide) h1
    obtain ⟨p1, p2, p3⟩ := pw_le (k := 4 * w.toNatClampNeg) (by omega)
    refine ite_iff ?_
    rw [ten_eq]
    have e1 : lN (10 ^ (4 * w.toNatClampNeg)) - 1 = lN (10 ^ (4 * w.toNatClampNeg) - 1) := by
      rcases (show w.toNatClampNeg = 1 ∨ w.toNatClampNeg = 2 ∨ w.toNatClampNeg = 3 ∨ w.toNatClampNeg = 4 by omega) with k | k | k | k <;> rw [k] <;> decide
    rw [e1]
    constructor
    · intro y
      obtain ⟨k, hk, e2⟩ := pk_lOf (x := told) y.1
      refine ⟨Int64.not_lt.mp y.1, Int64.not_lt.mp (fun q => ?_)⟩
      have y2 := y.2
      rw [e2, pk_lLT hk (by omega)] at y2
      rw [e2, pk_lLT (by omega) hk] at q
      omega
    · intro y
      have y1 : ¬ told < 0 := Int64.not_lt.mpr y.1
      obtain ⟨k, hk, e2⟩ := pk_lOf (x := told) y1
      refine ⟨y1, ?_⟩
      have y2 := Int64.not_lt.mpr y.2
      rw [e2, pk_lLT (by omega) hk] at y2
      rw [e2, pk_lLT hk (by omega)]
      omega
  · rw [if_neg (fun y => h1 ((ge_le1 (x := w) (a := 4)).mp y)), if_neg h1]
theorem v_sc (h : Rz z f) (n T : Nat) : scL z.1.2 n T (scZ n T n 0 z) (n + 1) f 0 := sc_ok (d := n) (j := 0) (by omega) h
theorem v_sim (h : Rz z f) {m : Nat} {x : Int64} : 1000 * ((smZ m x z).2.1 5 - z.2.1 5) + 20 * ((smZ m x z).2.1 9 - z.2.1 9) + nI (ckZ (smZ m x z) 16) = 1000 * (smF z.1.2 m x f 7 - f 7) + 20 * (smF z.1.2 m x f 11 - f 11) + nI (kys (smF z.1.2 m x f) z.1.2 16) := by
  obtain ⟨h1, h2⟩ := sm_ok (n := m) (x := x) h
  obtain ⟨z9, hz9⟩ : ∃ z9, smZ m x z = z9 := ⟨_, rfl⟩
  obtain ⟨f9, hf9⟩ : ∃ f9, smF z.1.2 m x f = f9 := ⟨_, rfl⟩
  rw [hz9] at h1 h2
  rw [hf9] at h1
  rw [hz9, hf9, rz_ck h1 (Nat.le_refl 16), h2, rz_k h1 (k := 7) (by decide), rz_k h1 (k := 11) (by decide), rz_k h (k := 7) (by decide), rz_k h (k := 11) (by decide), zr_n (by decide) (by decide), zr_n (by decide) (by decide), zr_n (by decide) (by decide), zr_n (by decide) (by decide)]
theorem v_sav (h : Rz z f) : nI (ckZ z 16) = nI (kys f z.1.2 16) := by rw [rz_ck h (Nat.le_refl 16)]
end VV
