-- THE PURE PART: the reading methods' answers and refusals
theorem i_lt_n {x : Int32} {k : Nat} (hk : k < 2 ^ 31) : x < nI k ↔ x.toInt < (k : Int) := by rw [Int32.lt_iff_toInt_lt, nI_toInt hk]
theorem i_n_lt {x : Int32} {k : Nat} (hk : k < 2 ^ 31) : nI k < x ↔ (k : Int) < x.toInt := by rw [Int32.lt_iff_toInt_lt, nI_toInt hk]
theorem i_le_n {x : Int32} {k : Nat} (hk : k < 2 ^ 31) : x ≤ nI k ↔ x.toInt ≤ (k : Int) := by rw [Int32.le_iff_toInt_le, nI_toInt hk]
theorem i_n_le {x : Int32} {k : Nat} (hk : k < 2 ^ 31) : nI k ≤ x ↔ (k : Int) ≤ x.toInt := by rw [Int32.le_iff_toInt_le, nI_toInt hk]
theorem in_le {x : Int32} {k j : Nat} (hk : k = j + 1) (hk31 : k < 2 ^ 31) : inN x (nI k) ↔ (0 ≤ x ∧ x ≤ nI j) := by
  unfold inN
  rw [show (0 : Int32) = nI 0 from rfl, i_lt_n (by decide), i_lt_n hk31, i_n_le (by decide), i_le_n (by omega)]
  omega
theorem ge_le {x a : Int32} : (¬ x < 0 ∧ ¬ a < x) ↔ (0 ≤ x ∧ x ≤ a) := by rw [Int32.not_lt, Int32.not_lt]
theorem ge_le1 {x a : Int32} : (¬ x < 1 ∧ ¬ a < x) ↔ (1 ≤ x ∧ x ≤ a) := by rw [Int32.not_lt, Int32.not_lt]
theorem key_iff {x : Int32} : inN x 16 ↔ keyP x := in_le (k := 16) (j := 15) rfl (by decide)
theorem val_iff {x : Int32} : (¬ x < 0 ∧ ¬ 999 < x) ↔ valP x := ge_le
theorem key_n {x : Int32} (h : inN x 16) : ∃ k, k < 16 ∧ x = nI k ∧ x.toNatClampNeg = k := by
  obtain ⟨e, hk⟩ := num_in (x := x) (j := 16) (by decide) h
  exact ⟨x.toNatClampNeg, hk, e, rfl⟩
theorem ite_iff {α : Type} {P Q : Prop} [Decidable P] [Decidable Q] (h : P ↔ Q) {a b : α} : (if P then a else b) = if Q then a else b := by
  by_cases p : P
  · rw [if_pos p, if_pos (h.mp p)]
  · rw [if_neg p, if_neg (fun q => p (h.mpr q))]
theorem r_ap {n : Nat} {x : Int32} (hn : n ≤ 90) : c6ap n x = apR n x := by
  unfold c6ap apR
  rw [ite_iff (ge_le (x := x) (a := 255)), ite_iff (show 90 ≤ n ↔ n = 90 by omega)]
theorem r_r {x a : Int32} : c6r x a = rg2R x a := by
  unfold c6r rg2R
  rw [ite_iff ge_le]
theorem r_key {x : Int32} : c6key x = keyR x := by
  unfold c6key keyR
  rw [ite_iff key_iff]
theorem r_sim {x : Int32} : c6sim x = rg1R x 99 := by
  unfold c6sim rg1R
  rw [ite_iff ge_le1]
theorem in_2 {x : Int32} : inN x 2 ↔ (0 ≤ x ∧ x ≤ 1) := in_le (k := 2) (j := 1) rfl (by decide)
theorem r_sav {x : Int32} : c6sav x = rg2R x 1 := by
  unfold c6sav rg2R
  rw [ite_iff in_2]
theorem r_rst {uf fik : Nat → Int32} {x : Int32} (h : inN x 2 → uf x.toNatClampNeg = fik x.toNatClampNeg) : c6rst uf x = rstR fik x := by
  unfold c6rst rstR
  by_cases hx : inN x 2
  · rw [if_pos hx, if_pos (in_2.mp hx), h hx]
  · rw [if_neg hx, if_neg (fun y => hx (in_2.mpr y))]
section P3
variable {z : LgS} {f : Nat → Int32}
theorem r_pg (h : Rz z f) {x w : Int32} : c6pg z x w = pgR z.1.2 x w := by
  have hB := inv_B h.1
  have hB3 := h.1.1.1.1
  unfold c6pg pgR
  have e : pagP z.1.2 x ↔ (0 ≤ x ∧ x ≤ nI (4 * z.1.2 - 1)) := by
    unfold pagP
    rw [show (0 : Int32) = nI 0 from rfl, show (32 : Int32) = nI 32 from rfl, i_lt_n (by decide), i_lt_n (by omega), i_lt_n (by decide), i_n_le (by decide), i_le_n (by omega)]
    omega
  rw [ite_iff e, ite_iff (ge_le (x := w) (a := 4))]
theorem r_bl (h : Rz z f) {x w : Int32} : c6bl z x w = blR z.1.2 x w := by
  have hB := inv_B h.1
  have hB3 := h.1.1.1.1
  unfold c6bl blR
  have e : (¬ x < 0 ∧ x < nI z.1.2 ∧ x < 8) ↔ (0 ≤ x ∧ x ≤ nI (z.1.2 - 1)) := by
    rw [show (0 : Int32) = nI 0 from rfl, show (8 : Int32) = nI 8 from rfl, i_lt_n (by decide), i_lt_n (by omega), i_lt_n (by decide), i_n_le (by decide), i_le_n (by omega)]
    omega
  rw [ite_iff e, ite_iff (ge_le (x := w) (a := 5))]
theorem r_get (h : Rz z f) {x : Int32} : c6get z x = getR f x := by
  unfold c6get getR
  rw [ite_iff key_iff]
  by_cases ho : z.1.1 = true
  · rw [if_pos ho, if_neg (fun y => (rz_off h).mp y ho)]
  · rw [if_neg ho, if_pos ((rz_off h).mpr ho)]
theorem r_cut (h : Rz z f) {x : Int32} : c6cut z x = cutRf f x := by
  unfold c6cut cutRf
  rw [ite_iff (ge_le (x := x) (a := 99))]
  by_cases ho : z.1.1 = true
  · rw [if_pos ho, if_neg (fun y => (rz_off h).mp y ho)]
  · rw [if_neg ho, if_pos ((rz_off h).mpr ho)]
theorem r_sta (h : Rz z f) : c6sta z = staR f := by
  unfold c6sta staR
  rw [ite_iff (rz_on h)]
theorem r_swp (h : Rz z f) : c6swp z = swpR f z.1.2 := by
  unfold c6swp swpR
  rw [rz_vc h]
  cases hv : vcm f z.1.2 (opn f) with
  | none => rfl
  | some b =>
    have := vcm_lt hv
    have := inv_B h.1
    rw [if_neg (oI_ne (by omega)), if_neg (by simp)]
theorem a_page (h : Rz z f) {j k : Nat} (hj : j < 32) (hk : k ≤ 4) : tpZ z (nI j) (nI k) = pgV f z.1.2 j k := by
  unfold tpZ tpV
  rw [if_pos ⟨nI_pos (by omega), nI_lt (show j < 32 by omega) (by decide)⟩, nI_clamp (by omega)]
  unfold tpF pgV
  have ep := rz_pg h hj
  have el := rz_lv h hj
  by_cases e1 : z.2.2 0 j = 1
  · obtain ⟨r1, r2, r3⟩ := rz_rec h hj e1
    rw [ite_iff (show nI k = 0 ↔ k = 0 from nI_eq (b := 0) (by omega) (by decide)), if_pos e1, if_pos (ep.trans e1), ite_iff (show nI k = 1 ↔ k = 1 from nI_eq (b := 1) (by omega) (by decide)), ite_iff (show nI k = 2 ↔ k = 2 from nI_eq (b := 2) (by omega) (by decide)), ite_iff (show nI k = 3 ↔ k = 3 from nI_eq (b := 3) (by omega) (by decide)), el]
    rcases (show k = 0 ∨ k = 1 ∨ k = 2 ∨ k = 3 ∨ k = 4 by omega) with rfl | rfl | rfl | rfl | rfl
    · exact ep.symm
    · exact r1.symm
    · exact r2.symm
    · exact r3.symm
    · rfl
  · rw [if_neg e1, if_neg (fun y => e1 (ep.symm.trans y)), ep, ite_iff (show nI k = 0 ↔ k = 0 from nI_eq (b := 0) (by omega) (by decide))]
theorem a_block (h : Rz z f) {j k : Nat} (hj : j < 8) (hk : k ≤ 5) : blZ z (nI j) k = blV f z.1.2 j k := by
  unfold blZ lbF blV
  rcases (show k = 0 ∨ k = 1 ∨ k = 2 ∨ k = 3 ∨ k = 4 ∨ k = 5 by omega) with rfl | rfl | rfl | rfl | rfl | rfl
  · rw [if_pos rfl, if_pos rfl, at_8 hj, rz_w h hj]
  · rw [if_neg (by decide), if_pos rfl, if_neg (by decide), if_pos rfl, slV_b h hj]
  · rw [if_neg (by decide), if_neg (by decide), if_pos rfl, if_neg (by decide), if_neg (by decide), if_pos rfl, at_8 hj, rz_cst0 h hj]
    exact (inv_fr h.1 hj).2.1
  · rw [if_neg (by decide), if_neg (by decide), if_neg (by decide), if_pos rfl, if_neg (by decide), if_neg (by decide), if_neg (by decide), if_pos rfl, ctV, if_pos ⟨nI_pos (by omega), nI_lt (show j < 8 by omega) (by decide)⟩, nI_clamp (by omega), rz_cst h hj (by decide)]
  · rw [if_neg (by decide), if_neg (by decide), if_neg (by decide), if_neg (by decide), if_pos rfl, if_neg (by decide), if_neg (by decide), if_neg (by decide), if_neg (by decide), if_pos rfl, at_8 hj, rz_w h hj, show f 1 = z.2.1 2 by rw [rz_k h (by decide), zr_1]]
  · rw [if_neg (by decide), if_neg (by decide), if_neg (by decide), if_neg (by decide), if_neg (by decide), if_neg (by decide), if_neg (by decide), if_neg (by decide), if_neg (by decide), if_neg (by decide)]
    refine bI_congr ?_
    rw [rz_cv h hj, rz_on h]
theorem a_keyAt (h : Rz z f) {x : Int32} : ∀ {n : Nat}, n ≤ 16 → kaF z x n = kat f z.1.2 x n
  | 0, _ => rfl
  | n + 1, hn => by
    rw [kaF, kat, a_keyAt h (show n ≤ 16 by omega), rz_va h (show n < 16 by omega), rz_ck h (show n ≤ 16 by omega)]
    rfl
theorem a_mk (h : Rz z f) {k : Nat} (hk : k < 16) (hv : ¬ vlu f (nI k) z.1.2 = -9) : mkZ z (nI k) = nmk f (nI k) z.1.2 := by
  have hB := inv_B h.1
  obtain ⟨a, ha⟩ := vlu_some hv
  have hlt := nwst_lt ha
  have hw := (nwst_wr ha).1
  have e := a_page h (show a < 32 by omega) (k := 3) (by decide)
  rw [mkZ, rz_newest h hk, ha, nmk_of ha]
  refine e.trans ?_
  rw [pgV, if_neg (by decide), if_pos hw, if_pos (by decide)]
theorem old_v {B : Nat} : ∀ {n o : Nat}, old f B n = some o → o < n ∧ ¬ vlu f (nI o) B = -9 := fun h => old_lt h
theorem a_old (h : Rz z f) : ∀ {n : Nat}, n ≤ 16 → olF z n = old f z.1.2 n
  | 0, _ => rfl
  | n + 1, hn => by
    rw [olF, old, a_old h (show n ≤ 16 by omega), rz_va h (show n < 16 by omega)]
    cases ho : old f z.1.2 n with
    | none => rfl
    | some o =>
      obtain ⟨h1, h2⟩ := old_lt ho
      dsimp only
      by_cases hv : vlu f (nI n) z.1.2 = -9
      · rw [if_neg (fun y => y.1 hv), if_neg (fun y => y.1 hv)]
      · rw [a_mk h (show n < 16 by omega) hv, a_mk h (show o < 16 by omega) h2]
theorem a_cut (h : Rz z f) {k : Nat} (hk : k ≤ 2) : tcF (z.2.1 10) (z.2.1 11) (z.2.1 12) k = f (12 + k) := by
  rw [rz_k h (by omega), zr_n (by omega) (by omega)]
  rcases (show k = 0 ∨ k = 1 ∨ k = 2 by omega) with rfl | rfl | rfl <;> rfl
end P3
