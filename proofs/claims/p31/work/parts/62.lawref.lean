-- CALLS THAT ARE REFUSED CHANGE NOTHING
theorem rz_self {z : LgS} (h : Inv z) : Rz z (zr z) := ⟨h, sim_rf _⟩
theorem cs_or {z : LgS} (h : Inv z) : (0 < csV z ∧ ¬ csV z = 0) ∨ (¬ 0 < csV z ∧ csV z = 0) :=
  (cs_look (rz_self h)).elim (fun y => Or.inl ⟨y.2.1, y.2.2.1⟩) (fun y => Or.inr y.2)
theorem wn_0 {z : LgS} (h : wnV z = 0) : z.1.1 = true ∧ 0 < csV z := by
  unfold wnV at h
  split at h
  · rename_i h1
    split at h
    · rename_i h2; exact ⟨h1, h2⟩
    · split at h <;> exact absurd h (by decide)
  · exact absurd h (by decide)
theorem wn_n {z : LgS} (hI : Inv z) (h : ¬ wnV z = 0) : csV z = 0 := by
  rcases cs_or hI with ⟨h1, -⟩ | ⟨-, h2⟩
  · exact absurd (by rw [wnV, if_pos (cs_on h1), if_pos h1]) h
  · exact h2
theorem wn_p {z : LgS} (h1 : 0 < csV z) : wnV z = 0 := by rw [wnV, if_pos (cs_on h1), if_pos h1]
theorem jl_b1 {P : Prop} [Decidable P] (h : ¬ (bI P).toInt64 = 0) : P := Decidable.byContradiction fun y => h (by rw [bI_0 y]; decide)
theorem jl_b0 {P : Prop} [Decidable P] (h : (bI P).toInt64 = 0) : ¬ P := fun y => by rw [bI_1 y] at h; exact absurd h (by decide)
section RF9
variable {z : LgS} {a : AS}
theorem rf_page4 (hB : z.1.2 ≤ 8) : pgJ z (nI (4 * z.1.2)) 9 = -9000000000000000001 := by
  have e : c6pg z (nI (4 * z.1.2)) 9 = 1 := if_neg (fun y => nJ_nlt (by omega) (by omega) (Nat.le_refl _) y.2.1)
  rw [pgJ, e]; rfl
theorem rf_page5 (h : Inv z) : pgJ z 0 5 = -9000000000000000002 := by
  have hB := h.1.1
  have e : c6pg z 0 5 = 2 := by
    rw [c6pg, if_pos ⟨by decide, nJ_lt (a := 0) (by decide) (by omega) (by omega), by decide⟩]
    exact if_neg (by decide)
  rw [pgJ, e]; rfl
theorem rf_blockn (hB : z.1.2 ≤ 8) : blJ z (nI z.1.2) 9 = -9000000000000000001 := by
  have e : c6bl z (nI z.1.2) 9 = 1 := if_neg (fun y => nJ_nlt (by omega) (by omega) (Nat.le_refl _) y.2.1)
  rw [blJ, e]; rfl
theorem rf_block6 (h : Inv z) : blJ z 0 6 = -9000000000000000002 := by
  have hB := h.1.1
  have e : c6bl z 0 6 = 2 := by
    rw [c6bl, if_pos ⟨by decide, nJ_lt (a := 0) (by decide) (by omega) (by omega), by decide⟩]
    exact if_neg (by decide)
  rw [blJ, e]; rfl
theorem rf_get16 : geJ z 16 = -9000000000000000002 := by
  have e : c6get z 16 = 1 := if_neg (by decide)
  rw [geJ, e]; rfl
theorem rf_put16 : puJ a.2.1 16 0 = -9000000000000000002 ∧ puA a 16 0 = a := by
  have e : c6put a.2.1 16 0 = 1 := if_neg (by decide)
  rw [puJ, puA, e]; exact ⟨rfl, rfl⟩
theorem rf_put1000 : puJ a.2.1 0 1000 = -9000000000000000002 ∧ puA a 0 1000 = a := by
  have e : c6put a.2.1 0 1000 = 1 := if_neg (by decide)
  rw [puJ, puA, e]; exact ⟨rfl, rfl⟩
theorem rf_put0 (hI : Inv a.2.1) (h : ¬ wnV a.2.1 = 0) : puJ a.2.1 0 0 = -9000000000000000003 ∧ puA a 0 0 = a := by
  have e : c6put a.2.1 0 0 = 2 := by
    rw [c6put, if_pos ⟨by decide, by decide⟩, if_pos (wn_n hI h)]
  rw [puJ, puA, e]; exact ⟨rfl, rfl⟩
theorem rf_ops (hI : Inv z) (h : ¬ wnV z = 0) : opJ z = -9000000000000000003 := by
  have e : c6ops z = 1 := if_pos (wn_n hI h)
  rw [opJ, e]; rfl
theorem rf_afc1 (hI : Inv z) (h : ¬ wnV z = 0) : acJ z 0 0 1 = -9000000000000000003 := by
  have e : c6afc z 0 0 1 = 2 := by
    rw [c6afc, if_pos ⟨by decide, by decide, by decide⟩, if_pos (wn_n hI h)]
  rw [acJ, e]; rfl
theorem rf_afc0 : acJ z 0 0 0 = -9000000000000000002 := by
  have e : c6afc z 0 0 0 = 1 := if_neg (by decide)
  rw [acJ, e]; rfl
theorem rf_afcn : acJ z 0 (-1) 1 = -9000000000000000002 := by
  have e : c6afc z 0 (-1) 1 = 1 := if_neg (by decide)
  rw [acJ, e]; rfl
theorem rf_remn : reJ a.2.1 (-1) = -9000000000000000002 ∧ reA a (-1) = a := by
  have e : c6rem a.2.1 (-1) = 1 := if_neg (by decide)
  rw [reJ, reA, e]; exact ⟨rfl, rfl⟩
theorem rf_rem7 (hI : Inv a.2.1) (h : ¬ wnV a.2.1 = 0) : reJ a.2.1 7 = -9000000000000000003 ∧ reA a 7 = a := by
  have e : c6rem a.2.1 7 = 2 := by
    rw [c6rem, if_pos (by decide), if_pos (Or.inr (wn_n hI h))]
  rw [reJ, reA, e]; exact ⟨rfl, rfl⟩
theorem rf_rem7v (h : vaZ a.2.1 (nI 7) = -9) : reJ a.2.1 7 = -9000000000000000003 ∧ reA a 7 = a := by
  have e : c6rem a.2.1 7 = 2 := by
    rw [c6rem, if_pos (by decide)]
    exact if_pos (Or.inl h)
  rw [reJ, reA, e]; exact ⟨rfl, rfl⟩
theorem rf_swp (h : oI (cvZ a.2.1) = -9) : swJ a.2.1 = -9000000000000000003 ∧ swA a = a := by
  have e : c6swp a.2.1 = 1 := if_pos h
  rw [swJ, swA, e]; exact ⟨rfl, rfl⟩
theorem rf_cut100 : cuJ a.2.1 100 = -9000000000000000002 ∧ cuA a 100 = a := by
  have e : c6cut a.2.1 100 = 1 := if_neg (by decide)
  rw [cuJ, cuA, e]; exact ⟨rfl, rfl⟩
theorem rf_cut5 (h : ¬ a.2.1.1.1 = true) : cuJ a.2.1 5 = -9000000000000000003 ∧ cuA a 5 = a := by
  have e : c6cut a.2.1 5 = 2 := by
    rw [c6cut, if_pos (by decide), if_neg h]
  rw [cuJ, cuA, e]; exact ⟨rfl, rfl⟩
theorem rf_sta (h : a.2.1.1.1 = true) : stJ a.2.1 = -9000000000000000003 ∧ stA a = a := by
  have e : c6sta a.2.1 = 1 := if_pos h
  rw [stJ, stA, e]; exact ⟨rfl, rfl⟩
theorem rf_pol3 : poJ a.2.1 3 = -9000000000000000002 ∧ poA a 3 = a := ⟨if_neg (by decide), if_neg (by decide)⟩
theorem rf_sc4 : scJ z 4 10000000000000000 = -9000000000000000002 := by
  have e : ¬ c6sc 4 10000000000000000 = 0 := by
    rw [c6sc, if_pos (by decide), if_neg]
    · decide
    · intro y
      have h2 := y.2
      rw [show ((4 : Int32)).toNatClampNeg = 4 from rfl, ten_eq] at h2
      exact absurd h2 (by decide +kernel)
  exact if_neg e
theorem rf_sav2 : saJ a.2.1 2 = -9000000000000000001 ∧ saA a 2 = a := ⟨if_neg (by decide), if_neg (by decide)⟩
theorem rf_rst2 : rsJ a 2 = -9000000000000000001 ∧ rsA a 2 = a := ⟨if_neg (by decide), if_neg (by decide)⟩
theorem rf_appn : apJ a.1.2 (-1) = -9000000000000000002 ∧ apA a (-1) = a := by
  have e : c6ap a.1.2 (-1) = 1 := if_neg (by decide)
  rw [apJ, apA, e]; exact ⟨rfl, rfl⟩
end RF9
