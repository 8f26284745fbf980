-- THE PURE PART: erasing on both sides; cut, policy, renewal, power
theorem stF_pg {g : Nat → Int32} {b : Nat} {x : Int32} {j w : Nat} (hw : w < 4) : ∀ {n : Nat}, pg (stF g b x n) j w = if w = 0 ∧ 4 * b ≤ j ∧ j < 4 * b + n then x else pg g j w
  | 0 => by rw [if_neg (by omega)]; rfl
  | n + 1 => by
    have ih := stF_pg (g := g) (b := b) (x := x) (j := j) (w := w) hw (n := n)
    unfold pg at ih ⊢
    rw [stF]
    by_cases e : 23 + 4 * j + w = 23 + 4 * (4 * b + n)
    · rw [e, pk_us, if_pos (by omega)]
    · rw [pk_un e, ih]
      by_cases c : w = 0 ∧ 4 * b ≤ j ∧ j < 4 * b + n
      · rw [if_pos c, if_pos (by omega)]
      · rw [if_neg c, if_neg (by omega)]
section P9
variable {z : LgS} {f : Nat → Int32}
theorem e1_N {b : Nat} : (lsE1 z b).2.1 0 = z.2.1 0 ∧ (lsE1 z b).2.1 1 = z.2.1 1 - 1 ∧ (lsE1 z b).2.1 2 = z.2.1 2 ∧ (lsE1 z b).2.1 3 = -9 ∧ (lsE1 z b).2.1 4 = z.2.1 4 := by
  simp [lsE1, upd]
theorem e2_N {b : Nat} : (lsE2 z b).2.1 0 = z.2.1 0 ∧ (lsE2 z b).2.1 1 = icC (z.2.1 1) ∧ (lsE2 z b).2.1 2 = z.2.1 2 ∧ (lsE2 z b).2.1 3 = z.2.1 3 ∧ (lsE2 z b).2.1 4 = z.2.1 4 := by
  simp [lsE2, upd]
theorem zr_e1 {b : Nat} (hb : b < 8) {j : Nat} (h : j < 23) : zr (lsE1 z b) j = if j = 2 then 0 else if j = 3 then -9 else if j = 5 then zr z 5 - 1 else if j = 7 then zr z 7 + 1 else if j = 11 then zr z 11 + 1 else if j = 12 then nI (4 * b) else if j = 13 then 1 else if j = 14 then 1 else if j = 15 + b then zr z j + 1 else zr z j := by
  rcases c23 h with rfl | rfl | rfl | rfl | rfl | rfl | rfl | rfl | rfl | rfl | rfl | rfl | rfl | rfl | rfl | hj
  iterate 15 (· first | rfl | (rw [if_neg (by decide), if_neg (by decide), if_neg (by decide), if_neg (by decide), if_neg (by decide), if_neg (by decide), if_neg (by decide), if_neg (by decide), if_neg (by omega)]; rfl))
  obtain ⟨i, rfl⟩ : ∃ i, j = 15 + i := ⟨j - 15, by omega⟩
  rw [if_neg (by omega), if_neg (by omega), if_neg (by omega), if_neg (by omega), if_neg (by omega), if_neg (by omega), if_neg (by omega), if_neg (by omega), zr_w (by omega), zr_w (by omega), show (lsE1 z b).2.2 4 = upd (z.2.2 4) b (z.2.2 4 b + 1) from (wp_F (F := z.2.2) (b := b) (x := 2)).2.2.2.2.1]
  by_cases e : i = b
  · subst e; rw [pk_us, if_pos rfl]
  · rw [pk_un e, if_neg (by omega)]
theorem zr_e2 {b : Nat} (hb : b < 8) {j : Nat} (h : j < 23) : zr (lsE2 z b) j = if j = 5 then icC (zr z 5) else if j = 7 then zr z 7 + 1 else if j = 10 then zr z 10 + 1 else if j = 15 + b then zr z j + 1 else zr z j := by
  rcases c23 h with rfl | rfl | rfl | rfl | rfl | rfl | rfl | rfl | rfl | rfl | rfl | rfl | rfl | rfl | rfl | hj
  iterate 15 (· first | rfl | (rw [if_neg (by decide), if_neg (by decide), if_neg (by decide), if_neg (by omega)]; rfl))
  obtain ⟨i, rfl⟩ : ∃ i, j = 15 + i := ⟨j - 15, by omega⟩
  rw [if_neg (by omega), if_neg (by omega), if_neg (by omega), zr_w (by omega), zr_w (by omega), show (lsE2 z b).2.2 4 = upd (z.2.2 4) b (z.2.2 4 b + 1) from (wp_F (F := z.2.2) (b := b) (x := 0)).2.2.2.2.1]
  by_cases e : i = b
  · subst e; rw [pk_us, if_pos rfl]
  · rw [pk_un e, if_neg (by omega)]
theorem erG_pg {b j w : Nat} (hb : b < 8) : pg (erG f b) j w = pg f j w := by
  unfold erG
  have h1 : 23 + 4 * j + w ≠ 10 := by omega
  have h2 : 23 + 4 * j + w ≠ 15 + b := by omega
  unfold pg
  rw [pk_un h1, pk_un h2]
  exact cutR_k (by omega)
/-- the pages behind an erasing -/
theorem rz_erpg (h : Rz z f) {b : Nat} {x : Int32} (hb : b < 8) {z2 : LgS} (hp : z2.2.2 = wpF z.2.2 b x) (hx : ¬ x = 1) (he : (if cutP f then (2 : Int32) else 0) = x) {j : Nat} (hj : j < 32) : pg (erR f b) j 0 = pg (zr z2) j 0 ∧ (pg (zr z2) j 0 = 1 → pg (erR f b) j 1 = pg (zr z2) j 1 ∧ pg (erR f b) j 2 = pg (zr z2) j 2 ∧ pg (erR f b) j 3 = pg (zr z2) j 3) := by
  obtain ⟨F0, F1, F2, F3, -⟩ := wp_F (F := z.2.2) (b := b) (x := x)
  have hs := h.2.2 j hj
  rw [zr_pg (by decide), zr_pg (by decide), zr_pg (by decide), zr_pg (by decide)] at hs ⊢
  unfold erR
  rw [stF_pg (by decide), stF_pg (by decide), stF_pg (by decide), stF_pg (by decide), hp, F0, F1, F2, F3, k4_at, erG_pg hb, erG_pg hb, erG_pg hb, erG_pg hb, he]
  rw [if_neg (show ¬ (1 = 0 ∧ 4 * b ≤ j ∧ j < 4 * b + 4) by omega), if_neg (show ¬ (2 = 0 ∧ 4 * b ≤ j ∧ j < 4 * b + 4) by omega), if_neg (show ¬ (3 = 0 ∧ 4 * b ≤ j ∧ j < 4 * b + 4) by omega)]
  by_cases c : 4 * b ≤ j ∧ j < 4 * b + 4
  · rw [if_pos c, if_pos ⟨rfl, c⟩]
    exact ⟨rfl, fun y => absurd y hx⟩
  · rw [if_neg c, if_neg (fun y => c y.2)]
    exact hs
theorem rz_erase (h : Rz z f) {b : Nat} (hb : b < z.1.2) (hw : weN_ z b < liN_ z) (hc : ¬ icP (z.2.1 1)) : Rz (lsE2 z b) (erR f b) := by
  have hB := inv_B h.1
  have hcf : ¬ cutP f := fun y => hc ((rz_cutP h).mp y)
  obtain ⟨N0, N1, N2, N3, N4⟩ := e2_N (z := z) (b := b)
  refine ⟨inv_wp h.1 (x := 0) (Or.inl rfl) hb hw rfl rfl N2 N4 ?_ ?_ ?_, fun j hj => ?_, fun j hj => rz_erpg h (by omega) (x := 0) rfl (by decide) (if_neg hcf) hj⟩
  · unfold iOp; rw [N3]; exact h.1.2.2.2.2.2.2.2.1
  · unfold iPo; rw [N0]; exact h.1.2.2.2.2.2.2.2.2.1
  · unfold iCu; rw [N1]; exact icC_n h.1
  · rw [zr_e2 (by omega) hj]
    unfold erR
    rw [stF_k hj, erG, if_neg hcf, cutR_no hcf]
    have e5 := h.2.1 5 (by decide)
    have e7 := h.2.1 7 (by decide)
    have e10 := h.2.1 10 (by decide)
    have ej := h.2.1 j hj
    by_cases c10 : j = 10
    · subst c10
      rw [pk_us, pk_un (by decide), pk_un (by decide), e10, if_neg (by decide), if_neg (by decide), if_pos rfl]
    · rw [pk_un c10, if_neg c10]
      by_cases cb : j = 15 + b
      · subst cb
        rw [pk_us, pk_un (by omega), pk_un (by omega), ej, if_neg (by omega), if_neg (by omega), if_pos rfl]
      · rw [pk_un cb, if_neg cb]
        by_cases c5 : j = 5
        · subst c5
          rw [pk_us, if_pos rfl, e5]
        · rw [pk_un c5, if_neg c5]
          by_cases c7 : j = 7
          · subst c7
            rw [pk_us, if_pos rfl, e7]
          · rw [pk_un c7, if_neg c7, ej]
theorem rz_erasecut (h : Rz z f) {b : Nat} (hb : b < z.1.2) (hw : weN_ z b < liN_ z) (hc : icP (z.2.1 1)) : Rz (lsE1 z b) (erR f b) := by
  have hB := inv_B h.1
  have hcf : cutP f := (rz_cutP h).mpr hc
  obtain ⟨N0, N1, N2, N3, N4⟩ := e1_N (z := z) (b := b)
  refine ⟨inv_wp h.1 (x := 2) (Or.inr rfl) hb hw rfl rfl N2 N4 ?_ ?_ ?_, fun j hj => ?_, fun j hj => rz_erpg h (by omega) (x := 2) rfl (by decide) (if_pos hcf) hj⟩
  · exact Or.inl N3
  · unfold iPo; rw [N0]; exact h.1.2.2.2.2.2.2.2.2.1
  · unfold iCu; rw [N1, hc.2]; exact isN_of (j := 0) (by decide) (by decide)
  · rw [zr_e1 (by omega) hj]
    unfold erR
    rw [stF_k hj, erG, if_pos hcf]
    have e5 := h.2.1 5 (by decide)
    have e7 := h.2.1 7 (by decide)
    have e11 := h.2.1 11 (by decide)
    have ej := h.2.1 j hj
    by_cases c10 : j = 10
    · subst c10
      rw [pk_us, cutR_yk hcf (by decide), if_neg (show ¬ 10 = 15 + b by omega), ← ej]
      simp
    · rw [pk_un c10]
      by_cases cb : j = 15 + b
      · subst cb
        rw [pk_us, cutR_yk hcf (by omega), if_neg (show ¬ 15 + b = 2 by omega), if_neg (show ¬ 15 + b = 3 by omega), if_neg (show ¬ 15 + b = 5 by omega), if_neg (show ¬ 15 + b = 7 by omega), if_neg (show ¬ 15 + b = 11 by omega), if_neg (show ¬ 15 + b = 12 by omega), if_neg (show ¬ 15 + b = 13 by omega), if_neg (show ¬ 15 + b = 14 by omega), ej]
        rw [if_neg (by omega), if_neg (by omega), if_neg (by omega), if_neg (by omega), if_neg (by omega), if_neg (by omega), if_neg (by omega), if_neg (by omega), if_pos rfl]
      · rw [pk_un cb, cutR_yk hcf hj, if_neg cb, e5, e7, e11, ej, show bI (true = true) = 1 from rfl]
-- cut, policy
theorem zC_N {x : Int32} : (zC z x).2.1 0 = z.2.1 0 ∧ (zC z x).2.1 1 = x ∧ (zC z x).2.1 2 = z.2.1 2 ∧ (zC z x).2.1 3 = z.2.1 3 ∧ (zC z x).2.1 4 = z.2.1 4 := ⟨rfl, rfl, rfl, rfl, rfl⟩
theorem inv_zC' (h : Inv z) {j : Nat} (hj : j ≤ 99) : Inv (zC z (nI j)) :=
  inv_pages h rfl rfl rfl rfl h.2.2.2.2.2.2.2.1 h.2.2.2.2.2.2.2.2.1 (isN_of hj (by decide))
theorem inv_zPo' (h : Inv z) {j : Nat} (hj : j ≤ 2) : Inv (zPo z (nI j)) :=
  inv_pages h rfl rfl rfl rfl h.2.2.2.2.2.2.2.1 (isN_of hj (by decide)) h.2.2.2.2.2.2.2.2.2.1
theorem rz_num (h : Rz z f) {z2 : LgS} {i : Nat} {x : Int32} (hI : Inv z2) (hp : z2.2.2 = z.2.2) (hi : i < 23) (hn : ∀ j, j < 23 → zr z2 j = if j = i then x else zr z j) : Rz z2 (upd f i x) := by
  refine ⟨hI, fun j hj => ?_, fun j hj => ?_⟩
  · rw [hn j hj]
    by_cases e : j = i
    · rw [e, pk_us, if_pos rfl]
    · rw [pk_un e, if_neg e, h.2.1 j hj]
  · have hr : ∀ w, pg (upd f i x) j w = pg f j w := fun w => pk_un (by omega)
    rw [hr, hr, hr, hr]
    have := h.2.2 j hj
    rw [zr_pg (by decide), zr_pg (by decide), zr_pg (by decide), zr_pg (by decide)] at this ⊢
    rw [hp]
    exact this
theorem rz_zC (h : Rz z f) {j : Nat} (hj : j ≤ 99) : Rz (zC z (nI j)) (upd f 5 (nI j)) := by
  refine rz_num h (inv_zC' h.1 hj) rfl (by decide) (fun i hi => ?_)
  rcases c23 hi with rfl | rfl | rfl | rfl | rfl | rfl | rfl | rfl | rfl | rfl | rfl | rfl | rfl | rfl | rfl | hi15
  iterate 15 (· rfl)
  obtain ⟨q, rfl⟩ : ∃ q, i = 15 + q := ⟨i - 15, by omega⟩
  rw [if_neg (by omega), zr_w (by omega), zr_w (by omega)]
  rfl
theorem rz_zPo (h : Rz z f) {j : Nat} (hj : j ≤ 2) : Rz (zPo z (nI j)) (upd f 6 (nI j)) := by
  refine rz_num h (inv_zPo' h.1 hj) rfl (by decide) (fun i hi => ?_)
  rcases c23 hi with rfl | rfl | rfl | rfl | rfl | rfl | rfl | rfl | rfl | rfl | rfl | rfl | rfl | rfl | rfl | hi15
  iterate 15 (· rfl)
  obtain ⟨q, rfl⟩ : ∃ q, i = 15 + q := ⟨i - 15, by omega⟩
  rw [if_neg (by omega), zr_w (by omega), zr_w (by omega)]
  rfl
end P9
