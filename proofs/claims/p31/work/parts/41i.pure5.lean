-- THE PURE PART: cuts; the rows behind a writing, a tearing
theorem c23 {k : Nat} (h : k < 23) : k = 0 ∨ k = 1 ∨ k = 2 ∨ k = 3 ∨ k = 4 ∨ k = 5 ∨ k = 6 ∨ k = 7 ∨ k = 8 ∨ k = 9 ∨ k = 10 ∨ k = 11 ∨ k = 12 ∨ k = 13 ∨ k = 14 ∨ 15 ≤ k := by omega
theorem cutR_no {f : Nat → Int32} {wh kd : Int32} {sw : Bool} (h : ¬ cutP f) : cutR f wh kd sw = upd (upd f 7 (f 7 + 1)) 5 (icC (f 5)) := by
  unfold cutR tick icC
  by_cases h5 : f 5 = 0
  · rw [if_pos h5, if_pos h5]
    funext j
    by_cases e : j = 5
    · subst e
      rw [pk_us, pk_un (by decide)]
    · rw [pk_un e]
  · rw [if_neg h5, if_neg h5, if_pos (Classical.not_not.mp (fun y => h ⟨h5, y⟩))]
theorem cutR_yes {f : Nat → Int32} {wh kd : Int32} {sw : Bool} (h : cutP f) : cutR f wh kd sw = upd (upd (upd (upd (upd (upd (upd (upd f 7 (f 7 + 1)) 5 (f 5 - 1)) 2 0) 3 (-9)) 11 (f 11 + 1)) 12 wh) 13 kd) 14 (bI (sw = true)) := by
  unfold cutR
  rw [if_neg h.1, if_neg h.2]
  rfl
section P5
variable {z : LgS} {f : Nat → Int32}
theorem rz_5 (h : Rz z f) : f 5 = z.2.1 1 := by rw [rz_k h (by decide), zr_5]
theorem rz_cutP (h : Rz z f) : cutP f ↔ icP (z.2.1 1) := by
  unfold cutP icP
  rw [rz_5 h]
  obtain ⟨h1, h2⟩ := h.1.2.2.2.2.2.2.2.2.2.1
  refine and_congr_right fun hne => ?_
  obtain ⟨j, hj⟩ : ∃ j, (z.2.1 1).toNatClampNeg = j + 1 := by
    cases hc : (z.2.1 1).toNatClampNeg with
    | zero => rw [hc] at h1; exact absurd h1 hne
    | succ j => exact ⟨j, rfl⟩
  rw [h1, hj, nI_pred]
  rw [show (0 : Int32) = nI 0 from rfl, nI_ltI (by decide) (by omega), nI_eq (by omega) (by decide)]
  omega
theorem wrW_4 {g : Nat → Int32} {a : Nat} {key val : Int32} {sw : Bool} : wrW g a key val sw 4 = g 4 + 1 ∧ wrW g a key val sw 8 = g 8 + 1 ∧ wrW g a key val sw 9 = g 9 + bI (sw = true) := by
  unfold wrW
  exact ⟨by rw [pk_un (by decide), pk_un (by decide), pk_us], by rw [pk_un (by decide), pk_us], pk_us⟩
theorem wrW_pg {g : Nat → Int32} {a j w : Nat} {key val : Int32} {sw : Bool} (hj : j ≠ a) (hw : w < 4) : pg (wrW g a key val sw) j w = pg g j w := by
  unfold wrW pg
  rw [pk_un (by omega), pk_un (by omega), pk_un (by omega), pk_un (by omega), pk_un (by omega), pk_un (by omega), pk_un (by omega)]
theorem wrW_pa {g : Nat → Int32} {a : Nat} {key val : Int32} {sw : Bool} : pg (wrW g a key val sw) a 0 = 1 ∧ pg (wrW g a key val sw) a 1 = key ∧ pg (wrW g a key val sw) a 2 = val ∧ pg (wrW g a key val sw) a 3 = g 4 := by
  unfold wrW pg
  refine ⟨?_, ?_, ?_, ?_⟩
  · rw [pk_un (by omega), pk_un (by omega), pk_un (by omega), pk_un (by omega), pk_un (by omega), pk_un (by omega), pk_us]
  · rw [pk_un (by omega), pk_un (by omega), pk_un (by omega), pk_un (by omega), pk_un (by omega), pk_us]
  · rw [pk_un (by omega), pk_un (by omega), pk_un (by omega), pk_un (by omega), pk_us]
  · rw [pk_un (by omega), pk_un (by omega), pk_un (by omega), pk_us]
theorem zr_w2 {a k : Nat} {x : Int32} {sw : Bool} {j : Nat} (h : j < 23) : zr (lsW2 z a k x sw) j = if j = 4 then zr z 4 + 1 else if j = 5 then icC (zr z 5) else if j = 7 then zr z 7 + 1 else if j = 8 then zr z 8 + 1 else if j = 9 then zr z 9 + bI (sw = true) else zr z j := by
  rcases c23 h with rfl | rfl | rfl | rfl | rfl | rfl | rfl | rfl | rfl | rfl | rfl | rfl | rfl | rfl | rfl | hj
  iterate 15 (· rfl)
  obtain ⟨i, rfl⟩ : ∃ i, j = 15 + i := ⟨j - 15, by omega⟩
  rw [zr_w (by omega), zr_w (by omega), w2_F.2.2.2.2.1, if_neg (by omega), if_neg (by omega), if_neg (by omega), if_neg (by omega), if_neg (by omega)]
theorem wrR_k {a : Nat} {key val : Int32} {sw : Bool} (hc : ¬ cutP f) {j : Nat} (h : j < 23) : wrR f a key val sw j = if j = 4 then f 4 + 1 else if j = 5 then icC (f 5) else if j = 7 then f 7 + 1 else if j = 8 then f 8 + 1 else if j = 9 then f 9 + bI (sw = true) else f j := by
  rw [wrR, if_neg hc, cutR_no hc]
  obtain ⟨g4, g8, g9⟩ := wrW_4 (g := upd (upd f 7 (f 7 + 1)) 5 (icC (f 5))) (a := a) (key := key) (val := val) (sw := sw)
  by_cases e4 : j = 4
  · subst e4
    rw [g4, pk_un (by decide), pk_un (by decide), if_pos rfl]
  · by_cases e8 : j = 8
    · subst e8
      rw [g8, pk_un (by decide), pk_un (by decide)]
      rfl
    · by_cases e9 : j = 9
      · subst e9
        rw [g9, pk_un (by decide), pk_un (by decide)]
        rfl
      · rw [wrW_k h e4 e8 e9, if_neg e4, if_neg e8, if_neg e9]
        by_cases e5 : j = 5
        · subst e5
          rw [pk_us, if_pos rfl]
        · rw [pk_un e5, if_neg e5]
          by_cases e7 : j = 7
          · subst e7
            rw [pk_us, if_pos rfl]
          · rw [pk_un e7, if_neg e7]
/-- a page is written on both sides -/
theorem rz_write (h : Rz z f) {b a k : Nat} {x : Int32} {sw : Bool} (hn : nxA z b a) (hk : k < 16) (hx : ¬ x = -9 ∨ ∃ i, i < 32 ∧ z.2.2 0 i = 1 ∧ z.2.2 1 i = nI k) (hc : ¬ icP (z.2.1 1)) : Rz (lsW2 z a k x sw) (wrR f a (nI k) x sw) := by
  have hcf : ¬ cutP f := fun y => hc ((rz_cutP h).mp y)
  refine ⟨inv_w2 h.1 hn hk hx, fun j hj => ?_, fun j hj => ?_⟩
  · rw [wrR_k hcf hj, zr_w2 hj, h.2.1 4 (by decide), h.2.1 5 (by decide), h.2.1 7 (by decide), h.2.1 8 (by decide), h.2.1 9 (by decide), h.2.1 j hj]
  · have hr : ∀ w, w < 4 → j ≠ a → pg (wrR f a (nI k) x sw) j w = pg f j w := fun w hw e => by
      rw [wrR, if_neg hcf, cutR_no hcf, wrW_pg e hw]
      unfold pg
      rw [pk_un (by omega), pk_un (by omega)]
    by_cases e : j = a
    · subst e
      obtain ⟨p0, p1, p2, p3⟩ := w2_pa (z := z) (a := j) (k := k) (x := x) (sw := sw)
      obtain ⟨q0, q1, q2, q3⟩ := wrW_pa (g := upd (upd f 7 (f 7 + 1)) 5 (icC (f 5))) (a := j) (key := nI k) (val := x) (sw := sw)
      rw [wrR, if_neg hcf, cutR_no hcf, p0, p1, p2, p3, q0, q1, q2, q3, pk_un (by decide), pk_un (by decide), rz_k h (by decide), zr_4]
      exact ⟨rfl, fun _ => ⟨rfl, rfl, rfl⟩⟩
    · rw [hr 0 (by decide) e, hr 1 (by decide) e, hr 2 (by decide) e, hr 3 (by decide) e, w2_pg e (by decide), w2_pg e (by decide), w2_pg e (by decide), w2_pg e (by decide)]
      exact h.2.2 j hj
-- tearing
theorem w1_F {a : Nat} {sw : Bool} : (lsW1 z a sw).2.2 0 = upd (z.2.2 0) a 2 ∧ (lsW1 z a sw).2.2 1 = z.2.2 1 ∧ (lsW1 z a sw).2.2 2 = z.2.2 2 ∧ (lsW1 z a sw).2.2 3 = z.2.2 3 ∧ (lsW1 z a sw).2.2 4 = z.2.2 4 ∧ (lsW1 z a sw).2.2 5 = z.2.2 5 ∧ (lsW1 z a sw).2.2 6 = z.2.2 6 ∧ (lsW1 z a sw).2.2 7 = upd (z.2.2 7) (a / 4) (z.2.2 7 (a / 4) - 1) := by
  simp [lsW1, va_up]
theorem zr_w1 {a : Nat} {sw : Bool} {j : Nat} (h : j < 23) : zr (lsW1 z a sw) j = if j = 2 then 0 else if j = 3 then -9 else if j = 5 then zr z 5 - 1 else if j = 7 then zr z 7 + 1 else if j = 11 then zr z 11 + 1 else if j = 12 then nI a else if j = 13 then 0 else if j = 14 then bI (sw = true) else zr z j := by
  rcases c23 h with rfl | rfl | rfl | rfl | rfl | rfl | rfl | rfl | rfl | rfl | rfl | rfl | rfl | rfl | rfl | hj
  iterate 15 (· rfl)
  obtain ⟨i, rfl⟩ : ∃ i, j = 15 + i := ⟨j - 15, by omega⟩
  rw [zr_w (by omega), zr_w (by omega), w1_F.2.2.2.2.1, if_neg (by omega), if_neg (by omega), if_neg (by omega), if_neg (by omega), if_neg (by omega), if_neg (by omega), if_neg (by omega), if_neg (by omega)]
/-- the row's numbers behind a cut -/
theorem cutR_yk {wh kd : Int32} {sw : Bool} (hc : cutP f) {j : Nat} (h : j < 23) : cutR f wh kd sw j = if j = 2 then 0 else if j = 3 then -9 else if j = 5 then f 5 - 1 else if j = 7 then f 7 + 1 else if j = 11 then f 11 + 1 else if j = 12 then wh else if j = 13 then kd else if j = 14 then bI (sw = true) else f j := by
  rw [cutR_yes hc]
  rcases c23 h with rfl | rfl | rfl | rfl | rfl | rfl | rfl | rfl | rfl | rfl | rfl | rfl | rfl | rfl | rfl | hj
  iterate 15 (· rfl)
  rw [pk_un (by omega), pk_un (by omega), pk_un (by omega), pk_un (by omega), pk_un (by omega), pk_un (by omega), pk_un (by omega), pk_un (by omega), if_neg (by omega), if_neg (by omega), if_neg (by omega), if_neg (by omega), if_neg (by omega), if_neg (by omega), if_neg (by omega), if_neg (by omega)]
theorem cutR_pg {wh kd : Int32} {sw : Bool} {j w : Nat} : pg (cutR f wh kd sw) j w = pg f j w := cutR_k (by omega)
/-- a change of the pages that writes none and takes none of the written ones away -/
theorem nwst_same {f g : Nat → Int32} {key : Int32} : ∀ {n : Nat}, (∀ j, j < n → (pg f j 0 = 1 ↔ pg g j 0 = 1) ∧ (pg g j 0 = 1 → pg f j 1 = pg g j 1 ∧ pg f j 3 = pg g j 3)) → nwst f key n = nwst g key n
  | 0, _ => rfl
  | n + 1, h => by
    have ih := nwst_same (f := f) (g := g) (key := key) (n := n) (fun j hj => h j (by omega))
    obtain ⟨h0, h1⟩ := h n (by omega)
    rw [nwst, nwst, ih]
    by_cases e : pg g n 0 = 1
    · obtain ⟨e1, e3⟩ := h1 e
      cases ho : nwst g key n with
      | none =>
        dsimp only
        rw [e1, ite_iff (and_congr_left' h0)]
      | some o =>
        have hw := nwst_wr ho
        have hl := nwst_lt ho
        dsimp only
        rw [e1, e3, ((h o (by omega)).2 hw.1).2, ite_iff (and_congr_left' h0)]
    · have e2 : ¬ pg f n 0 = 1 := fun y => e (h0.mp y)
      cases nwst g key n with
      | none =>
        dsimp only
        rw [if_neg (fun y => e2 y.1), if_neg (fun y => e y.1)]
      | some o =>
        dsimp only
        rw [if_neg (fun y => e2 y.1), if_neg (fun y => e y.1)]
theorem cnt_same {f g : Nat → Int32} {key : Int32} : ∀ {n : Nat}, (∀ j, j < n → (pg f j 0 = 1 ↔ pg g j 0 = 1) ∧ (pg g j 0 = 1 → pg f j 1 = pg g j 1)) → cnt f key n = cnt g key n
  | 0, _ => rfl
  | n + 1, h => by
    have ih := cnt_same (f := f) (g := g) (key := key) (n := n) (fun j hj => h j (by omega))
    obtain ⟨h0, h1⟩ := h n (by omega)
    rw [cnt, cnt, ih]
    by_cases e : pg g n 0 = 1
    · rw [h1 e, ite_iff (and_congr_left' h0)]
    · rw [if_neg (fun y => e (h0.mp y.1)), if_neg (fun y => e y.1)]
theorem inv_w1 (h : Inv z) {b a : Nat} {sw : Bool} (hn : nxA z b a) (hc : icP (z.2.1 1)) : Inv (lsW1 z a sw) := by
  obtain ⟨ha, haB, hab, h0a⟩ := nxA_a h hn
  obtain ⟨F0, F1, F2, F3, F4, F5, F6, F7⟩ := w1_F (z := z) (a := a) (sw := sw)
  have hB := inv_B h
  obtain ⟨nm1, nm2, nm3⟩ := nm_le h
  obtain ⟨hf4, hf7, -⟩ := inv_fr h (show b < 8 by have := hn.1; omega)
  have hM := h.2.2.1
  have hw : ∀ j, (lsW1 z a sw).2.2 0 j = 1 ↔ z.2.2 0 j = 1 := fun j => by
    rw [F0]
    by_cases e : j = a
    · subst e
      rw [pk_us, h0a]
      exact ⟨fun y => absurd y (by decide), fun y => absurd y (by decide)⟩
    · rw [pk_un e]
  have hps : ∀ n, ∀ j, j < n → (pg (zr (lsW1 z a sw)) j 0 = 1 ↔ pg (zr z) j 0 = 1) ∧ (pg (zr z) j 0 = 1 → pg (zr (lsW1 z a sw)) j 1 = pg (zr z) j 1 ∧ pg (zr (lsW1 z a sw)) j 3 = pg (zr z) j 3) := fun n j _ => by
    rw [zr_pg (by decide), zr_pg (by decide), zr_pg (by decide), zr_pg (by decide), zr_pg (by decide), zr_pg (by decide), F1, F3]
    exact ⟨hw j, fun _ => ⟨rfl, rfl⟩⟩
  have nw : ∀ key, nwst (zr (lsW1 z a sw)) key 32 = nwst (zr z) key 32 := fun key => nwst_same (hps 32)
  have ct : ∀ key, cnt (zr (lsW1 z a sw)) key 32 = cnt (zr z) key 32 := fun key => cnt_same (fun j hj => ⟨(hps 32 j hj).1, fun y => ((hps 32 j hj).2 y).1⟩)
  have hf1 : frN_ (lsW1 z a sw) b + 1 = frN_ z b := by
    have e : (lsW1 z a sw).2.2 7 b = nI (frN_ z b - 1) := by
      rw [F7, hab, pk_us, hf7, show (1 : Int32) = nI 1 from rfl, pk_sub (by have := hn.2.1; omega)]
    unfold frN_ at e ⊢
    rw [e, nI_clamp (by have := hf4; unfold frN_ at this; omega)]
    have := hn.2.1
    unfold frN_ at this
    omega
  have hfo : ∀ j, j ≠ b → frN_ (lsW1 z a sw) j = frN_ z j := fun j hj => by
    unfold frN_
    rw [F7, hab, pk_un hj]
  have hwe : ∀ j, weN_ (lsW1 z a sw) j = weN_ z j := fun j => by
    unfold weN_
    rw [F4]
  refine ⟨⟨⟨h.1.1.1, hB⟩, fun j hj => ?_, fun j hj hjB => ?_⟩, fun j hj hj1 => ?_, ⟨fun j hj hj1 => ?_, fun i j hi hj hi1 hj1 he => ?_⟩, fun j hj => ?_, fun j hj => ?_, fun j hj => ?_, h.2.2.2.2.2.2.1, Or.inl rfl, h.2.2.2.2.2.2.2.2.1, ?_, ?_, h.2.2.2.2.2.2.2.2.2.2.2⟩
  · rw [F0]
    by_cases e : j = a
    · subst e; rw [pk_us]; exact Or.inr (Or.inr rfl)
    · rw [pk_un e]; exact h.1.2.1 j hj
  · have hjB : 4 * z.1.2 ≤ j := hjB
    rw [F0, pk_un (by omega)]
    exact h.1.2.2 j hj hjB
  · rw [F1]; exact h.2.1 j hj ((hw j).mp hj1)
  · rw [F3]; exact hM.1 j hj ((hw j).mp hj1)
  · rw [F3] at he
    exact hM.2 i j hi hj ((hw i).mp hi1) ((hw j).mp hj1) he
  · rw [F6, nw]; exact h.2.2.2.1 j hj
  · rw [F5, h.2.2.2.2.1 j hj]
    refine bI_congr ?_
    unfold livP
    rw [zr_pg (by decide), zr_pg (by decide), zr_pg (by decide), zr_pg (by decide), zr_pg (by decide), zr_pg (by decide), F1, F2, hw]
    show (_ ∧ nwst _ _ 32 = _ ∧ (_ ∨ 1 < cnt _ _ 32)) ↔ (_ ∧ nwst _ _ 32 = _ ∧ (_ ∨ 1 < cnt _ _ 32))
    rw [nw, ct]
  · by_cases e : j = b
    · subst e
      have hq := (h.2.2.2.2.2.1 j hj).2
      refine ⟨⟨?_, ?_⟩, fun q hq4 => ?_⟩
      · rw [F7, hab, pk_us, hf7, show (1 : Int32) = nI 1 from rfl, pk_sub (by have := hn.2.1; omega), nI_clamp (by omega)]
      · show frN_ (lsW1 z a sw) j ≤ 4
        omega
      · rw [F0]
        have hn3 := hn.2.2
        by_cases e : 4 * j + q = a
        · rw [e, pk_us]
          exact ⟨fun y => absurd y (by decide), fun y => by omega⟩
        · rw [pk_un e, hq q hq4]
          constructor <;> intro y <;> omega
    · obtain ⟨g1, g2⟩ := h.2.2.2.2.2.1 j hj
      refine ⟨?_, fun q hq4 => ?_⟩
      · rw [F7, hab, pk_un e]; exact g1
      · rw [F0, pk_un (by omega), hfo j e]
        exact g2 q hq4
  · show isN (z.2.1 1 - 1) 99
    rw [hc.2]
    exact isN_of (j := 0) (by decide) (by decide)
  · have hs := suW_1 hwe hfo hf1 hf4 (n := 8)
    rw [if_pos (show b < 8 by have := hn.1; omega)] at hs
    rw [hs]
    have := h.2.2.2.2.2.2.2.2.2.2.1
    exact ⟨this.1, Nat.le_trans this.2 (by omega)⟩
end P5
