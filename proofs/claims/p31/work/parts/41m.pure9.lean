-- THE PURE PART: renewal, power on
theorem pg_clR {bl li : Int32} {a w : Nat} : pg (clR bl li) a w = 0 := by
  unfold pg clR
  rw [pk_un (by omega), pk_un (by omega), pk_un (by omega), pk_un (by omega), pk_un (by omega), pk_un (by omega), pk_un (by omega), pk_un (by omega)]
theorem inv_zNew' {B x : Nat} {z : LgS} (hB : 3 ≤ B) (hB8 : B ≤ 8) (hx : 1 ≤ x) (hx9 : x ≤ 99) : Inv (zNew B (nI x) z) := by
  obtain ⟨F0, F1, F2, F3, F4, F5, F6, F7⟩ := fNew_k (F := z.2.2)
  have hk : ∀ j, (zNew B (nI x) z).2.2 0 j = 0 := fun j => by show fNew z.2.2 0 j = 0; rw [F0]
  have hn1 : ∀ j, ¬ (zNew B (nI x) z).2.2 0 j = 1 := fun j y => by rw [hk] at y; exact absurd y (by decide)
  have hpz : ∀ a, a < 32 → pg (zr (zNew B (nI x) z)) a 0 = (fun _ => (0 : Int32)) a := fun a _ => by rw [zr_pg (by decide)]; exact hk a
  have hnw : ∀ k, k < 16 → (zNew B (nI x) z).2.2 6 k = oI (nwst (zr (zNew B (nI x) z)) (nI k) 32) := fun k hk16 => by
    show fNew z.2.2 6 k = _
    rw [F6]
    exact frN_ok (ky := z.2.2 1) (mk := z.2.2 3) hpz (fun a _ h1 => absurd h1 (by decide)) hk16 (Nat.le_refl _)
  have e2 : (zNew B (nI x) z).2.1 2 = nI x := rfl
  have hli : liN_ (zNew B (nI x) z) = x := nI_clamp (by omega)
  refine ⟨⟨⟨hB, hB8⟩, fun j _ => Or.inl (hk j), fun j _ _ => hk j⟩, fun j _ y => absurd y (hn1 j), ⟨fun j _ y => absurd y (hn1 j), fun i _ _ _ y => absurd y (hn1 i)⟩, hnw, fun j hj => ?_, fun j hj => ?_, ⟨?_, ?_, fun j hj => ?_⟩, Or.inl rfl, isN_of (j := 0) (by decide) (by decide), isN_of (j := 0) (by decide) (by decide), ⟨rfl, by show 1 ≤ 1 + suW _ 8; omega⟩, Nat.le_refl _⟩
  · show fNew z.2.2 5 j = _
    rw [F5]
    rcases frV_ok (g := zr (zNew B (nI x) z)) (ky := z.2.2 1) (vl := z.2.2 2) (nw := nwR (fun _ => 0) (z.2.2 1) (z.2.2 3)) hpz (fun a _ h1 => absurd h1 (by decide)) (fun k hk16 => by rw [← hnw k hk16]; show _ = fNew z.2.2 6 k; rw [F6]) hj (n := 32) (Nat.le_refl _) with ⟨e, y⟩ | ⟨e, y⟩
    · exact e.trans (bI_1 ((lvE_liv hj).mp y)).symm
    · exact e.trans (bI_0 (fun q => y ((lvE_liv hj).mpr q))).symm
  · have e7 : (zNew B (nI x) z).2.2 7 j = nI 4 := by show fNew z.2.2 7 j = _; rw [F7]; rfl
    have hf : frN_ (zNew B (nI x) z) j = 4 := by unfold frN_; rw [e7]; exact nI_clamp (by decide)
    refine ⟨by rw [e7]; exact isN_of (by decide) (by decide), fun q hq => ?_⟩
    rw [hk, hf]
    exact ⟨fun _ => by omega, fun _ => rfl⟩
  · rw [e2]; exact isN_of hx9 (by decide)
  · rw [hli]; exact hx
  · rw [hli]
    show isN (fNew z.2.2 4 j) x
    rw [F4]
    exact isN_of (j := 0) (by omega) (by omega)
theorem rz_zNew {B x : Nat} {z : LgS} (hB : 3 ≤ B) (hB8 : B ≤ 8) (hx : 1 ≤ x) (hx9 : x ≤ 99) : Rz (zNew B (nI x) z) (clR (nI B) (nI x)) := by
  obtain ⟨F0, F1, F2, F3, F4, F5, F6, F7⟩ := fNew_k (F := z.2.2)
  refine ⟨inv_zNew' hB hB8 hx hx9, fun j hj => ?_, fun j hj => ?_⟩
  · rcases c23 hj with rfl | rfl | rfl | rfl | rfl | rfl | rfl | rfl | rfl | rfl | rfl | rfl | rfl | rfl | rfl | hj15
    iterate 15 (· rfl)
    obtain ⟨i, rfl⟩ : ∃ i, j = 15 + i := ⟨j - 15, by omega⟩
    rw [zr_w (by omega)]
    show _ = fNew z.2.2 4 i
    rw [F4]
    unfold clR
    rw [pk_un (by omega), pk_un (by omega), pk_un (by omega), pk_un (by omega), pk_un (by omega), pk_un (by omega), pk_un (by omega), pk_un (by omega)]
  · have hk : pg (zr (zNew B (nI x) z)) j 0 = 0 := by rw [zr_pg (by decide)]; show fNew z.2.2 0 j = 0; rw [F0]
    rw [hk, pg_clR]
    exact ⟨rfl, fun y => absurd y (by decide)⟩
-- power on
theorem nwa_max {g : Nat → Int32} : ∀ {n o : Nat}, nwa g n = some o → pg g o 0 = 1 ∧ ∀ j, j < n → pg g j 0 = 1 → ¬ pg g o 3 < pg g j 3
  | 0, o, h => by cases h
  | n + 1, o, h => by
    unfold nwa at h
    cases hn : nwa g n with
    | none =>
      rw [hn] at h
      dsimp only at h
      split at h
      · rename_i hc
        cases h
        refine ⟨hc, fun j hj h1 => ?_⟩
        by_cases e : j = n
        · subst e; exact Int32.lt_irrefl
        · exact absurd h1 (nwa_none hn j (by omega))
      · cases h
    | some o2 =>
      rw [hn] at h
      obtain ⟨g1, g2⟩ := nwa_max hn
      dsimp only at h
      split at h
      · rename_i hc
        cases h
        refine ⟨hc.1, fun j hj h1 => ?_⟩
        by_cases e : j = n
        · subst e; exact Int32.lt_irrefl
        · exact fun y => g2 j (by omega) h1 (Int32.lt_trans hc.2 y)
      · rename_i hc
        cases h
        refine ⟨g1, fun j hj h1 => ?_⟩
        by_cases e : j = n
        · subst e; exact fun y => hc ⟨h1, y⟩
        · exact g2 j (by omega) h1
where
  nwa_none {g : Nat → Int32} : ∀ {n : Nat}, nwa g n = none → ∀ j, j < n → ¬ pg g j 0 = 1
  | 0, _, j, hj => absurd hj (Nat.not_lt_zero _)
  | n + 1, h, j, hj => by
    unfold nwa at h
    cases hn : nwa g n with
    | none =>
      rw [hn] at h
      dsimp only at h
      split at h
      · cases h
      · rename_i hc
        by_cases e : j = n
        · subst e; exact hc
        · exact nwa_none hn j (by omega)
    | some o2 =>
      rw [hn] at h
      dsimp only at h
      split at h <;> cases h
theorem nwa_same {f g : Nat → Int32} (h : ∀ a w, pg f a w = pg g a w) : ∀ {n : Nat}, nwa f n = nwa g n
  | 0 => rfl
  | n + 1 => by
    rw [nwa, nwa, nwa_same h (n := n)]
    simp only [h]
theorem i_lt_i {x y : Int32} : x < y ↔ x.toInt < y.toInt := Int32.lt_iff_toInt_lt
section P10
variable {z : LgS} {f : Nat → Int32}
/-- along the pages of a block: the greatest mark of the blocks before, of this one so far, and the newest page -/
theorem sw_in (hp : ∀ a, a < 32 → pg f a 0 = 1 → 0 < pg f a 3) {n : Nat} (hn : n < 8) {G : Int32} {o : Option Nat} (h0 : (nwa f (4 * n) = none ∧ G = 0 ∧ o = none) ∨ ∃ a, nwa f (4 * n) = some a ∧ a < 4 * n ∧ G = pg f a 3 ∧ o = some (a / 4) ∧ 0 < G) : ∀ {i : Nat}, i ≤ 4 → (nwa f (4 * n + i) = none ∧ G = 0 ∧ o = none ∧ gmk f n i = 0) ∨ (∃ a, nwa f (4 * n + i) = some a ∧ 0 < pg f a 3 ∧ ((G < gmk f n i ∧ 4 * n ≤ a ∧ a < 4 * n + i ∧ pg f a 3 = gmk f n i) ∨ (¬ G < gmk f n i ∧ a < 4 * n ∧ pg f a 3 = G ∧ o = some (a / 4))))
  | 0, _ => by
    rcases h0 with ⟨h1, h2, h3⟩ | ⟨a, h1, h2, h3, h4, h5⟩
    · exact Or.inl ⟨h1, h2, h3, rfl⟩
    · refine Or.inr ⟨a, h1, h3 ▸ h5, Or.inr ⟨fun y => ?_, h2, h3.symm, h4⟩⟩
      exact i_irr h5 y
  | i + 1, hi => by
    have ih := sw_in hp hn h0 (i := i) (by omega)
    have hm := hp (4 * n + i) (by omega)
    rw [show 4 * n + (i + 1) = 4 * n + i + 1 by omega, nwa, gmk]
    by_cases e : pg f (4 * n + i) 0 = 1
    · have hm := hm e
      rcases ih with ⟨h1, h2, h3, h4⟩ | ⟨a, h1, h2, h3⟩
      · rw [h1]
        dsimp only
        rw [if_pos e, h4, if_pos ⟨e, hm⟩]
        exact Or.inr ⟨_, rfl, hm, Or.inl ⟨by rw [h2]; exact hm, by omega, by omega, rfl⟩⟩
      · rw [h1]
        dsimp only
        refine Or.inr ?_
        by_cases c : pg f a 3 < pg f (4 * n + i) 3
        · rw [if_pos ⟨e, c⟩]
          rcases h3 with ⟨g1, g2, g3, g4⟩ | ⟨g1, g2, g3, g4⟩
          · rw [if_pos ⟨e, by rw [← g4]; exact c⟩]
            exact ⟨_, rfl, hm, Or.inl ⟨by rw [← g4] at g1; exact Int32.lt_trans g1 c, by omega, by omega, rfl⟩⟩
          · have c2 : gmk f n i < pg f (4 * n + i) 3 := by
              rw [g3] at c
              rw [i_lt_i] at g1 c ⊢
              omega
            rw [if_pos ⟨e, c2⟩]
            exact ⟨_, rfl, hm, Or.inl ⟨by rw [← g3]; exact c, by omega, by omega, rfl⟩⟩
        · rw [if_neg (fun y => c y.2)]
          rcases h3 with ⟨g1, g2, g3, g4⟩ | ⟨g1, g2, g3, g4⟩
          · rw [if_neg (fun y => c (by rw [g4]; exact y.2))]
            exact ⟨_, rfl, h2, Or.inl ⟨g1, g2, by omega, g4⟩⟩
          · refine ⟨_, rfl, h2, Or.inr ⟨?_, g2, g3, g4⟩⟩
            split
            · rw [← g3]; exact c
            · exact g1
    · rw [if_neg (show ¬ (pg f (4 * n + i) 0 = 1 ∧ gmk f n i < pg f (4 * n + i) 3) from fun y => e y.1)]
      rcases ih with ⟨h1, h2, h3, h4⟩ | ⟨a, h1, h2, h3⟩
      · rw [h1]
        dsimp only
        rw [if_neg e]
        exact Or.inl ⟨rfl, h2, h3, h4⟩
      · rw [h1]
        dsimp only
        rw [if_neg (fun y => e y.1)]
        refine Or.inr ⟨a, rfl, h2, ?_⟩
        rcases h3 with ⟨g1, g2, g3, g4⟩ | g
        · exact Or.inl ⟨g1, g2, by omega, g4⟩
        · exact Or.inr g
theorem rz_mp (h : Rz z f) {a : Nat} (ha : a < 32) (h1 : pg f a 0 = 1) : 0 < pg f a 3 ∧ pg f a 3 < z.2.1 4 := by
  have e := (rz_pg h ha).symm.trans h1
  rw [(rz_rec h ha e).2.2]
  exact h.1.2.2.1.1 a ha e
theorem sw_out (h : Rz z f) : ∀ {n : Nat}, n ≤ 8 → (nwa f (4 * n) = none ∧ swG (z.2.2 0) (z.2.2 3) n = 0 ∧ swB (z.2.2 0) (z.2.2 3) n = none) ∨ ∃ a, nwa f (4 * n) = some a ∧ a < 4 * n ∧ swG (z.2.2 0) (z.2.2 3) n = pg f a 3 ∧ swB (z.2.2 0) (z.2.2 3) n = some (a / 4) ∧ 0 < swG (z.2.2 0) (z.2.2 3) n
  | 0, _ => Or.inl ⟨rfl, rfl, rfl⟩
  | n + 1, hn => by
    have ih := sw_out h (n := n) (by omega)
    have hi := sw_in (fun a ha h1 => (rz_mp h ha h1).1) (show n < 8 by omega) ih (i := 4) (Nat.le_refl _)
    rw [swG, swB, rz_gmV h (show n < 8 by omega), show 4 * (n + 1) = 4 * n + 4 by omega]
    rcases hi with ⟨h1, h2, h3, h4⟩ | ⟨a, h1, h2, h3⟩
    · rw [h4, h2, if_neg Int32.lt_irrefl, if_neg Int32.lt_irrefl]
      exact Or.inl ⟨h1, rfl, h3⟩
    · refine Or.inr ⟨a, h1, ?_⟩
      rcases h3 with ⟨g1, g2, g3, g4⟩ | ⟨g1, g2, g3, g4⟩
      · rw [if_pos g1, if_pos g1]
        exact ⟨g3, g4.symm, by rw [show a / 4 = n by omega], by rw [← g4]; exact h2⟩
      · rw [if_neg g1, if_neg g1]
        exact ⟨by omega, g3.symm, g4, by rw [← g3]; exact h2⟩
/-- the number of the greatest mark -/
theorem rz_gn (h : Rz z f) : ∃ j, j < nmN_ z ∧ swG (z.2.2 0) (z.2.2 3) z.1.2 = nI j ∧ ∀ a, a < 32 → z.2.2 0 a = 1 → ¬ nI j < z.2.2 3 a := by
  have hB := inv_B h.1
  obtain ⟨n1, n2, n3⟩ := nm_le h.1
  rcases sw_out h (n := z.1.2) hB with ⟨h1, h2, h3⟩ | ⟨a, h1, h2, h3, h4, h5⟩
  · refine ⟨0, n3, h2, fun a ha e => ?_⟩
    by_cases c : a < 4 * z.1.2
    · exact absurd ((rz_pg h ha).trans e) (nwa_max.nwa_none h1 a c)
    · rw [h.1.1.2.2 a ha (by omega)] at e
      exact absurd e (by decide)
  · obtain ⟨g1, g2⟩ := nwa_max h1
    obtain ⟨m1, m2⟩ := rz_mp h (show a < 32 by omega) g1
    rw [n2] at m2
    obtain ⟨e, hk⟩ := num0 (x := pg f a 3) (k := nmN_ z) (by omega) (i_irr m1) m2
    refine ⟨_, hk, h3.trans e, fun b hb eb => ?_⟩
    rw [← e]
    by_cases c : b < 4 * z.1.2
    · rw [← (rz_rec h hb eb).2.2]
      exact g2 b c ((rz_pg h hb).trans eb)
    · rw [h.1.1.2.2 b hb (by omega)] at eb
      exact absurd eb (by decide)
theorem pg_puG {a w : Nat} : pg (puG f) a w = pg f a w := by
  unfold pg puG
  rw [pk_un (by omega), pk_un (by omega)]
theorem pg_puH {g : Nat → Int32} {o : Option Nat} {a w : Nat} : pg (puH g o) a w = pg g a w := puH_k (by omega)
theorem puG_k {k : Nat} (h2 : k ≠ 2) (h3 : k ≠ 3) : puG f k = f k := by
  unfold puG
  rw [pk_un h3, pk_un h2]
theorem lft_same {f g : Nat → Int32} {b : Nat} (h : ∀ a w, pg f a w = pg g a w) : lft f b = lft g b := by
  unfold lft
  rw [h, h, h, h]
theorem pu_k (h : Rz z f) {k : Nat} : puR f z.1.2 k = if k = 2 then 1 else if k = 3 then opS (z.2.2 7) (z.2.2 0) (z.2.2 3) z.1.2 else if k = 4 then swG (z.2.2 0) (z.2.2 3) z.1.2 + 1 else f k := by
  have hB := inv_B h.1
  have hsame : nwa (puG f) (4 * z.1.2) = nwa f (4 * z.1.2) := nwa_same (fun a w => pg_puG)
  have p2 : ∀ o, puH (puG f) o 2 = 1 := fun o => by
    rw [puH_k (by decide), puG, pk_un (by decide), pk_us]
  unfold puR opS
  rw [hsame]
  rcases sw_out h (n := z.1.2) hB with ⟨h1, h2, h3⟩ | ⟨a, h1, h2, h3, h4, h5⟩
  · rw [h1, h2, h3]
    dsimp only
    rw [if_neg (show ¬ (0 : Int32) < at_ (z.2.2 7) 8 0 (oI none) from by rw [show oI none = -9 from rfl, at_n]; exact Int32.lt_irrefl)]
    by_cases c2 : k = 2
    · subst c2; rw [if_pos rfl, p2]
    · rw [if_neg c2]
      by_cases c3 : k = 3
      · subst c3; rw [if_pos rfl, puH_3]
      · rw [if_neg c3]
        by_cases c4 : k = 4
        · subst c4; rw [if_pos rfl]; exact pk_us
        · rw [if_neg c4, puH_k c4, puG_k c2 c3]
  · have hab : a / 4 < 8 := by omega
    have ea : at_ (z.2.2 7) 8 0 (oI (some (a / 4))) = nI (frN_ z (a / 4)) := by
      rw [show oI (some (a / 4)) = nI (a / 4) from rfl, at_8 hab]
      exact (inv_fr h.1 hab).2.1
    have el : lft (puH (puG f) (some a)) (a / 4) = frN_ z (a / 4) := by
      rw [← rz_lft h hab]
      exact lft_same (fun a w => pg_puH.trans pg_puG)
    have hf4 := (inv_fr h.1 hab).1
    have ec : (0 : Int32) < nI (frN_ z (a / 4)) ↔ 0 < frN_ z (a / 4) := by
      rw [show (0 : Int32) = nI 0 from rfl]
      exact nI_ltI (by decide) (by omega)
    rw [h1, h3, h4, ea]
    dsimp only
    rw [el, ite_iff ec]
    have p4 : puH (puG f) (some a) 4 = pg f a 3 + 1 := by
      rw [show puH (puG f) (some a) 4 = pg (puG f) a 3 + 1 from pk_us, pg_puG]
    by_cases c : 0 < frN_ z (a / 4)
    · rw [if_pos c, if_pos c]
      by_cases c3 : k = 3
      · subst c3
        rw [pk_us, if_neg (by decide), if_pos rfl]
        rfl
      · rw [pk_un c3, if_neg c3]
        by_cases c2 : k = 2
        · subst c2; rw [if_pos rfl, p2]
        · rw [if_neg c2]
          by_cases c4 : k = 4
          · subst c4; rw [if_pos rfl, p4]
          · rw [if_neg c4, puH_k c4, puG_k c2 c3]
    · rw [if_neg c, if_neg c]
      by_cases c3 : k = 3
      · subst c3
        rw [puH_3, if_neg (by decide), if_pos rfl]
      · rw [if_neg c3]
        by_cases c2 : k = 2
        · subst c2; rw [if_pos rfl, p2]
        · rw [if_neg c2]
          by_cases c4 : k = 4
          · subst c4; rw [if_pos rfl, p4]
          · rw [if_neg c4, puH_k c4, puG_k c2 c3]
theorem inv_sw_off (h : Inv z) (hoff : ¬ z.1.1 = true) : Inv (zSw z) := by
  have hz : Rz z (zr z) := ⟨h, sim_rf _⟩
  obtain ⟨n1, n2, n3⟩ := nm_le h
  obtain ⟨j, hj, hg, hmx⟩ := rz_gn hz
  have hB := inv_B h
  have es : zSw z = ((true, z.1.2), upd (upd z.2.1 3 (opS (z.2.2 7) (z.2.2 0) (z.2.2 3) z.1.2)) 4 (swG (z.2.2 0) (z.2.2 3) z.1.2 + 1), z.2.2) := if_neg hoff
  have N0 : (zSw z).2.1 0 = z.2.1 0 := by rw [es]; rfl
  have N1 : (zSw z).2.1 1 = z.2.1 1 := by rw [es]; rfl
  have N2 : (zSw z).2.1 2 = z.2.1 2 := by rw [es]; rfl
  have N3 : (zSw z).2.1 3 = opS (z.2.2 7) (z.2.2 0) (z.2.2 3) z.1.2 := by rw [es]; rfl
  have N4 : (zSw z).2.1 4 = nI (j + 1) := by rw [es, ← nI_1, ← hg]; rfl
  have hp : (zSw z).2.2 = z.2.2 := by rw [es]
  have hB2 : (zSw z).1.2 = z.1.2 := by rw [es]
  have h11 : (zSw z).1.1 = true := by rw [es]
  have hps : ∀ j w, w < 4 → pg (zr (zSw z)) j w = pg (zr z) j w := fun j w hw => by rw [zr_pg hw, zr_pg hw, hp]
  have nw : ∀ key n, nwst (zr (zSw z)) key n = nwst (zr z) key n := fun key n => nwst_same (fun j _ => by
    rw [hps j 0 (by decide), hps j 1 (by decide), hps j 3 (by decide)]
    exact ⟨Iff.rfl, fun _ => ⟨rfl, rfl⟩⟩)
  have ct : ∀ key n, cnt (zr (zSw z)) key n = cnt (zr z) key n := fun key n => cnt_same (fun j _ => by
    rw [hps j 0 (by decide), hps j 1 (by decide)]
    exact ⟨Iff.rfl, fun _ => rfl⟩)
  have su : ∀ n, suW (zSw z) n = suW z n := fun n => suW_c (fun b _ => by
    unfold weN_ frN_
    rw [hp]
    exact ⟨rfl, rfl⟩)
  refine ⟨?_, ?_, ⟨?_, ?_⟩, ?_, ?_, ?_, ?_, ?_, ?_, ?_, ?_, ?_⟩
  · unfold iK; rw [hp, hB2]; exact h.1
  · unfold iY; rw [hp]; exact h.2.1
  · intro a ha ha1
    rw [hp] at ha1 ⊢
    obtain ⟨g1, g2⟩ := h.2.2.1.1 a ha ha1
    refine ⟨g1, ?_⟩
    have g3 := hmx a ha ha1
    rw [N4]
    rw [i_n_lt (by omega)] at g3
    rw [i_lt_n (by omega)]
    omega
  · intro a b ha hb
    rw [hp]
    exact h.2.2.1.2 a b ha hb
  · intro k hk; rw [hp, nw]; exact h.2.2.2.1 k hk
  · intro a ha
    rw [hp, h.2.2.2.2.1 a ha]
    refine bI_congr ?_
    unfold livP
    rw [hps a 0 (by decide), hps a 1 (by decide), hps a 2 (by decide), nw, ct]
  · unfold iFr frN_; rw [hp]; exact h.2.2.2.2.2.1
  · unfold iWe liN_; rw [hp, N2]; exact h.2.2.2.2.2.2.1
  · unfold iOp
    rw [N3, h11, hB2]
    unfold opS
    split
    · rename_i hc
      refine Or.inr ⟨rfl, ?_⟩
      rcases sw_out hz (n := z.1.2) hB with ⟨h1, h2, h3⟩ | ⟨a, h1, h2, h3, h4, h5⟩
      · rw [h3, show oI none = -9 from rfl, at_n] at hc
        exact absurd hc Int32.lt_irrefl
      · rw [h4]
        exact ⟨a / 4, by omega, rfl⟩
    · exact Or.inl rfl
  · unfold iPo; rw [N0]; exact h.2.2.2.2.2.2.2.2.1
  · unfold iCu; rw [N1]; exact h.2.2.2.2.2.2.2.2.2.1
  · rw [N4, su]
    have := h.2.2.2.2.2.2.2.2.2.2.1.2
    have h7 : nmN_ z ≤ 1 + suW z 8 := this
    exact isN_of (by omega) (by have := suW_le h (n := 8) (Nat.le_refl _); omega)
  · unfold nmN_; rw [N4, nI_clamp (by omega)]; omega
theorem inv_zSw' (h : Inv z) : Inv (zSw z) := by
  by_cases c : z.1.1 = true
  · rw [zSw_on c]; exact h
  · exact inv_sw_off h c
theorem rz_zSw (h : Rz z f) (hoff : ¬ z.1.1 = true) : Rz (zSw z) (puR f z.1.2) := by
  have es : zSw z = ((true, z.1.2), upd (upd z.2.1 3 (opS (z.2.2 7) (z.2.2 0) (z.2.2 3) z.1.2)) 4 (swG (z.2.2 0) (z.2.2 3) z.1.2 + 1), z.2.2) := if_neg hoff
  refine ⟨inv_sw_off h.1 hoff, fun j hj => ?_, fun j hj => ?_⟩
  · rw [pu_k h, es]
    have ej := h.2.1 j hj
    rcases c23 hj with rfl | rfl | rfl | rfl | rfl | rfl | rfl | rfl | rfl | rfl | rfl | rfl | rfl | rfl | rfl | hj15
    iterate 15 (· first | rfl | exact ej)
    obtain ⟨i, rfl⟩ : ∃ i, j = 15 + i := ⟨j - 15, by omega⟩
    rw [if_neg (by omega), if_neg (by omega), if_neg (by omega), ej, zr_w (by omega), zr_w (by omega)]
  · have hr : ∀ w, pg (puR f z.1.2) j w = pg f j w := fun w => by
      unfold pg
      rw [pu_k h, if_neg (by omega), if_neg (by omega), if_neg (by omega)]
    rw [hr, hr, hr, hr, es]
    have := h.2.2 j hj
    rw [zr_pg (by decide), zr_pg (by decide), zr_pg (by decide), zr_pg (by decide)] at this ⊢
    exact this
end P10
