-- THE PURE PART: a block is erased
theorem k4_at {F : Nat → Int32} {b : Nat} {x : Int32} {j : Nat} : ∀ {n : Nat}, k4 F b x n j = if 4 * b ≤ j ∧ j < 4 * b + n then x else F j
  | 0 => by rw [if_neg (by omega)]; rfl
  | n + 1 => by
    rw [k4]
    by_cases e : j = 4 * b + n
    · subst e
      rw [pk_us, if_pos (by omega)]
    · rw [pk_un e, k4_at (n := n)]
      by_cases c : 4 * b ≤ j ∧ j < 4 * b + n
      · rw [if_pos c, if_pos (by omega)]
      · rw [if_neg c, if_neg (by omega)]
theorem oI_in {o : Option Nat} {k : Nat} (h : ∀ a, o = some a → a < k) (hk : k < 2 ^ 31) : inN (oI o) (nI k) ↔ o ≠ none := by
  cases o with
  | none => exact ⟨fun y => absurd y.1 (by decide), fun y => absurd rfl y⟩
  | some a =>
    have := h a rfl
    exact ⟨fun _ => by simp, fun _ => ⟨nI_pos (by omega), nI_lt this hk⟩⟩
section P7
variable {g : Nat → Int32} {kd ky vl mk : Nat → Int32}
/-- newest, as findRecords finds it -/
theorem frN_ok (h0 : ∀ a, a < 32 → pg g a 0 = kd a) (h1 : ∀ a, a < 32 → kd a = 1 → pg g a 1 = ky a ∧ pg g a 3 = mk a ∧ inN (ky a) 16) {k : Nat} (hk : k < 16) : ∀ {n : Nat}, n ≤ 32 → frN kd ky mk n k = oI (nwst g (nI k) n)
  | 0, _ => rfl
  | n + 1, hn => by
    have ih := fun (i : Nat) (hi : i < 16) => frN_ok h0 h1 hi (n := n) (by omega)
    have e0 := h0 n (by omega)
    rw [frN, nwst]
    by_cases e : kd n = 1
    · obtain ⟨e1, e3, hin⟩ := h1 n (by omega) e
      obtain ⟨ek, hk0⟩ := num_in (x := ky n) (j := 16) (by decide) hin
      have ihk := ih (ky n).toNatClampNeg hk0
      have hlt : ∀ a, nwst g (nI (ky n).toNatClampNeg) n = some a → a < 32 := fun a ha => by have := nwst_lt ha; omega
      by_cases ekk : (ky n).toNatClampNeg = k
      · rw [ekk] at ihk hlt ek
        rw [ekk, ihk]
        cases ho : nwst g (nI k) n with
        | none =>
          dsimp only
          rw [if_pos ⟨e, hin, fun y => absurd y.1 (by decide)⟩, pk_us, if_pos ⟨e0.trans e, e1.trans ek⟩]
          rfl
        | some o =>
          have hol := hlt o ho
          have how := nwst_wr ho
          have eo : (oI (some o)).toNatClampNeg = o := nI_clamp (by omega)
          have em : mk o = pg g o 3 := ((h1 o hol (by rw [← h0 o hol]; exact how.1)).2.1).symm
          dsimp only
          rw [eo]
          by_cases c : mk o < mk n
          · rw [if_pos ⟨e, hin, fun _ => c⟩, pk_us, if_pos ⟨e0.trans e, e1.trans ek, by rw [← em, e3]; exact c⟩]
            rfl
          · rw [if_neg (fun y => c (y.2.2 ⟨nI_pos (by omega), nI_lt (show o < 32 by omega) (by decide)⟩)), if_neg (fun y => c (by have := y.2.2; rw [← em, e3] at this; exact this)), ih k hk, ho]
      · have hne : ¬ pg g n 1 = nI k := fun y => ekk ((nI_eq (by omega) (by omega)).mp (ek.symm.trans (e1.symm.trans y)))
        refine Eq.trans (b := frN kd ky mk n k) ?_ ?_
        · split
          · exact pk_un (Ne.symm ekk)
          · rfl
        · rw [ih k hk]
          cases nwst g (nI k) n with
          | none => dsimp only; rw [if_neg (fun y => hne y.2)]
          | some o => dsimp only; rw [if_neg (fun y => hne y.2.1)]
    · have e2 : ¬ pg g n 0 = 1 := fun y => e (e0.symm.trans y)
      rw [if_neg (fun y => e y.1), ih k hk]
      cases nwst g (nI k) n with
      | none => dsimp only; rw [if_neg (fun y => e2 y.1)]
      | some o => dsimp only; rw [if_neg (fun y => e2 y.1)]
/-- what makes a page live -/
def lvE (g : Nat → Int32) (a n : Nat) : Prop := ∃ j, j < n ∧ pg g j 0 = 1 ∧ nwst g (pg g j 1) 32 = some a ∧ (j ≠ a ∨ ¬ pg g j 2 = -9)
theorem frV_ok {nw : Nat → Int32} (h0 : ∀ a, a < 32 → pg g a 0 = kd a) (h1 : ∀ a, a < 32 → kd a = 1 → pg g a 1 = ky a ∧ pg g a 2 = vl a ∧ inN (ky a) 16) (hnw : ∀ k, k < 16 → nw k = oI (nwst g (nI k) 32)) {a : Nat} (ha : a < 32) : ∀ {n : Nat}, n ≤ 32 → (frV kd ky vl nw n a = 1 ∧ lvE g a n) ∨ (frV kd ky vl nw n a = 0 ∧ ¬ lvE g a n)
  | 0, _ => Or.inr ⟨rfl, fun y => by obtain ⟨j, hj, -⟩ := y; exact absurd hj (Nat.not_lt_zero _)⟩
  | n + 1, hn => by
    have ih := frV_ok h0 h1 hnw ha (n := n) (by omega)
    have up : lvE g a n → lvE g a (n + 1) := fun y => by obtain ⟨j, hj, y⟩ := y; exact ⟨j, by omega, y⟩
    have dn : lvE g a (n + 1) → lvE g a n ∨ (pg g n 0 = 1 ∧ nwst g (pg g n 1) 32 = some a ∧ (n ≠ a ∨ ¬ pg g n 2 = -9)) := fun y => by
      obtain ⟨j, hj, y⟩ := y
      by_cases e : j = n
      · subst e; exact Or.inr y
      · exact Or.inl ⟨j, by omega, y⟩
    have keep : (¬ (pg g n 0 = 1 ∧ nwst g (pg g n 1) 32 = some a ∧ (n ≠ a ∨ ¬ pg g n 2 = -9))) → frV kd ky vl nw (n + 1) a = frV kd ky vl nw n a → (frV kd ky vl nw (n + 1) a = 1 ∧ lvE g a (n + 1)) ∨ (frV kd ky vl nw (n + 1) a = 0 ∧ ¬ lvE g a (n + 1)) := fun c e => by
      rw [e]
      rcases ih with ⟨i1, i2⟩ | ⟨i1, i2⟩
      · exact Or.inl ⟨i1, up i2⟩
      · exact Or.inr ⟨i1, fun y => (dn y).elim i2 c⟩
    have e0 := h0 n (by omega)
    by_cases e : kd n = 1
    · obtain ⟨e1, e2, hin⟩ := h1 n (by omega) e
      obtain ⟨ek, hk0⟩ := num_in (x := ky n) (j := 16) (by decide) hin
      have hn' := hnw _ hk0
      rw [← ek] at hn'
      cases ho : nwst g (ky n) 32 with
      | none =>
        refine keep (fun y => by rw [e1, ho] at y; cases y.2.1) ?_
        rw [frV, if_neg (fun y => by rw [hn', ho] at y; exact absurd y.2.2.1.1 (by decide))]
      | some o =>
        have hol := nwst_lt ho
        have eo : (nw (ky n).toNatClampNeg).toNatClampNeg = o := by rw [hn', ho]; exact nI_clamp (by omega)
        have hio : inN (nw (ky n).toNatClampNeg) 32 := by rw [hn', ho]; exact ⟨nI_pos (by omega), nI_lt (show o < 32 by omega) (by decide)⟩
        have hne : (¬ nI n = nw (ky n).toNatClampNeg) ↔ n ≠ o := by
          rw [hn', ho]
          exact not_congr (nI_eq (a := n) (b := o) (by omega) (by omega))
        by_cases c : n ≠ o ∨ ¬ vl n = -9
        · by_cases ea : a = o
          · subst ea
            refine Or.inl ⟨?_, n, Nat.lt_succ_self _, e0.trans e, by rw [e1]; exact ho, by rw [e2]; exact c⟩
            rw [frV, if_pos ⟨e, hin, hio, c.elim (fun y => Or.inl (hne.mpr y)) Or.inr⟩, eo, pk_us]
          · refine keep (fun y => ?_) ?_
            · rw [e1, ho] at y
              exact ea (Option.some.inj y.2.1).symm
            · rw [frV, if_pos ⟨e, hin, hio, c.elim (fun y => Or.inl (hne.mpr y)) Or.inr⟩, eo, pk_un ea]
        · refine keep (fun y => ?_) ?_
          · rw [e1, ho] at y
            have := Option.some.inj y.2.1
            subst this
            exact c (y.2.2.elim Or.inl (fun q => Or.inr (by rw [← e2]; exact q)))
          · rw [frV, if_neg (fun y => c (y.2.2.2.elim (fun q => Or.inl (hne.mp q)) Or.inr))]
    · exact keep (fun y => e (e0.symm.trans y.1)) (by rw [frV, if_neg (fun y => e y.1)])
theorem cnt_le2 {key : Int32} {a : Nat} : ∀ {n : Nat}, (∀ j, j < n → pg g j 0 = 1 → pg g j 1 = key → j = a) → cnt g key n ≤ if a < n then 1 else 0
  | 0, _ => Nat.zero_le _
  | n + 1, h => by
    have ih := cnt_le2 (n := n) (fun j hj => h j (by omega))
    rw [cnt]
    by_cases c : pg g n 0 = 1 ∧ pg g n 1 = key
    · have e := h n (Nat.lt_succ_self _) c.1 c.2
      subst e
      rw [if_neg (Nat.lt_irrefl _)] at ih
      rw [if_pos c, if_pos (Nat.lt_succ_self _)]
      omega
    · rw [if_neg c]
      by_cases ha : a < n
      · rw [if_pos ha] at ih
        rw [if_pos (by omega)]
        omega
      · rw [if_neg ha] at ih
        omega
theorem cnt_mono {key : Int32} {n : Nat} : ∀ {m : Nat}, n ≤ m → cnt g key n ≤ cnt g key m
  | 0, h => by rw [show n = 0 by omega]; exact Nat.le_refl _
  | m + 1, h => by
    by_cases e : n = m + 1
    · rw [e]; exact Nat.le_refl _
    · have := cnt_mono (key := key) (n := n) (m := m) (by omega)
      rw [cnt]
      omega
theorem cnt_two {key : Int32} {i j n : Nat} (hij : i < j) (hj : j < n) (h1 : pg g i 0 = 1 ∧ pg g i 1 = key) (h2 : pg g j 0 = 1 ∧ pg g j 1 = key) : 1 < cnt g key n := by
  have := cnt_pos h1 (n := j) hij
  have := cnt_mono (g := g) (key := key) (n := j + 1) (m := n) (by omega)
  rw [cnt, if_pos h2] at this
  omega
theorem lvE_liv {a : Nat} (ha : a < 32) : lvE g a 32 ↔ livP g 8 a := by
  constructor
  · intro y
    obtain ⟨j, hj, y1, y2, y3⟩ := y
    have hw := nwst_wr y2
    have hn : nwst g (pg g a 1) 32 = some a := by rw [hw.2]; exact y2
    refine ⟨hw.1, hn, ?_⟩
    by_cases e : j = a
    · subst e
      exact Or.inl (y3.elim (fun q => absurd rfl q) id)
    · refine Or.inr ?_
      show 1 < cnt g (pg g a 1) 32
      rcases Nat.lt_or_gt_of_ne e with q | q
      · exact cnt_two q ha ⟨y1, hw.2.symm⟩ ⟨hw.1, rfl⟩
      · exact cnt_two q hj ⟨hw.1, rfl⟩ ⟨y1, hw.2.symm⟩
  · intro y
    obtain ⟨y1, y2, y3⟩ := y
    rcases y3 with y3 | y3
    · exact ⟨a, ha, y1, y2, Or.inr y3⟩
    · by_cases c : ∃ j, j < 32 ∧ pg g j 0 = 1 ∧ pg g j 1 = pg g a 1 ∧ j ≠ a
      · obtain ⟨j, c1, c2, c3, c4⟩ := c
        exact ⟨j, c1, c2, by rw [c3]; exact y2, Or.inl c4⟩
      · exfalso
        have := cnt_le2 (g := g) (key := pg g a 1) (a := a) (n := 32) (fun j h1 h2 h3 => by
          by_cases e : j = a
          · exact e
          · exact absurd ⟨j, h1, h2, h3, e⟩ c)
        rw [if_pos ha] at this
        have y4 : 1 < cnt g (pg g a 1) 32 := y3
        omega
end P7
section P8
variable {z : LgS} {f : Nat → Int32}
theorem wp_F {F : Nat → Nat → Int32} {b : Nat} {x : Int32} : wpF F b x 0 = k4 (F 0) b x 4 ∧ wpF F b x 1 = F 1 ∧ wpF F b x 2 = F 2 ∧ wpF F b x 3 = F 3 ∧ wpF F b x 4 = upd (F 4) b (F 4 b + 1) ∧ wpF F b x 5 = lvR (k4 (F 0) b x 4) (F 1) (F 2) (F 3) ∧ wpF F b x 6 = nwR (k4 (F 0) b x 4) (F 1) (F 3) ∧ wpF F b x 7 = upd (F 7) b (if x = 0 then 4 else 0) := by
  unfold wpF
  refine ⟨?_, ?_, ?_, ?_, ?_, ?_, ?_, ?_⟩
  · rw [va_up_ne _ _ (by decide), va_up_ne _ _ (by decide), va_up_ne _ _ (by decide), va_up_ne _ _ (by decide), va_up_self]
  · rw [va_up_ne _ _ (by decide), va_up_ne _ _ (by decide), va_up_ne _ _ (by decide), va_up_ne _ _ (by decide), va_up_ne _ _ (by decide)]
  · rw [va_up_ne _ _ (by decide), va_up_ne _ _ (by decide), va_up_ne _ _ (by decide), va_up_ne _ _ (by decide), va_up_ne _ _ (by decide)]
  · rw [va_up_ne _ _ (by decide), va_up_ne _ _ (by decide), va_up_ne _ _ (by decide), va_up_ne _ _ (by decide), va_up_ne _ _ (by decide)]
  · rw [va_up_ne _ _ (by decide), va_up_ne _ _ (by decide), va_up_ne _ _ (by decide), va_up_self]
  · rw [va_up_ne _ _ (by decide), va_up_ne _ _ (by decide), va_up_self]
  · rw [va_up_ne _ _ (by decide), va_up_self]
  · rw [va_up_self]
theorem inv_wp (h : Inv z) {b : Nat} {x : Int32} (hx : x = 0 ∨ x = 2) (hb : b < z.1.2) (hw : weN_ z b < liN_ z) {z2 : LgS} (hp : z2.2.2 = wpF z.2.2 b x) (hB2 : z2.1.2 = z.1.2) (h2 : z2.2.1 2 = z.2.1 2) (h4 : z2.2.1 4 = z.2.1 4) (hO : iOp z2) (hPo : iPo z2) (hC : iCu z2) : Inv z2 := by
  have hB := inv_B h
  obtain ⟨F0, F1, F2, F3, F4, F5, F6, F7⟩ := wp_F (F := z.2.2) (b := b) (x := x)
  rw [← hp] at F0 F1 F2 F3 F4 F5 F6 F7
  have hx1 : ¬ x = 1 := by rcases hx with e | e <;> rw [e] <;> decide
  have hk : ∀ j, z2.2.2 0 j = if 4 * b ≤ j ∧ j < 4 * b + 4 then x else z.2.2 0 j := fun j => by rw [F0, k4_at]
  have hwr : ∀ j, z2.2.2 0 j = 1 → z.2.2 0 j = 1 := fun j hj => by
    rw [hk] at hj
    split at hj
    · exact absurd hj hx1
    · exact hj
  have hpz : ∀ a, a < 32 → pg (zr z2) a 0 = k4 (z.2.2 0) b x 4 a := fun a _ => by rw [zr_pg (by decide), F0]
  have hkey : ∀ a, a < 32 → k4 (z.2.2 0) b x 4 a = 1 → inN (z.2.2 1 a) 16 := fun a ha h1 => h.2.1 a ha (hwr a (by rw [F0]; exact h1))
  have hnw : ∀ k, k < 16 → z2.2.2 6 k = oI (nwst (zr z2) (nI k) 32) := fun k hk16 => by
    rw [F6]
    exact frN_ok hpz (fun a ha h1 => ⟨by rw [zr_pg (by decide), F1], by rw [zr_pg (by decide), F3], hkey a ha h1⟩) hk16 (Nat.le_refl _)
  have hwb : z.2.2 4 b = nI (weN_ z b) ∧ weN_ z b ≤ liN_ z := by
    obtain ⟨g1, g2⟩ := h.2.2.2.2.2.2.1.2.2 b (by omega)
    exact ⟨g1, g2⟩
  have hli : liN_ z ≤ 99 := h.2.2.2.2.2.2.1.1.2
  have hl2 : liN_ z2 = liN_ z := by unfold liN_; rw [h2]
  have e4 : z2.2.2 4 b = nI (weN_ z b + 1) := by rw [F4, pk_us, hwb.1, nI_1]
  have hfb : z2.2.2 7 b = nI (if x = 0 then 4 else 0) := by
    rw [F7, pk_us]
    split <;> rfl
  refine ⟨⟨⟨by rw [hB2]; exact h.1.1.1, by rw [hB2]; exact hB⟩, fun j hj => ?_, fun j hj hjB => ?_⟩, fun j hj hj1 => ?_, ⟨fun j hj hj1 => ?_, fun i j hi hj hi1 hj1 he => ?_⟩, hnw, fun j hj => ?_, fun j hj => ?_, ⟨by rw [h2]; exact h.2.2.2.2.2.2.1.1, by rw [hl2]; exact h.2.2.2.2.2.2.1.2.1, fun j hj => ?_⟩, hO, hPo, hC, ?_⟩
  · rw [hk]
    split
    · rcases hx with e | e
      · exact Or.inl e
      · exact Or.inr (Or.inr e)
    · exact h.1.2.1 j hj
  · rw [hB2] at hjB
    rw [hk, if_neg (by omega)]
    exact h.1.2.2 j hj hjB
  · rw [F1]; exact h.2.1 j hj (hwr j hj1)
  · rw [F3, h4]; exact h.2.2.1.1 j hj (hwr j hj1)
  · rw [F3] at he
    exact h.2.2.1.2 i j hi hj (hwr i hi1) (hwr j hj1) he
  · rw [F5]
    rcases frV_ok (g := zr z2) (nw := nwR (k4 (z.2.2 0) b x 4) (z.2.2 1) (z.2.2 3)) hpz (fun a ha h1 => ⟨by rw [zr_pg (by decide), F1], by rw [zr_pg (by decide), F2], hkey a ha h1⟩) (fun k hk16 => by rw [← F6]; exact hnw k hk16) hj (n := 32) (Nat.le_refl _) with ⟨e, y⟩ | ⟨e, y⟩
    · exact e.trans (bI_1 ((lvE_liv hj).mp y)).symm
    · exact e.trans (bI_0 (fun q => y ((lvE_liv hj).mpr q))).symm
  · by_cases e : j = b
    · subst e
      have hf : frN_ z2 j = if x = 0 then 4 else 0 := by unfold frN_; rw [hfb]; exact nI_clamp (by split <;> omega)
      refine ⟨by rw [hfb]; exact isN_of (by split <;> omega) (by decide), fun q hq => ?_⟩
      rw [hk, if_pos (by omega), hf]
      rcases hx with e | e <;> rw [e]
      · rw [if_pos rfl]; exact ⟨fun _ => by omega, fun _ => rfl⟩
      · rw [if_neg (by decide)]; exact ⟨fun y => absurd y (by decide), fun y => by omega⟩
    · obtain ⟨g1, g2⟩ := h.2.2.2.2.2.1 j hj
      have e7 : z2.2.2 7 j = z.2.2 7 j := by rw [F7, pk_un e]
      refine ⟨by rw [e7]; exact g1, fun q hq => ?_⟩
      rw [hk, if_neg (by omega), show frN_ z2 j = frN_ z j by unfold frN_; rw [e7]]
      exact g2 q hq
  · rw [hl2]
    by_cases e : j = b
    · subst e
      rw [e4]
      exact isN_of (by omega) (by omega)
    · rw [F4, pk_un e]
      exact h.2.2.2.2.2.2.1.2.2 j hj
  · have hsu : suW z 8 ≤ suW z2 8 := by
      have : ∀ n, n ≤ 8 → suW z n ≤ suW z2 n := by
        intro n
        induction n with
        | zero => intro _; exact Nat.le_refl _
        | succ n ih =>
          intro hn
          have i1 := ih (by omega)
          rw [suW, suW]
          by_cases e : n = b
          · subst e
            have : weN_ z2 n = weN_ z n + 1 := by
              show (z2.2.2 4 n).toNatClampNeg = _
              rw [e4]
              exact nI_clamp (by omega)
            omega
          · have e1 : weN_ z2 n = weN_ z n := by unfold weN_; rw [F4, pk_un e]
            have e2 : frN_ z2 n = frN_ z n := by unfold frN_; rw [F7, pk_un e]
            rw [e1, e2]
            omega
      exact this 8 (Nat.le_refl _)
    have hbd := h.2.2.2.2.2.2.2.2.2.2
    refine ⟨by rw [h4]; exact ⟨hbd.1.1, Nat.le_trans hbd.1.2 (by omega)⟩, ?_⟩
    unfold nmN_
    rw [h4]
    exact hbd.2
end P8
