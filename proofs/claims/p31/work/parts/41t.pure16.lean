-- THE PURE PART: the text's commands, as both sides read them
section P17
variable {t : Nat → Int32} {n q : Nat}
theorem tw_f {a b : Int32} {p : Bool × Nat} (h : ¬ p.1 = true) : tw t n p a b = (false, p.2) := by
  unfold tw
  rw [dg_f h]
  exact dg_f (fun y => ft y)
theorem bp {p : Bool × Nat} (h : p.1 = true) : p = (true, p.2) := by
  obtain ⟨a, b⟩ := p
  cases h
  rfl
theorem bn {p : Bool × Nat} (h : ¬ p.1 = true) : p = (false, p.2) := by
  obtain ⟨a, b⟩ := p
  cases a
  · rfl
  · exact absurd rfl h
theorem tri_r : dg t n (tw t n (true, q) 0 99) 0 9 = (rN t n 0 999 3 0 q).1 ∧ ((rN t n 0 999 3 0 q).1.1 = true → 10 * tv t n (true, q) 0 99 + dv t n (tw t n (true, q) 0 99) 0 9 = nI (rN t n 0 999 3 0 q).2) := by
  have hw : tw t n (true, q) 0 99 = (rN t n 0 99 2 0 q).1 ∧ ((rN t n 0 99 2 0 q).1.1 = true → tv t n (true, q) 0 99 = nI (rN t n 0 99 2 0 q).2) := tw_r (lo := 0) (hi := 99) (by decide) (by decide)
  obtain ⟨w1, w2⟩ := hw
  rw [w1]
  cases hd : dgt t n q with
  | none =>
    rw [rN_no hd, rN_no hd]
    exact ⟨dg_f (fun y => ft y), fun y => ft y⟩
  | some c =>
    obtain ⟨c9, -⟩ := dgt_s hd
    have g1 : rN t n 0 999 3 0 q = rN t n 0 999 2 (10 * 0 + c) (q + 1) := rN_go (m := 2) hd (by omega)
    have g2 : rN t n 0 99 2 0 q = rN t n 0 99 1 (10 * 0 + c) (q + 1) := rN_go (m := 1) hd (by omega)
    rw [g2] at w2
    rw [g1, g2]
    cases hd2 : dgt t n (q + 1) with
    | none =>
      rw [rN_no hd2, rN_no hd2]
      exact ⟨dg_f (fun y => ft y), fun y => ft y⟩
    | some d =>
      obtain ⟨d9, -⟩ := dgt_s hd2
      have g3 : rN t n 0 999 2 (10 * 0 + c) (q + 1) = rN t n 0 999 1 (10 * (10 * 0 + c) + d) (q + 1 + 1) := rN_go (m := 1) hd2 (by omega)
      have g4 : rN t n 0 99 1 (10 * 0 + c) (q + 1) = rN t n 0 99 0 (10 * (10 * 0 + c) + d) (q + 1 + 1) := rN_go (m := 0) hd2 (by omega)
      rw [g4] at w2
      have w2 : tv t n (true, q) 0 99 = nI (10 * (10 * 0 + c) + d) := w2 rfl
      rw [g3, g4, w2]
      show dg t n (true, q + 1 + 1) 0 9 = _ ∧ (_ → 10 * nI (10 * (10 * 0 + c) + d) + dv t n (true, q + 1 + 1) 0 9 = _)
      have hk : dg t n (true, q + 1 + 1) 0 9 = (rN t n 0 9 1 0 (q + 1 + 1)).1 ∧ dv t n (true, q + 1 + 1) 0 9 = if (rN t n 0 9 1 0 (q + 1 + 1)).1.1 = true then nI (rN t n 0 9 1 0 (q + 1 + 1)).2 else nI 0 := dg_r (lo := 0) (hi := 9) (by decide) (by decide)
      obtain ⟨k1, k2⟩ := hk
      rw [k1, k2]
      cases hd3 : dgt t n (q + 1 + 1) with
      | none =>
        rw [rN_no hd3, rN_no hd3]
        exact ⟨rfl, fun y => ft y⟩
      | some e =>
        obtain ⟨e9, -⟩ := dgt_s hd3
        rw [rN_go (m := 0) (lo := 0) (hi := 9) (r := 0) hd3 (by omega), rN_go (m := 0) (lo := 0) (hi := 999) (r := 10 * (10 * 0 + c) + d) hd3 (by omega)]
        refine ⟨rfl, fun _ => ?_⟩
        show 10 * nI (10 * (10 * 0 + c) + d) + (if true = true then nI (10 * 0 + e) else _) = nI (10 * (10 * (10 * 0 + c) + d) + e)
        rw [if_pos rfl, show (10 : Int32) = nI 10 from rfl, pk_mul, nI_add]
        congr 1
        omega
theorem nd {b : Bool} {v : Nat} (h : v < 2 ^ 31) : (!decide ((if b = true then nI v else (-9 : Int32)) = -9)) = b := by
  cases b
  · rfl
  · show (!decide (nI v = -9)) = true
    rw [decide_eq_false (show ¬ nI v = -9 from oI_ne h)]
    rfl
theorem rN_b {lo hi m r : Nat} (hm : 0 < m) : (rN t n lo hi m r q).1.1 = true → (rN t n lo hi m r q).2 ≤ hi := fun h => (rN_v (Or.inr hm) h).2
theorem rN_2 {lo hi m r : Nat} (hh : hi ≤ 999) (hm : 0 < m) : (rN t n lo hi m r q).2 < 2 ^ 31 := by
  by_cases h : (rN t n lo hi m r q).1.1 = true
  · have := rN_b hm h
    omega
  · have : ∀ {m r q : Nat}, 0 < m → ¬ (rN t n lo hi m r q).1.1 = true → (rN t n lo hi m r q).2 = 0 := by
      intro m
      induction m with
      | zero => intro r q h; exact absurd h (Nat.lt_irrefl _)
      | succ m ih =>
        intro r q _ h
        cases hd : dgt t n q with
        | none => rw [rN_no hd]
        | some c =>
          by_cases hc : hi < (10 * r + c) * 10 ^ m ∨ (10 * r + c) * 10 ^ m + 10 ^ m - 1 < lo
          · rw [rN_bad hd hc]
          · rw [rN_go hd hc] at h ⊢
            cases m with
            | zero => exact absurd rfl h
            | succ m => exact ih (Nat.succ_pos _) h
    rw [this hm h]
    decide
theorem rcN_1 {ky : Int32} : rcN t n q 1 ky = ((rN t n 0 999 3 0 q).1, (1, ky, if (rN t n 0 999 3 0 q).1.1 = true then nI (rN t n 0 999 3 0 q).2 else -9)) := by
  have e : rdV t n q 3 0 999 = _ := rdV_r (lo := 0) (hi := 999) (by decide) (by decide) (by decide)
  rw [rcN, if_pos rfl, e, nd (rN_2 (by decide) (by decide))]
theorem rcN_4 {ky : Int32} : rcN t n q 4 ky = ((rN t n 0 99 2 0 q).1, (4, ky, if (rN t n 0 99 2 0 q).1.1 = true then nI (rN t n 0 99 2 0 q).2 else -9)) := by
  have e : rdV t n q 2 0 99 = _ := rdV_r (lo := 0) (hi := 99) (by decide) (by decide) (by decide)
  rw [rcN, if_neg (by decide), if_pos rfl, e, nd (rN_2 (by decide) (by decide))]
theorem rcN_9 {ky : Int32} : rcN t n q 9 ky = ((rN t n 0 2 1 0 q).1, (9, ky, if (rN t n 0 2 1 0 q).1.1 = true then nI (rN t n 0 2 1 0 q).2 else -9)) := by
  have e : rdV t n q 1 0 2 = _ := rdV_r (lo := 0) (hi := 2) (by decide) (by decide) (by decide)
  rw [rcN, if_neg (by decide), if_neg (by decide), if_pos rfl, e, nd (rN_2 (by decide) (by decide))]
theorem rcN_o {c ky : Int32} (h1 : ¬ c = 1) (h4 : ¬ c = 4) (h9 : ¬ c = 9) : rcN t n q c ky = ((true, q), (c, ky, 0)) := by
  rw [rcN, if_neg h1, if_neg h4, if_neg h9]
/-- a command is read -/
def CR (t : Nat → Int32) (n q : Nat) (c k x : Nat) : Prop :=
  (t q = 112 ∧ c = 1 ∧ cmK t n (true, q) = nI k ∧ cmV t n (true, q) = nI x) ∨ (t q = 100 ∧ c = 2 ∧ cmK t n (true, q) = nI k ∧ x = 0) ∨ (t q = 99 ∧ c = 4 ∧ cmN t n (true, q) = nI x ∧ x ≤ 99) ∨ (t q = 113 ∧ c = 9 ∧ cmQ t n (true, q) = nI x ∧ x ≤ 2) ∨ (t q = 119 ∧ c = 3) ∨ (t q = 115 ∧ c = 5)
theorem cmd_r (hq : q < n) (ky nu : Int32) : (rcF t n q ky nu).1 = cm t n (true, q) ∧ ((cm t n (true, q)).1 = true → q < (cm t n (true, q)).2 ∧ (cm t n (true, q)).2 ≤ n ∧ ∃ c k x : Nat, (rcF t n q ky nu).2 = (nI c, nI k, nI x) ∧ 1 ≤ c ∧ c ≤ 9 ∧ k < 16 ∧ x ≤ 999 ∧ CR t n q c k x) := by
  have ecr : crV t n q = t q := if_pos hq
  have nx : ∀ c, nxtP t n q c ↔ t q = c := fun c => ⟨fun y => y.2, fun y => ⟨hq, y⟩⟩
  have hk15 : rdV t n (q + 1) 2 0 15 = (if (rN t n 0 15 2 0 (q + 1)).1.1 = true then nI (rN t n 0 15 2 0 (q + 1)).2 else -9, (rN t n 0 15 2 0 (q + 1)).1.2) := rdV_r (lo := 0) (hi := 15) (by decide) (by decide) (by decide)
  have hw15 : tw t n (true, q + 1) 0 15 = (rN t n 0 15 2 0 (q + 1)).1 ∧ ((rN t n 0 15 2 0 (q + 1)).1.1 = true → tv t n (true, q + 1) 0 15 = nI (rN t n 0 15 2 0 (q + 1)).2) := tw_r (lo := 0) (hi := 15) (by decide) (by decide)
  have hw99 : tw t n (true, q + 1) 0 99 = (rN t n 0 99 2 0 (q + 1)).1 ∧ ((rN t n 0 99 2 0 (q + 1)).1.1 = true → tv t n (true, q + 1) 0 99 = nI (rN t n 0 99 2 0 (q + 1)).2) := tw_r (lo := 0) (hi := 99) (by decide) (by decide)
  have hd2 : dg t n (true, q + 1) 0 2 = (rN t n 0 2 1 0 (q + 1)).1 ∧ dv t n (true, q + 1) 0 2 = if (rN t n 0 2 1 0 (q + 1)).1.1 = true then nI (rN t n 0 2 1 0 (q + 1)).2 else nI 0 := dg_r (lo := 0) (hi := 2) (by decide) (by decide)
  obtain ⟨l15, m15, s15⟩ := rN_le (t := t) (n := n) (lo := 0) (hi := 15) (m := 2) (r := 0) (q := q + 1)
  have a1 : ac (true, q) true = (true, q + 1) := rfl
  unfold CR cmK cmV cmN cmQ
  rw [a1]
  rcases co6 (t q) with e | e | e | e | e | e | ⟨e1, e2, e3, e4, e5, e6⟩
  · -- 99
    obtain ⟨l, m, s⟩ := rN_le (t := t) (n := n) (lo := 0) (hi := 99) (m := 2) (r := 0) (q := q + 1)
    rw [cm_c (by rw [nx, e]; decide) (by rw [nx, e]; decide) (by rw [nx, e]), a1, hw99.1, rcF, ecr, e, show coF 99 = 4 from rfl, if_neg (by decide), if_neg (by decide), rcN_4]
    refine ⟨rfl, fun h => ⟨by omega, m (by omega), 4, 0, (rN t n 0 99 2 0 (q + 1)).2, ?_, by decide, by decide, by decide, ?_, Or.inr (Or.inr (Or.inl ⟨rfl, rfl, hw99.2 h, rN_b (by decide) h⟩))⟩⟩
    · rw [if_pos h]; rfl
    · have := rN_b (hi := 99) (m := 2) (by decide) h; omega
  · -- 100
    rw [cm_d (by rw [nx, e]; decide) (by rw [nx, e]), a1, hw15.1, rcF, ecr, e, show coF 100 = 2 from rfl, if_neg (by decide), if_pos (Or.inr rfl), hk15]
    by_cases h : (rN t n 0 15 2 0 (q + 1)).1.1 = true
    · have hb := rN_b (hi := 15) (m := 2) (by decide) h
      rw [if_pos h]
      dsimp only
      rw [if_neg (show ¬ nI (rN t n 0 15 2 0 (q + 1)).2 = -9 from oI_ne (by omega)), rcN_o (by decide) (by decide) (by decide)]
      exact ⟨(bp h).symm, fun _ => ⟨by omega, m15 (by omega), 2, (rN t n 0 15 2 0 (q + 1)).2, 0, rfl, by decide, by decide, by omega, by decide, Or.inr (Or.inl ⟨rfl, rfl, hw15.2 h, rfl⟩)⟩⟩
    · rw [if_neg h]
      dsimp only
      rw [if_pos rfl]
      exact ⟨(bn h).symm, fun y => absurd y h⟩
  · -- 112
    have h3 := fun q => tri_r (t := t) (n := n) (q := q)
    rw [cm_p (by rw [nx, e]), a1, hw15.1, rcF, ecr, e, show coF 112 = 1 from rfl, if_neg (by decide), if_pos (Or.inl rfl), hk15]
    by_cases h : (rN t n 0 15 2 0 (q + 1)).1.1 = true
    · have hb := rN_b (hi := 15) (m := 2) (by decide) h
      obtain ⟨p9, hp9⟩ : ∃ p9, (rN t n 0 15 2 0 (q + 1)).1.2 = p9 := ⟨_, rfl⟩
      have h4 := s15 h
      rw [if_pos h, bp h, hp9]
      dsimp only
      rw [if_neg (show ¬ nI (rN t n 0 15 2 0 (q + 1)).2 = -9 from oI_ne (by omega)), rcN_1, (h3 p9).1]
      obtain ⟨l, m, s⟩ := rN_le (t := t) (n := n) (lo := 0) (hi := 999) (m := 3) (r := 0) (q := p9)
      refine ⟨rfl, fun y => ⟨by omega, m (by rw [← hp9]; exact m15 (by omega)), 1, (rN t n 0 15 2 0 (q + 1)).2, (rN t n 0 999 3 0 p9).2, ?_, by decide, by decide, by omega, rN_b (by decide) y, Or.inl ⟨rfl, rfl, hw15.2 h, (h3 p9).2 y⟩⟩⟩
      rw [if_pos y]; rfl
    · rw [if_neg h, tw_f h]
      dsimp only
      rw [if_pos rfl, dg_f (fun y => ft y)]
      exact ⟨rfl, fun y => ft y⟩
  · -- 113
    obtain ⟨l, m, s⟩ := rN_le (t := t) (n := n) (lo := 0) (hi := 2) (m := 1) (r := 0) (q := q + 1)
    rw [cm_q (by rw [nx, e]; decide) (by rw [nx, e]; decide) (by rw [nx, e]; decide) (by rw [nx, e]), a1, hd2.1, rcF, ecr, e, show coF 113 = 9 from rfl, if_neg (by decide), if_neg (by decide), rcN_9]
    refine ⟨rfl, fun h => ⟨by omega, m (by omega), 9, 0, (rN t n 0 2 1 0 (q + 1)).2, ?_, by decide, by decide, by decide, ?_, Or.inr (Or.inr (Or.inr (Or.inl ⟨rfl, rfl, ?_, rN_b (by decide) h⟩)))⟩⟩
    · rw [if_pos h]; rfl
    · have := rN_b (hi := 2) (m := 1) (by decide) h; omega
    · rw [hd2.2, if_pos h]
  · -- 115
    rw [rcF, ecr, e, show coF 115 = 5 from rfl, if_neg (by decide), if_neg (by decide), rcN_o (by decide) (by decide) (by decide), cm_w (by rw [nx, e]; decide) (by rw [nx, e]; decide) (by rw [nx, e]; decide) (by rw [nx, e]; decide)]
    have : (decide (nxtP t n q 119) || decide (nxtP t n q 115)) = true := by rw [decide_eq_true ((nx 115).mpr e), Bool.or_true]
    rw [show (decide (nxtP t n (true, q).2 119) || decide (nxtP t n (true, q).2 115)) = true from this]
    exact ⟨rfl, fun _ => ⟨Nat.lt_succ_self _, hq, 5, 0, 0, rfl, by decide, by decide, by decide, by decide, Or.inr (Or.inr (Or.inr (Or.inr (Or.inr ⟨rfl, rfl⟩))))⟩⟩
  · -- 119
    rw [rcF, ecr, e, show coF 119 = 3 from rfl, if_neg (by decide), if_neg (by decide), rcN_o (by decide) (by decide) (by decide), cm_w (by rw [nx, e]; decide) (by rw [nx, e]; decide) (by rw [nx, e]; decide) (by rw [nx, e]; decide)]
    have : (decide (nxtP t n q 119) || decide (nxtP t n q 115)) = true := by rw [decide_eq_true ((nx 119).mpr e), Bool.true_or]
    rw [show (decide (nxtP t n (true, q).2 119) || decide (nxtP t n (true, q).2 115)) = true from this]
    exact ⟨rfl, fun _ => ⟨Nat.lt_succ_self _, hq, 3, 0, 0, rfl, by decide, by decide, by decide, by decide, Or.inr (Or.inr (Or.inr (Or.inr (Or.inl ⟨rfl, rfl⟩))))⟩⟩
  · have ec : coF (t q) = -9 := by
      rw [coF, if_neg e3, if_neg e2, if_neg e6, if_neg e1, if_neg e5, if_neg e4]
    rw [cm_w (by rw [nx]; exact e3) (by rw [nx]; exact e2) (by rw [nx]; exact e1) (by rw [nx]; exact e4), rcF, ecr, ec, if_pos rfl]
    have : (decide (nxtP t n q 119) || decide (nxtP t n q 115)) = false := by rw [decide_eq_false (fun y => e6 ((nx 119).mp y)), decide_eq_false (fun y => e5 ((nx 115).mp y))]; rfl
    rw [show (decide (nxtP t n (true, q).2 119) || decide (nxtP t n (true, q).2 115)) = false from this]
    exact ⟨rfl, fun y => ft y⟩
end P17
