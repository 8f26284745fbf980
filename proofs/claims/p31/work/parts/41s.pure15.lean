-- THE PURE PART: the text's numbers, as both sides read them
/-- the digit at a place -/
def dgt (t : Nat → Int32) (n q : Nat) : Option Nat := if 0 ≤ chv t n q ∧ chv t n q ≤ 9 then some (chv t n q).toNatClampNeg else none
section P16
variable {t : Nat → Int32} {n q : Nat}
theorem crV_chv (h : q < n) : crV t n q - 48 = chv t n q := by
  rw [crV, chv, if_pos h, if_pos h]
theorem dgt_s {c : Nat} (h : dgt t n q = some c) : c ≤ 9 ∧ chv t n q = nI c ∧ crV t n q - 48 = nI c ∧ q < n := by
  unfold dgt at h
  split at h
  · rename_i hc
    have hq := chv_in hc.1
    obtain ⟨j, hj, e⟩ := rng (n := 9) (by decide) hc
    have ec := Option.some.inj h
    rw [e, nI_clamp (by omega)] at ec
    subst ec
    exact ⟨hj, e, by rw [crV_chv hq, e], hq⟩
  · cases h
theorem dgt_n (h : dgt t n q = none) : (crV t n q - 48 < 0 ∨ 9 < crV t n q - 48) ∧ ¬ (0 ≤ chv t n q ∧ chv t n q ≤ 9) := by
  unfold dgt at h
  split at h
  · cases h
  · rename_i hc
    refine ⟨?_, hc⟩
    by_cases hq : q < n
    · rw [crV_chv hq]
      rw [Int32.le_iff_toInt_le, Int32.le_iff_toInt_le] at hc
      rw [i_lt_i, i_lt_i]
      omega
    · exact Or.inl (by rw [crV, if_neg hq]; decide)
/-- m digits more, of a number from lo to hi: whether, where, which -/
def rN (t : Nat → Int32) (n lo hi : Nat) : Nat → Nat → Nat → (Bool × Nat) × Nat
  | 0, r, q => ((true, q), r)
  | m + 1, r, q => match dgt t n q with
    | none => ((false, q), 0)
    | some c => if hi < (10 * r + c) * 10 ^ m ∨ (10 * r + c) * 10 ^ m + 10 ^ m - 1 < lo then ((false, q), 0) else rN t n lo hi m (10 * r + c) (q + 1)
theorem ft {P : Prop} (h : false = true) : P := by cases h
theorem rN_no {lo hi m r : Nat} (hd : dgt t n q = none) : rN t n lo hi (m + 1) r q = ((false, q), 0) := by rw [rN, hd]
theorem rN_bad {lo hi m r c : Nat} (hd : dgt t n q = some c) (hc : hi < (10 * r + c) * 10 ^ m ∨ (10 * r + c) * 10 ^ m + 10 ^ m - 1 < lo) : rN t n lo hi (m + 1) r q = ((false, q), 0) := by rw [rN, hd]; exact if_pos hc
theorem rN_go {lo hi m r c : Nat} (hd : dgt t n q = some c) (hc : ¬ (hi < (10 * r + c) * 10 ^ m ∨ (10 * r + c) * 10 ^ m + 10 ^ m - 1 < lo)) : rN t n lo hi (m + 1) r q = rN t n lo hi m (10 * r + c) (q + 1) := by rw [rN, hd]; exact if_neg hc
theorem rN_le {lo hi : Nat} : ∀ {m r q : Nat}, q ≤ (rN t n lo hi m r q).1.2 ∧ (q ≤ n → (rN t n lo hi m r q).1.2 ≤ n) ∧ ((rN t n lo hi m r q).1.1 = true → (rN t n lo hi m r q).1.2 = q + m)
  | 0, r, q => ⟨Nat.le_refl _, id, fun _ => rfl⟩
  | m + 1, r, q => by
    cases hd : dgt t n q with
    | none => rw [rN_no hd]; exact ⟨Nat.le_refl _, id, fun y => ft y⟩
    | some c =>
      have hq := (dgt_s hd).2.2.2
      by_cases hc : hi < (10 * r + c) * 10 ^ m ∨ (10 * r + c) * 10 ^ m + 10 ^ m - 1 < lo
      · rw [rN_bad hd hc]; exact ⟨Nat.le_refl _, id, fun y => ft y⟩
      · rw [rN_go hd hc]
        obtain ⟨g1, g2, g3⟩ := rN_le (lo := lo) (hi := hi) (m := m) (r := 10 * r + c) (q := q + 1)
        exact ⟨by omega, fun _ => g2 (by omega), fun y => by rw [g3 y]; omega⟩
theorem rN_v {lo hi : Nat} : ∀ {m r q : Nat}, (lo ≤ r ∧ r ≤ hi ∨ 0 < m) → (rN t n lo hi m r q).1.1 = true → lo ≤ (rN t n lo hi m r q).2 ∧ (rN t n lo hi m r q).2 ≤ hi
  | 0, r, q, h, _ => h.elim id (fun y => absurd y (Nat.lt_irrefl _))
  | m + 1, r, q, h, e => by
    cases hd : dgt t n q with
    | none => rw [rN_no hd] at e; exact ft e
    | some c =>
      by_cases hc : hi < (10 * r + c) * 10 ^ m ∨ (10 * r + c) * 10 ^ m + 10 ^ m - 1 < lo
      · rw [rN_bad hd hc] at e; exact ft e
      · rw [rN_go hd hc] at e ⊢
        refine rN_v ?_ e
        cases m with
        | zero =>
          rw [Nat.pow_zero] at hc
          exact Or.inl (by omega)
        | succ m => exact Or.inr (Nat.succ_pos _)
theorem rdN_r {lo hi : Nat} (hh : hi ≤ 999) (hl : lo ≤ 999) : ∀ {m r q : Nat}, m ≤ 3 → r * 10 ^ m ≤ 999 → rdN t n (nI lo) (nI hi) m (nI (10 ^ m)) (nI (10 * r)) q = (if (rN t n lo hi m r q).1.1 = true then nI (rN t n lo hi m r q).2 else -9, (rN t n lo hi m r q).1.2)
  | 0, r, q, _, hr => by
    rw [Nat.pow_zero, Nat.mul_one] at hr
    show (nI (10 * r) / 10, q) = (nI r, q)
    rw [show (10 : Int32) = nI 10 from rfl, pk_div (by omega) (by decide) (by decide), Nat.mul_div_cancel_left _ (by decide)]
  | m + 1, r, q, hm, hr => by
    rw [rdN]
    cases hd : dgt t n q with
    | none =>
      obtain ⟨h1, -⟩ := dgt_n hd
      rw [rN_no hd]
      by_cases c : crV t n q - 48 < 0
      · rw [if_pos c]
        rfl
      · rw [if_neg c, if_pos (h1.resolve_left c)]
        rfl
    | some c =>
      obtain ⟨c9, -, e, hq⟩ := dgt_s hd
      have hp3 : 10 ^ m ≤ 10 ^ 2 := Nat.pow_le_pow_right (by decide) (by omega)
      have hp0 : 0 < 10 ^ m := Nat.pow_pos (by decide)
      have hr9 : r ≤ 999 := by
        have : r * 1 ≤ r * 10 ^ (m + 1) := Nat.mul_le_mul_left _ (Nat.pow_pos (by decide))
        omega
      have hx : (10 * r + c) * 10 ^ m ≤ 9999 * 10 ^ 2 := Nat.mul_le_mul (by omega) hp3
      have hs : nI (10 ^ (m + 1)) / 10 = nI (10 ^ m) := by
        rw [show (10 : Int32) = nI 10 from rfl, pk_div (by rw [Nat.pow_succ]; omega) (by decide) (by decide), Nat.pow_succ, Nat.mul_div_cancel _ (by decide)]
      have e1 : (nI (10 * r) + nI c) * nI (10 ^ m) = nI ((10 * r + c) * 10 ^ m) := by rw [nI_add, pk_mul]
      have e2 : nI ((10 * r + c) * 10 ^ m) + nI (10 ^ m) - 1 = nI ((10 * r + c) * 10 ^ m + 10 ^ m - 1) := by
        rw [nI_add, show (1 : Int32) = nI 1 from rfl, pk_sub (by omega)]
      have e3 : (nI (10 * r) + nI c) * 10 = nI (10 * (10 * r + c)) := by
        rw [nI_add, show (10 : Int32) = nI 10 from rfl, pk_mul, Nat.mul_comm]
      rw [e, hs, e1, e2, e3, if_neg (nI_pos (by omega)), if_neg (show ¬ (9 : Int32) < nI c from fun y => by have := (nI_ltI (a := 9) (b := c) (by decide) (by omega)).mp y; omega)]
      have l1 : nI hi < nI ((10 * r + c) * 10 ^ m) ↔ hi < (10 * r + c) * 10 ^ m := nI_ltI (by omega) (by omega)
      have l2 : nI ((10 * r + c) * 10 ^ m + 10 ^ m - 1) < nI lo ↔ (10 * r + c) * 10 ^ m + 10 ^ m - 1 < lo := nI_ltI (by omega) (by omega)
      by_cases c1 : hi < (10 * r + c) * 10 ^ m
      · rw [if_pos (l1.mpr c1), rN_bad hd (Or.inl c1)]
        rfl
      · rw [if_neg (fun y => c1 (l1.mp y))]
        by_cases c2 : (10 * r + c) * 10 ^ m + 10 ^ m - 1 < lo
        · rw [if_pos (l2.mpr c2), rN_bad hd (Or.inr c2)]
          rfl
        · rw [if_neg (fun y => c2 (l2.mp y)), rN_go hd (fun y => y.elim c1 c2)]
          exact rdN_r hh hl (by omega) (by omega)
theorem rdV_r {lo hi m : Nat} (hh : hi ≤ 999) (hl : lo ≤ 999) (hm : m ≤ 3) : rdV t n q m (nI lo) (nI hi) = (if (rN t n lo hi m 0 q).1.1 = true then nI (rN t n lo hi m 0 q).2 else -9, (rN t n lo hi m 0 q).1.2) := by
  have hp : pw10 m = nI (10 ^ m) := by
    rcases (show m = 0 ∨ m = 1 ∨ m = 2 ∨ m = 3 by omega) with rfl | rfl | rfl | rfl <;> rfl
  rw [rdV, hp]
  exact rdN_r hh hl hm (by rw [Nat.zero_mul]; omega)
-- the reference
theorem dg_f {a b : Int32} {p : Bool × Nat} (h : ¬ p.1 = true) : dg t n p a b = (false, p.2) := by
  have e : p.1 = false := by cases hp : p.1 <;> simp_all
  unfold dg ac
  rw [e, Bool.false_and]
  rfl
theorem dg_r {lo hi : Nat} (hh : hi ≤ 9) (hl : lo ≤ 9) : dg t n (true, q) (nI lo) (nI hi) = (rN t n lo hi 1 0 q).1 ∧ dv t n (true, q) (nI lo) (nI hi) = if (rN t n lo hi 1 0 q).1.1 = true then nI (rN t n lo hi 1 0 q).2 else nI lo := by
  have key : dg t n (true, q) (nI lo) (nI hi) = (rN t n lo hi 1 0 q).1 ∧ ((rN t n lo hi 1 0 q).1.1 = true → chv t n q = nI (rN t n lo hi 1 0 q).2) := by
    cases hd : dgt t n q with
    | none =>
      obtain ⟨-, h2⟩ := dgt_n hd
      have : ¬ dgP t n q (nI lo) (nI hi) := fun y => h2 y.1
      rw [rN_no hd]
      refine ⟨?_, fun y => ft y⟩
      unfold dg ac
      rw [decide_eq_false this]
      rfl
    | some c =>
      obtain ⟨c9, e, -, hq⟩ := dgt_s hd
      have hiff : dgP t n q (nI lo) (nI hi) ↔ ¬ (hi < (10 * 0 + c) * 10 ^ 0 ∨ (10 * 0 + c) * 10 ^ 0 + 10 ^ 0 - 1 < lo) := by
        unfold dgP
        rw [e, i_le_n (x := nI c) (k := hi) (by omega), i_n_le (x := nI c) (k := lo) (by omega), nI_toInt (n := c) (by omega)]
        have h9 : nI c ≤ 9 := by rw [show (9 : Int32) = nI 9 from rfl, i_le_n (by decide), nI_toInt (by omega)]; omega
        constructor
        · intro y
          have := y.2
          omega
        · intro y
          exact ⟨⟨nI_pos' (by omega), h9⟩, by omega, by omega⟩
      by_cases hc : hi < (10 * 0 + c) * 10 ^ 0 ∨ (10 * 0 + c) * 10 ^ 0 + 10 ^ 0 - 1 < lo
      · rw [rN_bad hd hc]
        refine ⟨?_, fun y => ft y⟩
        unfold dg ac
        rw [decide_eq_false (fun y => hiff.mp y hc)]
        rfl
      · rw [rN_go hd hc]
        refine ⟨?_, fun _ => by rw [e, rN]; congr 1; omega⟩
        unfold dg ac
        rw [decide_eq_true (hiff.mpr hc)]
        rfl
  refine ⟨key.1, ?_⟩
  unfold dv
  rw [key.1]
  by_cases c : (rN t n lo hi 1 0 q).1.1 = true
  · rw [if_pos c, if_pos c, key.2 c]
  · rw [if_neg c, if_neg c]
theorem tw_r {lo hi : Nat} (hh : hi ≤ 99) (hl : lo ≤ hi) : tw t n (true, q) (nI lo) (nI hi) = (rN t n lo hi 2 0 q).1 ∧ ((rN t n lo hi 2 0 q).1.1 = true → tv t n (true, q) (nI lo) (nI hi) = nI (rN t n lo hi 2 0 q).2) := by
  have d10 : ∀ a, a ≤ 99 → nI a / 10 = nI (a / 10) := fun a ha => by rw [show (10 : Int32) = nI 10 from rfl, pk_div (by omega) (by decide) (by decide)]
  unfold tw tv
  rw [d10 lo (by omega), d10 hi hh]
  obtain ⟨g1, g2⟩ := dg_r (t := t) (n := n) (q := q) (lo := lo / 10) (hi := hi / 10) (by omega) (by omega)
  rw [g1, g2]
  cases hd : dgt t n q with
  | none =>
    rw [rN_no hd, rN_no hd]
    exact ⟨dg_f (fun y => ft y), fun y => ft y⟩
  | some c =>
    obtain ⟨c9, -⟩ := dgt_s hd
    by_cases hc : hi < (10 * 0 + c) * 10 ^ 1 ∨ (10 * 0 + c) * 10 ^ 1 + 10 ^ 1 - 1 < lo
    · rw [rN_bad (m := 1) hd hc, rN_bad (m := 0) hd (show hi / 10 < (10 * 0 + c) * 10 ^ 0 ∨ (10 * 0 + c) * 10 ^ 0 + 10 ^ 0 - 1 < lo / 10 by omega)]
      exact ⟨dg_f (fun y => ft y), fun y => ft y⟩
    · rw [rN_go (m := 1) hd hc, rN_go (m := 0) hd (show ¬ (hi / 10 < (10 * 0 + c) * 10 ^ 0 ∨ (10 * 0 + c) * 10 ^ 0 + 10 ^ 0 - 1 < lo / 10) by omega)]
      have eL : twL (nI c) (nI lo) = nI (lo - 10 * c) := by
        unfold twL
        rw [show (10 : Int32) = nI 10 from rfl, pk_mul]
        by_cases h : 10 * c ≤ lo
        · rw [pk_sub h, if_neg (nI_pos (by omega))]
        · have : nI lo - nI (10 * c) < 0 := by
            rw [i_lt_i, pk_sub_toInt (by omega) (by omega)]
            show _ < (0 : Int)
            omega
          rw [if_pos this, show lo - 10 * c = 0 by omega]
          rfl
      have eH : twH (nI c) (nI hi) = nI (if 9 < hi - 10 * c then 9 else hi - 10 * c) := by
        unfold twH
        rw [show (10 : Int32) = nI 10 from rfl, pk_mul, pk_sub (by omega)]
        have : (9 : Int32) < nI (hi - 10 * c) ↔ 9 < hi - 10 * c := nI_ltI (a := 9) (by decide) (by omega)
        rw [ite_iff this]
        split <;> rfl
      have e0 : rN t n (lo / 10) (hi / 10) 0 (10 * 0 + c) (q + 1) = ((true, q + 1), c) := by rw [rN, Nat.mul_zero, Nat.zero_add]
      rw [e0]
      dsimp only
      rw [if_pos rfl, eL, eH]
      obtain ⟨k1, k2⟩ := dg_r (t := t) (n := n) (q := q + 1) (lo := lo - 10 * c) (hi := if 9 < hi - 10 * c then 9 else hi - 10 * c) (by split <;> omega) (by omega)
      rw [k1, k2]
      cases hd2 : dgt t n (q + 1) with
      | none => rw [rN_no hd2, rN_no hd2]; exact ⟨rfl, fun y => ft y⟩
      | some d =>
        obtain ⟨d9, -⟩ := dgt_s hd2
        by_cases h2 : hi < (10 * (10 * 0 + c) + d) * 10 ^ 0 ∨ (10 * (10 * 0 + c) + d) * 10 ^ 0 + 10 ^ 0 - 1 < lo
        · rw [rN_bad (m := 0) (r := 10 * 0 + c) hd2 h2, rN_bad (m := 0) (r := 0) hd2 (show (if 9 < hi - 10 * c then 9 else hi - 10 * c) < (10 * 0 + d) * 10 ^ 0 ∨ (10 * 0 + d) * 10 ^ 0 + 10 ^ 0 - 1 < lo - 10 * c by split <;> omega)]
          exact ⟨rfl, fun y => ft y⟩
        · rw [rN_go (m := 0) (r := 10 * 0 + c) hd2 h2, rN_go (m := 0) (r := 0) hd2 (show ¬ ((if 9 < hi - 10 * c then 9 else hi - 10 * c) < (10 * 0 + d) * 10 ^ 0 ∨ (10 * 0 + d) * 10 ^ 0 + 10 ^ 0 - 1 < lo - 10 * c) by split <;> omega)]
          refine ⟨rfl, fun _ => ?_⟩
          show 10 * nI c + (if true = true then nI (10 * 0 + d) else _) = nI (10 * (10 * 0 + c) + d)
          rw [if_pos rfl, show (10 : Int32) = nI 10 from rfl, pk_mul, nI_add]
          congr 1
          omega
end P16
