-- THE REFERENCE'S READER: p = (all good so far, the place), t the text of length ss
def chv (t : Nat → Int32) (ss sp : Nat) : Int32 := if sp < ss then t sp - 48 else -9
abbrev nxtP (t : Nat → Int32) (ss sp : Nat) (c : Int32) : Prop := sp < ss ∧ t sp = c
abbrev dgP (t : Nat → Int32) (ss sp : Nat) (a b : Int32) : Prop := (0 ≤ chv t ss sp ∧ chv t ss sp ≤ 9) ∧ (a ≤ chv t ss sp ∧ chv t ss sp ≤ b)
def ac (p : Bool × Nat) (is : Bool) : Bool × Nat := (p.1 && is, if p.1 && is then p.2 + 1 else p.2)
def dg (t : Nat → Int32) (ss : Nat) (p : Bool × Nat) (a b : Int32) : Bool × Nat := ac p (decide (dgP t ss p.2 a b))
def dv (t : Nat → Int32) (ss : Nat) (p : Bool × Nat) (a b : Int32) : Int32 := if (dg t ss p a b).1 = true then chv t ss p.2 else a
def twL (v a : Int32) : Int32 := if a - 10 * v < 0 then 0 else a - 10 * v
def twH (v b : Int32) : Int32 := if 9 < b - 10 * v then 9 else b - 10 * v
def tw (t : Nat → Int32) (ss : Nat) (p : Bool × Nat) (a b : Int32) : Bool × Nat :=
  dg t ss (dg t ss p (a / 10) (b / 10)) (twL (dv t ss p (a / 10) (b / 10)) a) (twH (dv t ss p (a / 10) (b / 10)) b)
def tv (t : Nat → Int32) (ss : Nat) (p : Bool × Nat) (a b : Int32) : Int32 :=
  10 * dv t ss p (a / 10) (b / 10) + dv t ss (dg t ss p (a / 10) (b / 10)) (twL (dv t ss p (a / 10) (b / 10)) a) (twH (dv t ss p (a / 10) (b / 10)) b)
theorem chv_in {t : Nat → Int32} {ss sp : Nat} (h : 0 ≤ chv t ss sp) : sp < ss := by
  unfold chv at h
  split at h
  · assumption
  · exact absurd h (by decide)
theorem ac_le {p : Bool × Nat} {is : Bool} {ss : Nat} (h : p.2 ≤ ss) (hi : is = true → p.2 < ss) : (ac p is).2 ≤ ss := by
  unfold ac
  dsimp only
  split
  · rename_i hc
    have := hi (by cases is <;> simp_all)
    omega
  · exact h
theorem dg_le {t : Nat → Int32} {ss : Nat} {p : Bool × Nat} {a b : Int32} (h : p.2 ≤ ss) : (dg t ss p a b).2 ≤ ss :=
  ac_le h (fun z => chv_in (of_decide_eq_true z).1.1)
theorem tw_le {t : Nat → Int32} {ss : Nat} {p : Bool × Nat} {a b : Int32} (h : p.2 ≤ ss) : (tw t ss p a b).2 ≤ ss := dg_le (dg_le h)
/-- head: F, a digit, two digits -/
def hd0 (t : Nat → Int32) (ss : Nat) : Bool × Nat := ac (true, 0) (decide (nxtP t ss 0 70))
def hd1 (t : Nat → Int32) (ss : Nat) : Bool × Nat := dg t ss (hd0 t ss) 3 8
def hd2 (t : Nat → Int32) (ss : Nat) : Bool × Nat := tw t ss (hd1 t ss) 1 99
def hdB (t : Nat → Int32) (ss : Nat) : Int32 := dv t ss (hd0 t ss) 3 8
def hdL (t : Nat → Int32) (ss : Nat) : Int32 := tv t ss (hd1 t ss) 1 99
theorem hd0_le {t : Nat → Int32} {ss : Nat} : (hd0 t ss).2 ≤ ss := ac_le (Nat.zero_le _) (fun z => (of_decide_eq_true z).1)
theorem hd1_le {t : Nat → Int32} {ss : Nat} : (hd1 t ss).2 ≤ ss := dg_le hd0_le
theorem hd2_le {t : Nat → Int32} {ss : Nat} : (hd2 t ss).2 ≤ ss := tw_le hd1_le
/-- a command, read only -/
def cm (t : Nat → Int32) (ss : Nat) (p : Bool × Nat) : Bool × Nat :=
  if nxtP t ss p.2 112 then dg t ss (tw t ss (tw t ss (ac p true) 0 15) 0 99) 0 9
  else if nxtP t ss p.2 100 then tw t ss (ac p true) 0 15
  else if nxtP t ss p.2 99 then tw t ss (ac p true) 0 99
  else if nxtP t ss p.2 113 then dg t ss (ac p true) 0 2
  else ac p (decide (nxtP t ss p.2 119) || decide (nxtP t ss p.2 115))
theorem cm_le {t : Nat → Int32} {ss : Nat} {p : Bool × Nat} (h : p.2 ≤ ss) : (cm t ss p).2 ≤ ss := by
  unfold cm
  split
  · rename_i hn
    exact dg_le (tw_le (tw_le (ac_le h (fun _ => hn.1))))
  · split
    · rename_i hn
      exact tw_le (ac_le h (fun _ => hn.1))
    · split
      · rename_i hn
        exact tw_le (ac_le h (fun _ => hn.1))
      · split
        · rename_i hn
          exact dg_le (ac_le h (fun _ => hn.1))
        · refine ac_le h (fun z => ?_)
          rcases (Bool.or_eq_true _ _).mp z with z | z
          · exact (of_decide_eq_true z).1
          · exact (of_decide_eq_true z).1
/-- readText's loop, at most n rounds -/
def rt (t : Nat → Int32) (ss : Nat) : Nat → Bool × Nat → Option (Bool × Nat)
  | 0, _ => none
  | n + 1, p => if p.1 = true ∧ p.2 < ss then rt t ss n (cm t ss p) else some p
theorem rt_le {t : Nat → Int32} {ss : Nat} : ∀ {n : Nat} {p q : Bool × Nat}, p.2 ≤ ss → rt t ss n p = some q → q.2 ≤ ss
  | 0, p, q, _, e => by cases e
  | n + 1, p, q, h, e => by
    unfold rt at e
    split at e
    · exact rt_le (cm_le h) e
    · cases e; exact h
theorem cpy_S {d : Nat → Int32} {fa ta j : Nat} (h : ta ≤ fa) : va_cpy d d fa ta j (fa + j) = d (fa + j) := by
  unfold va_cpy
  rw [if_neg (by omega)]
theorem twL_p {v a : Int32} (h : a - 10 * v < 0) : (0 : Int32) = twL v a := (if_pos h).symm
theorem twL_n {v a : Int32} (h : ¬ a - 10 * v < 0) : a - 10 * v = twL v a := (if_neg h).symm
theorem twH_p {v a : Int32} (h : 9 < a - 10 * v) : (9 : Int32) = twH v a := (if_pos h).symm
theorem twH_n {v a : Int32} (h : ¬ 9 < a - 10 * v) : a - 10 * v = twH v a := (if_neg h).symm
