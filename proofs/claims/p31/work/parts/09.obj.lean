-- what the reference's object needs: ranges, and the state's fields
theorem bI_congr {P Q : Prop} [Decidable P] [Decidable Q] (h : P ↔ Q) : bI P = bI Q := by
  unfold bI
  by_cases hp : P
  · rw [if_pos hp, if_pos (h.mp hp)]
  · rw [if_neg hp, if_neg (fun z => hp (h.mpr z))]
theorem inI_iff (x a b : Int32) : (a.toInt64 ≤ x.toInt64 ∧ x.toInt64 ≤ b.toInt64) ↔ (a ≤ x ∧ x ≤ b) := by
  rw [Int64.le_iff_toInt_le, Int64.le_iff_toInt_le, Int32.le_iff_toInt_le, Int32.le_iff_toInt_le, Int32.toInt_toInt64, Int32.toInt_toInt64, Int32.toInt_toInt64]
/-- a stale block among the first n -/
def stlA (f : Nat → Int32) (B : Nat) : Nat → Bool
  | 0 => false
  | n + 1 => stlA f B n || decide (stlP f B n)
/-- why there is no room, where the trial answered v -/
def rsn (f : Nat → Int32) (B : Nat) (v : Int32) : Int32 := if f 2 = 0 then 1 else if ¬ v < 0 then 0 else if stlA f B B = true then 3 else 2
/-- the diary's content behind note -/
def diN (d f : Nat → Int32) (ac : Nat) : Nat → Int32 := if ac = 14 then va_cpy f (va_cpy d d 151 0 1963) 0 (151 * 13) 151 else va_cpy f d 0 (151 * ac) 151
def acN (ac : Nat) : Nat := if ac = 14 then 14 else ac + 1
/-- the same array, moved down: what is read was not yet written -/
theorem cpy_down {d : Nat → Int32} {sp n : Nat} (h : n < sp) : va_cpy d d sp 0 n (sp + n) = d (sp + n) := by
  unfold va_cpy
  rw [if_neg (by omega)]
theorem stlA_at {f : Nat → Int32} {B j : Nat} : ∀ {n : Nat}, j < n → stlP f B j → stlA f B n = true
  | 0, h, _ => absurd h (Nat.not_lt_zero _)
  | n + 1, h, hp => by
    unfold stlA
    by_cases e : j = n
    · subst e
      rw [decide_eq_true hp, Bool.or_true]
    · rw [stlA_at (show j < n by omega) hp, Bool.true_or]
theorem i_lt0 {x y : Int32} (h : ¬ ¬ y < x) : y < x := Classical.not_not.mp h
