-- THE CLASS'S LOG: what its reading methods answer
theorem cbF_le {fr : Nat → Int32} {op : Int32} : ∀ n, cbF fr op n ≤ n
  | 0 => Nat.le_refl _
  | n + 1 => by
    have := cbF_le (fr := fr) (op := op) n
    unfold cbF
    split <;> omega
def rmV (fr : Nat → Int32) (op : Int32) (B : Nat) : Int32 := at_ fr 8 0 op + if 0 < cbF fr op B then 4 else 0
abbrev cvP (kd wr lv fr : Nat → Int32) (B : Nat) (on : Bool) (li op x : Int32) : Prop := on = true ∧ ¬ x = op ∧ at_ wr 8 0 x < li ∧ tdP kd lv x ∧ ¬ rmV fr op B < slV lv x
abbrev gbP (kd mk wr lv : Nat → Int32) (po b o : Int32) : Prop :=
  if po = 2 then gmV kd mk b < gmV kd mk o
  else if po = 1 then at_ wr 8 0 b - at_ wr 8 0 o < 0 ∨ at_ wr 8 0 b - at_ wr 8 0 o = 0 ∧ slV lv b - slV lv o < 0
  else slV lv b - slV lv o < 0 ∨ slV lv b - slV lv o = 0 ∧ at_ wr 8 0 b - at_ wr 8 0 o < 0
def cvF (kd mk wr lv fr : Nat → Int32) (B : Nat) (on : Bool) (li op po : Int32) : Nat → Option Nat
  | 0 => none
  | n + 1 => match cvF kd mk wr lv fr B on li op po n with
    | none => if cvP kd wr lv fr B on li op (nI n) then some n else none
    | some o => if cvP kd wr lv fr B on li op (nI n) ∧ gbP kd mk wr lv po (nI n) (nI o) then some n else some o
theorem cvF_lt {kd mk wr lv fr : Nat → Int32} {B : Nat} {on : Bool} {li op po : Int32} : ∀ {n o : Nat}, cvF kd mk wr lv fr B on li op po n = some o → o < n
  | 0, o, h => by cases h
  | n + 1, o, h => by
    unfold cvF at h
    cases hn : cvF kd mk wr lv fr B on li op po n with
    | none =>
      rw [hn] at h
      dsimp only at h
      split at h
      · cases h; omega
      · cases h
    | some o2 =>
      rw [hn] at h
      have := cvF_lt hn
      dsimp only at h
      split at h
      · cases h; omega
      · cases h; omega
def wsN (wr : Nat → Int32) : Nat → Int32
  | 0 => at_ wr 8 0 0
  | n + 1 => if at_ wr 8 0 (nI (n + 1)) < wsN wr n then at_ wr 8 0 (nI (n + 1)) else wsN wr n
def wsX (wr : Nat → Int32) : Nat → Int32
  | 0 => at_ wr 8 0 0
  | n + 1 => if wsX wr n < at_ wr 8 0 (nI (n + 1)) then at_ wr 8 0 (nI (n + 1)) else wsX wr n
def hsF (kd lv : Nat → Int32) (op : Int32) : Nat → Bool
  | 0 => false
  | n + 1 => hsF kd lv op n || decide (¬ nI n = op ∧ tdP kd lv (nI n))
theorem hsF_at {kd lv : Nat → Int32} {op : Int32} {j : Nat} : ∀ {n : Nat}, j < n → (¬ nI j = op ∧ tdP kd lv (nI j)) → hsF kd lv op n = true
  | 0, h, _ => absurd h (Nat.not_lt_zero _)
  | n + 1, h, hp => by
    unfold hsF
    by_cases e : j = n
    · subst e
      rw [decide_eq_true hp, Bool.or_true]
    · rw [hsF_at (show j < n by omega) hp, Bool.true_or]
def tlF (tp tw9 tc te tk : Int32) (w : Nat) : Int32 := if w = 6 then tp else if w = 7 then tw9 else if w = 8 then tc else if w = 9 then te else tk
def tcF (ta te ts : Int32) (w : Nat) : Int32 := if w = 0 then ta else if w = 1 then te else ts
def lgF (vl wr nw fr : Nat → Int32) (B : Nat) (on : Bool) (po cu li op : Int32) (w : Nat) : Int32 :=
  if w = 0 then nI B else if w = 1 then li else if w = 2 then bI (on = true) else if w = 3 then op else if w = 4 then nI (cbF fr op B) else if w = 5 then nI (ckV B vl nw 16) else if w = 11 then cu else if w = 12 then po else wsX wr (B - 1) - wsN wr (B - 1)
def lbF (kd wr lv fr : Nat → Int32) (B : Nat) (on : Bool) (li op x : Int32) (w : Nat) : Int32 :=
  if w = 0 then at_ wr 8 0 x else if w = 1 then slV lv x else if w = 2 then at_ fr 8 0 x else if w = 3 then ctV kd 2 x else if w = 4 then bI (¬ at_ wr 8 0 x < li) else bI (cvP kd wr lv fr B on li op x)
abbrev icP (cu : Int32) : Prop := ¬ cu = 0 ∧ cu - 1 = 0
def icC (cu : Int32) : Int32 := if cu = 0 then cu else cu - 1
