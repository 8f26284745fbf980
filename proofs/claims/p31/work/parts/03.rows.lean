-- THE REFERENCE'S ROW AS A NUMBER FUNCTION f: what its reading methods answer (B blocks, pages by their addresses)
/-- a page's number: 0 state, 1 key, 2 value, 3 mark -/
def pg (f : Nat → Int32) (a w : Nat) : Int32 := f (23 + 4 * a + w)
/-- the newest written page of a key among the first n pages -/
def nwst (f : Nat → Int32) (key : Int32) : Nat → Option Nat
  | 0 => none
  | n + 1 => match nwst f key n with
    | none => if pg f n 0 = 1 ∧ pg f n 1 = key then some n else none
    | some o => if pg f n 0 = 1 ∧ pg f n 1 = key ∧ pg f o 3 < pg f n 3 then some n else some o
theorem nwst_lt {f : Nat → Int32} {key : Int32} : ∀ {n o : Nat}, nwst f key n = some o → o < n
  | 0, o, h => by cases h
  | n + 1, o, h => by
    unfold nwst at h
    cases hn : nwst f key n with
    | none =>
      rw [hn] at h
      dsimp only at h
      split at h
      · cases h; omega
      · cases h
    | some o2 =>
      rw [hn] at h
      have := nwst_lt hn
      dsimp only at h
      split at h
      · cases h; omega
      · cases h; omega
def vlu (f : Nat → Int32) (key : Int32) (B : Nat) : Int32 := match nwst f key (4 * B) with
  | none => -9
  | some a => pg f a 2
/-- how many of the first n keys have a value -/
def kys (f : Nat → Int32) (B : Nat) : Nat → Nat
  | 0 => 0
  | n + 1 => kys f B n + if vlu f (nI n) B = -9 then 0 else 1
/-- how many of the first n pages are written with the key -/
def cnt (f : Nat → Int32) (key : Int32) : Nat → Nat
  | 0 => 0
  | n + 1 => cnt f key n + if pg f n 0 = 1 ∧ pg f n 1 = key then 1 else 0
theorem cnt_le {f : Nat → Int32} {key : Int32} : ∀ n, cnt f key n ≤ n
  | 0 => Nat.le_refl _
  | n + 1 => by
    have := cnt_le (f := f) (key := key) n
    unfold cnt
    split <;> omega
theorem kys_le {f : Nat → Int32} {B : Nat} : ∀ n, kys f B n ≤ n
  | 0 => Nat.le_refl _
  | n + 1 => by
    have := kys_le (f := f) (B := B) n
    unfold kys
    split <;> omega
abbrev livP (f : Nat → Int32) (B a : Nat) : Prop := pg f a 0 = 1 ∧ nwst f (pg f a 1) (4 * B) = some a ∧ (pg f a 2 ≠ -9 ∨ 1 < cnt f (pg f a 1) (4 * B))
/-- how many of the first n pages of block b have the state -/
def cst (f : Nat → Int32) (b : Nat) (st : Int32) : Nat → Nat
  | 0 => 0
  | n + 1 => cst f b st n + if pg f (4 * b + n) 0 = st then 1 else 0
theorem cst_le {f : Nat → Int32} {b : Nat} {st : Int32} : ∀ n, cst f b st n ≤ n
  | 0 => Nat.le_refl _
  | n + 1 => by
    have := cst_le (f := f) (b := b) (st := st) n
    unfold cst
    split <;> omega
/-- how many of the first n pages of block b are live -/
def lvs (f : Nat → Int32) (B b : Nat) : Nat → Nat
  | 0 => 0
  | n + 1 => lvs f B b n + if livP f B (4 * b + n) then 1 else 0
theorem lvs_le {f : Nat → Int32} {B b : Nat} : ∀ n, lvs f B b n ≤ n
  | 0 => Nat.le_refl _
  | n + 1 => by
    have := lvs_le (f := f) (B := B) (b := b) n
    unfold lvs
    split <;> omega
abbrev clnP (f : Nat → Int32) (b : Nat) : Prop := nI b ≠ f 3 ∧ cst f b 0 4 = 4
/-- how many of the first n blocks are clean -/
def cln (f : Nat → Int32) : Nat → Nat
  | 0 => 0
  | n + 1 => cln f n + if clnP f n then 1 else 0
theorem cln_le {f : Nat → Int32} : ∀ n, cln f n ≤ n
  | 0 => Nat.le_refl _
  | n + 1 => by
    have := cln_le (f := f) n
    unfold cln
    split <;> omega
/-- the clean block with the least wear among the first n -/
def lcl (f : Nat → Int32) : Nat → Option Nat
  | 0 => none
  | n + 1 => match lcl f n with
    | none => if clnP f n then some n else none
    | some o => if clnP f n ∧ f (15 + n) < f (15 + o) then some n else some o
theorem lcl_lt {f : Nat → Int32} : ∀ {n o : Nat}, lcl f n = some o → o < n
  | 0, o, h => by cases h
  | n + 1, o, h => by
    unfold lcl at h
    cases hn : lcl f n with
    | none =>
      rw [hn] at h
      dsimp only at h
      split at h
      · cases h; omega
      · cases h
    | some o2 =>
      rw [hn] at h
      have := lcl_lt hn
      dsimp only at h
      split at h
      · cases h; omega
      · cases h; omega
/-- how many clean pages block b has behind all that are not clean -/
def lft (f : Nat → Int32) (b : Nat) : Nat :=
  if pg f (4 * b + 3) 0 = 0 then if pg f (4 * b + 2) 0 = 0 then if pg f (4 * b + 1) 0 = 0 then if pg f (4 * b) 0 = 0 then 4 else 3 else 2 else 1 else 0
theorem lft_le (f : Nat → Int32) (b : Nat) : lft f b ≤ 4 := by
  unfold lft
  repeat' split
  all_goals omega
/-- .. the open block o -/
def lfo (f : Nat → Int32) (o : Option Nat) : Nat := match o with | none => 0 | some b => lft f b
theorem lfo_le (f : Nat → Int32) (o : Option Nat) : lfo f o ≤ 4 := by
  cases o with
  | none => exact Nat.zero_le _
  | some b => exact lft_le f b
/-- the next page of the open block o -/
def nxp (f : Nat → Int32) (o : Option Nat) : Option Nat := match o with
  | none => none
  | some b => if lft f b = 0 then none else some (4 * b + 4 - lft f b)
abbrev stlP (f : Nat → Int32) (B b : Nat) : Prop := nI b ≠ f 3 ∧ ¬ clnP f b ∧ lvs f B b 4 < cst f b 2 4 + cst f b 1 4
abbrev vicP (f : Nat → Int32) (B : Nat) (o : Option Nat) (b : Nat) : Prop := stlP f B b ∧ f (15 + b) < f 1 ∧ (lvs f B b 4 = 0 ∨ lvs f B b 4 ≤ lfo f o + if 0 < cln f B then 4 else 0)
/-- the greatest mark of the written ones of the first n pages of block b -/
def gmk (f : Nat → Int32) (b : Nat) : Nat → Int32
  | 0 => 0
  | n + 1 => if pg f (4 * b + n) 0 = 1 ∧ gmk f b n < pg f (4 * b + n) 3 then pg f (4 * b + n) 3 else gmk f b n
abbrev ratP (f : Nat → Int32) (B b o : Nat) : Prop :=
  if f 6 = 2 then gmk f b 4 < gmk f o 4
  else if f 6 = 0 then nI (lvs f B b 4) - nI (lvs f B o 4) < 0 ∨ nI (lvs f B b 4) - nI (lvs f B o 4) = 0 ∧ f (15 + b) - f (15 + o) < 0
  else f (15 + b) - f (15 + o) < 0 ∨ f (15 + b) - f (15 + o) = 0 ∧ nI (lvs f B b 4) - nI (lvs f B o 4) < 0
/-- the victim among the first n blocks -/
def vct (f : Nat → Int32) (B : Nat) (o : Option Nat) : Nat → Option Nat
  | 0 => none
  | n + 1 => match vct f B o n with
    | none => if vicP f B o n then some n else none
    | some x => if vicP f B o n ∧ ratP f B n x then some n else some x
theorem vct_lt {f : Nat → Int32} {B : Nat} {o : Option Nat} : ∀ {n x : Nat}, vct f B o n = some x → x < n
  | 0, x, h => by cases h
  | n + 1, x, h => by
    unfold vct at h
    cases hn : vct f B o n with
    | none =>
      rw [hn] at h
      dsimp only at h
      split at h
      · cases h; omega
      · cases h
    | some o2 =>
      rw [hn] at h
      have := vct_lt hn
      dsimp only at h
      split at h
      · cases h; omega
      · cases h; omega
def vcm (f : Nat → Int32) (B : Nat) (o : Option Nat) : Option Nat := if f 2 = 1 then vct f B o B else none
