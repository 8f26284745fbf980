-- THE REFERENCE'S ROW, WRITTEN
def tick (f : Nat → Int32) : Nat → Int32 := upd f 7 (f 7 + 1)
/-- whether the cut that is set falls on the operation that is counted now -/
abbrev cutP (f : Nat → Int32) : Prop := ¬ f 5 = 0 ∧ ¬ 0 < f 5 - 1
def cutR (f : Nat → Int32) (wh kd : Int32) (sw : Bool) : Nat → Int32 :=
  if f 5 = 0 then tick f
  else if 0 < f 5 - 1 then upd (tick f) 5 (f 5 - 1)
  else upd (upd (upd (upd (upd (upd (upd (tick f) 5 (f 5 - 1)) 2 0) 3 (-9)) 11 (f 11 + 1)) 12 wh) 13 kd) 14 (bI (sw = true))
def wrW (g : Nat → Int32) (a : Nat) (key val : Int32) (sw : Bool) : Nat → Int32 :=
  upd (upd (upd (upd (upd (upd (upd g (23 + 4 * a + 0) 1) (23 + 4 * a + 1) key) (23 + 4 * a + 2) val) (23 + 4 * a + 3) (g 4)) 4 (g 4 + 1)) 8 (g 8 + 1)) 9 (g 9 + bI (sw = true))
/-- a page is written, or torn -/
def wrR (f : Nat → Int32) (a : Nat) (key val : Int32) (sw : Bool) : Nat → Int32 :=
  if cutP f then upd (cutR f (nI a) 0 sw) (23 + 4 * a + 0) 2 else wrW (cutR f (nI a) 0 sw) a key val sw
/-- the states of the first n pages of block b become x -/
def stF (g : Nat → Int32) (b : Nat) (x : Int32) : Nat → Nat → Int32
  | 0 => g
  | n + 1 => upd (stF g b x n) (23 + 4 * (4 * b + n)) x
def erG (f : Nat → Int32) (b : Nat) : Nat → Int32 :=
  upd (upd (cutR f (nI (4 * b)) 1 true) (15 + b) (cutR f (nI (4 * b)) 1 true (15 + b) + 1)) 10 (cutR f (nI (4 * b)) 1 true 10 + if cutP f then 0 else 1)
/-- a block is erased, or torn -/
def erR (f : Nat → Int32) (b : Nat) : Nat → Int32 := stF (erG f b) b (if cutP f then 2 else 0) 4
/-- the written page with the greatest mark among the first n -/
def nwa (f : Nat → Int32) : Nat → Option Nat
  | 0 => none
  | n + 1 => match nwa f n with
    | none => if pg f n 0 = 1 then some n else none
    | some o => if pg f n 0 = 1 ∧ pg f o 3 < pg f n 3 then some n else some o
theorem nwa_lt {f : Nat → Int32} : ∀ {n o : Nat}, nwa f n = some o → o < n
  | 0, o, h => by cases h
  | n + 1, o, h => by
    unfold nwa at h
    cases hn : nwa f n with
    | none =>
      rw [hn] at h
      dsimp only at h
      split at h
      · cases h; omega
      · cases h
    | some o2 =>
      rw [hn] at h
      have := nwa_lt hn
      dsimp only at h
      split at h
      · cases h; omega
      · cases h; omega
def puG (f : Nat → Int32) : Nat → Int32 := upd (upd f 2 1) 3 (-9)
def puH (g : Nat → Int32) (o : Option Nat) : Nat → Int32 := match o with
  | none => upd g 4 1
  | some a => upd g 4 (pg g a 3 + 1)
/-- the power comes on -/
def puR (f : Nat → Int32) (B : Nat) : Nat → Int32 := match nwa (puG f) (4 * B) with
  | none => puH (puG f) none
  | some a => if 0 < lft (puH (puG f) (some a)) (a / 4) then upd (puH (puG f) (some a)) 3 (nI (a / 4)) else puH (puG f) (some a)
def mnw (f : Nat → Int32) : Nat → Int32
  | 0 => f 15
  | n + 1 => if f (15 + n + 1) < mnw f n then f (15 + n + 1) else mnw f n
def mxw (f : Nat → Int32) : Nat → Int32
  | 0 => f 15
  | n + 1 => if mxw f n < f (15 + n + 1) then f (15 + n + 1) else mxw f n
def clR (bl li : Int32) : Nat → Int32 :=
  upd (upd (upd (upd (upd (upd (upd (upd (fun _ => 0) 0 bl) 1 li) 2 1) 3 (-9)) 4 1) 12 (-9)) 13 (-9)) 14 (-9)
def zrF (f : Nat → Int32) (n : Nat) : Nat → Int32 := fun k => if k < n then 0 else f k
theorem zrF_s (f : Nat → Int32) (n : Nat) : zrF f (n + 1) = upd (zrF f n) n 0 := by
  funext k
  unfold zrF upd
  by_cases h : k = n
  · subst h; simp
  · rw [if_neg h]
    dsimp only
    by_cases h2 : k < n
    · rw [if_pos h2, if_pos (by omega)]
    · rw [if_neg h2, if_neg (by omega)]
theorem cpy_s (f g : Nat → Int32) (sp dp n : Nat) : va_cpy f g sp dp (n + 1) = upd (va_cpy f g sp dp n) (dp + n) (f (sp + n)) := by
  funext k
  unfold va_cpy upd
  by_cases h : k = dp + n
  · subst h
    rw [if_pos (by omega), if_pos rfl, show sp + (dp + n - dp) = sp + n by omega]
  · rw [if_neg h]
    dsimp only
    by_cases h2 : dp ≤ k ∧ k < dp + n
    · rw [if_pos h2, if_pos (by omega)]
    · rw [if_neg h2, if_neg (by omega)]
theorem cpy_0 (f g : Nat → Int32) (sp dp : Nat) : va_cpy f g sp dp 0 = g := by
  funext k
  unfold va_cpy
  rw [if_neg (by omega)]
def ten : Nat → Int64
  | 0 => 1
  | n + 1 => ten n * 10
