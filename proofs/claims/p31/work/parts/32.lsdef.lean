-- A LOG AS ONE VALUE: (on, blocks), its numbers (0 policy, 1 cutIn, 2 life, 3 open, 4 nextMark, 5.. the tally), its arrays (0 kinds, 1 keys, 2 values, 3 marks, 4 wears, 5 live, 6 newest, 7 free)
abbrev LgS : Type := (Bool × Nat) × (Nat → Int32) × (Nat → Nat → Int32)
abbrev tpZ (z : LgS) (a w : Int32) : Int32 := tpV (z.2.2 0) (z.2.2 1) (z.2.2 2) (z.2.2 3) (z.2.2 5) a w
abbrev cvZ (z : LgS) : Option Nat := cvF (z.2.2 0) (z.2.2 3) (z.2.2 4) (z.2.2 5) (z.2.2 7) z.1.2 z.1.1 (z.2.1 2) (z.2.1 3) (z.2.1 0) z.1.2
/-- a page is torn: the power goes off -/
def lsW1 (z : LgS) (a : Nat) (sw : Bool) : LgS :=
  ((false, z.1.2), upd (upd (upd (upd (upd (upd (upd z.2.1 3 (-9)) 1 (z.2.1 1 - 1)) 5 (z.2.1 5 + 1)) 9 (z.2.1 9 + 1)) 10 (nI a)) 11 (bI (false = true))) 12 (bI (sw = true)),
    va_up (va_up z.2.2 0 (upd (z.2.2 0) a 2)) 7 (upd (z.2.2 7) (a / 4) (z.2.2 7 (a / 4) - 1)))
/-- a page is written -/
def lsW2 (z : LgS) (a k : Nat) (x : Int32) (sw : Bool) : LgS :=
  ((z.1.1, z.1.2), upd (upd (upd (upd (upd z.2.1 1 (icC (z.2.1 1))) 4 (z.2.1 4 + 1)) 5 (z.2.1 5 + 1)) 6 (z.2.1 6 + 1)) 7 (z.2.1 7 + bI (sw = true)),
    va_up (va_up (va_up (va_up (va_up (va_up (va_up z.2.2 0 (upd (z.2.2 0) a 1)) 1 (upd (z.2.2 1) a (nI k))) 2 (upd (z.2.2 2) a x)) 3 (upd (z.2.2 3) a (z.2.1 4))) 5 (lvW (z.2.2 5) (z.2.2 6) a k)) 6 (upd (z.2.2 6) k (nI a))) 7 (upd (z.2.2 7) (a / 4) (z.2.2 7 (a / 4) - 1)))
/-- the arrays behind a wipe -/
def wpF (F : Nat → Nat → Int32) (b : Nat) (x : Int32) : Nat → Nat → Int32 :=
  va_up (va_up (va_up (va_up (va_up F 0 (k4 (F 0) b x 4)) 4 (upd (F 4) b (F 4 b + 1))) 5 (lvR (k4 (F 0) b x 4) (F 1) (F 2) (F 3))) 6 (nwR (k4 (F 0) b x 4) (F 1) (F 3))) 7 (upd (F 7) b (if x = 0 then 4 else 0))
def lsE1 (z : LgS) (b : Nat) : LgS :=
  ((false, z.1.2), upd (upd (upd (upd (upd (upd (upd z.2.1 3 (-9)) 1 (z.2.1 1 - 1)) 5 (z.2.1 5 + 1)) 9 (z.2.1 9 + 1)) 10 (nI (4 * b))) 11 (bI (true = true))) 12 (bI (true = true)), wpF z.2.2 b 2)
def lsE2 (z : LgS) (b : Nat) : LgS :=
  ((z.1.1, z.1.2), upd (upd (upd z.2.1 1 (icC (z.2.1 1))) 5 (z.2.1 5 + 1)) 8 (z.2.1 8 + 1), wpF z.2.2 b 0)
abbrev frZ (z : LgS) : Int32 := at_ (z.2.2 7) 8 0 (z.2.1 3)
abbrev cbZ (z : LgS) : Nat := cbF (z.2.2 7) (z.2.1 3) z.1.2
abbrev lwZ (z : LgS) : Int32 := oI (lwF (z.2.2 7) (z.2.2 4) (z.2.1 3) z.1.2)
/-- the clean block with the least wear is opened -/
def tkO (z : LgS) : LgS := (z.1, upd z.2.1 3 (lwZ z), z.2.2)
/-- takePage(n) -/
def tkN (n : Nat) (z : LgS) : Option (Int32 × LgS) :=
  if frZ z = 0 then if cbZ z < n then none else some (4 * (lwZ z + 1) - at_ (z.2.2 7) 8 0 (lwZ z), tkO z) else some (4 * (z.2.1 3 + 1) - frZ z, z)
/-- the mask of what is live in block b -/
def lvM (z : LgS) (b : Nat) : Nat → Int32
  | 0 => 0
  | n + 1 => if tpZ z (nI (4 * b + n)) 4 = 1 then lvM z b n ||| ((1 : Int32) <<< (nI n &&& 31)) else lvM z b n
/-- one copy, then k -/
def slS (v : Int32) (key x : Int32) (z : LgS) (k : LgS → Option (Bool × LgS)) : Option (Bool × LgS) :=
  if inN v 32 ∧ inN key 16 then if icP (z.2.1 1) then some (false, lsW1 z v.toNatClampNeg true) else k (lsW2 z v.toNatClampNeg key.toNatClampNeg x true) else none
/-- the copies of block b by the mask M: m pages from q on -/
def slp (b : Nat) (M : Int32) : Nat → Nat → LgS → Option (Bool × LgS)
  | 0, _, z => some (true, z)
  | m + 1, q, z => if (M >>> (nI q &&& 31)) &&& 1 = 0 then slp b M m (q + 1) z else match tkN 1 z with
    | none => none
    | some (v, z1) => slS v (tpZ z (nI (4 * b + q)) 1) (tpZ z (nI (4 * b + q)) 2) z1 (slp b M m (q + 1))
def sbE (b : Nat) : Option (Bool × LgS) → Option (Int32 × LgS)
  | none => none
  | some (false, z) => some (-2, z)
  | some (true, z) => if icP (z.2.1 1) then some (-2, lsE1 z b) else some (nI b, lsE2 z b)
/-- sweepBlock -/
def sbl (b : Nat) (z : LgS) : Option (Int32 × LgS) := sbE b (slp b (lvM z b 4) 4 0 z)
theorem lsW1_B (z : LgS) (a : Nat) (sw : Bool) : (lsW1 z a sw).1.2 = z.1.2 := rfl
/-- a record is written at the page v -/
def stW (v : Int32) (key : Nat) (x : Int32) (z : LgS) : Option (Int32 × LgS) :=
  if inN v 32 then if icP (z.2.1 1) then some (-2, lsW1 z v.toNatClampNeg false) else some (nI v.toNatClampNeg, lsW2 z v.toNatClampNeg key x false) else none
/-- store, with m rounds left -/
def stL (key : Nat) (x : Int32) : Nat → LgS → Option (Int32 × LgS)
  | 0, z => some (-9, z)
  | m + 1, z => match tkN 2 z with
    | some (v, z1) => stW v key x z1
    | none => match cvZ z with
      | none => some (-9, z)
      | some b => match sbl b z with
        | none => none
        | some (w, z2) => if w = -2 then some (-2, z2) else stL key x m z2
theorem slp_B {b : Nat} {M : Int32} : ∀ {m q : Nat} {z z2 : LgS} {ok : Bool}, slp b M m q z = some (ok, z2) → z2.1.2 = z.1.2
  | 0, q, z, z2, ok, h => by cases h; rfl
  | m + 1, q, z, z2, ok, h => by
    rw [slp] at h
    split at h
    · exact slp_B h
    · cases ht : tkN 1 z with
      | none => rw [ht] at h; cases h
      | some p =>
        obtain ⟨v, z1⟩ := p
        have h1 : z1.1.2 = z.1.2 := by
          rw [tkN] at ht
          split at ht
          · split at ht
            · cases ht
            · cases ht; rfl
          · cases ht; rfl
        rw [ht] at h
        dsimp only at h
        rw [slS] at h
        split at h
        · split at h
          · cases h; exact h1
          · exact (slp_B h).trans h1
        · cases h
theorem sbl_B {b : Nat} {z z2 : LgS} {w : Int32} (h : sbl b z = some (w, z2)) : z2.1.2 = z.1.2 := by
  rw [sbl] at h
  rcases hC : slp b (lvM z b 4) 4 0 z with _ | ⟨ok, zf⟩
  · rw [hC] at h; cases h
  · rw [hC] at h
    have := slp_B hC
    cases ok
    · cases h; exact this
    · rw [sbE] at h
      split at h
      · cases h; exact this
      · cases h; exact this
