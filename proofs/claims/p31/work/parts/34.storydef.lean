-- THE CLASS'S STORY: t the text, n its length, q the reader's place
def crV (t : Nat → Int32) (n q : Nat) : Int32 := if q < n then t q else -9
def coF (x : Int32) : Int32 := if x = 112 then 1 else if x = 100 then 2 else if x = 119 then 3 else if x = 99 then 4 else if x = 115 then 5 else if x = 113 then 9 else -9
theorem co6 (x : Int32) : x = 99 ∨ x = 100 ∨ x = 112 ∨ x = 113 ∨ x = 115 ∨ x = 119 ∨ (¬ x = 99 ∧ ¬ x = 100 ∧ ¬ x = 112 ∧ ¬ x = 113 ∧ ¬ x = 115 ∧ ¬ x = 119) := by
  by_cases h1 : x = 99
  · exact Or.inl h1
  · by_cases h2 : x = 100
    · exact Or.inr (Or.inl h2)
    · by_cases h3 : x = 112
      · exact Or.inr (Or.inr (Or.inl h3))
      · by_cases h4 : x = 113
        · exact Or.inr (Or.inr (Or.inr (Or.inl h4)))
        · by_cases h5 : x = 115
          · exact Or.inr (Or.inr (Or.inr (Or.inr (Or.inl h5))))
          · by_cases h6 : x = 119
            · exact Or.inr (Or.inr (Or.inr (Or.inr (Or.inr (Or.inl h6)))))
            · exact Or.inr (Or.inr (Or.inr (Or.inr (Or.inr (Or.inr ⟨h1, h2, h3, h4, h5, h6⟩)))))
/-- m digits more: what was read, where the reader stands -/
def rdN (t : Nat → Int32) (n : Nat) (low high : Int32) : Nat → Int32 → Int32 → Nat → Int32 × Nat
  | 0, _, rd, q => (rd / 10, q)
  | m + 1, sp, rd, q =>
    if crV t n q - 48 < 0 then (-9, q) else if 9 < crV t n q - 48 then (-9, q)
    else if high < (rd + (crV t n q - 48)) * (sp / 10) then (-9, q) else if (rd + (crV t n q - 48)) * (sp / 10) + sp / 10 - 1 < low then (-9, q)
    else rdN t n low high m (sp / 10) ((rd + (crV t n q - 48)) * 10) (q + 1)
def pw10 : Nat → Int32
  | 0 => 1
  | n + 1 => pw10 n * 10
abbrev rdV (t : Nat → Int32) (n q m : Nat) (low high : Int32) : Int32 × Nat := rdN t n low high m (pw10 m) 0 q
theorem crV_in {t : Nat → Int32} {n q : Nat} (h : ¬ crV t n q - 48 < 0) : q < n := by
  by_cases hq : q < n
  · exact hq
  · exfalso
    apply h
    rw [crV, if_neg hq]
    decide
theorem rdN_le {t : Nat → Int32} {n : Nat} {low high : Int32} : ∀ {m : Nat} {sp rd : Int32} {q : Nat}, q ≤ n → (rdN t n low high m sp rd q).2 ≤ n
  | 0, sp, rd, q, h => h
  | m + 1, sp, rd, q, h => by
    rw [rdN]
    split
    · exact h
    · rename_i h0
      have := crV_in h0
      split
      · exact h
      · split
        · exact h
        · split
          · exact h
          · exact rdN_le (by omega)
/-- readCommand: (what it answers, the place), command, key, number -/
def rcN (t : Nat → Int32) (n q : Nat) (cm ky : Int32) : (Bool × Nat) × (Int32 × Int32 × Int32) :=
  if cm = 1 then ((!decide ((rdV t n q 3 0 999).1 = -9), (rdV t n q 3 0 999).2), (cm, ky, (rdV t n q 3 0 999).1))
  else if cm = 4 then ((!decide ((rdV t n q 2 0 99).1 = -9), (rdV t n q 2 0 99).2), (cm, ky, (rdV t n q 2 0 99).1))
  else if cm = 9 then ((!decide ((rdV t n q 1 0 2).1 = -9), (rdV t n q 1 0 2).2), (cm, ky, (rdV t n q 1 0 2).1))
  else ((true, q), (cm, ky, 0))
def rcF (t : Nat → Int32) (n q : Nat) (ky nu : Int32) : (Bool × Nat) × (Int32 × Int32 × Int32) :=
  if coF (crV t n q) = -9 then ((false, q), (-9, ky, nu))
  else if coF (crV t n q) = 1 ∨ coF (crV t n q) = 2 then
    if (rdV t n (q + 1) 2 0 15).1 = -9 then ((false, (rdV t n (q + 1) 2 0 15).2), (coF (crV t n q), (rdV t n (q + 1) 2 0 15).1, 0))
    else rcN t n (rdV t n (q + 1) 2 0 15).2 (coF (crV t n q)) (rdV t n (q + 1) 2 0 15).1
  else rcN t n (q + 1) (coF (crV t n q)) 0
theorem crV_is {t : Nat → Int32} {n q : Nat} {k : Int32} (h : crV t n q = k) (hk : ¬ k = -9) : q < n := by
  by_cases hq : q < n
  · exact hq
  · rw [crV, if_neg hq] at h
    exact absurd h.symm hk
theorem coF_in {t : Nat → Int32} {n q : Nat} (h : ¬ coF (crV t n q) = -9) : q < n := by
  by_cases hq : q < n
  · exact hq
  · exfalso
    apply h
    rw [crV, if_neg hq]
    decide
/-- readChip: (what it answers, the place), blocks, life -/
def rch (t : Nat → Int32) (n : Nat) (bl lf : Int32) : (Bool × Nat) × (Int32 × Int32) :=
  if crV t n 0 = 70 then
    if (rdV t n 1 1 3 8).1 = -9 then ((false, (rdV t n 1 1 3 8).2), ((rdV t n 1 1 3 8).1, lf))
    else ((!decide ((rdV t n (rdV t n 1 1 3 8).2 2 1 99).1 = -9), (rdV t n (rdV t n 1 1 3 8).2 2 1 99).2), ((rdV t n 1 1 3 8).1, (rdV t n (rdV t n 1 1 3 8).2 2 1 99).1))
  else ((false, 0), (bl, lf))
theorem rch_1 {t : Nat → Int32} {n : Nat} {bl lf bl2 lf2 : Int32} : (rch t n bl lf).1 = (rch t n bl2 lf2).1 := by
  unfold rch
  split
  · split <;> rfl
  · rfl
theorem rcF_1 {t : Nat → Int32} {n q : Nat} {ky nu ky2 nu2 : Int32} : (rcF t n q ky nu).1 = (rcF t n q ky2 nu2).1 := by
  unfold rcF
  split
  · rfl
  · split
    · split <;> rfl
    · rfl
theorem rch_le {t : Nat → Int32} {n : Nat} {bl lf : Int32} : (rch t n bl lf).1.2 ≤ n := by
  unfold rch
  split
  · rename_i h
    have := crV_is h (by decide)
    split
    · exact rdN_le (by omega)
    · exact rdN_le (rdN_le (by omega))
  · exact Nat.zero_le _
theorem rcN_le {t : Nat → Int32} {n q : Nat} {cm ky : Int32} (h : q ≤ n) : (rcN t n q cm ky).1.2 ≤ n := by
  unfold rcN
  split
  · exact rdN_le h
  · split
    · exact rdN_le h
    · split
      · exact rdN_le h
      · exact h
theorem rcF_le {t : Nat → Int32} {n q : Nat} {ky nu : Int32} (h : q ≤ n) : (rcF t n q ky nu).1.2 ≤ n := by
  unfold rcF
  split
  · exact h
  · rename_i h0
    have := coF_in h0
    split
    · split
      · exact rdN_le (by omega)
      · exact rcN_le (rdN_le (by omega))
    · exact rcN_le (by omega)
/-- firstError's loop -/
def feL (t : Nat → Int32) (n : Nat) : Nat → Bool × Nat → Bool × Nat
  | 0, s => s
  | m + 1, s => if s.1 = true ∧ s.2 < n then feL t n m (rcF t n s.2 0 0).1 else s
def feR (t : Nat → Int32) (n : Nat) : Bool × Nat := feL t n 90 (rch t n 0 0).1
def feV (s : Bool × Nat) : Int32 := if s.1 = true then -9 else nI s.2
theorem feL_le {t : Nat → Int32} {n : Nat} : ∀ {m : Nat} {s : Bool × Nat}, s.2 ≤ n → (feL t n m s).2 ≤ n
  | 0, s, h => h
  | m + 1, s, h => by
    rw [feL]
    split
    · exact feL_le (rcF_le h)
    · exact h
