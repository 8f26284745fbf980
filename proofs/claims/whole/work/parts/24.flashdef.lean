-- THE CLASS'S FLASH: what its reading methods answer, by its arrays
theorem num0 {x : Int32} {k : Nat} (hk : k < 2 ^ 31) (h0 : ¬ x < 0) (h1 : x < nI k) : x = nI x.toNatClampNeg ∧ x.toNatClampNeg < k := by
  obtain ⟨j, hj, e⟩ := nI_of2 (x := x) (M := nI k) (nI_toInt hk) h0 (Int32.le_of_lt h1)
  have hc : x.toNatClampNeg = j := by rw [e]; exact nI_clamp (by omega)
  rw [e] at h1
  have := cn_lt (a := j) (b := k) (by omega) hk h1
  rw [hc]
  exact ⟨e, this⟩
abbrev inN (x : Int32) (k : Int32) : Prop := ¬ x < 0 ∧ x < k
abbrev pagP (B : Nat) (a : Int32) : Prop := ¬ a < 0 ∧ a < nI (4 * B) ∧ a < 32
def at_ (F : Nat → Int32) (k : Int32) (d : Int32) (x : Int32) : Int32 := if inN x k then F x.toNatClampNeg else d
def tpF (kd ky vl mk lv : Nat → Int32) (a : Nat) (w : Int32) : Int32 :=
  if w = 0 then kd a else if kd a = 1 then if w = 1 then ky a else if w = 2 then vl a else if w = 3 then mk a else lv a else -9
def tpV (kd ky vl mk lv : Nat → Int32) (a w : Int32) : Int32 := if inN a 32 then tpF kd ky vl mk lv a.toNatClampNeg w else -9
def vaV (B : Nat) (vl nw : Nat → Int32) (k : Int32) : Int32 := if pagP B (at_ nw 16 (-9) k) then vl (at_ nw 16 (-9) k).toNatClampNeg else -9
def ckV (B : Nat) (vl nw : Nat → Int32) : Nat → Nat
  | 0 => 0
  | n + 1 => ckV B vl nw n + if vaV B vl nw (nI n) = -9 then 0 else 1
theorem ckV_le {B : Nat} {vl nw : Nat → Int32} : ∀ n, ckV B vl nw n ≤ n
  | 0 => Nat.le_refl _
  | n + 1 => by
    have := ckV_le (B := B) (vl := vl) (nw := nw) n
    unfold ckV
    split <;> omega
def ctF (F : Nat → Int32) (b : Nat) (x : Int32) : Nat → Nat
  | 0 => 0
  | n + 1 => ctF F b x n + if F (4 * b + n) = x then 1 else 0
def ctV (F : Nat → Int32) (x b : Int32) : Int32 := if inN b 8 then nI (ctF F b.toNatClampNeg x 4) else 0
def slF (F : Nat → Int32) (b : Nat) : Nat → Int32
  | 0 => 0
  | n + 1 => slF F b n + F (4 * b + n)
def slV (F : Nat → Int32) (b : Int32) : Int32 := if inN b 8 then slF F b.toNatClampNeg 4 else 0
def tdF (kd lv : Nat → Int32) (b : Nat) : Nat → Bool
  | 0 => false
  | n + 1 => tdF kd lv b n || decide (¬ kd (4 * b + n) = 0 ∧ lv (4 * b + n) = 0)
abbrev tdP (kd lv : Nat → Int32) (b : Int32) : Prop := inN b 8 ∧ tdF kd lv b.toNatClampNeg 4 = true
theorem tdF_at {kd lv : Nat → Int32} {b j : Nat} : ∀ {n : Nat}, j < n → (¬ kd (4 * b + j) = 0 ∧ lv (4 * b + j) = 0) → tdF kd lv b n = true
  | 0, h, _ => absurd h (Nat.not_lt_zero _)
  | n + 1, h, hp => by
    unfold tdF
    by_cases e : j = n
    · subst e
      rw [decide_eq_true hp, Bool.or_true]
    · rw [tdF_at (show j < n by omega) hp, Bool.true_or]
def gmF (kd mk : Nat → Int32) (b : Nat) : Nat → Int32
  | 0 => 0
  | n + 1 => if kd (4 * b + n) = 1 ∧ gmF kd mk b n < mk (4 * b + n) then mk (4 * b + n) else gmF kd mk b n
def gmV (kd mk : Nat → Int32) (b : Int32) : Int32 := if inN b 8 then gmF kd mk b.toNatClampNeg 4 else 0
def cbF (fr : Nat → Int32) (op : Int32) : Nat → Nat
  | 0 => 0
  | n + 1 => cbF fr op n + if ¬ nI n = op ∧ fr n = 4 then 1 else 0
def lwF (fr wr : Nat → Int32) (op : Int32) : Nat → Option Nat
  | 0 => none
  | n + 1 => match lwF fr wr op n with
    | none => if ¬ nI n = op ∧ fr n = 4 then some n else none
    | some o => if (¬ nI n = op ∧ fr n = 4) ∧ wr n < wr o then some n else some o
def lwL (wr : Nat → Int32) : Option Nat → Int32 | none => 0 | some o => wr o
theorem lwF_lt {fr wr : Nat → Int32} {op : Int32} : ∀ {n o : Nat}, lwF fr wr op n = some o → o < n
  | 0, o, h => by cases h
  | n + 1, o, h => by
    unfold lwF at h
    cases hn : lwF fr wr op n with
    | none =>
      rw [hn] at h
      dsimp only at h
      split at h
      · cases h; omega
      · cases h
    | some o2 =>
      rw [hn] at h
      have := lwF_lt hn
      dsimp only at h
      split at h
      · cases h; omega
      · cases h; omega
