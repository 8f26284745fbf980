-- THE REFERENCE'S PUBLIC METHODS: what they refuse (R), what they answer (V)
theorem oR0 {R v x : Int32} (h : R = 0) : v = if R = 0 then v else x := (if_pos h).symm
theorem oRn {R k v : Int32} (h : R = k) (hk : k ≠ 0) : 0 = if R = 0 then v else 0 := (if_neg (by rw [h]; exact hk)).symm
theorem rng {x : Int32} {n : Nat} (hn : n < 2 ^ 31) (h : 0 ≤ x ∧ x ≤ nI n) : ∃ j : Nat, j ≤ n ∧ x = nI j := nI_of2 (nI_toInt hn) (i_nlt h.1) h.2
abbrev keyP (k : Int32) : Prop := 0 ≤ k ∧ k ≤ 15
abbrev valP (v : Int32) : Prop := 0 ≤ v ∧ v ≤ 999
def getR (f : Nat → Int32) (k : Int32) : Int32 := if keyP k then if f 2 = 0 then 2 else 0 else 1
def keyR (k : Int32) : Int32 := if keyP k then 0 else 1
def katR (i : Int32) : Int32 := if i < 0 then 1 else 0
/-- the key number i of the first n keys, if it is among them; else how many have a value -/
def kat (f : Nat → Int32) (B : Nat) (i : Int32) : Nat → Option Nat
  | 0 => none
  | n + 1 => match kat f B i n with
    | some k => some k
    | none => if vlu f (nI n) B ≠ -9 ∧ nI (kys f B n) = i then some n else none
def rg2R (w : Int32) (n : Int32) : Int32 := if 0 ≤ w ∧ w ≤ n then 0 else 1
def abV (f : Nat → Int32) (B j : Nat) : Int32 :=
  if j = 4 then nI (cln f B) else if j = 5 then nI (kys f B 16) else if 6 ≤ j ∧ j ≤ 10 then f (j + 1) else if j = 11 then f 5 else if j = 12 then f 6 else if j = 13 then mxw f (B - 1) - mnw f (B - 1) else f j
def pgR (B : Nat) (a w : Int32) : Int32 := if 0 ≤ a ∧ a ≤ nI (4 * B - 1) then if 0 ≤ w ∧ w ≤ 4 then 0 else 2 else 1
def pgV (f : Nat → Int32) (B j : Nat) (w : Nat) : Int32 := if w = 0 then pg f j 0 else if pg f j 0 = 1 then if w < 4 then pg f j w else bI (livP f B j) else -9
def blR (B : Nat) (a w : Int32) : Int32 := if 0 ≤ a ∧ a ≤ nI (B - 1) then if 0 ≤ w ∧ w ≤ 5 then 0 else 2 else 1
def blV (f : Nat → Int32) (B j : Nat) (w : Nat) : Int32 :=
  if w = 0 then f (15 + j) else if w = 1 then nI (lvs f B j 4) else if w = 2 then nI (cst f j 0 4) else if w = 3 then nI (cst f j 2 4) else if w = 4 then bI (¬ f (15 + j) < f 1) else bI (f 2 = 1 ∧ vicP f B (opn f) j)
def putR (f : Nat → Int32) (B : Nat) (k v : Int32) : Int32 := if keyP k ∧ valP v then if rmP f B then 0 else 2 else 1
def remR (f : Nat → Int32) (B : Nat) (k : Int32) : Int32 := if keyP k then if rmP f B ∧ vlu f k B ≠ -9 then 0 else 2 else 1
def cutRf (f : Nat → Int32) (n : Int32) : Int32 := if 0 ≤ n ∧ n ≤ 99 then if f 2 = 0 then 2 else 0 else 1
def afcR (f : Nat → Int32) (B : Nat) (k v n : Int32) : Int32 := if keyP k ∧ valP v ∧ (1 ≤ n ∧ n ≤ 99) then if rmP f B then 0 else 2 else 1
/-- the mark of a key's record -/
def nmk (f : Nat → Int32) (key : Int32) (B : Nat) : Int32 := match nwst f key (4 * B) with
  | none => 0
  | some a => pg f a 3
theorem vlu_some {f : Nat → Int32} {key : Int32} {B : Nat} (h : ¬ vlu f key B = -9) : ∃ a, nwst f key (4 * B) = some a := by
  unfold vlu at h
  split at h
  · exact absurd rfl h
  · rename_i a ha
    exact ⟨a, ha⟩
/-- the oldest of the first n keys -/
def old (f : Nat → Int32) (B : Nat) : Nat → Option Nat
  | 0 => none
  | n + 1 => match old f B n with
    | none => if vlu f (nI n) B ≠ -9 then some n else none
    | some o => if vlu f (nI n) B ≠ -9 ∧ nmk f (nI n) B < nmk f (nI o) B then some n else some o
theorem old_lt {f : Nat → Int32} {B : Nat} : ∀ {n o : Nat}, old f B n = some o → o < n ∧ ¬ vlu f (nI o) B = -9
  | 0, o, h => by cases h
  | n + 1, o, h => by
    unfold old at h
    cases hn : old f B n with
    | none =>
      rw [hn] at h
      dsimp only at h
      split at h
      · rename_i hv; cases h; exact ⟨by omega, hv⟩
      · cases h
    | some o2 =>
      rw [hn] at h
      have := old_lt hn
      dsimp only at h
      split at h
      · rename_i hv; cases h; exact ⟨by omega, hv.1⟩
      · cases h; exact ⟨by omega, this.2⟩
theorem i_nlt0 {x : Int32} (h : ¬ ¬ x < 0) : x < 0 := Classical.not_not.mp h
theorem kat_keep {f : Nat → Int32} {B : Nat} {i : Int32} {j k : Nat} (h : kat f B i j = some k) : ∀ {n : Nat}, j ≤ n → kat f B i n = some k
  | 0, hn => by rw [show j = 0 by omega] at h; exact h
  | n + 1, hn => by
    by_cases e : j = n + 1
    · rw [← e]; exact h
    · rw [kat, kat_keep h (show j ≤ n by omega)]
theorem kat_at {f : Nat → Int32} {B : Nat} {i : Int32} {j n : Nat} (hj : j < n) (h : kat f B i j = none) (hv : ¬ vlu f (nI j) B = -9) (hi : nI (kys f B j) = i) : kat f B i n = some j := by
  refine kat_keep (j := j + 1) ?_ hj
  rw [kat, h]
  exact if_pos ⟨hv, hi⟩
theorem puG_0 {f : Nat → Int32} : puG f 0 = f 0 := by rw [puG, pk_un (by decide), pk_un (by decide)]
theorem puH_k {g : Nat → Int32} {o : Option Nat} {k : Nat} (h : k ≠ 4) : puH g o k = g k := by
  cases o with
  | none => exact pk_un h
  | some a => exact pk_un h
theorem puH_3 {f : Nat → Int32} {o : Option Nat} : puH (puG f) o 3 = -9 := by rw [puH_k (by decide), puG, pk_us]
theorem Wf_9 {g : Nat → Int32} {B : Nat} (h0 : g 0 = nI B) (hB : B ≤ 8) (o : Option Nat) (h3 : g 3 = oI o) (ho : ∀ b, o = some b → b < 8) : Wf g B := by
  have e := opn_of h3 ho
  exact ⟨h0, hB, by rw [e]; exact h3, by rw [e]; exact ho⟩
theorem Wf_pu {f : Nat → Int32} {B : Nat} (h : Wf f B) : Wf (puR f B) B := by
  have h8 := h.2.1
  unfold puR
  cases hn : nwa (puG f) (4 * B) with
  | none =>
    dsimp only
    exact Wf_9 (by rw [puH_k (by decide), puG_0]; exact h.1) h8 none puH_3 (fun b hb => by cases hb)
  | some a =>
    have ha := nwa_lt hn
    dsimp only
    split
    · exact Wf_9 (by rw [pk_un (by decide), puH_k (by decide), puG_0]; exact h.1) h8 (some (a / 4)) pk_us (fun b hb => by cases hb; omega)
    · exact Wf_9 (by rw [puH_k (by decide), puG_0]; exact h.1) h8 none puH_3 (fun b hb => by cases hb)
def swpR (f : Nat → Int32) (B : Nat) : Int32 := if vcm f B (opn f) = none then 1 else 0
def staR (f : Nat → Int32) : Int32 := if f 2 = 1 then 1 else 0
def undR (ac : Nat) : Int32 := if ac = 0 then 1 else 0
def opsR (f : Nat → Int32) (B : Nat) : Int32 := if rmP f B then 0 else 1
/-- row i of a row of rows -/
def rowA (d : Nat → Int32) (i : Nat) : Nat → Int32 := fun k => d (151 * i + k)
theorem rowA_c {d g : Nat → Int32} {i k : Nat} (h : k < 151) : va_cpy d g (151 * i) 0 151 k = rowA d i k := by
  unfold va_cpy rowA
  rw [if_pos ⟨Nat.zero_le _, by omega⟩, Nat.sub_zero]
