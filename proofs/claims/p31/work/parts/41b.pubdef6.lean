-- THE CLASS'S PUBLIC METHODS: what they refuse (1, 2: the exceptions in the order of the law), what they answer
def c6ap (n : Nat) (x : Int32) : Int32 := if ¬ x < 0 ∧ ¬ 255 < x then if 90 ≤ n then 2 else 0 else 1
def c6r (x a : Int32) : Int32 := if ¬ x < 0 ∧ ¬ a < x then 0 else 1
def c6pg (z : LgS) (x w : Int32) : Int32 := if pagP z.1.2 x then if ¬ w < 0 ∧ ¬ 4 < w then 0 else 2 else 1
def c6bl (z : LgS) (x w : Int32) : Int32 := if ¬ x < 0 ∧ x < nI z.1.2 ∧ x < 8 then if ¬ w < 0 ∧ ¬ 5 < w then 0 else 2 else 1
def c6get (z : LgS) (x : Int32) : Int32 := if inN x 16 then if z.1.1 = true then 0 else 2 else 1
def c6key (x : Int32) : Int32 := if inN x 16 then 0 else 1
def c6kat (x : Int32) : Int32 := if x < 0 then 1 else 0
def c6put (z : LgS) (x v : Int32) : Int32 := if inN x 16 ∧ (¬ v < 0 ∧ ¬ 999 < v) then if csV z = 0 then 2 else 0 else 1
def c6rem (z : LgS) (x : Int32) : Int32 := if inN x 16 then if vaZ z x = -9 ∨ csV z = 0 then 2 else 0 else 1
def c6swp (z : LgS) : Int32 := if oI (cvZ z) = -9 then 1 else 0
def c6cut (z : LgS) (x : Int32) : Int32 := if ¬ x < 0 ∧ ¬ 99 < x then if z.1.1 = true then 0 else 2 else 1
def c6sta (z : LgS) : Int32 := if z.1.1 = true then 1 else 0
def c6und (ct : Nat) : Int32 := if ct = 0 then 1 else 0
def c6ops (z : LgS) : Int32 := if csV z = 0 then 1 else 0
def c6afc (z : LgS) (x v w : Int32) : Int32 := if inN x 16 ∧ (¬ v < 0 ∧ ¬ 999 < v) ∧ (¬ w < 1 ∧ ¬ 99 < w) then if csV z = 0 then 2 else 0 else 1
def c6sim (x : Int32) : Int32 := if ¬ x < 1 ∧ ¬ 99 < x then 0 else 1
def c6sav (x : Int32) : Int32 := if inN x 2 then 0 else 1
def c6rst (uf : Nat → Int32) (x : Int32) : Int32 := if inN x 2 then if uf x.toNatClampNeg = 0 then 2 else 0 else 1
def c6ld (t : Nat → Int32) (n : Nat) : Int32 := if feV (feR t n) = -9 then 0 else 1
/-- x from 0 to a, as a number -/
theorem num_le {x : Int32} {a : Nat} (ha : a < 2 ^ 31) (h0 : ¬ x < 0) (h1 : ¬ nI a < x) : x = nI x.toNatClampNeg ∧ x.toNatClampNeg ≤ a := by
  have h2 : x ≤ nI a := Int32.not_lt.mp h1
  obtain ⟨j, hj, e⟩ := nI_of2 (x := x) (M := nI a) (nI_toInt ha) h0 h2
  have hc : x.toNatClampNeg = j := by rw [e]; exact nI_clamp (by omega)
  rw [hc]
  exact ⟨e, hj⟩
def abZ (z : LgS) (w : Nat) : Int32 := if w < 6 ∨ 10 < w then lgF (z.2.2 2) (z.2.2 4) (z.2.2 6) (z.2.2 7) z.1.2 z.1.1 (z.2.1 0) (z.2.1 1) (z.2.1 2) (z.2.1 3) w else tlF (z.2.1 5) (z.2.1 6) (z.2.1 7) (z.2.1 8) (z.2.1 9) w
def blZ (z : LgS) (x : Int32) (w : Nat) : Int32 := lbF (z.2.2 0) (z.2.2 4) (z.2.2 5) (z.2.2 7) z.1.2 z.1.1 (z.2.1 2) (z.2.1 3) x w
abbrev ckZ (z : LgS) (n : Nat) : Nat := ckV z.1.2 (z.2.2 2) (z.2.2 6) n
/-- the key number i of the first n -/
def kaF (z : LgS) (i : Int32) : Nat → Option Nat
  | 0 => none
  | n + 1 => match kaF z i n with
    | some k => some k
    | none => if ¬ vaZ z (nI n) = -9 ∧ nI (ckZ z n) = i then some n else none
theorem kaF_keep {z : LgS} {i : Int32} {j k : Nat} (h : kaF z i j = some k) : ∀ {n : Nat}, j ≤ n → kaF z i n = some k
  | 0, hn => by rw [show j = 0 by omega] at h; exact h
  | n + 1, hn => by
    by_cases e : j = n + 1
    · rw [← e]; exact h
    · rw [kaF, kaF_keep h (show j ≤ n by omega)]
theorem kaF_at {z : LgS} {i : Int32} {j n : Nat} (hj : j < n) (h : kaF z i j = none) (hv : ¬ vaZ z (nI j) = -9) (hi : nI (ckZ z j) = i) : kaF z i n = some j := by
  refine kaF_keep (j := j + 1) ?_ hj
  rw [kaF, h]
  exact if_pos ⟨hv, hi⟩
/-- the mark of a key's record -/
def mkZ (z : LgS) (x : Int32) : Int32 := tpZ z (at_ (z.2.2 6) 16 (-9) x) 3
def olF (z : LgS) : Nat → Option Nat
  | 0 => none
  | n + 1 => match olF z n with
    | none => if ¬ vaZ z (nI n) = -9 then some n else none
    | some o => if ¬ vaZ z (nI n) = -9 ∧ mkZ z (nI n) < mkZ z (nI o) then some n else some o
def olM (z : LgS) (o : Option Nat) : Int32 := match o with | none => 0 | some a => mkZ z (nI a)
theorem olF_lt {z : LgS} : ∀ {n o : Nat}, olF z n = some o → o < n
  | 0, o, h => by cases h
  | n + 1, o, h => by
    unfold olF at h
    cases hn : olF z n with
    | none =>
      rw [hn] at h
      dsimp only at h
      split at h
      · cases h; omega
      · cases h
    | some o2 =>
      rw [hn] at h
      have := olF_lt hn
      dsimp only at h
      split at h
      · cases h; omega
      · cases h; omega
theorem olF_n {z : LgS} {n : Nat} (h : vaZ z (nI n) = -9) : olF z (n + 1) = olF z n := by
  rw [olF]
  cases olF z n with
  | none => exact if_neg (fun y => y h)
  | some o => exact if_neg (fun y => y.1 h)
def wnV (z : LgS) : Int32 := if z.1.1 = true then if 0 < csV z then 0 else if hsF (z.2.2 0) (z.2.2 5) (z.2.1 3) z.1.2 = true then 3 else 2 else 1
