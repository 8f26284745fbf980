-- lasts: how often the key can be put
def laZ (k : Nat) : Nat → LgS → Nat
  | 0, _ => 0
  | m + 1, z => if (stT k 0 z).1 = -9 then 0 else 1 + laZ k m (stT k 0 z).2
def laV (z : LgS) (k : Nat) : Int32 := if z.1.1 = true then nI (laZ k 300 (zC z 0)) else 0
/-- afterCut: the copy behind the put with a cut -/
abbrev afZ (z : LgS) (k : Nat) (v : Int32) (n : Nat) : LgS := zSw (stT k v (zC z (nI n))).2
theorem zSw_on {z : LgS} (h : z.1.1 = true) : zSw z = z := if_pos h
theorem num_in {x : Int32} {j : Nat} (hj : j < 2 ^ 31) (h : inN x (nI j)) : x = nI x.toNatClampNeg ∧ x.toNatClampNeg < j := num0 hj h.1 h.2
theorem n_one {x : Int32} (h1 : ¬ x < 1) (h2 : ¬ 99 < x) : x = nI x.toNatClampNeg ∧ 1 ≤ x.toNatClampNeg ∧ x.toNatClampNeg ≤ 99 := num_of (k := 99) (by decide) ⟨Int32.not_lt.mp h1, Int32.not_lt.mp h2⟩
theorem cs_ne {z : LgS} (h : ¬ csV z = 0) : z.1.1 = true := cs_on2 h
