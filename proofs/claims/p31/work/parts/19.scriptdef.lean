-- scripts: a group's digits, what it says, what it does
def da (g : Nat) : Nat := g / 100 % 10
def bo (g : Nat) : Nat := 10 * (g / 10 % 10) + g % 10
abbrev dsP (f : Nat → Int32) (B g : Nat) : Prop :=
  if g / 1000 = 1 then rmP f B
  else if g / 1000 = 2 then bo g = 0 ∧ dRmP f B (nI (da g))
  else if g / 1000 = 3 then (da g = 0 ∧ bo g = 0) ∧ ¬ (swpT f B).1 = -9
  else if g / 1000 = 4 then da g = 0 ∧ ¬ f 2 = 0
  else if g / 1000 = 5 then (da g = 0 ∧ bo g = 0) ∧ ¬ f 2 = 1
  else if g / 1000 = 6 then f 2 = 1 ∧ vlu f (nI (da g)) B = nI (bo g)
  else if g / 1000 = 7 then da g < B ∧ ¬ nI (bo g) < f (15 + da g)
  else if g / 1000 = 8 then (da g = 0 ∧ g / 10 % 10 = 0) ∧ g % 10 ≤ cln f B
  else if g / 1000 = 9 then da g = 0 ∧ bo g ≤ 2
  else False
def dsR (f : Nat → Int32) (B g : Nat) : Nat → Int32 :=
  if g / 1000 = 1 then dPut f B (nI (da g)) (nI (bo g))
  else if g / 1000 = 2 then if bo g = 0 then dRem f B (nI (da g)) else f
  else if g / 1000 = 3 then if da g = 0 ∧ bo g = 0 then (swpT f B).2 else f
  else if g / 1000 = 4 then if da g = 0 then dCut f (nI (bo g)) else f
  else if g / 1000 = 5 then if da g = 0 ∧ bo g = 0 then dSta f B else f
  else if g / 1000 = 9 then if da g = 0 ∧ bo g ≤ 2 then upd f 6 (nI (bo g)) else f
  else f
theorem isB_iff {d B : Nat} (hd : d < 10) (hB1 : 1 ≤ B) (hB : B ≤ 8) : (0 ≤ nI d ∧ nI d ≤ nI (B - 1)) ↔ d < B := by
  constructor
  · intro h
    have := cn_le (a := d) (b := B - 1) (by omega) (by omega) h.2
    omega
  · intro h
    exact ⟨nI_pos' (by omega), nI_le (by omega) (by omega)⟩
-- runScript, simulate
theorem ten_eq : ∀ n, ten n = lN (10 ^ n)
  | 0 => rfl
  | n + 1 => by
    rw [ten, ten_eq n, show (10 : Int64) = lN 10 from rfl, lN_mul, Nat.pow_succ]
def grp (n T k : Nat) : Nat := T / 10 ^ (4 * (n - 1 - k)) % 10000
def rsR (n : Int32) (told : Int64) : Int32 := if 1 ≤ n ∧ n ≤ 4 then if 0 ≤ told ∧ told ≤ ten (4 * n.toNatClampNeg) - 1 then 0 else 1 else 1
/-- runScript's loop: la is the answer -/
def scL (B n T : Nat) (la : Option Nat) : Nat → (Nat → Int32) → Nat → Prop
  | 0, _, _ => False
  | m + 1, f, k => if k < n then Ok f B ∧ (if dsP f B (grp n T k) then scL B n T la m (dsR f B (grp n T k)) (k + 1) else la = some k) else la = none
def rdU (f : Nat → Int32) (B : Nat) : Nat → Int32 := if f 2 = 0 then puR f B else f
/-- a round of a simulation -/
def rdR (f : Nat → Int32) (B q : Nat) : Nat → Int32 :=
  if q % 8 = 0 then dRem (rdU f B) B (nI (q / 8 % 16)) else if q % 8 = 1 then upd (rdU f B) 5 (nI (1 + q / 8 % 20)) else dPut (rdU f B) B (nI (q / 8 % 16)) (nI (q / 128 % 1000))
def nxL (x : Int64) : Int64 := x * 6364136223846793005 + 1442695040888963407
def rnd (x : Int64) : Nat := x.toBitVec.toNat / 2 ^ 33
theorem rnd_lt (x : Int64) : rnd x < 2 ^ 31 := by
  unfold rnd
  have := x.toBitVec.isLt
  omega
/-- simulate's loop: f9 is the row at the end -/
def smL (B m : Nat) (f9 : Nat → Int32) : Nat → Int64 → (Nat → Int32) → Nat → Prop
  | 0, _, _, _ => False
  | n + 1, x, f, k => if k < m then Wf f B ∧ Ok (rdU f B) B ∧ smL B m f9 n (nxL x) (rdR f B (rnd (nxL x))) (k + 1) else f = f9
theorem lush (x : Int64) : (x.toUInt64 >>> ((33 : Int32).toInt64.toUInt64 &&& Int64.toUInt64 63)).toInt64 = lN (rnd x) := by
  have e : ((33 : Int32).toInt64.toUInt64 &&& Int64.toUInt64 63) = 33 := by decide
  rw [e]
  apply Int64.toBitVec_inj.mp
  show (x.toUInt64 >>> 33).toBitVec = (Int64.ofNat (rnd x)).toBitVec
  apply BitVec.eq_of_toNat_eq
  have h1 : (x.toUInt64 >>> 33).toBitVec.toNat = x.toBitVec.toNat / 2 ^ 33 := by
    rw [UInt64.toBitVec_shiftRight]
    simp [Nat.shiftRight_eq_div_pow]
  have h2 : (Int64.ofNat (rnd x)).toBitVec.toNat = rnd x % 2 ^ 64 := by
    simp [Int64.toBitVec_ofNat']
  rw [h1, h2]
  have := rnd_lt x
  unfold rnd at this ⊢
  omega
theorem grp_eq {T n k : Nat} (hT : T < 2 ^ 63) (hn : n ≤ 4) : lN T / ten (4 * (n - 1 - k)) - lN T / ten (4 * (n - 1 - k)) / 10000 * 10000 = lN (grp n T k) := by
  have hp : 10 ^ (4 * (n - 1 - k)) ≤ 10 ^ 16 := Nat.pow_le_pow_right (by decide) (by omega)
  have h0 : 0 < 10 ^ (4 * (n - 1 - k)) := Nat.pow_pos (by decide)
  have h16 : (10 : Nat) ^ 16 < 2 ^ 63 := by decide
  rw [ten_eq, pk_lDiv hT h0 (by omega), show (10000 : Int64) = lN 10000 from rfl]
  exact pk_lRem (Nat.lt_of_le_of_lt (Nat.div_le_self _ _) hT) (by decide) (by decide)
theorem num_of {x : Int32} {k : Nat} (hk : k < 2 ^ 31) (h : 1 ≤ x ∧ x ≤ nI k) : x = nI x.toNatClampNeg ∧ 1 ≤ x.toNatClampNeg ∧ x.toNatClampNeg ≤ k := by
  have h0 : (0 : Int32) ≤ x := by
    rw [Int32.le_iff_toInt_le]
    have := Int32.le_iff_toInt_le.mp h.1
    have e1 : (1 : Int32).toInt = 1 := by decide
    have e0 : (0 : Int32).toInt = 0 := by decide
    omega
  obtain ⟨j, hj, e⟩ := rng hk ⟨h0, h.2⟩
  have hc : x.toNatClampNeg = j := by rw [e]; exact nI_clamp (by omega)
  have h1 := h.1
  rw [e] at h1
  have := cn_le (a := 1) (b := j) (by decide) (by omega) h1
  rw [hc]
  exact ⟨e, this, hj⟩
theorem lnum_of {x : Int64} (h : 0 ≤ x) : x = lN x.toInt.toNat ∧ x.toInt.toNat < 2 ^ 63 := by
  obtain ⟨k, hk, e⟩ := pk_lOf (x := x) (fun z => absurd h (Int64.not_le.mpr z))
  have hc : x.toInt.toNat = k := by rw [e, pk_lT hk]; rfl
  rw [hc]
  exact ⟨e, hk⟩
theorem ten_ne {n : Nat} (h : n ≤ 16) : ¬ ten n = 0 := by
  rw [ten_eq]
  intro z
  have hp : 10 ^ n ≤ 10 ^ 16 := Nat.pow_le_pow_right (by decide) h
  have h0 : 0 < 10 ^ n := Nat.pow_pos (by decide)
  have h16 : (10 : Nat) ^ 16 < 2 ^ 63 := by decide
  have := (pk_lEQ (a := 10 ^ n) (b := 0) (by omega) (by decide)).mp z
  omega
def rg1R (w : Int32) (n : Int32) : Int32 := if 1 ≤ w ∧ w ≤ n then 0 else 1
