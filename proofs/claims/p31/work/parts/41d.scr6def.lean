-- load, runScript, simulate of the class
def rcQ (t : Nat → Int32) (n q : Nat) : Nat := (rcF t n q 0 0).1.2
def rcC (t : Nat → Int32) (n q : Nat) : Nat := (rcF t n q 0 0).2.1.toNatClampNeg
def rcK (t : Nat → Int32) (n q : Nat) : Nat := (rcF t n q 0 0).2.2.1.toNatClampNeg
def rcX (t : Nat → Int32) (n q : Nat) : Int32 := (rcF t n q 0 0).2.2.2
def chQ (t : Nat → Int32) (n : Nat) : Nat := (rch t n 0 0).1.2
def chB (t : Nat → Int32) (n : Nat) : Nat := (rch t n 0 0).2.1.toNatClampNeg
def chL (t : Nat → Int32) (n : Nat) : Nat := (rch t n 0 0).2.2.toNatClampNeg
/-- load's loop, from the place q: the Log, how many were left out -/
def ldz (t : Nat → Int32) (n : Nat) : Nat → Nat → LgS → Nat → LgS × Nat
  | 0, _, z, l => (z, l)
  | m + 1, q, z, l => if q < n then ldz t n m (rcQ t n q) (pfZ z (rcC t n q) (rcK t n q) (rcX t n q)) (if pfP z (rcC t n q) (rcK t n q) (rcX t n q) then l else l + 1) else (z, l)
def ldR (t : Nat → Int32) (n : Nat) (z : LgS) : LgS × Nat := ldz t n 90 (chQ t n) (zNew (chB t n) (nI (chL t n)) z) 0
theorem feR_le {t : Nat → Int32} {n : Nat} : (feR t n).2 ≤ n := feL_le rch_le
theorem fe_true {t : Nat → Int32} {n : Nat} (h : feV (feR t n) = -9) (hn : n ≤ 90) : (feR t n).1 = true := by
  unfold feV at h
  split at h
  · assumption
  · have h1 : (feR t n).2 ≤ n := feL_le rch_le
    exact absurd h (oI_ne (a := (feR t n).2) (by omega))
-- scripts
def c6sc (x : Int32) (told : Int64) : Int32 := if ¬ x < 1 ∧ ¬ 4 < x then if ¬ told < 0 ∧ told < ten (4 * x.toNatClampNeg) then 0 else 1 else 1
def uL (nn j : Nat) : Int64 := lN (10 ^ (4 * (nn - j)))
def rL (nn T j : Nat) : Int64 := lN (T % 10 ^ (4 * (nn - j)))
def scZ (nn T : Nat) : Nat → Nat → LgS → Option Nat
  | 0, _, _ => none
  | m + 1, j, z => if icmP (grp nn T j) ∧ pfP z (grp nn T j / 1000) (grp nn T j / 100 % 10) (nI (grp nn T j % 100)) then scZ nn T m (j + 1) (pfZ z (grp nn T j / 1000) (grp nn T j / 100 % 10) (nI (grp nn T j % 100))) else some j
theorem n_four {x : Int32} (h1 : ¬ x < 1) (h2 : ¬ 4 < x) : x = nI x.toNatClampNeg ∧ 1 ≤ x.toNatClampNeg ∧ x.toNatClampNeg ≤ 4 := num_of (k := 4) (by decide) ⟨Int32.not_lt.mp h1, Int32.not_lt.mp h2⟩
theorem ten_s (j : Nat) : ten (4 * j) * 10000 = ten (4 * (j + 1)) := by
  rw [ten_eq, ten_eq, show (10000 : Int64) = lN 10000 from rfl, lN_mul, show 4 * (j + 1) = 4 * j + 4 by omega, Nat.pow_add]
theorem pw_le {k : Nat} (h : k ≤ 16) : 10 ^ k ≤ 10 ^ 16 ∧ 0 < 10 ^ k ∧ (10 : Nat) ^ 16 < 2 ^ 63 := ⟨Nat.pow_le_pow_right (by decide) h, Nat.pow_pos (by decide), by decide⟩
theorem uL_0 {nn : Nat} : ten (4 * nn) = uL nn 0 := by rw [ten_eq, uL, Nat.sub_zero]
theorem rL_0 {nn T : Nat} (h : T < 10 ^ (4 * nn)) : lN T = rL nn T 0 := by rw [rL, Nat.sub_zero, Nat.mod_eq_of_lt h]
theorem lt_ten {T nn : Nat} (hn : nn ≤ 4) (hT : T < 2 ^ 63) (h : lN T < ten (4 * nn)) : T < 10 ^ (4 * nn) := by
  obtain ⟨h1, h2, h3⟩ := pw_le (k := 4 * nn) (by omega)
  rw [ten_eq] at h
  exact (pk_lLT hT (by omega)).mp h
theorem uL_d {nn j : Nat} (hn : nn ≤ 4) (hj : j < nn) : uL nn j / 10000 = uL nn (j + 1) := by
  obtain ⟨h1, h2, h3⟩ := pw_le (k := 4 * (nn - j)) (by omega)
  rw [uL, uL, show (10000 : Int64) = lN 10000 from rfl, pk_lDiv (by omega) (by decide) (by decide), show 4 * (nn - j) = 4 * (nn - (j + 1)) + 4 by omega, Nat.pow_add, Nat.mul_div_cancel _ (by decide)]
theorem uL_m {nn j : Nat} (hn : nn ≤ 4) : (if (1 : Int64) < uL nn (j + 1) then uL nn (j + 1) else 1) = uL nn (j + 1) := by
  obtain ⟨h1, h2, h3⟩ := pw_le (k := 4 * (nn - (j + 1))) (by omega)
  by_cases h : (1 : Int64) < uL nn (j + 1)
  · exact if_pos h
  · rw [if_neg h]
    rw [uL, show (1 : Int64) = lN 1 from rfl, pk_lLT (by decide) (by omega)] at h
    rw [uL, show (1 : Int64) = lN 1 from rfl, show 10 ^ (4 * (nn - (j + 1))) = 1 by omega]
theorem uL_ne {nn j : Nat} (hn : nn ≤ 4) : ¬ uL nn j = 0 := by
  obtain ⟨h1, h2, h3⟩ := pw_le (k := 4 * (nn - j)) (by omega)
  intro z
  have := (pk_lEQ (a := 10 ^ (4 * (nn - j))) (b := 0) (by omega) (by decide)).mp z
  omega
theorem rL_d {nn T j : Nat} (hn : nn ≤ 4) (hj : j < nn) : rL nn T j / uL nn (j + 1) = lN (grp nn T j) := by
  obtain ⟨h1, h2, h3⟩ := pw_le (k := 4 * (nn - j)) (by omega)
  obtain ⟨h4, h5, -⟩ := pw_le (k := 4 * (nn - (j + 1))) (by omega)
  have hm : T % 10 ^ (4 * (nn - j)) < 10 ^ (4 * (nn - j)) := Nat.mod_lt _ h2
  rw [rL, uL, pk_lDiv (by omega) h5 (by omega), grp, show nn - 1 - j = nn - (j + 1) by omega]
  congr 1
  rw [show 4 * (nn - j) = 4 * (nn - (j + 1)) + 4 by omega, Nat.pow_add, Nat.mod_mul_right_div_self]
theorem rL_m {nn T j : Nat} (hn : nn ≤ 4) (hj : j < nn) : rL nn T j - rL nn T j / uL nn (j + 1) * uL nn (j + 1) = rL nn T (j + 1) := by
  obtain ⟨h1, h2, h3⟩ := pw_le (k := 4 * (nn - j)) (by omega)
  obtain ⟨h4, h5, -⟩ := pw_le (k := 4 * (nn - (j + 1))) (by omega)
  have hm : T % 10 ^ (4 * (nn - j)) < 10 ^ (4 * (nn - j)) := Nat.mod_lt _ h2
  rw [rL, uL, pk_lRem (by omega) h5 (by omega), rL]
  congr 1
  exact Nat.mod_mod_of_dvd _ (Nat.pow_dvd_pow 10 (by omega))
theorem icm_c {g : Nat} (h : icmP g) (hg : g < 10000) : 1 ≤ g / 1000 ∧ g / 1000 ≤ 9 := by
  refine ⟨?_, by omega⟩
  rcases Nat.eq_zero_or_pos (g / 1000) with e | e
  · exfalso
    simp [icmP, e] at h
  · exact e
/-- a round of simulate -/
def rnZ (z : LgS) (q : Nat) : LgS :=
  if q % 8 = 0 then pfZ (zSw z) 2 (q / 8 % 16) 0 else if q % 8 = 1 then pfZ (zSw z) 4 0 (nI (1 + q / 8 % 20)) else pfZ (zSw z) 1 (q / 8 % 16) (nI (q / 128 % 1000))
def itf {α : Type} (f : α → α) : Nat → α → α
  | 0, a => a
  | n + 1, a => itf f n (f a)
theorem itf_s {α : Type} (f : α → α) (n : Nat) (a : α) : itf f (n + 1) a = itf f n (f a) := rfl
def stp (y : Int64 × LgS) : Int64 × LgS := (nxL y.1, rnZ y.2 (rnd (nxL y.1)))
theorem stp_e (x : Int64) (z : LgS) : stp (x, z) = (nxL x, rnZ z (rnd (nxL x))) := rfl
def smZ (n : Nat) (x : Int64) (z : LgS) : LgS := (itf stp n (x, z)).2
theorem smZ_e {M j : Nat} {x : Int64} {z y : LgS} (hj : M ≤ j) (h : smZ (M - j) x z = y) : z = y := by
  rw [Nat.sub_eq_zero_of_le hj] at h
  exact h
theorem smZ_n {M j mq : Nat} {x : Int64} {z y : LgS} (hm : M - j = mq + 1) (h : smZ (M - j) x z = y) : smZ (M - (j + 1)) (nxL x) (rnZ z (rnd (nxL x))) = y := by
  rw [hm, smZ, itf_s, stp_e] at h
  rw [show M - (j + 1) = mq by omega]
  exact h
