-- WHAT THE MACHINE PARTS ASK OF THE PURE PART
theorem inv_zC {z : LgS} {c : Nat} (h : Inv z) (hc : c ≤ 99) : Inv (zC z (nI c)) := inv_zC' h hc
theorem inv_zPo {z : LgS} {c : Nat} (h : Inv z) (hc : c ≤ 2) : Inv (zPo z (nI c)) := inv_zPo' h hc
theorem inv_zSw {z : LgS} (h : Inv z) : Inv (zSw z) := inv_zSw' h
theorem inv_zNew {B x : Nat} {z : LgS} (hB : 3 ≤ B) (hB8 : B ≤ 8) (hx : 1 ≤ x) (hx9 : x ≤ 99) : Inv (zNew B (nI x) z) := inv_zNew' hB hB8 hx hx9
theorem inv_st {z : LgS} {k : Nat} {x : Int32} (h : Inv z) (ho : z.1.1 = true) (hk : k < 16) (hx : okX z k x) : stL k x 1000 z = some ((stT k x z).1, (stT k x z).2) ∧ Inv (stT k x z).2 := inv_st' h ho hk hx
theorem inv_sb {z : LgS} {b : Nat} (h : Inv z) (hb : cvZ z = some b) : sbl b z = some ((sbT b z).1, (sbT b z).2) ∧ Inv (sbT b z).2 := inv_sb' h hb
theorem st_on {z : LgS} {k : Nat} {x : Int32} (h : Inv z) (ho : z.1.1 = true) (hc : z.2.1 1 = 0) (hk : k < 16) (hx : okX z k x) : (stT k x z).2.1.1 = true ∧ (stT k x z).2.2.1 1 = 0 := st_on' h ho hc hk hx
theorem inv_pf {z : LgS} {c k : Nat} {n : Int32} (h : Inv z) (hk : k < 16) (h1 : c = 1 → ¬ n = -9) (hn : c = 4 ∨ ¬ (1 ≤ c ∧ c ≤ 8) → ∃ j : Nat, j ≤ 99 ∧ n = nI j) : Inv (pfZ z c k n) := inv_pf' h hk h1 hn
theorem ld_chip {t : Nat → Int32} {n : Nat} (hn : n ≤ 90) (h : feV (feR t n) = -9) (bl lf : Int32) : rch t n bl lf = ((true, chQ t n), (nI (chB t n), nI (chL t n))) ∧ 3 ≤ chB t n ∧ chB t n ≤ 8 ∧ 1 ≤ chL t n ∧ chL t n ≤ 99 ∧ chQ t n ≤ n ∧ feL t n 90 (true, chQ t n) = feR t n := ld_chip' hn h bl lf
theorem ld_cmd {t : Nat → Int32} {n q m : Nat} (h : (feL t n (m + 1) (true, q)).1 = true) (hq : q < n) (ky nu : Int32) : rcF t n q ky nu = ((true, rcQ t n q), (nI (rcC t n q), nI (rcK t n q), rcX t n q)) ∧ 1 ≤ rcC t n q ∧ rcC t n q ≤ 9 ∧ rcK t n q < 16 ∧ (rcC t n q = 1 → ¬ rcX t n q = -9) ∧ (rcC t n q = 4 ∨ rcC t n q = 9 → ∃ j : Nat, j ≤ 99 ∧ rcX t n q = nI j) ∧ rcQ t n q ≤ n ∧ feL t n m (true, rcQ t n q) = feL t n (m + 1) (true, q) := ld_cmd' h hq ky nu
