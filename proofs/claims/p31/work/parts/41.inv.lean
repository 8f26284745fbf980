-- THE CHIP: a Log's value z, the reference's row that says the same (zr z), rows that say the same (Sim)
def zr (z : LgS) : Nat → Int32 := fun i =>
  if i < 23 then (if i = 0 then nI z.1.2 else if i = 1 then z.2.1 2 else if i = 2 then bI (z.1.1 = true) else if i = 3 then z.2.1 3 else if i = 4 then z.2.1 4 else if i = 5 then z.2.1 1 else if i = 6 then z.2.1 0 else if i < 15 then z.2.1 (i - 2) else z.2.2 4 (i - 15))
  else z.2.2 ((i - 23) % 4) ((i - 23) / 4)
theorem zr_pg {z : LgS} {a w : Nat} (hw : w < 4) : pg (zr z) a w = z.2.2 w a := by
  unfold pg zr
  rw [if_neg (by omega), show (23 + 4 * a + w - 23) % 4 = w by omega, show (23 + 4 * a + w - 23) / 4 = a by omega]
theorem zr_w {z : LgS} {b : Nat} (hb : b < 8) : zr z (15 + b) = z.2.2 4 b := by
  unfold zr
  rw [if_pos (by omega), if_neg (by omega), if_neg (by omega), if_neg (by omega), if_neg (by omega), if_neg (by omega), if_neg (by omega), if_neg (by omega), if_neg (by omega), show 15 + b - 15 = b by omega]
theorem zr_n {z : LgS} {k : Nat} (h7 : 7 ≤ k) (h15 : k < 15) : zr z k = z.2.1 (k - 2) := by
  unfold zr
  rw [if_pos (by omega), if_neg (by omega), if_neg (by omega), if_neg (by omega), if_neg (by omega), if_neg (by omega), if_neg (by omega), if_neg (by omega), if_pos (by omega)]
theorem zr_0 {z : LgS} : zr z 0 = nI z.1.2 := rfl
theorem zr_1 {z : LgS} : zr z 1 = z.2.1 2 := rfl
theorem zr_2 {z : LgS} : zr z 2 = bI (z.1.1 = true) := rfl
theorem zr_3 {z : LgS} : zr z 3 = z.2.1 3 := rfl
theorem zr_4 {z : LgS} : zr z 4 = z.2.1 4 := rfl
theorem zr_5 {z : LgS} : zr z 5 = z.2.1 1 := rfl
theorem zr_6 {z : LgS} : zr z 6 = z.2.1 0 := rfl
/-- two rows say the same: numbers, states of pages, the records of the written ones -/
def Sim (f g : Nat → Int32) : Prop := (∀ k, k < 23 → f k = g k) ∧ ∀ a, a < 32 → pg f a 0 = pg g a 0 ∧ (pg g a 0 = 1 → pg f a 1 = pg g a 1 ∧ pg f a 2 = pg g a 2 ∧ pg f a 3 = pg g a 3)
theorem sim_rf (f : Nat → Int32) : Sim f f := ⟨fun _ _ => rfl, fun _ _ => ⟨rfl, fun _ => ⟨rfl, rfl, rfl⟩⟩⟩
theorem sim_sy {f g : Nat → Int32} (h : Sim f g) : Sim g f := ⟨fun k hk => (h.1 k hk).symm, fun a ha => ⟨(h.2 a ha).1.symm, fun h1 => by
  have h2 := (h.2 a ha).2 ((h.2 a ha).1 ▸ h1)
  exact ⟨h2.1.symm, h2.2.1.symm, h2.2.2.symm⟩⟩⟩
theorem nwst_wr {f : Nat → Int32} {key : Int32} : ∀ {n o : Nat}, nwst f key n = some o → pg f o 0 = 1 ∧ pg f o 1 = key
  | 0, o, h => by cases h
  | n + 1, o, h => by
    unfold nwst at h
    cases hn : nwst f key n with
    | none =>
      rw [hn] at h
      dsimp only at h
      split at h
      · rename_i hc; cases h; exact hc
      · cases h
    | some o2 =>
      rw [hn] at h
      have := nwst_wr hn
      dsimp only at h
      split at h
      · rename_i hc; cases h; exact ⟨hc.1, hc.2.1⟩
      · cases h; exact this
theorem sim_w0 {f g : Nat → Int32} (h : Sim f g) {a : Nat} (ha : a < 32) {P : Int32 → Int32 → Int32 → Prop} : (pg f a 0 = 1 ∧ P (pg f a 1) (pg f a 2) (pg f a 3)) ↔ (pg g a 0 = 1 ∧ P (pg g a 1) (pg g a 2) (pg g a 3)) := by
  obtain ⟨h0, h1⟩ := h.2 a ha
  constructor
  · intro ⟨x, y⟩
    have hx := h0 ▸ x
    obtain ⟨e1, e2, e3⟩ := h1 hx
    exact ⟨hx, by rw [← e1, ← e2, ← e3]; exact y⟩
  · intro ⟨x, y⟩
    obtain ⟨e1, e2, e3⟩ := h1 x
    exact ⟨h0.trans x, by rw [e1, e2, e3]; exact y⟩
theorem sim_nwst {f g : Nat → Int32} (h : Sim f g) {key : Int32} : ∀ {n : Nat}, n ≤ 32 → nwst f key n = nwst g key n
  | 0, _ => rfl
  | n + 1, hn => by
    have ih := sim_nwst h (key := key) (n := n) (by omega)
    rw [nwst, nwst, ih]
    have hn32 : n < 32 := by omega
    cases ho : nwst g key n with
    | none =>
      dsimp only
      have e : (pg f n 0 = 1 ∧ pg f n 1 = key) ↔ (pg g n 0 = 1 ∧ pg g n 1 = key) := sim_w0 h hn32 (P := fun x _ _ => x = key)
      simp only [e]
    | some o =>
      dsimp only
      have ho32 : o < 32 := by have := nwst_lt ho; omega
      have hw := nwst_wr ho
      have e3 : pg f o 3 = pg g o 3 := ((h.2 o ho32).2 hw.1).2.2
      have e : (pg f n 0 = 1 ∧ pg f n 1 = key ∧ pg f o 3 < pg f n 3) ↔ (pg g n 0 = 1 ∧ pg g n 1 = key ∧ pg g o 3 < pg g n 3) := by
        rw [e3]
        exact sim_w0 h hn32 (P := fun x _ y => x = key ∧ pg g o 3 < y)
      simp only [e]
theorem sim_cnt {f g : Nat → Int32} (h : Sim f g) {key : Int32} : ∀ {n : Nat}, n ≤ 32 → cnt f key n = cnt g key n
  | 0, _ => rfl
  | n + 1, hn => by
    have ih := sim_cnt h (key := key) (n := n) (by omega)
    rw [cnt, cnt, ih]
    have e : (pg f n 0 = 1 ∧ pg f n 1 = key) ↔ (pg g n 0 = 1 ∧ pg g n 1 = key) := sim_w0 h (show n < 32 by omega) (P := fun x _ _ => x = key)
    simp only [e]
theorem sim_vlu {f g : Nat → Int32} (h : Sim f g) {key : Int32} {B : Nat} (hB : B ≤ 8) : vlu f key B = vlu g key B := by
  unfold vlu
  rw [sim_nwst h (show 4 * B ≤ 32 by omega)]
  cases ho : nwst g key (4 * B) with
  | none => rfl
  | some o =>
    have := nwst_lt ho
    exact ((h.2 o (by omega)).2 (nwst_wr ho).1).2.1
theorem sim_liv {f g : Nat → Int32} (h : Sim f g) {B a : Nat} (hB : B ≤ 8) (ha : a < 32) : livP f B a ↔ livP g B a := by
  unfold livP
  refine (sim_w0 h ha (P := fun k v _ => nwst f k (4 * B) = some a ∧ (v ≠ -9 ∨ 1 < cnt f k (4 * B)))).trans ?_
  rw [sim_nwst h (show 4 * B ≤ 32 by omega), sim_cnt h (show 4 * B ≤ 32 by omega)]
/-- pages that are clean in vain: from n on none is written -/
theorem nwst_up {f : Nat → Int32} {key : Int32} {n : Nat} : ∀ {m : Nat}, n ≤ m → (∀ a, n ≤ a → a < m → ¬ pg f a 0 = 1) → nwst f key m = nwst f key n
  | 0, hn, _ => by rw [show n = 0 by omega]
  | m + 1, hn, h => by
    by_cases e : n = m + 1
    · rw [e]
    · rw [nwst, nwst_up (show n ≤ m by omega) (fun a h1 h2 => h a h1 (by omega))]
      have h1 := h m (by omega) (by omega)
      cases nwst f key n with
      | none => exact if_neg (fun z => h1 z.1)
      | some o => exact if_neg (fun z => h1 z.1)
theorem cnt_up {f : Nat → Int32} {key : Int32} {n : Nat} : ∀ {m : Nat}, n ≤ m → (∀ a, n ≤ a → a < m → ¬ pg f a 0 = 1) → cnt f key m = cnt f key n
  | 0, hn, _ => by rw [show n = 0 by omega]
  | m + 1, hn, h => by
    by_cases e : n = m + 1
    · rw [e]
    · rw [cnt, cnt_up (show n ≤ m by omega) (fun a h1 h2 => h a h1 (by omega)), if_neg (fun z => h m (by omega) (by omega) z.1), Nat.add_zero]
/-- numbers from 0 to k -/
def isN (x : Int32) (k : Nat) : Prop := x = nI x.toNatClampNeg ∧ x.toNatClampNeg ≤ k
def iK (z : LgS) : Prop := (3 ≤ z.1.2 ∧ z.1.2 ≤ 8) ∧ (∀ a, a < 32 → z.2.2 0 a = 0 ∨ z.2.2 0 a = 1 ∨ z.2.2 0 a = 2) ∧ ∀ a, a < 32 → 4 * z.1.2 ≤ a → z.2.2 0 a = 0
def iY (z : LgS) : Prop := ∀ a, a < 32 → z.2.2 0 a = 1 → inN (z.2.2 1 a) 16
def iM (z : LgS) : Prop := (∀ a, a < 32 → z.2.2 0 a = 1 → 0 < z.2.2 3 a ∧ z.2.2 3 a < z.2.1 4) ∧ ∀ a b, a < 32 → b < 32 → z.2.2 0 a = 1 → z.2.2 0 b = 1 → z.2.2 3 a = z.2.2 3 b → a = b
def iNw (z : LgS) : Prop := ∀ k, k < 16 → z.2.2 6 k = oI (nwst (zr z) (nI k) 32)
def iLv (z : LgS) : Prop := ∀ a, a < 32 → z.2.2 5 a = bI (livP (zr z) 8 a)
def frN_ (z : LgS) (b : Nat) : Nat := (z.2.2 7 b).toNatClampNeg
def weN_ (z : LgS) (b : Nat) : Nat := (z.2.2 4 b).toNatClampNeg
def liN_ (z : LgS) : Nat := (z.2.1 2).toNatClampNeg
def nmN_ (z : LgS) : Nat := (z.2.1 4).toNatClampNeg
def iFr (z : LgS) : Prop := ∀ b, b < 8 → isN (z.2.2 7 b) 4 ∧ ∀ q, q < 4 → (z.2.2 0 (4 * b + q) = 0 ↔ 4 - frN_ z b ≤ q)
def iWe (z : LgS) : Prop := isN (z.2.1 2) 99 ∧ 1 ≤ liN_ z ∧ ∀ b, b < 8 → isN (z.2.2 4 b) (liN_ z)
def iOp (z : LgS) : Prop := z.2.1 3 = -9 ∨ (z.1.1 = true ∧ ∃ b, b < z.1.2 ∧ z.2.1 3 = nI b)
def iPo (z : LgS) : Prop := isN (z.2.1 0) 2
def iCu (z : LgS) : Prop := isN (z.2.1 1) 99
/-- pages that were written so far, at most -/
def suW (z : LgS) : Nat → Nat
  | 0 => 0
  | n + 1 => suW z n + (4 * weN_ z n + (4 - frN_ z n))
def iBd (z : LgS) : Prop := isN (z.2.1 4) (1 + suW z 8) ∧ 1 ≤ nmN_ z
/-- what holds of every Log that occurs -/
def Inv (z : LgS) : Prop := iK z ∧ iY z ∧ iM z ∧ iNw z ∧ iLv z ∧ iFr z ∧ iWe z ∧ iOp z ∧ iPo z ∧ iCu z ∧ iBd z
theorem inv_B {z : LgS} (h : Inv z) : z.1.2 ≤ 8 := h.1.1.2
def stT (k : Nat) (x : Int32) (z : LgS) : Int32 × LgS := (stL k x 1000 z).getD (0, z)
def sbT (b : Nat) (z : LgS) : Int32 × LgS := (sbl b z).getD (0, z)
abbrev okX (z : LgS) (k : Nat) (x : Int32) : Prop := ¬ x = -9 ∨ ¬ vaZ z (nI k) = -9
/-- costOfRecord -/
def csV (z : LgS) : Int32 := if z.1.1 = true then if (stT 0 0 (zC z 0)).1 = -9 then 0 else (stT 0 0 (zC z 0)).2.2.1 5 - z.2.1 5 else 0
/-- perform: whether it succeeds -/
abbrev pfP (z : LgS) (c k : Nat) (n : Int32) : Prop :=
  if c = 1 then 0 < csV z ∧ ¬ (stT k n z).1 = -9
  else if c = 2 then ¬ vaZ z (nI k) = -9 ∧ 0 < csV z ∧ ¬ (stT k (-9) z).1 = -9
  else if c = 3 then ¬ oI (cvZ z) = -9 ∧ ¬ (sbT (oI (cvZ z)).toNatClampNeg z).1 = -9
  else if c = 4 then z.1.1 = true
  else if c = 5 then ¬ z.1.1 = true
  else if c = 6 then z.1.1 = true ∧ vaZ z (nI k) = n
  else if c = 7 then (¬ nI k < 0 ∧ nI k < nI z.1.2 ∧ nI k < 8) ∧ ¬ n < at_ (z.2.2 4) 8 0 (nI k)
  else if c = 8 then ¬ nI (cbZ z) < n
  else ¬ 2 < n
def pfZ (z : LgS) (c k : Nat) (n : Int32) : LgS :=
  if c = 1 then if 0 < csV z then (stT k n z).2 else z
  else if c = 2 then if ¬ vaZ z (nI k) = -9 ∧ 0 < csV z then (stT k (-9) z).2 else z
  else if c = 3 then if oI (cvZ z) = -9 then z else (sbT (oI (cvZ z)).toNatClampNeg z).2
  else if c = 4 then if z.1.1 = true then zC z n else z
  else if c = 5 then zSw z
  else if c = 6 then z else if c = 7 then z else if c = 8 then z
  else if 2 < n then z else zPo z n
theorem cs_on {z : LgS} (h : 0 < csV z) : z.1.1 = true := by
  unfold csV at h
  split at h
  · assumption
  · exact absurd h (by decide)
theorem cs_on2 {z : LgS} (h : ¬ csV z = 0) : z.1.1 = true := by
  unfold csV at h
  split at h
  · assumption
  · exact absurd rfl h
