-- WHAT THE LAW READS OF A LOG, in plain words
theorem lx_eq {l : Launch} {y : MethodName} {b : ByteArray} {nL fr lo : Nat} {hh : List (Nat × Nat × Nat × Nat)} {D : va_G} {cI cL cZ : ClassId} {Gs : Nat → Geo} {as us us2 : List AS} {av : List Value} {res res2 : Int64} (h : LX l y b nL hh fr lo D cI cL cZ Gs as av res us) (e1 : res = res2) (e2 : us = us2) : LX l y b nL hh fr lo D cI cL cZ Gs as av res2 us2 := by
  subst e1; subst e2; exact h
theorem lv_eq {l : Launch} {y : MethodName} {b : ByteArray} {nL fr lo : Nat} {D : va_G} {cI cL cZ : ClassId} {Gs : Nat → Geo} {as us us2 : List AS} {av : List Value} {res res2 : Int32} (h : LV l y b nL fr lo D cI cL cZ Gs as av res us) (e1 : res = res2) (e2 : us = us2) : LV l y b nL fr lo D cI cL cZ Gs as av res2 us2 := by
  subst e1; subst e2; exact h
theorem lj_eq {l : Launch} {y : MethodName} {b : ByteArray} {nL fr lo mc ms : Nat} {D : va_G} {cI cL cZ : ClassId} {Gs : Nat → Geo} {as us us2 : List AS} {av : List Value} {res res2 : Int64} (h : LJ l y b nL fr lo mc ms D cI cL cZ Gs as av res us) (e1 : res = res2) (e2 : us = us2) : LJ l y b nL fr lo mc ms D cI cL cZ Gs as av res2 us2 := by
  subst e1; subst e2; exact h
theorem lz_eq {l : Launch} {y : MethodName} {b : ByteArray} {nL fr lo mc ms : Nat} {D : va_G} {cI cL cZ : ClassId} {Gs : Nat → Geo} {as us us2 : List AS} {av : List Value} {res res2 : Int32} (h : LZ l y b nL fr lo mc ms D cI cL cZ Gs as av res us) (e1 : res = res2) (e2 : us = us2) : LZ l y b nL fr lo mc ms D cI cL cZ Gs as av res2 us2 := by
  subst e1; subst e2; exact h
/-- a long local by another name -/
theorem lv_rel {ls : Array Slot} {nL : Nat} {lv : List (Nat × Value)} (h : lv_has ls nL lv) (k : Nat) {i : Nat} {x y : Int64} (hk : lv[k]? = some (i, .long x)) (e : x = y) : lv_has ls nL (lv.set k (i, .long y)) := by
  subst e
  obtain ⟨hl, hg⟩ := List.getElem?_eq_some_iff.mp hk
  rw [← hg, List.set_getElem_self]
  exact h
theorem nJ_neg {k : Nat} (h : k < 2 ^ 31) : ¬ nI k < 0 := nI_pos h
theorem nJ_nlt {a b : Nat} (ha : a < 2 ^ 31) (hb : b < 2 ^ 31) (h : b ≤ a) : ¬ nI a < nI b := fun z => by have := cn_lt ha hb z; omega
theorem nJ_lt {a b : Nat} (ha : a < 2 ^ 31) (hb : b < 2 ^ 31) (h : a < b) : nI a < nI b := (nI_ltI ha hb).mpr h
theorem c6r_0 {k a : Nat} (h : k ≤ a) (ha : a < 2 ^ 31) : c6r (nI k) (nI a) = 0 := if_pos ⟨nJ_neg (by omega), nJ_nlt ha (by omega) h⟩
theorem inN_n {k a : Nat} (h : k < a) (ha : a < 2 ^ 31) : inN (nI k) (nI a) := ⟨nJ_neg (by omega), nJ_lt (by omega) ha h⟩
theorem in_16 {k : Nat} (h : k < 16) : inN (nI k) 16 := inN_n (a := 16) h (by decide)
theorem in_32 {k : Nat} (h : k < 32) : inN (nI k) 32 := inN_n (a := 32) h (by decide)
theorem at_16 {F : Nat → Int32} {b : Nat} {d : Int32} (h : b < 16) : at_ F 16 d (nI b) = F b := at_b (k := 16) h (by decide)
section RD
variable {z : LgS}
theorem ab_J {k : Nat} (hk : k ≤ 13) : abJ z (nI k) = (abZ z k).toInt64 := by
  rw [abJ, if_pos (show c6r (nI k) 13 = 0 from c6r_0 (a := 13) hk (by decide)), nI_clamp (by omega)]
theorem pg_J {a w : Nat} (hB : z.1.2 ≤ 8) (ha : a < 4 * z.1.2) (hw : w ≤ 4) : pgJ z (nI a) (nI w) = (tpZ z (nI a) (nI w)).toInt64 := by
  rw [pgJ, if_pos]
  rw [c6pg, if_pos ⟨nJ_neg (by omega), nJ_lt (by omega) (by omega) ha, nJ_lt (b := 32) (by omega) (by decide) (by omega)⟩]
  exact if_pos ⟨nJ_neg (by omega), nJ_nlt (a := 4) (by decide) (by omega) hw⟩
theorem bl_J {b w : Nat} (hB : z.1.2 ≤ 8) (hb : b < z.1.2) (hw : w ≤ 5) : blJ z (nI b) (nI w) = (blZ z (nI b) w).toInt64 := by
  rw [blJ, if_pos, nI_clamp (by omega)]
  rw [c6bl, if_pos ⟨nJ_neg (by omega), nJ_lt (by omega) (by omega) hb, nJ_lt (b := 8) (by omega) (by decide) (by omega)⟩]
  exact if_pos ⟨nJ_neg (by omega), nJ_nlt (a := 5) (by decide) (by omega) hw⟩
theorem lc_J {k : Nat} (hk : k ≤ 2) : lcJ z (nI k) = (tcF (z.2.1 10) (z.2.1 11) (z.2.1 12) k).toInt64 := by
  rw [lcJ, if_pos (show c6r (nI k) 2 = 0 from c6r_0 (a := 2) hk (by decide)), nI_clamp (by omega)]
theorem ne_J {k : Nat} (hk : k < 16) : neJ z (nI k) = (z.2.2 6 k).toInt64 := by
  rw [neJ, if_pos]
  · exact congrArg _ (at_16 hk)
  · exact if_pos (in_16 hk)
theorem ge_J {k : Nat} (hk : k < 16) (hon : z.1.1 = true) : geJ z (nI k) = (vaZ z (nI k)).toInt64 := by
  rw [geJ, if_pos]
  rw [c6get, if_pos (in_16 hk)]
  exact if_pos hon
theorem ge_off {k : Nat} (hk : k < 16) (hoff : ¬ z.1.1 = true) : geJ z (nI k) = -9000000000000000003 := by
  have e : c6get z (nI k) = 2 := by
    rw [c6get, if_pos (in_16 hk)]
    exact if_neg hoff
  rw [geJ, e]
  rfl
/-- the newest page of a key: none, or a written page with the key -/
theorem ne_or (h : Inv z) {k : Nat} (hk : k < 16) : (z.2.2 6 k = -9 ∧ nwst (zr z) (nI k) 32 = none) ∨ ∃ a, z.2.2 6 k = nI a ∧ nwst (zr z) (nI k) 32 = some a ∧ a < 4 * z.1.2 ∧ z.2.2 0 a = 1 ∧ z.2.2 1 a = nI k := by
  have hn := h.2.2.2.1 k hk
  cases ho : nwst (zr z) (nI k) 32 with
  | none => rw [ho] at hn; exact Or.inl ⟨hn, rfl⟩
  | some a =>
    rw [ho] at hn
    have hlt := nwst_lt ho
    have hw := nwst_wr ho
    rw [zr_pg (by decide)] at hw
    rw [zr_pg (by decide)] at hw
    refine Or.inr ⟨a, hn, rfl, ?_, hw.1, hw.2⟩
    refine Nat.lt_of_not_le fun hge => ?_
    have := h.1.2.2 a hlt hge
    rw [this] at hw
    exact absurd hw.1 (by decide)
theorem va_none (h : Inv z) {k : Nat} (hk : k < 16) (e : z.2.2 6 k = -9) : vaZ z (nI k) = -9 := by
  unfold vaZ vaV
  rw [at_16 hk, e]
  exact if_neg (fun y => absurd y.1 (by decide))
theorem va_some (h : Inv z) {k a : Nat} (hk : k < 16) (e : z.2.2 6 k = nI a) (ha : a < 4 * z.1.2) : vaZ z (nI k) = z.2.2 2 a := by
  have hB := inv_B h
  unfold vaZ vaV
  rw [at_16 hk, e, if_pos ⟨nJ_neg (by omega), nJ_lt (by omega) (by omega) ha, nJ_lt (b := 32) (by omega) (by decide) (by omega)⟩, nI_clamp (by omega)]
theorem tp_0 {a : Nat} (ha : a < 32) : tpZ z (nI a) 0 = z.2.2 0 a := by
  unfold tpZ tpV tpF
  rw [if_pos (in_32 ha), if_pos rfl, nI_clamp (by omega)]
theorem tp_n {a w : Nat} (ha : a < 32) (hw : 1 ≤ w) (hw4 : w ≤ 4) (h1 : ¬ z.2.2 0 a = 1) : tpZ z (nI a) (nI w) = -9 := by
  unfold tpZ tpV tpF
  rw [if_pos (in_32 ha), if_neg (fun y => by have := cn_eq (a := w) (b := 0) (by omega) (by decide) y; omega), nI_clamp (by omega), if_neg h1]
theorem tp_1 {a : Nat} (ha : a < 32) (h1 : z.2.2 0 a = 1) : tpZ z (nI a) 1 = z.2.2 1 a ∧ tpZ z (nI a) 2 = z.2.2 2 a ∧ tpZ z (nI a) 3 = z.2.2 3 a ∧ tpZ z (nI a) 4 = z.2.2 5 a := by
  unfold tpZ tpV tpF
  simp only [if_pos (in_32 ha), nI_clamp (show a < 2 ^ 31 by omega), if_pos h1]
  have n10 : ¬ (1 : Int32) = 0 := by decide
  have n20 : ¬ (2 : Int32) = 0 := by decide
  have n21 : ¬ (2 : Int32) = 1 := by decide
  have n30 : ¬ (3 : Int32) = 0 := by decide
  have n31 : ¬ (3 : Int32) = 1 := by decide
  have n32 : ¬ (3 : Int32) = 2 := by decide
  have n40 : ¬ (4 : Int32) = 0 := by decide
  have n41 : ¬ (4 : Int32) = 1 := by decide
  have n42 : ¬ (4 : Int32) = 2 := by decide
  have n43 : ¬ (4 : Int32) = 3 := by decide
  exact ⟨by rw [if_neg n10, if_pos trivial], by rw [if_neg n20, if_neg n21, if_pos trivial], by rw [if_neg n30, if_neg n31, if_neg n32, if_pos trivial], by rw [if_neg n40, if_neg n41, if_neg n42, if_neg n43]⟩
/-- the value of a key by its newest page -/
theorem pg_va (h : Inv z) {k : Nat} (hk : k < 16) (e : ¬ z.2.2 6 k = -9) : pgJ z (z.2.2 6 k) 2 = (vaZ z (nI k)).toInt64 := by
  have hB := inv_B h
  rcases ne_or h hk with ⟨e2, -⟩ | ⟨a, e2, -, ha, h1, h2⟩
  · exact absurd e2 e
  · rw [va_some h hk e2 ha, e2]
    refine (pg_J (w := 2) hB ha (by decide)).trans ?_
    exact congrArg _ (tp_1 (by omega) h1).2.1
theorem va_nJ (h : Inv z) {k : Nat} (hk : k < 16) (e : z.2.2 6 k = -9) : (-9 : Int64) = (vaZ z (nI k)).toInt64 := by
  rw [va_none h hk e]
  decide
end RD
/-- all that is told of a chip, as one number: now() -/
def nwA (z : LgS) : Nat → Int64
  | 0 => 19
  | k + 1 => 31 * nwA z k + (abZ z k).toInt64
def nwB (z : LgS) : Nat → Int64
  | 0 => nwA z 14
  | b + 1 => 31 * nwB z b + (blZ z (nI b) 0).toInt64
def nwP (z : LgS) (a : Nat) (v : Int64) : Nat → Int64
  | 0 => v
  | k + 1 => 31 * nwP z a v k + (tpZ z (nI a) (nI k)).toInt64
def nwC (z : LgS) : Nat → Int64
  | 0 => nwB z z.1.2
  | a + 1 => nwP z a (nwC z a) 4
def nwZ (z : LgS) : Int64 := nwC z (4 * z.1.2) + (z.2.1 10).toInt64 + 37 * (z.2.1 11).toInt64 + 41 * (z.2.1 12).toInt64
/-- values of the first n keys but one, as one number: others() -/
def otZ (z : LgS) (key : Nat) : Nat → Int64
  | 0 => 0
  | n + 1 => 1009 * otZ z key n + if n = key then 0 else (vaZ z (nI n)).toInt64
theorem ab_0 {z : LgS} : abJ z 0 = (nI z.1.2).toInt64 := (ab_J (k := 0) (by decide)).trans rfl
theorem jl_le {a b : Nat} (ha : a < 2 ^ 31) (hb : b < 2 ^ 31) : (nI a).toInt64 ≤ (nI b).toInt64 ↔ a ≤ b := by
  rw [Int32.toInt64_le]
  exact nI_leI ha hb
theorem jl_lt {a b : Nat} (ha : a < 2 ^ 31) (hb : b < 2 ^ 31) : (nI a).toInt64 < (nI b).toInt64 ↔ a < b := by
  rw [Int32.toInt64_lt]
  exact nI_ltI ha hb
theorem jl_eq {x y : Int32} : x.toInt64 = y.toInt64 ↔ x = y := ⟨fun h => by rw [← Int32.toInt32_toInt64 x, h, Int32.toInt32_toInt64], fun h => by rw [h]⟩
theorem jl_n9 {x : Int32} (h : x.toInt64 = -9) : x = -9 := jl_eq.mp (h.trans (by decide))
theorem jl_mul4 {B : Nat} (hB : B ≤ 8) : 4 * (nI B).toInt64 = (nI (4 * B)).toInt64 := by
  rcases (show B = 0 ∨ B = 1 ∨ B = 2 ∨ B = 3 ∨ B = 4 ∨ B = 5 ∨ B = 6 ∨ B = 7 ∨ B = 8 by omega) with rfl | rfl | rfl | rfl | rfl | rfl | rfl | rfl | rfl <;> decide
