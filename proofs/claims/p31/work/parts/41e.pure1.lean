-- THE PURE PART: a Log's value beside the reference's row. Reading
def Rz (z : LgS) (f : Nat → Int32) : Prop := Inv z ∧ Sim f (zr z)
theorem isN_i {x : Int32} {k : Nat} (h : isN x k) : x = nI x.toNatClampNeg := h.1
theorem isN_of {j k : Nat} (h : j ≤ k) (hk : k < 2 ^ 31) : isN (nI j) k := by
  unfold isN
  rw [nI_clamp (by omega)]
  exact ⟨rfl, h⟩
section P1
variable {z : LgS} {f : Nat → Int32}
theorem rz_pg (h : Rz z f) {a : Nat} (ha : a < 32) : pg f a 0 = z.2.2 0 a := by rw [(h.2.2 a ha).1, zr_pg (by decide)]
theorem rz_rec (h : Rz z f) {a : Nat} (ha : a < 32) (h1 : z.2.2 0 a = 1) : pg f a 1 = z.2.2 1 a ∧ pg f a 2 = z.2.2 2 a ∧ pg f a 3 = z.2.2 3 a := by
  have := (h.2.2 a ha).2 (by rw [zr_pg (by decide)]; exact h1)
  rw [zr_pg (by decide), zr_pg (by decide), zr_pg (by decide)] at this
  exact this
theorem rz_k (h : Rz z f) {k : Nat} (hk : k < 23) : f k = zr z k := h.2.1 k hk
theorem rz_w (h : Rz z f) {b : Nat} (hb : b < 8) : f (15 + b) = z.2.2 4 b := by rw [rz_k h (by omega), zr_w hb]
theorem inv_nw_up (h : Inv z) {key : Int32} : nwst (zr z) key 32 = nwst (zr z) key (4 * z.1.2) :=
  nwst_up (by have := inv_B h; omega) (fun a h1 h2 h3 => by
    rw [zr_pg (by decide), h.1.2.2 a h2 h1] at h3
    exact absurd h3 (by decide))
theorem inv_ct_up (h : Inv z) {key : Int32} : cnt (zr z) key 32 = cnt (zr z) key (4 * z.1.2) :=
  cnt_up (by have := inv_B h; omega) (fun a h1 h2 h3 => by
    rw [zr_pg (by decide), h.1.2.2 a h2 h1] at h3
    exact absurd h3 (by decide))
theorem rz_nw (h : Rz z f) {key : Int32} : nwst f key (4 * z.1.2) = nwst (zr z) key 32 := by
  rw [inv_nw_up h.1]
  exact sim_nwst h.2 (by have := inv_B h.1; omega)
theorem rz_ct (h : Rz z f) {key : Int32} : cnt f key (4 * z.1.2) = cnt (zr z) key 32 := by
  rw [inv_ct_up h.1]
  exact sim_cnt h.2 (by have := inv_B h.1; omega)
theorem rz_liv (h : Rz z f) {a : Nat} (ha : a < 32) : livP f z.1.2 a ↔ livP (zr z) 8 a := by
  refine (sim_liv h.2 (inv_B h.1) ha).trans ?_
  unfold livP
  rw [← inv_nw_up h.1, ← inv_ct_up h.1]
theorem rz_lv (h : Rz z f) {a : Nat} (ha : a < 32) : z.2.2 5 a = bI (livP f z.1.2 a) := by
  rw [h.1.2.2.2.2.1 a ha]
  exact bI_congr (rz_liv h ha).symm
theorem rz_newest (h : Rz z f) {k : Nat} (hk : k < 16) : at_ (z.2.2 6) 16 (-9) (nI k) = oI (nwst f (nI k) (4 * z.1.2)) := by
  rw [at_, if_pos ⟨nI_pos (by omega), nI_lt (show k < 16 by omega) (by decide)⟩, nI_clamp (by omega), h.1.2.2.2.1 k hk, rz_nw h]
theorem nI_lt' {a b : Nat} (h : a < b) (hb : b < 2 ^ 31) : nI a < nI b := nI_lt h hb
theorem rz_va (h : Rz z f) {k : Nat} (hk : k < 16) : vaZ z (nI k) = vlu f (nI k) z.1.2 := by
  have hB := inv_B h.1
  rw [vaZ, vaV, rz_newest h hk, vlu]
  cases hn : nwst f (nI k) (4 * z.1.2) with
  | none => exact if_neg (fun y => absurd y.1 (by decide))
  | some a =>
    have ha := nwst_lt hn
    have hw := (nwst_wr hn).1
    have e : (oI (some a)).toNatClampNeg = a := nI_clamp (by omega)
    rw [if_pos ⟨nI_pos (by omega), nI_lt ha (by omega), nI_lt (show a < 32 by omega) (by decide)⟩, e]
    exact (rz_rec h (by omega) (by rw [← rz_pg h (by omega)]; exact hw)).2.1.symm
theorem rz_ck (h : Rz z f) : ∀ {n : Nat}, n ≤ 16 → ckZ z n = kys f z.1.2 n
  | 0, _ => rfl
  | n + 1, hn => by
    have ih := rz_ck h (n := n) (by omega)
    show ckV _ _ _ (n + 1) = _
    rw [ckV, kys, show ckV z.1.2 (z.2.2 2) (z.2.2 6) n = kys f z.1.2 n from ih, show vaV z.1.2 (z.2.2 2) (z.2.2 6) (nI n) = vlu f (nI n) z.1.2 from rz_va h (by omega)]
-- a block's pages
/-- the four pages of block b, by the number of its clean ones -/
theorem inv_fr (h : Inv z) {b : Nat} (hb : b < 8) : frN_ z b ≤ 4 ∧ z.2.2 7 b = nI (frN_ z b) ∧ (z.2.2 0 (4 * b) = 0 ↔ frN_ z b = 4) ∧ (z.2.2 0 (4 * b + 1) = 0 ↔ 3 ≤ frN_ z b) ∧ (z.2.2 0 (4 * b + 2) = 0 ↔ 2 ≤ frN_ z b) ∧ (z.2.2 0 (4 * b + 3) = 0 ↔ 1 ≤ frN_ z b) := by
  obtain ⟨h1, h2⟩ := h.2.2.2.2.2.1 b hb
  have h4 : frN_ z b ≤ 4 := h1.2
  refine ⟨h4, h1.1, (h2 0 (by decide)).trans ?_, (h2 1 (by decide)).trans ?_, (h2 2 (by decide)).trans ?_, (h2 3 (by decide)).trans ?_⟩
  all_goals (constructor <;> omega)
theorem rz_lft (h : Rz z f) {b : Nat} (hb : b < 8) : lft f b = frN_ z b := by
  obtain ⟨h4, -, h0, h1, h2, h3⟩ := inv_fr h.1 hb
  unfold lft
  rw [rz_pg h (by omega), rz_pg h (by omega), rz_pg h (by omega), rz_pg h (by omega)]
  repeat' split
  all_goals simp_all
  all_goals omega
theorem rz_cst0 (h : Rz z f) {b : Nat} (hb : b < 8) : cst f b 0 4 = frN_ z b := by
  obtain ⟨h4, -, h0, h1, h2, h3⟩ := inv_fr h.1 hb
  have e0 : pg f (4 * b + 0) 0 = z.2.2 0 (4 * b) := rz_pg h (by omega)
  have e1 : pg f (4 * b + 1) 0 = z.2.2 0 (4 * b + 1) := rz_pg h (by omega)
  have e2 : pg f (4 * b + 2) 0 = z.2.2 0 (4 * b + 2) := rz_pg h (by omega)
  have e3 : pg f (4 * b + 3) 0 = z.2.2 0 (4 * b + 3) := rz_pg h (by omega)
  simp only [cst, e0, e1, e2, e3]
  by_cases c0 : z.2.2 0 (4 * b) = 0 <;> by_cases c1 : z.2.2 0 (4 * b + 1) = 0 <;> by_cases c2 : z.2.2 0 (4 * b + 2) = 0 <;> by_cases c3 : z.2.2 0 (4 * b + 3) = 0 <;> simp only [c0, c1, c2, c3, if_true, if_false] <;> simp only [c0, c1, c2, c3, true_iff, false_iff] at h0 h1 h2 h3 <;> omega
theorem rz_fr4 (h : Rz z f) {b : Nat} (hb : b < 8) : z.2.2 7 b = 4 ↔ cst f b 0 4 = 4 := by
  obtain ⟨h4, e, -⟩ := inv_fr h.1 hb
  rw [rz_cst0 h hb, e]
  exact nI_eq (a := frN_ z b) (b := 4) (by omega) (by decide)
theorem rz_cln1 (h : Rz z f) {b : Nat} (hb : b < 8) : (¬ nI b = z.2.1 3 ∧ z.2.2 7 b = 4) ↔ clnP f b := by
  unfold clnP
  rw [rz_fr4 h hb, rz_k h (show 3 < 23 by decide), zr_3]
theorem rz_cln (h : Rz z f) : ∀ {n : Nat}, n ≤ 8 → cbF (z.2.2 7) (z.2.1 3) n = cln f n
  | 0, _ => rfl
  | n + 1, hn => by
    rw [cbF, cln, rz_cln h (show n ≤ 8 by omega)]
    have e := rz_cln1 h (show n < 8 by omega)
    simp only [e]
theorem rz_lw (h : Rz z f) : ∀ {n : Nat}, n ≤ 8 → lwF (z.2.2 7) (z.2.2 4) (z.2.1 3) n = lcl f n
  | 0, _ => rfl
  | n + 1, hn => by
    rw [lwF, lcl, rz_lw h (show n ≤ 8 by omega)]
    have e := rz_cln1 h (show n < 8 by omega)
    cases ho : lcl f n with
    | none => simp only [e]
    | some o =>
      have := lcl_lt ho
      dsimp only
      rw [rz_w h (show n < 8 by omega), rz_w h (show o < 8 by omega)]
      simp only [e]
theorem rz_lvs (h : Rz z f) {b : Nat} (hb : b < 8) : ∀ {n : Nat}, n ≤ 4 → slF (z.2.2 5) b n = nI (lvs f z.1.2 b n)
  | 0, _ => rfl
  | n + 1, hn => by
    rw [slF, lvs, rz_lvs h hb (show n ≤ 4 by omega), rz_lv h (show 4 * b + n < 32 by omega)]
    by_cases hl : livP f z.1.2 (4 * b + n)
    · rw [bI_1 hl, if_pos hl]
      exact nI_add _ 1
    · rw [bI_0 hl, if_neg hl]
      exact nI_add _ 0
theorem rz_cst (h : Rz z f) {b : Nat} (hb : b < 8) {x : Int32} : ∀ {n : Nat}, n ≤ 4 → ctF (z.2.2 0) b x n = cst f b x n
  | 0, _ => rfl
  | n + 1, hn => by
    rw [ctF, cst, rz_cst h hb (show n ≤ 4 by omega), rz_pg h (show 4 * b + n < 32 by omega)]
theorem bI_z {P : Prop} [Decidable P] : bI P = 0 ↔ ¬ P := ⟨bI_f, bI_0⟩
theorem rz_td (h : Rz z f) {b : Nat} (hb : b < 8) : ∀ {n : Nat}, n ≤ 4 → lvs f z.1.2 b n ≤ cst f b 2 n + cst f b 1 n ∧ (tdF (z.2.2 0) (z.2.2 5) b n = true ↔ lvs f z.1.2 b n < cst f b 2 n + cst f b 1 n)
  | 0, _ => ⟨Nat.le_refl _, by simp [tdF, lvs, cst]⟩
  | n + 1, hn => by
    obtain ⟨h1, h2⟩ := rz_td h hb (show n ≤ 4 by omega)
    have ha : 4 * b + n < 32 := by omega
    have ep := rz_pg h ha
    have el : z.2.2 5 (4 * b + n) = 0 ↔ ¬ livP f z.1.2 (4 * b + n) := by rw [rz_lv h ha]; exact bI_z
    rw [tdF, lvs, cst, cst, Bool.or_eq_true, decide_eq_true_eq, h2, el]
    have hk := h.1.1.2.1 (4 * b + n) ha
    by_cases hl : livP f z.1.2 (4 * b + n)
    · have e1 : pg f (4 * b + n) 0 = 1 := hl.1
      rw [if_pos hl, if_neg (show ¬ pg f (4 * b + n) 0 = 2 by rw [e1]; decide), if_pos e1]
      refine ⟨by omega, ?_⟩
      constructor
      · intro y
        rcases y with y | y
        · omega
        · exact absurd hl y.2
      · intro y
        exact Or.inl (by omega)
    · rw [if_neg hl]
      rcases hk with e | e | e
      · rw [if_neg (show ¬ pg f (4 * b + n) 0 = 2 by rw [ep, e]; decide), if_neg (show ¬ pg f (4 * b + n) 0 = 1 by rw [ep, e]; decide)]
        refine ⟨by omega, ?_⟩
        constructor
        · intro y
          rcases y with y | y
          · omega
          · exact absurd e y.1
        · intro y
          exact Or.inl (by omega)
      · rw [if_neg (show ¬ pg f (4 * b + n) 0 = 2 by rw [ep, e]; decide), if_pos (show pg f (4 * b + n) 0 = 1 by rw [ep, e])]
        exact ⟨by omega, ⟨fun _ => by omega, fun _ => Or.inr ⟨by rw [e]; decide, hl⟩⟩⟩
      · rw [if_pos (show pg f (4 * b + n) 0 = 2 by rw [ep, e]), if_neg (show ¬ pg f (4 * b + n) 0 = 1 by rw [ep, e]; decide)]
        exact ⟨by omega, ⟨fun _ => by omega, fun _ => Or.inr ⟨by rw [e]; decide, hl⟩⟩⟩
end P1
