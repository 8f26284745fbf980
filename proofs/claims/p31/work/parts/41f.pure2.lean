-- THE PURE PART: victims, answers
section P2
variable {z : LgS} {f : Nat → Int32}
theorem iOp_cases (h : Inv z) : (z.2.1 3 = -9) ∨ (z.1.1 = true ∧ ∃ b, b < z.1.2 ∧ z.2.1 3 = nI b) := h.2.2.2.2.2.2.2.1
theorem rz_3 (h : Rz z f) : f 3 = z.2.1 3 := by rw [rz_k h (by decide), zr_3]
theorem rz_opn (h : Rz z f) : (z.2.1 3 = -9 ∧ opn f = none) ∨ (z.1.1 = true ∧ ∃ b, b < z.1.2 ∧ z.2.1 3 = nI b ∧ opn f = some b) := by
  have hB := inv_B h.1
  have e3 := rz_3 h
  rcases iOp_cases h.1 with ho | ⟨hon, b, hb, ho⟩
  · exact Or.inl ⟨ho, by unfold opn; rw [if_pos (by rw [e3, ho])]⟩
  · refine Or.inr ⟨hon, b, hb, ho, ?_⟩
    unfold opn
    rw [if_neg (by rw [e3, ho]; exact oI_ne (by omega)), e3, ho, nI_clamp (by omega)]
theorem rz_wf (h : Rz z f) : Wf f z.1.2 := by
  have hB := inv_B h.1
  refine ⟨by rw [rz_k h (by decide), zr_0], hB, ?_⟩
  rcases rz_opn h with ⟨h1, h2⟩ | ⟨-, b, hb, h1, h2⟩
  · rw [h2, rz_3 h, h1]
    exact ⟨rfl, fun b hb => by cases hb⟩
  · rw [h2, rz_3 h, h1]
    exact ⟨rfl, fun b hb => by cases hb; omega⟩
theorem at_b {F : Nat → Int32} {b k : Nat} {d : Int32} (h : b < k) (hk : k < 2 ^ 31) : at_ F (nI k) d (nI b) = F b := by
  rw [at_, if_pos ⟨nI_pos (by omega), nI_lt h hk⟩, nI_clamp (by omega)]
theorem at_8 {F : Nat → Int32} {b : Nat} {d : Int32} (h : b < 8) : at_ F 8 d (nI b) = F b := at_b (k := 8) h (by decide)
theorem at_n {F : Nat → Int32} {k d : Int32} : at_ F k d (-9) = d := if_neg (fun y => y.1 (by decide))
theorem rz_frZ (h : Rz z f) : frZ z = nI (lfo f (opn f)) := by
  have hB := inv_B h.1
  rcases rz_opn h with ⟨h1, h2⟩ | ⟨-, b, hb, h1, h2⟩
  · rw [frZ, h1, h2, at_n]; rfl
  · rw [frZ, h1, h2, at_8 (by omega)]
    show z.2.2 7 b = nI (lft f b)
    rw [rz_lft h (by omega)]
    exact (inv_fr h.1 (by omega)).2.1
theorem rz_rm (h : Rz z f) : rmV (z.2.2 7) (z.2.1 3) z.1.2 = nI (lfo f (opn f) + if 0 < cln f z.1.2 then 4 else 0) := by
  rw [rmV, show at_ (z.2.2 7) 8 0 (z.2.1 3) = frZ z from rfl, rz_frZ h, rz_cln h (inv_B h.1)]
  split
  · exact nI_add _ 4
  · exact nI_add _ 0
theorem slV_b (h : Rz z f) {b : Nat} (hb : b < 8) : slV (z.2.2 5) (nI b) = nI (lvs f z.1.2 b 4) := by
  rw [slV, if_pos ⟨nI_pos (by omega), nI_lt (show b < 8 by omega) (by decide)⟩, nI_clamp (by omega), rz_lvs h hb (by decide)]
theorem tdP_b (h : Rz z f) {b : Nat} (hb : b < 8) : tdP (z.2.2 0) (z.2.2 5) (nI b) ↔ lvs f z.1.2 b 4 < cst f b 2 4 + cst f b 1 4 := by
  rw [← (rz_td h hb (n := 4) (by decide)).2]
  constructor
  · intro y
    have := y.2
    rw [nI_clamp (by omega)] at this
    exact this
  · intro y
    exact ⟨⟨nI_pos (by omega), nI_lt (show b < 8 by omega) (by decide)⟩, by rw [nI_clamp (by omega)]; exact y⟩
/-- states 0, 1, 2 are all there are -/
theorem rz_sum (h : Rz z f) {b : Nat} (hb : b < 8) : ∀ {n : Nat}, n ≤ 4 → cst f b 0 n + cst f b 1 n + cst f b 2 n = n
  | 0, _ => rfl
  | n + 1, hn => by
    have ih := rz_sum h hb (n := n) (by omega)
    have ep := rz_pg h (show 4 * b + n < 32 by omega)
    rw [cst, cst, cst, ep]
    rcases h.1.1.2.1 (4 * b + n) (by omega) with e | e | e <;> rw [e]
    · rw [if_pos rfl, if_neg (by decide), if_neg (by decide)]; omega
    · rw [if_neg (by decide), if_pos rfl, if_neg (by decide)]; omega
    · rw [if_neg (by decide), if_neg (by decide), if_pos rfl]; omega
theorem rz_stl (h : Rz z f) {b : Nat} (hb : b < 8) : stlP f z.1.2 b ↔ (¬ nI b = z.2.1 3 ∧ tdP (z.2.2 0) (z.2.2 5) (nI b)) := by
  rw [tdP_b h hb]
  unfold stlP
  rw [rz_3 h]
  constructor
  · intro y; exact ⟨y.1, y.2.2⟩
  · intro y
    refine ⟨y.1, fun hc => ?_, y.2⟩
    have := rz_sum h hb (n := 4) (by decide)
    have := hc.2
    have := y.2
    omega
theorem rz_hs (h : Rz z f) : ∀ {n : Nat}, n ≤ 8 → (hsF (z.2.2 0) (z.2.2 5) (z.2.1 3) n = true ↔ stlA f z.1.2 n = true)
  | 0, _ => Iff.rfl
  | n + 1, hn => by
    rw [hsF, stlA, Bool.or_eq_true, Bool.or_eq_true, rz_hs h (show n ≤ 8 by omega), decide_eq_true_eq, decide_eq_true_eq]
    exact or_congr Iff.rfl (rz_stl h (show n < 8 by omega)).symm
theorem isN_lt {x y : Int32} {k j : Nat} (hx : isN x k) (hy : isN y j) (hk : k < 2 ^ 31) (hj : j < 2 ^ 31) : x < y ↔ x.toNatClampNeg < y.toNatClampNeg := by
  obtain ⟨h1, h2⟩ := hx
  obtain ⟨h3, h4⟩ := hy
  rw [h1, h3, nI_clamp (by omega), nI_clamp (by omega)]
  exact nI_ltI (by omega) (by omega)
theorem rz_cv (h : Rz z f) {b : Nat} (hb : b < 8) : cvP (z.2.2 0) (z.2.2 4) (z.2.2 5) (z.2.2 7) z.1.2 z.1.1 (z.2.1 2) (z.2.1 3) (nI b) ↔ (z.1.1 = true ∧ vicP f z.1.2 (opn f) b) := by
  unfold cvP vicP
  rw [at_8 hb, rz_rm h, slV_b h hb, rz_w h hb, show f 1 = z.2.1 2 by rw [rz_k h (by decide), zr_1], rz_stl h hb]
  have hl4 := lvs_le (f := f) (B := z.1.2) (b := b) 4
  have hlo := lfo_le f (opn f)
  have hle : (¬ nI (lfo f (opn f) + if 0 < cln f z.1.2 then 4 else 0) < nI (lvs f z.1.2 b 4)) ↔ (lvs f z.1.2 b 4 = 0 ∨ lvs f z.1.2 b 4 ≤ lfo f (opn f) + if 0 < cln f z.1.2 then 4 else 0) := by
    rw [nI_ltI (by split <;> omega) (by omega)]
    constructor
    · intro y; exact Or.inr (by omega)
    · intro y
      rcases y with y | y <;> omega
  rw [hle]
  constructor
  · intro y; exact ⟨y.1, ⟨y.2.1, y.2.2.2.1⟩, y.2.2.1, y.2.2.2.2⟩
  · intro y; exact ⟨y.1, y.2.1.1, y.2.2.1, y.2.1.2, y.2.2.2⟩
theorem rz_gm (h : Rz z f) {b : Nat} (hb : b < 8) : ∀ {n : Nat}, n ≤ 4 → gmF (z.2.2 0) (z.2.2 3) b n = gmk f b n
  | 0, _ => rfl
  | n + 1, hn => by
    have ih := rz_gm h hb (n := n) (by omega)
    have ep := rz_pg h (show 4 * b + n < 32 by omega)
    rw [gmF, gmk, ih, ep]
    by_cases e : z.2.2 0 (4 * b + n) = 1
    · rw [(rz_rec h (by omega) e).2.2]
    · rw [if_neg (fun y => e y.1), if_neg (fun y => e y.1)]
theorem rz_gmV (h : Rz z f) {b : Nat} (hb : b < 8) : gmV (z.2.2 0) (z.2.2 3) (nI b) = gmk f b 4 := by
  rw [gmV, if_pos ⟨nI_pos (by omega), nI_lt (show b < 8 by omega) (by decide)⟩, nI_clamp (by omega), rz_gm h hb (by decide)]
theorem rz_po (h : Rz z f) : f 6 = z.2.1 0 ∧ (z.2.1 0 = 0 ∨ z.2.1 0 = 1 ∨ z.2.1 0 = 2) := by
  refine ⟨by rw [rz_k h (by decide), zr_6], ?_⟩
  obtain ⟨h1, h2⟩ := h.1.2.2.2.2.2.2.2.2.1
  rw [h1]
  rcases (show (z.2.1 0).toNatClampNeg = 0 ∨ (z.2.1 0).toNatClampNeg = 1 ∨ (z.2.1 0).toNatClampNeg = 2 by omega) with e | e | e <;> rw [e]
  · exact Or.inl rfl
  · exact Or.inr (Or.inl rfl)
  · exact Or.inr (Or.inr rfl)
theorem rz_gb (h : Rz z f) {b o : Nat} (hb : b < 8) (ho : o < 8) : gbP (z.2.2 0) (z.2.2 3) (z.2.2 4) (z.2.2 5) (z.2.1 0) (nI b) (nI o) ↔ ratP f z.1.2 b o := by
  unfold gbP ratP
  obtain ⟨h6, hp⟩ := rz_po h
  rw [rz_gmV h hb, rz_gmV h ho, at_8 hb, at_8 ho, slV_b h hb, slV_b h ho, rz_w h hb, rz_w h ho, h6]
  rcases hp with e | e | e <;> rw [e]
  · rw [if_neg (by decide), if_neg (by decide), if_neg (by decide), if_pos rfl]
  · rw [if_neg (by decide), if_pos rfl, if_neg (by decide), if_neg (by decide)]
  · rw [if_pos rfl, if_pos rfl]
theorem rz_cvF (h : Rz z f) (hon : z.1.1 = true) : ∀ {n : Nat}, n ≤ 8 → cvF (z.2.2 0) (z.2.2 3) (z.2.2 4) (z.2.2 5) (z.2.2 7) z.1.2 z.1.1 (z.2.1 2) (z.2.1 3) (z.2.1 0) n = vct f z.1.2 (opn f) n
  | 0, _ => rfl
  | n + 1, hn => by
    have ih := rz_cvF h hon (n := n) (by omega)
    have ec := (rz_cv h (show n < 8 by omega)).trans (and_iff_right hon)
    rw [cvF, vct, ih]
    cases hv : vct f z.1.2 (opn f) n with
    | none =>
      dsimp only
      by_cases y : vicP f z.1.2 (opn f) n
      · rw [if_pos y, if_pos (ec.mpr y)]
      · rw [if_neg y, if_neg (fun q => y (ec.mp q))]
    | some o =>
      have ho := vct_lt hv
      have eg := rz_gb h (show n < 8 by omega) (show o < 8 by omega)
      dsimp only
      by_cases y : vicP f z.1.2 (opn f) n ∧ ratP f z.1.2 n o
      · rw [if_pos y, if_pos ⟨ec.mpr y.1, eg.mpr y.2⟩]
      · rw [if_neg y, if_neg (fun q => y ⟨ec.mp q.1, eg.mp q.2⟩)]
theorem cvF_off {kd mk wr lv fr : Nat → Int32} {B : Nat} {on : Bool} {li op po : Int32} (h : ¬ on = true) : ∀ n, cvF kd mk wr lv fr B on li op po n = none
  | 0 => rfl
  | n + 1 => by
    rw [cvF, cvF_off h n]
    exact if_neg (fun y => h y.1)
theorem rz_2 (h : Rz z f) : f 2 = bI (z.1.1 = true) := by rw [rz_k h (by decide), zr_2]
theorem bI_one {P : Prop} [Decidable P] : bI P = 1 ↔ P := by
  by_cases h : P
  · rw [bI_1 h]; exact ⟨fun _ => h, fun _ => rfl⟩
  · rw [bI_0 h]; exact ⟨fun y => absurd y (by decide), fun y => absurd y h⟩
theorem rz_on (h : Rz z f) : f 2 = 1 ↔ z.1.1 = true := by rw [rz_2 h]; exact bI_one
theorem rz_off (h : Rz z f) : f 2 = 0 ↔ ¬ z.1.1 = true := by rw [rz_2 h]; exact bI_z
theorem rz_vc (h : Rz z f) : cvZ z = vcm f z.1.2 (opn f) := by
  unfold vcm
  by_cases hon : z.1.1 = true
  · rw [if_pos ((rz_on h).mpr hon)]
    exact rz_cvF h hon (inv_B h.1)
  · rw [if_neg (fun y => hon ((rz_on h).mp y))]
    exact cvF_off hon _
-- answers
theorem rz_wsN (h : Rz z f) : ∀ {n : Nat}, n < 8 → wsN (z.2.2 4) n = mnw f n ∧ wsX (z.2.2 4) n = mxw f n
  | 0, _ => by
    rw [wsN, wsX, mnw, mxw, show at_ (z.2.2 4) 8 0 0 = z.2.2 4 0 from at_8 (b := 0) (by decide), show f 15 = z.2.2 4 0 from rz_w h (b := 0) (by decide)]
    exact ⟨rfl, rfl⟩
  | n + 1, hn => by
    obtain ⟨h1, h2⟩ := rz_wsN h (n := n) (by omega)
    rw [wsN, wsX, mnw, mxw, h1, h2, at_8 (show n + 1 < 8 by omega), show f (15 + n + 1) = z.2.2 4 (n + 1) from rz_w h (show n + 1 < 8 by omega)]
    exact ⟨rfl, rfl⟩
theorem rz_about (h : Rz z f) {w : Nat} (hw : w ≤ 13) : abZ z w = abV f z.1.2 w := by
  have hB := inv_B h.1
  have hB3 := h.1.1.1.1
  unfold abZ abV
  rcases (show w = 0 ∨ w = 1 ∨ w = 2 ∨ w = 3 ∨ w = 4 ∨ w = 5 ∨ w = 6 ∨ w = 7 ∨ w = 8 ∨ w = 9 ∨ w = 10 ∨ w = 11 ∨ w = 12 ∨ w = 13 by omega) with rfl | rfl | rfl | rfl | rfl | rfl | rfl | rfl | rfl | rfl | rfl | rfl | rfl | rfl <;> simp [lgF, tlF]
  · rw [rz_k h (by decide), zr_0]
  · rw [rz_k h (by decide), zr_1]
  · rw [rz_2 h]
  · rw [rz_3 h]
  · rw [rz_cln h hB]
  · rw [show ckV z.1.2 (z.2.2 2) (z.2.2 6) 16 = kys f z.1.2 16 from rz_ck h (by decide)]
  · rw [rz_k h (by decide), zr_n (by decide) (by decide)]
  · rw [rz_k h (by decide), zr_n (by decide) (by decide)]
  · rw [rz_k h (by decide), zr_n (by decide) (by decide)]
  · rw [rz_k h (by decide), zr_n (by decide) (by decide)]
  · rw [rz_k h (by decide), zr_n (by decide) (by decide)]
  · rw [rz_k h (by decide), zr_5]
  · rw [rz_k h (by decide), zr_6]
  · rw [(rz_wsN h (show z.1.2 - 1 < 8 by omega)).1, (rz_wsN h (show z.1.2 - 1 < 8 by omega)).2]
end P2
