-- THE PURE PART: the sweep on both sides
/-- the pages of block b that P names, m from q on -/
def remL (b : Nat) (P : Nat → Bool) : Nat → Nat → List Nat
  | _, 0 => []
  | q, m + 1 => if P q = true then (4 * b + q) :: remL b P (q + 1) m else remL b P (q + 1) m
theorem remL_len {b : Nat} {P : Nat → Bool} : ∀ {q m : Nat}, (remL b P q m).length ≤ m
  | _, 0 => Nat.le_refl _
  | q, m + 1 => by
    have := remL_len (b := b) (P := P) (q := q + 1) (m := m)
    rw [remL]
    split
    · rw [List.length_cons]; omega
    · omega
theorem lvL_rem {f : Nat → Int32} {B b : Nat} {P : Nat → Bool} (h : ∀ i, i < 4 → (livP f B (4 * b + i) ↔ P i = true)) : lvL f B b 4 = remL b P 0 4 := by
  have e : ∀ i, i < 4 → ∀ {x y : List Nat}, (if livP f B (4 * b + i) then x else y) = if P i = true then x else y := fun i hi x y => ite_iff (h i hi)
  simp only [lvL, remL]
  rw [e 0 (by decide), e 1 (by decide), e 2 (by decide), e 3 (by decide)]
  cases P 0 <;> cases P 1 <;> cases P 2 <;> cases P 3 <;> rfl
theorem lvs_len {f : Nat → Int32} {B b : Nat} : ∀ {n : Nat}, lvs f B b n = (lvL f B b n).length
  | 0 => rfl
  | n + 1 => by
    rw [lvs, lvL, lvs_len (n := n)]
    split
    · rw [List.length_append]; rfl
    · rfl
theorem lvM_bit {z : LgS} {b : Nat} {q : Nat} (hq : q < 4) : (lvM z b 4 >>> (nI q &&& 31)) &&& 1 = 0 ↔ ¬ tpZ z (nI (4 * b + q)) 4 = 1 := by
  simp only [lvM]
  by_cases t0 : tpZ z (nI (4 * b + 0)) 4 = 1 <;> by_cases t1 : tpZ z (nI (4 * b + 1)) 4 = 1 <;> by_cases t2 : tpZ z (nI (4 * b + 2)) 4 = 1 <;> by_cases t3 : tpZ z (nI (4 * b + 3)) 4 = 1 <;> rcases (show q = 0 ∨ q = 1 ∨ q = 2 ∨ q = 3 by omega) with rfl | rfl | rfl | rfl <;> simp only [t0, t1, t2, t3, if_true, if_false, not_true, not_false_iff, iff_true, iff_false] <;> decide
section P12
variable {z : LgS} {f : Nat → Int32}
theorem slp_ok {b : Nat} {P : Nat → Bool} {M : Int32} (hM : ∀ q, q < 4 → ((M >>> (nI q &&& 31)) &&& 1 = 0 ↔ ¬ P q = true)) : ∀ {m q : Nat} {z : LgS} {f : Nat → Int32}, q + m = 4 → SI z f b P q → (remL b P q m).length ≤ roZ z → ∃ ok z2 f2, slp b M m q z = some (ok, z2) ∧ swC z.1.2 (remL b P q m) f = some (ok, f2) ∧ Rz z2 f2 ∧ KV z z2 m ∧ (ok = true → z2.2.2 4 = z.2.2 4 ∧ SI z2 f2 b P 4) ∧ (ok = false → ¬ z.2.1 1 = 0)
  | 0, q, z, f, hq, h, hr => by
    have : q = 4 := by omega
    subst this
    exact ⟨true, z, f, rfl, rfl, h.1, kv_rf, fun _ => ⟨rfl, h⟩, fun y => absurd y (by decide)⟩
  | m + 1, q, z, f, hq, h, hr => by
    by_cases hP : P q = true
    · have hbit : ¬ (M >>> (nI q &&& 31)) &&& 1 = 0 := fun y => (hM q (by omega)).mp y hP
      rw [remL, if_pos hP, List.length_cons] at hr
      have hl := remL_len (b := b) (P := P) (q := q + 1) (m := m)
      obtain ⟨z1, p, k, c1, c2, c3, c4, c5, c6, c7, c8, c9, c10, c11⟩ := si_copy h (by omega) hP hr (by omega)
      have e1 : slp b M (m + 1) q z = slS (nI p) (nI k) (tpZ z (nI (4 * b + q)) 2) z1 (slp b M m (q + 1)) := by
        rw [slp, if_neg hbit, c1]
        dsimp only
        rw [c4]
      have hin : inN (nI p) 32 ∧ inN (nI k) 16 := ⟨⟨nI_pos (by omega), nI_lt (show p < 32 by omega) (by decide)⟩, ⟨nI_pos (by omega), nI_lt (show k < 16 by omega) (by decide)⟩⟩
      rw [e1, slS, if_pos hin, nI_clamp (by omega), nI_clamp (by omega), c5, remL, if_pos hP, swC, swS, c6]
      dsimp only
      rw [c7, c8]
      by_cases hc : icP (z.2.1 1)
      · obtain ⟨g1, g2⟩ := c10 hc
        rw [if_pos hc, if_pos (c9.mpr hc)]
        exact ⟨false, _, _, rfl, rfl, g1, kv_tr g2 (kv_rf (n := 0)) (by omega), fun y => absurd y (by decide), fun _ => hc.1⟩
      · obtain ⟨g1, g2, g3, g4⟩ := c11 hc
        rw [if_neg hc, if_neg (fun y => hc (c9.mp y))]
        obtain ⟨ok, z2, f2, i1, i2, i3, i4, i5, i6⟩ := slp_ok hM (m := m) (q := q + 1) (by omega) g1 g4
        rw [g2.1] at i2
        refine ⟨ok, z2, f2, i1, i2, i3, kv_tr g2 i4 (by omega), fun y => ⟨(i5 y).1.trans g3, (i5 y).2⟩, fun y e => i6 y (g2.2.2.2.1 e).1⟩
    · have hbit : (M >>> (nI q &&& 31)) &&& 1 = 0 := (hM q (by omega)).mpr hP
      rw [remL, if_neg hP] at hr
      have h1 : SI z f b P (q + 1) := by
        refine ⟨h.1, h.2.1, h.2.2.1, h.2.2.2.1, h.2.2.2.2.1, fun i hi => (h.2.2.2.2.2 i hi).trans ?_⟩
        constructor
        · intro y
          refine ⟨y.1, ?_⟩
          rcases Nat.eq_or_lt_of_le y.2 with e | e
          · subst e; exact absurd y.1 hP
          · exact e
        · intro y; exact ⟨y.1, by omega⟩
      obtain ⟨ok, z2, f2, i1, i2, i3, i4, i5, i6⟩ := slp_ok hM (m := m) (q := q + 1) (by omega) h1 hr
      refine ⟨ok, z2, f2, ?_, ?_, i3, kv_tr i4 (kv_rf (n := 0)) (by omega), i5, i6⟩
      · rw [slp, if_pos hbit]; exact i1
      · rw [remL, if_neg hP]; exact i2
-- erasing: what a key has stays
theorem nwst_nn {g : Nat → Int32} {key : Int32} : ∀ {n : Nat}, nwst g key n = none → ∀ j, j < n → pg g j 0 = 1 → ¬ pg g j 1 = key
  | 0, _, j, hj, _ => absurd hj (Nat.not_lt_zero _)
  | n + 1, h, j, hj, h1 => by
    unfold nwst at h
    cases hn : nwst g key n with
    | none =>
      rw [hn] at h
      dsimp only at h
      split at h
      · cases h
      · rename_i hc
        by_cases e : j = n
        · subst e; exact fun y => hc ⟨h1, y⟩
        · exact nwst_nn hn j (by omega) h1
    | some o2 =>
      rw [hn] at h
      dsimp only at h
      split at h <;> cases h
theorem nwst_mx {g : Nat → Int32} {key : Int32} : ∀ {n o : Nat}, nwst g key n = some o → ∀ j, j < n → pg g j 0 = 1 → pg g j 1 = key → ¬ pg g o 3 < pg g j 3
  | 0, _, h, _, _, _, _ => by cases h
  | n + 1, o, h, j, hj, h1, h2 => by
    unfold nwst at h
    cases hn : nwst g key n with
    | none =>
      rw [hn] at h
      dsimp only at h
      split at h
      · cases h
        by_cases e : j = n
        · subst e; exact Int32.lt_irrefl
        · exact absurd h2 (nwst_nn hn j (by omega) h1)
      · cases h
    | some o2 =>
      rw [hn] at h
      dsimp only at h
      split at h
      · rename_i hc
        cases h
        by_cases e : j = n
        · subst e; exact Int32.lt_irrefl
        · exact fun y => nwst_mx hn j (by omega) h1 h2 (Int32.lt_trans hc.2.2 y)
      · rename_i hc
        cases h
        by_cases e : j = n
        · subst e; exact fun y => hc ⟨h1, h2, y⟩
        · exact nwst_mx hn j (by omega) h1 h2
theorem zk_has (h : Inv z) {k : Nat} (hk : k < 16) (hv : ¬ vaZ z (nI k) = -9) : ∃ o, nwst (zr z) (nI k) 32 = some o ∧ o < 4 * z.1.2 ∧ z.2.2 0 o = 1 ∧ z.2.2 1 o = nI k ∧ ¬ z.2.2 2 o = -9 ∧ z.2.2 5 o = 1 := by
  have hB := inv_B h
  rw [zk_va hk] at hv
  by_cases hp : pagP z.1.2 (z.2.2 6 k)
  · rw [if_pos hp] at hv
    rw [h.2.2.2.1 k hk] at hp hv
    cases ho : nwst (zr z) (nI k) 32 with
    | none => rw [ho] at hp; exact absurd hp.1 (by decide)
    | some o =>
      have ol := nwst_lt ho
      have ow := nwst_wr ho
      rw [zr_pg (by decide), zr_pg (by decide)] at ow
      rw [ho, show oI (some o) = nI o from rfl] at hv hp
      rw [nI_clamp (by omega)] at hv
      refine ⟨o, rfl, (nI_ltI (by omega) (by omega)).mp hp.2.1, ow.1, ow.2, hv, ?_⟩
      rw [h.2.2.2.2.1 o ol, bI_1]
      refine ⟨by rw [zr_pg (by decide)]; exact ow.1, ?_, Or.inl (by rw [zr_pg (by decide)]; exact hv)⟩
      rw [zr_pg (by decide), ow.2]
      exact ho
  · rw [if_neg hp] at hv
    exact absurd rfl hv
theorem er_va (h : Inv z) {z2 : LgS} (h2 : Inv z2) {b : Nat} {x : Int32} (hp : z2.2.2 = wpF z.2.2 b x) (hB2 : z2.1.2 = z.1.2) (hx : ¬ x = 1) (hd : ∀ i, i < 4 → ¬ z.2.2 5 (4 * b + i) = 1) {k : Nat} (hk : k < 16) (hv : ¬ vaZ z (nI k) = -9) : ¬ vaZ z2 (nI k) = -9 := by
  have hB := inv_B h
  obtain ⟨F0, F1, F2, F3, -⟩ := wp_F (F := z.2.2) (b := b) (x := x)
  rw [← hp] at F0 F1 F2 F3
  obtain ⟨o, c1, c2, c3, c4, c5, c6⟩ := zk_has h hk hv
  have hob : ¬ (4 * b ≤ o ∧ o < 4 * b + 4) := fun y => hd (o - 4 * b) (by omega) (by rw [show 4 * b + (o - 4 * b) = o by omega]; exact c6)
  have hk0 : ∀ j, z2.2.2 0 j = if 4 * b ≤ j ∧ j < 4 * b + 4 then x else z.2.2 0 j := fun j => by rw [F0, k4_at]
  have ho0 : z2.2.2 0 o = 1 := by rw [hk0, if_neg hob]; exact c3
  have hn : nwst (zr z2) (nI k) 32 = some o := by
    cases hc : nwst (zr z2) (nI k) 32 with
    | none =>
      exact absurd (show pg (zr z2) o 1 = nI k by rw [zr_pg (by decide), F1]; exact c4) (nwst_nn hc o (by omega) (by rw [zr_pg (by decide)]; exact ho0))
    | some o2 =>
      have l2 := nwst_lt hc
      have w2 := nwst_wr hc
      have m2 := nwst_mx hc o (by omega) (by rw [zr_pg (by decide)]; exact ho0) (by rw [zr_pg (by decide), F1]; exact c4)
      rw [zr_pg (by decide), zr_pg (by decide), F1] at w2
      have e2 : z.2.2 0 o2 = 1 := by
        have := w2.1
        rw [hk0] at this
        split at this
        · exact absurd this hx
        · exact this
      have m1 := nwst_mx c1 o2 l2 (by rw [zr_pg (by decide)]; exact e2) (by rw [zr_pg (by decide)]; exact w2.2)
      rw [zr_pg (by decide), zr_pg (by decide)] at m1 m2
      rw [F3] at m2
      have : z.2.2 3 o2 = z.2.2 3 o := by
        rw [i_lt_i] at m1 m2
        exact Int32.toInt_inj.mp (by omega)
      rw [h.2.2.1.2 o2 o l2 (by omega) e2 c3 this]
  rw [zk_va hk, h2.2.2.2.1 k hk, hn, show oI (some o) = nI o from rfl, hB2, if_pos (pagP_b c2 (by omega) hB), nI_clamp (by omega), F2]
  exact c5
/-- erasings that are left -/
def leZ (z : LgS) : Nat → Nat
  | 0 => 0
  | n + 1 => leZ z n + (liN_ z - weN_ z n)
theorem le_er {z2 : LgS} {b : Nat} (hl : liN_ z2 = liN_ z) (hw : ∀ j, j ≠ b → weN_ z2 j = weN_ z j) (h1 : weN_ z2 b = weN_ z b + 1) (hb : weN_ z b < liN_ z) : ∀ {n : Nat}, leZ z n = leZ z2 n + if b < n then 1 else 0
  | 0 => by rw [if_neg (Nat.not_lt_zero _)]; rfl
  | n + 1 => by
    rw [leZ, leZ, le_er hl hw h1 hb (n := n), hl]
    by_cases e : n = b
    · subst e
      rw [if_neg (Nat.lt_irrefl _), if_pos (Nat.lt_succ_self _), h1]
      omega
    · rw [hw n e]
      by_cases hb : b < n
      · rw [if_pos hb, if_pos (by omega)]
        omega
      · rw [if_neg hb, if_neg (by omega)]
        omega
theorem vct_vic {B : Nat} {o : Option Nat} : ∀ {n x : Nat}, vct f B o n = some x → vicP f B o x
  | 0, x, h => by cases h
  | n + 1, x, h => by
    unfold vct at h
    cases hn : vct f B o n with
    | none =>
      rw [hn] at h
      dsimp only at h
      split at h
      · rename_i hc; cases h; exact hc
      · cases h
    | some o2 =>
      rw [hn] at h
      have := vct_vic hn
      dsimp only at h
      split at h
      · rename_i hc; cases h; exact hc.1
      · cases h; exact this
theorem sb_ok (h : Rz z f) {b : Nat} (hv : cvZ z = some b) : ∃ w z2 f2, sbl b z = some (w, z2) ∧ swp f z.1.2 = some (w, f2) ∧ Rz z2 f2 ∧ KV z z2 5 ∧ ((w = -2 ∧ ¬ z.2.1 1 = 0) ∨ (w = nI b ∧ b < 8 ∧ z2.1.1 = true ∧ leZ z 8 = leZ z2 8 + 1)) := by
  have hB := inv_B h.1
  rw [rz_vc h] at hv
  have hbB := vcm_lt hv
  have hb8 : b < 8 := by omega
  have hf2 : f 2 = 1 ∧ vct f z.1.2 (opn f) z.1.2 = some b := by
    unfold vcm at hv
    split at hv
    · rename_i hc; exact ⟨hc, hv⟩
    · cases hv
  have hon := (rz_on h).mp hf2.1
  obtain ⟨v1, v2, v3⟩ := vct_vic hf2.2
  let P : Nat → Bool := fun i => decide (livP f z.1.2 (4 * b + i))
  have hP : ∀ i, P i = true ↔ livP f z.1.2 (4 * b + i) := fun i => decide_eq_true_iff
  have hlv : ∀ i, i < 4 → (z.2.2 5 (4 * b + i) = 1 ↔ livP f z.1.2 (4 * b + i)) := fun i hi => by
    rw [rz_lv h (show 4 * b + i < 32 by omega)]
    exact bI_one
  have hw : weN_ z b < liN_ z := by
    rw [rz_w h hb8, show f 1 = z.2.1 2 by rw [rz_k h (by decide), zr_1]] at v2
    exact (isN_lt (h.1.2.2.2.2.2.2.1.2.2 b hb8) h.1.2.2.2.2.2.2.1.1 (by have := h.1.2.2.2.2.2.2.1.1.2; unfold liN_; omega) (by decide)).mp v2
  have hSI : SI z f b P 0 := by
    refine ⟨h, hon, hbB, fun y => v1.1 ?_, fun y => ?_, fun i hi => ?_⟩
    · rw [rz_3 h, y]
    · have s1 := rz_sum h hb8 (n := 4) (by decide)
      have s2 := rz_cst0 h hb8
      have := v1.2.2
      omega
    · rw [hlv i hi, hP]
      exact ⟨fun y => ⟨y, Nat.zero_le _⟩, fun y => y.1⟩
  have hL : lvL f z.1.2 b 4 = remL b P 0 4 := lvL_rem (fun i _ => (hP i).symm)
  have hro : (remL b P 0 4).length ≤ roZ z := by
    rw [← hL, ← lvs_len, rz_ro h]
    rcases v3 with e | e
    · rw [e]; exact Nat.zero_le _
    · exact e
  have hM : ∀ q, q < 4 → ((lvM z b 4 >>> (nI q &&& 31)) &&& 1 = 0 ↔ ¬ P q = true) := fun q hq => by
    rw [lvM_bit hq, hP, ← hlv q hq]
    refine not_congr ?_
    rw [tpZ, tpV, if_pos ⟨nI_pos (by omega), nI_lt (show 4 * b + q < 32 by omega) (by decide)⟩, nI_clamp (by omega), tpF, if_neg (show ¬ (4 : Int32) = 0 by decide), if_neg (show ¬ (4 : Int32) = 1 by decide), if_neg (show ¬ (4 : Int32) = 2 by decide), if_neg (show ¬ (4 : Int32) = 3 by decide)]
    constructor
    · intro y
      split at y
      · exact y
      · exact absurd y (by decide)
    · intro y
      rw [if_pos (inv_live h.1 (by omega) y).1]
      exact y
  obtain ⟨ok, z1, f1, i1, i2, i3, i4, i5, i6⟩ := slp_ok hM (m := 4) (q := 0) rfl hSI hro
  have e1 : sbl b z = sbE b (some (ok, z1)) := by rw [sbl, i1]
  have e2 : swp f z.1.2 = swE b (some (ok, f1)) := by rw [swp, hv]; dsimp only; rw [hL, i2]
  rw [e1, e2]
  cases ok with
  | false =>
    exact ⟨-2, z1, f1, rfl, rfl, i3, kv_tr i4 (kv_rf (n := 0)) (by decide), Or.inl ⟨rfl, i6 rfl⟩⟩
  | true =>
    obtain ⟨g1, g2⟩ := i5 rfl
    have hB1 := i4.1
    have hwe : ∀ j, weN_ z1 j = weN_ z j := fun j => by unfold weN_; rw [g1]
    have hli : liN_ z1 = liN_ z := by unfold liN_; rw [i4.2.1]
    have hw1 : weN_ z1 b < liN_ z1 := by rw [hwe, hli]; exact hw
    have hd : ∀ i, i < 4 → ¬ z1.2.2 5 (4 * b + i) = 1 := fun i hi y => by have := (g2.2.2.2.2.2 i hi).mp y; omega
    by_cases hc : icP (z1.2.1 1)
    · have hR := rz_erasecut i3 (b := b) (by omega) hw1 hc
      refine ⟨-2, lsE1 z1 b, erR f1 b, if_pos hc, ?_, hR, kv_tr i4 (m := 1) ⟨rfl, rfl, ⟨1, Nat.le_refl _, rfl⟩, fun y => absurd y hc.1, fun k hk y => er_va i3.1 hR.1 rfl rfl (by decide) hd hk y⟩ (by decide), Or.inl ⟨rfl, fun y => hc.1 (i4.2.2.2.1 y).1⟩⟩
      show some (if cutP f1 then -2 else nI b, erR f1 b) = _
      rw [if_pos ((rz_cutP i3).mpr hc)]
    · have hR := rz_erase i3 (b := b) (by omega) hw1 hc
      obtain ⟨N0, N1, N2, N3, N4⟩ := e2_N (z := z1) (b := b)
      refine ⟨nI b, lsE2 z1 b, erR f1 b, if_neg hc, ?_, hR, kv_tr i4 (m := 1) ⟨rfl, N2, ⟨1, Nat.le_refl _, rfl⟩, fun y => ⟨by rw [N1, y]; rfl, rfl⟩, fun k hk y => er_va i3.1 hR.1 rfl rfl (by decide) hd hk y⟩ (by decide), Or.inr ⟨rfl, hb8, g2.2.1, ?_⟩⟩
      · show some (if cutP f1 then -2 else nI b, erR f1 b) = _
        rw [if_neg (fun y => hc ((rz_cutP i3).mp y))]
      · have e4 : (lsE2 z1 b).2.2 4 = upd (z1.2.2 4) b (z1.2.2 4 b + 1) := (wp_F (F := z1.2.2) (b := b) (x := 0)).2.2.2.2.1
        have hwb := (i3.1.2.2.2.2.2.2.1.2.2 b hb8).1
        have hl99 : liN_ z1 ≤ 99 := i3.1.2.2.2.2.2.2.1.1.2
        have := le_er (z := z1) (z2 := lsE2 z1 b) (b := b) (by unfold liN_; rw [N2]) (fun j hj => by unfold weN_; rw [e4, pk_un hj]) (by
          show ((lsE2 z1 b).2.2 4 b).toNatClampNeg = _
          rw [e4, pk_us, hwb, nI_1]
          exact nI_clamp (by unfold weN_ at hw1; omega)) hw1 (n := 8)
        rw [if_pos hb8] at this
        rw [← this]
        have : ∀ n, leZ z n = leZ z1 n := fun n => by
          induction n with
          | zero => rfl
          | succ n ih => rw [leZ, leZ, ih, hwe, hli]
        exact this 8
end P12
