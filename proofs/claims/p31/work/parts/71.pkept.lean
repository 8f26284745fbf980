-- PURE: WHAT kept() ASKS
section PK
variable {z : LgS}
theorem kd_or (h : Inv z) {a : Nat} (ha : a < 32) : z.2.2 0 a = 0 ∨ z.2.2 0 a = 1 ∨ z.2.2 0 a = 2 := h.1.2.1 a ha
theorem kd_in (h : Inv z) {a : Nat} (ha : a < 32) : ¬ (z.2.2 0 a).toInt64 < 0 ∧ ¬ (2 : Int64) < (z.2.2 0 a).toInt64 := by
  rcases kd_or h ha with e | e | e <;> rw [e] <;> decide
theorem jl_i {x : Int32} {y : Int64} {w : Int32} (e : w.toInt64 = y) (h : x.toInt64 = y) : x = w := jl_eq.mp (h.trans e.symm)
theorem jl_i0 {x : Int32} (h : x.toInt64 = 0) : x = 0 := jl_i (w := 0) (by decide) h
theorem jl_i1 {x : Int32} (h : x.toInt64 = 1) : x = 1 := jl_i (w := 1) (by decide) h
theorem jl_i2 {x : Int32} (h : x.toInt64 = 2) : x = 2 := jl_i (w := 2) (by decide) h
/-- a written page: its mark -/
theorem mk_n (h : Inv z) {a : Nat} (ha : a < 32) (h1 : z.2.2 0 a = 1) : ∃ m, 1 ≤ m ∧ m ≤ 3201 ∧ z.2.2 3 a = nI m := by
  obtain ⟨m1, m2⟩ := h.2.2.1.1 a ha h1
  obtain ⟨n1, n2, n3⟩ := nm_le h
  rw [n2] at m2
  have h0 : ¬ z.2.2 3 a < 0 := i_irr m1
  obtain ⟨e, l⟩ := num0 (k := nmN_ z) (by omega) h0 m2
  refine ⟨(z.2.2 3 a).toNatClampNeg, Nat.lt_of_not_le fun y => ?_, by omega, e⟩
  have : (z.2.2 3 a).toNatClampNeg = 0 := by omega
  rw [this] at e
  rw [e] at m1
  exact absurd m1 (by decide)
theorem mk_pos (h : Inv z) {a : Nat} (ha : a < 32) (h1 : z.2.2 0 a = 1) : ¬ (tpZ z (nI a) 3).toInt64 ≤ 0 := fun y => by
  rw [(tp_1 ha h1).2.2.1] at y
  obtain ⟨m, m1, m2, e⟩ := mk_n h ha h1
  rw [e] at y
  have := (jl_le (a := m) (b := 0) (by omega) (by decide)).mp y
  omega
theorem ky_n (h : Inv z) {a : Nat} (ha : a < 32) (h1 : z.2.2 0 a = 1) : ∃ k, k < 16 ∧ z.2.2 1 a = nI k := by
  have hin := h.2.1 a ha h1
  obtain ⟨e, hk⟩ := num_in (x := z.2.2 1 a) (j := 16) (by decide) hin
  exact ⟨_, hk, e⟩
theorem ky_in (h : Inv z) {a : Nat} (ha : a < 32) (h1 : z.2.2 0 a = 1) : ¬ (tpZ z (nI a) 1).toInt64 < 0 ∧ ¬ (15 : Int64) < (tpZ z (nI a) 1).toInt64 := by
  rw [(tp_1 ha h1).1]
  obtain ⟨k, hk, e⟩ := ky_n h ha h1
  rw [e]
  refine ⟨fun y => ?_, fun y => ?_⟩
  · have := (jl_lt (a := k) (b := 0) (by omega) (by decide)).mp y; omega
  · have := (jl_lt (a := 15) (b := k) (by decide) (by omega)).mp y; omega
theorem va_in (h : iVa z) {a : Nat} (ha : a < 32) (h1 : z.2.2 0 a = 1) (h9 : ¬ (tpZ z (nI a) 2).toInt64 = -9) : ¬ (tpZ z (nI a) 2).toInt64 < 0 ∧ ¬ (999 : Int64) < (tpZ z (nI a) 2).toInt64 := by
  rw [(tp_1 ha h1).2.1] at h9 ⊢
  rcases h a ha h1 with e | ⟨v, hv, e⟩
  · rw [e] at h9; exact absurd (by decide) h9
  · rw [e]
    refine ⟨fun y => ?_, fun y => ?_⟩
    · have := (jl_lt (a := v) (b := 0) (by omega) (by decide)).mp y; omega
    · have := (jl_lt (a := 999) (b := v) (by decide) (by omega)).mp y; omega
theorem tp_9 {a w : Nat} (ha : a < 32) (hw : 1 ≤ w) (hw4 : w ≤ 4) (h1 : ¬ z.2.2 0 a = 1) : (tpZ z (nI a) (nI w)).toInt64 = -9 := by
  rw [tp_n ha hw hw4 h1]; decide
theorem mk_ne (h : Inv z) {a o : Nat} (ha : a < 32) (ho : o < a) (h1 : z.2.2 0 a = 1) : ¬ (tpZ z (nI o) 3).toInt64 = (tpZ z (nI a) 3).toInt64 := fun y => by
  have y2 := jl_eq.mp y
  rw [(tp_1 ha h1).2.2.1] at y2
  obtain ⟨m, m1, m2, e⟩ := mk_n h ha h1
  by_cases ho1 : z.2.2 0 o = 1
  · rw [(tp_1 (by omega) ho1).2.2.1] at y2
    have := h.2.2.1.2 o a (by omega) ha ho1 h1 y2
    omega
  · rw [show tpZ z (nI o) 3 = -9 from tp_n (w := 3) (by omega) (by decide) (by decide) ho1, e] at y2
    exact absurd y2.symm (ne9 (by omega))
theorem lv_new (h : Inv z) {a : Nat} (ha : a < 32) (h1 : z.2.2 0 a = 1) (hl : ¬ (tpZ z (nI a) 4).toInt64 = 0) : neJ z (tpZ z (nI a) 1) = (nI a).toInt64 := by
  rw [(tp_1 ha h1).2.2.2] at hl
  rw [(tp_1 ha h1).1]
  have hl1 : z.2.2 5 a = 1 := by
    rw [h.2.2.2.2.1 a ha] at hl ⊢
    exact bI_1 (jl_b1 hl)
  obtain ⟨-, k, hk, e, e6⟩ := inv_live h ha hl1
  rw [e, ne_J hk, e6]
theorem lv_s (h : Inv z) {b q : Nat} (hb : b < 8) (hq : q < 4) : lvs (zr z) z.1.2 b (q + 1) = lvs (zr z) z.1.2 b q + if z.2.2 0 (4 * b + q) = 1 ∧ (tpZ z (nI (4 * b + q)) 4).toInt64 = 1 then 1 else 0 := by
  have ha : 4 * b + q < 32 := by omega
  rw [lvs]
  have e : livP (zr z) z.1.2 (4 * b + q) ↔ (z.2.2 0 (4 * b + q) = 1 ∧ (tpZ z (nI (4 * b + q)) 4).toInt64 = 1) := by
    have hl := rz_lv (rz_self h) ha
    constructor
    · intro y
      have h1 : z.2.2 0 (4 * b + q) = 1 := by have := y.1; rw [zr_pg (by decide)] at this; exact this
      exact ⟨h1, by rw [(tp_1 ha h1).2.2.2, hl, bI_1 y]; decide⟩
    · intro y
      have := jl_i1 y.2
      rw [(tp_1 ha y.1).2.2.2, hl] at this
      exact bI_one.mp this
  rw [ite_iff e]
theorem cs_s {b q : Nat} {x : Int32} : cst (zr z) b x (q + 1) = cst (zr z) b x q + if z.2.2 0 (4 * b + q) = x then 1 else 0 := by
  rw [cst, zr_pg (by decide)]
theorem bl_1 (h : Inv z) {b : Nat} (hb : b < z.1.2) : blJ z (nI b) 1 = (nI (lvs (zr z) z.1.2 b 4)).toInt64 := by
  have hB := inv_B h
  refine (bl_J (w := 1) hB hb (by decide)).trans ?_
  exact congrArg _ (slV_b (rz_self h) (by omega))
theorem bl_2c (h : Inv z) {b : Nat} (hb : b < z.1.2) : blJ z (nI b) 2 = (nI (cst (zr z) b 0 4)).toInt64 := by
  have hB := inv_B h
  rw [bl_2 hB hb, (inv_fr h (show b < 8 by omega)).2.1, rz_cst0 (rz_self h) (by omega)]
theorem bl_3 (h : Inv z) {b : Nat} (hb : b < z.1.2) : blJ z (nI b) 3 = (nI (cst (zr z) b 2 4)).toInt64 := by
  have hB := inv_B h
  refine (bl_J (w := 3) hB hb (by decide)).trans ?_
  refine congrArg _ ?_
  show ctV (z.2.2 0) 2 (nI b) = _
  rw [ctV, if_pos (show inN (nI b) 8 from inN_n (a := 8) (by omega) (by decide)), nI_clamp (by omega), rz_cst (rz_self h) (by omega) (Nat.le_refl _)]
theorem bl_4 (h : Inv z) {b : Nat} (hb : b < z.1.2) : blJ z (nI b) 4 = (bI (¬ z.2.2 4 b < z.2.1 2)).toInt64 := by
  have hB := inv_B h
  refine (bl_J (w := 4) hB hb (by decide)).trans ?_
  refine congrArg _ ?_
  show bI (¬ at_ (z.2.2 4) 8 0 (nI b) < z.2.1 2) = _
  rw [at_8 (by omega)]
/-- whether a block could be a victim -/
abbrev vbP (z : LgS) (b : Nat) : Prop := cvP (z.2.2 0) (z.2.2 4) (z.2.2 5) (z.2.2 7) z.1.2 z.1.1 (z.2.1 2) (z.2.1 3) (nI b)
theorem bl_50 (h : Inv z) {b : Nat} (hb : b < z.1.2) : (blJ z (nI b) 5 = 1 ∧ vbP z b) ∨ (blJ z (nI b) 5 = 0 ∧ ¬ vbP z b) := by
  have hB := inv_B h
  have e : blJ z (nI b) 5 = (bI (cvP (z.2.2 0) (z.2.2 4) (z.2.2 5) (z.2.2 7) z.1.2 z.1.1 (z.2.1 2) (z.2.1 3) (nI b))).toInt64 := (bl_J (w := 5) hB hb (by decide)).trans rfl
  by_cases hv : vbP z b
  · exact Or.inl ⟨by rw [e, bI_1 hv]; decide, hv⟩
  · exact Or.inr ⟨by rw [e, bI_0 hv]; decide, hv⟩
theorem vb_of (h : Inv z) {b : Nat} (hb : b < z.1.2) (h5 : ¬ blJ z (nI b) 5 = 0) : z.1.1 = true ∧ z.2.2 4 b < z.2.1 2 ∧ ¬ (z.2.1 3).toInt64 = (nI b).toInt64 ∧ lvs (zr z) z.1.2 b 4 + cst (zr z) b 0 4 < 4 := by
  have hB := inv_B h
  rcases bl_50 h hb with ⟨-, hv⟩ | ⟨e, -⟩
  · have h1 := (rz_cv (rz_self h) (show b < 8 by omega)).mp hv
    obtain ⟨ho, ⟨s1, s2, s3⟩, v2, v3⟩ := h1
    have hs := rz_sum (rz_self h) (show b < 8 by omega) (n := 4) (Nat.le_refl _)
    refine ⟨ho, ?_, fun y => s1 ?_, by omega⟩
    · have := hv.2.2.1
      rw [at_8 (by omega)] at this
      exact this
    · rw [zr_3]
      exact (jl_eq.mp y).symm
  · exact absurd e h5
theorem cl_s {b : Nat} : cln (zr z) (b + 1) = cln (zr z) b + if ¬ (z.2.1 3).toInt64 = (nI b).toInt64 ∧ cst (zr z) b 0 4 = 4 then 1 else 0 := by
  rw [cln]
  have e : clnP (zr z) b ↔ (¬ (z.2.1 3).toInt64 = (nI b).toInt64 ∧ cst (zr z) b 0 4 = 4) := by
    unfold clnP
    rw [zr_3, jl_eq]
    exact and_congr ⟨fun y y2 => y y2.symm, fun y y2 => y y2.symm⟩ Iff.rfl
  rw [ite_iff e]
theorem ab_4 (h : Inv z) : abJ z 4 = (nI (cln (zr z) z.1.2)).toInt64 := by
  refine (ab_J (k := 4) (by decide)).trans ?_
  show (nI (cbF (z.2.2 7) (z.2.1 3) z.1.2)).toInt64 = _
  rw [rz_cln (rz_self h) (inv_B h)]
theorem ab_1 : abJ z 1 = (z.2.1 2).toInt64 := (ab_J (k := 1) (by decide)).trans rfl
theorem ab_3 : abJ z 3 = (z.2.1 3).toInt64 := (ab_J (k := 3) (by decide)).trans rfl
theorem ab_6 : abJ z 6 = (z.2.1 5).toInt64 := (ab_J (k := 6) (by decide)).trans rfl
theorem ab_7 : abJ z 7 = (z.2.1 6).toInt64 := (ab_J (k := 7) (by decide)).trans rfl
theorem ab_8 : abJ z 8 = (z.2.1 7).toInt64 := (ab_J (k := 8) (by decide)).trans rfl
theorem ab_10 : abJ z 10 = (z.2.1 9).toInt64 := (ab_J (k := 10) (by decide)).trans rfl
theorem ab_12 : abJ z 12 = (z.2.1 0).toInt64 := (ab_J (k := 12) (by decide)).trans rfl
theorem lc_0 : lcJ z 0 = (z.2.1 10).toInt64 := (lc_J (k := 0) (by decide)).trans rfl
theorem pg_ky (h : Inv z) {k : Nat} (hk : k < 16) (e : ¬ z.2.2 6 k = -9) : pgJ z (z.2.2 6 k) 1 = (nI k).toInt64 := by
  have hB := inv_B h
  rcases ne_or h hk with ⟨e2, -⟩ | ⟨a, e2, -, ha, h1, h2⟩
  · exact absurd e2 e
  · rw [e2]
    refine (pg_J (w := 1) hB ha (by decide)).trans ?_
    exact congrArg _ ((tp_1 (by omega) h1).1.trans h2)
/-- a page that has the key: the key has a newest page, with no smaller mark -/
theorem ky_of (h : Inv z) {o k : Nat} (ho : o < 4 * z.1.2) (hk : k < 16) (e : (tpZ z (nI o) 1).toInt64 = (nI k).toInt64) : z.2.2 0 o = 1 ∧ z.2.2 1 o = nI k := by
  have hB := inv_B h
  have e1 := jl_eq.mp e
  by_cases h1 : z.2.2 0 o = 1
  · rw [(tp_1 (by omega) h1).1] at e1
    exact ⟨h1, e1⟩
  · rw [show tpZ z (nI o) 1 = -9 from tp_n (w := 1) (by omega) (by decide) (by decide) h1] at e1
    exact absurd e1.symm (ne9 (by omega))
theorem ky_ne (h : Inv z) {o k : Nat} (ho : o < 4 * z.1.2) (hk : k < 16) (e : (tpZ z (nI o) 1).toInt64 = (nI k).toInt64) : ¬ z.2.2 6 k = -9 := fun y => by
  have hB := inv_B h
  obtain ⟨h1, h2⟩ := ky_of h ho hk e
  rcases ne_or h hk with ⟨-, hn⟩ | ⟨a, e2, -, ha, -, -⟩
  · exact nwst_nn hn o (by omega) (by rw [zr_pg (by decide)]; exact h1) (by rw [zr_pg (by decide)]; exact h2)
  · rw [e2] at y; exact ne9 (by omega) y
theorem mk_le (h : Inv z) {o k : Nat} (ho : o < 4 * z.1.2) (hk : k < 16) (e : (tpZ z (nI o) 1).toInt64 = (nI k).toInt64) : ¬ pgJ z (z.2.2 6 k) 3 < (tpZ z (nI o) 3).toInt64 := fun y => by
  have hB := inv_B h
  obtain ⟨h1, h2⟩ := ky_of h ho hk e
  rcases ne_or h hk with ⟨e2, -⟩ | ⟨a, e2, hn, ha, g1, g2⟩
  · exact ky_ne h ho hk e e2
  · rw [e2, show pgJ z (nI a) 3 = (tpZ z (nI a) 3).toInt64 from pg_J (w := 3) hB ha (by decide), Int32.toInt64_lt, (tp_1 (by omega) g1).2.2.1, (tp_1 (by omega) h1).2.2.1] at y
    have := nwst_mx hn o (by omega) (by rw [zr_pg (by decide)]; exact h1) (by rw [zr_pg (by decide)]; exact h2)
    rw [zr_pg (by decide), zr_pg (by decide)] at this
    exact this y
theorem ck_s {n : Nat} : ckZ z (n + 1) = ckZ z n + if (vaZ z (nI n)).toInt64 = -9 then 0 else 1 := by
  show ckV _ _ _ (n + 1) = _
  rw [ckV]
  have e : vaV z.1.2 (z.2.2 2) (z.2.2 6) (nI n) = -9 ↔ (vaZ z (nI n)).toInt64 = -9 := ⟨fun y => by rw [show vaZ z (nI n) = -9 from y]; decide, fun y => jl_n9 y⟩
  rw [ite_iff e]
theorem ck_mono {n m : Nat} (h : n ≤ m) : ckZ z n ≤ ckZ z m := by
  induction m with
  | zero => rw [show n = 0 by omega]; exact Nat.le_refl _
  | succ m ih =>
    by_cases e : n = m + 1
    · rw [e]; exact Nat.le_refl _
    · have := ih (by omega)
      rw [ck_s (n := m)]
      omega
theorem ka_none {i n : Nat} (hi : ckZ z n ≤ i) (hi9 : i < 100) : ∀ m, m ≤ n → kaF z (nI i) m = none
  | 0, _ => rfl
  | m + 1, hm => by
    rw [kaF, ka_none hi hi9 m (by omega)]
    refine if_neg (fun y => ?_)
    have h1 : ckZ z (m + 1) ≤ ckZ z n := ck_mono hm
    rw [ck_s, if_neg (fun y2 => y.1 (jl_n9 y2))] at h1
    have := cn_eq (a := ckZ z m) (b := i) (by omega) (by omega) y.2
    omega
theorem ck_16 {n : Nat} (h : n ≤ 16) : ckZ z n ≤ 16 := Nat.le_trans (ckV_le n) h
theorem ka_J {i : Nat} (hi : i < 100) : kaJ z (nI i) = (oI (kaF z (nI i) 16)).toInt64 := by
  rw [kaJ, if_pos]
  exact if_neg (nJ_neg (by omega))
theorem ka_ck {k : Nat} (hk : k < 16) (hv : ¬ (vaZ z (nI k)).toInt64 = -9) : kaJ z (nI (ckZ z k)) = (nI k).toInt64 := by
  have := ck_16 (z := z) (n := k) (by omega)
  rw [ka_J (by omega), kaF_at hk (ka_none (n := k) (Nat.le_refl _) (by omega) k (Nat.le_refl _)) (fun y => hv (by rw [y]; decide)) rfl]
  rfl
theorem ka_end : kaJ z (nI (ckZ z 16)) = -9 := by
  have := ck_16 (z := z) (n := 16) (Nat.le_refl _)
  rw [ka_J (by omega), ka_none (n := 16) (Nat.le_refl _) (by omega) 16 (Nat.le_refl _)]
  decide
theorem va_has (h : Inv z) {k : Nat} (hk : k < 16) (hv : ¬ (vaZ z (nI k)).toInt64 = -9) : ¬ z.2.2 6 k = -9 := fun y => hv (by rw [va_none h hk y]; decide)
theorem pg_lv (h : Inv z) {k : Nat} (hk : k < 16) (hv : ¬ (vaZ z (nI k)).toInt64 = -9) : pgJ z (z.2.2 6 k) 4 = 1 := by
  have hB := inv_B h
  obtain ⟨o, c1, c2, c3, c4, c5, c6⟩ := zk_has h hk (fun y => hv (by rw [y]; decide))
  have e : z.2.2 6 k = nI o := by rw [h.2.2.2.1 k hk, c1]; rfl
  rw [e]
  refine (pg_J (w := 4) hB c2 (by decide)).trans ?_
  rw [show tpZ z (nI o) (nI 4) = z.2.2 5 o from (tp_1 (by omega) c3).2.2.2, c6]
  decide
/-- the key that was not touched for longest -/
theorem ol_min : ∀ {n : Nat}, (∀ k, k < n → vaZ z (nI k) = -9) ∧ olF z n = none ∨ ∃ o, olF z n = some o ∧ o < n ∧ ¬ vaZ z (nI o) = -9 ∧ ∀ k, k < n → ¬ vaZ z (nI k) = -9 → ¬ mkZ z (nI k) < mkZ z (nI o)
  | 0 => Or.inl ⟨fun k hk => absurd hk (Nat.not_lt_zero _), rfl⟩
  | n + 1 => by
    rcases ol_min (n := n) with ⟨h1, h2⟩ | ⟨o, h1, h2, h3, h4⟩
    · rw [olF, h2]
      dsimp only
      by_cases hv : vaZ z (nI n) = -9
      · rw [if_neg (fun y => y hv)]
        refine Or.inl ⟨fun k hk => ?_, rfl⟩
        by_cases e : k = n
        · rw [e]; exact hv
        · exact h1 k (by omega)
      · rw [if_pos hv]
        refine Or.inr ⟨n, rfl, Nat.lt_succ_self _, hv, fun k hk hk2 => ?_⟩
        by_cases e : k = n
        · rw [e]; exact fun y => i_irr y y
        · exact absurd (h1 k (by omega)) hk2
    · rw [olF, h1]
      dsimp only
      by_cases hc : ¬ vaZ z (nI n) = -9 ∧ mkZ z (nI n) < mkZ z (nI o)
      · rw [if_pos hc]
        refine Or.inr ⟨n, rfl, Nat.lt_succ_self _, hc.1, fun k hk hk2 => ?_⟩
        by_cases e : k = n
        · rw [e]; exact fun y => i_irr y y
        · have := h4 k (by omega) hk2
          intro y
          apply this
          have h9 := hc.2
          rw [i_lt_i] at y h9 ⊢
          omega
      · rw [if_neg hc]
        refine Or.inr ⟨o, rfl, by omega, h3, fun k hk hk2 => ?_⟩
        by_cases e : k = n
        · subst e
          exact fun y => hc ⟨hk2, y⟩
        · exact h4 k (by omega) hk2
theorem mk_pg (h : Inv z) {k : Nat} (hk : k < 16) (hv : ¬ vaZ z (nI k) = -9) : pgJ z (z.2.2 6 k) 3 = (mkZ z (nI k)).toInt64 := by
  have hB := inv_B h
  obtain ⟨o, c1, c2, c3, c4, c5, c6⟩ := zk_has h hk hv
  have e : z.2.2 6 k = nI o := by rw [h.2.2.2.1 k hk, c1]; rfl
  rw [mkZ, at_16 hk, e]
  exact pg_J (w := 3) hB c2 (by decide)
theorem ol_some {k : Nat} (hk : k < 16) (hv : ¬ (vaZ z (nI k)).toInt64 = -9) : ∃ o, olF z 16 = some o ∧ o < 16 ∧ ¬ vaZ z (nI o) = -9 ∧ ¬ mkZ z (nI k) < mkZ z (nI o) := by
  have hv2 : ¬ vaZ z (nI k) = -9 := fun y => hv (by rw [y]; decide)
  rcases ol_min (z := z) (n := 16) with ⟨h1, -⟩ | ⟨o, h1, h2, h3, h4⟩
  · exact absurd (h1 k hk) hv2
  · exact ⟨o, h1, h2, h3, h4 k hk hv2⟩
theorem old_le (h : Inv z) {k o : Nat} (hk : k < 16) (hv : ¬ (vaZ z (nI k)).toInt64 = -9) (ho : o < 16) (hvo : ¬ vaZ z (nI o) = -9) (hm : ¬ mkZ z (nI k) < mkZ z (nI o)) : ¬ pgJ z (z.2.2 6 k) 3 < pgJ z (z.2.2 6 o) 3 := by
  rw [mk_pg h hk (fun y => hv (by rw [y]; decide)), mk_pg h ho hvo, Int32.toInt64_lt]
  exact hm
theorem ol_none (h : ckZ z 16 = 0) : oI (olF z 16) = -9 := by
  have hv : ∀ k, k < 16 → vaZ z (nI k) = -9 := fun k hk => Decidable.byContradiction fun y => by
    have := ck_mono (z := z) (n := k + 1) (m := 16) (by omega)
    rw [ck_s, if_neg (fun y2 => y (jl_n9 y2))] at this
    omega
  rcases ol_min (z := z) (n := 16) with ⟨-, h2⟩ | ⟨o, -, h2, h3, -⟩
  · rw [h2]; rfl
  · exact absurd (hv o h2) h3
theorem cw_le (h : InvX z) : ¬ (z.2.1 6).toInt64 < (z.2.1 7).toInt64 := fun y => by
  obtain ⟨w, c, e, u, h5, h6, h7, h8, h9, hc, ht, hu⟩ := h.2.2
  have := suT_le h.1 (n := 8) (Nat.le_refl _)
  rw [h6, h7] at y
  have := (jl_lt (a := w) (b := c) (by omega) (by omega)).mp y
  omega
theorem op_sum (h : InvX z) : (z.2.1 5).toInt64 = (z.2.1 6).toInt64 + (z.2.1 8).toInt64 + (z.2.1 9).toInt64 := by
  obtain ⟨w, c, e, u, h5, h6, h7, h8, h9, hc, ht, hu⟩ := h.2.2
  have := suT_le h.1 (n := 8) (Nat.le_refl _)
  rw [h5, h6, h8, h9, nI_l (by omega), nI_l (by omega), nI_l (by omega), nI_l (by omega), lN_add, lN_add]
theorem cu_iff (h : InvX z) : (z.2.1 9).toInt64 = 0 ↔ (z.2.1 10).toInt64 = -9 := by
  obtain ⟨w, c, e, u, h5, h6, h7, h8, h9, hc, ht, hu⟩ := h.2.2
  have := suT_le h.1 (n := 8) (Nat.le_refl _)
  constructor
  · intro y
    have h0 := jl_i0 y
    rw [h9] at h0
    have := cn_eq (a := u) (b := 0) (by omega) (by decide) h0
    rw [hu.mp this]; decide
  · intro y
    rw [h9, hu.mpr (jl_n9 y)]; decide
theorem wn_1 : wnV z = 1 ↔ ¬ z.1.1 = true := by
  unfold wnV
  constructor
  · intro y
    split at y
    · split at y
      · exact absurd y (by decide)
      · split at y <;> exact absurd y (by decide)
    · assumption
  · intro y
    rw [if_neg y]
theorem cs_gt (h : Inv z) (hc : 0 < csV z) : ¬ (csV z).toInt64 ≤ 0 := fun y => by
  obtain ⟨d, d1, d2, d3, -⟩ := cs_d h hc
  rw [d3] at y
  have := (jl_le (a := d) (b := 0) (by omega) (by decide)).mp y
  omega
theorem cv_no {n : Nat} (h : cvF (z.2.2 0) (z.2.2 3) (z.2.2 4) (z.2.2 5) (z.2.2 7) z.1.2 z.1.1 (z.2.1 2) (z.2.1 3) (z.2.1 0) n = none) : ∀ b, b < n → ¬ vbP z b := by
  induction n with
  | zero => intro b hb; exact absurd hb (Nat.not_lt_zero _)
  | succ n ih =>
    intro b hb hv
    rw [cvF] at h
    cases hp : cvF (z.2.2 0) (z.2.2 3) (z.2.2 4) (z.2.2 5) (z.2.2 7) z.1.2 z.1.1 (z.2.1 2) (z.2.1 3) (z.2.1 0) n with
    | none =>
      rw [hp] at h
      dsimp only at h
      split at h
      · cases h
      · rename_i hc
        by_cases e : b = n
        · subst e; exact hc hv
        · exact ih hp b (by omega) hv
    | some x =>
      rw [hp] at h
      dsimp only at h
      split at h <;> cases h
/-- the victim can be one; with the policy 0 none has fewer live pages -/
theorem cv_min {n o : Nat} (h : cvF (z.2.2 0) (z.2.2 3) (z.2.2 4) (z.2.2 5) (z.2.2 7) z.1.2 z.1.1 (z.2.1 2) (z.2.1 3) (z.2.1 0) n = some o) (hB : z.1.2 ≤ 8) (hn : n ≤ 8) (hI : Inv z) : vbP z o ∧ (z.2.1 0 = 0 → ∀ b, b < n → vbP z b → lvs (zr z) z.1.2 o 4 ≤ lvs (zr z) z.1.2 b 4) := by
  induction n generalizing o with
  | zero => cases h
  | succ n ih =>
    have hs := slV_b (rz_self hI) (show n < 8 by omega)
    rw [cvF] at h
    cases hp : cvF (z.2.2 0) (z.2.2 3) (z.2.2 4) (z.2.2 5) (z.2.2 7) z.1.2 z.1.1 (z.2.1 2) (z.2.1 3) (z.2.1 0) n with
    | none =>
      rw [hp] at h
      dsimp only at h
      split at h
      · rename_i hc
        cases h
        refine ⟨hc, fun hp0 b hb hv => ?_⟩
        by_cases e : b = n
        · rw [e]; exact Nat.le_refl _
        · exact absurd hv (cv_no hp b (by omega))
      · cases h
    | some x =>
      rw [hp] at h
      obtain ⟨h1, h2⟩ := ih hp (by omega)
      have hx := cvF_lt hp
      have hsx := slV_b (rz_self hI) (show x < 8 by omega)
      have hl1 := lvs_le (f := zr z) (B := z.1.2) (b := n) 4
      have hl2 := lvs_le (f := zr z) (B := z.1.2) (b := x) 4
      dsimp only at h
      split at h
      · rename_i hc
        cases h
        refine ⟨hc.1, fun hp0 b hb hv => ?_⟩
        have hg := hc.2
        unfold gbP at hg
        rw [hp0, if_neg (show ¬ (0 : Int32) = 2 by decide), if_neg (show ¬ (0 : Int32) = 1 by decide), hs, hsx] at hg
        have hle : lvs (zr z) z.1.2 n 4 ≤ lvs (zr z) z.1.2 x 4 := by
          refine Nat.le_of_not_lt fun y => ?_
          have e9 : nI (lvs (zr z) z.1.2 n 4) - nI (lvs (zr z) z.1.2 x 4) = nI (lvs (zr z) z.1.2 n 4 - lvs (zr z) z.1.2 x 4) := pk_sub (by omega)
          rw [e9] at hg
          rcases hg with g | ⟨g, -⟩
          · exact nJ_neg (by omega) g
          · have := cn_eq (a := lvs (zr z) z.1.2 n 4 - lvs (zr z) z.1.2 x 4) (b := 0) (by omega) (by decide) g
            omega
        by_cases e : b = n
        · rw [e]; exact Nat.le_refl _
        · exact Nat.le_trans hle (h2 hp0 b (by omega) hv)
      · rename_i hc
        cases h
        refine ⟨h1, fun hp0 b hb hv => ?_⟩
        by_cases e : b = n
        · subst e
          refine Nat.le_of_not_lt fun y => hc ⟨hv, ?_⟩
          unfold gbP
          rw [hp0, if_neg (show ¬ (0 : Int32) = 2 by decide), if_neg (show ¬ (0 : Int32) = 1 by decide), hs, hsx]
          exact Or.inl (pk_sneg (by omega) y)
        · exact h2 hp0 b (by omega) hv
theorem vc_5 (h : Inv z) {v : Nat} (hv : cvZ z = some v) : blJ z (nI v) 5 = 1 := by
  rcases bl_50 h (cvF_lt hv) with ⟨e, -⟩ | ⟨-, e⟩
  · exact e
  · exact absurd (cv_min hv (inv_B h) (inv_B h) h).1 e
theorem vc_few (h : Inv z) {v b : Nat} (hv : cvZ z = some v) (hp : z.2.1 0 = 0) (hb : b < z.1.2) (h5 : ¬ blJ z (nI b) 5 = 0) : ¬ blJ z (nI b) 1 < blJ z (nI v) 1 := fun y => by
  have hB := inv_B h
  have hv9 := cvF_lt hv
  have hvb : vbP z b := (bl_50 h hb).elim (fun y => y.2) (fun y => absurd y.1 h5)
  rw [bl_1 h hb, bl_1 h hv9] at y
  have hl1 := lvs_le (f := zr z) (B := z.1.2) (b := b) 4
  have hl2 := lvs_le (f := zr z) (B := z.1.2) (b := v) 4
  have := (jl_lt (a := lvs (zr z) z.1.2 b 4) (b := lvs (zr z) z.1.2 v 4) (by omega) (by omega)).mp y
  have := (cv_min hv hB hB h).2 hp b hb hvb
  omega
end PK
