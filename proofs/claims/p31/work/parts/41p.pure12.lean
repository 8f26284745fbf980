-- THE PURE PART: store on both sides
section P13
variable {z : LgS} {f : Nat → Int32}
def KW (z z2 : LgS) (n : Nat) : Prop := z2.1.2 = z.1.2 ∧ z2.2.1 2 = z.2.1 2 ∧ (z.2.1 1 = 0 → z2.2.1 1 = 0 ∧ z2.1.1 = z.1.1) ∧ ∃ j, j ≤ n ∧ z2.2.1 5 = z.2.1 5 + nI j
theorem kv_w {z2 : LgS} {n : Nat} (h : KV z z2 n) : KW z z2 n := ⟨h.1, h.2.1, h.2.2.2.1, h.2.2.1⟩
/-- what store answers: the class w, the reference v -/
def SR (z z2 : LgS) (w v : Int32) (n : Nat) : Prop := (w = -9 ∧ v = -3) ∨ (w = -2 ∧ v = -2 ∧ ¬ z.2.1 1 = 0) ∨ ∃ p, p < 32 ∧ w = nI p ∧ v = nI p ∧ ∃ j, 1 ≤ j ∧ j ≤ n ∧ z2.2.1 5 = z.2.1 5 + nI j
/-- a record is written, or torn -/
theorem stW_ok {z1 : LgS} {g : Nat → Int32} {b p k : Nat} {x : Int32} (h : Rz z1 g) (hn : nxA z1 b p) (hk : k < 16) (hx : ¬ x = -9 ∨ ∃ i, i < 32 ∧ z1.2.2 0 i = 1 ∧ z1.2.2 1 i = nI k) : ∃ w z2, stW (nI p) k x z1 = some (w, z2) ∧ Rz z2 (wrR g p (nI k) x false) ∧ KW z1 z2 1 ∧ SR z1 z2 w (if cutP g then -2 else nI p) 1 := by
  obtain ⟨pa, paB, pab, p0⟩ := nxA_a h.1 hn
  rw [stW, if_pos ⟨nI_pos (by omega), nI_lt (show p < 32 by omega) (by decide)⟩, nI_clamp (by omega)]
  by_cases hc : icP (z1.2.1 1)
  · rw [if_pos hc, if_pos ((rz_cutP h).mpr hc)]
    exact ⟨_, _, rfl, rz_tear h hn hc, ⟨rfl, rfl, fun y => absurd y hc.1, 1, Nat.le_refl _, rfl⟩, Or.inr (Or.inl ⟨rfl, rfl, hc.1⟩)⟩
  · rw [if_neg hc, if_neg (fun y => hc ((rz_cutP h).mp y))]
    obtain ⟨N0, N1, N2, N3, N4, N5⟩ := w2_N (z := z1) (a := p) (k := k) (x := x) (sw := false)
    exact ⟨_, _, rfl, rz_write h hn hk hx hc, ⟨rfl, N2, fun y => ⟨by rw [N1, y]; rfl, rfl⟩, 1, Nat.le_refl _, N5⟩, Or.inr (Or.inr ⟨p, pa, rfl, rfl, 1, Nat.le_refl _, Nat.le_refl _, N5⟩)⟩
theorem kw_tr {z2 z3 : LgS} {n m l : Nat} (h1 : KV z z2 n) (h2 : KW z2 z3 m) (hl : n + m ≤ l) : KW z z3 l := by
  obtain ⟨a1, a2, ⟨j, a3, a4⟩, a5, a6⟩ := h1
  obtain ⟨b1, b2, b5, ⟨i, b3, b4⟩⟩ := h2
  refine ⟨b1.trans a1, b2.trans a2, fun y => ?_, ⟨j + i, by omega, ?_⟩⟩
  · obtain ⟨c1, c2⟩ := a5 y
    obtain ⟨c3, c4⟩ := b5 c1
    exact ⟨c3, c4.trans c2⟩
  · rw [b4, a4, Int32.add_assoc, nI_add]
theorem sr_tr {z2 z3 : LgS} {w v : Int32} {n m l : Nat} (h1 : KV z z2 n) (h2 : SR z2 z3 w v m) (hl : n + m ≤ l) : SR z z3 w v l := by
  obtain ⟨a1, a2, ⟨j, a3, a4⟩, a5, a6⟩ := h1
  rcases h2 with h | ⟨h3, h4, h5⟩ | ⟨p, h3, h4, h5, i, h6, h7, h8⟩
  · exact Or.inl h
  · exact Or.inr (Or.inl ⟨h3, h4, fun y => h5 (a5 y).1⟩)
  · refine Or.inr (Or.inr ⟨p, h3, h4, h5, j + i, by omega, by omega, ?_⟩)
    rw [h8, a4, Int32.add_assoc, nI_add]
theorem st_ok {k : Nat} {x : Int32} (hk : k < 16) : ∀ {m : Nat} {z : LgS} {f : Nat → Int32}, Rz z f → z.1.1 = true → okX z k x → leZ z 8 < m → ∀ {n : Nat}, 2 * m ≤ n → ∃ w z2 f2 v, stL k x m z = some (w, z2) ∧ rec z.1.2 (nI k) x n f = some (v, f2) ∧ Rz z2 f2 ∧ KW z z2 (6 * m) ∧ SR z z2 w v (6 * m)
  | 0, z, f, h, hon, hx, hl, n, hn => absurd hl (Nat.not_lt_zero _)
  | m + 1, z, f, h, hon, hx, hl, n, hn => by
    have hB := inv_B h.1
    have hx1 : ∀ {z1 : LgS}, z1.2.2 = z.2.2 → ¬ x = -9 ∨ ∃ i, i < 32 ∧ z1.2.2 0 i = 1 ∧ z1.2.2 1 i = nI k := fun e => by
      rcases hx with y | y
      · exact Or.inl y
      · obtain ⟨o, c1, c2, c3, c4, c5, c6⟩ := zk_has h.1 hk y
        exact Or.inr ⟨o, by omega, by rw [e]; exact c3, by rw [e]; exact c4⟩
    obtain ⟨n, rfl⟩ : ∃ n2, n = n2 + 2 := ⟨n - 2, by omega⟩
    by_cases hr : ¬ frZ z = 0 ∨ 2 ≤ cln f z.1.2
    · obtain ⟨z1, b0, p, c1, c2, c3, c4, c5, c6, c7⟩ := rz_take h hon (n := 2) (by decide) hr
      have hkv : KV z z1 0 := by
        subst c6
        exact ⟨rfl, rfl, ⟨0, Nat.le_refl _, (Int32.add_zero _).symm⟩, fun y => ⟨y, rfl⟩, fun _ _ y => y⟩
      obtain ⟨w, z2, d1, d2, d3, d4⟩ := stW_ok c2 c4 hk (hx1 (by rw [c6]))
      have e1 : stL k x (m + 1) z = some (w, z2) := by
        rw [stL, c1]
        exact d1
      have e2 : rec z.1.2 (nI k) x (n + 2) f = some (if cutP (swO f z.1.2) then -2 else nI p, wrR (swO f z.1.2) p (nI k) x false) := by
        by_cases hf : frZ z = 0
        · have h2 : 2 ≤ cln f z.1.2 := hr.elim (fun y => absurd hf y) id
          have hno := rz_nonext h hf
          have hso : swO f z.1.2 = upd f 3 (oI (lcl f z.1.2)) := by
            unfold swO
            rw [hno]
          rw [rec, hno]
          dsimp only
          rw [if_pos (show 1 < cln f z.1.2 by omega), ← hso, rec, c3]
        · obtain ⟨-, b, hb, h3, h1⟩ := rz_open0 h hf
          obtain ⟨g1, g2, g3, g4⟩ := rz_next h hb h3 h1
          have hso : swO f z.1.2 = f := by
            unfold swO
            rw [g1]
          rw [hso] at c3 ⊢
          rw [rec, c3]
      exact ⟨w, z2, _, _, e1, e2, d2, kw_tr hkv d3 (by omega), sr_tr hkv d4 (by omega)⟩
    · have hf : frZ z = 0 := Classical.byContradiction (fun y => hr (Or.inl y))
      have hc : ¬ 2 ≤ cln f z.1.2 := fun y => hr (Or.inr y)
      have hno := rz_nonext h hf
      have t1 : tkN 2 z = none := by
        rw [tkN, if_pos hf, if_pos (by rw [show cbZ z = cln f z.1.2 from rz_cln h hB]; omega)]
      cases hv : cvZ z with
      | none =>
        have e1 : stL k x (m + 1) z = some (-9, z) := by
          rw [stL, t1]
          dsimp only
          rw [hv]
        have e2 : rec z.1.2 (nI k) x (n + 2) f = some (-3, f) := by
          rw [rec, hno]
          dsimp only
          rw [if_neg (show ¬ 1 < cln f z.1.2 by omega), swp, ← rz_vc h, hv]
          rfl
        exact ⟨_, _, _, _, e1, e2, h, kv_w kv_rf, Or.inl ⟨rfl, rfl⟩⟩
      | some b =>
        obtain ⟨w, z1, f1, c1, c2, c3, c4, c5⟩ := sb_ok h hv
        rcases c5 with ⟨d1, d2⟩ | ⟨d1, d2, d3, d4⟩
        · subst d1
          have e1 : stL k x (m + 1) z = some (-2, z1) := by
            rw [stL, t1]
            dsimp only
            rw [hv]
            dsimp only
            rw [c1]
            rfl
          have e2 : rec z.1.2 (nI k) x (n + 2) f = some (-2, f1) := by
            rw [rec, hno]
            dsimp only
            rw [if_neg (show ¬ 1 < cln f z.1.2 by omega), c2]
            rfl
          exact ⟨_, _, _, _, e1, e2, c3, kv_w (kv_tr c4 (kv_rf (n := 0)) (by omega)), Or.inr (Or.inl ⟨rfl, rfl, d2⟩)⟩
        · subst d1
          have hox : okX z1 k x := hx.elim Or.inl (fun y => Or.inr (c4.2.2.2.2 k hk y))
          obtain ⟨w, z2, f2, v, i1, i2, i3, i4, i5⟩ := st_ok hk c3 d3 hox (m := m) (by omega) (n := n + 1) (by omega)
          have e1 : stL k x (m + 1) z = some (w, z2) := by
            rw [stL, t1]
            dsimp only
            rw [hv]
            dsimp only
            rw [c1]
            dsimp only
            rw [if_neg (oI_ne2 (by omega)), i1]
          have e2 : rec z.1.2 (nI k) x (n + 2) f = some (v, f2) := by
            rw [rec, hno]
            dsimp only
            rw [if_neg (show ¬ 1 < cln f z.1.2 by omega), c2]
            dsimp only
            rw [if_neg (nI_pos (by omega)), ← c4.1, i2]
          exact ⟨_, _, _, _, e1, e2, i3, kw_tr c4 i4 (by omega), sr_tr c4 i5 (by omega)⟩
where
  oI_ne2 {a : Nat} (h : a < 2 ^ 31) : ¬ nI a = -2 := fun y => by
    have := nI_pos h
    rw [y] at this
    exact this (by decide)
theorem le_bd (h : Inv z) : ∀ {n : Nat}, leZ z n ≤ 99 * n
  | 0 => Nat.le_refl _
  | n + 1 => by
    have := le_bd h (n := n)
    have h2 : liN_ z ≤ 99 := h.2.2.2.2.2.2.1.1.2
    rw [leZ]
    omega
theorem st_T (h : Rz z f) (hon : z.1.1 = true) {k : Nat} (hk : k < 16) {x : Int32} (hx : okX z k x) : stL k x 1000 z = some ((stT k x z).1, (stT k x z).2) ∧ rec z.1.2 (nI k) x 5000 f = some ((recT z.1.2 (nI k) x f).1, (recT z.1.2 (nI k) x f).2) ∧ Rz (stT k x z).2 (recT z.1.2 (nI k) x f).2 ∧ KW z (stT k x z).2 6000 ∧ SR z (stT k x z).2 (stT k x z).1 (recT z.1.2 (nI k) x f).1 6000 := by
  have hl := le_bd h.1 (n := 8)
  obtain ⟨w, z2, f2, v, i1, i2, i3, i4, i5⟩ := st_ok hk h hon hx (m := 1000) (by omega) (n := 5000) (by decide)
  have e1 : stT k x z = (w, z2) := by rw [stT, i1]; rfl
  have e2 : recT z.1.2 (nI k) x f = (v, f2) := by rw [recT, i2]; rfl
  rw [e1, e2]
  exact ⟨i1, i2, i3, i4, i5⟩
theorem inv_st' {k : Nat} {x : Int32} (h : Inv z) (ho : z.1.1 = true) (hk : k < 16) (hx : okX z k x) : stL k x 1000 z = some ((stT k x z).1, (stT k x z).2) ∧ Inv (stT k x z).2 := by
  obtain ⟨h1, -, h2, -⟩ := st_T ⟨h, sim_rf _⟩ ho hk hx
  exact ⟨h1, h2.1⟩
theorem st_on' {k : Nat} {x : Int32} (h : Inv z) (ho : z.1.1 = true) (hc : z.2.1 1 = 0) (hk : k < 16) (hx : okX z k x) : (stT k x z).2.1.1 = true ∧ (stT k x z).2.2.1 1 = 0 := by
  obtain ⟨-, -, -, h3, -⟩ := st_T ⟨h, sim_rf _⟩ ho hk hx
  obtain ⟨c1, c2⟩ := h3.2.2.1 hc
  exact ⟨c2.trans ho, c1⟩
theorem sb_T (h : Rz z f) {b : Nat} (hb : cvZ z = some b) : sbl b z = some ((sbT b z).1, (sbT b z).2) ∧ (sbT b z).1 = (swpT f z.1.2).1 ∧ Rz (sbT b z).2 (swpT f z.1.2).2 ∧ (sbT b z).2.1.2 = z.1.2 ∧ ¬ (sbT b z).1 = -9 := by
  obtain ⟨w, z2, f2, c1, c2, c3, c4, c5⟩ := sb_ok h hb
  have e1 : sbT b z = (w, z2) := by rw [sbT, c1]; rfl
  have e2 : swpT f z.1.2 = (w, f2) := by rw [swpT, c2]; rfl
  rw [e1, e2]
  refine ⟨c1, rfl, c3, c4.1, ?_⟩
  rcases c5 with ⟨d1, -⟩ | ⟨d1, d2, -⟩
  · show ¬ w = -9
    rw [d1]; decide
  · show ¬ w = -9
    rw [d1]; exact oI_ne (a := b) (by omega)
theorem inv_sb' {b : Nat} (h : Inv z) (hb : cvZ z = some b) : sbl b z = some ((sbT b z).1, (sbT b z).2) ∧ Inv (sbT b z).2 := by
  obtain ⟨h1, -, h2, -⟩ := sb_T (f := zr z) ⟨h, sim_rf _⟩ hb
  exact ⟨h1, h2.1⟩
-- what the reference needs: its loops end
theorem rec_any {B : Nat} {k1 v1 k2 v2 : Int32} : ∀ {n : Nat} {f : Nat → Int32}, (rec B k1 v1 n f).isSome = true → (rec B k2 v2 n f).isSome = true
  | 0, f, h => h
  | n + 1, f, h => by
    rw [rec] at h ⊢
    split
    · rfl
    · rename_i hn
      rw [hn] at h
      dsimp only at h
      split
      · rename_i hc
        rw [if_pos hc] at h
        exact rec_any h
      · rename_i hc
        rw [if_neg hc] at h
        split
        · rename_i hs
          rw [hs] at h
          exact h
        · rename_i v g hs
          rw [hs] at h
          dsimp only at h
          split
          · rfl
          · rename_i hv
            rw [if_neg hv] at h
            exact rec_any h
theorem rec_off (h : Rz z f) (hoff : ¬ z.1.1 = true) {k v : Int32} {n : Nat} : (rec z.1.2 k v (n + 2) f).isSome = true := by
  have hB := inv_B h.1
  rw [rec]
  split
  · rfl
  · split
    · rename_i hc
      obtain ⟨b, hb⟩ := cln_lcl (f := f) (n := z.1.2) (by omega)
      have hlt := lcl_lt hb
      have hcl := lcl_some (n := b) hb
      have ho : opn (upd f 3 (oI (lcl f z.1.2))) = some b := by
        rw [opn_of (o := lcl f z.1.2) pk_us (fun c hc => by have := lcl_lt hc; omega), hb]
      have hl : lft (upd f 3 (oI (lcl f z.1.2))) b = 4 := by
        have hs : ∀ a w, pg (upd f 3 (oI (lcl f z.1.2))) a w = pg f a w := fun a w => pk_un (by omega)
        rw [lft_same hs, rz_lft h (by omega), ← rz_cst0 h (by omega)]
        exact hcl.2
      have hx : ∃ p, nxp (upd f 3 (oI (lcl f z.1.2))) (opn (upd f 3 (oI (lcl f z.1.2)))) = some p := by
        rw [ho]
        unfold nxp
        dsimp only
        rw [hl, if_neg (by decide)]
        exact ⟨_, rfl⟩
      obtain ⟨p, hp⟩ := hx
      rw [rec, hp]
      rfl
    · have hs : swp f z.1.2 = some (-9, f) := by
        rw [swp, vcm, if_neg (fun y => hoff ((rz_on h).mp y))]
      rw [hs]
      rfl
theorem rz_rec1 (h : Rz z f) {k v : Int32} : (rec z.1.2 k v 5000 f).isSome = true := by
  by_cases hon : z.1.1 = true
  · obtain ⟨-, e, -⟩ := st_T h hon (k := 0) (by decide) (x := 0) (Or.inl (by decide))
    exact rec_any (k1 := nI 0) (v1 := 0) (by rw [e]; rfl)
  · exact rec_off h hon
theorem rz_ok (h : Rz z f) : Ok f z.1.2 := by
  refine ⟨rz_wf h, fun k v => rz_rec1 h, ?_, ?_⟩
  · exact rz_rec1 (rz_zC h (j := 0) (by decide))
  · cases hv : cvZ z with
    | none =>
      rw [swp, ← rz_vc h, hv]
      rfl
    | some b =>
      obtain ⟨w, z2, f2, c1, c2, -⟩ := sb_ok h hv
      rw [c2]
      rfl
-- room
theorem zC_0 : zC z 0 = zC z (nI 0) := rfl
theorem cs_look (h : Rz z f) : (rmP f z.1.2 ∧ 0 < csV z ∧ ¬ csV z = 0 ∧ csV z = (lookT z.1.2 f).2 7 - f 7) ∨ (¬ rmP f z.1.2 ∧ ¬ 0 < csV z ∧ csV z = 0) := by
  by_cases hon : z.1.1 = true
  · have hc : Rz (zC z 0) (upd f 5 0) := rz_zC h (j := 0) (by decide)
    obtain ⟨-, e, hR, -, hS⟩ := st_T hc hon (k := 0) (by decide) (x := 0) (Or.inl (by decide))
    have hR' : Rz (stT 0 0 (zC z 0)).2 (lookT z.1.2 f).2 := hR
    have el : lookT z.1.2 f = recT z.1.2 (nI 0) 0 (upd f 5 0) := rfl
    have h2 := (rz_on h).mpr hon
    rcases hS with ⟨s1, s2⟩ | ⟨s1, s2, s3⟩ | ⟨p, s1, s2, s3, j, s4, s5, s6⟩
    · refine Or.inr ⟨fun y => y.2 ?_, ?_, ?_⟩
      · rw [el]
        exact (congrArg (· < (0 : Int32)) s2).mpr (by decide)
      · rw [csV, if_pos hon, if_pos s1]; decide
      · rw [csV, if_pos hon, if_pos s1]
    · exact absurd rfl s3
    · have hne : ¬ (stT 0 0 (zC z 0)).1 = -9 := fun y => oI_ne (a := p) (by omega) (s2.symm.trans y)
      have e5 : (stT 0 0 (zC z 0)).2.2.1 5 - z.2.1 5 = nI j := by
        have : (stT 0 0 (zC z 0)).2.2.1 5 = z.2.1 5 + nI j := s6
        rw [this, Int32.add_comm, Int32.add_sub_cancel]
      have ecs : csV z = nI j := by rw [csV, if_pos hon, if_neg hne, e5]
      refine Or.inl ⟨⟨h2, ?_⟩, ?_, ?_, ?_⟩
      · rw [el]
        have hp : ¬ nI p < 0 := nI_pos (by omega)
        exact fun y => hp ((congrArg (· < (0 : Int32)) s3).mp y)
      · rw [ecs]; exact nI_lt (show 0 < j by omega) (by omega)
      · rw [ecs]; exact nI_ne (j := 0) (by omega) (by decide) (by omega)
      · rw [rz_k hR' (k := 7) (by decide), zr_n (by decide) (by decide), rz_k h (k := 7) (by decide), zr_n (by decide) (by decide), ecs, ← e5]
  · refine Or.inr ⟨fun y => hon ((rz_on h).mp y.1), ?_, ?_⟩
    · rw [csV, if_neg hon]; decide
    · rw [csV, if_neg hon]
theorem cs_rm (h : Rz z f) : 0 < csV z ↔ rmP f z.1.2 := by
  rcases cs_look h with ⟨h1, h2, -⟩ | ⟨h1, h2, -⟩
  · exact ⟨fun _ => h1, fun _ => h2⟩
  · exact ⟨fun y => absurd y h2, fun y => absurd y h1⟩
theorem cs_0 (h : Rz z f) : csV z = 0 ↔ ¬ rmP f z.1.2 := by
  rcases cs_look h with ⟨h1, -, h2, -⟩ | ⟨h1, -, h2⟩
  · exact ⟨fun y => absurd y h2, fun y => absurd h1 y⟩
  · exact ⟨fun _ => h1, fun _ => h2⟩
end P13
