-- THE PURE PART: opening, switching on, erasing
section P6
variable {z : LgS} {f : Nat → Int32}
theorem rz_tear (h : Rz z f) {b a k : Nat} {x : Int32} {sw : Bool} (hn : nxA z b a) (hc : icP (z.2.1 1)) : Rz (lsW1 z a sw) (wrR f a (nI k) x sw) := by
  have hcf : cutP f := (rz_cutP h).mpr hc
  refine ⟨inv_w1 h.1 hn hc, fun j hj => ?_, fun j hj => ?_⟩
  · rw [wrR, if_pos hcf, pk_un (by omega), cutR_yk hcf hj, zr_w1 hj, h.2.1 5 (by decide), h.2.1 7 (by decide), h.2.1 11 (by decide), h.2.1 j hj]
  · obtain ⟨F0, F1, F2, F3, -⟩ := w1_F (z := z) (a := a) (sw := sw)
    rw [zr_pg (by decide), zr_pg (by decide), zr_pg (by decide), zr_pg (by decide), F0, F1, F2, F3, wrR, if_pos hcf]
    by_cases e : j = a
    · subst e
      rw [pk_us, show pg (upd (cutR f (nI j) 0 sw) (23 + 4 * j + 0) 2) j 0 = 2 from pk_us]
      exact ⟨rfl, fun y => absurd y (by decide)⟩
    · have hr : ∀ w, w < 4 → pg (upd (cutR f (nI a) 0 sw) (23 + 4 * a + 0) 2) j w = pg f j w := fun w hw => (pk_un (by omega)).trans cutR_pg
      rw [hr 0 (by decide), hr 1 (by decide), hr 2 (by decide), hr 3 (by decide), pk_un e]
      have := h.2.2 j hj
      rw [zr_pg (by decide), zr_pg (by decide), zr_pg (by decide), zr_pg (by decide)] at this
      exact this
/-- the pages are as they were, and so are the life and the next mark -/
theorem inv_pages (h : Inv z) {z2 : LgS} (hp : z2.2.2 = z.2.2) (hB : z2.1.2 = z.1.2) (h2 : z2.2.1 2 = z.2.1 2) (h4 : z2.2.1 4 = z.2.1 4) (hO : iOp z2) (hPo : iPo z2) (hC : iCu z2) : Inv z2 := by
  have hps : ∀ j w, w < 4 → pg (zr z2) j w = pg (zr z) j w := fun j w hw => by rw [zr_pg hw, zr_pg hw, hp]
  have nw : ∀ key n, nwst (zr z2) key n = nwst (zr z) key n := fun key n => nwst_same (fun j _ => by
    rw [hps j 0 (by decide), hps j 1 (by decide), hps j 3 (by decide)]
    exact ⟨Iff.rfl, fun _ => ⟨rfl, rfl⟩⟩)
  have ct : ∀ key n, cnt (zr z2) key n = cnt (zr z) key n := fun key n => cnt_same (fun j _ => by
    rw [hps j 0 (by decide), hps j 1 (by decide)]
    exact ⟨Iff.rfl, fun _ => rfl⟩)
  have su : ∀ n, suW z2 n = suW z n := fun n => suW_c (fun b _ => by
    unfold weN_ frN_
    rw [hp]
    exact ⟨rfl, rfl⟩)
  refine ⟨?_, ?_, ?_, ?_, ?_, ?_, ?_, hO, hPo, hC, ?_⟩
  · unfold iK; rw [hp, hB]; exact h.1
  · unfold iY; rw [hp]; exact h.2.1
  · unfold iM; rw [hp, h4]; exact h.2.2.1
  · intro k hk; rw [hp, nw]; exact h.2.2.2.1 k hk
  · intro a ha
    rw [hp, h.2.2.2.2.1 a ha]
    refine bI_congr ?_
    unfold livP
    rw [hps a 0 (by decide), hps a 1 (by decide), hps a 2 (by decide), nw, ct]
  · unfold iFr frN_; rw [hp]; exact h.2.2.2.2.2.1
  · unfold iWe liN_; rw [hp, h2]; exact h.2.2.2.2.2.2.1
  · unfold iBd nmN_; rw [h4, su]; exact h.2.2.2.2.2.2.2.2.2.2
theorem lcl_some {n o : Nat} : ∀ {n : Nat}, lcl f n = some o → clnP f o
  | 0, h => by cases h
  | n + 1, h => by
    unfold lcl at h
    cases hn : lcl f n with
    | none =>
      rw [hn] at h
      dsimp only at h
      split at h
      · rename_i hc; cases h; exact hc
      · cases h
    | some o2 =>
      rw [hn] at h
      have := lcl_some (n := n) (o := o2) hn
      dsimp only at h
      split at h
      · rename_i hc; cases h; exact hc.1
      · cases h; exact this
theorem cln_lcl : ∀ {n : Nat}, 0 < cln f n → ∃ o, lcl f n = some o
  | 0, h => absurd h (Nat.lt_irrefl _)
  | n + 1, h => by
    rw [cln] at h
    rw [lcl]
    cases hn : lcl f n with
    | none =>
      dsimp only
      by_cases hc : clnP f n
      · exact ⟨n, if_pos hc⟩
      · rw [if_neg hc] at h
        obtain ⟨o, ho⟩ := cln_lcl (n := n) (by omega)
        rw [hn] at ho
        cases ho
    | some o =>
      dsimp only
      split
      · exact ⟨n, rfl⟩
      · exact ⟨o, rfl⟩
/-- the clean block with the least wear is opened -/
theorem rz_open (h : Rz z f) (hon : z.1.1 = true) (hc : 0 < cln f z.1.2) : ∃ b, b < z.1.2 ∧ lcl f z.1.2 = some b ∧ frN_ z b = 4 ∧ lwZ z = nI b ∧ (tkO z).2.1 3 = nI b ∧ Rz (tkO z) (upd f 3 (oI (lcl f z.1.2))) := by
  have hB := inv_B h.1
  obtain ⟨b, hb⟩ := cln_lcl hc
  have hlt := lcl_lt hb
  have hcl := lcl_some (n := b) hb
  have hlw : lwZ z = nI b := by
    show oI (lwF _ _ _ _) = _
    rw [rz_lw h hB, hb]
    rfl
  have hn3 : (tkO z).2.1 3 = nI b := by
    show upd z.2.1 3 (lwZ z) 3 = _
    rw [pk_us, hlw]
  refine ⟨b, hlt, hb, ?_, hlw, hn3, ?_⟩
  · rw [← rz_cst0 h (show b < 8 by omega)]
    exact hcl.2
  · refine ⟨inv_pages h.1 rfl rfl rfl rfl (Or.inr ⟨hon, b, hlt, hn3⟩) h.1.2.2.2.2.2.2.2.2.1 h.1.2.2.2.2.2.2.2.2.2.1, fun j hj => ?_, fun j hj => ?_⟩
    · by_cases e : j = 3
      · subst e
        rw [pk_us, zr_3, hn3, hb]
        rfl
      · rw [pk_un e, h.2.1 j hj]
        rcases c23 hj with rfl | rfl | rfl | rfl | rfl | rfl | rfl | rfl | rfl | rfl | rfl | rfl | rfl | rfl | rfl | hj15
        iterate 15 (first | (· rfl) | (· exact absurd rfl e))
        obtain ⟨i, rfl⟩ : ∃ i, j = 15 + i := ⟨j - 15, by omega⟩
        rw [zr_w (by omega), zr_w (by omega)]
        rfl
    · have hr : ∀ w, pg (upd f 3 (oI (lcl f z.1.2))) j w = pg f j w := fun w => pk_un (by omega)
      rw [hr, hr, hr, hr]
      have := h.2.2 j hj
      rw [zr_pg (by decide), zr_pg (by decide), zr_pg (by decide), zr_pg (by decide)] at this ⊢
      exact this
/-- the page that comes next, where the open block has one -/
theorem rz_next (h : Rz z f) {b : Nat} (hb : b < z.1.2) (ho : z.2.1 3 = nI b) (hf : 1 ≤ frN_ z b) : nxp f (opn f) = some (4 * b + 4 - frN_ z b) ∧ nxA z b (4 * b + 4 - frN_ z b) ∧ frZ z = nI (frN_ z b) ∧ 4 * (z.2.1 3 + 1) - frZ z = nI (4 * b + 4 - frN_ z b) := by
  have hB := inv_B h.1
  obtain ⟨h4, h7, -⟩ := inv_fr h.1 (show b < 8 by omega)
  have hopn : opn f = some b := by
    rcases rz_opn h with ⟨h1, -⟩ | ⟨-, b2, hb2, h1, h2⟩
    · rw [ho] at h1; exact absurd h1 (oI_ne (a := b) (by omega))
    · rw [ho] at h1
      rw [h2, (nI_eq (a := b) (b := b2) (by omega) (by omega)).mp h1]
  have hfr : frZ z = nI (frN_ z b) := by rw [frZ, ho, at_8 (by omega), h7]
  refine ⟨?_, ⟨hb, hf, by omega⟩, hfr, ?_⟩
  · rw [hopn]
    unfold nxp
    dsimp only
    rw [rz_lft h (show b < 8 by omega), if_neg (by omega)]
  · rw [hfr, ho, nI_1, show (4 : Int32) = nI 4 from rfl, pk_mul, pk_sub (by omega), show 4 * (b + 1) - frN_ z b = 4 * b + 4 - frN_ z b by omega]
/-- no page in the open block -/
theorem rz_nonext (h : Rz z f) (hf : frZ z = 0) : nxp f (opn f) = none := by
  rw [rz_frZ h] at hf
  have h4 := lfo_le f (opn f)
  have h0 := (nI_eq (a := lfo f (opn f)) (b := 0) (by omega) (by decide)).mp hf
  cases ho : opn f with
  | none => rfl
  | some b =>
    rw [ho] at h0
    unfold nxp
    dsimp only
    exact if_pos h0
theorem rz_open0 (h : Rz z f) (hf : ¬ frZ z = 0) : z.1.1 = true ∧ ∃ b, b < z.1.2 ∧ z.2.1 3 = nI b ∧ 1 ≤ frN_ z b := by
  have hB := inv_B h.1
  rcases iOp_cases h.1 with h1 | ⟨hon, b, hb, h1⟩
  · rw [frZ, h1, at_n] at hf
    exact absurd rfl hf
  · refine ⟨hon, b, hb, h1, ?_⟩
    rw [frZ, h1, at_8 (by omega), (inv_fr h.1 (show b < 8 by omega)).2.1] at hf
    rcases Nat.eq_zero_or_pos (frN_ z b) with e | e
    · rw [e] at hf; exact absurd rfl hf
    · exact e
end P6
