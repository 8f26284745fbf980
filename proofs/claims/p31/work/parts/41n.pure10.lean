-- THE PURE PART: a page is taken; a copy; what a key has
section P11
variable {z : LgS} {f : Nat → Int32}
/-- the page that is taken, on both sides -/
theorem rz_take (h : Rz z f) (hon : z.1.1 = true) {n : Nat} (hn : 1 ≤ n) (hr : ¬ frZ z = 0 ∨ n ≤ cln f z.1.2) : ∃ z1 b0 p, tkN n z = some (nI p, z1) ∧ Rz z1 (swO f z.1.2) ∧ nxp (swO f z.1.2) (opn (swO f z.1.2)) = some p ∧ nxA z1 b0 p ∧ z1.2.1 3 = nI b0 ∧ z1 = (z.1, upd z.2.1 3 (nI b0), z.2.2) ∧ ((¬ frZ z = 0 ∧ z.2.1 3 = nI b0 ∧ frZ z = nI (frN_ z b0)) ∨ (frZ z = 0 ∧ frN_ z b0 = 4 ∧ ¬ z.2.1 3 = nI b0)) := by
  have hB := inv_B h.1
  by_cases hf : frZ z = 0
  · have hc : n ≤ cln f z.1.2 := hr.elim (fun y => absurd hf y) id
    have hno := rz_nonext h hf
    obtain ⟨b, hb, hl, hf4, hlw, h3, hR⟩ := rz_open h hon (by omega)
    have hso : swO f z.1.2 = upd f 3 (oI (lcl f z.1.2)) := by
      unfold swO
      rw [hno]
    obtain ⟨g1, g2, g3, g4⟩ := rz_next hR hb h3 (show 1 ≤ frN_ z b by omega)
    have hfr : frN_ (tkO z) b = frN_ z b := rfl
    have e4 : 4 * (lwZ z + 1) - at_ (z.2.2 7) 8 0 (lwZ z) = nI (4 * b + 4 - frN_ (tkO z) b) := by
      rw [← g4]
      show _ = 4 * (upd z.2.1 3 (lwZ z) 3 + 1) - at_ (z.2.2 7) 8 0 (upd z.2.1 3 (lwZ z) 3)
      rw [pk_us]
    refine ⟨tkO z, b, _, ?_, by rw [hso]; exact hR, by rw [hso]; exact g1, g2, h3, by rw [← hlw]; rfl, Or.inr ⟨hf, hf4, fun y => ?_⟩⟩
    · rw [tkN, if_pos hf, if_neg (by rw [show cbZ z = cln f z.1.2 from rz_cln h hB]; omega), e4]
    · have := (lcl_some (n := b) hl).1
      rw [rz_3 h, y] at this
      exact this rfl
  · obtain ⟨-, b, hb, h3, h1⟩ := rz_open0 h hf
    obtain ⟨g1, g2, g3, g4⟩ := rz_next h hb h3 h1
    have hso : swO f z.1.2 = f := by
      unfold swO
      rw [g1]
    refine ⟨z, b, _, ?_, by rw [hso]; exact h, by rw [hso]; exact g1, g2, h3, ?_, Or.inl ⟨hf, h3, g3⟩⟩
    · rw [tkN, if_neg hf, g4]
    · rw [← h3, upd_self]
-- a page of a live record
theorem inv_live (h : Inv z) {a : Nat} (ha : a < 32) (hl : z.2.2 5 a = 1) : z.2.2 0 a = 1 ∧ ∃ k, k < 16 ∧ z.2.2 1 a = nI k ∧ z.2.2 6 k = nI a := by
  rw [h.2.2.2.2.1 a ha] at hl
  obtain ⟨h1, h2, -⟩ := bI_one.mp hl
  have e0 : z.2.2 0 a = 1 := by rw [zr_pg (by decide)] at h1; exact h1
  have hin := h.2.1 a ha e0
  obtain ⟨e, hk⟩ := num_in (x := z.2.2 1 a) (j := 16) (by decide) hin
  refine ⟨e0, _, hk, e, ?_⟩
  rw [h.2.2.2.1 _ hk, ← e]
  rw [zr_pg (by decide)] at h2
  rw [show (4 * 8 : Nat) = 32 from rfl] at h2
  rw [h2]
  rfl
theorem zk_va {k : Nat} (hk : k < 16) : vaZ z (nI k) = if pagP z.1.2 (z.2.2 6 k) then z.2.2 2 (z.2.2 6 k).toNatClampNeg else -9 := by
  rw [vaZ, vaV, show (16 : Int32) = nI 16 from rfl, at_b hk (by decide)]
theorem pagP_b {B a : Nat} (h : a < 4 * B) (h32 : a < 32) (hB : B ≤ 8) : pagP B (nI a) := ⟨nI_pos (by omega), nI_lt h (by omega), nI_lt (show a < 32 by omega) (by decide)⟩
/-- what a key has, behind a writing -/
theorem w2_va (h : Inv z) {b a k : Nat} {x : Int32} {sw : Bool} (hn : nxA z b a) {j : Nat} (hj : j < 16) : vaZ (lsW2 z a k x sw) (nI j) = if j = k then x else vaZ z (nI j) := by
  obtain ⟨ha, haB, hab, h0a⟩ := nxA_a h hn
  obtain ⟨F0, F1, F2, F3, F4, F5, F6, F7⟩ := w2_F (z := z) (a := a) (k := k) (x := x) (sw := sw)
  have hB := inv_B h
  rw [zk_va hj, F6, F2, show (lsW2 z a k x sw).1.2 = z.1.2 from rfl]
  by_cases e : j = k
  · subst e
    rw [if_pos rfl, pk_us, if_pos (pagP_b haB ha hB), nI_clamp (by omega), pk_us]
  · rw [if_neg e, pk_un e, zk_va hj]
    rw [h.2.2.2.1 j hj]
    cases ho : nwst (zr z) (nI j) 32 with
    | none =>
      have hneg : ¬ pagP z.1.2 (oI none) := fun y => absurd y.1 (by decide)
      rw [if_neg hneg, if_neg hneg]
    | some o =>
      have ol := nwst_lt ho
      have ow := (nwst_wr ho).1
      rw [zr_pg (by decide)] at ow
      have hoa : o ≠ a := fun y => by rw [y, h0a] at ow; exact absurd ow (by decide)
      rw [show oI (some o) = nI o from rfl, nI_clamp (by omega), pk_un hoa]
theorem w2_fr (h : Inv z) {b a k : Nat} {x : Int32} {sw : Bool} (hn : nxA z b a) : frN_ (lsW2 z a k x sw) b + 1 = frN_ z b ∧ ∀ j, j ≠ b → frN_ (lsW2 z a k x sw) j = frN_ z j := by
  obtain ⟨ha, haB, hab, h0a⟩ := nxA_a h hn
  obtain ⟨F0, F1, F2, F3, F4, F5, F6, F7⟩ := w2_F (z := z) (a := a) (k := k) (x := x) (sw := sw)
  have hB := inv_B h
  obtain ⟨hf4, hf7, -⟩ := inv_fr h (show b < 8 by have := hn.1; omega)
  refine ⟨?_, fun j hj => ?_⟩
  · have e : (lsW2 z a k x sw).2.2 7 b = nI (frN_ z b - 1) := by
      rw [F7, hab, pk_us, hf7, show (1 : Int32) = nI 1 from rfl, pk_sub (by have := hn.2.1; omega)]
    have := hn.2.1
    rw [frN_, e, nI_clamp (by omega)]
    omega
  · unfold frN_
    rw [F7, hab, pk_un hj]
theorem cbF_open {fr fr2 : Nat → Int32} {b : Nat} (hb : b < 2 ^ 31) (hf : ∀ j, j ≠ b → fr2 j = fr j) : ∀ {n : Nat}, cbF fr2 (nI b) n = cbF fr (nI b) n
  | 0 => rfl
  | n + 1 => by
    rw [cbF, cbF, cbF_open hb hf (n := n)]
    by_cases e : n = b
    · subst e
      rw [if_neg (fun y => y.1 rfl), if_neg (fun y => y.1 rfl)]
    · rw [hf n e]
/-- room: how many copies fit -/
def roZ (z : LgS) : Nat := (frZ z).toNatClampNeg + if 0 < cbZ z then 4 else 0
theorem rz_ro (h : Rz z f) : roZ z = lfo f (opn f) + if 0 < cln f z.1.2 then 4 else 0 := by
  have := lfo_le f (opn f)
  rw [roZ, rz_frZ h, nI_clamp (by omega), show cbZ z = cln f z.1.2 from rz_cln h (inv_B h.1)]
theorem ro_has (h : Rz z f) (hr : 1 ≤ roZ z) : ¬ frZ z = 0 ∨ 1 ≤ cln f z.1.2 := by
  by_cases e : frZ z = 0
  · refine Or.inr ?_
    rw [roZ, e, show cbZ z = cln f z.1.2 from rz_cln h (inv_B h.1)] at hr
    rw [show (0 : Int32).toNatClampNeg = 0 from rfl] at hr
    split at hr <;> omega
  · exact Or.inl e
-- a copy
/-- what stays, at most n operations later -/
def KV (z z2 : LgS) (n : Nat) : Prop := z2.1.2 = z.1.2 ∧ z2.2.1 2 = z.2.1 2 ∧ (∃ j, j ≤ n ∧ z2.2.1 5 = z.2.1 5 + nI j) ∧ (z.2.1 1 = 0 → z2.2.1 1 = 0 ∧ z2.1.1 = z.1.1) ∧ ∀ k, k < 16 → ¬ vaZ z (nI k) = -9 → ¬ vaZ z2 (nI k) = -9
theorem kv_rf {n : Nat} : KV z z n := ⟨rfl, rfl, ⟨0, Nat.zero_le _, (Int32.add_zero _).symm⟩, fun y => ⟨y, rfl⟩, fun _ _ y => y⟩
theorem kv_tr {z2 z3 : LgS} {n m l : Nat} (h1 : KV z z2 n) (h2 : KV z2 z3 m) (hl : n + m ≤ l) : KV z z3 l := by
  obtain ⟨a1, a2, ⟨j, a3, a4⟩, a5, a6⟩ := h1
  obtain ⟨b1, b2, ⟨i, b3, b4⟩, b5, b6⟩ := h2
  refine ⟨b1.trans a1, b2.trans a2, ⟨j + i, by omega, ?_⟩, fun y => ?_, fun k hk y => b6 k hk (a6 k hk y)⟩
  · rw [b4, a4, Int32.add_assoc, nI_add]
  · obtain ⟨c1, c2⟩ := a5 y
    obtain ⟨c3, c4⟩ := b5 c1
    exact ⟨c3, c4.trans c2⟩
/-- what holds of the copies of block b: P says which of its pages were live, q how far they are -/
def SI (z : LgS) (f : Nat → Int32) (b : Nat) (P : Nat → Bool) (q : Nat) : Prop := Rz z f ∧ z.1.1 = true ∧ b < z.1.2 ∧ ¬ z.2.1 3 = nI b ∧ ¬ frN_ z b = 4 ∧ ∀ i, i < 4 → (z.2.2 5 (4 * b + i) = 1 ↔ P i = true ∧ q ≤ i)
theorem si_copy {b q : Nat} {P : Nat → Bool} (h : SI z f b P q) (hq : q < 4) (hP : P q = true) {R : Nat} (hR : R + 1 ≤ roZ z) (hR4 : R + 1 ≤ 4) : ∃ z1 p k, tkN 1 z = some (nI p, z1) ∧ k < 16 ∧ p < 32 ∧ tpZ z (nI (4 * b + q)) 1 = nI k ∧ z1.2.1 1 = z.2.1 1 ∧ nxp (swO f z.1.2) (opn (swO f z.1.2)) = some p ∧ pg (swO f z.1.2) (4 * b + q) 1 = nI k ∧ pg (swO f z.1.2) (4 * b + q) 2 = tpZ z (nI (4 * b + q)) 2 ∧ (cutP (swO f z.1.2) ↔ icP (z.2.1 1)) ∧
    (icP (z.2.1 1) → Rz (lsW1 z1 p true) (wrR (swO f z.1.2) p (nI k) (tpZ z (nI (4 * b + q)) 2) true) ∧ KV z (lsW1 z1 p true) 1) ∧
    (¬ icP (z.2.1 1) → SI (lsW2 z1 p k (tpZ z (nI (4 * b + q)) 2) true) (wrR (swO f z.1.2) p (nI k) (tpZ z (nI (4 * b + q)) 2) true) b P (q + 1) ∧ KV z (lsW2 z1 p k (tpZ z (nI (4 * b + q)) 2) true) 1 ∧ (lsW2 z1 p k (tpZ z (nI (4 * b + q)) 2) true).2.2 4 = z.2.2 4 ∧ R ≤ roZ (lsW2 z1 p k (tpZ z (nI (4 * b + q)) 2) true)) := by
  obtain ⟨h, hon, hbB, h3, hf4, hlv⟩ := h
  have hB := inv_B h.1
  have haq : 4 * b + q < 32 := by omega
  have hlq : z.2.2 5 (4 * b + q) = 1 := (hlv q hq).mpr ⟨hP, Nat.le_refl _⟩
  obtain ⟨e0, k, hk, ek, e6⟩ := inv_live h.1 haq hlq
  have t1 : tpZ z (nI (4 * b + q)) 1 = nI k := by
    rw [tpZ, tpV, if_pos ⟨nI_pos (by omega), nI_lt (show 4 * b + q < 32 by omega) (by decide)⟩, nI_clamp (by omega), tpF, if_neg (by decide), if_pos e0, if_pos rfl, ek]
  have t2 : tpZ z (nI (4 * b + q)) 2 = z.2.2 2 (4 * b + q) := by
    rw [tpZ, tpV, if_pos ⟨nI_pos (by omega), nI_lt (show 4 * b + q < 32 by omega) (by decide)⟩, nI_clamp (by omega), tpF, if_neg (by decide), if_pos e0, if_neg (by decide), if_pos rfl]
  obtain ⟨z1, b0, p, c1, c2, c3, c4, c5, c6, c7⟩ := rz_take h hon (n := 1) (Nat.le_refl _) (ro_has h (by omega))
  have hp : z1.2.2 = z.2.2 := by rw [c6]
  have h11 : z1.1 = z.1 := by rw [c6]
  have hN : ∀ j, j ≠ 3 → z1.2.1 j = z.2.1 j := fun j hj => by rw [c6]; exact pk_un hj
  obtain ⟨r1, r2, r3⟩ := rz_rec c2 haq (by rw [hp]; exact e0)
  rw [hp] at r1 r2
  obtain ⟨pa, paB, pab, p0⟩ := nxA_a c2.1 c4
  have hb0 : b0 < 8 := by have := c4.1; rw [h11] at this; omega
  have hbb : b0 ≠ b := fun y => by
    subst y
    rcases c7 with ⟨-, y, -⟩ | ⟨-, y, -⟩
    · exact h3 y
    · exact hf4 y
  have hva : ∀ j, j < 16 → vaZ z1 (nI j) = vaZ z (nI j) := fun j hj => by rw [zk_va hj, zk_va hj, hp, h11]
  have hx : ¬ tpZ z (nI (4 * b + q)) 2 = -9 ∨ ∃ i, i < 32 ∧ z1.2.2 0 i = 1 ∧ z1.2.2 1 i = nI k := Or.inr ⟨4 * b + q, haq, by rw [hp]; exact e0, by rw [hp]; exact ek⟩
  refine ⟨z1, p, k, c1, hk, pa, t1, hN 1 (by decide), c3, r1.trans ek, r2.trans t2.symm, ?_, fun hc => ?_, fun hc => ?_⟩
  · rw [rz_cutP c2, hN 1 (by decide)]
  · have hc1 : icP (z1.2.1 1) := by rw [hN 1 (by decide)]; exact hc
    obtain ⟨F0, F1, F2, F3, F4, F5, F6, F7⟩ := w1_F (z := z1) (a := p) (sw := true)
    refine ⟨rz_tear c2 c4 hc1, by show z1.1.2 = _; rw [h11], ?_, ⟨1, Nat.le_refl _, ?_⟩, fun y => absurd y hc.1, fun j hj y => ?_⟩
    · rw [← hN 2 (by decide)]; rfl
    · rw [← hN 5 (by decide)]; rfl
    · rw [← hva j hj] at y
      rw [zk_va hj, F6, F2]
      rw [zk_va hj] at y
      exact y
  · have hc1 : ¬ icP (z1.2.1 1) := by rw [hN 1 (by decide)]; exact hc
    obtain ⟨F0, F1, F2, F3, F4, F5, F6, F7⟩ := w2_F (z := z1) (a := p) (k := k) (x := tpZ z (nI (4 * b + q)) 2) (sw := true)
    obtain ⟨N0, N1, N2, N3, N4, N5⟩ := w2_N (z := z1) (a := p) (k := k) (x := tpZ z (nI (4 * b + q)) 2) (sw := true)
    obtain ⟨f1, f2⟩ := w2_fr (k := k) (x := tpZ z (nI (4 * b + q)) 2) (sw := true) c2.1 c4
    have hfz : ∀ j, frN_ z1 j = frN_ z j := fun j => by unfold frN_; rw [hp]
    refine ⟨⟨rz_write c2 c4 hk hx hc1, ?_, ?_, ?_, ?_, fun i hi => ?_⟩, ⟨by show z1.1.2 = _; rw [h11], by rw [N2, hN 2 (by decide)], ⟨1, Nat.le_refl _, by rw [N5, hN 5 (by decide)]; rfl⟩, fun y => ?_, fun j hj y => ?_⟩, by rw [F4, hp], ?_⟩
    · show z1.1.1 = true
      rw [h11]; exact hon
    · show b < z1.1.2
      rw [h11]; exact hbB
    · rw [N3, c5]
      exact nI_ne (by omega) (by omega) hbb
    · rw [f2 b (Ne.symm hbb), hfz]
      exact hf4
    · have hne : 4 * b + i ≠ p := fun y => hbb (by omega)
      rw [F5, lvW, hp, e6, if_pos ⟨nI_pos (by omega), nI_lt (show 4 * b + q < 32 by omega) (by decide)⟩, nI_clamp (by omega)]
      by_cases e : i = q
      · subst e
        rw [pk_us]
        exact ⟨fun y => absurd y (by decide), fun y => by have := y.2; omega⟩
      · rw [pk_un (by omega), pk_un hne, hlv i hi]
        constructor
        · intro y; exact ⟨y.1, by omega⟩
        · intro y; exact ⟨y.1, by omega⟩
    · rw [N1, hN 1 (by decide), y]
      exact ⟨rfl, by show z1.1.1 = _; rw [h11]⟩
    · rw [w2_va c2.1 c4 hj]
      by_cases e : j = k
      · subst e
        rw [if_pos rfl, t2]
        rw [zk_va hj, e6] at y
        split at y
        · rw [nI_clamp (by omega)] at y; exact y
        · exact absurd rfl y
      · rw [if_neg e, hva j hj]; exact y
    · have h4b := (inv_fr h.1 hb0).1
      have e7 : (lsW2 z1 p k (tpZ z (nI (4 * b + q)) 2) true).2.2 7 b0 = nI (frN_ z b0 - 1) := by
        rw [F7, pab, pk_us, hp, (inv_fr h.1 hb0).2.1, show (1 : Int32) = nI 1 from rfl, pk_sub (by have := hfz b0; omega)]
      have efr : frZ (lsW2 z1 p k (tpZ z (nI (4 * b + q)) 2) true) = nI (frN_ z b0 - 1) := by
        rw [frZ, N3, c5, at_8 hb0, e7]
      have hf1 := hfz b0
      rw [roZ, efr, nI_clamp (by omega)]
      rcases c7 with ⟨y1, y2, y3⟩ | ⟨y1, y2, y3⟩
      · have ecb : cbZ (lsW2 z1 p k (tpZ z (nI (4 * b + q)) 2) true) = cbZ z := by
          show cbF _ ((lsW2 z1 p k (tpZ z (nI (4 * b + q)) 2) true).2.1 3) z1.1.2 = cbF _ (z.2.1 3) z.1.2
          rw [N3, c5, y2, h11]
          refine cbF_open (by omega) (fun j hj => ?_)
          rw [F7, pab, pk_un hj, hp]
        rw [ecb]
        rw [roZ, y3, nI_clamp (by omega)] at hR
        omega
      · rw [y2]
        omega
end P11
