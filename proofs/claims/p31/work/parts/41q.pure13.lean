-- THE PURE PART: where there is room without a cut there is room with one; the commands on both sides
theorem upd_cm {f : Nat → Int32} {a b : Nat} {x y : Int32} (h : a ≠ b) : upd (upd f a x) b y = upd (upd f b y) a x := by
  funext j
  unfold upd
  split
  · rename_i e
    subst e
    rw [if_neg (Ne.symm h)]
  · rfl
section P14
variable {z : LgS} {f : Nat → Int32}
theorem zc_w2 {a k : Nat} {x : Int32} {sw : Bool} : lsW2 (zC z 0) a k x sw = zC (lsW2 z a k x sw) 0 := by
  refine Prod.ext rfl (Prod.ext ?_ rfl)
  funext j
  show upd (upd (upd (upd (upd (upd z.2.1 1 0) 1 (icC (upd z.2.1 1 0 1))) 4 (upd z.2.1 1 0 4 + 1)) 5 (upd z.2.1 1 0 5 + 1)) 6 (upd z.2.1 1 0 6 + 1)) 7 (upd z.2.1 1 0 7 + bI (sw = true)) j = upd (upd (upd (upd (upd (upd z.2.1 1 (icC (z.2.1 1))) 4 (z.2.1 4 + 1)) 5 (z.2.1 5 + 1)) 6 (z.2.1 6 + 1)) 7 (z.2.1 7 + bI (sw = true))) 1 0 j
  by_cases e1 : j = 1
  · subst e1; rfl
  · rcases (show j = 4 ∨ j = 5 ∨ j = 6 ∨ j = 7 ∨ (j ≠ 4 ∧ j ≠ 5 ∧ j ≠ 6 ∧ j ≠ 7) by omega) with rfl | rfl | rfl | rfl | ⟨e4, e5, e6, e7⟩
    iterate 4 (· rfl)
    rw [pk_un e7, pk_un e6, pk_un e5, pk_un e4, pk_un e1, pk_un e1, pk_un e1, pk_un e7, pk_un e6, pk_un e5, pk_un e4, pk_un e1]
theorem zc_e2 {b : Nat} : lsE2 (zC z 0) b = zC (lsE2 z b) 0 := by
  refine Prod.ext rfl (Prod.ext ?_ rfl)
  funext j
  show upd (upd (upd (upd z.2.1 1 0) 1 (icC (upd z.2.1 1 0 1))) 5 (upd z.2.1 1 0 5 + 1)) 8 (upd z.2.1 1 0 8 + 1) j = upd (upd (upd (upd z.2.1 1 (icC (z.2.1 1))) 5 (z.2.1 5 + 1)) 8 (z.2.1 8 + 1)) 1 0 j
  by_cases e1 : j = 1
  · subst e1; rfl
  · rcases (show j = 5 ∨ j = 8 ∨ (j ≠ 5 ∧ j ≠ 8) by omega) with rfl | rfl | ⟨e5, e8⟩
    iterate 2 (· rfl)
    rw [pk_un e8, pk_un e5, pk_un e1, pk_un e1, pk_un e1, pk_un e8, pk_un e5, pk_un e1]
theorem zc_tk {n : Nat} {v : Int32} {z1 : LgS} (h : tkN n z = some (v, z1)) : tkN n (zC z 0) = some (v, zC z1 0) := by
  rw [tkN] at h ⊢
  show (if frZ z = 0 then if cbZ z < n then none else some (4 * (lwZ z + 1) - at_ (z.2.2 7) 8 0 (lwZ z), tkO (zC z 0)) else some (4 * (z.2.1 3 + 1) - frZ z, zC z 0)) = _
  split at h
  · rename_i h1
    rw [if_pos h1]
    split at h
    · cases h
    · rename_i h2
      rw [if_neg h2]
      cases h
      have : tkO (zC z 0) = zC (tkO z) 0 := Prod.ext rfl (Prod.ext (upd_cm (a := 1) (b := 3) (by decide)) rfl)
      rw [this]
  · rename_i h1
    rw [if_neg h1]
    cases h
    rfl
theorem zc_tkn {n : Nat} (h : tkN n z = none) : tkN n (zC z 0) = none := by
  rw [tkN] at h ⊢
  show (if frZ z = 0 then if cbZ z < n then none else some (4 * (lwZ z + 1) - at_ (z.2.2 7) 8 0 (lwZ z), tkO (zC z 0)) else some (4 * (z.2.1 3 + 1) - frZ z, zC z 0)) = _
  split at h
  · rename_i h1
    rw [if_pos h1]
    split at h
    · rename_i h2
      rw [if_pos h2]
    · cases h
  · cases h
theorem zc_ic : ¬ icP ((zC z 0).2.1 1) := fun y => y.1 rfl
theorem zc_slp {b : Nat} {M : Int32} : ∀ {m q : Nat} {z z2 : LgS}, slp b M m q z = some (true, z2) → slp b M m q (zC z 0) = some (true, zC z2 0)
  | 0, q, z, z2, h => by
    cases h
    rfl
  | m + 1, q, z, z2, h => by
    rw [slp] at h ⊢
    by_cases hb : (M >>> (nI q &&& 31)) &&& 1 = 0
    · rw [if_pos hb] at h ⊢
      exact zc_slp h
    · rw [if_neg hb] at h ⊢
      cases ht : tkN 1 z with
      | none => rw [ht] at h; cases h
      | some r =>
        obtain ⟨v, z1⟩ := r
        rw [ht] at h
        rw [zc_tk ht]
        dsimp only at h ⊢
        rw [slS] at h ⊢
        by_cases hv : inN v 32 ∧ inN (tpZ z (nI (4 * b + q)) 1) 16
        · rw [if_pos hv] at h
          rw [show (if inN v 32 ∧ inN (tpZ (zC z 0) (nI (4 * b + q)) 1) 16 then if icP ((zC z1 0).2.1 1) then some (false, lsW1 (zC z1 0) v.toNatClampNeg true) else slp b M m (q + 1) (lsW2 (zC z1 0) v.toNatClampNeg (tpZ (zC z 0) (nI (4 * b + q)) 1).toNatClampNeg (tpZ (zC z 0) (nI (4 * b + q)) 2) true) else none) = _ from if_pos hv, if_neg zc_ic, zc_w2]
          split at h
          · cases h
          · exact zc_slp h
        · rw [if_neg hv] at h
          cases h
theorem zc_sbl {b : Nat} {w : Int32} {z2 : LgS} (h : sbl b z = some (w, z2)) (hw : ¬ w = -2) : sbl b (zC z 0) = some (w, zC z2 0) := by
  rw [sbl] at h ⊢
  rcases hC : slp b (lvM z b 4) 4 0 z with _ | ⟨ok, zf⟩
  · rw [hC] at h; cases h
  · rw [hC] at h
    cases ok
    · cases h; exact absurd rfl hw
    · have e := zc_slp hC
      rw [show slp b (lvM (zC z 0) b 4) 4 0 (zC z 0) = _ from e]
      rw [sbE] at h ⊢
      split at h
      · cases h; exact absurd rfl hw
      · cases h
        rw [if_neg zc_ic, zc_e2]
theorem zc_st {k1 k2 : Nat} {x1 x2 : Int32} : ∀ {m : Nat} {z z2 : LgS}, stL k1 x1 m z = some (-9, z2) → stL k2 x2 m (zC z 0) = some (-9, zC z2 0)
  | 0, z, z2, h => by cases h; rfl
  | m + 1, z, z2, h => by
    rw [stL] at h ⊢
    cases ht : tkN 2 z with
    | some r =>
      obtain ⟨v, z1⟩ := r
      rw [ht] at h
      dsimp only at h
      rw [stW] at h
      split at h
      · rename_i hv
        obtain ⟨ev, lv⟩ := num_in (x := v) (j := 32) (by decide) hv
        split at h
        · have := (so_inj h).1; exact absurd this (by decide)
        · have := (so_inj h).1; exact absurd this (oI_ne (a := v.toNatClampNeg) (by omega))
      · cases h
    | none =>
      rw [ht] at h
      rw [zc_tkn ht]
      dsimp only at h ⊢
      rw [show cvZ (zC z 0) = cvZ z from rfl]
      cases hv : cvZ z with
      | none =>
        rw [hv] at h
        cases h
        rfl
      | some b =>
        rw [hv] at h
        dsimp only at h ⊢
        cases hs : sbl b z with
        | none => rw [hs] at h; cases h
        | some r =>
          obtain ⟨w, z1⟩ := r
          rw [hs] at h
          dsimp only at h
          by_cases hw : w = -2
          · rw [if_pos hw] at h
            have := (so_inj h).1
            exact absurd this (by decide)
          · rw [if_neg hw] at h
            rw [zc_sbl hs hw]
            dsimp only
            rw [if_neg hw]
            exact zc_st h
/-- where a record fits, none is refused -/
theorem cs_st (h : 0 < csV z) {k : Nat} {x : Int32} : ¬ (stT k x z).1 = -9 := fun y => by
  have hne : ¬ (stT 0 0 (zC z 0)).1 = -9 := fun q => by
    rw [csV] at h
    by_cases c : z.1.1 = true
    · rw [if_pos c, if_pos q] at h; exact absurd h (by decide)
    · rw [if_neg c] at h; exact absurd h (by decide)
  rw [stT] at y
  cases hs : stL k x 1000 z with
  | none => rw [hs] at y; exact absurd (show (0 : Int32) = -9 from y) (by decide)
  | some r =>
    obtain ⟨w, z2⟩ := r
    rw [hs] at y
    have e : w = -9 := y
    subst e
    refine hne ?_
    rw [stT, zc_st (k2 := 0) (x2 := 0) hs]
    rfl
-- the commands
theorem pf_put (h : Rz z f) {k : Nat} (hk : k < 16) {n : Int32} (hn : ¬ n = -9) : (pfP z 1 k n ↔ rmP f z.1.2) ∧ Rz (pfZ z 1 k n) (dPut f z.1.2 (nI k) n) ∧ (pfZ z 1 k n).1.2 = z.1.2 := by
  have hc := cs_rm h
  rw [show pfZ z 1 k n = if 0 < csV z then (stT k n z).2 else z from rfl, show dPut f z.1.2 (nI k) n = if rmP f z.1.2 then (recT z.1.2 (nI k) n f).2 else f from rfl]
  refine ⟨?_, ?_⟩
  · show (0 < csV z ∧ ¬ (stT k n z).1 = -9) ↔ _
    exact ⟨fun y => hc.mp y.1, fun y => ⟨hc.mpr y, cs_st (hc.mpr y)⟩⟩
  · by_cases c : 0 < csV z
    · obtain ⟨-, -, h2, h3, -⟩ := st_T h (cs_on c) hk (x := n) (Or.inl hn)
      rw [if_pos c, if_pos (hc.mp c)]
      exact ⟨h2, h3.1⟩
    · rw [if_neg c, if_neg (fun y => c (hc.mpr y))]
      exact ⟨h, rfl⟩
theorem pf_rem (h : Rz z f) {k : Nat} (hk : k < 16) {n : Int32} : (pfP z 2 k n ↔ dRmP f z.1.2 (nI k)) ∧ Rz (pfZ z 2 k n) (dRem f z.1.2 (nI k)) ∧ (pfZ z 2 k n).1.2 = z.1.2 := by
  have hc := cs_rm h
  have hv := rz_va h hk
  have hd : (¬ vaZ z (nI k) = -9 ∧ 0 < csV z) ↔ dRmP f z.1.2 (nI k) := by
    rw [hv, hc]
  rw [show pfZ z 2 k n = if ¬ vaZ z (nI k) = -9 ∧ 0 < csV z then (stT k (-9) z).2 else z from rfl, show dRem f z.1.2 (nI k) = if dRmP f z.1.2 (nI k) then (recT z.1.2 (nI k) (-9) f).2 else f from rfl]
  refine ⟨?_, ?_⟩
  · show (¬ vaZ z (nI k) = -9 ∧ 0 < csV z ∧ ¬ (stT k (-9) z).1 = -9) ↔ _
    rw [← hd]
    exact ⟨fun y => ⟨y.1, y.2.1⟩, fun y => ⟨y.1, y.2, cs_st y.2⟩⟩
  · by_cases c : ¬ vaZ z (nI k) = -9 ∧ 0 < csV z
    · obtain ⟨-, -, h2, h3, -⟩ := st_T h (cs_on c.2) hk (x := -9) (Or.inr c.1)
      rw [if_pos c, if_pos (hd.mp c)]
      exact ⟨h2, h3.1⟩
    · rw [if_neg c, if_neg (fun y => c (hd.mpr y))]
      exact ⟨h, rfl⟩
theorem swpT_none (h : Rz z f) (hv : cvZ z = none) : swpT f z.1.2 = (-9, f) := by
  rw [swpT, swp, ← rz_vc h, hv]
  rfl
theorem pf_swp (h : Rz z f) {k : Nat} {n : Int32} : (pfP z 3 k n ↔ ¬ (swpT f z.1.2).1 = -9) ∧ Rz (pfZ z 3 k n) (swpT f z.1.2).2 ∧ (pfZ z 3 k n).1.2 = z.1.2 := by
  have hB := inv_B h.1
  rw [show pfZ z 3 k n = if oI (cvZ z) = -9 then z else (sbT (oI (cvZ z)).toNatClampNeg z).2 from rfl]
  show ((¬ oI (cvZ z) = -9 ∧ ¬ (sbT (oI (cvZ z)).toNatClampNeg z).1 = -9) ↔ _) ∧ _
  cases hv : cvZ z with
  | none =>
    rw [swpT_none h hv, show oI none = -9 from rfl, if_pos rfl]
    exact ⟨⟨fun y => absurd rfl y.1, fun y => absurd rfl y⟩, h, rfl⟩
  | some b =>
    have hb : b < z.1.2 := by rw [rz_vc h] at hv; exact vcm_lt hv
    have e : (oI (some b)).toNatClampNeg = b := nI_clamp (by omega)
    have hne : ¬ oI (some b) = -9 := oI_ne (by omega)
    obtain ⟨-, g1, g2, g3, g4⟩ := sb_T h hv
    rw [e, if_neg hne]
    exact ⟨⟨fun y => by rw [← g1]; exact y.2, fun y => ⟨hne, g4⟩⟩, g2, g3⟩
theorem pf_cut (h : Rz z f) {k j : Nat} (hj : j ≤ 99) : (pfP z 4 k (nI j) ↔ ¬ f 2 = 0) ∧ Rz (pfZ z 4 k (nI j)) (dCut f (nI j)) ∧ (pfZ z 4 k (nI j)).1.2 = z.1.2 := by
  have ho := rz_off h
  rw [show pfZ z 4 k (nI j) = if z.1.1 = true then zC z (nI j) else z from rfl, dCut]
  refine ⟨?_, ?_⟩
  · show z.1.1 = true ↔ _
    rw [ho, Classical.not_not]
  · by_cases c : z.1.1 = true
    · rw [if_pos c, if_neg (fun y => ho.mp y c)]
      exact ⟨rz_zC h hj, rfl⟩
    · rw [if_neg c, if_pos (ho.mpr c)]
      exact ⟨h, rfl⟩
theorem rz_sta (h : Rz z f) : Rz (zSw z) (dSta f z.1.2) ∧ (zSw z).1.2 = z.1.2 := by
  rw [dSta]
  by_cases c : z.1.1 = true
  · rw [if_pos ((rz_on h).mpr c), zSw_on c]
    exact ⟨h, rfl⟩
  · rw [if_neg (fun y => c ((rz_on h).mp y))]
    refine ⟨rz_zSw h c, ?_⟩
    rw [zSw, if_neg c]
theorem rz_rdU (h : Rz z f) : Rz (zSw z) (rdU f z.1.2) ∧ (zSw z).1.2 = z.1.2 ∧ (zSw z).1.1 = true := by
  rw [rdU]
  by_cases c : z.1.1 = true
  · rw [if_neg (fun y => (rz_off h).mp y c), zSw_on c]
    exact ⟨h, rfl, c⟩
  · rw [if_pos ((rz_off h).mpr c)]
    refine ⟨rz_zSw h c, ?_⟩
    rw [zSw, if_neg c]
    exact ⟨rfl, rfl⟩
theorem pf_sta (h : Rz z f) {k : Nat} {n : Int32} : (pfP z 5 k n ↔ ¬ f 2 = 1) ∧ Rz (pfZ z 5 k n) (dSta f z.1.2) ∧ (pfZ z 5 k n).1.2 = z.1.2 := by
  refine ⟨?_, rz_sta h⟩
  show ¬ z.1.1 = true ↔ _
  rw [rz_on h]
theorem pf_pol (h : Rz z f) {c k j : Nat} (hc : ¬ (1 ≤ c ∧ c ≤ 8)) (hj : j ≤ 99) : (pfP z c k (nI j) ↔ j ≤ 2) ∧ Rz (pfZ z c k (nI j)) (if j ≤ 2 then upd f 6 (nI j) else f) ∧ (pfZ z c k (nI j)).1.2 = z.1.2 := by
  have e : 2 < nI j ↔ 2 < j := nI_ltI (a := 2) (by decide) (by omega)
  have ez : pfZ z c k (nI j) = if 2 < nI j then z else zPo z (nI j) := by
    unfold pfZ
    rw [if_neg (by omega), if_neg (by omega), if_neg (by omega), if_neg (by omega), if_neg (by omega), if_neg (by omega), if_neg (by omega), if_neg (by omega)]
  have ep : pfP z c k (nI j) ↔ ¬ 2 < nI j := by
    unfold pfP
    rw [if_neg (by omega), if_neg (by omega), if_neg (by omega), if_neg (by omega), if_neg (by omega), if_neg (by omega), if_neg (by omega), if_neg (by omega)]
  rw [ez]
  refine ⟨ep.trans ((not_congr e).trans (by omega)), ?_⟩
  by_cases c2 : j ≤ 2
  · rw [if_pos c2, if_neg (fun y => by have := e.mp y; omega)]
    exact ⟨rz_zPo h c2, rfl⟩
  · rw [if_neg c2, if_pos (e.mpr (by omega))]
    exact ⟨h, rfl⟩
theorem pf_eq (h : Rz z f) {k : Nat} (hk : k < 16) {n : Int32} : (pfP z 6 k n ↔ f 2 = 1 ∧ vlu f (nI k) z.1.2 = n) ∧ pfZ z 6 k n = z := by
  refine ⟨?_, rfl⟩
  show (z.1.1 = true ∧ vaZ z (nI k) = n) ↔ _
  rw [rz_on h, rz_va h hk]
theorem pf_wear (h : Rz z f) {k : Nat} (hk : k < 16) {n : Int32} : (pfP z 7 k n ↔ k < z.1.2 ∧ ¬ n < f (15 + k)) ∧ pfZ z 7 k n = z := by
  have hB := inv_B h.1
  refine ⟨?_, rfl⟩
  show ((¬ nI k < 0 ∧ nI k < nI z.1.2 ∧ nI k < 8) ∧ ¬ n < at_ (z.2.2 4) 8 0 (nI k)) ↔ _
  by_cases c : k < z.1.2
  · rw [at_8 (by omega), rz_w h (show k < 8 by omega)]
    exact ⟨fun y => ⟨c, y.2⟩, fun y => ⟨⟨nI_pos (by omega), nI_lt c (by omega), nI_lt (show k < 8 by omega) (by decide)⟩, y.2⟩⟩
  · exact ⟨fun y => absurd ((nI_ltI (by omega) (by omega)).mp y.1.2.1) c, fun y => absurd y.1 c⟩
theorem pf_cl (h : Rz z f) {k j : Nat} (hj : j ≤ 99) : (pfP z 8 k (nI j) ↔ j ≤ cln f z.1.2) ∧ pfZ z 8 k (nI j) = z := by
  have hB := inv_B h.1
  have := cln_le (f := f) z.1.2
  refine ⟨?_, rfl⟩
  show (¬ nI (cbZ z) < nI j) ↔ _
  rw [show cbZ z = cln f z.1.2 from rz_cln h hB, nI_ltI (by omega) (by omega)]
  omega
theorem inv_pf' {c k : Nat} {n : Int32} (h : Inv z) (hk : k < 16) (h1 : c = 1 → ¬ n = -9) (hn : c = 4 ∨ ¬ (1 ≤ c ∧ c ≤ 8) → ∃ j : Nat, j ≤ 99 ∧ n = nI j) : Inv (pfZ z c k n) := by
  have hz : Rz z (zr z) := ⟨h, sim_rf _⟩
  by_cases c9 : 1 ≤ c ∧ c ≤ 8
  · rcases (show c = 1 ∨ c = 2 ∨ c = 3 ∨ c = 4 ∨ c = 5 ∨ c = 6 ∨ c = 7 ∨ c = 8 by omega) with rfl | rfl | rfl | rfl | rfl | rfl | rfl | rfl
    · exact (pf_put hz hk (h1 rfl)).2.1.1
    · exact (pf_rem hz hk).2.1.1
    · exact (pf_swp hz).2.1.1
    · obtain ⟨j, hj, rfl⟩ := hn (Or.inl rfl)
      exact (pf_cut hz hj).2.1.1
    · exact (pf_sta hz (k := k) (n := n)).2.1.1
    · exact h
    · exact h
    · exact h
  · obtain ⟨j, hj, rfl⟩ := hn (Or.inr c9)
    exact (pf_pol hz c9 hj).2.1.1
end P14
