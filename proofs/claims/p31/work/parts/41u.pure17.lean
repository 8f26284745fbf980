-- THE PURE PART: head, the first error, load
section P18
variable {t : Nat → Int32} {n q : Nat}
theorem hd_r (bl lf : Int32) : (rch t n bl lf).1 = hd2 t n ∧ ((hd2 t n).1 = true → (hd2 t n).2 ≤ n ∧ ∃ B L : Nat, (rch t n bl lf).2 = (nI B, nI L) ∧ hdB t n = nI B ∧ hdL t n = nI L ∧ 3 ≤ B ∧ B ≤ 8 ∧ 1 ≤ L ∧ L ≤ 99) := by
  have e1 : rdV t n 1 1 3 8 = (if (rN t n 3 8 1 0 1).1.1 = true then nI (rN t n 3 8 1 0 1).2 else -9, (rN t n 3 8 1 0 1).1.2) := rdV_r (lo := 3) (hi := 8) (by decide) (by decide) (by decide)
  have e2 : ∀ q, rdV t n q 2 1 99 = (if (rN t n 1 99 2 0 q).1.1 = true then nI (rN t n 1 99 2 0 q).2 else -9, (rN t n 1 99 2 0 q).1.2) := fun q => rdV_r (lo := 1) (hi := 99) (by decide) (by decide) (by decide)
  have d1 : dg t n (true, 1) 3 8 = (rN t n 3 8 1 0 1).1 ∧ dv t n (true, 1) 3 8 = if (rN t n 3 8 1 0 1).1.1 = true then nI (rN t n 3 8 1 0 1).2 else nI 3 := dg_r (lo := 3) (hi := 8) (by decide) (by decide)
  have d2 : ∀ q, tw t n (true, q) 1 99 = (rN t n 1 99 2 0 q).1 ∧ ((rN t n 1 99 2 0 q).1.1 = true → tv t n (true, q) 1 99 = nI (rN t n 1 99 2 0 q).2) := fun q => tw_r (lo := 1) (hi := 99) (by decide) (by decide)
  unfold hd2 hdL hd1 hdB
  by_cases hF : nxtP t n 0 70
  · have h0 : hd0 t n = (true, 1) := by unfold hd0; rw [decide_eq_true hF]; rfl
    rw [h0, d1.1, d1.2, rch, if_pos (show crV t n 0 = 70 by rw [crV, if_pos hF.1]; exact hF.2), e1]
    by_cases h : (rN t n 3 8 1 0 1).1.1 = true
    · obtain ⟨b3, b8⟩ := rN_v (Or.inr (by decide)) h
      obtain ⟨l1, m1, s1⟩ := rN_le (t := t) (n := n) (lo := 3) (hi := 8) (m := 1) (r := 0) (q := 1)
      obtain ⟨p9, hp9⟩ : ∃ p9, (rN t n 3 8 1 0 1).1.2 = p9 := ⟨_, rfl⟩
      rw [if_pos h, if_pos h, bp h, hp9]
      dsimp only
      rw [if_neg (show ¬ nI (rN t n 3 8 1 0 1).2 = -9 from oI_ne (by omega)), e2 p9, (d2 p9).1, nd (rN_2 (by decide) (by decide))]
      obtain ⟨l2, m2, s2⟩ := rN_le (t := t) (n := n) (lo := 1) (hi := 99) (m := 2) (r := 0) (q := p9)
      refine ⟨rfl, fun y => ⟨m2 (by rw [← hp9]; exact m1 hF.1), _, _, ?_, rfl, (d2 p9).2 y, b3, b8, rN_v (Or.inr (by decide)) y⟩⟩
      rw [if_pos y]
    · rw [if_neg h]
      dsimp only
      rw [if_pos rfl, tw_f h]
      exact ⟨rfl, fun y => ft y⟩
  · have h0 : hd0 t n = (false, 0) := by unfold hd0; rw [decide_eq_false hF]; rfl
    have hc : ¬ crV t n 0 = 70 := fun y => by
      have hn := crV_is y (by decide)
      rw [crV, if_pos hn] at y
      exact hF ⟨hn, y⟩
    rw [h0, dg_f (fun y => ft y), tw_f (fun y => ft y), rch, if_neg hc]
    exact ⟨rfl, fun y => ft y⟩
theorem fe_rt : ∀ {m : Nat} {p : Bool × Nat}, (p.1 = true → n ≤ p.2 + m) → rt t n (m + 1) p = some (feL t n m p)
  | 0, p, h => by
    rw [rt, if_neg (fun y => by have := h y.1; omega)]
    rfl
  | m + 1, p, h => by
    rw [rt, feL]
    by_cases c : p.1 = true ∧ p.2 < n
    · rw [if_pos c, if_pos c]
      obtain ⟨g1, g2⟩ := cmd_r (t := t) c.2 0 0
      rw [g1, ← bp c.1]
      refine fe_rt (fun y => ?_)
      have := g2 (by rw [← bp c.1]; exact y)
      rw [← bp c.1] at this
      have := h c.1
      omega
    · rw [if_neg c, if_neg c]
theorem fe_R (hn : n ≤ 90) : rt t n 91 (hd2 t n) = some (feR t n) := by
  rw [feR, (hd_r (t := t) (n := n) 0 0).1]
  exact fe_rt (fun _ => by omega)
theorem feV_rtV (s : Bool × Nat) : feV s = rtV s := rfl
theorem feL_t : ∀ {m : Nat} {s : Bool × Nat}, (feL t n m s).1 = true → s.1 = true
  | 0, s, h => h
  | m + 1, s, h => by
    rw [feL] at h
    split at h
    · rename_i c; exact c.1
    · exact h
theorem ld_chip' (hn : n ≤ 90) (h : feV (feR t n) = -9) (bl lf : Int32) : rch t n bl lf = ((true, chQ t n), (nI (chB t n), nI (chL t n))) ∧ 3 ≤ chB t n ∧ chB t n ≤ 8 ∧ 1 ≤ chL t n ∧ chL t n ≤ 99 ∧ chQ t n ≤ n ∧ feL t n 90 (true, chQ t n) = feR t n := by
  have ht := fe_true h hn
  have h0 := feL_t (m := 90) (s := (rch t n 0 0).1) ht
  obtain ⟨a1, a2⟩ := hd_r (t := t) (n := n) 0 0
  obtain ⟨b1, b2⟩ := hd_r (t := t) (n := n) bl lf
  rw [a1] at h0
  obtain ⟨p1, B, L, e1, e2, e3, e4, e5, e6, e7⟩ := a2 h0
  obtain ⟨-, B2, L2, f1, f2, f3, -⟩ := b2 h0
  have eB : chB t n = B := by unfold chB; rw [e1]; exact nI_clamp (by omega)
  have eL : chL t n = L := by unfold chL; rw [e1]; exact nI_clamp (by omega)
  have eQ : chQ t n = (hd2 t n).2 := by unfold chQ; rw [a1]
  have eQ2 : (true, chQ t n) = hd2 t n := by rw [eQ]; exact (bp h0).symm
  refine ⟨?_, by rw [eB]; exact e4, by rw [eB]; exact e5, by rw [eL]; exact e6, by rw [eL]; exact e7, by rw [eQ]; exact p1, ?_⟩
  · rw [eQ2, eB, eL, ← e2, ← e3, f2, f3, ← b1, ← f1]
  · rw [eQ2, feR, a1]
theorem rcF_2 {ky nu ky2 nu2 : Int32} (h : (rcF t n q ky nu).1.1 = true) : rcF t n q ky nu = rcF t n q ky2 nu2 := by
  unfold rcF at h ⊢
  by_cases c : coF (crV t n q) = -9
  · rw [if_pos c] at h
    exact ft h
  · rw [if_neg c, if_neg c]
theorem ld_cmd0 {m : Nat} (h : (feL t n (m + 1) (true, q)).1 = true) (hq : q < n) : (cm t n (true, q)).1 = true ∧ feL t n m (cm t n (true, q)) = feL t n (m + 1) (true, q) := by
  have e : feL t n (m + 1) (true, q) = feL t n m (cm t n (true, q)) := by
    rw [feL, if_pos ⟨rfl, hq⟩]
    dsimp only
    rw [(cmd_r (t := t) hq 0 0).1]
  rw [e] at h
  exact ⟨feL_t h, e.symm⟩
theorem rc_at (hq : q < n) (hc : (cm t n (true, q)).1 = true) : ∃ c k x : Nat, rcC t n q = c ∧ rcK t n q = k ∧ rcX t n q = nI x ∧ rcQ t n q = (cm t n (true, q)).2 ∧ (∀ ky nu, rcF t n q ky nu = (cm t n (true, q), (nI c, nI k, nI x))) ∧ 1 ≤ c ∧ c ≤ 9 ∧ k < 16 ∧ x ≤ 999 ∧ CR t n q c k x := by
  obtain ⟨a1, a2⟩ := cmd_r (t := t) hq 0 0
  obtain ⟨p1, p2, c, k, x, e, c1, c9, k16, x9, hC⟩ := a2 hc
  refine ⟨c, k, x, ?_, ?_, ?_, ?_, fun ky nu => ?_, c1, c9, k16, x9, hC⟩
  · unfold rcC; rw [e]; exact nI_clamp (by omega)
  · unfold rcK; rw [e]; exact nI_clamp (by omega)
  · unfold rcX; rw [e]
  · unfold rcQ; rw [a1]
  · rw [← rcF_2 (ky := 0) (nu := 0) (ky2 := ky) (nu2 := nu) (by rw [a1]; exact hc), ← a1, ← e]
theorem ld_cmd' {m : Nat} (h : (feL t n (m + 1) (true, q)).1 = true) (hq : q < n) (ky nu : Int32) : rcF t n q ky nu = ((true, rcQ t n q), (nI (rcC t n q), nI (rcK t n q), rcX t n q)) ∧ 1 ≤ rcC t n q ∧ rcC t n q ≤ 9 ∧ rcK t n q < 16 ∧ (rcC t n q = 1 → ¬ rcX t n q = -9) ∧ (rcC t n q = 4 ∨ rcC t n q = 9 → ∃ j : Nat, j ≤ 99 ∧ rcX t n q = nI j) ∧ rcQ t n q ≤ n ∧ feL t n m (true, rcQ t n q) = feL t n (m + 1) (true, q) := by
  obtain ⟨hc, hf⟩ := ld_cmd0 h hq
  obtain ⟨c, k, x, e1, e2, e3, e4, e5, c1, c9, k16, x9, hC⟩ := rc_at hq hc
  have eQ : (true, rcQ t n q) = cm t n (true, q) := by rw [e4]; exact (bp hc).symm
  rw [eQ, e1, e2, e3, e4]
  refine ⟨e5 ky nu, c1, c9, k16, fun _ => oI_ne (a := x) (by omega), fun y => ⟨x, ?_, rfl⟩, cm_le (by show q ≤ n; omega), hf⟩
  rcases hC with ⟨-, d, -⟩ | ⟨-, d, -⟩ | ⟨-, d, -, d2⟩ | ⟨-, d, -, d2⟩ | ⟨-, d⟩ | ⟨-, d⟩ <;> omega
-- what a command does
theorem cx_ok {z : LgS} {f : Nat → Int32} (h : Rz z f) (hq : q < n) {c k x : Nat} (hk : k < 16) (hx : x ≤ 999) (hC : CR t n q c k x) : (cmX t n (true, q) f z.1.2 ↔ ¬ pfP z c k (nI x)) ∧ Rz (pfZ z c k (nI x)) (cmR t n (true, q) f z.1.2) ∧ (pfZ z c k (nI x)).1.2 = z.1.2 := by
  have nx : ∀ c, nxtP t n (true, q).2 c ↔ t q = c := fun c => ⟨fun y => y.2, fun y => ⟨hq, y⟩⟩
  have yes : ∀ {c}, t q = c → nxtP t n (true, q).2 c := fun y => (nx _).mpr y
  have no : ∀ {c d}, t q = c → ¬ c = d → ¬ nxtP t n (true, q).2 d := fun y ne z => ne (y.symm.trans ((nx _).mp z))
  rcases hC with ⟨e, rfl, e1, e2⟩ | ⟨e, rfl, e1, e2⟩ | ⟨e, rfl, e1, e2⟩ | ⟨e, rfl, e1, e2⟩ | ⟨e, rfl⟩ | ⟨e, rfl⟩
  · obtain ⟨q1, q2, q3⟩ := pf_put h hk (n := nI x) (oI_ne (a := x) (by omega))
    have r1 : cmX t n (true, q) f z.1.2 ↔ ¬ rmP f z.1.2 := by unfold cmX; rw [if_pos (yes e)]
    have r2 : cmR t n (true, q) f z.1.2 = dPut f z.1.2 (nI k) (nI x) := by unfold cmR; rw [if_pos (yes e), e1, e2]
    rw [r1, r2]
    exact ⟨not_congr q1.symm, q2, q3⟩
  · obtain ⟨q1, q2, q3⟩ := pf_rem h hk (n := nI x)
    have r1 : cmX t n (true, q) f z.1.2 ↔ ¬ dRmP f z.1.2 (nI k) := by unfold cmX; rw [if_neg (no e (by decide)), if_pos (yes e), e1]
    have r2 : cmR t n (true, q) f z.1.2 = dRem f z.1.2 (nI k) := by unfold cmR; rw [if_neg (no e (by decide)), if_pos (yes e), e1]
    rw [r1, r2]
    exact ⟨not_congr q1.symm, q2, q3⟩
  · obtain ⟨q1, q2, q3⟩ := pf_cut h (k := k) (j := x) e2
    have r1 : cmX t n (true, q) f z.1.2 ↔ f 2 = 0 := by unfold cmX; rw [if_neg (no e (by decide)), if_neg (no e (by decide)), if_pos (yes e)]
    have r2 : cmR t n (true, q) f z.1.2 = dCut f (nI x) := by unfold cmR; rw [if_neg (no e (by decide)), if_neg (no e (by decide)), if_pos (yes e), e1]
    rw [r1, r2]
    exact ⟨⟨fun y z => q1.mp z y, fun y => Classical.byContradiction (fun z => y (q1.mpr z))⟩, q2, q3⟩
  · obtain ⟨q1, q2, q3⟩ := pf_pol h (c := 9) (k := k) (j := x) (by decide) (by omega)
    have r1 : cmX t n (true, q) f z.1.2 ↔ False := by unfold cmX; rw [if_neg (no e (by decide)), if_neg (no e (by decide)), if_neg (no e (by decide)), if_pos (yes e)]
    have r2 : cmR t n (true, q) f z.1.2 = upd f 6 (nI x) := by unfold cmR; rw [if_neg (no e (by decide)), if_neg (no e (by decide)), if_neg (no e (by decide)), if_pos (yes e), e1]
    rw [if_pos e2] at q2
    rw [r1, r2]
    exact ⟨⟨fun y => absurd y id, fun y => y (q1.mpr e2)⟩, q2, q3⟩
  · obtain ⟨q1, q2, q3⟩ := pf_swp h (k := k) (n := nI x)
    have r1 : cmX t n (true, q) f z.1.2 ↔ (swpT f z.1.2).1 = -9 := by unfold cmX; rw [if_neg (no e (by decide)), if_neg (no e (by decide)), if_neg (no e (by decide)), if_neg (no e (by decide)), if_pos (yes e)]
    have r2 : cmR t n (true, q) f z.1.2 = (swpT f z.1.2).2 := by unfold cmR; rw [if_neg (no e (by decide)), if_neg (no e (by decide)), if_neg (no e (by decide)), if_neg (no e (by decide)), if_pos (yes e)]
    rw [r1, r2]
    exact ⟨⟨fun y z => q1.mp z y, fun y => Classical.byContradiction (fun z => y (q1.mpr z))⟩, q2, q3⟩
  · obtain ⟨q1, q2, q3⟩ := pf_sta h (k := k) (n := nI x)
    have r1 : cmX t n (true, q) f z.1.2 ↔ f 2 = 1 := by unfold cmX; rw [if_neg (no e (by decide)), if_neg (no e (by decide)), if_neg (no e (by decide)), if_neg (no e (by decide)), if_neg (no e (by decide))]
    have r2 : cmR t n (true, q) f z.1.2 = dSta f z.1.2 := by unfold cmR; rw [if_neg (no e (by decide)), if_neg (no e (by decide)), if_neg (no e (by decide)), if_neg (no e (by decide)), if_neg (no e (by decide))]
    rw [r1, r2]
    exact ⟨⟨fun y z => q1.mp z y, fun y => Classical.byContradiction (fun z => y (q1.mpr z))⟩, q2, q3⟩
theorem ld_ok : ∀ {m q : Nat} {z : LgS} {f : Nat → Int32} {l : Nat}, Rz z f → (feL t n m (true, q)).1 = true → n ≤ q + m → ∃ f9, Rz (ldz t n m q z l).1 f9 ∧ (ldz t n m q z l).1.1.2 = z.1.2 ∧ ldL t n z.1.2 f9 (ldz t n m q z l).2 (m + 1) (true, q) f l
  | 0, q, z, f, l, h, hf, hn => by
    refine ⟨f, h, rfl, ?_⟩
    rw [ldL, if_neg (by show ¬ q < n; omega)]
    exact ⟨rfl, rfl⟩
  | m + 1, q, z, f, l, h, hf, hn => by
    rw [ldz]
    by_cases hq : q < n
    · obtain ⟨hc, hf2⟩ := ld_cmd0 hf hq
      obtain ⟨c, k, x, e1, e2, e3, e4, e5, c1, c9, k16, x9, hC⟩ := rc_at hq hc
      obtain ⟨x1, x2, x3⟩ := cx_ok h hq k16 x9 hC
      have hp := ((cmd_r (t := t) hq 0 0).2 hc).1
      rw [if_pos hq, e1, e2, e3, e4]
      have hb := bp hc
      have hl : (if pfP z c k (nI x) then l else l + 1) = l + if cmX t n (true, q) f z.1.2 then 1 else 0 := by
        by_cases y : pfP z c k (nI x)
        · rw [if_pos y, if_neg (fun w => x1.mp w y)]; rfl
        · rw [if_neg y, if_pos (x1.mpr y)]
      rw [hb] at hf2
      obtain ⟨f9, g1, g2, g3⟩ := ld_ok (m := m) (q := (cm t n (true, q)).2) (l := l + if cmX t n (true, q) f z.1.2 then 1 else 0) x2 (by rw [hf2]; exact hf) (by omega)
      rw [hl]
      refine ⟨f9, g1, g2.trans x3, ?_⟩
      rw [ldL, if_pos (show (true, q).2 < n from hq)]
      rw [x3, ← hb] at g3
      exact ⟨rz_ok h, cm_le (by show q ≤ n; omega), g3⟩
    · rw [if_neg hq]
      refine ⟨f, h, rfl, ?_⟩
      rw [ldL, if_neg hq]
      exact ⟨rfl, rfl⟩
/-- load, where there is no error -/
theorem ld_all (hn : n ≤ 90) (h : feV (feR t n) = -9) {z : LgS} : ∃ f9, Rz (ldR t n z).1 f9 ∧ (ldR t n z).1.1.2 = chB t n ∧ hdB t n = nI (chB t n) ∧ ldL t n (chB t n) f9 (ldR t n z).2 91 (hd2 t n) (clR (hdB t n) (hdL t n)) 0 := by
  obtain ⟨a1, a2, a3, a4, a5, a6, a7⟩ := ld_chip' hn h 0 0
  have ht := fe_true h hn
  obtain ⟨b1, b2⟩ := hd_r (t := t) (n := n) 0 0
  have e1 : hd2 t n = (true, chQ t n) := by rw [← b1, a1]
  obtain ⟨-, B, L, f1, f2, f3, f4, f5, f6, f7⟩ := b2 (by rw [e1])
  rw [a1] at f1
  have g1 : nI (chB t n) = nI B := congrArg Prod.fst f1
  have g2 : nI (chL t n) = nI L := congrArg Prod.snd f1
  rw [f2, f3, ← g1, ← g2, e1, ldR]
  have hz := rz_zNew (B := chB t n) (x := chL t n) (z := z) a2 a3 a4 a5
  obtain ⟨f9, k1, k2, k3⟩ := ld_ok (t := t) (n := n) (m := 90) (q := chQ t n) (l := 0) hz (by rw [a7]; exact ht) (by omega)
  exact ⟨f9, k1, k2, rfl, k3⟩
end P18
