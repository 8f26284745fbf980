-- THE PURE PART: refusals and answers that ask for room; scripts, simulations
section P15
variable {z : LgS} {f : Nat → Int32}
theorem ite_not {α : Type} {P Q : Prop} [Decidable P] [Decidable Q] (h : P ↔ ¬ Q) {a b : α} : (if P then a else b) = if Q then b else a := by
  by_cases p : P
  · rw [if_pos p, if_neg (h.mp p)]
  · rw [if_neg p, if_pos (Classical.byContradiction (fun q => p (h.mpr q)))]
theorem r_put (h : Rz z f) {x v : Int32} : c6put z x v = putR f z.1.2 x v := by
  unfold c6put putR
  rw [ite_iff (and_congr key_iff val_iff), ite_not (cs_0 h)]
theorem r_rem (h : Rz z f) {x : Int32} : c6rem z x = remR f z.1.2 x := by
  unfold c6rem remR
  by_cases hx : inN x 16
  · obtain ⟨k, hk, e, -⟩ := key_n hx
    rw [if_pos hx, if_pos (key_iff.mp hx)]
    refine ite_not ?_
    rw [e, rz_va h hk, cs_0 h]
    by_cases a : vlu f (nI k) z.1.2 = -9 <;> by_cases b : rmP f z.1.2 <;> simp [a, b]
  · rw [if_neg hx, if_neg (fun y => hx (key_iff.mpr y))]
theorem r_ops (h : Rz z f) : c6ops z = opsR f z.1.2 := by
  unfold c6ops opsR
  exact ite_not (cs_0 h)
theorem r_afc (h : Rz z f) {x v w : Int32} : c6afc z x v w = afcR f z.1.2 x v w := by
  unfold c6afc afcR
  rw [ite_iff (and_congr key_iff (and_congr val_iff (ge_le1 (x := w) (a := 99)))), ite_not (cs_0 h)]
theorem r_und {ct : Nat} : c6und ct = undR ct := rfl
/-- what store answers where there is room -/
theorem st_val (h : Rz z f) (hc : 0 < csV z) {k : Nat} (hk : k < 16) {x : Int32} (hx : okX z k x) : (stT k x z).1 = (recT z.1.2 (nI k) x f).1 ∧ Rz (stT k x z).2 (recT z.1.2 (nI k) x f).2 ∧ (stT k x z).2.1.2 = z.1.2 := by
  obtain ⟨-, -, h2, h3, h4⟩ := st_T h (cs_on hc) hk hx
  refine ⟨?_, h2, h3.1⟩
  rcases h4 with ⟨y, -⟩ | ⟨y1, y2, -⟩ | ⟨p, -, y1, y2, -⟩
  · exact absurd y (cs_st hc)
  · rw [y1, y2]
  · rw [y1, y2]
theorem a_why (h : Rz z f) : wnV z = rsn f z.1.2 (lookT z.1.2 f).1 := by
  unfold wnV rsn
  by_cases hon : z.1.1 = true
  · rw [if_pos hon, if_neg (fun y => (rz_off h).mp y hon)]
    have h2 := (rz_on h).mpr hon
    have e : 0 < csV z ↔ ¬ (lookT z.1.2 f).1 < 0 := (cs_rm h).trans ⟨fun y => y.2, fun y => ⟨h2, y⟩⟩
    rw [ite_iff e, ite_iff (rz_hs h (inv_B h.1))]
  · rw [if_neg hon, if_pos ((rz_off h).mpr hon)]
theorem va_sw {x : Int32} : vaZ (zSw z) x = vaZ z x := by
  rw [zSw]
  split <;> rfl
theorem a_afc (h : Rz z f) (hc : 0 < csV z) {k n : Nat} (hk : k < 16) (hn : n ≤ 99) {v : Int32} (hv : ¬ v = -9) : vaZ (afZ z k v n) (nI k) = vlu (recT z.1.2 (nI k) v (upd f 5 (nI n))).2 (nI k) z.1.2 := by
  have hz := rz_zC h hn
  obtain ⟨-, -, h2, h3, -⟩ := st_T hz (show (zC z (nI n)).1.1 = true from cs_on (z := z) hc) hk (x := v) (Or.inl hv)
  rw [afZ, va_sw, rz_va h2 hk, show (stT k v (zC z (nI n))).2.1.2 = z.1.2 from h3.1]
  rfl
theorem ok_afc (h : Rz z f) {n : Int32} (hn : 1 ≤ n ∧ n ≤ 99) : Ok (upd f 5 n) z.1.2 := by
  obtain ⟨e, h1, h2⟩ := n_one (x := n) (Int32.not_lt.mpr hn.1) (Int32.not_lt.mpr hn.2)
  have hz : Rz (zC z (nI n.toNatClampNeg)) (upd f 5 (nI n.toNatClampNeg)) := rz_zC h h2
  have ho : Ok (upd f 5 (nI n.toNatClampNeg)) (zC z (nI n.toNatClampNeg)).1.2 := rz_ok hz
  rw [← e] at ho
  exact ho
theorem a_lasts {k : Nat} (hk : k < 16) : ∀ {d j : Nat} {z : LgS} {g : Nat → Int32}, j + d = 300 → Rz z g → z.1.1 = true → z.2.1 1 = 0 → lsL z.1.2 (nI k) (j + laZ k d z) (d + 1) g j
  | 0, j, z, g, hj, h, hon, hc => by
    rw [lsL, if_neg (fun y => by have := y.1; omega)]
    rfl
  | d + 1, j, z, g, hj, h, hon, hc => by
    rw [lsL, if_pos ⟨by omega, (rz_on h).mpr hon⟩]
    obtain ⟨-, -, h2, h3, h4⟩ := st_T h hon hk (x := 0) (Or.inl (by decide))
    refine ⟨rz_ok h, ?_⟩
    rcases h4 with ⟨y1, y2⟩ | ⟨-, -, y⟩ | ⟨p, hp, y1, y2, -⟩
    · rw [if_neg (fun y => y (by rw [y2]; decide)), laZ, if_pos y1]
      rfl
    · exact absurd hc y
    · rw [if_pos (by rw [y2]; exact nI_pos (by omega)), laZ, if_neg (by rw [y1]; exact oI_ne (a := p) (by omega))]
      obtain ⟨c1, c2⟩ := h3.2.2.1 hc
      have := a_lasts hk (d := d) (j := j + 1) (by omega) h2 (c2.trans hon) c1
      rw [h3.1] at this
      rw [show j + (1 + laZ k d (stT k 0 z).2) = j + 1 + laZ k d (stT k 0 z).2 by omega]
      exact this
theorem a_last (h : Rz z f) {k : Nat} (hk : k < 16) : ∃ la, laV z k = nI la ∧ lsL z.1.2 (nI k) la 301 (upd f 5 0) 0 := by
  by_cases hon : z.1.1 = true
  · have hz : Rz (zC z 0) (upd f 5 0) := rz_zC h (j := 0) (by decide)
    refine ⟨laZ k 300 (zC z 0), if_pos hon, ?_⟩
    have := a_lasts hk (d := 300) (j := 0) rfl hz hon rfl
    rw [Nat.zero_add] at this
    exact this
  · refine ⟨0, if_neg hon, ?_⟩
    rw [lsL, if_neg]
    intro y
    have := y.2
    rw [pk_un (by decide), rz_on h] at this
    exact hon this
-- scripts
theorem ds_1 {B g : Nat} (h : g / 1000 = 1) : (dsP f B g ↔ (rmP f B)) ∧ (icmP g ↔ (True)) ∧ dsR f B g = (dPut f B (nI (da g)) (nI (bo g))) := by
  refine ⟨?_, ?_, ?_⟩
  · unfold dsP; rw [if_pos h]
  · unfold icmP; rw [if_pos h]
  · unfold dsR; rw [if_pos h]
theorem ds_2 {B g : Nat} (h : g / 1000 = 2) : (dsP f B g ↔ (bo g = 0 ∧ dRmP f B (nI (da g)))) ∧ (icmP g ↔ (g % 100 = 0)) ∧ dsR f B g = (if bo g = 0 then dRem f B (nI (da g)) else f) := by
  refine ⟨?_, ?_, ?_⟩
  · unfold dsP; rw [if_neg (by omega), if_pos h]
  · unfold icmP; rw [if_neg (by omega), if_pos h]
  · unfold dsR; rw [if_neg (by omega), if_pos h]
theorem ds_3 {B g : Nat} (h : g / 1000 = 3) : (dsP f B g ↔ ((da g = 0 ∧ bo g = 0) ∧ ¬ (swpT f B).1 = -9)) ∧ (icmP g ↔ (g % 1000 = 0)) ∧ dsR f B g = (if da g = 0 ∧ bo g = 0 then (swpT f B).2 else f) := by
  refine ⟨?_, ?_, ?_⟩
  · unfold dsP; rw [if_neg (by omega), if_neg (by omega), if_pos h]
  · unfold icmP; rw [if_neg (by omega), if_neg (by omega), if_pos h]
  · unfold dsR; rw [if_neg (by omega), if_neg (by omega), if_pos h]
theorem ds_4 {B g : Nat} (h : g / 1000 = 4) : (dsP f B g ↔ (da g = 0 ∧ ¬ f 2 = 0)) ∧ (icmP g ↔ (g / 100 % 10 = 0)) ∧ dsR f B g = (if da g = 0 then dCut f (nI (bo g)) else f) := by
  refine ⟨?_, ?_, ?_⟩
  · unfold dsP; rw [if_neg (by omega), if_neg (by omega), if_neg (by omega), if_pos h]
  · unfold icmP; rw [if_neg (by omega), if_neg (by omega), if_neg (by omega), if_pos h]
  · unfold dsR; rw [if_neg (by omega), if_neg (by omega), if_neg (by omega), if_pos h]
theorem ds_5 {B g : Nat} (h : g / 1000 = 5) : (dsP f B g ↔ ((da g = 0 ∧ bo g = 0) ∧ ¬ f 2 = 1)) ∧ (icmP g ↔ (g % 1000 = 0)) ∧ dsR f B g = (if da g = 0 ∧ bo g = 0 then dSta f B else f) := by
  refine ⟨?_, ?_, ?_⟩
  · unfold dsP; rw [if_neg (by omega), if_neg (by omega), if_neg (by omega), if_neg (by omega), if_pos h]
  · unfold icmP; rw [if_neg (by omega), if_neg (by omega), if_neg (by omega), if_neg (by omega), if_pos h]
  · unfold dsR; rw [if_neg (by omega), if_neg (by omega), if_neg (by omega), if_neg (by omega), if_pos h]
theorem ds_6 {B g : Nat} (h : g / 1000 = 6) : (dsP f B g ↔ (f 2 = 1 ∧ vlu f (nI (da g)) B = nI (bo g))) ∧ (icmP g ↔ (True)) ∧ dsR f B g = (f) := by
  refine ⟨?_, ?_, ?_⟩
  · unfold dsP; rw [if_neg (by omega), if_neg (by omega), if_neg (by omega), if_neg (by omega), if_neg (by omega), if_pos h]
  · unfold icmP; rw [if_neg (by omega), if_neg (by omega), if_neg (by omega), if_neg (by omega), if_neg (by omega), if_pos h]
  · unfold dsR; rw [if_neg (by omega), if_neg (by omega), if_neg (by omega), if_neg (by omega), if_neg (by omega), if_neg (by omega)]
theorem ds_7 {B g : Nat} (h : g / 1000 = 7) : (dsP f B g ↔ (da g < B ∧ ¬ nI (bo g) < f (15 + da g))) ∧ (icmP g ↔ (True)) ∧ dsR f B g = (f) := by
  refine ⟨?_, ?_, ?_⟩
  · unfold dsP; rw [if_neg (by omega), if_neg (by omega), if_neg (by omega), if_neg (by omega), if_neg (by omega), if_neg (by omega), if_pos h]
  · unfold icmP; rw [if_neg (by omega), if_neg (by omega), if_neg (by omega), if_neg (by omega), if_neg (by omega), if_neg (by omega), if_pos h]
  · unfold dsR; rw [if_neg (by omega), if_neg (by omega), if_neg (by omega), if_neg (by omega), if_neg (by omega), if_neg (by omega)]
theorem ds_8 {B g : Nat} (h : g / 1000 = 8) : (dsP f B g ↔ ((da g = 0 ∧ g / 10 % 10 = 0) ∧ g % 10 ≤ cln f B)) ∧ (icmP g ↔ (g / 10 % 100 = 0)) ∧ dsR f B g = (f) := by
  refine ⟨?_, ?_, ?_⟩
  · unfold dsP; rw [if_neg (by omega), if_neg (by omega), if_neg (by omega), if_neg (by omega), if_neg (by omega), if_neg (by omega), if_neg (by omega), if_pos h]
  · unfold icmP; rw [if_neg (by omega), if_neg (by omega), if_neg (by omega), if_neg (by omega), if_neg (by omega), if_neg (by omega), if_neg (by omega), if_pos h]
  · unfold dsR; rw [if_neg (by omega), if_neg (by omega), if_neg (by omega), if_neg (by omega), if_neg (by omega), if_neg (by omega)]
theorem ds_9 {B g : Nat} (h : g / 1000 = 9) : (dsP f B g ↔ (da g = 0 ∧ bo g ≤ 2)) ∧ (icmP g ↔ (g / 10 % 100 = 0)) ∧ dsR f B g = (if da g = 0 ∧ bo g ≤ 2 then upd f 6 (nI (bo g)) else f) := by
  refine ⟨?_, ?_, ?_⟩
  · unfold dsP; rw [if_neg (by omega), if_neg (by omega), if_neg (by omega), if_neg (by omega), if_neg (by omega), if_neg (by omega), if_neg (by omega), if_neg (by omega), if_pos h]
  · unfold icmP; rw [if_neg (by omega), if_neg (by omega), if_neg (by omega), if_neg (by omega), if_neg (by omega), if_neg (by omega), if_neg (by omega), if_neg (by omega), if_pos h]
  · unfold dsR; rw [if_neg (by omega), if_neg (by omega), if_neg (by omega), if_neg (by omega), if_neg (by omega), if_pos h]
theorem ds_0 {B g : Nat} (h : g / 1000 = 0) : ¬ dsP f B g ∧ ¬ icmP g := by
  refine ⟨?_, ?_⟩
  · unfold dsP; rw [if_neg (by omega), if_neg (by omega), if_neg (by omega), if_neg (by omega), if_neg (by omega), if_neg (by omega), if_neg (by omega), if_neg (by omega), if_neg (by omega)]; exact id
  · unfold icmP; rw [if_neg (by omega), if_neg (by omega), if_neg (by omega), if_neg (by omega), if_neg (by omega), if_neg (by omega), if_neg (by omega), if_neg (by omega), if_neg (by omega)]; exact id
theorem bo_e (g : Nat) : bo g = g % 100 := by unfold bo; omega
theorem ds_ok (h : Rz z f) {g : Nat} (hg : g < 10000) : (dsP f z.1.2 g ↔ (icmP g ∧ pfP z (g / 1000) (g / 100 % 10) (nI (g % 100)))) ∧ (dsP f z.1.2 g → Rz (pfZ z (g / 1000) (g / 100 % 10) (nI (g % 100))) (dsR f z.1.2 g) ∧ (pfZ z (g / 1000) (g / 100 % 10) (nI (g % 100))).1.2 = z.1.2) := by
  have hb := bo_e g
  have hd : da g = g / 100 % 10 := rfl
  have hk : g / 100 % 10 < 16 := by omega
  have hn : ¬ nI (g % 100) = -9 := oI_ne (a := g % 100) (by omega)
  have hc : g / 1000 = 0 ∨ g / 1000 = 1 ∨ g / 1000 = 2 ∨ g / 1000 = 3 ∨ g / 1000 = 4 ∨ g / 1000 = 5 ∨ g / 1000 = 6 ∨ g / 1000 = 7 ∨ g / 1000 = 8 ∨ g / 1000 = 9 := by omega
  rcases hc with c | c | c | c | c | c | c | c | c | c
  · obtain ⟨e1, e2⟩ := ds_0 (f := f) (B := z.1.2) c
    exact ⟨⟨fun y => absurd y e1, fun y => absurd y.1 e2⟩, fun y => absurd y e1⟩
  · obtain ⟨e1, e2, e3⟩ := ds_1 (f := f) (B := z.1.2) c
    obtain ⟨q1, q2, q3⟩ := pf_put h hk hn
    rw [e1, e2, e3, c, hd, hb]
    exact ⟨⟨fun y => ⟨trivial, q1.mpr y⟩, fun y => q1.mp y.2⟩, fun _ => ⟨q2, q3⟩⟩
  · obtain ⟨e1, e2, e3⟩ := ds_2 (f := f) (B := z.1.2) c
    obtain ⟨q1, q2, q3⟩ := pf_rem h hk (n := nI (g % 100))
    rw [e1, e2, e3, c, hd, hb]
    exact ⟨⟨fun y => ⟨y.1, q1.mpr y.2⟩, fun y => ⟨y.1, q1.mp y.2⟩⟩, fun y => ⟨by rw [if_pos y.1]; exact q2, q3⟩⟩
  · obtain ⟨e1, e2, e3⟩ := ds_3 (f := f) (B := z.1.2) c
    obtain ⟨q1, q2, q3⟩ := pf_swp h (k := g / 100 % 10) (n := nI (g % 100))
    rw [e1, e2, e3, c, hd, hb]
    exact ⟨⟨fun y => ⟨by have := y.1; omega, q1.mpr y.2⟩, fun y => ⟨by have := y.1; omega, q1.mp y.2⟩⟩, fun y => ⟨by rw [if_pos y.1]; exact q2, q3⟩⟩
  · obtain ⟨e1, e2, e3⟩ := ds_4 (f := f) (B := z.1.2) c
    obtain ⟨q1, q2, q3⟩ := pf_cut h (k := g / 100 % 10) (j := g % 100) (by omega)
    rw [e1, e2, e3, c, hd, hb]
    exact ⟨⟨fun y => ⟨y.1, q1.mpr y.2⟩, fun y => ⟨y.1, q1.mp y.2⟩⟩, fun y => ⟨by rw [if_pos y.1]; exact q2, q3⟩⟩
  · obtain ⟨e1, e2, e3⟩ := ds_5 (f := f) (B := z.1.2) c
    obtain ⟨q1, q2, q3⟩ := pf_sta h (k := g / 100 % 10) (n := nI (g % 100))
    rw [e1, e2, e3, c, hd, hb]
    exact ⟨⟨fun y => ⟨by have := y.1; omega, q1.mpr y.2⟩, fun y => ⟨by have := y.1; omega, q1.mp y.2⟩⟩, fun y => ⟨by rw [if_pos y.1]; exact q2, q3⟩⟩
  · obtain ⟨e1, e2, e3⟩ := ds_6 (f := f) (B := z.1.2) c
    obtain ⟨q1, q2⟩ := pf_eq h hk (n := nI (g % 100))
    rw [e1, e2, e3, c, hd, hb, q2]
    exact ⟨⟨fun y => ⟨trivial, q1.mpr y⟩, fun y => q1.mp y.2⟩, fun _ => ⟨h, rfl⟩⟩
  · obtain ⟨e1, e2, e3⟩ := ds_7 (f := f) (B := z.1.2) c
    obtain ⟨q1, q2⟩ := pf_wear h hk (n := nI (g % 100))
    rw [e1, e2, e3, c, hd, hb, q2]
    exact ⟨⟨fun y => ⟨trivial, q1.mpr y⟩, fun y => q1.mp y.2⟩, fun _ => ⟨h, rfl⟩⟩
  · obtain ⟨e1, e2, e3⟩ := ds_8 (f := f) (B := z.1.2) c
    obtain ⟨q1, q2⟩ := pf_cl h (k := g / 100 % 10) (j := g % 100) (by omega)
    rw [e1, e2, e3, c, hd, q2]
    exact ⟨⟨fun y => ⟨by have := y.1; omega, q1.mpr (by have := y.1; have := y.2; omega)⟩, fun y => ⟨by have := y.1; omega, by have := y.1; have := q1.mp y.2; omega⟩⟩, fun _ => ⟨h, rfl⟩⟩
  · obtain ⟨e1, e2, e3⟩ := ds_9 (f := f) (B := z.1.2) c
    obtain ⟨q1, q2, q3⟩ := pf_pol h (c := 9) (k := g / 100 % 10) (j := g % 100) (by decide) (by omega)
    rw [e1, e2, e3, c, hd, hb]
    refine ⟨⟨fun y => ⟨by have := y.1; have := y.2; omega, q1.mpr y.2⟩, fun y => ⟨by have := y.1; omega, q1.mp y.2⟩⟩, fun y => ⟨?_, q3⟩⟩
    rw [if_pos y]
    rw [if_pos y.2] at q2
    exact q2
theorem grp_lt {n T j : Nat} : grp n T j < 10000 := Nat.mod_lt _ (by decide)
theorem sc_ok {nn T : Nat} : ∀ {d j : Nat} {z : LgS} {f : Nat → Int32}, j + d = nn → Rz z f → scL z.1.2 nn T (scZ nn T d j z) (d + 1) f j
  | 0, j, z, f, hj, h => by
    rw [scL, if_neg (by omega)]
    rfl
  | d + 1, j, z, f, hj, h => by
    obtain ⟨g1, g2⟩ := ds_ok h (g := grp nn T j) grp_lt
    rw [scL, if_pos (by omega)]
    refine ⟨rz_ok h, ?_⟩
    rw [scZ]
    by_cases c : dsP f z.1.2 (grp nn T j)
    · rw [if_pos c, if_pos (g1.mp c)]
      obtain ⟨g3, g4⟩ := g2 c
      have := sc_ok (nn := nn) (T := T) (d := d) (j := j + 1) (by omega) g3
      rw [g4] at this
      exact this
    · rw [if_neg c, if_neg (fun y => c (g1.mpr y))]
-- simulations
theorem rn_ok (h : Rz z f) (q : Nat) : Rz (rnZ z q) (rdR f z.1.2 q) ∧ (rnZ z q).1.2 = z.1.2 := by
  obtain ⟨u1, u2, u3⟩ := rz_rdU h
  unfold rnZ rdR
  by_cases c0 : q % 8 = 0
  · rw [if_pos c0, if_pos c0]
    have := pf_rem u1 (k := q / 8 % 16) (by omega) (n := 0)
    rw [u2] at this
    exact this.2
  · rw [if_neg c0, if_neg c0]
    by_cases c1 : q % 8 = 1
    · rw [if_pos c1, if_pos c1]
      have := pf_cut u1 (k := 0) (j := 1 + q / 8 % 20) (by omega)
      rw [u2, dCut, if_neg (fun y => (rz_off u1).mp y u3)] at this
      exact this.2
    · rw [if_neg c1, if_neg c1]
      have := pf_put u1 (k := q / 8 % 16) (by omega) (n := nI (q / 128 % 1000)) (oI_ne (a := q / 128 % 1000) (by omega))
      rw [u2] at this
      exact this.2
def rfS (B : Nat) (y : Int64 × (Nat → Int32)) : Int64 × (Nat → Int32) := (nxL y.1, rdR y.2 B (rnd (nxL y.1)))
def smF (B n : Nat) (x : Int64) (f : Nat → Int32) : Nat → Int32 := (itf (rfS B) n (x, f)).2
theorem sm_ok : ∀ {n : Nat} {x : Int64} {z : LgS} {f : Nat → Int32}, Rz z f → Rz (smZ n x z) (smF z.1.2 n x f) ∧ (smZ n x z).1.2 = z.1.2
  | 0, x, z, f, h => ⟨h, rfl⟩
  | n + 1, x, z, f, h => by
    obtain ⟨q, hq⟩ : ∃ q, rnd (nxL x) = q := ⟨_, rfl⟩
    obtain ⟨g1, g2⟩ := rn_ok h q
    have e1 : smZ (n + 1) x z = smZ n (nxL x) (rnZ z q) := by rw [smZ, itf_s, stp_e, hq]; rfl
    have e2 : smF z.1.2 (n + 1) x f = smF z.1.2 n (nxL x) (rdR f z.1.2 q) := by rw [smF, itf_s, rfS, hq]; rfl
    rw [e1, e2]
    have := sm_ok (n := n) (x := nxL x) g1
    rw [g2] at this
    exact this
theorem sm_L {M : Nat} : ∀ {d k : Nat} {x : Int64} {z : LgS} {f : Nat → Int32}, k + d = M → Rz z f → smL z.1.2 M (smF z.1.2 d x f) (d + 1) x f k
  | 0, k, x, z, f, hk, h => by
    rw [smL, if_neg (by omega)]
    rfl
  | d + 1, k, x, z, f, hk, h => by
    obtain ⟨q, hq⟩ : ∃ q, rnd (nxL x) = q := ⟨_, rfl⟩
    obtain ⟨g1, g2⟩ := rn_ok h q
    obtain ⟨u1, u2, u3⟩ := rz_rdU h
    have e2 : smF z.1.2 (d + 1) x f = smF z.1.2 d (nxL x) (rdR f z.1.2 q) := by rw [smF, itf_s, rfS, hq]; rfl
    rw [smL, if_pos (by omega), hq, e2]
    have o1 := rz_ok u1
    rw [u2] at o1
    refine ⟨rz_wf h, o1, ?_⟩
    have := sm_L (M := M) (d := d) (k := k + 1) (x := nxL x) (by omega) g1
    rw [g2] at this
    exact this
end P15
