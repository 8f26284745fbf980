-- PURE: WHAT follows() ASKS
def fS (a : AS) (z : LgS) (h : List LgS) : AS := (a.1, (z, (h, fun k => if k = 1 then some a.2.1 else a.2.2.2 k)))
theorem fS_go {a : AS} {z : LgS} {h : List LgS} (hn : a.1.2 ≤ 90) (hz : Inv z) : Go (fS a z h) := ⟨hn, hz⟩
theorem jl_1 {P : Prop} [Decidable P] (h : (bI P).toInt64 = 1) : P := Decidable.byContradiction fun y => by rw [bI_0 y] at h; exact absurd h (by decide)
theorem jl_n1 {P : Prop} [Decidable P] (h : ¬ (bI P).toInt64 = 1) : ¬ P := fun y => h (by rw [bI_1 y]; decide)
section PF9
variable {z : LgS} {a : AS}
theorem laZ_le {k : Nat} : ∀ {m : Nat} {z : LgS}, laZ k m z ≤ m
  | 0, z => Nat.le_refl _
  | m + 1, z => by
    rw [laZ]
    split
    · exact Nat.zero_le _
    · have := laZ_le (k := k) (m := m) (z := (stT k 0 z).2)
      omega
theorem la_room (h : Inv z) (hr : wnV z = 0) (k : Nat) : ∃ j, laV z k = nI j ∧ 1 ≤ j ∧ j ≤ 300 := by
  obtain ⟨hon, hc⟩ := wn_0 hr
  obtain ⟨d, d1, d2, d3, d4⟩ := cs_d h hc
  obtain ⟨w, z2, g1, g2, g3, -⟩ := d4 k 0
  refine ⟨laZ k 300 (zC z 0), by rw [laV, if_pos hon], ?_, laZ_le⟩
  rw [laZ, stT_eq g1, if_neg g3]
  omega
theorem la_none (h : Inv z) (hr : ¬ wnV z = 0) {k : Nat} (hk : k < 16) : laV z k = 0 := by
  by_cases hon : z.1.1 = true
  · have hc := wn_n h hr
    rw [csV, if_pos hon] at hc
    have hI0 : Inv (zC z 0) := inv_zC (c := 0) h (by decide)
    have hs := (inv_st (k := 0) (x := 0) hI0 hon (by decide) (Or.inl (by decide))).1
    have h9 : (stT 0 0 (zC z 0)).1 = -9 := by
      refine Decidable.byContradiction fun y => ?_
      rw [if_neg y] at hc
      obtain ⟨d, d1, d2, d3, -⟩ := zn_st hs (inv_B hI0) rfl y
      rw [d3] at hc
      have : z.2.1 5 + nI d - z.2.1 5 = nI d := by rw [Int32.add_comm, Int32.add_sub_cancel]
      have h2 : nI d = 0 := this.symm.trans hc
      have := cn_eq (a := d) (b := 0) (by omega) (by decide) h2
      omega
    rw [h9] at hs
    have := stT_eq (zc_st (k2 := k) (x2 := 0) hs)
    rw [zz_C] at this
    rw [laV, if_pos hon, laZ, this, if_pos rfl]
    rfl
  · rw [laV, if_neg hon]
theorem la_gt (h : Inv z) {k : Nat} (hk : k < 16) (hl : ¬ (laV z k).toInt64 ≤ 0) : wnV z = 0 := Decidable.byContradiction fun y => hl (by rw [la_none h y hk]; decide)
theorem la_ng (h : Inv z) {k : Nat} (hl : (laV z k).toInt64 ≤ 0) : ¬ wnV z = 0 := fun y => by
  obtain ⟨j, e, j1, j2⟩ := la_room h y k
  rw [e] at hl
  have := (jl_le (a := j) (b := 0) (by omega) (by decide)).mp hl
  omega
theorem la_in (h : Inv z) {k : Nat} (hk : k < 16) : ¬ (laV z k).toInt64 < 0 ∧ ¬ (300 : Int64) < (laV z k).toInt64 := by
  have : ∃ j, laV z k = nI j ∧ j ≤ 300 := by
    by_cases hr : wnV z = 0
    · obtain ⟨j, e, -, j2⟩ := la_room h hr k
      exact ⟨j, e, j2⟩
    · exact ⟨0, la_none h hr hk, Nat.zero_le _⟩
  obtain ⟨j, e, hj⟩ := this
  rw [e]
  refine ⟨fun y => ?_, fun y => ?_⟩
  · have := (jl_lt (a := j) (b := 0) (by omega) (by decide)).mp y
    omega
  · have := (jl_lt (a := 300) (b := j) (by decide) (by omega)).mp y
    omega
theorem la_J {k : Nat} (hk : k < 16) : laJ z (nI k) = (laV z k).toInt64 := by
  rw [laJ, if_pos (show c6key (nI k) = 0 from if_pos (in_16 hk)), nI_clamp (by omega)]
theorem op_J (h : Inv z) (hc : 0 < csV z) : opJ z = (csV z).toInt64 := by
  rw [opJ, if_pos]
  exact if_neg (fun y => by rw [y] at hc; exact absurd hc (by decide))
theorem cs_zC {c : Int32} : csV (zC z c) = csV z := by
  unfold csV
  rw [zz_C]
  rfl
theorem cs_nz (hc : 0 < csV z) : ¬ csV z = 0 := fun y => by rw [y] at hc; exact absurd hc (by decide)
theorem cu_ok {h : List LgS} (hon : z.1.1 = true) {n : Nat} (hn : n ≤ 99) : cuJ z (nI n) = (z.2.1 1).toInt64 ∧ cuA (fS a z h) (nI n) = fS a (zC z (nI n)) (z :: h.take 13) := by
  have e : c6cut z (nI n) = 0 := by
    rw [c6cut, if_pos ⟨nJ_neg (by omega), nJ_nlt (a := 99) (by decide) (by omega) hn⟩, if_pos hon]
  rw [cuJ, cuA, e, show c6cut (fS a z h).2.1 (nI n) = 0 from e]
  exact ⟨rfl, rfl⟩
theorem pu_ok {h : List LgS} (hc : ¬ csV z = 0) {k v : Nat} (hk : k < 16) (hv : v ≤ 999) : puJ z (nI k) (nI v) = (stT k (nI v) z).1.toInt64 ∧ puA (fS a z h) (nI k) (nI v) = fS a (stT k (nI v) z).2 (z :: h.take 13) := by
  have e : c6put z (nI k) (nI v) = 0 := by
    rw [c6put, if_pos ⟨in_16 hk, nJ_neg (by omega), nJ_nlt (a := 999) (by decide) (by omega) hv⟩, if_neg hc]
  rw [puJ, puA, e, show c6put (fS a z h).2.1 (nI k) (nI v) = 0 from e, if_pos rfl, if_pos rfl, nI_clamp (by omega)]
  exact ⟨rfl, rfl⟩
theorem st_okk {h : List LgS} (hoff : ¬ z.1.1 = true) : stJ z = (nI (ckZ (zSw z) 16)).toInt64 ∧ stA (fS a z h) = fS a (zSw z) (z :: h.take 13) := by
  have e : c6sta z = 0 := if_neg hoff
  rw [stJ, stA, e, show c6sta (fS a z h).2.1 = 0 from e]
  exact ⟨rfl, rfl⟩
theorem un_ok {y : LgS} {h : List LgS} : unJ (fS a z (y :: h)) = (nI h.length).toInt64 ∧ unA (fS a z (y :: h)) = fS a y h := by
  refine ⟨?_, rfl⟩
  rw [unJ, show c6und (fS a z (y :: h)).2.2.1.length = 0 from if_neg (Nat.succ_ne_zero _)]
  rfl
theorem un_ge {n : Nat} (h : n ≤ 100) : ¬ (nI n).toInt64 < 0 := fun y => by
  have := (jl_lt (a := n) (b := 0) (by omega) (by decide)).mp y
  omega
theorem cu_ge (h : Inv z) : ¬ (z.2.1 1).toInt64 < 0 := fun y => by
  have h1 : isN (z.2.1 1) 99 := h.2.2.2.2.2.2.2.2.2.1
  rw [h1.1] at y
  have := (jl_lt (a := (z.2.1 1).toNatClampNeg) (b := 0) (by have := h1.2; omega) (by decide)).mp y
  omega
theorem sw_ok {h : List LgS} (hX : InvX z) {b : Nat} (hv : cvZ z = some b) : swJ (zC z 0) = (nI b).toInt64 ∧ swA (fS a (zC z 0) h) = fS a (sbT b (zC z 0)).2 (zC z 0 :: h.take 13) := by
  have hv0 : cvZ (zC z 0) = some b := hv
  have hB := inv_B hX.1
  have hbB := cvF_lt hv
  have ho : oI (cvZ (zC z 0)) = nI b := by rw [hv0]; rfl
  have e : c6swp (zC z 0) = 0 := if_neg (by rw [ho]; exact ne9 (by omega))
  rw [swJ, swA, e, show c6swp (fS a (zC z 0) h).2.1 = 0 from e, if_pos rfl, if_pos rfl, show (fS a (zC z 0) h).2.1 = zC z 0 from rfl, ho, nI_clamp (by omega), (sweep_through hX hv).1]
  exact ⟨rfl, rfl⟩
theorem sa_ok : saJ a.2.1 1 = (nI (ckZ a.2.1 16)).toInt64 ∧ saA a 1 = fS a a.2.1 a.2.2.1 := ⟨if_pos (by decide), if_pos (by decide)⟩
theorem rs_ok {h : List LgS} : rsJ (fS a z h) 1 = (nI (ckZ a.2.1 16)).toInt64 ∧ rsA (fS a z h) 1 = fS a a.2.1 [] := ⟨if_pos (by decide), if_pos (by decide)⟩
theorem un_nil : unJ (fS a z []) = -9000000000000000003 ∧ unA (fS a z []) = fS a z [] := ⟨if_neg (show ¬ c6und 0 = 0 by decide), rfl⟩
theorem ot_eq {z2 : LgS} {key : Nat} (h : ∀ j, j < 16 → ¬ j = key → vaZ z2 (nI j) = vaZ z (nI j)) : ∀ n, n ≤ 16 → otZ z2 key n = otZ z key n
  | 0, _ => rfl
  | n + 1, hn => by
    rw [otZ, otZ, ot_eq h n (by omega)]
    by_cases e : n = key
    · rw [if_pos e, if_pos e]
    · rw [if_neg e, if_neg e, h n (by omega) e]
theorem ck_zSw {n : Nat} : ckZ (zSw z) n = ckZ z n := by
  unfold zSw
  split <;> rfl
theorem ab_5 : abJ z 5 = (nI (ckZ z 16)).toInt64 := (ab_J (k := 5) (by decide)).trans rfl
theorem ab_2 : abJ z 2 = (bI (z.1.1 = true)).toInt64 := (ab_J (k := 2) (by decide)).trans rfl
theorem ab_11 : abJ z 11 = (z.2.1 1).toInt64 := (ab_J (k := 11) (by decide)).trans rfl
theorem ab_9 : abJ z 9 = (z.2.1 8).toInt64 := (ab_J (k := 9) (by decide)).trans rfl
theorem ac_J (hc : ¬ csV z = 0) {k v n : Nat} (hk : k < 16) (hv : v ≤ 999) (hn : 1 ≤ n) (hn9 : n ≤ 99) : acJ z (nI k) (nI v) (nI n) = (vaZ (afZ z k (nI v) n) (nI k)).toInt64 := by
  have e : c6afc z (nI k) (nI v) (nI n) = 0 := by
    rw [c6afc, if_pos ⟨in_16 hk, ⟨nJ_neg (by omega), nJ_nlt (a := 999) (by decide) (by omega) hv⟩, nJ_nlt (b := 1) (by omega) (by decide) hn, nJ_nlt (a := 99) (by decide) (by omega) hn9⟩, if_neg hc]
  rw [acJ, e, if_pos rfl, nI_clamp (by omega), nI_clamp (by omega)]
theorem bl_0 {b : Nat} (hB : z.1.2 ≤ 8) (hb : b < z.1.2) : blJ z (nI b) 0 = (z.2.2 4 b).toInt64 := by
  refine (bl_J (w := 0) hB hb (by decide)).trans ?_
  exact congrArg _ (at_8 (by omega))
theorem bl_2 {b : Nat} (hB : z.1.2 ≤ 8) (hb : b < z.1.2) : blJ z (nI b) 2 = (z.2.2 7 b).toInt64 := by
  refine (bl_J (w := 2) hB hb (by decide)).trans ?_
  exact congrArg _ (at_8 (by omega))
theorem jl_s {n : Nat} (h : n + 1 < 2 ^ 31) : (nI n + 1).toInt64 = (nI n).toInt64 + 1 := by
  rw [nI_s, nI_l h, nI_l (by omega)]
  exact (lN_add n 1).symm
theorem we_s (h : Inv z) {b : Nat} (hb : b < 8) : (z.2.2 4 b + 1).toInt64 = (z.2.2 4 b).toInt64 + 1 := by
  obtain ⟨e1, e2, e3⟩ := we_ok h hb
  rw [e1]
  exact jl_s (by omega)
theorem er_s (h : InvX z) : (z.2.1 8 + 1).toInt64 = (z.2.1 8).toInt64 + 1 := by
  obtain ⟨w, c, e, u, h5, h6, h7, h8, h9, hc, ht, hu⟩ := h.2.2
  have := suT_le h.1 (n := 8) (Nat.le_refl _)
  rw [h8]
  exact jl_s (by omega)
theorem cv_some (hB : z.1.2 ≤ 8) (h : ¬ oI (cvZ z) = -9) : ∃ b, cvZ z = some b ∧ b < z.1.2 := by
  cases hv : cvZ z with
  | none => rw [hv] at h; exact absurd rfl h
  | some b => exact ⟨b, rfl, cvF_lt hv⟩
theorem so_n2 {p : Nat} (h : p < 2 ^ 31) : ¬ (nI p).toInt64 = -2 := fun y => ne_m2 h (jl_eq.mp (y.trans (by decide)))
end PF9
theorem zSw_up (z : LgS) : (zSw z).1.1 = true := by
  unfold zSw
  split
  · assumption
  · rfl
theorem cv_on {z : LgS} {b : Nat} (hv : cvZ z = some b) : z.1.1 = true := by
  refine Decidable.byContradiction fun y => ?_
  have : ∀ n, cvF (z.2.2 0) (z.2.2 3) (z.2.2 4) (z.2.2 5) (z.2.2 7) z.1.2 z.1.1 (z.2.1 2) (z.2.1 3) (z.2.1 0) n = none := fun n => by
    induction n with
    | zero => rfl
    | succ n ih => rw [cvF, ih]; exact if_neg (fun h => y h.1)
  have h2 : cvZ z = none := this z.1.2
  rw [h2] at hv
  cases hv
