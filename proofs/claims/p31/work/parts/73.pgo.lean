-- PURE: WHAT THE LAW'S OBJECTS ARE, THROUGHOUT
def OkX (a : AS) : Prop := a.1.2 ≤ 90 ∧ InvX a.2.1 ∧ (∀ z ∈ a.2.2.1, InvX z) ∧ ∀ (k : Nat) (z : LgS), a.2.2.2 k = some z → InvX z
section PG
variable {a : AS}
theorem ox_no {z : LgS} (h : OkX a) (hz : InvX z) : OkX (noA a z) :=
  ⟨h.1, hz, fun w hw => (List.mem_cons.mp (List.mem_of_mem_take hw)).elim (fun e => e ▸ h.2.1) (fun e => h.2.2.1 w e), h.2.2.2⟩
theorem ox_pu (h : OkX a) {k v : Nat} (hk : k < 16) (hv : v ≤ 999) : OkX (puA a (nI k) (nI v)) := by
  rw [puA]
  by_cases hR : c6put a.2.1 (nI k) (nI v) = 0
  · rw [if_pos hR]
    refine ox_no h ?_
    unfold c6put at hR
    split at hR
    · split at hR
      · exact absurd hR (by decide)
      · rename_i hcs
        rw [nI_clamp (n := k) (by omega)]
        exact ix_st h.2.1 (cs_ne hcs) hk (Or.inl (ne9 (by omega))) (Or.inr ⟨v, hv, rfl⟩)
    · exact absurd hR (by decide)
  · rw [if_neg hR]; exact h
theorem ox_re (h : OkX a) {k : Nat} (hk : k < 16) : OkX (reA a (nI k)) := by
  rw [reA]
  by_cases hR : c6rem a.2.1 (nI k) = 0
  · rw [if_pos hR]
    refine ox_no h ?_
    unfold c6rem at hR
    split at hR
    · split at hR
      · exact absurd hR (by decide)
      · rename_i hcs
        rw [nI_clamp (n := k) (by omega)]
        exact ix_st h.2.1 (cs_ne (fun y => hcs (Or.inr y))) hk (Or.inr (fun y => hcs (Or.inl y))) (Or.inl rfl)
    · exact absurd hR (by decide)
  · rw [if_neg hR]; exact h
theorem ox_sw (h : OkX a) : OkX (swA a) := by
  rw [swA]
  by_cases hR : c6swp a.2.1 = 0
  · rw [if_pos hR]
    refine ox_no h ?_
    unfold c6swp at hR
    split at hR
    · exact absurd hR (by decide)
    · rename_i hv
      cases hc : cvZ a.2.1 with
      | none => rw [hc] at hv; exact absurd rfl hv
      | some b =>
        rw [← hc, (cvZ_o hc (inv_B h.2.1.1)).1]
        exact ix_sb h.2.1 hc
  · rw [if_neg hR]; exact h
theorem ox_cu (h : OkX a) {c : Nat} (hc : c ≤ 99) : OkX (cuA a (nI c)) := by
  rw [cuA]
  by_cases hR : c6cut a.2.1 (nI c) = 0
  · rw [if_pos hR]; exact ox_no h (ix_zC h.2.1 hc)
  · rw [if_neg hR]; exact h
theorem ox_st (h : OkX a) : OkX (stA a) := by
  rw [stA]
  by_cases hR : c6sta a.2.1 = 0
  · rw [if_pos hR]; exact ox_no h (ix_zSw h.2.1)
  · rw [if_neg hR]; exact h
theorem ox_po (h : OkX a) {c : Nat} (hc : c ≤ 2) : OkX (poA a (nI c)) := by
  rw [poA]
  by_cases hR : c6r (nI c) 2 = 0
  · rw [if_pos hR]; exact ox_no h (ix_zPo h.2.1 hc)
  · rw [if_neg hR]; exact h
theorem ox_un (h : OkX a) : OkX (unA a) := by
  obtain ⟨t, z, hs, sl⟩ := a
  cases hs with
  | nil => exact h
  | cons w hs => exact ⟨h.1, h.2.2.1 w List.mem_cons_self, fun v hv => h.2.2.1 v (List.mem_cons_of_mem _ hv), h.2.2.2⟩
theorem ox_sa (h : OkX a) {x : Int32} : OkX (saA a x) := by
  rw [saA]
  by_cases hR : c6sav x = 0
  · rw [if_pos hR]
    refine ⟨h.1, h.2.1, h.2.2.1, fun k z hz => ?_⟩
    by_cases e : k = x.toNatClampNeg
    · have hz : (if k = x.toNatClampNeg then some a.2.1 else a.2.2.2 k) = some z := hz
      rw [if_pos e] at hz
      exact Option.some.inj hz ▸ h.2.1
    · have hz : (if k = x.toNatClampNeg then some a.2.1 else a.2.2.2 k) = some z := hz
      rw [if_neg e] at hz
      exact h.2.2.2 k z hz
  · rw [if_neg hR]; exact h
theorem ox_rs (h : OkX a) {x : Int32} : OkX (rsA a x) := by
  rw [rsA]
  by_cases hR : inN x 2
  · rw [if_pos hR]
    cases hs : a.2.2.2 x.toNatClampNeg with
    | none => exact h
    | some z => exact ⟨h.1, h.2.2.2 _ z hs, fun w hw => absurd hw List.not_mem_nil, h.2.2.2⟩
  · rw [if_neg hR]; exact h
theorem ox_ac (h : OkX a) {x y : Nat} : OkX (acR a x y).2 := by
  rw [acR]
  by_cases h1 : x % 18 < 3
  · rw [if_pos h1]; exact ox_re h (by omega)
  rw [if_neg h1]
  by_cases h2 : x % 18 < 5
  · rw [if_pos h2]; exact ox_sw h
  rw [if_neg h2]
  by_cases h3 : x % 18 < 7
  · rw [if_pos h3]; exact ox_cu h (by omega)
  rw [if_neg h3]
  by_cases h4 : x % 18 < 9
  · rw [if_pos h4]; exact ox_st h
  rw [if_neg h4]
  by_cases h5 : x % 18 = 9
  · rw [if_pos h5]; exact ox_po h (by omega)
  rw [if_neg h5]
  by_cases h6 : x % 18 = 10
  · rw [if_pos h6]; exact ox_un h
  rw [if_neg h6]
  by_cases h7 : x % 18 = 11
  · rw [if_pos h7]
    by_cases h8 : y % 2 = 0
    · rw [if_pos h8]; exact ox_sa h
    · rw [if_neg h8]; exact ox_rs h
  rw [if_neg h7]
  by_cases h8 : y % 3 = 0
  · rw [if_pos h8]; exact ox_pu h (by omega) (by omega)
  · rw [if_neg h8]; exact ox_pu h (by omega) (by omega)
theorem ix_ldz {t : Nat → Int32} {n : Nat} : ∀ {m q : Nat} {z : LgS} {l : Nat}, InvX z → q ≤ n → (feL t n m (true, q)).1 = true → InvX (ldz t n m q z l).1
  | 0, _, _, _, h, _, _ => h
  | m + 1, q, z, l, h, hq9, hf => by
    rw [ldz]
    by_cases hq : q < n
    · rw [if_pos hq]
      obtain ⟨hc, hf2⟩ := ld_cmd0 hf hq
      obtain ⟨c, k, x, e1, e2, e3, e4, e5, c1, c9, k16, x9, hC⟩ := rc_at hq hc
      have eQ : (true, rcQ t n q) = cm t n (true, q) := by rw [e4]; exact (bp hc).symm
      refine ix_ldz (ix_pf h (by rw [e2]; exact k16) (by rw [e3]; exact ⟨x, x9, rfl⟩) (fun y => ?_)) (by rw [e4]; exact cm_le (by show q ≤ n; omega)) (by rw [eQ, hf2]; exact hf)
      rw [e1] at y
      rw [e3]
      refine ⟨x, ?_, rfl⟩
      have y2 : c = 4 ∨ c = 9 := by omega
      rcases hC with ⟨-, d, -⟩ | ⟨-, d, -⟩ | ⟨-, d, -, d2⟩ | ⟨-, d, -, d2⟩ | ⟨-, d⟩ | ⟨-, d⟩ <;> omega
    · rw [if_neg hq]; exact h
theorem ox_ld (h : OkX a) : OkX (ldA a) := by
  rw [ldA]
  by_cases hR : c6ld a.1.1 a.1.2 = 0
  · rw [if_pos hR]
    have he : feV (feR a.1.1 a.1.2) = -9 := by
      unfold c6ld at hR
      split at hR
      · assumption
      · exact absurd hR (by decide)
    obtain ⟨-, b3, b8, l1, l9, q9, hf⟩ := ld_chip' h.1 he 0 0
    refine ⟨h.1, ix_ldz (ix_zNew b3 b8 l1 l9) q9 (by rw [hf]; exact fe_true he h.1), fun w hw => absurd hw List.not_mem_nil, fun k z hz => ?_⟩
    have hz : (none : Option LgS) = some z := hz
    cases hz
  · rw [if_neg hR]; exact h
theorem ox_tl (h : OkX a) {x i : Nat} (hi : i ≤ 11) : OkX (tlS a x i) := by
  obtain ⟨h1, h2⟩ := tlS_n (a := a) (x := x) i
  unfold OkX
  rw [h2]
  exact ⟨by omega, h.2⟩
theorem ox_fS (h : OkX a) : OkX (fS a a.2.1 []) := by
  refine ⟨h.1, h.2.1, fun w hw => absurd hw List.not_mem_nil, fun k z hz => ?_⟩
  have hz : (if k = 1 then some a.2.1 else a.2.2.2 k) = some z := hz
  by_cases e : k = 1
  · rw [if_pos e] at hz
    exact Option.some.inj hz ▸ h.2.1
  · rw [if_neg e] at hz
    exact h.2.2.2 k z hz
end PG
/-- the object that the constructor makes -/
def a0S : AS := ((fun _ => 0, 0), (zN0, ([], fun _ => none)))
theorem ox_0 : OkX a0S := ⟨Nat.zero_le _, ix_zNew (B := 4) (x := 20) (z := zZero) (by decide) (by decide) (by decide) (by decide), fun w hw => absurd hw List.not_mem_nil, fun k z hz => by
  have hz : (none : Option LgS) = some z := hz
  cases hz⟩
