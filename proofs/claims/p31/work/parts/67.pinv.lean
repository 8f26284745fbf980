-- PURE: FURTHER INVARIANTS: values, counts
def iVa (z : LgS) : Prop := ∀ a, a < 32 → z.2.2 0 a = 1 → z.2.2 2 a = -9 ∨ ∃ v, v ≤ 999 ∧ z.2.2 2 a = nI v
/-- pages and blocks that were used so far, at most -/
def suT (z : LgS) : Nat → Nat
  | 0 => 0
  | n + 1 => suT z n + (5 * weN_ z n + (4 - frN_ z n))
def cnO (z : LgS) (w c e u t : Nat) : Prop := z.2.1 5 = nI (w + e + u) ∧ z.2.1 6 = nI w ∧ z.2.1 7 = nI c ∧ z.2.1 8 = nI e ∧ z.2.1 9 = nI u ∧ c ≤ w ∧ w + e + u ≤ t ∧ (u = 0 ↔ z.2.1 10 = -9)
def iCo (z : LgS) : Prop := ∃ w c e u, cnO z w c e u (suT z 8)
def InvX (z : LgS) : Prop := Inv z ∧ iVa z ∧ iCo z
section PX
variable {z z2 : LgS}
theorem suT_c : ∀ {n : Nat}, (∀ b, b < n → weN_ z2 b = weN_ z b ∧ frN_ z2 b = frN_ z b) → suT z2 n = suT z n
  | 0, _ => rfl
  | n + 1, h => by rw [suT, suT, suT_c (fun b hb => h b (by omega)), (h n (by omega)).1, (h n (by omega)).2]
theorem suT_1 {b : Nat} (h0 : ∀ j, j ≠ b → weN_ z2 j = weN_ z j ∧ frN_ z2 j = frN_ z j) (h1 : 5 * weN_ z b + (4 - frN_ z b) + 1 ≤ 5 * weN_ z2 b + (4 - frN_ z2 b)) : ∀ {n : Nat}, suT z n + (if b < n then 1 else 0) ≤ suT z2 n
  | 0 => by rw [if_neg (Nat.not_lt_zero _)]; exact Nat.le_refl _
  | n + 1 => by
    have ih := suT_1 h0 h1 (n := n)
    rw [suT, suT]
    by_cases e : n = b
    · subst e
      rw [if_neg (Nat.lt_irrefl _)] at ih
      rw [if_pos (Nat.lt_succ_self _)]
      omega
    · rw [(h0 n e).1, (h0 n e).2]
      by_cases hb : b < n
      · rw [if_pos hb] at ih
        rw [if_pos (by omega)]
        omega
      · rw [if_neg hb] at ih
        rw [if_neg (by omega)]
        omega
theorem suT_le (h : Inv z) : ∀ {n : Nat}, n ≤ 8 → suT z n ≤ 499 * n
  | 0, _ => Nat.le_refl _
  | n + 1, hn => by
    have ih := suT_le h (n := n) (by omega)
    have h1 := (h.2.2.2.2.2.2.1.2.2 n (by omega)).2
    have h2 : liN_ z ≤ 99 := h.2.2.2.2.2.2.1.1.2
    have h3 : weN_ z n ≤ liN_ z := h1
    rw [suT]
    omega
/-- nothing but numbers that do not count has changed -/
theorem ico_same (h : iCo z) (h7 : z2.2.2 7 = z.2.2 7) (h4 : z2.2.2 4 = z.2.2 4) (hn : ∀ j, 5 ≤ j → j ≤ 10 → z2.2.1 j = z.2.1 j) : iCo z2 := by
  obtain ⟨w, c, e, u, h⟩ := h
  refine ⟨w, c, e, u, ?_⟩
  unfold cnO
  rw [hn 5 (by decide) (by decide), hn 6 (by decide) (by decide), hn 7 (by decide) (by decide), hn 8 (by decide) (by decide), hn 9 (by decide) (by decide), hn 10 (by decide) (by decide), suT_c (z := z) (z2 := z2) (n := 8) (fun b _ => ⟨by unfold weN_; rw [h4], by unfold frN_; rw [h7]⟩)]
  exact h
theorem we_ok (h : Inv z) {b : Nat} (hb : b < 8) : z.2.2 4 b = nI (weN_ z b) ∧ weN_ z b ≤ liN_ z ∧ liN_ z ≤ 99 := by
  have h1 := h.2.2.2.2.2.2.1.2.2 b hb
  exact ⟨h1.1, h1.2, h.2.2.2.2.2.2.1.1.2⟩
theorem w1_fr (h : Inv z) {b a : Nat} {sw : Bool} (hn : nxA z b a) : frN_ (lsW1 z a sw) b + 1 = frN_ z b ∧ ∀ j, j ≠ b → frN_ (lsW1 z a sw) j = frN_ z j := by
  obtain ⟨ha, haB, hab, h0a⟩ := nxA_a h hn
  obtain ⟨F0, F1, F2, F3, F4, F5, F6, F7⟩ := w1_F (z := z) (a := a) (sw := sw)
  have hB := inv_B h
  obtain ⟨hf4, hf7, -⟩ := inv_fr h (show b < 8 by have := hn.1; omega)
  refine ⟨?_, fun j hj => ?_⟩
  · have e : (lsW1 z a sw).2.2 7 b = nI (frN_ z b - 1) := by
      rw [F7, hab, pk_us, hf7, show (1 : Int32) = nI 1 from rfl, pk_sub (by have := hn.2.1; omega)]
    have := hn.2.1
    rw [frN_, e, nI_clamp (by omega)]
    omega
  · unfold frN_
    rw [F7, hab, pk_un hj]
theorem suT_w2 (h : Inv z) {b a k : Nat} {x : Int32} {sw : Bool} (hn : nxA z b a) : suT z 8 + 1 ≤ suT (lsW2 z a k x sw) 8 := by
  obtain ⟨f1, f2⟩ := w2_fr (k := k) (x := x) (sw := sw) h hn
  have hB := inv_B h
  have hb := hn.1
  have hw : ∀ j, weN_ (lsW2 z a k x sw) j = weN_ z j := fun j => by unfold weN_; rw [(w2_F (z := z) (a := a) (k := k) (x := x) (sw := sw)).2.2.2.2.1]
  have h4 := (inv_fr h (show b < 8 by omega)).1
  have := suT_1 (z := z) (z2 := lsW2 z a k x sw) (b := b) (fun j hj => ⟨hw j, f2 j hj⟩) (by rw [hw b]; omega) (n := 8)
  rw [if_pos (by omega)] at this
  exact this
theorem suT_w1 (h : Inv z) {b a : Nat} {sw : Bool} (hn : nxA z b a) : suT z 8 + 1 ≤ suT (lsW1 z a sw) 8 := by
  obtain ⟨f1, f2⟩ := w1_fr (sw := sw) h hn
  have hB := inv_B h
  have hb := hn.1
  have hw : ∀ j, weN_ (lsW1 z a sw) j = weN_ z j := fun j => by unfold weN_; rw [(w1_F (z := z) (a := a) (sw := sw)).2.2.2.2.1]
  have h4 := (inv_fr h (show b < 8 by omega)).1
  have := suT_1 (z := z) (z2 := lsW1 z a sw) (b := b) (fun j hj => ⟨hw j, f2 j hj⟩) (by rw [hw b]; omega) (n := 8)
  rw [if_pos (by omega)] at this
  exact this
theorem suT_wp (h : Inv z) {b : Nat} {x : Int32} (hb : b < z.1.2) (hw : weN_ z b < liN_ z) (hp : z2.2.2 = wpF z.2.2 b x) : suT z 8 + 1 ≤ suT z2 8 ∧ weN_ z2 b = weN_ z b + 1 ∧ ∀ j, j ≠ b → weN_ z2 j = weN_ z j := by
  obtain ⟨F0, F1, F2, F3, F4, F5, F6, F7⟩ := wp_F (F := z.2.2) (b := b) (x := x)
  rw [← hp] at F4 F7
  have hB := inv_B h
  obtain ⟨e1, e2, e3⟩ := we_ok h (show b < 8 by omega)
  have e4 : weN_ z2 b = weN_ z b + 1 := by
    show (z2.2.2 4 b).toNatClampNeg = weN_ z b + 1
    rw [F4, pk_us, e1, nI_1]
    exact nI_clamp (by omega)
  have e5 : ∀ j, j ≠ b → weN_ z2 j = weN_ z j := fun j hj => by unfold weN_; rw [F4, pk_un hj]
  have e6 : frN_ z2 b ≤ 4 := by
    unfold frN_
    rw [F7, pk_us]
    split
    · exact Nat.le_of_eq rfl
    · exact Nat.zero_le _
  have h4 := (inv_fr h (show b < 8 by omega)).1
  have := suT_1 (z := z) (z2 := z2) (b := b) (fun j hj => ⟨e5 j hj, by unfold frN_; rw [F7, pk_un hj]⟩) (by rw [e4]; omega) (n := 8)
  rw [if_pos (by omega)] at this
  exact ⟨this, e4, e5⟩
theorem nI_s {n : Nat} : nI n + 1 = nI (n + 1) := nI_add n 1
theorem iva_w2 (h : iVa z) {a k : Nat} {x : Int32} {sw : Bool} (hx : x = -9 ∨ ∃ v, v ≤ 999 ∧ x = nI v) : iVa (lsW2 z a k x sw) := fun j hj h1 => by
  obtain ⟨F0, F1, F2, F3, F4, F5, F6, F7⟩ := w2_F (z := z) (a := a) (k := k) (x := x) (sw := sw)
  rw [F2]
  by_cases e : j = a
  · subst e
    rw [pk_us]
    exact hx
  · rw [pk_un e]
    rw [F0, pk_un e] at h1
    exact h j hj h1
theorem ico_w2 (hI : Inv z) (h : iCo z) {b a k : Nat} {x : Int32} {sw : Bool} (hn : nxA z b a) : iCo (lsW2 z a k x sw) := by
  obtain ⟨w, c, e, u, h5, h6, h7, h8, h9, hc, ht, hu⟩ := h
  have hs := suT_w2 (k := k) (x := x) (sw := sw) hI hn
  cases sw with
  | true =>
    refine ⟨w + 1, c + 1, e, u, ?_, ?_, ?_, h8, h9, by omega, by omega, hu⟩
    · show z.2.1 5 + 1 = _
      rw [h5, nI_s]
      exact congrArg nI (by omega)
    · show z.2.1 6 + 1 = _
      rw [h6, nI_s]
    · show z.2.1 7 + bI (true = true) = _
      rw [h7, bI_1 rfl, nI_s]
  | false =>
    refine ⟨w + 1, c, e, u, ?_, ?_, ?_, h8, h9, by omega, by omega, hu⟩
    · show z.2.1 5 + 1 = _
      rw [h5, nI_s]
      exact congrArg nI (by omega)
    · show z.2.1 6 + 1 = _
      rw [h6, nI_s]
    · show z.2.1 7 + bI (false = true) = _
      rw [h7, bI_0 (by decide)]
      exact Int32.add_zero _
theorem ico_w1 (hI : Inv z) (h : iCo z) {b a : Nat} {sw : Bool} (hn : nxA z b a) : iCo (lsW1 z a sw) := by
  obtain ⟨w, c, e, u, h5, h6, h7, h8, h9, hc, ht, hu⟩ := h
  have hs := suT_w1 (sw := sw) hI hn
  have ha := (nxA_a hI hn).1
  refine ⟨w, c, e, u + 1, ?_, h6, h7, h8, ?_, hc, by omega, ?_⟩
  · show z.2.1 5 + 1 = _
    rw [h5, nI_s]
    exact congrArg nI (by omega)
  · show z.2.1 9 + 1 = _
    rw [h9, nI_s]
  · show u + 1 = 0 ↔ nI a = -9
    exact ⟨fun y => by omega, fun y => absurd y (ne9 (by omega))⟩
theorem iva_wp (h : iVa z) {b : Nat} {x : Int32} (hx : ¬ x = 1) (hp : z2.2.2 = wpF z.2.2 b x) : iVa z2 := fun j hj h1 => by
  obtain ⟨F0, F1, F2, F3, F4, F5, F6, F7⟩ := wp_F (F := z.2.2) (b := b) (x := x)
  rw [← hp] at F0 F2
  rw [F2]
  rw [F0, k4_at] at h1
  split at h1
  · exact absurd h1 hx
  · exact h j hj h1
theorem ico_e2 (hI : Inv z) (h : iCo z) {b : Nat} (hb : b < z.1.2) (hw : weN_ z b < liN_ z) : iCo (lsE2 z b) := by
  obtain ⟨w, c, e, u, h5, h6, h7, h8, h9, hc, ht, hu⟩ := h
  have hs := (suT_wp (z2 := lsE2 z b) hI hb hw rfl).1
  refine ⟨w, c, e + 1, u, ?_, h6, h7, ?_, h9, hc, by omega, hu⟩
  · show z.2.1 5 + 1 = _
    rw [h5, nI_s]
    exact congrArg nI (by omega)
  · show z.2.1 8 + 1 = _
    rw [h8, nI_s]
theorem ico_e1 (hI : Inv z) (h : iCo z) {b : Nat} (hb : b < z.1.2) (hw : weN_ z b < liN_ z) : iCo (lsE1 z b) := by
  obtain ⟨w, c, e, u, h5, h6, h7, h8, h9, hc, ht, hu⟩ := h
  have hs := (suT_wp (z2 := lsE1 z b) hI hb hw rfl).1
  have hB := inv_B hI
  refine ⟨w, c, e, u + 1, ?_, h6, h7, h8, ?_, hc, by omega, ?_⟩
  · show z.2.1 5 + 1 = _
    rw [h5, nI_s]
    exact congrArg nI (by omega)
  · show z.2.1 9 + 1 = _
    rw [h9, nI_s]
  · show u + 1 = 0 ↔ nI (4 * b) = -9
    exact ⟨fun y => by omega, fun y => absurd y (ne9 (by omega))⟩
theorem cl_X : Cl (fun w => iVa w ∧ iCo w) := by
  refine ⟨fun w b hI ho hb hf h => ⟨h.1, ico_same h.2 rfl rfl (fun j h5 h10 => pk_un (by omega))⟩, fun w b a j k hI ho hn hj h0 h1 hk h6 hc h => ⟨iva_w2 h.1 (h.1 j hj h0), ico_w2 hI h.2 hn⟩, fun w b a sw hI ho hn hc h => ⟨fun j hj h1 => ?_, ico_w1 hI h.2 hn⟩, fun w b hI ho hb hw hd hc h => ⟨iva_wp h.1 (x := 0) (by decide) rfl, ico_e2 hI h.2 hb hw⟩, fun w b hI ho hb hw hd hc h => ⟨iva_wp h.1 (x := 2) (by decide) rfl, ico_e1 hI h.2 hb hw⟩⟩
  obtain ⟨F0, F1, F2, F3, F4, F5, F6, F7⟩ := w1_F (z := w) (a := a) (sw := sw)
  rw [F2]
  rw [F0] at h1
  by_cases e : j = a
  · subst e
    rw [pk_us] at h1
    exact absurd h1 (by decide)
  · rw [pk_un e] at h1
    exact h.1 j hj h1
theorem ix_st (h : InvX z) (ho : z.1.1 = true) {k : Nat} (hk : k < 16) {x : Int32} (hx : okX z k x) (hv : x = -9 ∨ ∃ v, v ≤ 999 ∧ x = nI v) : InvX (stT k x z).2 := by
  refine ⟨(inv_st h.1 ho hk hx).2, ?_⟩
  rcases stT_P cl_X h.1 ho hk hx h.2 with ⟨-, h1, -⟩ | ⟨-, h1, -⟩ | ⟨z1, b0, p, -, -, e, h1, h2, h3, h4, h5⟩
  · exact h1
  · exact h1
  · rw [e]
    exact ⟨iva_w2 h1.1 hv, ico_w2 h2 h1.2 h4⟩
theorem ix_sb (h : InvX z) {b : Nat} (hb : cvZ z = some b) : InvX (sbT b z).2 := ⟨(inv_sb h.1 hb).2, (sbT_P cl_X h.1 hb h.2).1⟩
theorem ix_zC (h : InvX z) {c : Nat} (hc : c ≤ 99) : InvX (zC z (nI c)) := ⟨inv_zC h.1 hc, h.2.1, ico_same h.2.2 rfl rfl (fun j h5 h10 => pk_un (by omega))⟩
theorem ix_zPo (h : InvX z) {c : Nat} (hc : c ≤ 2) : InvX (zPo z (nI c)) := ⟨inv_zPo h.1 hc, h.2.1, ico_same h.2.2 rfl rfl (fun j h5 h10 => pk_un (by omega))⟩
theorem ix_zSw (h : InvX z) : InvX (zSw z) := by
  refine ⟨inv_zSw h.1, ?_⟩
  unfold zSw
  split
  · exact h.2
  · exact ⟨h.2.1, ico_same h.2.2 rfl rfl (fun j h5 h10 => by show upd (upd z.2.1 3 _) 4 _ j = _; rw [pk_un (by omega), pk_un (by omega)])⟩
theorem ix_zNew {B x : Nat} {z : LgS} (hB : 3 ≤ B) (hB8 : B ≤ 8) (hx : 1 ≤ x) (hx9 : x ≤ 99) : InvX (zNew B (nI x) z) := by
  refine ⟨inv_zNew hB hB8 hx hx9, fun a ha h1 => ?_, 0, 0, 0, 0, rfl, rfl, rfl, rfl, rfl, Nat.le_refl _, Nat.zero_le _, ⟨fun _ => rfl, fun _ => rfl⟩⟩
  have : (zNew B (nI x) z).2.2 0 a = 0 := by
    show fNew z.2.2 0 a = 0
    rw [(fNew_k (F := z.2.2)).1]
  rw [this] at h1
  exact absurd h1 (by decide)
theorem ix_pf (h : InvX z) {c k : Nat} {n : Int32} (hk : k < 16) (hn : ∃ v, v ≤ 999 ∧ n = nI v) (hn2 : c = 4 ∨ ¬ (1 ≤ c ∧ c ≤ 8) → ∃ j : Nat, j ≤ 99 ∧ n = nI j) : InvX (pfZ z c k n) := by
  obtain ⟨v, hv, rfl⟩ := hn
  by_cases h1 : c = 1
  · subst h1
    rw [pfZ_1]
    split
    · rename_i hc
      exact ix_st h (cs_on hc) hk (Or.inl (ne9 (by omega))) (Or.inr ⟨v, hv, rfl⟩)
    · exact h
  by_cases h2 : c = 2
  · subst h2
    rw [pfZ_2]
    split
    · rename_i hc
      exact ix_st h (cs_on hc.2) hk (Or.inr hc.1) (Or.inl rfl)
    · exact h
  by_cases h3 : c = 3
  · subst h3
    rw [pfZ_3]
    split
    · exact h
    · rename_i hc
      cases hv2 : cvZ z with
      | none => rw [hv2] at hc; exact absurd rfl hc
      | some b =>
        rw [← hv2, (cvZ_o hv2 (inv_B h.1)).1]
        exact ix_sb h hv2
  by_cases h4 : c = 4
  · subst h4
    rw [pfZ_4]
    obtain ⟨j, hj, e⟩ := hn2 (Or.inl rfl)
    rw [e]
    split
    · exact ix_zC h hj
    · exact h
  by_cases h5 : c = 5
  · subst h5
    rw [pfZ_5]
    exact ix_zSw h
  by_cases h6 : c = 6
  · subst h6; rw [pfZ_6]; exact h
  by_cases h7 : c = 7
  · subst h7; rw [pfZ_7]; exact h
  by_cases h8 : c = 8
  · subst h8; rw [pfZ_8]; exact h
  have : pfZ z c k (nI v) = if 2 < nI v then z else zPo z (nI v) := by
    rw [pfZ, if_neg h1, if_neg h2, if_neg h3, if_neg h4, if_neg h5, if_neg h6, if_neg h7, if_neg h8]
  rw [this]
  split
  · exact h
  · rename_i h9
    exact ix_zPo h (Nat.le_of_not_lt (fun y => h9 (nJ_lt (a := 2) (by decide) (by omega) y)))
end PX
