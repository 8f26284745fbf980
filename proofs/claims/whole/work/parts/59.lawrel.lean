-- THE LAW'S WORLD, AND WHAT HOLDS OF IT AT THE LOOP'S HEAD
def rfB (cI cZ : ClassId) (ar : Nat → Nat) (rf rb rl : Int32) (ss : Nat) (ps : Bool × Nat) (ac9 : Nat) (t f ft flk fd fkp fik fl : Nat → Int32) (C : List va_W) : List va_W :=
  [(ar 0, .inr (7, [.int rf, .ref (ar 1), .int (nI ss), .int (nI ps.2), .int (bI (ps.1 = true)), .int rb, .int rl, .ref (ar 2), .ref (ar 3), .ref (ar 4), .ref (ar 5), .int (nI ac9), .ref (ar 6), .ref (ar 7), .ref (ar 8)]))] :: [(ar 1, .inl (cI, 90, .inl t))] :: [(ar 2, .inl (cI, 151, .inl f))] :: [(ar 3, .inl (cI, 151, .inl ft))] :: [(ar 4, .inl (cI, 151, .inl flk))] :: [(ar 5, .inl (cI, 2114, .inl fd))] :: [(ar 6, .inl (cI, 302, .inl fkp))] :: [(ar 7, .inl (cZ, 2, .inl fik))] :: [(ar 8, .inl (cI, 4, .inl fl))] :: C
theorem sub_rng : ∀ {C R : List va_W}, (List.range' R.length C.length).map (fun i => (R ++ C)[i]?) = C.map some
  | [], R => rfl
  | c :: C, R => by
    have ih := sub_rng (C := C) (R := R ++ [c])
    rw [List.length_append, List.append_assoc] at ih
    rw [List.length_cons, List.range'_succ, List.map_cons, List.map_cons, List.getElem?_append_right (Nat.le_refl _), Nat.sub_self]
    exact congrArg _ ih
theorem put_rng : ∀ {C R U : List va_W}, U.length = C.length → bput (R ++ C) (List.range' R.length C.length) U = R ++ U
  | [], R, U, h => by
    have : U = [] := List.eq_nil_of_length_eq_zero h
    rw [this]
    rfl
  | c :: C, R, [], h => by cases h
  | c :: C, R, u :: U, h => by
    have ih := put_rng (C := C) (R := R ++ [u]) (U := U) (Nat.succ.inj h)
    rw [List.length_append, List.append_assoc, List.append_assoc] at ih
    rw [List.length_cons, List.range'_succ, bput_c, List.set_append_right _ _ (Nat.le_refl _), Nat.sub_self]
    exact ih
theorem lw_len {cI cL cZ cJ : ClassId} {ad : Nat → Nat} {dl : Nat → Nat → Nat} {sf sg : Nat → Option Nat} {fo : Nat → Int64} {t : Nat → Int32} {n q : Nat} {vv : Nat → Int32} {nx ct : Nat} {uf : Nat → Int32} {zz : Nat → LgS} : (lwB cI cL cZ cJ ad dl sf sg fo t n q vv nx ct uf zz).length = 27 := by
  rw [lwB, cwB, List.length_append, zLs_len]
  rfl
section RF
variable {cI cZ : ClassId} {ar : Nat → Nat} {rf rb rl : Int32} {ss : Nat} {ps : Bool × Nat} {ac9 : Nat} {t f ft flk fd fkp fik fl : Nat → Int32} {C U : List va_W}
theorem rf_app : rfB cI cZ ar rf rb rl ss ps ac9 t f ft flk fd fkp fik fl C = rfB cI cZ ar rf rb rl ss ps ac9 t f ft flk fd fkp fik fl [] ++ C := rfl
theorem rf_sub (h : C.length = 27) : (List.range' 9 27).map (fun i => (rfB cI cZ ar rf rb rl ss ps ac9 t f ft flk fd fkp fik fl C)[i]?) = C.map some := by
  have := sub_rng (C := C) (R := rfB cI cZ ar rf rb rl ss ps ac9 t f ft flk fd fkp fik fl [])
  rw [h] at this
  rw [rf_app]
  exact this
theorem rf_put (h : C.length = 27) (hU : U.length = 27) : bput (rfB cI cZ ar rf rb rl ss ps ac9 t f ft flk fd fkp fik fl C) (List.range' 9 27) U = rfB cI cZ ar rf rb rl ss ps ac9 t f ft flk fd fkp fik fl U := by
  have := put_rng (C := C) (U := U) (R := rfB cI cZ ar rf rb rl ss ps ac9 t f ft flk fd fkp fik fl []) (hU.trans h.symm)
  rw [h] at this
  rw [rf_app]
  exact this
end RF
-- rows of rows
theorem rz_ext {z : LgS} {f g : Nat → Int32} (h : Rz z f) (e : ∀ k, k < 151 → g k = f k) : Rz z g := by
  refine ⟨h.1, fun k hk => by rw [e k (by omega)]; exact h.2.1 k hk, fun a ha => ?_⟩
  have hp : ∀ w, w < 4 → pg g a w = pg f a w := fun w hw => e _ (by omega)
  rw [hp 0 (by decide), hp 1 (by decide), hp 2 (by decide), hp 3 (by decide)]
  exact h.2.2 a ha
theorem diN_old {d f : Nat → Int32} {ac j k : Nat} (hac : ac ≤ 14) (hj : j < ac) (h14 : ac < 14) (hk : k < 151) : rowA (diN d f ac) j k = rowA d j k := by
  unfold rowA diN
  rw [if_neg (by omega)]
  unfold va_cpy
  rw [if_neg (by omega)]
theorem diN_new {d f : Nat → Int32} {ac k : Nat} (hac : ac ≤ 14) (hk : k < 151) : rowA (diN d f ac) (acN ac - 1) k = f k := by
  unfold rowA diN acN
  by_cases h : ac = 14
  · rw [if_pos h, if_pos h]
    unfold va_cpy
    rw [if_pos (by omega)]
    exact congrArg _ (by omega)
  · rw [if_neg h, if_neg h]
    unfold va_cpy
    rw [if_pos (by omega)]
    exact congrArg _ (by omega)
theorem diN_sh {d f : Nat → Int32} {j k : Nat} (hj : j < 13) (hk : k < 151) : rowA (diN d f 14) j k = rowA d (j + 1) k := by
  unfold rowA diN
  rw [if_pos rfl]
  unfold va_cpy
  rw [if_neg (by omega), if_pos (by omega)]
  exact congrArg _ (by omega)
/-- where the j-th remembered one lies -/
def dyi (nx ct j : Nat) : Nat := (nx + 14 - ct + j) % 14
theorem dyi_lt {nx ct j : Nat} : dyi nx ct j < 14 := Nat.mod_lt _ (by decide)
def REL (ss q nx ct : Nat) (f fd fkp fik uf : Nat → Int32) (zz : Nat → LgS) : Prop :=
  (ss ≤ 90 ∧ q ≤ 90 ∧ nx < 14 ∧ ct ≤ 14) ∧ Rz (zz 16) f ∧ (∀ j, j < ct → Rz (zz (dyi nx ct j)) (rowA fd j) ∧ (zz (dyi nx ct j)).1.2 = (zz 16).1.2) ∧ (∀ k, k < 2 → uf k = fik k ∧ (¬ uf k = 0 → Rz (zz (14 + k)) (rowA fkp k) ∧ (zz (14 + k)).1.2 = (zz 16).1.2)) ∧ ∀ j, (zz j).1.2 ≤ 8
section RE
variable {ss q nx ct : Nat} {f fd fkp fik uf : Nat → Int32} {zz zz2 : Nat → LgS}
theorem rel_keep (h : REL ss q nx ct f fd fkp fik uf zz) (e : ∀ j, j ≤ 16 → zz2 j = zz j) (hB : ∀ j, (zz2 j).1.2 ≤ 8) {ss2 q2 : Nat} (hs : ss2 ≤ 90) (hq : q2 ≤ 90) : REL ss2 q2 nx ct f fd fkp fik uf zz2 := by
  obtain ⟨h1, h2, h3, h4, h5⟩ := h
  have e16 := e 16 (Nat.le_refl _)
  refine ⟨⟨hs, hq, h1.2.2.1, h1.2.2.2⟩, by rw [e16]; exact h2, fun j hj => ?_, fun k hk => ?_, hB⟩
  · rw [e _ (by have := dyi_lt (nx := nx) (ct := ct) (j := j); omega), e16]
    exact h3 j hj
  · rw [e (14 + k) (by omega), e16]
    exact h4 k hk
theorem acN_if {ct : Nat} (h : ct ≤ 14) : (if 14 < ct + 1 then 14 else ct + 1) = acN ct := by
  unfold acN
  by_cases e : ct = 14
  · rw [if_pos e, if_pos (by omega)]
  · rw [if_neg e, if_neg (by omega)]
theorem rel_note (h : REL ss q nx ct f fd fkp fik uf zz) {z : LgS} {g : Nat → Int32} (hz : Rz z g) (hzB : z.1.2 = (zz 16).1.2) (e16 : zz2 16 = z) (en : zz2 nx = zz 16) (e : ∀ j, j ≤ 15 → j ≠ nx → zz2 j = zz j) (hB : ∀ j, (zz2 j).1.2 ≤ 8) : REL ss q ((nx + 1) % 14) (acN ct) g (diN fd f ct) fkp fik uf zz2 := by
  obtain ⟨h1, h2, h3, h4, h5⟩ := h
  have hct := h1.2.2.2
  have hnx := h1.2.2.1
  have hac : acN ct ≤ 14 := by unfold acN; split <;> omega
  refine ⟨⟨h1.1, h1.2.1, Nat.mod_lt _ (by decide), hac⟩, by rw [e16]; exact hz, fun j hj => ?_, fun k hk => ?_, hB⟩
  · rw [e16, hzB]
    by_cases ej : j = acN ct - 1
    · subst ej
      have ed : dyi ((nx + 1) % 14) (acN ct) (acN ct - 1) = nx := by
        unfold dyi
        omega
      rw [ed, en]
      exact ⟨rz_ext h2 (fun k hk => diN_new hct hk), rfl⟩
    · by_cases e14 : ct = 14
      · have ea : acN ct = 14 := if_pos e14
        rw [ea] at hj ej
        have ed : dyi ((nx + 1) % 14) (acN ct) j = dyi nx ct (j + 1) := by
          rw [ea, e14]
          unfold dyi
          omega
        have hne : dyi nx ct (j + 1) ≠ nx := by
          rw [e14]
          unfold dyi
          omega
        rw [ed, e _ (by have := dyi_lt (nx := nx) (ct := ct) (j := j + 1); omega) hne]
        obtain ⟨g1, g2⟩ := h3 (j + 1) (by omega)
        refine ⟨rz_ext g1 (fun k hk => ?_), g2⟩
        rw [e14]
        exact diN_sh (by omega) hk
      · have ea : acN ct = ct + 1 := if_neg e14
        rw [ea] at hj ej
        have ed : dyi ((nx + 1) % 14) (acN ct) j = dyi nx ct j := by
          rw [ea]
          unfold dyi
          omega
        have hne : dyi nx ct j ≠ nx := by
          unfold dyi
          omega
        rw [ed, e _ (by have := dyi_lt (nx := nx) (ct := ct) (j := j); omega) hne]
        obtain ⟨g1, g2⟩ := h3 j (by omega)
        exact ⟨rz_ext g1 (fun k hk => diN_old hct (by omega) (by omega) hk), g2⟩
  · rw [e (14 + k) (by omega) (by omega), e16, hzB]
    exact h4 k hk
theorem rel_undo (h : REL ss q nx ct f fd fkp fik uf zz) (h0 : ¬ ct = 0) (e16 : zz2 16 = zz ((nx + 14 - 1) % 14)) (e : ∀ j, j ≤ 15 → zz2 j = zz j) (hB : ∀ j, (zz2 j).1.2 ≤ 8) : REL ss q ((nx + 14 - 1) % 14) (ct - 1) (rowA fd (ct - 1)) fd fkp fik uf zz2 := by
  obtain ⟨h1, h2, h3, h4, h5⟩ := h
  have hct := h1.2.2.2
  have hnx := h1.2.2.1
  have el : dyi nx ct (ct - 1) = (nx + 14 - 1) % 14 := by unfold dyi; omega
  obtain ⟨l1, l2⟩ := h3 (ct - 1) (by omega)
  rw [el] at l1 l2
  refine ⟨⟨h1.1, h1.2.1, Nat.mod_lt _ (by decide), by omega⟩, by rw [e16]; exact l1, fun j hj => ?_, fun k hk => ?_, hB⟩
  · have ed : dyi ((nx + 14 - 1) % 14) (ct - 1) j = dyi nx ct j := by unfold dyi; omega
    rw [ed, e _ (by have := dyi_lt (nx := nx) (ct := ct) (j := j); omega), e16, l2]
    exact h3 j (by omega)
  · rw [e (14 + k) (by omega), e16, l2]
    exact h4 k hk
theorem rel_save (h : REL ss q nx ct f fd fkp fik uf zz) {kk : Nat} (hk : kk < 2) (ek : zz2 (14 + kk) = zz 16) (e : ∀ j, j ≤ 16 → j ≠ 14 + kk → zz2 j = zz j) (hB : ∀ j, (zz2 j).1.2 ≤ 8) : REL ss q nx ct f fd (va_cpy f fkp 0 (151 * kk) 151) (upd fik kk 1) (upd uf kk 1) zz2 := by
  obtain ⟨h1, h2, h3, h4, h5⟩ := h
  have e16 := e 16 (Nat.le_refl _) (by omega)
  refine ⟨h1, by rw [e16]; exact h2, fun j hj => ?_, fun k hk2 => ?_, hB⟩
  · have := dyi_lt (nx := nx) (ct := ct) (j := j)
    rw [e _ (by omega) (by omega), e16]
    exact h3 j hj
  · by_cases c : k = kk
    · subst c
      rw [pk_us, pk_us, ek, e16]
      refine ⟨rfl, fun _ => ⟨rz_ext h2 (fun i hi => ?_), rfl⟩⟩
      unfold rowA va_cpy
      rw [if_pos (by omega)]
      exact congrArg _ (by omega)
    · rw [pk_un c, pk_un c, e (14 + k) (by omega) (by omega), e16]
      refine ⟨(h4 k hk2).1, fun y => ?_⟩
      obtain ⟨g1, g2⟩ := (h4 k hk2).2 y
      refine ⟨rz_ext g1 (fun i hi => ?_), g2⟩
      unfold rowA va_cpy
      rw [if_neg (by omega)]
theorem rel_rest (h : REL ss q nx ct f fd fkp fik uf zz) {kk : Nat} (hk : kk < 2) (hu : ¬ uf kk = 0) (e16 : zz2 16 = zz (14 + kk)) (e : ∀ j, j ≤ 15 → zz2 j = zz j) (hB : ∀ j, (zz2 j).1.2 ≤ 8) : REL ss q nx 0 (rowA fkp kk) fd fkp fik uf zz2 := by
  obtain ⟨h1, h2, h3, h4, h5⟩ := h
  obtain ⟨g1, g2⟩ := (h4 kk hk).2 hu
  refine ⟨⟨h1.1, h1.2.1, h1.2.2.1, Nat.zero_le _⟩, by rw [e16]; exact g1, fun j hj => absurd hj (Nat.not_lt_zero _), fun k hk2 => ?_, hB⟩
  rw [e (14 + k) (by omega), e16, g2]
  exact h4 k hk2
theorem rel_load (h : REL ss q nx ct f fd fkp fik uf zz) {g : Nat → Int32} {q2 : Nat} (hq : q2 ≤ 90) (hz : Rz (zz2 16) g) (hB : ∀ j, (zz2 j).1.2 ≤ 8) : REL ss q2 nx 0 g fd fkp (upd (upd fik 0 0) 1 0) (upd (upd uf 0 0) 1 0) zz2 := by
  obtain ⟨h1, h2, h3, h4, h5⟩ := h
  refine ⟨⟨h1.1, hq, h1.2.2.1, Nat.zero_le _⟩, hz, fun j hj => absurd hj (Nat.not_lt_zero _), fun k hk => ?_, hB⟩
  have : upd (upd uf 0 0) 1 0 k = 0 ∧ upd (upd fik 0 0) 1 0 k = 0 := by
    rcases (show k = 0 ∨ k = 1 by omega) with rfl | rfl
    · exact ⟨by rw [pk_un (by decide), pk_us], by rw [pk_un (by decide), pk_us]⟩
    · exact ⟨pk_us, pk_us⟩
  rw [this.1, this.2]
  exact ⟨rfl, fun y => absurd rfl y⟩
end RE
/-- the loop's state -/
def LST (D : va_G) (cI cL cZ cJ : ClassId) (ar ad : Nat → Nat) (dl : Nat → Nat → Nat) (sf sg : Nat → Option Nat) (A : Nat → Prop) (H : Heap) : Prop :=
  ∃ (rf rb rl : Int32) (ss : Nat) (ps : Bool × Nat) (t f ft flk fd fkp fik fl : Nat → Int32) (fo : Nat → Int64) (q : Nat) (vv : Nat → Int32) (nx ct : Nat) (uf : Nat → Int32) (zz : Nat → LgS), va_P D vwCl (bw (rfB cI cZ ar rf rb rl ss ps ct t f ft flk fd fkp fik fl (lwB cI cL cZ cJ ad dl sf sg fo t ss q vv nx ct uf zz))) H ∧ va_D A (bw (rfB cI cZ ar rf rb rl ss ps ct t f ft flk fd fkp fik fl (lwB cI cL cZ cJ ad dl sf sg fo t ss q vv nx ct uf zz))) ∧ REL ss q nx ct f fd fkp fik uf zz
