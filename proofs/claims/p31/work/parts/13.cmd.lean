-- THE REFERENCE'S COMMANDS as functions of the row; what they need is that record and sweepOnce come to an end
def swpT (f : Nat → Int32) (B : Nat) : Int32 × (Nat → Int32) := (swp f B).getD (0, f)
def recT (B : Nat) (key val : Int32) (f : Nat → Int32) : Int32 × (Nat → Int32) := (rec B key val 5000 f).getD (0, f)
def lookT (B : Nat) (f : Nat → Int32) : Int32 × (Nat → Int32) := recT B 0 0 (upd f 5 0)
/-- on this row all that the methods call comes to its end -/
def Ok (f : Nat → Int32) (B : Nat) : Prop := Wf f B ∧ (∀ key val, (rec B key val 5000 f).isSome = true) ∧ (rec B 0 0 5000 (upd f 5 0)).isSome = true ∧ (swp f B).isSome = true
theorem ok_swp {f : Nat → Int32} {B : Nat} (h : Ok f B) : swp f B = some ((swpT f B).1, (swpT f B).2) := by
  obtain ⟨r, hr⟩ := Option.isSome_iff_exists.mp h.2.2.2
  rw [swpT, hr]
  rfl
theorem ok_rec {f : Nat → Int32} {B : Nat} (h : Ok f B) (key val : Int32) : rec B key val 5000 f = some ((recT B key val f).1, (recT B key val f).2) := by
  obtain ⟨r, hr⟩ := Option.isSome_iff_exists.mp (h.2.1 key val)
  rw [recT, hr]
  rfl
theorem ok_look {f : Nat → Int32} {B : Nat} (h : Ok f B) : rec B 0 0 5000 (upd f 5 0) = some ((lookT B f).1, (lookT B f).2) := by
  obtain ⟨r, hr⟩ := Option.isSome_iff_exists.mp h.2.2.1
  rw [lookT, recT, hr]
  rfl
abbrev rmP (f : Nat → Int32) (B : Nat) : Prop := f 2 = 1 ∧ ¬ (lookT B f).1 < 0
def dPut (f : Nat → Int32) (B : Nat) (key val : Int32) : Nat → Int32 := if rmP f B then (recT B key val f).2 else f
abbrev dRmP (f : Nat → Int32) (B : Nat) (key : Int32) : Prop := vlu f key B ≠ -9 ∧ rmP f B
def dRem (f : Nat → Int32) (B : Nat) (key : Int32) : Nat → Int32 := if dRmP f B key then (recT B key (-9) f).2 else f
def dCut (f : Nat → Int32) (n : Int32) : Nat → Int32 := if f 2 = 0 then f else upd f 5 n
def dSta (f : Nat → Int32) (B : Nat) : Nat → Int32 := if f 2 = 1 then f else puR f B
/-- the key and the value of a put that is read -/
def cmK (t : Nat → Int32) (ss : Nat) (p : Bool × Nat) : Int32 := tv t ss (ac p true) 0 15
def cmV (t : Nat → Int32) (ss : Nat) (p : Bool × Nat) : Int32 := 10 * tv t ss (tw t ss (ac p true) 0 15) 0 99 + dv t ss (tw t ss (tw t ss (ac p true) 0 15) 0 99) 0 9
def cmN (t : Nat → Int32) (ss : Nat) (p : Bool × Nat) : Int32 := tv t ss (ac p true) 0 99
def cmQ (t : Nat → Int32) (ss : Nat) (p : Bool × Nat) : Int32 := dv t ss (ac p true) 0 2
/-- a command, done: is it left out -/
abbrev cmX (t : Nat → Int32) (ss : Nat) (p : Bool × Nat) (f : Nat → Int32) (B : Nat) : Prop :=
  if nxtP t ss p.2 112 then ¬ rmP f B
  else if nxtP t ss p.2 100 then ¬ dRmP f B (cmK t ss p)
  else if nxtP t ss p.2 99 then f 2 = 0
  else if nxtP t ss p.2 113 then False
  else if nxtP t ss p.2 119 then (swpT f B).1 = -9
  else f 2 = 1
/-- .. and the row behind it -/
def cmR (t : Nat → Int32) (ss : Nat) (p : Bool × Nat) (f : Nat → Int32) (B : Nat) : Nat → Int32 :=
  if nxtP t ss p.2 112 then dPut f B (cmK t ss p) (cmV t ss p)
  else if nxtP t ss p.2 100 then dRem f B (cmK t ss p)
  else if nxtP t ss p.2 99 then dCut f (cmN t ss p)
  else if nxtP t ss p.2 113 then upd f 6 (cmQ t ss p)
  else if nxtP t ss p.2 119 then (swpT f B).2
  else dSta f B
theorem upd_self (f : Nat → Int32) (k : Nat) : upd f k (f k) = f := by
  funext j
  unfold upd
  split
  · rename_i h; rw [h]
  · rfl
def rtV (q : Bool × Nat) : Int32 := if q.1 = true then -9 else nI q.2
/-- load's loop: from the place, the row and the number left out, to the row and the number at the end -/
def ldL (t : Nat → Int32) (ss B : Nat) (f9 : Nat → Int32) (l9 : Nat) : Nat → Bool × Nat → (Nat → Int32) → Nat → Prop
  | 0, _, _, _ => False
  | n + 1, p, f, l => if p.2 < ss then Ok f B ∧ (cm t ss p).2 ≤ ss ∧ ldL t ss B f9 l9 n (cm t ss p) (cmR t ss p f B) (l + if cmX t ss p f B then 1 else 0) else f = f9 ∧ l = l9
theorem cm_p {t : Nat → Int32} {ss : Nat} {p : Bool × Nat} (h : nxtP t ss p.2 112) : cm t ss p = dg t ss (tw t ss (tw t ss (ac p true) 0 15) 0 99) 0 9 := if_pos h
theorem cm_d {t : Nat → Int32} {ss : Nat} {p : Bool × Nat} (h : ¬ nxtP t ss p.2 112) (h1 : nxtP t ss p.2 100) : cm t ss p = tw t ss (ac p true) 0 15 := by rw [cm, if_neg h, if_pos h1]
theorem cm_c {t : Nat → Int32} {ss : Nat} {p : Bool × Nat} (h : ¬ nxtP t ss p.2 112) (h1 : ¬ nxtP t ss p.2 100) (h2 : nxtP t ss p.2 99) : cm t ss p = tw t ss (ac p true) 0 99 := by rw [cm, if_neg h, if_neg h1, if_pos h2]
theorem cm_q {t : Nat → Int32} {ss : Nat} {p : Bool × Nat} (h : ¬ nxtP t ss p.2 112) (h1 : ¬ nxtP t ss p.2 100) (h2 : ¬ nxtP t ss p.2 99) (h3 : nxtP t ss p.2 113) : cm t ss p = dg t ss (ac p true) 0 2 := by rw [cm, if_neg h, if_neg h1, if_neg h2, if_pos h3]
theorem cm_w {t : Nat → Int32} {ss : Nat} {p : Bool × Nat} (h : ¬ nxtP t ss p.2 112) (h1 : ¬ nxtP t ss p.2 100) (h2 : ¬ nxtP t ss p.2 99) (h3 : ¬ nxtP t ss p.2 113) : cm t ss p = ac p (decide (nxtP t ss p.2 119) || decide (nxtP t ss p.2 115)) := by rw [cm, if_neg h, if_neg h1, if_neg h2, if_neg h3]
theorem ac_tr {p : Bool × Nat} {ss : Nat} {t : Nat → Int32} {c : Int32} (h : p.2 ≤ ss) (hn : nxtP t ss p.2 c) : (ac p true).2 ≤ ss := ac_le h (fun _ => hn.1)
section RZ
variable {p : Program} {l : Launch} {e : Env} {R : Room} {s : State} {m : MethodId} {args : Array Value} {below : List Frame} {meth : Method} {c : Code} {H : Heap} {locs : List Loc} {cells slots : Nat} {Q : State → Prop} {cc : ByteArray} {pc : Nat} {ls : Array Slot} {rest : List Value} {D : va_G} {cl : List vw_C} {A : Nat → Prop} {a : Nat} {tys : List (ClassId × FieldType)} {ws : va_W} {H0 : Heap}
theorem ra_zast (hx : p.tables.exec = Jvm.exec) (hb : c.code = cc) (hK : va_K D cl tys s) (hP : va_P D cl ws H) (hD : va_D A ws) (hS : va_S A H0 H locs) (q0 t0 : Nat) {cA : ClassId} {n : Nat} {f : Nat → Int32} (ha : ws[q0]? = some (a, .inl (cA, n, .inl f))) (ht : tys[t0]? = some (cA, .boolean)) {i : Nat} {x : Int32} (hn9 : vp_nar .boolean x = x) (hi : i < n) (hn : n < 2 ^ 31) (hdg : decode cc pc = .ok (.bastore, 1))
    (kk : ∀ (H1 : Heap) (locs1 : List Loc), va_P D cl (ws.set q0 (a, .inl (cA, n, .inl (upd f i x)))) H1 → va_D A (ws.set q0 (a, .inl (cA, n, .inl (upd f i x)))) → va_S A H0 H1 locs1 → W p l e R s m args below meth c H1 locs1 cells slots Q (F0 m (pc + 1) ls rest)) : W p l e R s m args below meth c H locs cells slots Q (F0 m pc ls (.int x :: .int (nI i) :: .ref a :: rest)) := by
  refine va_zast hx hb hK hP hD hS q0 t0 ha ht (vp_in_nI hi hn) hdg ?_
  rw [nI_clamp (Nat.lt_trans hi hn), hn9]
  exact kk
end RZ
