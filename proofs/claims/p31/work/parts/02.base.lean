-- what every walk below stands on: words in one list, a value by another name, methods that only read, methods that write no new cell
/-- an option as Java has it: -9 is none -/
def oI : Option Nat → Int32 | none => -9 | some a => nI a
/-- a truth as Java has it -/
def bI (P : Prop) [Decidable P] : Int32 := if P then 1 else 0
theorem bI_t {P : Prop} [Decidable P] (h : ¬ bI P = 0) : P := by
  by_cases hp : P
  · exact hp
  · exact absurd (if_neg hp) h
theorem bI_f {P : Prop} [Decidable P] (h : bI P = 0) : ¬ P := by
  intro hp
  rw [bI, if_pos hp] at h
  exact absurd h (by decide)
theorem bI_1 {P : Prop} [Decidable P] (h : P) : bI P = 1 := if_pos h
theorem bI_0 {P : Prop} [Decidable P] (h : ¬ P) : bI P = 0 := if_neg h
theorem bI_nar {P : Prop} [Decidable P] : narrow .boolean (.int (bI P)) = .int (bI P) := by
  by_cases hp : P
  · rw [bI_1 hp]; rfl
  · rw [bI_0 hp]; rfl
theorem bI_fits {P : Prop} [Decidable P] : fits .boolean (.int (bI P)) = true := by
  by_cases hp : P
  · rw [bI_1 hp]; rfl
  · rw [bI_0 hp]; rfl
theorem cn_lt {a b : Nat} (ha : a < 2 ^ 31) (hb : b < 2 ^ 31) (h : nI a < nI b) : a < b := (nI_ltI ha hb).mp h
theorem cn_nlt {a b : Nat} (ha : a < 2 ^ 31) (hb : b < 2 ^ 31) (h : ¬ nI a < nI b) : b ≤ a := Nat.le_of_not_lt (fun z => h ((nI_ltI ha hb).mpr z))
theorem cn_le {a b : Nat} (ha : a < 2 ^ 31) (hb : b < 2 ^ 31) (h : nI a ≤ nI b) : a ≤ b := (nI_leI ha hb).mp h
theorem cn_nle {a b : Nat} (ha : a < 2 ^ 31) (hb : b < 2 ^ 31) (h : ¬ nI a ≤ nI b) : b < a := Nat.lt_of_not_le (fun z => h ((nI_leI ha hb).mpr z))
theorem cn_eq {a b : Nat} (ha : a < 2 ^ 31) (hb : b < 2 ^ 31) (h : nI a = nI b) : a = b := (nI_eq ha hb).mp h
theorem cn_ne {a b : Nat} (ha : a < 2 ^ 31) (hb : b < 2 ^ 31) (h : ¬ nI a = nI b) : a ≠ b := fun z => h (by rw [z])
theorem i_nlt {x y : Int32} (h : x ≤ y) : ¬ y < x := by
  rw [Int32.lt_iff_toInt_lt]
  rw [Int32.le_iff_toInt_le] at h
  omega
theorem i_lt {x y : Int32} (h : ¬ x ≤ y) : y < x := by
  rw [Int32.lt_iff_toInt_lt]
  rw [Int32.le_iff_toInt_le] at h
  omega
theorem oI_ne {a : Nat} (h : a < 2 ^ 31) : ¬ oI (some a) = -9 := fun z => by
  have h1 := congrArg Int32.toInt z
  rw [show oI (some a) = nI a from rfl, nI_toInt h] at h1
  have h2 : ((-9 : Int32)).toInt = -9 := by decide
  rw [h2] at h1
  omega
theorem oI_none (o : Option Nat) (h : ∀ a, o = some a → a < 2 ^ 31) : oI o = -9 ↔ o = none := by
  cases o with
  | none => simp [oI]
  | some a => simp; exact oI_ne (h a rfl)
theorem oI_eqN {o : Option Nat} {a : Nat} (h : ∀ x, o = some x → x < 2 ^ 31) (ha : a < 2 ^ 31) (e : oI o = nI a) : o = some a := by
  cases o with
  | none =>
    have e2 : oI (some a) = -9 := e.symm
    exact absurd e2 (oI_ne ha)
  | some x => rw [(nI_eq (h x rfl) ha).mp e]
theorem oI_neN {o : Option Nat} {a : Nat} (e : ¬ oI o = nI a) : ¬ o = some a := fun z => e (by rw [z]; rfl)
theorem oI_n {o : Option Nat} (h : ∀ x, o = some x → x < 2 ^ 31) (e : oI o = -9) : o = none := by
  cases o with
  | none => rfl
  | some x => exact absurd e (oI_ne (h x rfl))
section RB
variable {p : Program} {l : Launch} {e : Env} {R : Room} {s : State} {m : MethodId} {args : Array Value} {below : List Frame} {meth : Method} {c : Code} {H : Heap} {locs : List Loc} {cells slots : Nat} {Q : State → Prop} {cc : ByteArray} {pc : Nat} {ls : Array Slot} {rest : List Value} {D : va_G} {cl : List vw_C} {A : Nat → Prop} {a : Nat} {tys : List (ClassId × FieldType)} {ws : va_W} {H0 : Heap}
/-- the top of the stack by another name -/
theorem lv_as {x y : Int32} (h : x = y) (k : W p l e R s m args below meth c H locs cells slots Q (F0 m pc ls (.int y :: rest))) : W p l e R s m args below meth c H locs cells slots Q (F0 m pc ls (.int x :: rest)) := h ▸ k
theorem lv_asl {x y : Int64} (h : x = y) (k : W p l e R s m args below meth c H locs cells slots Q (F0 m pc ls (.long y :: rest))) : W p l e R s m args below meth c H locs cells slots Q (F0 m pc ls (.long x :: rest)) := h ▸ k
/-- a local by another name -/
theorem lv_re {nL : Nat} {lv : List (Nat × Value)} (h : lv_has ls nL lv) (k : Nat) {i : Nat} {x y : Int32} (hk : lv[k]? = some (i, .int x)) (e : x = y) : lv_has ls nL (lv.set k (i, .int y)) := by
  subst e
  have hl := (List.getElem?_eq_some_iff.mp hk)
  obtain ⟨hl, hg⟩ := hl
  rw [← hg, List.set_getElem_self]
  exact h
/-- a place of an int array, by a number -/
theorem ra_iald (hx : p.tables.exec = Jvm.exec) (hb : c.code = cc) (hK : va_K D cl tys s) (hP : va_P D cl ws H) (q0 t0 : Nat) {cA : ClassId} {n : Nat} {f : Nat → Int32} (ha : ws[q0]? = some (a, .inl (cA, n, .inl f))) (ht : tys[t0]? = some (cA, .int)) {i : Nat} (hi : i < n) (hn : n < 2 ^ 31) (hdg : decode cc pc = .ok (.iaload, 1))
    (kk : W p l e R s m args below meth c H locs cells slots Q (F0 m (pc + 1) ls (.int (f i) :: rest))) : W p l e R s m args below meth c H locs cells slots Q (F0 m pc ls (.int (nI i) :: .ref a :: rest)) := by
  refine va_iald hx hb hK hP q0 t0 ha ht (vp_in_nI hi hn) hdg ?_
  rw [nI_clamp (Nat.lt_trans hi hn)]
  exact kk
theorem ra_zald (hx : p.tables.exec = Jvm.exec) (hb : c.code = cc) (hK : va_K D cl tys s) (hP : va_P D cl ws H) (q0 t0 : Nat) {cA : ClassId} {n : Nat} {f : Nat → Int32} (ha : ws[q0]? = some (a, .inl (cA, n, .inl f))) (ht : tys[t0]? = some (cA, .boolean)) {i : Nat} (hi : i < n) (hn : n < 2 ^ 31) (hdg : decode cc pc = .ok (.baload, 1))
    (kk : W p l e R s m args below meth c H locs cells slots Q (F0 m (pc + 1) ls (.int (f i) :: rest))) : W p l e R s m args below meth c H locs cells slots Q (F0 m pc ls (.int (nI i) :: .ref a :: rest)) := by
  refine va_zald hx hb hK hP q0 t0 ha ht (vp_in_nI hi hn) hdg ?_
  rw [nI_clamp (Nat.lt_trans hi hn)]
  exact kk
theorem ra_iast (hx : p.tables.exec = Jvm.exec) (hb : c.code = cc) (hK : va_K D cl tys s) (hP : va_P D cl ws H) (hD : va_D A ws) (hS : va_S A H0 H locs) (q0 t0 : Nat) {cA : ClassId} {n : Nat} {f : Nat → Int32} (ha : ws[q0]? = some (a, .inl (cA, n, .inl f))) (ht : tys[t0]? = some (cA, .int)) {i : Nat} {x : Int32} (hi : i < n) (hn : n < 2 ^ 31) (hdg : decode cc pc = .ok (.iastore, 1))
    (kk : ∀ (H1 : Heap) (locs1 : List Loc), va_P D cl (ws.set q0 (a, .inl (cA, n, .inl (upd f i x)))) H1 → va_D A (ws.set q0 (a, .inl (cA, n, .inl (upd f i x)))) → va_S A H0 H1 locs1 → W p l e R s m args below meth c H1 locs1 cells slots Q (F0 m (pc + 1) ls rest)) : W p l e R s m args below meth c H locs cells slots Q (F0 m pc ls (.int x :: .int (nI i) :: .ref a :: rest)) := by
  refine va_iast hx hb hK hP hD hS q0 t0 ha ht (vp_in_nI hi hn) hdg ?_
  rw [nI_clamp (Nat.lt_trans hi hn)]
  exact kk
end RB
/-- what a call needs of the words that doesn't change from call to call -/
def CQ (Wd : List Cond) (y : MethodName) (b : ByteArray) (nL : Nat) (ret : Option FieldType) (n : Nat) : Prop :=
  Cond.code y b nL ret ∈ Wd ∧ (y.cls ≠ "java/lang/invoke/MethodHandle" ∧ y.cls ≠ "java/lang/invoke/VarHandle" ∧ (parseMethodDescriptor y.desc).map (fun d => d.parameters.length) = some n)
theorem gd_S {Wd : List Cond} {own : String} {idx : Nat} {y : MethodName} {b : ByteArray} {nL n : Nat} {ret : Option FieldType} (hG : GoodIn Wd Wd) (hi : Cond.initialized own ∈ Wd) (hl : Cond.methodLink own idx y ∈ Wd) (hs : Cond.static y ∈ Wd) (hq : CQ Wd y b nL ret n) : GoodIn Wd (wsS own idx y (.code y b nL ret :: Wd)) := by
  intro w hw
  rcases List.mem_append.mp hw with h | h
  · rcases List.mem_cons.mp h with h | h
    · exact h ▸ hG _ hl
    · rcases List.mem_cons.mp h with h | h
      · exact h ▸ hG _ hs
      · exact List.mem_singleton.mp h ▸ hG _ hi
  · rcases List.mem_cons.mp h with h | h
    · exact h ▸ hG _ hq.1
    · exact hG _ h
theorem gd_V {Wd : List Cond} {own C : String} {idx : Nat} {y : MethodName} {b : ByteArray} {nL n : Nat} {ret : Option FieldType} (hG : GoodIn Wd Wd) (hi : Cond.initialized C ∈ Wd) (hl : Cond.methodLink own idx y ∈ Wd) (hs : Cond.instanceMethod y ∈ Wd) (hsel : Cond.selects C y y ∈ Wd) (hq : CQ Wd y b nL ret n) : GoodIn Wd (wsV own idx C y (.code y b nL ret :: Wd)) := by
  intro w hw
  rcases List.mem_append.mp hw with h | h
  · rcases List.mem_cons.mp h with h | h
    · exact h ▸ hG _ hl
    · rcases List.mem_cons.mp h with h | h
      · exact h ▸ hG _ hs
      · rcases List.mem_cons.mp h with h | h
        · exact h ▸ hG _ hsel
        · exact List.mem_singleton.mp h ▸ hG _ hi
  · rcases List.mem_cons.mp h with h | h
    · exact h ▸ hG _ hq.1
    · exact hG _ h
-- ===== methods that only read: no cell changes, none is made =====
def rp_Pc (D : va_G) (ws : va_W) (tys : List (ClassId × FieldType)) (av : List Value) : Array Value → State → Prop := va_Pc av (fun U => va_P D vwCl ws U.heap ∧ va_K D vwCl tys U)
theorem rp_blind {D : va_G} {ws : va_W} {tys : List (ClassId × FieldType)} {av : List Value} : FrameBlind (rp_Pc D ws tys av) := fun a U g mk q => ⟨q.1, q.2.1, va_K.moved (u := U) (U := U.calling g mk a) (Vm.Alike.refl U.vm) q.2.2⟩
def rp_Qi (res : Int32) : Array Value → State → Outcome → State → Prop := va_Qi (fun r (_ : Unit) => r = res) (fun _ _ => True) (fun _ => False)
/-- y, called with av where the cells ws lie, answers res and changes nothing -/
def RP (l : Launch) (y : MethodName) (b : ByteArray) (nL : Nat) (ret : FieldType) (Wd : List Cond) (fr lo : Nat) (D : va_G) (ws : va_W) (tys : List (ClassId × FieldType)) (av : List Value) (res : Int32) : Prop :=
  Met l y (.code y b nL (some ret) :: Wd) ({ frames := fr, cells := 0, slots := 0, locals := lo }) (rp_Pc D ws tys av) (rp_Qi res) 0 0 (fun _ => False)
theorem rp_of {l : Launch} {y : MethodName} {b : ByteArray} {nL : Nat} {ret : FieldType} {Wd : List Cond} {fr lo : Nat} {D : va_G} {ws : va_W} {tys : List (ClassId × FieldType)} {av : List Value} {res : Int32} (own : String) (hy : plainName y.cls = true) (hyo : y.cls = own) (hlen : (lg_sl av).length ≤ nL)
    (body : ∀ (p : Program) (e : Env) (s : State) (m : MethodId) (below : List Frame) (meth : Method) (c : Code) (ls : Array Slot), CallFix p m c b nL s av.toArray Wd own → meth.sig.returnType = some ret → meth.locks = false → va_K D vwCl tys s → va_P D vwCl ws s.heap → va_S (fun _ => False) s.heap s.heap [] → lv_has ls nL (lv_args 0 av) →
      W p l e ({ frames := fr, cells := 0, slots := 0, locals := lo } : Room) s m av.toArray below meth c s.heap [] 0 0 (MQ below (rp_Qi res) av.toArray s 0 0 (fun _ => False)) (F0 m 0 ls [])) : RP l y b nL ret Wd fr lo D ws tys av res := by
  refine Met.ofW (cc := b) (maxL := nL) (ret := some ret) hy rfl ?_
  intro p e s m args below meth c s₁ B hml hv
  obtain ⟨rfl, hP, hK⟩ := hv
  have hts := atoms_spec (ws := .code y b nL (some ret) :: Wd) B.pre
  have hl := lv_entry av hlen
  rw [lg_entry_eq]
  exact body p e s m below meth c _ ⟨B.exec, B.bytes, hml, hyo ▸ findClass_of_methodNamed B.named, fun w h => hts w (List.mem_cons_of_mem _ h)⟩ B.returns B.notSynchronized hK hP va_S.rf hl
section RC
variable {p : Program} {l : Launch} {e : Env} {R : Room} {s : State} {m : MethodId} {args : Array Value} {below : List Frame} {meth : Method} {c : Code} {H : Heap} {locs : List Loc} {cells slots : Nat} {Q : State → Prop} {cc : ByteArray} {pc : Nat} {ls : Array Slot} {rest st0 : List Value} {D : va_G} {A A0 : Nat → Prop} {tys tc : List (ClassId × FieldType)} {ws wc : va_W} {H0 : Heap} {nL nL2 fr lo idx : Nat} {Wd : List Cond} {own C : String} {y : MethodName} {b2 : ByteArray} {ret : FieldType} {av As : List Value} {res : Int32} {b : Addr} {free : Addr → Prop}
theorem rp_ret {v : Int32} (hx : CallFix p m c cc nL s args Wd own) (hr : meth.sig.returnType = some .int) (hlocks : meth.locks = false) (hS : va_S (fun _ => False) s.heap H locs) (hv : v = res) (hdg : decode cc pc = .ok (.ireturn, 1)) : W p l e R s m args below meth c H locs cells slots (MQ below (rp_Qi res) args s cells slots (fun _ => False)) (F0 m pc ls [.int v]) :=
  W.iret hx.1 hx.2.1 hr (fun t ht _ => ⟨⟨v, (), rfl, hv, trivial⟩, hS.F ht⟩) hS.2.2 hdg
theorem rp_retz {v : Int32} (hx : CallFix p m c cc nL s args Wd own) (hr : meth.sig.returnType = some .boolean) (hlocks : meth.locks = false) (hS : va_S (fun _ => False) s.heap H locs) {P : Prop} [Decidable P] (hv : v = bI P) (hdg : decode cc pc = .ok (.ireturn, 1)) : W p l e R s m args below meth c H locs cells slots (MQ below (rp_Qi (bI P)) args s cells slots (fun _ => False)) (F0 m pc ls [.int v]) :=
  W.zret hx.1 hx.2.1 hr (by rw [hv]; exact bI_nar) (fun t ht _ => ⟨⟨v, (), rfl, hv, trivial⟩, hS.F ht⟩) hS.2.2 hdg
/-- behind a call of a method that only reads -/
theorem rp_back {as : Array Value} (hr : va_Run p l e R s m args below meth c H locs cells slots 0 0 (F0 m pc ls st0) rest (rp_Qi res as) (fun _ => False)) (hP : va_P D vwCl ws H) (hS : va_S A0 H0 H locs)
    (kk : ∀ (H1 : Heap) (locs1 : List Loc), va_P D vwCl ws H1 → va_S A0 H0 H1 locs1 → W p l e R s m args below meth c H1 locs1 cells slots Q (F0 m (pc + 3) ls (.int res :: rest))) : W p l e R s m args below meth c H locs cells slots Q (F0 m pc ls st0) := by
  refine va_calli hr hS (fun _ _ h => h.elim) (fun _ h => h.elim) (fun r u t H1 locs1 ht hvm hp hB hz hk hS1 => ?_)
  subst hp
  exact kk H1 locs1 (hP.kept (fun k q hq => hk q.1 (hP k q hq).lt (fun h => h))) hS1
theorem rp_callS (hX : CallFix p m c cc nL s args Wd own) (hG : GoodIn Wd Wd) (hi : Cond.initialized own ∈ Wd) (hM : RP l y b2 nL2 ret Wd fr lo D wc tc av res) (hq : CQ Wd y b2 nL2 (some ret) av.length) (hyo : y.cls = own) (hl : Cond.methodLink own idx y ∈ Wd) (hs : Cond.static y ∈ Wd) (hR : fr + 1 ≤ R.frames ∧ 8 + (nL2 + 11) + lo ≤ R.locals)
    (hK : va_K D vwCl tys s) (isT : List Nat) (hT : isT.filterMap (fun i => tys[i]?) = tc) (hP : va_P D vwCl ws H) (isC : List Nat) (hC : isC.filterMap (fun i => ws[i]?) = wc) (hS : va_S A0 H0 H locs) (hls : ls.size = nL) (hstk : st0 = av.reverse ++ rest) (hW : (rest.map fun v => v.category).sum ≤ 8) (hdg : decode cc pc = .ok (.invokestatic idx, 3)) (hcs : cells ≤ R.cells ∧ slots ≤ R.slots)
    (kk : ∀ (H1 : Heap) (locs1 : List Loc), va_P D vwCl ws H1 → va_S A0 H0 H1 locs1 → W p l e R s m args below meth c H1 locs1 cells slots Q (F0 m (pc + 3) ls (.int res :: rest))) : W p l e R s m args below meth c H locs cells slots Q (F0 m pc ls st0) := by
  have hPc := hP.sub isC hC
  have hKc := hK.sub isT hT
  refine rp_back (as := av.toArray) (va_runS (As := av) (rest := rest) hX hM (cwS av.length hX.2.2.2.2 (gd_S hG hi hl hs hq) rfl rfl rfl ⟨hyo, hq.2⟩ hR) ⟨rp_blind, fun U hU hW => ⟨rfl, by rw [hU]; exact hPc, va_K.moved hW.alike hKc⟩⟩ rfl rfl hls hstk (lv_room hW) hdg hcs) hP hS kk
theorem rp_callV (hX : CallFix p m c cc nL s args Wd own) (hG : GoodIn Wd Wd) (hi : Cond.initialized C ∈ Wd) (hM : RP l y b2 nL2 ret Wd fr lo D wc tc (.ref b :: As) res) (hq : CQ Wd y b2 nL2 (some ret) As.length) (hyo : y.cls = C) (hl : Cond.methodLink own idx y ∈ Wd) (hs : Cond.instanceMethod y ∈ Wd) (hsel : Cond.selects C y y ∈ Wd) (hR : fr + 1 ≤ R.frames ∧ 8 + (nL2 + 11) + lo ≤ R.locals)
    (hK : va_K D vwCl tys s) (isT : List Nat) (hT : isT.filterMap (fun i => tys[i]?) = tc) (hP : va_P D vwCl ws H) (isC : List Nat) (hC : isC.filterMap (fun i => ws[i]?) = wc) {ci q0 : Nat} {qc : vw_C} {fs : List Value} (hc : vwCl[ci]? = some qc) (hcC : qc.1 = C) (hrc : wc[q0]? = some (b, .inr (ci, fs))) (hS : va_S A0 H0 H locs) (hls : ls.size = nL) (hstk : st0 = As.reverse ++ .ref b :: rest) (hW : (rest.map fun v => v.category).sum ≤ 8) (hdg : decode cc pc = .ok (.invokevirtual idx, 3)) (hcs : cells ≤ R.cells ∧ slots ≤ R.slots)
    (kk : ∀ (H1 : Heap) (locs1 : List Loc), va_P D vwCl ws H1 → va_S A0 H0 H1 locs1 → W p l e R s m args below meth c H1 locs1 cells slots Q (F0 m (pc + 3) ls (.int res :: rest))) : W p l e R s m args below meth c H locs cells slots Q (F0 m pc ls st0) := by
  have hPc := hP.sub isC hC
  have hKc := hK.sub isT hT
  subst hcC
  refine rp_back (as := (Value.ref b :: As).toArray) (va_runV (As := As) (rest := rest) (b := b) (C := qc.1) hX hM (cwV As.length hX.2.2.2.2 (gd_V hG hi hl hs hsel hq) rfl rfl rfl ⟨hyo, hq.2⟩ hR) ⟨rp_blind, va_recv hKc hPc hc hrc, fun U hU hW => ⟨rfl, by rw [hU]; exact hPc, va_K.moved hW.alike hKc⟩⟩ rfl rfl hls hstk (lv_room hW) hdg hcs) hP hS kk
end RC
-- ===== methods that write, and make no cell =====
/-- a world with some of its cells put anew -/
def gp_put (ws : va_W) (is : List Nat) (w1 : va_W) : va_W := (is.zip w1).foldl (fun w q => w.set q.1 q.2) ws
theorem gp_put_get : ∀ (is : List Nat) (w1 ws : va_W), is.length = w1.length → ∀ (k : Nat) (q : Nat × va_E), (gp_put ws is w1)[k]? = some q → (∃ j : Nat, is[j]? = some k ∧ w1[j]? = some q) ∨ (k ∉ is ∧ ws[k]? = some q) := by
  intro is
  induction is with
  | nil => intro w1 ws _ k q h; exact Or.inr ⟨List.not_mem_nil, h⟩
  | cons i is ih =>
    intro w1 ws hlen k q h
    cases w1 with
    | nil => simp at hlen
    | cons x w1 =>
      have h' : (gp_put (ws.set i x) is w1)[k]? = some q := h
      rcases ih w1 (ws.set i x) (by simpa using hlen) k q h' with ⟨j, h1, h2⟩ | ⟨h1, h2⟩
      · exact Or.inl ⟨j + 1, by simpa using h1, by simpa using h2⟩
      · by_cases hk : i = k
        · subst hk
          refine Or.inl ⟨0, by simp, ?_⟩
          rw [List.getElem?_set] at h2
          simp at h2
          simp [h2.2]
        · rw [List.getElem?_set_ne hk] at h2
          exact Or.inr ⟨by simp [h1, Ne.symm hk], h2⟩
def gp_A (ws : va_W) : Nat → Prop := fun q => ∃ (k : Nat) (e : va_E), ws[k]? = some (q, e)
theorem gp_join {A0 : Nat → Prop} {D : va_G} {cl : List vw_C} {ws wc w1 : va_W} {H H1 : Heap} (hP : va_P D cl ws H) (hD : va_D A0 ws) (is : List Nat) (hC : is.map (fun i => ws[i]?) = wc.map some) (hadr : w1.map Prod.fst = wc.map Prod.fst)
    (hk : ∀ q : Nat, q < H.size → ¬ gp_A wc q → H1[q]? = H[q]?) (hP1 : va_P D cl w1 H1) : va_P D cl (gp_put ws is w1) H1 ∧ va_D A0 (gp_put ws is w1) := by
  have hlen : is.length = w1.length := by
    have h1 := congrArg List.length hC
    have h2 := congrArg List.length hadr
    simp at h1 h2
    omega
  have hwc : ∀ (j : Nat) (q : Nat × va_E), wc[j]? = some q → ∃ i, is[j]? = some i ∧ ws[i]? = some q := by
    intro j q hq
    have h1 : (is.map (fun i => ws[i]?))[j]? = some (some q) := by rw [hC, List.getElem?_map, hq]; rfl
    rw [List.getElem?_map] at h1
    cases hi : is[j]? with
    | none => rw [hi] at h1; cases h1
    | some i => rw [hi] at h1; exact ⟨i, rfl, Option.some.inj h1⟩
  have key : ∀ (k : Nat) (q : Nat × va_E), (gp_put ws is w1)[k]? = some q → ∃ q0, ws[k]? = some q0 ∧ q0.1 = q.1 := by
    intro k q h
    rcases gp_put_get is w1 ws hlen k q h with ⟨j, h1, h2⟩ | ⟨-, h2⟩
    · have h3 : (wc.map Prod.fst)[j]? = some q.1 := by rw [← hadr, List.getElem?_map, h2]; rfl
      rw [List.getElem?_map] at h3
      cases hw : wc[j]? with
      | none => rw [hw] at h3; cases h3
      | some q0 =>
        rw [hw] at h3
        obtain ⟨i, h4, h5⟩ := hwc j q0 hw
        rw [h1] at h4
        cases h4
        exact ⟨q0, h5, Option.some.inj h3⟩
    · exact ⟨q, h2, rfl⟩
  refine ⟨fun k q h => ?_, fun i j x y hi hj hxy => ?_, fun k q h => ?_⟩
  · rcases gp_put_get is w1 ws hlen k q h with ⟨j, h1, h2⟩ | ⟨h1, h2⟩
    · exact hP1 j q h2
    · have hl := (hP k q h2).lt
      refine (hP k q h2).kept (hk q.1 hl (fun z => ?_))
      obtain ⟨j, e, hz⟩ := z
      obtain ⟨i, h3, h4⟩ := hwc j _ hz
      have := hD.1 k i q _ h2 h4 rfl
      subst this
      exact h1 (List.mem_of_getElem? h3)
  · obtain ⟨x0, h1, h2⟩ := key i x hi
    obtain ⟨y0, h3, h4⟩ := key j y hj
    exact hD.1 i j x0 y0 h1 h3 (h2.trans (hxy.trans h4.symm))
  · obtain ⟨q0, h1, h2⟩ := key k q h
    rw [← h2]
    exact hD.2 k q0 h1
def gp_Pc (D : va_G) (ws : va_W) (tys : List (ClassId × FieldType)) (av : List Value) : Array Value → State → Prop := va_Pc av (fun U => va_P D vwCl ws U.heap ∧ va_K D vwCl tys U ∧ va_D (gp_A ws) ws)
theorem gp_blind {D : va_G} {ws : va_W} {tys : List (ClassId × FieldType)} {av : List Value} : FrameBlind (gp_Pc D ws tys av) := fun a U g mk q => ⟨q.1, q.2.1, va_K.moved (u := U) (U := U.calling g mk a) (Vm.Alike.refl U.vm) q.2.2.1, q.2.2.2⟩
theorem gp_self {A : Nat → Prop} {ws : va_W} (h : va_D A ws) : va_D (gp_A ws) ws := ⟨h.1, fun k q hk => ⟨k, q.2, hk⟩⟩
/-- y, called with av where the cells ws lie, answers r and leaves the cells u, post r u; no other old cell changes, none is made -/
def GPi (l : Launch) (y : MethodName) (b : ByteArray) (nL : Nat) (ret : FieldType) (Wd : List Cond) (fr lo : Nat) (D : va_G) (ws : va_W) (tys : List (ClassId × FieldType)) (av : List Value) (post : Int32 → va_W → Prop) : Prop :=
  Met l y (.code y b nL (some ret) :: Wd) ({ frames := fr, cells := 0, slots := 0, locals := lo }) (gp_Pc D ws tys av) (va_Qi post (fun u t => va_P D vwCl u t.heap) (gp_A ws)) 0 0 (gp_A ws)
def GPv (l : Launch) (y : MethodName) (b : ByteArray) (nL : Nat) (Wd : List Cond) (fr lo : Nat) (D : va_G) (ws : va_W) (tys : List (ClassId × FieldType)) (av : List Value) (post : va_W → Prop) : Prop :=
  Met l y (.code y b nL none :: Wd) ({ frames := fr, cells := 0, slots := 0, locals := lo }) (gp_Pc D ws tys av) (va_Qv post (fun u t => va_P D vwCl u t.heap) (gp_A ws)) 0 0 (gp_A ws)
theorem gp_of {l : Launch} {y : MethodName} {b : ByteArray} {nL : Nat} {ret : Option FieldType} {Wd : List Cond} {fr lo : Nat} {D : va_G} {ws : va_W} {tys : List (ClassId × FieldType)} {av : List Value} {Qc : Array Value → State → Outcome → State → Prop} (own : String) (hy : plainName y.cls = true) (hyo : y.cls = own) (hlen : (lg_sl av).length ≤ nL)
    (body : ∀ (p : Program) (e : Env) (s : State) (m : MethodId) (below : List Frame) (meth : Method) (c : Code) (ls : Array Slot) (H : Heap), CallFix p m c b nL s av.toArray Wd own → meth.sig.returnType = ret → meth.locks = false → va_K D vwCl tys s → va_P D vwCl ws H → va_D (gp_A ws) ws → va_S (gp_A ws) s.heap H [] → lv_has ls nL (lv_args 0 av) →
      W p l e ({ frames := fr, cells := 0, slots := 0, locals := lo } : Room) s m av.toArray below meth c H [] 0 0 (MQ below Qc av.toArray s 0 0 (gp_A ws)) (F0 m 0 ls [])) : Met l y (.code y b nL ret :: Wd) ({ frames := fr, cells := 0, slots := 0, locals := lo }) (gp_Pc D ws tys av) Qc 0 0 (gp_A ws) := by
  refine Met.ofW (cc := b) (maxL := nL) (ret := ret) hy rfl ?_
  intro p e s m args below meth c s₁ B hml hv
  obtain ⟨rfl, hP, hK, hD⟩ := hv
  have hts := atoms_spec (ws := .code y b nL ret :: Wd) B.pre
  have hl := lv_entry av hlen
  rw [lg_entry_eq]
  exact body p e s m below meth c _ _ ⟨B.exec, B.bytes, hml, hyo ▸ findClass_of_methodNamed B.named, fun w h => hts w (List.mem_cons_of_mem _ h)⟩ B.returns B.notSynchronized hK hP hD va_S.rf hl
section GC
variable {p : Program} {l : Launch} {e : Env} {R : Room} {s : State} {m : MethodId} {args : Array Value} {below : List Frame} {meth : Method} {c : Code} {H : Heap} {locs : List Loc} {cells slots : Nat} {Q : State → Prop} {cc : ByteArray} {pc : Nat} {ls : Array Slot} {rest st0 : List Value} {D : va_G} {A A0 : Nat → Prop} {tys tc : List (ClassId × FieldType)} {ws wc w0 : va_W} {H0 : Heap} {nL nL2 fr lo idx : Nat} {Wd : List Cond} {own C : String} {y : MethodName} {b2 : ByteArray} {ret : FieldType} {av As : List Value} {b : Addr} {free : Addr → Prop}
theorem gp_reti {v : Int32} {post : Int32 → va_W → Prop} {u : va_W} (hx : CallFix p m c cc nL s args Wd own) (hr : meth.sig.returnType = some .int) (hlocks : meth.locks = false) (hS : va_S A s.heap H locs) (hP : va_P D vwCl u H) (hpost : post v u) (hdg : decode cc pc = .ok (.ireturn, 1)) : W p l e R s m args below meth c H locs cells slots (MQ below (va_Qi post (fun u t => va_P D vwCl u t.heap) A) args s cells slots A) (F0 m pc ls [.int v]) :=
  W.iret hx.1 hx.2.1 hr (fun t ht _ => ⟨⟨v, u, rfl, hpost, by show va_P D vwCl u t.heap; rw [ht]; exact hP⟩, hS.F ht⟩) hS.2.2 hdg
theorem gp_retz {v : Int32} {post : Int32 → va_W → Prop} {u : va_W} (hx : CallFix p m c cc nL s args Wd own) (hr : meth.sig.returnType = some .boolean) (hlocks : meth.locks = false) (hS : va_S A s.heap H locs) (hP : va_P D vwCl u H) {P : Prop} [Decidable P] (hv : v = bI P) (hpost : post v u) (hdg : decode cc pc = .ok (.ireturn, 1)) : W p l e R s m args below meth c H locs cells slots (MQ below (va_Qi post (fun u t => va_P D vwCl u t.heap) A) args s cells slots A) (F0 m pc ls [.int v]) :=
  W.zret hx.1 hx.2.1 hr (by rw [hv]; exact bI_nar) (fun t ht _ => ⟨⟨v, u, rfl, hpost, by show va_P D vwCl u t.heap; rw [ht]; exact hP⟩, hS.F ht⟩) hS.2.2 hdg
theorem gp_retv {post : va_W → Prop} {u : va_W} (hx : CallFix p m c cc nL s args Wd own) (hr : meth.sig.returnType = none) (hlocks : meth.locks = false) (hS : va_S A s.heap H locs) (hP : va_P D vwCl u H) (hpost : post u) (hdg : decode cc pc = .ok (.return_, 1)) : W p l e R s m args below meth c H locs cells slots (MQ below (va_Qv post (fun u t => va_P D vwCl u t.heap) A) args s cells slots A) (F0 m pc ls []) :=
  W.vret hx.1 hx.2.1 hr (fun t ht _ => ⟨⟨u, rfl, hpost, by show va_P D vwCl u t.heap; rw [ht]; exact hP⟩, hS.F ht⟩) hS.2.2 hdg
theorem gp_sub (hD : va_D A0 ws) (isC : List Nat) (hC : isC.map (fun i => ws[i]?) = wc.map some) : ∀ q, gp_A wc q → A0 q := by
  intro q h
  obtain ⟨k, e, h⟩ := h
  have h1 : (isC.map (fun i => ws[i]?))[k]? = some (some (q, e)) := by rw [hC, List.getElem?_map, h]; rfl
  rw [List.getElem?_map] at h1
  cases hi : isC[k]? with
  | none => rw [hi] at h1; cases h1
  | some i => rw [hi] at h1; exact hD.2 i (q, e) (Option.some.inj h1)
theorem gp_fm {wc : va_W} {isC : List Nat} (hC : isC.map (fun i => ws[i]?) = wc.map some) : isC.filterMap (fun i => ws[i]?) = wc := by
  have : isC.filterMap (fun i => ws[i]?) = (isC.map (fun i => ws[i]?)).filterMap id := by rw [List.filterMap_map]; rfl
  rw [this, hC, List.filterMap_map]
  simp
/-- a call's words and its callee's start, out of what the caller has: a static method's -/
theorem gp_runS {ret : Option FieldType} {Qc : Array Value → State → Outcome → State → Prop} (hX : CallFix p m c cc nL s args Wd own) (hG : GoodIn Wd Wd) (hi : Cond.initialized own ∈ Wd) (hM : Met l y (.code y b2 nL2 ret :: Wd) ({ frames := fr, cells := 0, slots := 0, locals := lo }) (gp_Pc D wc tc av) Qc 0 0 free) (hq : CQ Wd y b2 nL2 ret av.length) (hyo : y.cls = own) (hl : Cond.methodLink own idx y ∈ Wd) (hs : Cond.static y ∈ Wd) (hR : fr + 1 ≤ R.frames ∧ 8 + (nL2 + 11) + lo ≤ R.locals)
    (hK : va_K D vwCl tys s) (isT : List Nat) (hT : isT.filterMap (fun i => tys[i]?) = tc) (hP : va_P D vwCl ws H) (hD : va_D A0 ws) (isC : List Nat) (hn : va_nd isC = true) (hC : isC.map (fun i => ws[i]?) = wc.map some) (hls : ls.size = nL) (hstk : st0 = av.reverse ++ rest) (hW : (rest.map fun v => v.category).sum ≤ 8) (hdg : decode cc pc = .ok (.invokestatic idx, 3)) (hcs : cells ≤ R.cells ∧ slots ≤ R.slots) :
    va_Run p l e R s m args below meth c H locs cells slots 0 0 (F0 m pc ls st0) rest (Qc av.toArray) free := by
  have hPc := hP.sub isC (gp_fm hC)
  have hKc := hK.sub isT hT
  have hDc := gp_self (hD.sub isC hn hC)
  exact va_runS (As := av) (rest := rest) hX hM (cwS av.length hX.2.2.2.2 (gd_S hG hi hl hs hq) rfl rfl rfl ⟨hyo, hq.2⟩ hR) ⟨gp_blind, fun U hU hW => ⟨rfl, by rw [hU]; exact hPc, va_K.moved hW.alike hKc, hDc⟩⟩ rfl rfl hls hstk (lv_room hW) hdg hcs
theorem gp_runV {ret : Option FieldType} {Qc : Array Value → State → Outcome → State → Prop} (hX : CallFix p m c cc nL s args Wd own) (hG : GoodIn Wd Wd) (hi : Cond.initialized C ∈ Wd) (hM : Met l y (.code y b2 nL2 ret :: Wd) ({ frames := fr, cells := 0, slots := 0, locals := lo }) (gp_Pc D wc tc (.ref b :: As)) Qc 0 0 free) (hq : CQ Wd y b2 nL2 ret As.length) (hyo : y.cls = C) (hl : Cond.methodLink own idx y ∈ Wd) (hs : Cond.instanceMethod y ∈ Wd) (hsel : Cond.selects C y y ∈ Wd) (hR : fr + 1 ≤ R.frames ∧ 8 + (nL2 + 11) + lo ≤ R.locals)
    (hK : va_K D vwCl tys s) (isT : List Nat) (hT : isT.filterMap (fun i => tys[i]?) = tc) (hP : va_P D vwCl ws H) (hD : va_D A0 ws) (isC : List Nat) (hn : va_nd isC = true) (hC : isC.map (fun i => ws[i]?) = wc.map some) {ci q0 : Nat} {qc : vw_C} {fs : List Value} (hc : vwCl[ci]? = some qc) (hcC : qc.1 = C) (hrc : wc[q0]? = some (b, .inr (ci, fs))) (hls : ls.size = nL) (hstk : st0 = As.reverse ++ .ref b :: rest) (hW : (rest.map fun v => v.category).sum ≤ 8) (hdg : decode cc pc = .ok (.invokevirtual idx, 3)) (hcs : cells ≤ R.cells ∧ slots ≤ R.slots) :
    va_Run p l e R s m args below meth c H locs cells slots 0 0 (F0 m pc ls st0) rest (Qc (Value.ref b :: As).toArray) free := by
  have hPc := hP.sub isC (gp_fm hC)
  have hKc := hK.sub isT hT
  have hDc := gp_self (hD.sub isC hn hC)
  subst hcC
  exact va_runV (As := As) (rest := rest) (b := b) (C := qc.1) hX hM (cwV As.length hX.2.2.2.2 (gd_V hG hi hl hs hsel hq) rfl rfl rfl ⟨hyo, hq.2⟩ hR) ⟨gp_blind, va_recv hKc hPc hc hrc, fun U hU hW => ⟨rfl, by rw [hU]; exact hPc, va_K.moved hW.alike hKc, hDc⟩⟩ rfl rfl hls hstk (lv_room hW) hdg hcs
/-- behind a call: the world with the callee's cells put anew -/
theorem gp_backi {post : Int32 → va_W → Prop} {as : Array Value} (hr : va_Run p l e R s m args below meth c H locs cells slots 0 0 (F0 m pc ls st0) rest (va_Qi post (fun u t => va_P D vwCl u t.heap) (gp_A wc) as) (gp_A wc)) (hP : va_P D vwCl ws H) (hD : va_D A0 ws) (hS : va_S A0 H0 H locs) (isC : List Nat) (hC : isC.map (fun i => ws[i]?) = wc.map some) (hadr : ∀ r u, post r u → u.map Prod.fst = wc.map Prod.fst)
    (kk : ∀ (r : Int32) (u : va_W) (H1 : Heap) (locs1 : List Loc), post r u → va_P D vwCl (gp_put ws isC u) H1 → va_D A0 (gp_put ws isC u) → va_S A0 H0 H1 locs1 → W p l e R s m args below meth c H1 locs1 cells slots Q (F0 m (pc + 3) ls (.int r :: rest))) : W p l e R s m args below meth c H locs cells slots Q (F0 m pc ls st0) := by
  have hF := gp_sub hD isC hC
  refine va_calli hr hS (fun q _ h => hF q h) hF (fun r u t H1 locs1 ht hvm hp hB hz hk hS1 => ?_)
  rw [ht] at hB
  obtain ⟨h1, h2⟩ := gp_join hP hD isC hC (hadr r u hp) hk hB
  exact kk r u H1 locs1 hp h1 h2 hS1
theorem gp_backv {post : va_W → Prop} {as : Array Value} (hr : va_Run p l e R s m args below meth c H locs cells slots 0 0 (F0 m pc ls st0) rest (va_Qv post (fun u t => va_P D vwCl u t.heap) (gp_A wc) as) (gp_A wc)) (hP : va_P D vwCl ws H) (hD : va_D A0 ws) (hS : va_S A0 H0 H locs) (isC : List Nat) (hC : isC.map (fun i => ws[i]?) = wc.map some) (hadr : ∀ u, post u → u.map Prod.fst = wc.map Prod.fst)
    (kk : ∀ (u : va_W) (H1 : Heap) (locs1 : List Loc), post u → va_P D vwCl (gp_put ws isC u) H1 → va_D A0 (gp_put ws isC u) → va_S A0 H0 H1 locs1 → W p l e R s m args below meth c H1 locs1 cells slots Q (F0 m (pc + 3) ls rest)) : W p l e R s m args below meth c H locs cells slots Q (F0 m pc ls st0) := by
  have hF := gp_sub hD isC hC
  refine va_callv hr hS (fun q _ h => hF q h) hF (fun u t H1 locs1 ht hvm hp hB hz hk hS1 => ?_)
  rw [ht] at hB
  obtain ⟨h1, h2⟩ := gp_join hP hD isC hC (hadr u hp) hk hB
  exact kk u H1 locs1 hp h1 h2 hS1
end GC
/-- an array's cell says no more than its n places -/
theorem gp_cell {D : va_G} {cl : List vw_C} {A : Nat → Prop} {ws : va_W} {H : Heap} (hP : va_P D cl ws H) (q0 : Nat) {a n : Nat} {cA : ClassId} {f g : Nat → Int32} (ha : ws[q0]? = some (a, .inl (cA, n, .inl f))) (hfg : ∀ k, k < n → f k = g k) : va_P D cl (ws.set q0 (a, .inl (cA, n, .inl g))) H := by
  have hc : vp_cell cA (n, .inl f) = vp_cell cA (n, .inl g) := by
    rw [vp_cell_i, vp_cell_i]
    unfold arrV
    congr 1
    apply Array.ext
    · simp
    · intro i h1 h2
      simp at h1
      simp [hfg i h1]
  have hl := (List.getElem?_eq_some_iff.mp ha).1
  intro k q hk
  by_cases hkp : k = q0
  · subst hkp
    rw [List.getElem?_set_self hl] at hk
    cases hk
    have h1 : va_at D cl (a, .inl (cA, n, .inl f)) H := hP k _ ha
    show H[a]? = some (vp_cell cA (n, .inl g))
    rw [← hc]
    exact h1
  · rw [List.getElem?_set_ne (Ne.symm hkp)] at hk
    exact hP k q hk
theorem gp_D {A : Nat → Prop} {ws ws' : va_W} (hD : va_D A ws) (e : ws'.map Prod.fst = ws.map Prod.fst) : va_D A ws' := by
  have key : ∀ (k : Nat) (q : Nat × va_E), ws'[k]? = some q → ∃ q0, ws[k]? = some q0 ∧ q0.1 = q.1 := by
    intro k q h
    have h3 : (ws.map Prod.fst)[k]? = some q.1 := by rw [← e, List.getElem?_map, h]; rfl
    rw [List.getElem?_map] at h3
    cases hw : ws[k]? with
    | none => rw [hw] at h3; cases h3
    | some q0 => rw [hw] at h3; exact ⟨q0, rfl, Option.some.inj h3⟩
  refine ⟨fun i j x y hi hj hxy => ?_, fun k q h => ?_⟩
  · obtain ⟨x0, h1, h2⟩ := key i x hi
    obtain ⟨y0, h3, h4⟩ := key j y hj
    exact hD.1 i j x0 y0 h1 h3 (h2.trans (hxy.trans h4.symm))
  · obtain ⟨q0, h1, h2⟩ := key k q h
    rw [← h2]
    exact hD.2 k q0 h1
-- .. that answer a long
def rp_Ql (res : Int64) : Array Value → State → Outcome → State → Prop := va_Ql (fun r (_ : Unit) => r = res) (fun _ _ => True) (fun _ => False)
def RPl (l : Launch) (y : MethodName) (b : ByteArray) (nL : Nat) (Wd : List Cond) (fr lo : Nat) (D : va_G) (ws : va_W) (tys : List (ClassId × FieldType)) (av : List Value) (res : Int64) : Prop :=
  Met l y (.code y b nL (some .long) :: Wd) ({ frames := fr, cells := 0, slots := 0, locals := lo }) (rp_Pc D ws tys av) (rp_Ql res) 0 0 (fun _ => False)
theorem rpl_of {l : Launch} {y : MethodName} {b : ByteArray} {nL : Nat} {Wd : List Cond} {fr lo : Nat} {D : va_G} {ws : va_W} {tys : List (ClassId × FieldType)} {av : List Value} {res : Int64} (own : String) (hy : plainName y.cls = true) (hyo : y.cls = own) (hlen : (lg_sl av).length ≤ nL)
    (body : ∀ (p : Program) (e : Env) (s : State) (m : MethodId) (below : List Frame) (meth : Method) (c : Code) (ls : Array Slot), CallFix p m c b nL s av.toArray Wd own → meth.sig.returnType = some .long → meth.locks = false → va_K D vwCl tys s → va_P D vwCl ws s.heap → va_S (fun _ => False) s.heap s.heap [] → lv_has ls nL (lv_args 0 av) →
      W p l e ({ frames := fr, cells := 0, slots := 0, locals := lo } : Room) s m av.toArray below meth c s.heap [] 0 0 (MQ below (rp_Ql res) av.toArray s 0 0 (fun _ => False)) (F0 m 0 ls [])) : RPl l y b nL Wd fr lo D ws tys av res := by
  refine Met.ofW (cc := b) (maxL := nL) (ret := some .long) hy rfl ?_
  intro p e s m args below meth c s₁ B hml hv
  obtain ⟨rfl, hP, hK⟩ := hv
  have hts := atoms_spec (ws := .code y b nL (some .long) :: Wd) B.pre
  have hl := lv_entry av hlen
  rw [lg_entry_eq]
  exact body p e s m below meth c _ ⟨B.exec, B.bytes, hml, hyo ▸ findClass_of_methodNamed B.named, fun w h => hts w (List.mem_cons_of_mem _ h)⟩ B.returns B.notSynchronized hK hP va_S.rf hl
section RL
variable {p : Program} {l : Launch} {e : Env} {R : Room} {s : State} {m : MethodId} {args : Array Value} {below : List Frame} {meth : Method} {c : Code} {H : Heap} {locs : List Loc} {cells slots : Nat} {Q : State → Prop} {cc : ByteArray} {pc : Nat} {ls : Array Slot} {rest st0 : List Value} {D : va_G} {A A0 : Nat → Prop} {tys tc : List (ClassId × FieldType)} {ws wc : va_W} {H0 : Heap} {nL nL2 fr lo idx : Nat} {Wd : List Cond} {own C : String} {y : MethodName} {b2 : ByteArray} {av As : List Value} {res : Int64} {b : Addr}
theorem rp_retl {v : Int64} (hx : CallFix p m c cc nL s args Wd own) (hr : meth.sig.returnType = some .long) (hlocks : meth.locks = false) (hS : va_S (fun _ => False) s.heap H locs) (hv : v = res) (hdg : decode cc pc = .ok (.lreturn, 1)) : W p l e R s m args below meth c H locs cells slots (MQ below (rp_Ql res) args s cells slots (fun _ => False)) (F0 m pc ls [.long v]) :=
  W.lret hx.1 hx.2.1 hr (fun t ht _ => ⟨⟨v, (), rfl, hv, trivial⟩, hS.F ht⟩) hS.2.2 hdg
theorem rpl_callS (hX : CallFix p m c cc nL s args Wd own) (hG : GoodIn Wd Wd) (hi : Cond.initialized own ∈ Wd) (hM : RPl l y b2 nL2 Wd fr lo D wc tc av res) (hq : CQ Wd y b2 nL2 (some .long) av.length) (hyo : y.cls = own) (hl : Cond.methodLink own idx y ∈ Wd) (hs : Cond.static y ∈ Wd) (hR : fr + 1 ≤ R.frames ∧ 8 + (nL2 + 11) + lo ≤ R.locals)
    (hK : va_K D vwCl tys s) (isT : List Nat) (hT : isT.filterMap (fun i => tys[i]?) = tc) (hP : va_P D vwCl ws H) (isC : List Nat) (hC : isC.filterMap (fun i => ws[i]?) = wc) (hS : va_S A0 H0 H locs) (hls : ls.size = nL) (hstk : st0 = av.reverse ++ rest) (hW : (rest.map fun v => v.category).sum ≤ 8) (hdg : decode cc pc = .ok (.invokestatic idx, 3)) (hcs : cells ≤ R.cells ∧ slots ≤ R.slots)
    (kk : ∀ (H1 : Heap) (locs1 : List Loc), va_P D vwCl ws H1 → va_S A0 H0 H1 locs1 → W p l e R s m args below meth c H1 locs1 cells slots Q (F0 m (pc + 3) ls (.long res :: rest))) : W p l e R s m args below meth c H locs cells slots Q (F0 m pc ls st0) := by
  have hPc := hP.sub isC hC
  have hKc := hK.sub isT hT
  refine va_calll (va_runS (As := av) (rest := rest) hX hM (cwS av.length hX.2.2.2.2 (gd_S hG hi hl hs hq) rfl rfl rfl ⟨hyo, hq.2⟩ hR) ⟨rp_blind, fun U hU hW => ⟨rfl, by rw [hU]; exact hPc, va_K.moved hW.alike hKc⟩⟩ rfl rfl hls hstk (lv_room hW) hdg hcs) hS (fun _ _ h => h.elim) (fun _ h => h.elim) (fun r u t H1 locs1 ht hvm hp hB hz hk hS1 => ?_)
  subst hp
  exact kk H1 locs1 (hP.kept (fun k q hq => hk q.1 (hP k q hq).lt (fun h => h))) hS1
end RL
