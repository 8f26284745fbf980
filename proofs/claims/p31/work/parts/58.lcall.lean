-- THE LAW'S METHODS: their entry, their ends, their calls
section LM
variable {p : Program} {l : Launch} {e : Env} {R : Room} {s : State} {m : MethodId} {args : Array Value} {below : List Frame} {meth : Method} {c : Code} {H : Heap} {locs : List Loc} {cells slots : Nat} {Q : State → Prop} {cc : ByteArray} {pc : Nat} {ls : Array Slot} {rest st0 : List Value} {D : va_G} {A : Nat → Prop} {cI cL cZ : ClassId} {Gs Gc : Nat → Geo} {as cs us : List AS} {nL nL2 fr lo mc ms idx : Nat} {y : MethodName} {b2 : ByteArray} {As av : List Value} {b : Addr} {hh : List (Nat × Nat × Nat × Nat)}
theorem vx_noX {mc ms : Nat} {g : JFrame} {Qa : State → Outcome → State → Prop} {free : Addr → Prop} (h : vx_Run p l e R s m args below meth c H locs cells slots mc ms g rest Qa (fun _ _ _ => False) free) : va_Run p l e R s m args below meth c H locs cells slots mc ms g rest Qa free := fun T hT X =>
  (h T hT X).elim id (fun h => by obtain ⟨q, st₀, t, T', L, E, ce, h1, h2, h3, h4, h5, h6, h7⟩ := h; exact h6.elim)
theorem gl_in {mc ms : Nat} {ret : Option FieldType} {Bs : List va_W} {Qc : Array Value → State → Outcome → State → Prop} {yb : ByteArray} (hy : plainName y.cls = true) (hyo : y.cls = RL) (hlen : (lg_sl av).length ≤ nL) (hB : OBs cI cL cZ Gs as Bs)
    (body : ∀ (p : Program) (e : Env) (s : State) (m : MethodId) (below : List Frame) (meth : Method) (c : Code) (ls : Array Slot) (H : Heap), LF p m c yb nL s av.toArray D cI cL cZ (gp_A (bw Bs)) → meth.sig.returnType = ret → meth.locks = false → LO D cI cL cZ (gp_A (bw Bs)) s Gs as H [] → lv_has ls nL (lv_args 0 av) →
      W p l e ({ frames := fr, cells := mc, slots := ms, locals := lo } : Room) s m av.toArray below meth c H [] 0 0 (MQ below Qc av.toArray s mc ms (gp_A (bw Bs))) (F0 m 0 ls [])) : Met l y (.code y yb nL ret :: WLA) ({ frames := fr, cells := mc, slots := ms, locals := lo }) (gl_Pc D (bw Bs) (TY cI cL cZ) av) Qc mc ms (gp_A (bw Bs)) := by
  refine Met.ofW (cc := yb) (maxL := nL) (ret := ret) hy rfl ?_
  intro p e s m args below meth c s₁ B hml hv
  obtain ⟨rfl, hP, hK, hD, hN, hE, hSW, hZ, hCN⟩ := hv
  have hts := atoms_spec (ws := .code y yb nL ret :: WLA) B.pre
  have hl := lv_entry av hlen
  rw [lg_entry_eq]
  exact body p e s m below meth c _ _ ⟨⟨B.exec, B.bytes, hml, hyo ▸ findClass_of_methodNamed B.named, fun w h => hts w (List.mem_cons_of_mem _ h)⟩, hK, hN, hE, hSW, hZ, hCN⟩ B.returns B.notSynchronized ⟨Bs, hB, hP, hD, va_S.rf⟩ hl
theorem lz_of {yb : ByteArray} {res : Int32} (hy : plainName y.cls = true) (hyo : y.cls = RL) (hlen : (lg_sl av).length ≤ nL)
    (body : ∀ (p : Program) (e : Env) (s : State) (m : MethodId) (below : List Frame) (meth : Method) (c : Code) (ls : Array Slot) (H : Heap) (A : Nat → Prop), LF p m c yb nL s av.toArray D cI cL cZ A → meth.sig.returnType = some .boolean → meth.locks = false → LO D cI cL cZ A s Gs as H [] → lv_has ls nL (lv_args 0 av) →
      W p l e ({ frames := fr, cells := mc, slots := ms, locals := lo } : Room) s m av.toArray below meth c H [] 0 0 (MQ below (lqI D cI cL cZ Gs res us A) av.toArray s mc ms A) (F0 m 0 ls [])) : LZ l y yb nL fr lo mc ms D cI cL cZ Gs as av res us := fun _ hB =>
  gl_in hy hyo hlen hB (fun p e s m below meth c ls H hF hr hk hw hl => body p e s m below meth c ls H _ hF hr hk hw hl)
theorem lj_of {yb : ByteArray} {res : Int64} (hy : plainName y.cls = true) (hyo : y.cls = RL) (hlen : (lg_sl av).length ≤ nL)
    (body : ∀ (p : Program) (e : Env) (s : State) (m : MethodId) (below : List Frame) (meth : Method) (c : Code) (ls : Array Slot) (H : Heap) (A : Nat → Prop), LF p m c yb nL s av.toArray D cI cL cZ A → meth.sig.returnType = some .long → meth.locks = false → LO D cI cL cZ A s Gs as H [] → lv_has ls nL (lv_args 0 av) →
      W p l e ({ frames := fr, cells := mc, slots := ms, locals := lo } : Room) s m av.toArray below meth c H [] 0 0 (MQ below (lqL D cI cL cZ Gs res us A) av.toArray s mc ms A) (F0 m 0 ls [])) : LJ l y yb nL fr lo mc ms D cI cL cZ Gs as av res us := fun _ hB =>
  gl_in hy hyo hlen hB (fun p e s m below meth c ls H hF hr hk hw hl => body p e s m below meth c ls H _ hF hr hk hw hl)
theorem lo_retl {v res : Int64} (hF : LF p m c cc nL s args D cI cL cZ A) (hr : meth.sig.returnType = some .long) (hlocks : meth.locks = false) (hw : LO D cI cL cZ A s Gs us H locs) (hv : v = res) (hc : cells ≤ mc) (hs : slots ≤ ms) (hdg : decode cc pc = .ok (.lreturn, 1)) : W p l e R s m args below meth c H locs cells slots (MQ below (lqL D cI cL cZ Gs res us A) args s mc ms A) (F0 m pc ls [.long v]) := by
  obtain ⟨Bs, hB, hP, hD, hS⟩ := hw
  exact W.widen hc hs (bq_retl (Wd := WLA) (own := RL) hF.1 hr hlocks hS hP ⟨hv, hB⟩ hdg)
theorem lo_retz {v res : Int32} (hF : LF p m c cc nL s args D cI cL cZ A) (hr : meth.sig.returnType = some .boolean) (hlocks : meth.locks = false) (hw : LO D cI cL cZ A s Gs us H locs) (hv : v = res) (hz : narrow .boolean (.int v) = .int v) (hc : cells ≤ mc) (hs : slots ≤ ms) (hdg : decode cc pc = .ok (.ireturn, 1)) : W p l e R s m args below meth c H locs cells slots (MQ below (lqI D cI cL cZ Gs res us A) args s mc ms A) (F0 m pc ls [.int v]) := by
  obtain ⟨Bs, hB, hP, hD, hS⟩ := hw
  refine W.widen hc hs (W.zret hF.1.1 hF.1.2.1 hr hz (fun t ht _ => ⟨⟨v, Bs, rfl, ⟨hv, hB⟩, by show va_P D vwCl (bw Bs) t.heap; rw [ht]; exact hP⟩, hS.F ht⟩) hS.2.2 hdg)
/-- what a call of a wrapper, of a method of the law, of the class needs of the words -/
def LKX (y : MethodName) (b : ByteArray) (nL : Nat) (hh : List (Nat × Nat × Nat × Nat)) (idx n : Nat) : Prop := (y.cls ≠ "java/lang/invoke/MethodHandle" ∧ y.cls ≠ "java/lang/invoke/VarHandle" ∧ (parseMethodDescriptor y.desc).map (fun d => d.parameters.length) = some n) ∧ y.cls = RL ∧ Cond.methodLink RL idx y ∈ WLA ∧ Cond.static y ∈ WLA ∧ Cond.codeWith y b nL (some .long) hh ∈ WLA
def LKM (y : MethodName) (b : ByteArray) (nL : Nat) (ret : FieldType) (idx n : Nat) : Prop := CQ WLA y b nL (some ret) n ∧ y.cls = RL ∧ Cond.methodLink RL idx y ∈ WLA ∧ Cond.static y ∈ WLA
def LKV (y : MethodName) (b : ByteArray) (nL : Nat) (idx n : Nat) : Prop := (y.cls ≠ "java/lang/invoke/MethodHandle" ∧ y.cls ≠ "java/lang/invoke/VarHandle" ∧ (parseMethodDescriptor y.desc).map (fun d => d.parameters.length) = some n) ∧ y.cls = RX6 ∧ Cond.methodLink RL idx y ∈ WLA ∧ Cond.instanceMethod y ∈ WLA ∧ Cond.selects RX6 y y ∈ WLA ∧ Cond.code y b nL (some .int) ∈ WLA
theorem iniL : Cond.initialized RL ∈ WLA := mlA 107 rfl
theorem hg_one {Gc Gs : Nat → Geo} {i : Nat} (h : Gc 0 = Gs i) : ∀ (j k : Nat), [i][j]? = some k → Gc j = Gs k := fun j k hj => by
  cases j with
  | zero => cases hj; exact h
  | succ j => simp at hj
theorem hg_two {Gc Gs : Nat → Geo} (h : Gc 0 = Gs 0) (h1 : Gc 1 = Gs 1) : ∀ (j k : Nat), [0, 1][j]? = some k → Gc j = Gs k := fun j k hj => by
  match j with
  | 0 => cases hj; exact h
  | 1 => cases hj; exact h1
  | j + 2 => simp at hj
theorem lo_in (hF : LF p m c cc nL s args D cI cL cZ A) (hw : LO D cI cL cZ A s Gs as H locs) (is : List Nat) (hn : is.Nodup) (hI : is.map (fun i => as[i]?) = cs.map some) (hG : ∀ (j i : Nat), is[j]? = some i → Gc j = Gs i) :
    ∃ Bs Cs : List va_W, OBs cI cL cZ Gs as Bs ∧ OBs cI cL cZ Gc cs Cs ∧ is.map (fun i => Bs[i]?) = Cs.map some ∧ va_P D vwCl (bw Bs) H ∧ va_D A (bw Bs) ∧ va_S A s.heap H locs ∧ va_P D vwCl (bw Cs) H ∧ va_D (gp_A (bw Cs)) (bw Cs) ∧ (∀ q, gp_A (bw Cs) q → A q) ∧ (∀ (av : List Value), FrameBlind (gl_Pc D (bw Cs) (TY cI cL cZ) av) ∧ ∀ (U : State), U.heap = H → s.WarmedH U.vm → gl_Pc D (bw Cs) (TY cI cL cZ) av av.toArray U) := by
  obtain ⟨Bs, hB, hP, hD, hS⟩ := hw
  obtain ⟨Cs, hC, hCs⟩ := OBs_sub hB is hI hG
  obtain ⟨hX, hK, hN, hE, hSW, hZ, hCN⟩ := hF
  have hPc := bw_subP hP is hC
  have hDc := gp_self (bw_subD hD is hn hC)
  have hA := bw_A hD is hC
  exact ⟨Bs, Cs, hB, hCs, hC, hP, hD, hS, hPc, hDc, hA, fun av => ⟨gl_blind, fun U hU hW => ⟨rfl, by rw [hU]; exact hPc, va_K.moved hW.alike hK, hDc, NW_warm hW hN, EW_warm hW hE, SW_warm hW hSW, ZW_at hZ hS.2.1 hU hW.alike hA, CN_moved hW.alike hCN⟩⟩⟩
theorem lo_out {Bs Cs U : List va_W} {H1 : Heap} {locs1 : List Loc} (hB : OBs cI cL cZ Gs as Bs) (hCs : OBs cI cL cZ Gc cs Cs) (is : List Nat) (hn : is.Nodup) (hI : is.map (fun i => as[i]?) = cs.map some) (hG : ∀ (j i : Nat), is[j]? = some i → Gc j = Gs i) (hC : is.map (fun i => Bs[i]?) = Cs.map some) (hP : va_P D vwCl (bw Bs) H) (hD : va_D A (bw Bs)) (hl : us.length = cs.length) (hU : OBs cI cL cZ Gc us U) (hk : ∀ q : Nat, q < H.size → ¬ gp_A (bw Cs) q → H1[q]? = H[q]?) (hP1 : va_P D vwCl (bw U) H1) (hS1 : va_S A s.heap H1 locs1) : LO D cI cL cZ A s Gs (lput as is us) H1 locs1 := by
  obtain ⟨h1, h2⟩ := bw_join hP hD is hC (OBs_adr hl.symm hCs hU) hk hP1
  exact ⟨_, OBs_put hB is hn hI hG hl hU, h1, h2, hS1⟩
theorem lo_callX {res : Int64} (hF : LF p m c cc nL s args D cI cL cZ A) (hM : LX l y b2 nL2 hh fr lo D cI cL cZ Gc cs av res us) (hq : LKX y b2 nL2 hh idx av.length) (hR : fr + 1 ≤ R.frames ∧ 8 + (nL2 + 11) + lo ≤ R.locals) (hw : LO D cI cL cZ A s Gs as H locs) (is : List Nat) (hn : is.Nodup) (hI : is.map (fun i => as[i]?) = cs.map some) (hG : ∀ (j i : Nat), is[j]? = some i → Gc j = Gs i) (hu : us.length = cs.length) (hls : ls.size = nL) (hstk : st0 = av.reverse ++ rest) (hW : (rest.map fun v => v.category).sum ≤ 8) (hdg : decode cc pc = .ok (.invokestatic idx, 3)) (hcs : cells + 1 ≤ R.cells ∧ slots + 6 ≤ R.slots)
    (kk : ∀ (H1 : Heap) (locs1 : List Loc), LO D cI cL cZ A s Gs (lput as is us) H1 locs1 → W p l e R s m args below meth c H1 locs1 (cells + 1) (slots + 6) Q (F0 m (pc + 3) ls (.long res :: rest))) : W p l e R s m args below meth c H locs cells slots Q (F0 m pc ls st0) := by
  obtain ⟨Bs, Cs, hB, hCs, hC, hP, hD, hS, hPc, hDc, hA, hpre⟩ := lo_in hF hw is hn hI hG
  obtain ⟨hq1, hyo, hl, hst, hcode⟩ := hq
  have hX := hF.1
  have cw := vx_cwSW (R := R) (s := s) (args := args) (own := RL) (index := idx) (y := y) (bytes := b2) (maxL := nL2) (ret := some .long) (hh := hh) (ws := .codeWith y b2 nL2 (some .long) hh :: WLA) (rm := { frames := fr, cells := 1, slots := 6, locals := lo }) (mc := 1) (ms := 6) av.length hX.2.2.2.2 (fun w hw9 => by
    rcases List.mem_append.mp hw9 with h | h
    · rw [hyo] at h
      rcases List.mem_cons.mp h with h | h
      · exact h ▸ goodLA _ hl
      · rcases List.mem_cons.mp h with h | h
        · exact h ▸ goodLA _ hst
        · exact List.mem_singleton.mp h ▸ goodLA _ iniL
    · rcases List.mem_cons.mp h with h | h
      · exact h ▸ goodLA _ hcode
      · exact goodLA _ h) rfl rfl rfl hq1 hR
  refine va_calll (vx_noX (vx_runSX (As := av) (rest := rest) hX (hM Cs hCs) cw (hpre av) rfl rfl hls hstk (lv_room hW) hdg hcs)) hS (fun q _ h => hA q h) hA (fun r u t H1 locs1 ht hvm hp hB1 hz hk hS1 => ?_)
  rw [ht] at hB1
  obtain ⟨rfl, hU⟩ := hp
  exact kk H1 locs1 (lo_out hB hCs is hn hI hG hC hP hD hu hU hk hB1 hS1)
theorem lo_callJ {res : Int64} (hF : LF p m c cc nL s args D cI cL cZ A) (hM : LJ l y b2 nL2 fr lo mc ms D cI cL cZ Gc cs av res us) (hq : LKM y b2 nL2 .long idx av.length) (hR : fr + 1 ≤ R.frames ∧ 8 + (nL2 + 11) + lo ≤ R.locals) (hw : LO D cI cL cZ A s Gs as H locs) (is : List Nat) (hn : is.Nodup) (hI : is.map (fun i => as[i]?) = cs.map some) (hG : ∀ (j i : Nat), is[j]? = some i → Gc j = Gs i) (hu : us.length = cs.length) (hls : ls.size = nL) (hstk : st0 = av.reverse ++ rest) (hW : (rest.map fun v => v.category).sum ≤ 8) (hdg : decode cc pc = .ok (.invokestatic idx, 3)) (hcs : cells + mc ≤ R.cells ∧ slots + ms ≤ R.slots)
    (kk : ∀ (H1 : Heap) (locs1 : List Loc), LO D cI cL cZ A s Gs (lput as is us) H1 locs1 → W p l e R s m args below meth c H1 locs1 (cells + mc) (slots + ms) Q (F0 m (pc + 3) ls (.long res :: rest))) : W p l e R s m args below meth c H locs cells slots Q (F0 m pc ls st0) := by
  obtain ⟨Bs, Cs, hB, hCs, hC, hP, hD, hS, hPc, hDc, hA, hpre⟩ := lo_in hF hw is hn hI hG
  obtain ⟨hq1, hyo, hl, hst⟩ := hq
  have hX := hF.1
  refine va_calll (va_runS (As := av) (rest := rest) hX (hM Cs hCs) (cwS av.length hX.2.2.2.2 (gd_S goodLA iniL hl hst hq1) rfl rfl rfl ⟨hyo, hq1.2⟩ hR) (hpre av) rfl rfl hls hstk (lv_room hW) hdg hcs) hS (fun q _ h => hA q h) hA (fun r u t H1 locs1 ht hvm hp hB1 hz hk hS1 => ?_)
  rw [ht] at hB1
  obtain ⟨rfl, hU⟩ := hp
  exact kk H1 locs1 (lo_out hB hCs is hn hI hG hC hP hD hu hU hk hB1 hS1)
theorem lo_callZ {res : Int32} (hF : LF p m c cc nL s args D cI cL cZ A) (hM : LZ l y b2 nL2 fr lo mc ms D cI cL cZ Gc cs av res us) (hq : LKM y b2 nL2 .boolean idx av.length) (hR : fr + 1 ≤ R.frames ∧ 8 + (nL2 + 11) + lo ≤ R.locals) (hw : LO D cI cL cZ A s Gs as H locs) (is : List Nat) (hn : is.Nodup) (hI : is.map (fun i => as[i]?) = cs.map some) (hG : ∀ (j i : Nat), is[j]? = some i → Gc j = Gs i) (hu : us.length = cs.length) (hls : ls.size = nL) (hstk : st0 = av.reverse ++ rest) (hW : (rest.map fun v => v.category).sum ≤ 8) (hdg : decode cc pc = .ok (.invokestatic idx, 3)) (hcs : cells + mc ≤ R.cells ∧ slots + ms ≤ R.slots)
    (kk : ∀ (H1 : Heap) (locs1 : List Loc), LO D cI cL cZ A s Gs (lput as is us) H1 locs1 → W p l e R s m args below meth c H1 locs1 (cells + mc) (slots + ms) Q (F0 m (pc + 3) ls (.int res :: rest))) : W p l e R s m args below meth c H locs cells slots Q (F0 m pc ls st0) := by
  obtain ⟨Bs, Cs, hB, hCs, hC, hP, hD, hS, hPc, hDc, hA, hpre⟩ := lo_in hF hw is hn hI hG
  obtain ⟨hq1, hyo, hl, hst⟩ := hq
  have hX := hF.1
  refine va_calli (va_runS (As := av) (rest := rest) hX (hM Cs hCs) (cwS av.length hX.2.2.2.2 (gd_S goodLA iniL hl hst hq1) rfl rfl rfl ⟨hyo, hq1.2⟩ hR) (hpre av) rfl rfl hls hstk (lv_room hW) hdg hcs) hS (fun q _ h => hA q h) hA (fun r u t H1 locs1 ht hvm hp hB1 hz hk hS1 => ?_)
  rw [ht] at hB1
  obtain ⟨rfl, hU⟩ := hp
  exact kk H1 locs1 (lo_out hB hCs is hn hI hG hC hP hD hu hU hk hB1 hS1)
theorem ob_recv {cI cL cZ : ClassId} {G : Geo} {a : AS} {w : va_W} (h : OB cI cL cZ G a w) : ∃ fs, (bw [w])[0]? = some (G.1 1, .inr (6, fs)) := by
  obtain ⟨q, vv, nx, ct, uf, zz, rfl, -⟩ := h
  rw [bw_one]
  exact ⟨_, rfl⟩
/-- a method of the class on the object i -/
theorem lo_callV {res : Int32} {a a2 : AS} {i : Nat} (hF : LF p m c cc nL s args D cI cL cZ A) (hM : LV l y b2 nL2 fr lo D cI cL cZ Gc [a] (.ref b :: As) res [a2]) (hq : LKV y b2 nL2 idx As.length) (hR : fr + 1 ≤ R.frames ∧ 8 + (nL2 + 11) + lo ≤ R.locals) (hw : LO D cI cL cZ A s Gs as H locs) (hI : [i].map (fun i => as[i]?) = [a].map some) (hG : Gc 0 = Gs i) (hb : b = (Gc 0).1 1) (hls : ls.size = nL) (hstk : st0 = As.reverse ++ .ref b :: rest) (hW : (rest.map fun v => v.category).sum ≤ 8) (hdg : decode cc pc = .ok (.invokevirtual idx, 3)) (hcs : cells ≤ R.cells ∧ slots ≤ R.slots)
    (kk : ∀ (H1 : Heap) (locs1 : List Loc), LO D cI cL cZ A s Gs (lput as [i] [a2]) H1 locs1 → W p l e R s m args below meth c H1 locs1 cells slots Q (F0 m (pc + 3) ls (.int res :: rest))) : W p l e R s m args below meth c H locs cells slots Q (F0 m pc ls st0) := by
  have hn : [i].Nodup := by simp
  obtain ⟨Bs, Cs, hB, hCs, hC, hP, hD, hS, hPc, hDc, hA, -⟩ := lo_in hF hw [i] hn hI (hg_one hG)
  obtain ⟨hq1, hyo, hl, hst, hsel, hcode⟩ := hq
  obtain ⟨hX, hK, hN, hE, hSW, hZ, hCN⟩ := hF
  obtain ⟨w, rfl, hOB⟩ := OBs_out hCs
  obtain ⟨fs, hrc⟩ := ob_recv hOB
  have hcode6 : ∀ w ∈ (.code y b2 nL2 (some .int) :: W6 : List Cond), w ∈ WLA := fun w h => (List.mem_cons.mp h).elim (fun e => e ▸ hcode) (fun h => ml6 h)
  have cw := cwV (R := R) (s := s) (args := args) (own := RL) (C := RX6) (index := idx) (y := y) (bytes := b2) (maxL := nL2) (ret := some .int) (ws := .code y b2 nL2 (some .int) :: W6) (rm := { frames := fr, cells := 0, slots := 0, locals := lo }) (mc := 0) (ms := 0) As.length hX.2.2.2.2 (fun w hw => by
    rcases List.mem_append.mp hw with h | h
    · rcases List.mem_cons.mp h with h | h
      · exact h ▸ goodLA _ hl
      · rcases List.mem_cons.mp h with h | h
        · exact h ▸ goodLA _ hst
        · rcases List.mem_cons.mp h with h | h
          · exact h ▸ goodLA _ hsel
          · exact List.mem_singleton.mp h ▸ goodLA _ (ml6 (m6 31 rfl))
    · exact goodLA _ (hcode6 w h)) rfl rfl rfl ⟨hyo, hq1⟩ hR
  have hrc' : (bw [w])[0]? = some (b, .inr (6, fs)) := by rw [hb]; exact hrc
  refine va_calli (va_runV (As := As) (rest := rest) (b := b) (C := RX6) hX (hM [w] hCs) cw ⟨gq_blind, va_recv (cl := vwCl) (ci := 6) hK hPc rfl hrc', fun U hU hW => ⟨rfl, by rw [hU]; exact hPc, va_K.moved hW.alike hK, hDc, NW_warm hW hN⟩⟩ rfl rfl hls hstk (lv_room hW) hdg hcs) hS (fun q _ h => hA q h) hA (fun r u t H1 locs1 ht hvm hp hB1 hz hk hS1 => ?_)
  rw [ht] at hB1
  obtain ⟨rfl, hU⟩ := hp
  exact kk H1 locs1 (lo_out hB hCs [i] hn hI (hg_one hG) hC hP hD rfl hU hk hB1 hS1)
end LM
