-- THE LAW'S CALLS: of its helpers, of the reference's methods, of the class's that do not throw
section LW
variable {p : Program} {l : Launch} {e : Env} {R : Room} {s : State} {m : MethodId} {args : Array Value} {below : List Frame} {meth : Method} {c : Code} {H : Heap} {locs : List Loc} {cells slots : Nat} {Q : State → Prop} {cc : ByteArray} {pc : Nat} {ls : Array Slot} {rest st0 : List Value} {D : va_G} {A : Nat → Prop} {tys tc : List (ClassId × FieldType)} {Bs Cs : List va_W} {nL nL2 fr lo idx : Nat} {y : MethodName} {b2 : ByteArray} {As av : List Value} {b : Addr} {own : String}
theorem vx_noX {mc ms : Nat} {g : JFrame} {Qa : State → Outcome → State → Prop} {free : Addr → Prop} (h : vx_Run p l e R s m args below meth c H locs cells slots mc ms g rest Qa (fun _ _ _ => False) free) : va_Run p l e R s m args below meth c H locs cells slots mc ms g rest Qa free := fun T hT X =>
  (h T hT X).elim id (fun h => by obtain ⟨q, st₀, t, T', L, E, ce, h1, h2, h3, h4, h5, h6, h7⟩ := h; exact h6.elim)
/-- a helper -/
theorem lw_help {hh : List (Nat × Nat × Nat × Nat)} {post : Int32 → List va_W → Prop} (hX : CallFix p m c cc nL s args lw_tbl RL) (hM : LH l y b2 nL2 hh fr lo D Cs tc av post) (hq : y.cls ≠ "java/lang/invoke/MethodHandle" ∧ y.cls ≠ "java/lang/invoke/VarHandle" ∧ (parseMethodDescriptor y.desc).map (fun d => d.parameters.length) = some av.length) (hyo : y.cls = RL) (hw : GoodIn lw_tbl [.methodLink RL idx y, .static y, .initialized RL, .codeWith y b2 nL2 (some .int) hh]) (hR : fr + 1 ≤ R.frames ∧ 8 + (nL2 + 11) + lo ≤ R.locals)
    (hK : va_K D vwCl tys s) (hN : NW s) (hE : EW s) (hSW : SW s) (hZ : ZW A s) (hCN : CN s) (isT : List Nat) (hT : isT.filterMap (fun i => tys[i]?) = tc) (hP : va_P D vwCl (bw Bs) H) (hD : va_D A (bw Bs)) (hS : va_S A s.heap H locs) (isC : List Nat) (hn : isC.Nodup) (hC : isC.map (fun i => Bs[i]?) = Cs.map some) (hls : ls.size = nL) (hstk : st0 = av.reverse ++ rest) (hW : (rest.map fun v => v.category).sum ≤ 8) (hdg : decode cc pc = .ok (.invokestatic idx, 3)) (hcs : cells + 1 ≤ R.cells ∧ slots + 6 ≤ R.slots)
    (hadr : ∀ r u, post r u → u.map (fun b => b.map Prod.fst) = Cs.map (fun b => b.map Prod.fst))
    (kk : ∀ (r : Int32) (u : List va_W) (H1 : Heap) (locs1 : List Loc), post r u → va_P D vwCl (bw (bput Bs isC u)) H1 → va_D A (bw (bput Bs isC u)) → va_S A s.heap H1 locs1 → W p l e R s m args below meth c H1 locs1 (cells + 1) (slots + 6) Q (F0 m (pc + 3) ls (.int r :: rest))) : W p l e R s m args below meth c H locs cells slots Q (F0 m pc ls st0) := by
  have hPc := bw_subP hP isC hC
  have hKc := hK.sub isT hT
  have hDc := gp_self (bw_subD hD isC hn hC)
  have hF := bw_A hD isC hC
  have cw := vx_cwSW (R := R) (s := s) (args := args) (own := RL) (index := idx) (y := y) (bytes := b2) (maxL := nL2) (ret := some .int) (hh := hh) (ws := .codeWith y b2 nL2 (some .int) hh :: WLA) (rm := { frames := fr, cells := 1, slots := 6, locals := lo }) (mc := 1) (ms := 6) av.length hX.2.2.2.2 (fun w hw9 => by
    rcases List.mem_append.mp hw9 with h | h
    · refine hw w ?_
      rw [hyo] at h
      rcases List.mem_cons.mp h with h | h
      · rw [h]; simp
      · rcases List.mem_cons.mp h with h | h
        · rw [h]; simp
        · rw [List.mem_singleton.mp h]; simp
    · rcases List.mem_cons.mp h with h | h
      · rw [h]; exact hw _ (by simp)
      · exact gdLA w h) rfl rfl rfl hq hR
  refine va_calli (vx_noX (vx_runSX (As := av) (rest := rest) hX hM cw ⟨gl_blind, fun U hU hW => ⟨rfl, by rw [hU]; exact hPc, va_K.moved hW.alike hKc, hDc, NW_warm hW hN, EW_warm hW hE, SW_warm hW hSW, ZW_at hZ hS.2.1 hU hW.alike hF, CN_moved hW.alike hCN⟩⟩ rfl rfl hls hstk (lv_room hW) hdg hcs)) hS (fun q _ h => hF q h) hF (fun r u t H1 locs1 ht hvm hp hB hz hk hS1 => ?_)
  rw [ht] at hB
  obtain ⟨h1, h2⟩ := bw_join hP hD isC hC (hadr r u hp) hk hB
  exact kk r u H1 locs1 hp h1 h2 hS1
/-- a method of the reference -/
theorem lw_ref {ret : FieldType} {Qc : Array Value → State → Outcome → State → Prop} {free : Addr → Prop} (hX : CallFix p m c cc nL s args lw_tbl RL) (hM : Met l y (.code y b2 nL2 (some ret) :: W7) ({ frames := fr, cells := 0, slots := 0, locals := lo }) (gp_Pc D (bw Cs) tc (.ref b :: As)) Qc 0 0 free) (hq : y.cls ≠ "java/lang/invoke/MethodHandle" ∧ y.cls ≠ "java/lang/invoke/VarHandle" ∧ (parseMethodDescriptor y.desc).map (fun d => d.parameters.length) = some As.length) (hyo : y.cls = RX7) (hw : GoodIn lw_tbl [.methodLink RL idx y, .instanceMethod y, .selects RX7 y y, .initialized RX7, .code y b2 nL2 (some ret)]) (hR : fr + 1 ≤ R.frames ∧ 8 + (nL2 + 11) + lo ≤ R.locals)
    (hK : va_K D vwCl tys s) (isT : List Nat) (hT : isT.filterMap (fun i => tys[i]?) = tc) (hP : va_P D vwCl (bw Bs) H) (hD : va_D A (bw Bs)) (isC : List Nat) (hn : isC.Nodup) (hC : isC.map (fun i => Bs[i]?) = Cs.map some) {fs : List Value} (hrc : (bw Cs)[0]? = some (b, .inr (7, fs))) (hls : ls.size = nL) (hstk : st0 = As.reverse ++ .ref b :: rest) (hW : (rest.map fun v => v.category).sum ≤ 8) (hdg : decode cc pc = .ok (.invokevirtual idx, 3)) (hcs : cells ≤ R.cells ∧ slots ≤ R.slots) :
    va_Run p l e R s m args below meth c H locs cells slots 0 0 (F0 m pc ls st0) rest (Qc (Value.ref b :: As).toArray) free := by
  have hPc := bw_subP hP isC hC
  have hKc := hK.sub isT hT
  have hDc := gp_self (bw_subD hD isC hn hC)
  have cw := cwV (R := R) (s := s) (args := args) (own := RL) (C := RX7) (index := idx) (y := y) (bytes := b2) (maxL := nL2) (ret := some ret) (ws := .code y b2 nL2 (some ret) :: W7) (rm := { frames := fr, cells := 0, slots := 0, locals := lo }) (mc := 0) (ms := 0) As.length hX.2.2.2.2 (fun w hw9 => by
    rcases List.mem_append.mp hw9 with h | h
    · refine hw w ?_
      rcases List.mem_cons.mp h with h | h
      · rw [h]; simp
      · rcases List.mem_cons.mp h with h | h
        · rw [h]; simp
        · rcases List.mem_cons.mp h with h | h
          · rw [h]; simp
          · rw [List.mem_singleton.mp h]; simp
    · rcases List.mem_cons.mp h with h | h
      · rw [h]; exact hw _ (by simp)
      · exact gd7 w h) rfl rfl rfl ⟨hyo, hq⟩ hR
  exact va_runV (As := As) (rest := rest) (b := b) (C := RX7) hX hM cw ⟨gp_blind, va_recv (cl := vwCl) (ci := 7) hKc hPc rfl hrc, fun U hU hW => ⟨rfl, by rw [hU]; exact hPc, va_K.moved hW.alike hKc, hDc⟩⟩ rfl rfl hls hstk (lv_room hW) hdg hcs
theorem lw_refi {ret : FieldType} {ws : va_W} {post : Int32 → va_W → Prop} (hX : CallFix p m c cc nL s args lw_tbl RL) (hM : GPi l y b2 nL2 ret W7 fr lo D ws tc (.ref b :: As) post) (hws : bw Cs = ws) (hq : y.cls ≠ "java/lang/invoke/MethodHandle" ∧ y.cls ≠ "java/lang/invoke/VarHandle" ∧ (parseMethodDescriptor y.desc).map (fun d => d.parameters.length) = some As.length) (hyo : y.cls = RX7) (hw : GoodIn lw_tbl [.methodLink RL idx y, .instanceMethod y, .selects RX7 y y, .initialized RX7, .code y b2 nL2 (some ret)]) (hR : fr + 1 ≤ R.frames ∧ 8 + (nL2 + 11) + lo ≤ R.locals)
    (hK : va_K D vwCl tys s) (isT : List Nat) (hT : isT.filterMap (fun i => tys[i]?) = tc) (hP : va_P D vwCl (bw Bs) H) (hD : va_D A (bw Bs)) (hS : va_S A s.heap H locs) (isC : List Nat) (hn : isC.Nodup) (hC : isC.map (fun i => Bs[i]?) = Cs.map some) {fs : List Value} (hrc : ws[0]? = some (b, .inr (7, fs))) (hls : ls.size = nL) (hstk : st0 = As.reverse ++ .ref b :: rest) (hW : (rest.map fun v => v.category).sum ≤ 8) (hdg : decode cc pc = .ok (.invokevirtual idx, 3)) (hcs : cells ≤ R.cells ∧ slots ≤ R.slots)
    (pb : Int32 → List va_W → Prop) (hpb : ∀ r u, post r u → ∃ U, bw U = u ∧ pb r U) (hadr : ∀ r U, pb r U → U.map (fun b => b.map Prod.fst) = Cs.map (fun b => b.map Prod.fst))
    (kk : ∀ (r : Int32) (u : List va_W) (H1 : Heap) (locs1 : List Loc), pb r u → va_P D vwCl (bw (bput Bs isC u)) H1 → va_D A (bw (bput Bs isC u)) → va_S A s.heap H1 locs1 → W p l e R s m args below meth c H1 locs1 cells slots Q (F0 m (pc + 3) ls (.int r :: rest))) : W p l e R s m args below meth c H locs cells slots Q (F0 m pc ls st0) := by
  subst hws
  have hF := bw_A hD isC hC
  refine va_calli (lw_ref hX hM hq hyo hw hR hK isT hT hP hD isC hn hC hrc hls hstk hW hdg hcs) hS (fun q _ h => hF q h) hF (fun r u t H1 locs1 ht hvm hp hB hz hk hS1 => ?_)
  rw [ht] at hB
  obtain ⟨U, rfl, hU⟩ := hpb r u hp
  obtain ⟨h1, h2⟩ := bw_join hP hD isC hC (hadr r U hU) hk hB
  exact kk r U H1 locs1 hU h1 h2 hS1
end LW
