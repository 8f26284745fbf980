-- THE LAW: its helpers' words, the class's whole world
def WLb : List Cond := [
  .constant RL 7 (15593227),
  .constant RL 8 (2147483647),
  .classLink RL 15 "java/lang/IllegalArgumentException",
  .classLink RL 19 "java/lang/IllegalStateException",
  .constantLong RL 17 (-9000000000000000002),
  .constantLong RL 21 (-9000000000000000003),
  .methodLink RL 9 yX6_append,
  .instanceMethod yX6_append,
  .selects RX6 yX6_append yX6_append,
  .code yX6_append cX6_append 2 (some .int),
  .methodLink RL 23 yX6_load,
  .instanceMethod yX6_load,
  .selects RX6 yX6_load yX6_load,
  .code yX6_load cX6_load 3 (some .int),
  .methodLink RL 27 yX6_about,
  .instanceMethod yX6_about,
  .selects RX6 yX6_about yX6_about,
  .code yX6_about cX6_about 2 (some .int),
  .classLink RL 34 "java/lang/IndexOutOfBoundsException",
  .constantLong RL 36 (-9000000000000000001),
  .methodLink RL 30 yX6_page,
  .instanceMethod yX6_page,
  .selects RX6 yX6_page yX6_page,
  .code yX6_page cX6_page 3 (some .int),
  .methodLink RL 38 yX6_block,
  .instanceMethod yX6_block,
  .selects RX6 yX6_block yX6_block,
  .code yX6_block cX6_block 3 (some .int),
  .methodLink RL 41 yX6_get,
  .instanceMethod yX6_get,
  .selects RX6 yX6_get yX6_get,
  .code yX6_get cX6_get 2 (some .int),
  .methodLink RL 44 yX6_keyAt,
  .instanceMethod yX6_keyAt,
  .selects RX6 yX6_keyAt yX6_keyAt,
  .code yX6_keyAt cX6_keyAt 4 (some .int),
  .methodLink RL 47 yX6_newest,
  .instanceMethod yX6_newest,
  .selects RX6 yX6_newest yX6_newest,
  .code yX6_newest cX6_newest 2 (some .int),
  .methodLink RL 50 yX6_lastCut,
  .instanceMethod yX6_lastCut,
  .selects RX6 yX6_lastCut yX6_lastCut,
  .code yX6_lastCut cX6_lastCut 2 (some .int),
  .methodLink RL 53 yX6_put,
  .instanceMethod yX6_put,
  .selects RX6 yX6_put yX6_put,
  .code yX6_put cX6_put 3 (some .int),
  .methodLink RL 56 yX6_remove,
  .instanceMethod yX6_remove,
  .selects RX6 yX6_remove yX6_remove,
  .code yX6_remove cX6_remove 2 (some .int),
  .methodLink RL 59 yX6_sweep,
  .instanceMethod yX6_sweep,
  .selects RX6 yX6_sweep yX6_sweep,
  .code yX6_sweep cX6_sweep 2 (some .int),
  .methodLink RL 62 yX6_cut,
  .instanceMethod yX6_cut,
  .selects RX6 yX6_cut yX6_cut,
  .code yX6_cut cX6_cut 3 (some .int),
  .methodLink RL 65 yX6_start,
  .instanceMethod yX6_start,
  .selects RX6 yX6_start yX6_start,
  .code yX6_start cX6_start 1 (some .int),
  .methodLink RL 68 yX6_setPolicy,
  .instanceMethod yX6_setPolicy,
  .selects RX6 yX6_setPolicy yX6_setPolicy,
  .code yX6_setPolicy cX6_setPolicy 3 (some .int),
  .methodLink RL 71 yX6_undo,
  .instanceMethod yX6_undo,
  .selects RX6 yX6_undo yX6_undo,
  .code yX6_undo cX6_undo 1 (some .int),
  .methodLink RL 74 yX6_operations,
  .instanceMethod yX6_operations,
  .selects RX6 yX6_operations yX6_operations,
  .code yX6_operations cX6_operations 2 (some .int),
  .methodLink RL 77 yX6_afterCut,
  .instanceMethod yX6_afterCut,
  .selects RX6 yX6_afterCut yX6_afterCut,
  .code yX6_afterCut cX6_afterCut 4 (some .int),
  .methodLink RL 81 yX6_lasts,
  .instanceMethod yX6_lasts,
  .selects RX6 yX6_lasts yX6_lasts,
  .code yX6_lasts cX6_lasts 3 (some .int),
  .methodLink RL 84 yX6_runScript,
  .instanceMethod yX6_runScript,
  .selects RX6 yX6_runScript yX6_runScript,
  .code yX6_runScript cX6_runScript 10 (some .int),
  .methodLink RL 88 yX6_simulate,
  .instanceMethod yX6_simulate,
  .selects RX6 yX6_simulate yX6_simulate,
  .code yX6_simulate cX6_simulate 8 (some .int),
  .methodLink RL 92 yX6_save,
  .instanceMethod yX6_save,
  .selects RX6 yX6_save yX6_save,
  .code yX6_save cX6_save 2 (some .int),
  .methodLink RL 95 yX6_restore,
  .instanceMethod yX6_restore,
  .selects RX6 yX6_restore yX6_restore,
  .code yX6_restore cX6_restore 2 (some .int),
  .constantLong RL 98 (19),
  .constantLong RL 100 (31),
  .constantLong RL 110 (4),
  .constantLong RL 116 (37),
  .constantLong RL 118 (41),
  .methodLink RL 102 yL_about,
  .static yL_about,
  .initialized RL,
  .codeWith yL_about cL_about 3 (some .long) [(0, 6, 7, 15)],
  .methodLink RL 107 yL_block,
  .static yL_block,
  .codeWith yL_block cL_block 4 (some .long) [(0, 7, 8, 34), (0, 7, 13, 15)],
  .methodLink RL 112 yL_page,
  .static yL_page,
  .codeWith yL_page cL_page 4 (some .long) [(0, 7, 8, 34), (0, 7, 13, 15)],
  .methodLink RL 114 yL_lastCut,
  .static yL_lastCut,
  .codeWith yL_lastCut cL_lastCut 3 (some .long) [(0, 6, 7, 15)],
  .constantLong RL 142 (-9),
  .constantLong RL 161 (10000000000000000),
  .methodLink RL 120 yL_now,
  .static yL_now,
  .code yL_now cL_now 5 (some .long),
  .methodLink RL 124 yX6_whyNoRoom,
  .instanceMethod yX6_whyNoRoom,
  .selects RX6 yX6_whyNoRoom yX6_whyNoRoom,
  .code yX6_whyNoRoom cX6_whyNoRoom 1 (some .int),
  .methodLink RL 127 yL_get,
  .static yL_get,
  .codeWith yL_get cL_get 3 (some .long) [(0, 6, 7, 15), (0, 6, 12, 19)],
  .methodLink RL 129 yL_keyAt,
  .static yL_keyAt,
  .codeWith yL_keyAt cL_keyAt 3 (some .long) [(0, 6, 7, 15)],
  .methodLink RL 131 yL_newest,
  .static yL_newest,
  .codeWith yL_newest cL_newest 3 (some .long) [(0, 6, 7, 15)],
  .methodLink RL 133 yL_put,
  .static yL_put,
  .codeWith yL_put cL_put 4 (some .long) [(0, 7, 8, 15), (0, 7, 13, 19)],
  .methodLink RL 135 yL_operations,
  .static yL_operations,
  .codeWith yL_operations cL_operations 2 (some .long) [(0, 5, 6, 19)],
  .methodLink RL 137 yL_afterCut,
  .static yL_afterCut,
  .codeWith yL_afterCut cL_afterCut 5 (some .long) [(0, 8, 9, 15), (0, 8, 15, 19)],
  .methodLink RL 140 yL_remove,
  .static yL_remove,
  .codeWith yL_remove cL_remove 3 (some .long) [(0, 6, 7, 15), (0, 6, 12, 19)],
  .methodLink RL 144 yX6_victim,
  .instanceMethod yX6_victim,
  .selects RX6 yX6_victim yX6_victim,
  .code yX6_victim cX6_victim 1 (some .int),
  .methodLink RL 147 yL_sweep,
  .static yL_sweep,
  .codeWith yL_sweep cL_sweep 2 (some .long) [(0, 5, 6, 19)],
  .methodLink RL 149 yL_cut,
  .static yL_cut,
  .codeWith yL_cut cL_cut 3 (some .long) [(0, 6, 7, 15), (0, 6, 12, 19)],
  .methodLink RL 151 yL_start,
  .static yL_start,
  .codeWith yL_start cL_start 2 (some .long) [(0, 5, 6, 19)],
  .methodLink RL 153 yL_setPolicy,
  .static yL_setPolicy,
  .codeWith yL_setPolicy cL_setPolicy 3 (some .long) [(0, 6, 7, 15)],
  .methodLink RL 155 yL_lasts,
  .static yL_lasts,
  .codeWith yL_lasts cL_lasts 3 (some .long) [(0, 6, 7, 15)],
  .methodLink RL 157 yL_script,
  .static yL_script,
  .codeWith yL_script cL_script 5 (some .long) [(0, 7, 8, 15)],
  .methodLink RL 163 yL_simulate,
  .static yL_simulate,
  .codeWith yL_simulate cL_simulate 5 (some .long) [(0, 7, 8, 15)],
  .methodLink RL 166 yL_save,
  .static yL_save,
  .codeWith yL_save cL_save 3 (some .long) [(0, 6, 7, 34)],
  .methodLink RL 168 yL_restore,
  .static yL_restore,
  .codeWith yL_restore cL_restore 3 (some .long) [(0, 6, 7, 34), (0, 6, 12, 19)],
  .methodLink RL 170 yL_append,
  .static yL_append,
  .codeWith yL_append cL_append 3 (some .long) [(0, 6, 7, 15), (0, 6, 12, 19)],
  .constantLong RL 172 (2),
  .constantLong RL 178 (15),
  .constantLong RL 180 (999),
  .methodLink RL 174 yL_in,
  .static yL_in,
  .code yL_in cL_in 6 (some .boolean),
  .methodLink RL 182 yX6_oldest,
  .instanceMethod yX6_oldest,
  .selects RX6 yX6_oldest yX6_oldest,
  .code yX6_oldest cX6_oldest 5 (some .int),
  .methodLink RL 185 yL_fewest,
  .static yL_fewest,
  .code yL_fewest cL_fewest 4 (some .boolean),
  .constantLong RL 189 (1009),
  .constantLong RL 197 (300),
  .constantLong RL 199 (-2),
  .methodLink RL 191 yL_valueOf,
  .static yL_valueOf,
  .code yL_valueOf cL_valueOf 3 (some .long),
  .methodLink RL 194 yL_others,
  .static yL_others,
  .code yL_others cL_others 5 (some .long),
  .methodLink RL 201 yL_undo,
  .static yL_undo,
  .codeWith yL_undo cL_undo 2 (some .long) [(0, 5, 6, 19)],
  .constantLong RL 206 (400210003000),
  .methodLink RL 203 yX6_errorPosition,
  .instanceMethod yX6_errorPosition,
  .selects RX6 yX6_errorPosition yX6_errorPosition,
  .code yX6_errorPosition cX6_errorPosition 1 (some .int),
  .constant RL 215 (65535),
  .methodLink RL 208 yX6_clearText,
  .instanceMethod yX6_clearText,
  .selects RX6 yX6_clearText yX6_clearText,
  .code yX6_clearText cX6_clearText 1 (some .int),
  .methodLink RL 211 yL_types,
  .static yL_types,
  .code yL_types cL_types 5 (some .boolean),
  .classLink RL 10 RX6,
  .instantiable RX6 6,
  .constant RL 243 (83003),
  .methodLink RL 216 yX6_init,
  .instanceMethod yX6_init,
  .code yX6_init cX6_init 1 none,
  .methodLink RL 217 yL_draw,
  .static yL_draw,
  .code yL_draw cL_draw 2 (some .int),
  .methodLink RL 221 yL_alike,
  .static yL_alike,
  .code yL_alike cL_alike 3 (some .boolean),
  .methodLink RL 225 yL_errors,
  .static yL_errors,
  .code yL_errors cL_errors 7 (some .boolean),
  .methodLink RL 229 yL_kept,
  .static yL_kept,
  .code yL_kept cL_kept 15 (some .boolean),
  .methodLink RL 232 yL_tells,
  .static yL_tells,
  .code yL_tells cL_tells 6 (some .boolean),
  .methodLink RL 235 yL_load,
  .static yL_load,
  .codeWith yL_load cL_load 2 (some .long) [(0, 5, 6, 19)],
  .methodLink RL 237 yL_act,
  .static yL_act,
  .code yL_act cL_act 3 (some .long),
  .methodLink RL 240 yL_follows,
  .static yL_follows,
  .code yL_follows cL_follows 26 (some .boolean)]
def WLA : List Cond := WLb ++ (W6 ++ W6e)
theorem mlA {w : Cond} (i : Nat) (h : WLb[i]? = some w) : w ∈ WLA := List.mem_append_left _ (List.mem_of_getElem? h)
theorem ml6 {w : Cond} (h : w ∈ W6) : w ∈ WLA := List.mem_append_right _ (List.mem_append_left _ h)
theorem ml6e {w : Cond} (h : w ∈ W6e) : w ∈ WLA := List.mem_append_right _ (List.mem_append_right _ h)
theorem good_w6e : W6e.all goodWord = true := by
  rw [W6e, List.all_append, List.all_append, good_e0, good_e1, good_e2]
  rfl
theorem good_wlb : WLb.all goodWord = true := by decide +kernel
theorem goodLA : GoodIn WLA WLA := fun w h => ⟨h, by
  rcases List.mem_append.mp h with h | h
  · exact good_of_word (List.all_eq_true.mp good_wlb w h)
  · rcases List.mem_append.mp h with h | h
    · exact (good6 w h).2
    · exact good_of_word (List.all_eq_true.mp good_w6e w h)⟩
theorem gdL {y : MethodName} {b : ByteArray} {nL : Nat} {ret : Option FieldType} (hc : Cond.code y b nL ret ∈ WLA) : GoodIn WLA (.code y b nL ret :: (W6 ++ W6e)) := fun w h =>
  (List.mem_cons.mp h).elim (fun e => e ▸ goodLA _ hc) (fun h => goodLA _ (List.mem_append_right _ h))
/-- which exceptions are not of which class -/
def CN (U : State) : Prop := va_Nc xIS xIA U ∧ va_Nc xIA xOB U ∧ va_Nc xIS xOB U
theorem CN_moved {u U : State} (h : u.vm.Alike U.vm) (q : CN u) : CN U := ⟨q.1.moved h, q.2.1.moved h, q.2.2.moved h⟩
theorem ZW_at {A B : Nat → Prop} {s U : State} {H : Heap} (h : ZW A s) (hk : ∀ a : Nat, a < s.heap.size → ¬ A a → H[a]? = s.heap[a]?) (hU : U.heap = H) (hv : s.vm.Alike U.vm) (hAB : ∀ q, B q → A q) : ZW B U := by
  subst hU
  exact ⟨((h.1.kept hk).moved hv).narrow hAB, ((h.2.kept hk).moved hv).narrow hAB⟩
def gl_Pc (D : va_G) (ws : va_W) (tys : List (ClassId × FieldType)) (av : List Value) : Array Value → State → Prop := va_Pc av (fun U => va_P D vwCl ws U.heap ∧ va_K D vwCl tys U ∧ va_D (gp_A ws) ws ∧ NW U ∧ EW U ∧ SW U ∧ ZW (gp_A ws) U ∧ CN U)
theorem gl_blind {D : va_G} {ws : va_W} {tys : List (ClassId × FieldType)} {av : List Value} : FrameBlind (gl_Pc D ws tys av) := fun a U g mk q => by
  have h := ge_blind (D := D) (ws := ws) (tys := tys) (av := av) a U g mk ⟨q.1, q.2.1, q.2.2.1, q.2.2.2.1, q.2.2.2.2.1, q.2.2.2.2.2.1, q.2.2.2.2.2.2.1, q.2.2.2.2.2.2.2.1⟩
  exact ⟨h.1, h.2.1, h.2.2.1, h.2.2.2.1, h.2.2.2.2.1, h.2.2.2.2.2.1, h.2.2.2.2.2.2.1, h.2.2.2.2.2.2.2, CN_moved (u := U) (U := U.calling g mk a) (Vm.Alike.refl U.vm) q.2.2.2.2.2.2.2.2⟩
/-- a helper of the law: it catches what its call throws -/
def LH (l : Launch) (y : MethodName) (b : ByteArray) (nL : Nat) (hh : List (Nat × Nat × Nat × Nat)) (fr lo : Nat) (D : va_G) (Bs : List va_W) (tys : List (ClassId × FieldType)) (av : List Value) (post : Int64 → List va_W → Prop) : Prop :=
  vx_Met l y (.codeWith y b nL (some .long) hh :: WLA) ({ frames := fr, cells := 1, slots := 6, locals := lo }) (gl_Pc D (bw Bs) tys av) (va_Ql post (fun u t => va_P D vwCl (bw u) t.heap) (gp_A (bw Bs))) (fun _ _ _ => False) 1 6 (gp_A (bw Bs))
theorem lh_of {l : Launch} {y : MethodName} {b : ByteArray} {nL fr lo : Nat} {hh : List (Nat × Nat × Nat × Nat)} {D : va_G} {Bs : List va_W} {tys : List (ClassId × FieldType)} {av : List Value} {post : Int64 → List va_W → Prop} (hy : plainName y.cls = true) (hyo : y.cls = RL) (hlen : (lg_sl av).length ≤ nL)
    (body : ∀ (p : Program) (e : Env) (s : State) (m : MethodId) (below : List Frame) (meth : Method) (c : Code) (ls : Array Slot) (H : Heap), CallFix p m c b nL s av.toArray WLA RL → c.exceptionTable.toList = tableOf hh → meth.sig.returnType = some .long → meth.locks = false → va_K D vwCl tys s → NW s → EW s → SW s → ZW (gp_A (bw Bs)) s → CN s → va_P D vwCl (bw Bs) H → va_D (gp_A (bw Bs)) (bw Bs) → va_S (gp_A (bw Bs)) s.heap H [] → lv_has ls nL (lv_args 0 av) →
      W p l e ({ frames := fr, cells := 1, slots := 6, locals := lo } : Room) s m av.toArray below meth c H [] 0 0 (vx_MQ below (va_Ql post (fun u t => va_P D vwCl (bw u) t.heap) (gp_A (bw Bs))) (fun _ _ _ => False) av.toArray s 1 6 (gp_A (bw Bs))) (F0 m 0 ls [])) : LH l y b nL hh fr lo D Bs tys av post := by
  refine vx_ofWH (cc := b) (maxL := nL) (ret := some .long) (hh := hh) hy rfl ?_
  intro p e s m args below meth c s₁ B hml hv
  obtain ⟨rfl, hP, hK, hD, hN, hE, hSW, hZ, hCN⟩ := hv
  have hts := atoms_spec (ws := .codeWith y b nL (some .long) hh :: WLA) B.pre
  have ht := vx_table (x := y) B (hts _ List.mem_cons_self)
  have hl := lv_entry av hlen
  rw [lg_entry_eq]
  exact body p e s m below meth c _ _ ⟨B.exec, B.bytes, hml, hyo ▸ findClass_of_methodNamed B.named, fun w h => hts w (List.mem_cons_of_mem _ h)⟩ ht B.returns B.notSynchronized hK hN hE hSW hZ hCN hP hD va_S.rf hl
section LC
variable {p : Program} {l : Launch} {e : Env} {R : Room} {s : State} {m : MethodId} {args : Array Value} {below : List Frame} {meth : Method} {c : Code} {H : Heap} {locs : List Loc} {cells slots : Nat} {Q : State → Prop} {cc : ByteArray} {pc : Nat} {ls : Array Slot} {rest st0 : List Value} {D : va_G} {A : Nat → Prop} {tys tc : List (ClassId × FieldType)} {Bs Cs : List va_W} {nL nL2 fr lo idx : Nat} {y : MethodName} {b2 : ByteArray} {As : List Value} {b : Addr}
theorem bq_retl {v : Int64} {Wd : List Cond} {own : String} {post : Int64 → List va_W → Prop} {u : List va_W} (hx : CallFix p m c cc nL s args Wd own) (hr : meth.sig.returnType = some .long) (hlocks : meth.locks = false) (hS : va_S A s.heap H locs) (hP : va_P D vwCl (bw u) H) (hpost : post v u) (hdg : decode cc pc = .ok (.lreturn, 1)) : W p l e R s m args below meth c H locs cells slots (MQ below (va_Ql post (fun u t => va_P D vwCl (bw u) t.heap) A) args s cells slots A) (F0 m pc ls [.long v]) :=
  W.lret hx.1 hx.2.1 hr (fun t ht _ => ⟨⟨v, u, rfl, hpost, by show va_P D vwCl (bw u) t.heap; rw [ht]; exact hP⟩, hS.F ht⟩) hS.2.2 hdg
theorem lh_ret {v : Int64} {post : Int64 → List va_W → Prop} {u : List va_W} (hx : CallFix p m c cc nL s args WLA RL) (hr : meth.sig.returnType = some .long) (hlocks : meth.locks = false) (hS : va_S A s.heap H locs) (hP : va_P D vwCl (bw u) H) (hpost : post v u) (hc : cells ≤ 1) (hs : slots ≤ 6) (hdg : decode cc pc = .ok (.lreturn, 1)) : W p l e R s m args below meth c H locs cells slots (vx_MQ below (va_Ql post (fun u t => va_P D vwCl (bw u) t.heap) A) (fun _ _ _ => False) args s 1 6 A) (F0 m pc ls [.long v]) :=
  vx_ret (W.widen hc hs (bq_retl hx hr hlocks hS hP hpost hdg))
/-- a helper's call of the class's method -/
theorem lh_callV {post : Int32 → List va_W → Prop} {xp : String → List va_W → Prop} (hX : CallFix p m c cc nL s args WLA RL) (hM : GE l y b2 nL2 fr lo D Cs tc (.ref b :: As) post xp) (hq : y.cls ≠ "java/lang/invoke/MethodHandle" ∧ y.cls ≠ "java/lang/invoke/VarHandle" ∧ (parseMethodDescriptor y.desc).map (fun d => d.parameters.length) = some As.length) (hyo : y.cls = RX6) (hl : Cond.methodLink RL idx y ∈ WLA) (hs : Cond.instanceMethod y ∈ WLA) (hsel : Cond.selects RX6 y y ∈ WLA) (hcode : Cond.code y b2 nL2 (some .int) ∈ WLA) (hR : fr + 1 ≤ R.frames ∧ 8 + (nL2 + 11) + lo ≤ R.locals)
    (hK : va_K D vwCl tys s) (hN : NW s) (hE : EW s) (hSW : SW s) (hZ : ZW A s) (isT : List Nat) (hT : isT.filterMap (fun i => tys[i]?) = tc) (hP : va_P D vwCl (bw Bs) H) (hD : va_D A (bw Bs)) (hS : va_S A s.heap H locs) (isC : List Nat) (hn : isC.Nodup) (hC : isC.map (fun i => Bs[i]?) = Cs.map some) {fs : List Value} (hrc : (bw Cs)[0]? = some (b, .inr (6, fs))) (hls : ls.size = nL) (hstk : st0 = As.reverse ++ .ref b :: rest) (hW : (rest.map fun v => v.category).sum ≤ 8) (hdg : decode cc pc = .ok (.invokevirtual idx, 3)) (hcs : cells + 1 ≤ R.cells ∧ slots + 6 ≤ R.slots)
    (hadr : ∀ r u, post r u → u.map (fun b => b.map Prod.fst) = Cs.map (fun b => b.map Prod.fst)) (hadx : ∀ E u, xp E u → u.map (fun b => b.map Prod.fst) = Cs.map (fun b => b.map Prod.fst))
    (kx : ∀ (E : String) (ce : Cell) (q9 : Addr) (u : List va_W) (H1 : Heap) (locs1 : List Loc), xp E u → va_P D vwCl (bw (bput Bs isC u)) H1 → va_D A (bw (bput Bs isC u)) → va_S A s.heap H1 locs1 → H1[q9]? = some ce → ce.vm = .none → s.vm.findClass E = some ce.cls → vx_W p l e R s m args below meth c H1 locs1 (cells + 1) (slots + 6) Q (F0 m pc ls rest) q9)
    (kk : ∀ (r : Int32) (u : List va_W) (H1 : Heap) (locs1 : List Loc), post r u → va_P D vwCl (bw (bput Bs isC u)) H1 → va_D A (bw (bput Bs isC u)) → va_S A s.heap H1 locs1 → W p l e R s m args below meth c H1 locs1 (cells + 1) (slots + 6) Q (F0 m (pc + 3) ls (.int r :: rest))) : W p l e R s m args below meth c H locs cells slots Q (F0 m pc ls st0) := by
  have hPc := bw_subP hP isC hC
  have hKc := hK.sub isT hT
  have hDc := gp_self (bw_subD hD isC hn hC)
  have hF := bw_A hD isC hC
  have cw := cwV (R := R) (s := s) (args := args) (own := RL) (C := RX6) (index := idx) (y := y) (bytes := b2) (maxL := nL2) (ret := some .int) (ws := .code y b2 nL2 (some .int) :: (W6 ++ W6e)) (rm := { frames := fr, cells := 1, slots := 6, locals := lo }) (mc := 1) (ms := 6) As.length hX.2.2.2.2 (fun w hw => by
    rcases List.mem_append.mp hw with h | h
    · rcases List.mem_cons.mp h with h | h
      · exact h ▸ goodLA _ hl
      · rcases List.mem_cons.mp h with h | h
        · exact h ▸ goodLA _ hs
        · rcases List.mem_cons.mp h with h | h
          · exact h ▸ goodLA _ hsel
          · exact List.mem_singleton.mp h ▸ goodLA _ (ml6 (m6 31 rfl))
    · exact gdL hcode w h) rfl rfl rfl ⟨hyo, hq⟩ hR
  refine vx_calli (vx_runV (As := As) (rest := rest) (b := b) (C := RX6) hX hM cw ⟨ge_blind, va_recv (cl := vwCl) (ci := 6) hKc hPc rfl hrc, fun U hU hW => ⟨rfl, by rw [hU]; exact hPc, va_K.moved hW.alike hKc, hDc, NW_warm hW hN, EW_warm hW hE, SW_warm hW hSW, ZW_at hZ hS.2.1 hU hW.alike hF⟩⟩ rfl rfl hls hstk (lv_room hW) hdg hcs) hS (fun q _ h => hF q h) hF (fun q _ h => hF q h) (fun E ce q9 u t H1 locs1 ht hvm hp hB hz hk hS1 hce hcv hcl => ?_) (fun r u t H1 locs1 ht hvm hp hB hz hk hS1 => ?_)
  · obtain ⟨rfl, hB⟩ := hB
    rw [ht] at hB
    obtain ⟨h1, h2⟩ := bw_join hP hD isC hC (hadx _ _ hp) hk hB
    exact kx _ ce q9 u.2 H1 locs1 hp h1 h2 hS1 hce hcv hcl
  · rw [ht] at hB
    obtain ⟨h1, h2⟩ := bw_join hP hD isC hC (hadr r u hp) hk hB
    exact kk r u H1 locs1 hp h1 h2 hS1
end LC
-- the class's whole world: eight blocks, then 19 Logs (0..13 remembered, 14, 15 saved, 16 the log, 17 copy, 18 trial)
theorem zLs_len {cI : ClassId} {dl : Nat → Nat → Nat} {zz : Nat → LgS} : ∀ n, (zLs cI dl zz n).length = n
  | 0 => rfl
  | n + 1 => by rw [zLs, List.length_append, zLs_len n]; rfl
theorem zLs_get {cI : ClassId} {dl : Nat → Nat → Nat} {zz : Nat → LgS} {j : Nat} : ∀ {n : Nat}, j < n → (zLs cI dl zz n)[j]? = some (zL cI (dl j) (zz j))
  | 0, h => absurd h (Nat.not_lt_zero _)
  | n + 1, h => by
    rw [zLs]
    by_cases e : j = n
    · subst e
      rw [List.getElem?_append_right (by rw [zLs_len]; omega), zLs_len, Nat.sub_self]
      rfl
    · rw [List.getElem?_append_left (by rw [zLs_len]; omega)]
      exact zLs_get (by omega)
theorem zLs_set {cI : ClassId} {dl : Nat → Nat → Nat} {zz : Nat → LgS} {j : Nat} {z : LgS} : ∀ {n : Nat}, j < n → (zLs cI dl zz n).set j (zL cI (dl j) z) = zLs cI dl (va_up zz j z) n
  | 0, h => absurd h (Nat.not_lt_zero _)
  | n + 1, h => by
    rw [zLs, zLs]
    by_cases e : j = n
    · subst e
      rw [List.set_append_right _ _ (by rw [zLs_len]; omega), zLs_len, Nat.sub_self, va_up_self, zLs_congr (d2 := dl) (z2 := zz) (fun i hi => ⟨rfl, va_up_ne _ _ (by omega)⟩)]
      rfl
    · rw [List.set_append_left _ _ (by rw [zLs_len]; omega), zLs_set (by omega), va_up_ne _ _ (Ne.symm e)]
def cwB (H0 H1 H2 H3 H4 H5 H6 H7 : va_W) (cI : ClassId) (dl : Nat → Nat → Nat) (zz : Nat → LgS) : List va_W := [H0, H1, H2, H3, H4, H5, H6, H7] ++ zLs cI dl zz 19
section CW
variable {H0 H1 H2 H3 H4 H5 H6 H7 X : va_W} {cI : ClassId} {dl : Nat → Nat → Nat} {zz : Nat → LgS}
theorem cw_get {j : Nat} (h : j < 19) : (cwB H0 H1 H2 H3 H4 H5 H6 H7 cI dl zz)[8 + j]? = some (zL cI (dl j) (zz j)) := by
  rw [cwB, List.getElem?_append_right (by simp)]
  simp only [List.length_cons, List.length_nil]
  rw [show 8 + j - (0 + 1 + 1 + 1 + 1 + 1 + 1 + 1 + 1) = j by omega]
  exact zLs_get h
theorem cw_set {j : Nat} {z : LgS} (h : j < 19) : (cwB H0 H1 H2 H3 H4 H5 H6 H7 cI dl zz).set (8 + j) (zL cI (dl j) z) = cwB H0 H1 H2 H3 H4 H5 H6 H7 cI dl (va_up zz j z) := by
  rw [cwB, cwB, List.set_append_right _ _ (by simp)]
  simp only [List.length_cons, List.length_nil]
  rw [show 8 + j - (0 + 1 + 1 + 1 + 1 + 1 + 1 + 1 + 1) = j by omega, zLs_set h]
theorem cw_g0 : (cwB H0 H1 H2 H3 H4 H5 H6 H7 cI dl zz)[0]? = some H0 := rfl
theorem cw_s0 : (cwB H0 H1 H2 H3 H4 H5 H6 H7 cI dl zz).set 0 X = cwB X H1 H2 H3 H4 H5 H6 H7 cI dl zz := rfl
theorem cw_g1 : (cwB H0 H1 H2 H3 H4 H5 H6 H7 cI dl zz)[1]? = some H1 := rfl
theorem cw_s1 : (cwB H0 H1 H2 H3 H4 H5 H6 H7 cI dl zz).set 1 X = cwB H0 X H2 H3 H4 H5 H6 H7 cI dl zz := rfl
theorem cw_g2 : (cwB H0 H1 H2 H3 H4 H5 H6 H7 cI dl zz)[2]? = some H2 := rfl
theorem cw_s2 : (cwB H0 H1 H2 H3 H4 H5 H6 H7 cI dl zz).set 2 X = cwB H0 H1 X H3 H4 H5 H6 H7 cI dl zz := rfl
theorem cw_g3 : (cwB H0 H1 H2 H3 H4 H5 H6 H7 cI dl zz)[3]? = some H3 := rfl
theorem cw_s3 : (cwB H0 H1 H2 H3 H4 H5 H6 H7 cI dl zz).set 3 X = cwB H0 H1 H2 X H4 H5 H6 H7 cI dl zz := rfl
theorem cw_g4 : (cwB H0 H1 H2 H3 H4 H5 H6 H7 cI dl zz)[4]? = some H4 := rfl
theorem cw_s4 : (cwB H0 H1 H2 H3 H4 H5 H6 H7 cI dl zz).set 4 X = cwB H0 H1 H2 H3 X H5 H6 H7 cI dl zz := rfl
theorem cw_g5 : (cwB H0 H1 H2 H3 H4 H5 H6 H7 cI dl zz)[5]? = some H5 := rfl
theorem cw_s5 : (cwB H0 H1 H2 H3 H4 H5 H6 H7 cI dl zz).set 5 X = cwB H0 H1 H2 H3 H4 X H6 H7 cI dl zz := rfl
theorem cw_g6 : (cwB H0 H1 H2 H3 H4 H5 H6 H7 cI dl zz)[6]? = some H6 := rfl
theorem cw_s6 : (cwB H0 H1 H2 H3 H4 H5 H6 H7 cI dl zz).set 6 X = cwB H0 H1 H2 H3 H4 H5 X H7 cI dl zz := rfl
theorem cw_g7 : (cwB H0 H1 H2 H3 H4 H5 H6 H7 cI dl zz)[7]? = some H7 := rfl
theorem cw_s7 : (cwB H0 H1 H2 H3 H4 H5 H6 H7 cI dl zz).set 7 X = cwB H0 H1 H2 H3 H4 H5 H6 X cI dl zz := rfl
end CW
theorem bput_c {Bs : List va_W} {i : Nat} {is : List Nat} {u : va_W} {us : List va_W} : bput Bs (i :: is) (u :: us) = bput (Bs.set i u) is us := rfl
theorem bput_n {Bs : List va_W} : bput Bs [] [] = Bs := rfl
