-- THE LAW'S CASES THAT CALL THE CLASS ITSELF
section LD
variable {p : Program} {l : Launch} {e : Env} {R : Room} {s : State} {m : MethodId} {args : Array Value} {below : List Frame} {meth : Method} {c : Code} {H : Heap} {locs : List Loc} {cells slots : Nat} {Q : State → Prop} {cc : ByteArray} {pc : Nat} {ls : Array Slot} {rest st0 : List Value} {D : va_G} {A : Nat → Prop} {tys tc : List (ClassId × FieldType)} {Bs Cs : List va_W} {nL nL2 fr lo idx : Nat} {y : MethodName} {b2 : ByteArray} {As : List Value} {b : Addr}
theorem gd6w {ret : FieldType} (hw : GoodIn lw_tbl [.methodLink RL idx y, .instanceMethod y, .selects RX6 y y, .initialized RX6, .code y b2 nL2 (some ret)]) : GoodIn lw_tbl (wsV RL idx RX6 y (.code y b2 nL2 (some ret) :: W6)) := fun w hw9 => by
  rcases List.mem_append.mp hw9 with h | h
  · refine hw w ?_
    rcases List.mem_cons.mp h with h | h
    · rw [h]; simp
    · rcases List.mem_cons.mp h with h | h
      · rw [h]; simp
      · rcases List.mem_cons.mp h with h | h
        · rw [h]; simp
        · rw [List.mem_singleton.mp h]; simp
  · rcases List.mem_cons.mp h with h | h
    · rw [h]; exact hw _ (by simp)
    · exact gd6 w h
theorem lw_c6i {ret : FieldType} {post : Int32 → List va_W → Prop} (hX : CallFix p m c cc nL s args lw_tbl RL) (hM : BQi l y b2 nL2 ret W6 fr lo D Cs tc (.ref b :: As) post) (hq : y.cls ≠ "java/lang/invoke/MethodHandle" ∧ y.cls ≠ "java/lang/invoke/VarHandle" ∧ (parseMethodDescriptor y.desc).map (fun d => d.parameters.length) = some As.length) (hyo : y.cls = RX6) (hw : GoodIn lw_tbl [.methodLink RL idx y, .instanceMethod y, .selects RX6 y y, .initialized RX6, .code y b2 nL2 (some ret)]) (hR : fr + 1 ≤ R.frames ∧ 8 + (nL2 + 11) + lo ≤ R.locals)
    (hK : va_K D vwCl tys s) (hN : NW s) (isT : List Nat) (hT : isT.filterMap (fun i => tys[i]?) = tc) (hP : va_P D vwCl (bw Bs) H) (hD : va_D A (bw Bs)) (hS : va_S A s.heap H locs) (isC : List Nat) (hn : isC.Nodup) (hC : isC.map (fun i => Bs[i]?) = Cs.map some) {fs : List Value} (hrc : (bw Cs)[0]? = some (b, .inr (6, fs))) (hls : ls.size = nL) (hstk : st0 = As.reverse ++ .ref b :: rest) (hW : (rest.map fun v => v.category).sum ≤ 8) (hdg : decode cc pc = .ok (.invokevirtual idx, 3)) (hcs : cells ≤ R.cells ∧ slots ≤ R.slots)
    (hadr : ∀ r u, post r u → u.map (fun b => b.map Prod.fst) = Cs.map (fun b => b.map Prod.fst))
    (kk : ∀ (r : Int32) (u : List va_W) (H1 : Heap) (locs1 : List Loc), post r u → va_P D vwCl (bw (bput Bs isC u)) H1 → va_D A (bw (bput Bs isC u)) → va_S A s.heap H1 locs1 → W p l e R s m args below meth c H1 locs1 cells slots Q (F0 m (pc + 3) ls (.int r :: rest))) : W p l e R s m args below meth c H locs cells slots Q (F0 m pc ls st0) := by
  have hPc := bw_subP hP isC hC
  have hKc := hK.sub isT hT
  have hDc := gp_self (bw_subD hD isC hn hC)
  have hF := bw_A hD isC hC
  have cw := cwV (R := R) (s := s) (args := args) (own := RL) (C := RX6) (index := idx) (y := y) (bytes := b2) (maxL := nL2) (ret := some ret) (ws := .code y b2 nL2 (some ret) :: W6) (rm := { frames := fr, cells := 0, slots := 0, locals := lo }) (mc := 0) (ms := 0) As.length hX.2.2.2.2 (gd6w hw) rfl rfl rfl ⟨hyo, hq⟩ hR
  refine va_calli (va_runV (As := As) (rest := rest) (b := b) (C := RX6) hX hM cw ⟨gq_blind, va_recv (cl := vwCl) (ci := 6) hKc hPc rfl hrc, fun U hU hW => ⟨rfl, by rw [hU]; exact hPc, va_K.moved hW.alike hKc, hDc, NW_warm hW hN⟩⟩ rfl rfl hls hstk (lv_room hW) hdg hcs) hS (fun q _ h => hF q h) hF (fun r u t H1 locs1 ht hvm hp hB hz hk hS1 => ?_)
  rw [ht] at hB
  obtain ⟨h1, h2⟩ := bw_join hP hD isC hC (hadr r u hp) hk hB
  exact kk r u H1 locs1 hp h1 h2 hS1
theorem lw_c6r {ret : FieldType} {res : Int32} (hX : CallFix p m c cc nL s args lw_tbl RL) (hM : RQ l y b2 nL2 ret W6 fr lo D (bw Cs) tc (.ref b :: As) res) (hq : y.cls ≠ "java/lang/invoke/MethodHandle" ∧ y.cls ≠ "java/lang/invoke/VarHandle" ∧ (parseMethodDescriptor y.desc).map (fun d => d.parameters.length) = some As.length) (hyo : y.cls = RX6) (hw : GoodIn lw_tbl [.methodLink RL idx y, .instanceMethod y, .selects RX6 y y, .initialized RX6, .code y b2 nL2 (some ret)]) (hR : fr + 1 ≤ R.frames ∧ 8 + (nL2 + 11) + lo ≤ R.locals)
    (hK : va_K D vwCl tys s) (hN : NW s) (isT : List Nat) (hT : isT.filterMap (fun i => tys[i]?) = tc) (hP : va_P D vwCl (bw Bs) H) (hS : va_S A s.heap H locs) (isC : List Nat) (hC : isC.map (fun i => Bs[i]?) = Cs.map some) {fs : List Value} (hrc : (bw Cs)[0]? = some (b, .inr (6, fs))) (hls : ls.size = nL) (hstk : st0 = As.reverse ++ .ref b :: rest) (hW : (rest.map fun v => v.category).sum ≤ 8) (hdg : decode cc pc = .ok (.invokevirtual idx, 3)) (hcs : cells ≤ R.cells ∧ slots ≤ R.slots)
    (kk : ∀ (H1 : Heap) (locs1 : List Loc), va_P D vwCl (bw Bs) H1 → va_S A s.heap H1 locs1 → W p l e R s m args below meth c H1 locs1 cells slots Q (F0 m (pc + 3) ls (.int res :: rest))) : W p l e R s m args below meth c H locs cells slots Q (F0 m pc ls st0) := by
  have hPc := bw_subP hP isC hC
  have hKc := hK.sub isT hT
  have cw := cwV (R := R) (s := s) (args := args) (own := RL) (C := RX6) (index := idx) (y := y) (bytes := b2) (maxL := nL2) (ret := some ret) (ws := .code y b2 nL2 (some ret) :: W6) (rm := { frames := fr, cells := 0, slots := 0, locals := lo }) (mc := 0) (ms := 0) As.length hX.2.2.2.2 (gd6w hw) rfl rfl rfl ⟨hyo, hq⟩ hR
  exact rp_back (as := (Value.ref b :: As).toArray) (va_runV (As := As) (rest := rest) (b := b) (C := RX6) hX hM cw ⟨rq_blind, va_recv (cl := vwCl) (ci := 6) hKc hPc rfl hrc, fun U hU hW => ⟨rfl, by rw [hU]; exact hPc, va_K.moved hW.alike hKc, NW_warm hW hN⟩⟩ rfl rfl hls hstk (lv_room hW) hdg hcs) hP hS kk
end LD
theorem g6_victim : GoodIn lw_tbl [.methodLink RL 158 yX6_victim, .instanceMethod yX6_victim, .selects RX6 yX6_victim yX6_victim, .initialized RX6, .code yX6_victim cX6_victim 1 (some .int)] := gdW (List.forall_mem_cons.mpr ⟨wt_857, List.forall_mem_cons.mpr ⟨wt_858, List.forall_mem_cons.mpr ⟨wt_859, List.forall_mem_cons.mpr ⟨wt_246, List.forall_mem_cons.mpr ⟨wt_860, fun _ h => absurd h List.not_mem_nil⟩⟩⟩⟩⟩) (by decide +kernel)
theorem g7_victim : GoodIn lw_tbl [.methodLink RL 161 yX7_victim, .instanceMethod yX7_victim, .selects RX7 yX7_victim yX7_victim, .initialized RX7, .code yX7_victim cX7_victim 1 (some .int)] := gdW (List.forall_mem_cons.mpr ⟨wt_861, List.forall_mem_cons.mpr ⟨wt_862, List.forall_mem_cons.mpr ⟨wt_863, List.forall_mem_cons.mpr ⟨wt_15, List.forall_mem_cons.mpr ⟨wt_864, fun _ h => absurd h List.not_mem_nil⟩⟩⟩⟩⟩) (by decide +kernel)
theorem g6_oldest : GoodIn lw_tbl [.methodLink RL 176 yX6_oldest, .instanceMethod yX6_oldest, .selects RX6 yX6_oldest yX6_oldest, .initialized RX6, .code yX6_oldest cX6_oldest 5 (some .int)] := gdW (List.forall_mem_cons.mpr ⟨wt_894, List.forall_mem_cons.mpr ⟨wt_895, List.forall_mem_cons.mpr ⟨wt_896, List.forall_mem_cons.mpr ⟨wt_246, List.forall_mem_cons.mpr ⟨wt_897, fun _ h => absurd h List.not_mem_nil⟩⟩⟩⟩⟩) (by decide +kernel)
theorem g7_oldest : GoodIn lw_tbl [.methodLink RL 179 yX7_oldest, .instanceMethod yX7_oldest, .selects RX7 yX7_oldest yX7_oldest, .initialized RX7, .code yX7_oldest cX7_oldest 3 (some .int)] := gdW (List.forall_mem_cons.mpr ⟨wt_898, List.forall_mem_cons.mpr ⟨wt_899, List.forall_mem_cons.mpr ⟨wt_900, List.forall_mem_cons.mpr ⟨wt_15, List.forall_mem_cons.mpr ⟨wt_901, fun _ h => absurd h List.not_mem_nil⟩⟩⟩⟩⟩) (by decide +kernel)
theorem g6_clearText : GoodIn lw_tbl [.methodLink RL 103 yX6_clearText, .instanceMethod yX6_clearText, .selects RX6 yX6_clearText yX6_clearText, .initialized RX6, .code yX6_clearText cX6_clearText 1 (some .int)] := gdW (List.forall_mem_cons.mpr ⟨wt_736, List.forall_mem_cons.mpr ⟨wt_737, List.forall_mem_cons.mpr ⟨wt_738, List.forall_mem_cons.mpr ⟨wt_246, List.forall_mem_cons.mpr ⟨wt_739, fun _ h => absurd h List.not_mem_nil⟩⟩⟩⟩⟩) (by decide +kernel)
theorem g7_clearText : GoodIn lw_tbl [.methodLink RL 106 yX7_clearText, .instanceMethod yX7_clearText, .selects RX7 yX7_clearText yX7_clearText, .initialized RX7, .code yX7_clearText cX7_clearText 2 (some .int)] := gdW (List.forall_mem_cons.mpr ⟨wt_740, List.forall_mem_cons.mpr ⟨wt_741, List.forall_mem_cons.mpr ⟨wt_742, List.forall_mem_cons.mpr ⟨wt_15, List.forall_mem_cons.mpr ⟨wt_743, fun _ h => absurd h List.not_mem_nil⟩⟩⟩⟩⟩) (by decide +kernel)
theorem g6_errorPosition : GoodIn lw_tbl [.methodLink RL 107 yX6_errorPosition, .instanceMethod yX6_errorPosition, .selects RX6 yX6_errorPosition yX6_errorPosition, .initialized RX6, .code yX6_errorPosition cX6_errorPosition 1 (some .int)] := gdW (List.forall_mem_cons.mpr ⟨wt_744, List.forall_mem_cons.mpr ⟨wt_745, List.forall_mem_cons.mpr ⟨wt_746, List.forall_mem_cons.mpr ⟨wt_246, List.forall_mem_cons.mpr ⟨wt_747, fun _ h => absurd h List.not_mem_nil⟩⟩⟩⟩⟩) (by decide +kernel)
theorem g7_errorPosition : GoodIn lw_tbl [.methodLink RL 110 yX7_errorPosition, .instanceMethod yX7_errorPosition, .selects RX7 yX7_errorPosition yX7_errorPosition, .initialized RX7, .code yX7_errorPosition cX7_errorPosition 1 (some .int)] := gdW (List.forall_mem_cons.mpr ⟨wt_748, List.forall_mem_cons.mpr ⟨wt_749, List.forall_mem_cons.mpr ⟨wt_750, List.forall_mem_cons.mpr ⟨wt_15, List.forall_mem_cons.mpr ⟨wt_751, fun _ h => absurd h List.not_mem_nil⟩⟩⟩⟩⟩) (by decide +kernel)
theorem g6_whyNoRoom : GoodIn lw_tbl [.methodLink RL 162 yX6_whyNoRoom, .instanceMethod yX6_whyNoRoom, .selects RX6 yX6_whyNoRoom yX6_whyNoRoom, .initialized RX6, .code yX6_whyNoRoom cX6_whyNoRoom 1 (some .int)] := gdW (List.forall_mem_cons.mpr ⟨wt_865, List.forall_mem_cons.mpr ⟨wt_866, List.forall_mem_cons.mpr ⟨wt_867, List.forall_mem_cons.mpr ⟨wt_246, List.forall_mem_cons.mpr ⟨wt_868, fun _ h => absurd h List.not_mem_nil⟩⟩⟩⟩⟩) (by decide +kernel)
theorem g7_whyNoRoom : GoodIn lw_tbl [.methodLink RL 165 yX7_whyNoRoom, .instanceMethod yX7_whyNoRoom, .selects RX7 yX7_whyNoRoom yX7_whyNoRoom, .initialized RX7, .code yX7_whyNoRoom cX7_whyNoRoom 1 (some .int)] := gdW (List.forall_mem_cons.mpr ⟨wt_869, List.forall_mem_cons.mpr ⟨wt_870, List.forall_mem_cons.mpr ⟨wt_871, List.forall_mem_cons.mpr ⟨wt_15, List.forall_mem_cons.mpr ⟨wt_872, fun _ h => absurd h List.not_mem_nil⟩⟩⟩⟩⟩) (by decide +kernel)
section CS
variable {p : Program} {l : Launch} {e : Env} {s : State} {m : MethodId} {below : List Frame} {meth : Method} {c : Code} {cells slots : Nat} {Q : State → Prop} {D : va_G} {A : Nat → Prop} {b : Addr} {cI cL cZ cJ : ClassId} {ar ad : Nat → Nat} {dl : Nat → Nat → Nat} {sf sg : Nat → Option Nat} {L i : Nat} {xs : Nat → Int32}
set_option maxHeartbeats 4000000 in
set_option maxRecDepth 100000 in
theorem lc_victim : LCS 1074 p l e s m below meth c D cI cL cZ cJ ar ad dl sf sg A b L i cells slots xs Q := by
  intro hst hsf hsg hL0 hi hL9 H locs ls hcs hst0 hS hl hk
  obtain ⟨rf, rb, rl, ss, ps, t, f, ft, flk, fd, fkp, fik, fl, fo, q, vv, nx, ct, uf, zz, hP, hD, hR⟩ := hst0
  obtain ⟨hX, hr, hlocks, hK, hN, hE, hSW, hZ, hCN, hXs, hbl, hbA⟩ := id hL0
  obtain ⟨⟨hn, hq, hnx, hct⟩, hRz, hR3, hR4, hB⟩ := id hR
  have hx := hX.1
  have hb := hX.2.1
  have hcs0 : cells ≤ room_1.cells ∧ slots ≤ room_1.slots := ⟨by omega, by omega⟩
  refine lv_aload_n hx hb dL_law_1074 rfl (lv_at hl 1 rfl) ?_
  refine lw_c6r hX (c6_victim l D cI (ad 1) (ad 2) (ad 4) (ad 6) (dl 16) (dl 17) (dl 18) (zz 16) hRz.1) (Cs := [[(ad 1, .inr (6, [.ref (ad 2), .ref (ad 4), .ref (ad 6), .ref (dl 16 0), .ref (dl 17 0), .ref (dl 18 0)]))], zL cI (dl 16) (zz 16)]) ⟨by decide, by decide, show (parseMethodDescriptor yX6_victim.desc).map (fun d => d.parameters.length) = some 0 by decide +kernel⟩ rfl g6_victim ⟨Nat.le_of_ble_eq_true rfl, Nat.le_of_ble_eq_true rfl⟩ hK hN [0] rfl hP hS [9 + 1, 9 + (8 + 16)] (hcc rf_ob (hcc (rf_log (j := 16) (by omega)) hcn)) rfl hl.1 rfl (Nat.le_of_ble_eq_true rfl) dL_law_1075 hcs0 (fun H locs hP hS => ?_)
  refine lv_aload_n hx hb dL_law_1078 rfl (lv_at hl 2 rfl) ?_
  refine lw_refi hX (c7_victim l D cI cZ (ar 0) (ar 1) (ar 2) (ar 3) (ar 4) (ar 5) (ar 6) (ar 7) (ar 8) rf rb rl ct ss ps f (zz 16).1.2 (rz_wf hRz)) (Cs := [[((ar 0), .inr (7, [.int (rf), .ref (ar 1), .int (nI (ss)), .int (nI (ps.2)), .int (bI (ps.1 = true)), .int (rb), .int (rl), .ref (ar 2), .ref (ar 3), .ref (ar 4), .ref (ar 5), .int (nI (ct)), .ref (ar 6), .ref (ar 7), .ref (ar 8)]))], [((ar 2), .inl (cI, 151, .inl f))]]) rfl ⟨by decide, by decide, show (parseMethodDescriptor yX7_victim.desc).map (fun d => d.parameters.length) = some 0 by decide +kernel⟩ rfl g7_victim ⟨Nat.le_of_ble_eq_true rfl, Nat.le_of_ble_eq_true rfl⟩ hK [0] rfl hP hD hS [0, 2] (by decide) rfl rfl hl.1 rfl (Nat.le_of_ble_eq_true rfl) dL_law_1079 hcs0 (fun r9 U9 => r9 = (oI (vcm f (zz 16).1.2 (opn f))) ∧ U9 = [[((ar 0), .inr (7, [.int (0), .ref (ar 1), .int (nI (ss)), .int (nI (ps.2)), .int (bI (ps.1 = true)), .int (rb), .int (rl), .ref (ar 2), .ref (ar 3), .ref (ar 4), .ref (ar 5), .int (nI (ct)), .ref (ar 6), .ref (ar 7), .ref (ar 8)]))], [((ar 2), .inl (cI, 151, .inl f))]]) (fun r9 u9 h => ?_) (fun r9 U9 h => ?_) (fun r9 U9 H locs hpost hP hD hS => ?_)
  · obtain ⟨e9, rfl⟩ := h
    exact ⟨[[((ar 0), .inr (7, [.int (0), .ref (ar 1), .int (nI (ss)), .int (nI (ps.2)), .int (bI (ps.1 = true)), .int (rb), .int (rl), .ref (ar 2), .ref (ar 3), .ref (ar 4), .ref (ar 5), .int (nI (ct)), .ref (ar 6), .ref (ar 7), .ref (ar 8)]))], [((ar 2), .inl (cI, 151, .inl f))]], rfl, e9, rfl⟩
  · obtain ⟨-, rfl⟩ := h
    rfl
  obtain ⟨e9, rfl⟩ := hpost
  subst e9
  have hP : va_P D vwCl (bw (rfB cI cZ ar 0 rb rl ss ps ct t f ft flk fd fkp fik fl (lwB cI cL cZ cJ ad dl sf sg fo t ss q vv nx ct uf zz))) H := hP
  have hD : va_D A (bw (rfB cI cZ ar 0 rb rl ss ps ct t f ft flk fd fkp fik fl (lwB cI cL cZ cJ ad dl sf sg fo t ss q vv nx ct uf zz))) := hD
  refine lv_icmp_eq (tgt := 1605) hx hb dL_law_1082 (by decide) (fun _ => ?_) (fun h => absurd (by rw [rz_vc hRz]) h)
  refine W.widen (k := cells + 1) (n := slots + 6) (by omega) (by omega) ?_
  exact hk _ _ _ ⟨_, _, _, _, _, _, _, _, _, _, _, _, _, _, _, _, _, _, _, _, hP, hD, hR⟩ hS hl
set_option maxHeartbeats 4000000 in
set_option maxRecDepth 100000 in
theorem lc_oldest : LCS 1280 p l e s m below meth c D cI cL cZ cJ ar ad dl sf sg A b L i cells slots xs Q := by
  intro hst hsf hsg hL0 hi hL9 H locs ls hcs hst0 hS hl hk
  obtain ⟨rf, rb, rl, ss, ps, t, f, ft, flk, fd, fkp, fik, fl, fo, q, vv, nx, ct, uf, zz, hP, hD, hR⟩ := hst0
  obtain ⟨hX, hr, hlocks, hK, hN, hE, hSW, hZ, hCN, hXs, hbl, hbA⟩ := id hL0
  obtain ⟨⟨hn, hq, hnx, hct⟩, hRz, hR3, hR4, hB⟩ := id hR
  have hx := hX.1
  have hb := hX.2.1
  have hcs0 : cells ≤ room_1.cells ∧ slots ≤ room_1.slots := ⟨by omega, by omega⟩
  refine lv_aload_n hx hb dL_law_1280 rfl (lv_at hl 1 rfl) ?_
  refine lw_c6r hX (c6_oldest l D cI (ad 1) (ad 2) (ad 4) (ad 6) (dl 16) (dl 17) (dl 18) (zz 16) hRz.1) (Cs := [[(ad 1, .inr (6, [.ref (ad 2), .ref (ad 4), .ref (ad 6), .ref (dl 16 0), .ref (dl 17 0), .ref (dl 18 0)]))], zL cI (dl 16) (zz 16)]) ⟨by decide, by decide, show (parseMethodDescriptor yX6_oldest.desc).map (fun d => d.parameters.length) = some 0 by decide +kernel⟩ rfl g6_oldest ⟨Nat.le_of_ble_eq_true rfl, Nat.le_of_ble_eq_true rfl⟩ hK hN [0] rfl hP hS [9 + 1, 9 + (8 + 16)] (hcc rf_ob (hcc (rf_log (j := 16) (by omega)) hcn)) rfl hl.1 rfl (Nat.le_of_ble_eq_true rfl) dL_law_1281 hcs0 (fun H locs hP hS => ?_)
  refine lv_aload_n hx hb dL_law_1284 rfl (lv_at hl 2 rfl) ?_
  refine lw_refi hX (c7_oldest l D cI cZ (ar 0) (ar 1) (ar 2) (ar 3) (ar 4) (ar 5) (ar 6) (ar 7) (ar 8) rf rb rl ct ss ps f (zz 16).1.2 (rz_wf hRz)) (Cs := [[((ar 0), .inr (7, [.int (rf), .ref (ar 1), .int (nI (ss)), .int (nI (ps.2)), .int (bI (ps.1 = true)), .int (rb), .int (rl), .ref (ar 2), .ref (ar 3), .ref (ar 4), .ref (ar 5), .int (nI (ct)), .ref (ar 6), .ref (ar 7), .ref (ar 8)]))], [((ar 2), .inl (cI, 151, .inl f))]]) rfl ⟨by decide, by decide, show (parseMethodDescriptor yX7_oldest.desc).map (fun d => d.parameters.length) = some 0 by decide +kernel⟩ rfl g7_oldest ⟨Nat.le_of_ble_eq_true rfl, Nat.le_of_ble_eq_true rfl⟩ hK [0] rfl hP hD hS [0, 2] (by decide) rfl rfl hl.1 rfl (Nat.le_of_ble_eq_true rfl) dL_law_1285 hcs0 (fun r9 U9 => r9 = (oI (old f (zz 16).1.2 16)) ∧ U9 = [[((ar 0), .inr (7, [.int (0), .ref (ar 1), .int (nI (ss)), .int (nI (ps.2)), .int (bI (ps.1 = true)), .int (rb), .int (rl), .ref (ar 2), .ref (ar 3), .ref (ar 4), .ref (ar 5), .int (nI (ct)), .ref (ar 6), .ref (ar 7), .ref (ar 8)]))], [((ar 2), .inl (cI, 151, .inl f))]]) (fun r9 u9 h => ?_) (fun r9 U9 h => ?_) (fun r9 U9 H locs hpost hP hD hS => ?_)
  · obtain ⟨e9, rfl⟩ := h
    exact ⟨[[((ar 0), .inr (7, [.int (0), .ref (ar 1), .int (nI (ss)), .int (nI (ps.2)), .int (bI (ps.1 = true)), .int (rb), .int (rl), .ref (ar 2), .ref (ar 3), .ref (ar 4), .ref (ar 5), .int (nI (ct)), .ref (ar 6), .ref (ar 7), .ref (ar 8)]))], [((ar 2), .inl (cI, 151, .inl f))]], rfl, e9, rfl⟩
  · obtain ⟨-, rfl⟩ := h
    rfl
  obtain ⟨e9, rfl⟩ := hpost
  subst e9
  have hP : va_P D vwCl (bw (rfB cI cZ ar 0 rb rl ss ps ct t f ft flk fd fkp fik fl (lwB cI cL cZ cJ ad dl sf sg fo t ss q vv nx ct uf zz))) H := hP
  have hD : va_D A (bw (rfB cI cZ ar 0 rb rl ss ps ct t f ft flk fd fkp fik fl (lwB cI cL cZ cJ ad dl sf sg fo t ss q vv nx ct uf zz))) := hD
  refine lv_icmp_eq (tgt := 1605) hx hb dL_law_1288 (by decide) (fun _ => ?_) (fun h => absurd (by rw [a_old hRz (Nat.le_refl 16)]) h)
  refine W.widen (k := cells + 1) (n := slots + 6) (by omega) (by omega) ?_
  exact hk _ _ _ ⟨_, _, _, _, _, _, _, _, _, _, _, _, _, _, _, _, _, _, _, _, hP, hD, hR⟩ hS hl
set_option maxHeartbeats 4000000 in
set_option maxRecDepth 100000 in
theorem lc_clearText : LCS 220 p l e s m below meth c D cI cL cZ cJ ar ad dl sf sg A b L i cells slots xs Q := by
  intro hst hsf hsg hL0 hi hL9 H locs ls hcs hst0 hS hl hk
  obtain ⟨rf, rb, rl, ss, ps, t, f, ft, flk, fd, fkp, fik, fl, fo, q, vv, nx, ct, uf, zz, hP, hD, hR⟩ := hst0
  obtain ⟨hX, hr, hlocks, hK, hN, hE, hSW, hZ, hCN, hXs, hbl, hbA⟩ := id hL0
  obtain ⟨⟨hn, hq, hnx, hct⟩, hRz, hR3, hR4, hB⟩ := id hR
  have hx := hX.1
  have hb := hX.2.1
  have hcs0 : cells ≤ room_1.cells ∧ slots ≤ room_1.slots := ⟨by omega, by omega⟩
  refine lv_aload_n hx hb dL_law_220 rfl (lv_at hl 1 rfl) ?_
  refine lw_c6i hX (c6_clearText l D cI (ad 1) (ad 2) (ad 4) (ad 6) (dl 16) (dl 17) (dl 18) (ad 3) t ss hn q hq vv) ⟨by decide, by decide, show (parseMethodDescriptor yX6_clearText.desc).map (fun d => d.parameters.length) = some 0 by decide +kernel⟩ rfl g6_clearText ⟨Nat.le_of_ble_eq_true rfl, Nat.le_of_ble_eq_true rfl⟩ hK hN [0] rfl hP hD hS [9 + 1, 9 + 2] (by decide) (hcc rf_ob (hcc rf_st hcn)) rfl hl.1 rfl (Nat.le_of_ble_eq_true rfl) dL_law_221 hcs0 (fun r u h => ?_) (fun r u H locs hpost hP hD hS => ?_)
  · obtain ⟨-, rfl⟩ := h
    rfl
  obtain ⟨e6, rfl⟩ := hpost
  subst e6
  have hP : va_P D vwCl (bw (rfB cI cZ ar rf rb rl ss ps ct t f ft flk fd fkp fik fl (lwB cI cL cZ cJ ad dl sf sg fo t 0 q vv nx ct uf zz))) H := by
    rw [bput_c, rf_set, bput_c, rf_set, bput_n, lwB, cw_s1, cw_s2] at hP
    exact hP
  have hD : va_D A (bw (rfB cI cZ ar rf rb rl ss ps ct t f ft flk fd fkp fik fl (lwB cI cL cZ cJ ad dl sf sg fo t 0 q vv nx ct uf zz))) := by
    rw [bput_c, rf_set, bput_c, rf_set, bput_n, lwB, cw_s1, cw_s2] at hD
    exact hD
  refine lv_aload_n hx hb dL_law_224 rfl (lv_at hl 2 rfl) ?_
  refine lw_refi hX (c7_clearText l D cI (ar 0) (ar 1) (ar 2) (ar 3) (ar 4) (ar 5) (ar 6) (ar 7) (ar 8) rf rb rl ct t ss hn ps (Nat.zero_le _)) (Cs := [[((ar 0), .inr (7, [.int (rf), .ref (ar 1), .int (nI (ss)), .int (nI (ps.2)), .int (bI (ps.1 = true)), .int (rb), .int (rl), .ref (ar 2), .ref (ar 3), .ref (ar 4), .ref (ar 5), .int (nI (ct)), .ref (ar 6), .ref (ar 7), .ref (ar 8)]))]]) rfl ⟨by decide, by decide, show (parseMethodDescriptor yX7_clearText.desc).map (fun d => d.parameters.length) = some 0 by decide +kernel⟩ rfl g7_clearText ⟨Nat.le_of_ble_eq_true rfl, Nat.le_of_ble_eq_true rfl⟩ hK [] rfl hP hD hS [0] (by decide) rfl rfl hl.1 rfl (Nat.le_of_ble_eq_true rfl) dL_law_225 hcs0 (fun r9 U9 => r9 = (nI (ss)) ∧ U9 = [[((ar 0), .inr (7, [.int (0), .ref (ar 1), .int (0), .int (nI (ps.2)), .int (bI (ps.1 = true)), .int (rb), .int (rl), .ref (ar 2), .ref (ar 3), .ref (ar 4), .ref (ar 5), .int (nI (ct)), .ref (ar 6), .ref (ar 7), .ref (ar 8)]))]]) (fun r9 u9 h => ?_) (fun r9 U9 h => ?_) (fun r9 U9 H locs hpost hP hD hS => ?_)
  · obtain ⟨e9, rfl⟩ := h
    exact ⟨[[((ar 0), .inr (7, [.int (0), .ref (ar 1), .int (0), .int (nI (ps.2)), .int (bI (ps.1 = true)), .int (rb), .int (rl), .ref (ar 2), .ref (ar 3), .ref (ar 4), .ref (ar 5), .int (nI (ct)), .ref (ar 6), .ref (ar 7), .ref (ar 8)]))]], rfl, e9, rfl⟩
  · obtain ⟨-, rfl⟩ := h
    rfl
  obtain ⟨e9, rfl⟩ := hpost
  subst e9
  have hP : va_P D vwCl (bw (rfB cI cZ ar 0 rb rl 0 ps ct t f ft flk fd fkp fik fl (lwB cI cL cZ cJ ad dl sf sg fo t 0 q vv nx ct uf zz))) H := hP
  have hD : va_D A (bw (rfB cI cZ ar 0 rb rl 0 ps ct t f ft flk fd fkp fik fl (lwB cI cL cZ cJ ad dl sf sg fo t 0 q vv nx ct uf zz))) := hD
  refine lv_icmp_eq (tgt := 1605) hx hb dL_law_228 (by decide) (fun _ => ?_) (fun h => absurd rfl h)
  refine W.widen (k := cells + 1) (n := slots + 6) (by omega) (by omega) ?_
  exact hk _ _ _ ⟨_, _, _, _, _, _, _, _, _, _, _, _, _, _, _, _, _, _, _, _, hP, hD, (rel_keep hR (fun j h1 => rfl) hB (Nat.zero_le _) hq)⟩ hS hl
set_option maxHeartbeats 4000000 in
set_option maxRecDepth 100000 in
theorem lc_errorPosition : LCS 233 p l e s m below meth c D cI cL cZ cJ ar ad dl sf sg A b L i cells slots xs Q := by
  intro hst hsf hsg hL0 hi hL9 H locs ls hcs hst0 hS hl hk
  obtain ⟨rf, rb, rl, ss, ps, t, f, ft, flk, fd, fkp, fik, fl, fo, q, vv, nx, ct, uf, zz, hP, hD, hR⟩ := hst0
  obtain ⟨hX, hr, hlocks, hK, hN, hE, hSW, hZ, hCN, hXs, hbl, hbA⟩ := id hL0
  obtain ⟨⟨hn, hq, hnx, hct⟩, hRz, hR3, hR4, hB⟩ := id hR
  have hx := hX.1
  have hb := hX.2.1
  have hcs0 : cells ≤ room_1.cells ∧ slots ≤ room_1.slots := ⟨by omega, by omega⟩
  refine lv_aload_n hx hb dL_law_233 rfl (lv_at hl 1 rfl) ?_
  refine lw_c6i hX (c6_errorPosition l D cI (ad 1) (ad 2) (ad 4) (ad 6) (dl 16) (dl 17) (dl 18) (ad 3) t ss hn q hq vv) ⟨by decide, by decide, show (parseMethodDescriptor yX6_errorPosition.desc).map (fun d => d.parameters.length) = some 0 by decide +kernel⟩ rfl g6_errorPosition ⟨Nat.le_of_ble_eq_true rfl, Nat.le_of_ble_eq_true rfl⟩ hK hN [0] rfl hP hD hS [9 + 1, 9 + 2] (by decide) (hcc rf_ob (hcc rf_st hcn)) rfl hl.1 rfl (Nat.le_of_ble_eq_true rfl) dL_law_234 hcs0 (fun r u h => ?_) (fun r u H locs hpost hP hD hS => ?_)
  · obtain ⟨-, v9, rfl⟩ := h
    rfl
  obtain ⟨e6, v9, rfl⟩ := hpost
  subst e6
  have hP : va_P D vwCl (bw (rfB cI cZ ar rf rb rl ss ps ct t f ft flk fd fkp fik fl (lwB cI cL cZ cJ ad dl sf sg fo t ss (feR t ss).2 v9 nx ct uf zz))) H := by
    rw [bput_c, rf_set, bput_c, rf_set, bput_n, lwB, cw_s1, cw_s2] at hP
    exact hP
  have hD : va_D A (bw (rfB cI cZ ar rf rb rl ss ps ct t f ft flk fd fkp fik fl (lwB cI cL cZ cJ ad dl sf sg fo t ss (feR t ss).2 v9 nx ct uf zz))) := by
    rw [bput_c, rf_set, bput_c, rf_set, bput_n, lwB, cw_s1, cw_s2] at hD
    exact hD
  refine lv_aload_n hx hb dL_law_237 rfl (lv_at hl 2 rfl) ?_
  refine lw_refi hX (c7_errorPosition l D cI (ar 0) (ar 1) (ar 2) (ar 3) (ar 4) (ar 5) (ar 6) (ar 7) (ar 8) rf rb rl ct t ss hn ps (Nat.zero_le _) f 91 (feR t ss) (fe_R hn)) (Cs := [[((ar 0), .inr (7, [.int (rf), .ref (ar 1), .int (nI (ss)), .int (nI (ps.2)), .int (bI (ps.1 = true)), .int (rb), .int (rl), .ref (ar 2), .ref (ar 3), .ref (ar 4), .ref (ar 5), .int (nI (ct)), .ref (ar 6), .ref (ar 7), .ref (ar 8)]))], [((ar 1), .inl (cI, 90, .inl t))], [((ar 2), .inl (cI, 151, .inl f))]]) rfl ⟨by decide, by decide, show (parseMethodDescriptor yX7_errorPosition.desc).map (fun d => d.parameters.length) = some 0 by decide +kernel⟩ rfl g7_errorPosition ⟨Nat.le_of_ble_eq_true rfl, Nat.le_of_ble_eq_true rfl⟩ hK [0] rfl hP hD hS [0, 1, 2] (by decide) rfl rfl hl.1 rfl (Nat.le_of_ble_eq_true rfl) dL_law_238 hcs0 (fun r9 U9 => r9 = (rtV (feR t ss)) ∧ U9 = [[((ar 0), .inr (7, [.int (0), .ref (ar 1), .int (nI (ss)), .int (nI ((feR t ss).2)), .int (bI ((feR t ss).1 = true)), .int (hdB t ss), .int (hdL t ss), .ref (ar 2), .ref (ar 3), .ref (ar 4), .ref (ar 5), .int (nI (ct)), .ref (ar 6), .ref (ar 7), .ref (ar 8)]))], [((ar 1), .inl (cI, 90, .inl t))], [((ar 2), .inl (cI, 151, .inl f))]]) (fun r9 u9 h => ?_) (fun r9 U9 h => ?_) (fun r9 U9 H locs hpost hP hD hS => ?_)
  · obtain ⟨e9, rfl⟩ := h
    exact ⟨[[((ar 0), .inr (7, [.int (0), .ref (ar 1), .int (nI (ss)), .int (nI ((feR t ss).2)), .int (bI ((feR t ss).1 = true)), .int (hdB t ss), .int (hdL t ss), .ref (ar 2), .ref (ar 3), .ref (ar 4), .ref (ar 5), .int (nI (ct)), .ref (ar 6), .ref (ar 7), .ref (ar 8)]))], [((ar 1), .inl (cI, 90, .inl t))], [((ar 2), .inl (cI, 151, .inl f))]], rfl, e9, rfl⟩
  · obtain ⟨-, rfl⟩ := h
    rfl
  obtain ⟨e9, rfl⟩ := hpost
  subst e9
  have hP : va_P D vwCl (bw (rfB cI cZ ar 0 (hdB t ss) (hdL t ss) ss (feR t ss) ct t f ft flk fd fkp fik fl (lwB cI cL cZ cJ ad dl sf sg fo t ss ((feR t ss).2) v9 nx ct uf zz))) H := hP
  have hD : va_D A (bw (rfB cI cZ ar 0 (hdB t ss) (hdL t ss) ss (feR t ss) ct t f ft flk fd fkp fik fl (lwB cI cL cZ cJ ad dl sf sg fo t ss ((feR t ss).2) v9 nx ct uf zz))) := hD
  refine lv_icmp_eq (tgt := 1605) hx hb dL_law_241 (by decide) (fun _ => ?_) (fun h => absurd rfl h)
  refine W.widen (k := cells + 1) (n := slots + 6) (by omega) (by omega) ?_
  exact hk _ _ _ ⟨_, _, _, _, _, _, _, _, _, _, _, _, _, _, _, _, _, _, _, _, hP, hD, (rel_keep hR (fun j h1 => rfl) hB hn (Nat.le_trans feR_le hn))⟩ hS hl
set_option maxHeartbeats 4000000 in
set_option maxRecDepth 100000 in
theorem lc_whyNoRoom : LCS 1087 p l e s m below meth c D cI cL cZ cJ ar ad dl sf sg A b L i cells slots xs Q := by
  intro hst hsf hsg hL0 hi hL9 H locs ls hcs hst0 hS hl hk
  obtain ⟨rf, rb, rl, ss, ps, t, f, ft, flk, fd, fkp, fik, fl, fo, q, vv, nx, ct, uf, zz, hP, hD, hR⟩ := hst0
  obtain ⟨hX, hr, hlocks, hK, hN, hE, hSW, hZ, hCN, hXs, hbl, hbA⟩ := id hL0
  obtain ⟨⟨hn, hq, hnx, hct⟩, hRz, hR3, hR4, hB⟩ := id hR
  have hx := hX.1
  have hb := hX.2.1
  have hcs0 : cells ≤ room_1.cells ∧ slots ≤ room_1.slots := ⟨by omega, by omega⟩
  refine lv_aload_n hx hb dL_law_1087 rfl (lv_at hl 1 rfl) ?_
  refine lw_c6i hX (c6_whyNoRoom l D cI (ad 1) (ad 2) (ad 4) (ad 6) (dl 16) (dl 17) (dl 18) (zz 16) hRz.1 (zz 18) (hB 18)) ⟨by decide, by decide, show (parseMethodDescriptor yX6_whyNoRoom.desc).map (fun d => d.parameters.length) = some 0 by decide +kernel⟩ rfl g6_whyNoRoom ⟨Nat.le_of_ble_eq_true rfl, Nat.le_of_ble_eq_true rfl⟩ hK hN [0] rfl hP hD hS [9 + 1, 9 + (8 + 16), 9 + (8 + 18)] (by decide) (hcc rf_ob (hcc (rf_log (j := 16) (by omega)) (hcc (rf_log (j := 18) (by omega)) hcn))) rfl hl.1 rfl (Nat.le_of_ble_eq_true rfl) dL_law_1088 hcs0 (fun r u h => ?_) (fun r u H locs hpost hP hD hS => ?_)
  · obtain ⟨-, zt9, -, rfl⟩ := h
    rfl
  obtain ⟨e6, zt9, hz9, rfl⟩ := hpost
  subst e6
  have hP : va_P D vwCl (bw (rfB cI cZ ar rf rb rl ss ps ct t f ft flk fd fkp fik fl (lwB cI cL cZ cJ ad dl sf sg fo t ss q vv nx ct uf (va_up zz 18 zt9)))) H := by
    rw [bput_c, rf_set, bput_c, rf_set, bput_c, rf_set, bput_n, lwB, cw_s1, cw_set (j := 16) (by omega), cw_set (j := 18) (by omega), va_id rfl] at hP
    exact hP
  have hD : va_D A (bw (rfB cI cZ ar rf rb rl ss ps ct t f ft flk fd fkp fik fl (lwB cI cL cZ cJ ad dl sf sg fo t ss q vv nx ct uf (va_up zz 18 zt9)))) := by
    rw [bput_c, rf_set, bput_c, rf_set, bput_c, rf_set, bput_n, lwB, cw_s1, cw_set (j := 16) (by omega), cw_set (j := 18) (by omega), va_id rfl] at hD
    exact hD
  refine lv_aload_n hx hb dL_law_1091 rfl (lv_at hl 2 rfl) ?_
  refine lw_refi hX (c7_whyNoRoom l D cI cZ (ar 0) (ar 1) (ar 2) (ar 3) (ar 4) (ar 5) (ar 6) (ar 7) (ar 8) rf rb rl ct ss ps f (zz 16).1.2 flk fl (rz_ok hRz)) (Cs := [[((ar 0), .inr (7, [.int (rf), .ref (ar 1), .int (nI (ss)), .int (nI (ps.2)), .int (bI (ps.1 = true)), .int (rb), .int (rl), .ref (ar 2), .ref (ar 3), .ref (ar 4), .ref (ar 5), .int (nI (ct)), .ref (ar 6), .ref (ar 7), .ref (ar 8)]))], [((ar 2), .inl (cI, 151, .inl f))], [((ar 4), .inl (cI, 151, .inl flk))], [((ar 8), .inl (cI, 4, .inl fl))]]) rfl ⟨by decide, by decide, show (parseMethodDescriptor yX7_whyNoRoom.desc).map (fun d => d.parameters.length) = some 0 by decide +kernel⟩ rfl g7_whyNoRoom ⟨Nat.le_of_ble_eq_true rfl, Nat.le_of_ble_eq_true rfl⟩ hK [0] rfl hP hD hS [0, 2, 4, 8] (by decide) rfl rfl hl.1 rfl (Nat.le_of_ble_eq_true rfl) dL_law_1092 hcs0 (fun r9 U9 => r9 = (rsn f (zz 16).1.2 (lookT (zz 16).1.2 f).1) ∧ ∃ fl9 : Nat → Int32, ∃ lk9 : Nat → Int32, U9 = [[((ar 0), .inr (7, [.int (0), .ref (ar 1), .int (nI (ss)), .int (nI (ps.2)), .int (bI (ps.1 = true)), .int (rb), .int (rl), .ref (ar 2), .ref (ar 3), .ref (ar 4), .ref (ar 5), .int (nI (ct)), .ref (ar 6), .ref (ar 7), .ref (ar 8)]))], [((ar 2), .inl (cI, 151, .inl f))], [((ar 4), .inl (cI, 151, .inl lk9))], [((ar 8), .inl (cI, 4, .inl fl9))]]) (fun r9 u9 h => ?_) (fun r9 U9 h => ?_) (fun r9 U9 H locs hpost hP hD hS => ?_)
  · obtain ⟨e9, fl9, lk9, rfl⟩ := h
    exact ⟨[[((ar 0), .inr (7, [.int (0), .ref (ar 1), .int (nI (ss)), .int (nI (ps.2)), .int (bI (ps.1 = true)), .int (rb), .int (rl), .ref (ar 2), .ref (ar 3), .ref (ar 4), .ref (ar 5), .int (nI (ct)), .ref (ar 6), .ref (ar 7), .ref (ar 8)]))], [((ar 2), .inl (cI, 151, .inl f))], [((ar 4), .inl (cI, 151, .inl lk9))], [((ar 8), .inl (cI, 4, .inl fl9))]], rfl, e9, fl9, lk9, rfl⟩
  · obtain ⟨-, fl9, lk9, rfl⟩ := h
    rfl
  obtain ⟨e9, fl9, lk9, rfl⟩ := hpost
  subst e9
  have hP : va_P D vwCl (bw (rfB cI cZ ar 0 rb rl ss ps ct t f ft lk9 fd fkp fik fl9 (lwB cI cL cZ cJ ad dl sf sg fo t ss q vv nx ct uf (va_up zz 18 zt9)))) H := hP
  have hD : va_D A (bw (rfB cI cZ ar 0 rb rl ss ps ct t f ft lk9 fd fkp fik fl9 (lwB cI cL cZ cJ ad dl sf sg fo t ss q vv nx ct uf (va_up zz 18 zt9)))) := hD
  refine lv_icmp_eq (tgt := 1605) hx hb dL_law_1095 (by decide) (fun _ => ?_) (fun h => absurd (a_why hRz) h)
  refine W.widen (k := cells + 1) (n := slots + 6) (by omega) (by omega) ?_
  exact hk _ _ _ ⟨_, _, _, _, _, _, _, _, _, _, _, _, _, _, _, _, _, _, _, _, hP, hD, (rel_keep hR (fun j h1 => va_up_ne _ _ (by omega)) (vaB hB hz9) hn hq)⟩ hS hl
end CS
