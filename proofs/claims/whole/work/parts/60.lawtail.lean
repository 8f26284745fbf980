-- THE LAW: behind two answers, the comparison
theorem gdW {ws : List Cond} (h : ∀ w ∈ ws, w ∈ lw_tbl) (g : ws.all goodWord = true) : GoodIn lw_tbl ws := fun w hw => ⟨h w hw, good_of_word (List.all_eq_true.mp g w hw)⟩
def LXc (D : va_G) (cI cL cZ cJ : ClassId) (p : Program) (s : State) (m : MethodId) (meth : Method) (c : Code) (A : Nat → Prop) (b L : Nat) (xs : Nat → Int32) : Prop :=
  CallFix p m c cL_law 7 s #[Value.ref b] lw_tbl RL ∧ meth.sig.returnType = ret ∧ meth.locks = false ∧ va_K D vwCl [(cI, .int), (cL, .object "TornPageLog$Log"), (cZ, .boolean), (cJ, .long)] s ∧ NW s ∧ EW s ∧ SW s ∧ ZW A s ∧ CN s ∧ va_X b L xs s s.heap ∧ b < s.heap.size ∧ ¬ A b
section LT
variable {p : Program} {l : Launch} {e : Env} {R : Room} {s : State} {m : MethodId} {args : Array Value} {below : List Frame} {meth : Method} {c : Code} {H : Heap} {locs : List Loc} {cells slots : Nat} {Q : State → Prop} {cc : ByteArray} {pc : Nat} {ls : Array Slot} {rest st0 : List Value} {D : va_G} {A : Nat → Prop} {tys tc : List (ClassId × FieldType)} {Bs Cs : List va_W} {nL nL2 fr lo idx : Nat} {y : MethodName} {b2 : ByteArray} {As av : List Value} {b : Addr}
/-- a method of the reference that only reads -/
theorem lw_rd {ret : FieldType} {ws : va_W} {res : Int32} (hX : CallFix p m c cc nL s args lw_tbl RL) (hM : RP l y b2 nL2 ret W7 fr lo D ws tc (.ref b :: As) res) (hws : bw Cs = ws) (hq : y.cls ≠ "java/lang/invoke/MethodHandle" ∧ y.cls ≠ "java/lang/invoke/VarHandle" ∧ (parseMethodDescriptor y.desc).map (fun d => d.parameters.length) = some As.length) (hyo : y.cls = RX7) (hw : GoodIn lw_tbl [.methodLink RL idx y, .instanceMethod y, .selects RX7 y y, .initialized RX7, .code y b2 nL2 (some ret)]) (hR : fr + 1 ≤ R.frames ∧ 8 + (nL2 + 11) + lo ≤ R.locals)
    (hK : va_K D vwCl tys s) (isT : List Nat) (hT : isT.filterMap (fun i => tys[i]?) = tc) (hP : va_P D vwCl (bw Bs) H) (hS : va_S A s.heap H locs) (isC : List Nat) (hC : isC.map (fun i => Bs[i]?) = Cs.map some) {fs : List Value} (hrc : ws[0]? = some (b, .inr (7, fs))) (hls : ls.size = nL) (hstk : st0 = As.reverse ++ .ref b :: rest) (hW : (rest.map fun v => v.category).sum ≤ 8) (hdg : decode cc pc = .ok (.invokevirtual idx, 3)) (hcs : cells ≤ R.cells ∧ slots ≤ R.slots)
    (kk : ∀ (H1 : Heap) (locs1 : List Loc), va_P D vwCl (bw Bs) H1 → va_S A s.heap H1 locs1 → W p l e R s m args below meth c H1 locs1 cells slots Q (F0 m (pc + 3) ls (.int res :: rest))) : W p l e R s m args below meth c H locs cells slots Q (F0 m pc ls st0) := by
  subst hws
  have hPc := bw_subP hP isC hC
  have hKc := hK.sub isT hT
  have cw := cwV (R := R) (s := s) (args := args) (own := RL) (C := RX7) (index := idx) (y := y) (bytes := b2) (maxL := nL2) (ret := some ret) (ws := .code y b2 nL2 (some ret) :: W7) (rm := { frames := fr, cells := 0, slots := 0, locals := lo }) (mc := 0) (ms := 0) As.length hX.2.2.2.2 (fun w hw9 => by
    rcases List.mem_append.mp hw9 with h | h
    · refine hw w ?_
      rcases List.mem_cons.mp h with h | h
      · rw [h]; simp
      · rcases List.mem_cons.mp h with h | h
        · rw [h]; simp
        · rcases List.mem_cons.mp h with h | h
          · rw [h]; simp
          · rw [List.mem_singleton.mp h]; simp
    · rcases List.mem_cons.mp h with h | h
      · rw [h]; exact hw _ (by simp)
      · exact gd7 w h) rfl rfl rfl ⟨hyo, hq⟩ hR
  exact rp_back (as := (Value.ref b :: As).toArray) (va_runV (As := As) (rest := rest) (b := b) (C := RX7) hX hM cw ⟨rp_blind, va_recv (cl := vwCl) (ci := 7) hKc hPc rfl hrc, fun U hU hW => ⟨rfl, by rw [hU]; exact hPc, va_K.moved hW.alike hKc⟩⟩ rfl rfl hls hstk (lv_room hW) hdg hcs) hP hS kk
variable {cI cL cZ cJ : ClassId} {ar ad : Nat → Nat} {dl : Nat → Nat → Nat} {sf sg : Nat → Option Nat} {L : Nat} {xs : Nat → Int32}
/-- what the loop's end asks -/
def LK (p : Program) (l : Launch) (e : Env) (s : State) (m : MethodId) (below : List Frame) (meth : Method) (c : Code) (D : va_G) (cI cL cZ cJ : ClassId) (ar ad : Nat → Nat) (dl : Nat → Nat → Nat) (sf sg : Nat → Option Nat) (A : Nat → Prop) (b i cells slots : Nat) (Q : State → Prop) : Prop :=
  ∀ (H : Heap) (locs : List Loc) (ls : Array Slot), LST D cI cL cZ cJ ar ad dl sf sg A H → va_S A s.heap H locs → lv_has ls 7 [(0, .ref b), (1, .ref (ad 1)), (2, .ref (ar 0)), (3, .ref (ad 0)), (4, .int (nI (4 * i)))] → W p l e room_1 s m #[Value.ref b] below meth c H locs cells slots Q (F0 m 1605 ls [])
theorem lw_tail (hL : LXc D cI cL cZ cJ p s m meth c A b L xs) (gT : GoodIn lw_tbl [.methodLink RL 100 yX7_thrown, .instanceMethod yX7_thrown, .selects RX7 yX7_thrown yX7_thrown, .initialized RX7, .code yX7_thrown cX7_thrown 1 (some .int)]) {T : Nat} {off : Int} (d0 : decode cL_law T = .ok (.aload_n 2, 1)) (d1 : decode cL_law (T + 1) = .ok (.invokevirtual 100, 3)) (d4 : decode cL_law (T + 4) = .ok (.iload 5, 2)) (d6 : decode cL_law (T + 6) = .ok (.if_icmp .eq 5, 3)) (d11 : decode cL_law (T + 11) = .ok (.iload 5, 2)) (d13 : decode cL_law (T + 13) = .ok (.ifCond .ne 15, 3)) (d16 : decode cL_law (T + 16) = .ok (.aload_n 3, 1)) (d17 : decode cL_law (T + 17) = .ok (.iconst 0, 1)) (d18 : decode cL_law (T + 18) = .ok (.laload, 1)) (d19 : decode cL_law (T + 19) = .ok (.iload 6, 2)) (d21 : decode cL_law (T + 21) = .ok (.i2l, 1)) (d22 : decode cL_law (T + 22) = .ok (.lcmp, 1)) (d23 : decode cL_law (T + 23) = .ok (.ifCond .eq 5, 3)) (d28 : decode cL_law (T + 28) = .ok (.goto off, 3)) (hoff : ((T + 28 : Nat) : Int) + off = 1605)
    {i : Nat} {rf rb rl : Int32} {ss : Nat} {ps : Bool × Nat} {t f ft flk fd fkp fik fl : Nat → Int32} {fo : Nat → Int64} {q : Nat} {vv : Nat → Int32} {nx ct : Nat} {uf : Nat → Int32} {zz : Nat → LgS} (hP : va_P D vwCl (bw (rfB cI cZ ar rf rb rl ss ps ct t f ft flk fd fkp fik fl (lwB cI cL cZ cJ ad dl sf sg fo t ss q vv nx ct uf zz))) H) (hD : va_D A (bw (rfB cI cZ ar rf rb rl ss ps ct t f ft flk fd fkp fik fl (lwB cI cL cZ cJ ad dl sf sg fo t ss q vv nx ct uf zz)))) (hS : va_S A s.heap H locs) (hR : REL ss q nx ct f fd fkp fik uf zz) {bv : Int32} (hv : rf = 0 → fo 0 = bv.toInt64)
    (hl : lv_has ls 7 [(6, .int bv), (5, .int rf), (0, .ref b), (1, .ref (ad 1)), (2, .ref (ar 0)), (3, .ref (ad 0)), (4, .int (nI (4 * i)))]) (hcs : cells ≤ room_1.cells ∧ slots ≤ room_1.slots) (hk : LK p l e s m below meth c D cI cL cZ cJ ar ad dl sf sg A b i cells slots Q) : W p l e room_1 s m #[Value.ref b] below meth c H locs cells slots Q (F0 m T ls []) := by
  obtain ⟨hX, hr, hlocks, hK, hN, hE, hSW, hZ, hCN, hXs, hbl, hbA⟩ := hL
  have hx := hX.1
  have hb := hX.2.1
  refine lv_aload_n hx hb d0 rfl (lv_at hl 4 rfl) ?_
  refine lw_rd hX (c7_thrown l D (ar 0) rf [.ref (ar 1), .int (nI ss), .int (nI ps.2), .int (bI (ps.1 = true)), .int rb, .int rl, .ref (ar 2), .ref (ar 3), .ref (ar 4), .ref (ar 5), .int (nI ct), .ref (ar 6), .ref (ar 7), .ref (ar 8)]) (Cs := [[(ar 0, .inr (7, .int rf :: [.ref (ar 1), .int (nI ss), .int (nI ps.2), .int (bI (ps.1 = true)), .int rb, .int rl, .ref (ar 2), .ref (ar 3), .ref (ar 4), .ref (ar 5), .int (nI ct), .ref (ar 6), .ref (ar 7), .ref (ar 8)]))]]) rfl ⟨by decide, by decide, show (parseMethodDescriptor yX7_thrown.desc).map (fun d => d.parameters.length) = some 0 by decide +kernel⟩ rfl gT ⟨Nat.le_of_ble_eq_true rfl, Nat.le_of_ble_eq_true rfl⟩ hK [] rfl hP hS [0] rfl rfl hl.1 rfl (Nat.le_of_ble_eq_true rfl) d1 hcs (fun H locs hP hS => ?_)
  refine lv_iload hx hb d4 (lv_at hl 1 rfl) ?_
  refine lv_icmp_eq (tgt := T + 11) hx hb d6 (by omega) (fun _ => ?_) (fun h => absurd rfl h)
  refine lv_iload hx hb d11 (lv_at hl 1 rfl) ?_
  refine lv_if_ne (tgt := T + 28) hx hb d13 (by omega) (fun h0 => ?_) (fun h0 => ?_)
  · refine lv_goto (tgt := 1605) hx hb d28 hoff ?_
    exact hk _ _ _ ⟨_, _, _, _, _, _, _, _, _, _, _, _, _, _, _, _, _, _, _, _, hP, hD, hR⟩ hS (lv_sub hl [2, 3, 4, 5, 6] rfl)
  · refine lv_aload_n hx hb d16 rfl (lv_at hl 5 rfl) ?_
    refine lv_iconst (v := 0) hx hb d17 (by decide) ?_
    refine va_lald hx hb hK hP 9 3 (a := ad 0) (cA := cJ) (n := 1) (f := fo) rfl rfl (show ¬ ((0 : Int32) < 0 ∨ 1 ≤ (0 : Int32).toNatClampNeg) by decide) d18 ?_
    refine lv_iload hx hb d19 (lv_at hl 0 rfl) ?_
    refine lv_i2l (v := bv.toInt64) hx hb d21 rfl ?_
    refine W.lcmp hx hb d22 ?_
    refine lv_if_eq (tgt := T + 28) hx hb d23 (by omega) (fun _ => ?_) (fun h => absurd ((lg_cmp_eq _ _).mpr (hv h0)) h)
    refine lv_goto (tgt := 1605) hx hb d28 hoff ?_
    exact hk _ _ _ ⟨_, _, _, _, _, _, _, _, _, _, _, _, _, _, _, _, _, _, _, _, hP, hD, hR⟩ hS (lv_sub hl [2, 3, 4, 5, 6] rfl)
end LT
