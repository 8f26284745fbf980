-- DRAW: THE SCRIPT'S NUMBERS
theorem dL_draw_0 : decode cL_draw 0 = .ok (.iload_n 1, 1) := by decide +kernel
theorem dL_draw_1 : decode cL_draw 1 = .ok (.aload_n 0, 1) := by decide +kernel
theorem dL_draw_2 : decode cL_draw 2 = .ok (.arraylength, 1) := by decide +kernel
theorem dL_draw_3 : decode cL_draw 3 = .ok (.if_icmp .ge 9, 3) := by decide +kernel
theorem dL_draw_6 : decode cL_draw 6 = .ok (.aload_n 0, 1) := by decide +kernel
theorem dL_draw_7 : decode cL_draw 7 = .ok (.iload_n 1, 1) := by decide +kernel
theorem dL_draw_8 : decode cL_draw 8 = .ok (.iaload, 1) := by decide +kernel
theorem dL_draw_9 : decode cL_draw 9 = .ok (.goto 11, 3) := by decide +kernel
theorem dL_draw_12 : decode cL_draw 12 = .ok (.ldc 7, 2) := by decide +kernel
theorem dL_draw_14 : decode cL_draw 14 = .ok (.iload_n 1, 1) := by decide +kernel
theorem dL_draw_15 : decode cL_draw 15 = .ok (.imul, 1) := by decide +kernel
theorem dL_draw_16 : decode cL_draw 16 = .ok (.sipush 10337, 3) := by decide +kernel
theorem dL_draw_19 : decode cL_draw 19 = .ok (.iadd, 1) := by decide +kernel
theorem dL_draw_20 : decode cL_draw 20 = .ok (.ldc 8, 2) := by decide +kernel
theorem dL_draw_22 : decode cL_draw 22 = .ok (.iand, 1) := by decide +kernel
theorem dL_draw_23 : decode cL_draw 23 = .ok (.ireturn, 1) := by decide +kernel
def drI (L : Nat) (xs : Nat → Int32) (k : Nat) : Int32 := (if k < L then xs k else 15593227 * nI k + 10337) &&& 2147483647
def drN (L : Nat) (xs : Nat → Int32) (k : Nat) : Nat := (drI L xs k).toNatClampNeg
theorem dr_pos (x : Int32) : ¬ (x &&& 2147483647) < 0 := fun h => by
  rw [i_lt_i] at h
  have h1 : (x &&& 2147483647).toBitVec.msb = false := by
    rw [Int32.toBitVec_and, BitVec.msb_and, show (2147483647 : Int32).toBitVec.msb = false by decide, Bool.and_false]
  rw [BitVec.msb_eq_toInt] at h1
  exact absurd h (of_decide_eq_false h1)
theorem dr_eq {L : Nat} {xs : Nat → Int32} {k : Nat} : drI L xs k = nI (drN L xs k) ∧ drN L xs k < 2 ^ 31 := by
  have h := num_le (x := drI L xs k) (a := 2147483647) (by decide) (dr_pos _) (fun y => by
    rw [i_lt_i, nI_toInt (n := 2147483647) (by decide)] at y
    have := Int32.toInt_lt (drI L xs k)
    omega)
  exact ⟨h.1, Nat.lt_of_le_of_lt h.2 (by decide)⟩
def DPc (b L : Nat) (xs : Nat → Int32) (k : Nat) : Array Value → State → Prop := va_Pc [.ref b, .int (nI k)] (fun U => va_X b L xs U U.heap)
theorem dp_blind {b L : Nat} {xs : Nat → Int32} {k : Nat} : FrameBlind (DPc b L xs k) := fun a U g mk q => ⟨q.1, va_X.moved (u := U) (U := U.calling g mk a) (Vm.Alike.refl U.vm) q.2⟩
set_option maxHeartbeats 4000000 in
set_option maxRecDepth 100000 in
theorem c_draw (l : Launch) {b L : Nat} {xs : Nat → Int32} {k : Nat} (hL : L < 2 ^ 31) (hk : k < 2 ^ 31) : Met l yL_draw (.code yL_draw cL_draw 2 (some .int) :: WLA) ({ frames := 0, cells := 0, slots := 0, locals := 0 }) (DPc b L xs k) (rp_Qi (nI (drN L xs k))) 0 0 (fun _ => False) := by
  refine Met.ofW (cc := cL_draw) (maxL := 2) (ret := some .int) (by decide) rfl ?_
  intro p e s m args below meth c s₁ B hml hv
  obtain ⟨rfl, hX⟩ := hv
  have hts0 := atoms_spec (ws := .code yL_draw cL_draw 2 (some .int) :: WLA) B.pre
  have hl := lv_entry [.ref b, .int (nI k)] (n := 2) (Nat.le_of_ble_eq_true rfl)
  rw [lg_entry_eq]
  have hF : CallFix p m c cL_draw 2 s ([.ref b, .int (nI k)] : List Value).toArray WLA RL := ⟨B.exec, B.bytes, hml, findClass_of_methodNamed B.named, fun w h => hts0 w (List.mem_cons_of_mem _ h)⟩
  have hr := B.returns
  have hlocks := B.notSynchronized
  have hx := hF.1
  have hb := hF.2.1
  have hown := hF.2.2.2.1
  have hts := hF.2.2.2.2
  have hbl : b < s.heap.size := by
    obtain ⟨scr, h1, -⟩ := hX
    exact (Array.getElem?_eq_some_iff.mp h1).1
  have hS : va_S (fun _ => False) s.heap s.heap [] := va_S.rf
  generalize (lg_sl ([.ref b, .int (nI k)] : List Value) ++ List.replicate (2 - (lg_sl ([.ref b, .int (nI k)] : List Value)).length) Slot.unset).toArray = ls at hl ⊢
  have hl : lv_has ls 2 [(0, .ref b), (1, .int (nI k))] := hl
  refine lv_iload_n hx hb dL_draw_0 rfl (lv_at hl 1 rfl) ?_
  refine lv_aload_n hx hb dL_draw_1 rfl (lv_at hl 0 rfl) ?_
  refine va_slen hx hb hX hbl (fun h => h) hS dL_draw_2 ?_
  refine lv_icmp_ge (tgt := 12) hx hb dL_draw_3 (by decide) (fun c3 => ?_) (fun c3 => ?_)
  · have c3 : ¬ k < L := fun y => by
      have := cn_le (a := L) (b := k) hL hk c3
      omega
    refine lv_ldc (v := 15593227) hx hb hown (hts _ (mlA 0 rfl)) dL_draw_12 ?_
    refine lv_iload_n hx hb dL_draw_14 rfl (lv_at hl 1 rfl) ?_
    refine lv_imul hx hb dL_draw_15 ?_
    refine lv_sipush (v := 10337) hx hb dL_draw_16 (by decide) ?_
    refine lv_iadd hx hb dL_draw_19 ?_
    refine lv_ldc (v := 2147483647) hx hb hown (hts _ (mlA 1 rfl)) dL_draw_20 ?_
    refine lv_iand hx hb dL_draw_22 ?_
    refine rp_ret hF hr hlocks hS ?_ dL_draw_23
    rw [← dr_eq.1, drI, if_neg c3]
  · have c3 : k < L := by
      have := cn_nle (a := L) (b := k) hL hk c3
      omega
    refine lv_aload_n hx hb dL_draw_6 rfl (lv_at hl 0 rfl) ?_
    refine lv_iload_n hx hb dL_draw_7 rfl (lv_at hl 1 rfl) ?_
    refine va_sld hx hb hX hbl (fun h => h) hS (vp_in_nI c3 hL) dL_draw_8 ?_
    refine lv_goto (tgt := 20) hx hb dL_draw_9 (by decide) ?_
    refine lv_ldc (v := 2147483647) hx hb hown (hts _ (mlA 1 rfl)) dL_draw_20 ?_
    refine lv_iand hx hb dL_draw_22 ?_
    refine rp_ret hF hr hlocks hS ?_ dL_draw_23
    rw [← dr_eq.1, drI, if_pos c3, nI_clamp hk]
theorem lo_S {D : va_G} {A : Nat → Prop} {cI cL cZ : ClassId} {s : State} {Gs : Nat → Geo} {as : List AS} {H : Heap} {locs : List Loc} (hw : LO D cI cL cZ A s Gs as H locs) : va_S A s.heap H locs := by
  obtain ⟨Bs, -, -, -, hS⟩ := hw
  exact hS
theorem k_drawQ : CQ WLA yL_draw cL_draw 2 (some .int) 2 := ⟨(mlA 228 rfl), by decide, by decide, show (parseMethodDescriptor yL_draw.desc).map (fun d => d.parameters.length) = some 2 by decide +kernel⟩
section DR
variable {p : Program} {l : Launch} {e : Env} {R : Room} {s : State} {m : MethodId} {args : Array Value} {below : List Frame} {meth : Method} {c : Code} {H : Heap} {locs : List Loc} {cells slots : Nat} {Q : State → Prop} {cc : ByteArray} {pc : Nat} {ls : Array Slot} {rest : List Value} {D : va_G} {A : Nat → Prop} {cI cL cZ : ClassId} {Gs : Nat → Geo} {as : List AS} {nL : Nat} {b L k : Nat} {xs : Nat → Int32}
theorem dr_call (hF : LF p m c cc nL s args D cI cL cZ A) (hXs : va_X b L xs s s.heap) (hbl : b < s.heap.size) (hbA : ¬ A b) (hL : L < 2 ^ 31) (hk : k < 2 ^ 31) (hw : LO D cI cL cZ A s Gs as H locs) (hR : 0 + 1 ≤ R.frames ∧ 8 + (2 + 11) + 0 ≤ R.locals) (hls : ls.size = nL) (hW : (rest.map fun v => v.category).sum ≤ 8) (hdg : decode cc pc = .ok (.invokestatic 217, 3)) (hcs : cells ≤ R.cells ∧ slots ≤ R.slots)
    (kk : ∀ (x : Nat) (hx9 : x < 2 ^ 31) (H1 : Heap) (locs1 : List Loc), LO D cI cL cZ A s Gs as H1 locs1 → W p l e R s m args below meth c H1 locs1 cells slots Q (F0 m (pc + 3) ls (.int (nI x) :: rest))) : W p l e R s m args below meth c H locs cells slots Q (F0 m pc ls (.int (nI k) :: .ref b :: rest)) := by
  have hX := hF.1
  obtain ⟨Bs, hB, hP, hD, hS⟩ := hw
  have hXH : va_X b L xs s H := hXs.kept (hS.2.1 b hbl hbA)
  refine va_calli (va_runS (As := [.ref b, .int (nI k)]) (rest := rest) hX (c_draw (b := b) (xs := xs) l hL hk) (cwS 2 hX.2.2.2.2 (gd_S goodLA iniL (mlA 226 rfl) (mlA 227 rfl) k_drawQ) rfl rfl rfl ⟨rfl, k_drawQ.2⟩ hR) ⟨dp_blind, fun U hU hW => ⟨rfl, by show va_X b L xs U U.heap; rw [hU]; exact va_X.moved hW.alike hXH⟩⟩ rfl rfl hls rfl (lv_room hW) hdg hcs) hS (fun _ _ h => h.elim) (fun _ h => h.elim) (fun r u t H1 locs1 ht hvm hp hB1 hz hk hS1 => ?_)
  subst hp
  exact kk _ dr_eq.2 H1 locs1 ⟨Bs, hB, hP.kept (fun k q hq => hk q.1 (hP k q hq).lt (fun h => h)), hD, hS1⟩
end DR
