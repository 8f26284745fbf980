theorem dX6_runScript_0 : decode cX6_runScript 0 = .ok (.iload_n 1, 1) := by decide +kernel
theorem dX6_runScript_1 : decode cX6_runScript 1 = .ok (.iconst 1, 1) := by decide +kernel
theorem dX6_runScript_2 : decode cX6_runScript 2 = .ok (.if_icmp .lt 8, 3) := by decide +kernel
theorem dX6_runScript_5 : decode cX6_runScript 5 = .ok (.iload_n 1, 1) := by decide +kernel
theorem dX6_runScript_6 : decode cX6_runScript 6 = .ok (.iconst 4, 1) := by decide +kernel
theorem dX6_runScript_7 : decode cX6_runScript 7 = .ok (.if_icmp .le 13, 3) := by decide +kernel
theorem dX6_runScript_10 : decode cX6_runScript 10 = .ok (.new 43, 3) := by decide +kernel
theorem dX6_runScript_13 : decode cX6_runScript 13 = .ok (.dup, 1) := by decide +kernel
theorem dX6_runScript_14 : decode cX6_runScript 14 = .ok (.ldc 239, 2) := by decide +kernel
theorem dX6_runScript_16 : decode cX6_runScript 16 = .ok (.invokespecial 47, 3) := by decide +kernel
theorem dX6_runScript_19 : decode cX6_runScript 19 = .ok (.athrow, 1) := by decide +kernel
theorem dX6_runScript_20 : decode cX6_runScript 20 = .ok (.lconst 1, 1) := by decide +kernel
theorem dX6_runScript_21 : decode cX6_runScript 21 = .ok (.lstore 4, 2) := by decide +kernel
theorem dX6_runScript_23 : decode cX6_runScript 23 = .ok (.iconst 0, 1) := by decide +kernel
theorem dX6_runScript_24 : decode cX6_runScript 24 = .ok (.istore 6, 2) := by decide +kernel
theorem dX6_runScript_26 : decode cX6_runScript 26 = .ok (.iload 6, 2) := by decide +kernel
theorem dX6_runScript_28 : decode cX6_runScript 28 = .ok (.iload_n 1, 1) := by decide +kernel
theorem dX6_runScript_29 : decode cX6_runScript 29 = .ok (.if_icmp .ge 17, 3) := by decide +kernel
theorem dX6_runScript_32 : decode cX6_runScript 32 = .ok (.lload 4, 2) := by decide +kernel
theorem dX6_runScript_34 : decode cX6_runScript 34 = .ok (.ldc2_w 241, 3) := by decide +kernel
theorem dX6_runScript_37 : decode cX6_runScript 37 = .ok (.lmul, 1) := by decide +kernel
theorem dX6_runScript_38 : decode cX6_runScript 38 = .ok (.lstore 4, 2) := by decide +kernel
theorem dX6_runScript_40 : decode cX6_runScript 40 = .ok (.iinc 6 1, 3) := by decide +kernel
theorem dX6_runScript_43 : decode cX6_runScript 43 = .ok (.goto (-17), 3) := by decide +kernel
theorem dX6_runScript_46 : decode cX6_runScript 46 = .ok (.lload_n 2, 1) := by decide +kernel
theorem dX6_runScript_47 : decode cX6_runScript 47 = .ok (.lconst 0, 1) := by decide +kernel
theorem dX6_runScript_48 : decode cX6_runScript 48 = .ok (.lcmp, 1) := by decide +kernel
theorem dX6_runScript_49 : decode cX6_runScript 49 = .ok (.ifCond .lt 10, 3) := by decide +kernel
theorem dX6_runScript_52 : decode cX6_runScript 52 = .ok (.lload_n 2, 1) := by decide +kernel
theorem dX6_runScript_53 : decode cX6_runScript 53 = .ok (.lload 4, 2) := by decide +kernel
theorem dX6_runScript_55 : decode cX6_runScript 55 = .ok (.lcmp, 1) := by decide +kernel
theorem dX6_runScript_56 : decode cX6_runScript 56 = .ok (.ifCond .lt 13, 3) := by decide +kernel
theorem dX6_runScript_59 : decode cX6_runScript 59 = .ok (.new 43, 3) := by decide +kernel
theorem dX6_runScript_62 : decode cX6_runScript 62 = .ok (.dup, 1) := by decide +kernel
theorem dX6_runScript_63 : decode cX6_runScript 63 = .ok (.ldc 243, 2) := by decide +kernel
theorem dX6_runScript_65 : decode cX6_runScript 65 = .ok (.invokespecial 47, 3) := by decide +kernel
theorem dX6_runScript_68 : decode cX6_runScript 68 = .ok (.athrow, 1) := by decide +kernel
theorem dX6_runScript_69 : decode cX6_runScript 69 = .ok (.aload_n 0, 1) := by decide +kernel
theorem dX6_runScript_70 : decode cX6_runScript 70 = .ok (.getfield 37, 3) := by decide +kernel
theorem dX6_runScript_73 : decode cX6_runScript 73 = .ok (.aload_n 0, 1) := by decide +kernel
theorem dX6_runScript_74 : decode cX6_runScript 74 = .ok (.getfield 33, 3) := by decide +kernel
theorem dX6_runScript_77 : decode cX6_runScript 77 = .ok (.invokevirtual 236, 3) := by decide +kernel
theorem dX6_runScript_80 : decode cX6_runScript 80 = .ok (.lload_n 2, 1) := by decide +kernel
theorem dX6_runScript_81 : decode cX6_runScript 81 = .ok (.lstore 6, 2) := by decide +kernel
theorem dX6_runScript_83 : decode cX6_runScript 83 = .ok (.iconst 0, 1) := by decide +kernel
theorem dX6_runScript_84 : decode cX6_runScript 84 = .ok (.istore 8, 2) := by decide +kernel
theorem dX6_runScript_86 : decode cX6_runScript 86 = .ok (.iload 8, 2) := by decide +kernel
theorem dX6_runScript_88 : decode cX6_runScript 88 = .ok (.iload_n 1, 1) := by decide +kernel
theorem dX6_runScript_89 : decode cX6_runScript 89 = .ok (.if_icmp .ge 77, 3) := by decide +kernel
theorem dX6_runScript_92 : decode cX6_runScript 92 = .ok (.lload 4, 2) := by decide +kernel
theorem dX6_runScript_94 : decode cX6_runScript 94 = .ok (.ldc2_w 241, 3) := by decide +kernel
theorem dX6_runScript_97 : decode cX6_runScript 97 = .ok (.ldiv, 1) := by decide +kernel
theorem dX6_runScript_98 : decode cX6_runScript 98 = .ok (.lconst 1, 1) := by decide +kernel
theorem dX6_runScript_99 : decode cX6_runScript 99 = .ok (.invokestatic 245, 3) := by decide +kernel
theorem dX6_runScript_102 : decode cX6_runScript 102 = .ok (.lstore 4, 2) := by decide +kernel
theorem dX6_runScript_104 : decode cX6_runScript 104 = .ok (.lload 6, 2) := by decide +kernel
theorem dX6_runScript_106 : decode cX6_runScript 106 = .ok (.lload 4, 2) := by decide +kernel
theorem dX6_runScript_108 : decode cX6_runScript 108 = .ok (.ldiv, 1) := by decide +kernel
theorem dX6_runScript_109 : decode cX6_runScript 109 = .ok (.l2i, 1) := by decide +kernel
theorem dX6_runScript_110 : decode cX6_runScript 110 = .ok (.istore 9, 2) := by decide +kernel
theorem dX6_runScript_112 : decode cX6_runScript 112 = .ok (.lload 6, 2) := by decide +kernel
theorem dX6_runScript_114 : decode cX6_runScript 114 = .ok (.lload 4, 2) := by decide +kernel
theorem dX6_runScript_116 : decode cX6_runScript 116 = .ok (.lrem, 1) := by decide +kernel
theorem dX6_runScript_117 : decode cX6_runScript 117 = .ok (.lstore 6, 2) := by decide +kernel
theorem dX6_runScript_119 : decode cX6_runScript 119 = .ok (.iload 9, 2) := by decide +kernel
theorem dX6_runScript_121 : decode cX6_runScript 121 = .ok (.invokestatic 251, 3) := by decide +kernel
theorem dX6_runScript_124 : decode cX6_runScript 124 = .ok (.ifCond .eq 33, 3) := by decide +kernel
theorem dX6_runScript_127 : decode cX6_runScript 127 = .ok (.aload_n 0, 1) := by decide +kernel
theorem dX6_runScript_128 : decode cX6_runScript 128 = .ok (.aload_n 0, 1) := by decide +kernel
theorem dX6_runScript_129 : decode cX6_runScript 129 = .ok (.getfield 37, 3) := by decide +kernel
theorem dX6_runScript_132 : decode cX6_runScript 132 = .ok (.iload 9, 2) := by decide +kernel
theorem dX6_runScript_134 : decode cX6_runScript 134 = .ok (.sipush 1000, 3) := by decide +kernel
theorem dX6_runScript_137 : decode cX6_runScript 137 = .ok (.idiv, 1) := by decide +kernel
theorem dX6_runScript_138 : decode cX6_runScript 138 = .ok (.iload 9, 2) := by decide +kernel
theorem dX6_runScript_140 : decode cX6_runScript 140 = .ok (.bipush 100, 2) := by decide +kernel
theorem dX6_runScript_142 : decode cX6_runScript 142 = .ok (.idiv, 1) := by decide +kernel
theorem dX6_runScript_143 : decode cX6_runScript 143 = .ok (.bipush 10, 2) := by decide +kernel
theorem dX6_runScript_145 : decode cX6_runScript 145 = .ok (.irem, 1) := by decide +kernel
theorem dX6_runScript_146 : decode cX6_runScript 146 = .ok (.iload 9, 2) := by decide +kernel
theorem dX6_runScript_148 : decode cX6_runScript 148 = .ok (.bipush 100, 2) := by decide +kernel
theorem dX6_runScript_150 : decode cX6_runScript 150 = .ok (.irem, 1) := by decide +kernel
theorem dX6_runScript_151 : decode cX6_runScript 151 = .ok (.invokevirtual 106, 3) := by decide +kernel
theorem dX6_runScript_154 : decode cX6_runScript 154 = .ok (.ifCond .ne 6, 3) := by decide +kernel
theorem dX6_runScript_157 : decode cX6_runScript 157 = .ok (.iload 8, 2) := by decide +kernel
theorem dX6_runScript_159 : decode cX6_runScript 159 = .ok (.ireturn, 1) := by decide +kernel
theorem dX6_runScript_160 : decode cX6_runScript 160 = .ok (.iinc 8 1, 3) := by decide +kernel
theorem dX6_runScript_163 : decode cX6_runScript 163 = .ok (.goto (-77), 3) := by decide +kernel
theorem dX6_runScript_166 : decode cX6_runScript 166 = .ok (.bipush (-9), 2) := by decide +kernel
theorem dX6_runScript_168 : decode cX6_runScript 168 = .ok (.ireturn, 1) := by decide +kernel
set_option maxHeartbeats 4000000 in
set_option maxRecDepth 100000 in
theorem c6_runScript (l : Launch) (hst : l.stackTraces = false)  (D : va_G) (cI : ClassId) (ob so ho sl : Nat) (dg dc dt : Nat → Nat) (z : LgS) (hz : Inv z) (zc : LgS) (hBc : zc.1.2 ≤ 8) (zt : LgS) (hBt : zt.1.2 ≤ 8) (x : Int32) (told : Int64) : GE l yX6_runScript cX6_runScript 10 6 169 D [[(ob, .inr (6, [.ref so, .ref ho, .ref sl, .ref (dg 0), .ref (dc 0), .ref (dt 0)]))], zL cI dg z, zL cI dc zc, zL cI dt zt] [(cI, .int)] [.ref ob, .int (x), .long (told)] (fun (r9 : Int32) (u9 : List va_W) => (c6sc x told) = 0 ∧ r9 = (oI (scZ x.toNatClampNeg told.toInt.toNat x.toNatClampNeg 0 z)) ∧ ∃ zc9 : LgS, ∃ zt9 : LgS, (zc9.1.2 ≤ 8) ∧ (zt9.1.2 ≤ 8) ∧ u9 = [[(ob, .inr (6, [.ref so, .ref ho, .ref sl, .ref (dg 0), .ref (dc 0), .ref (dt 0)]))], zL cI dg z, zL cI dc zc9, zL cI dt zt9]) (fun (e9 : String) (u9 : List va_W) => ((e9 = xIA ∧ (c6sc x told) = 1)) ∧ ∃ zc9 : LgS, ∃ zt9 : LgS, (zc9.1.2 ≤ 8) ∧ (zt9.1.2 ≤ 8) ∧ u9 = [[(ob, .inr (6, [.ref so, .ref ho, .ref sl, .ref (dg 0), .ref (dc 0), .ref (dt 0)]))], zL cI dg z, zL cI dc zc9, zL cI dt zt9]) := by
  refine ge_of (by decide) rfl (Nat.le_of_ble_eq_true rfl) ?_
  intro p e s m below meth c ls H hX hEx hnt hr hlocks hK hN hE hSW hZ hP hD hS hl
  generalize gp_A (bw [[(ob, .inr (6, [.ref so, .ref ho, .ref sl, .ref (dg 0), .ref (dc 0), .ref (dt 0)]))], zL cI dg z, zL cI dc zc, zL cI dt zt]) = A at hZ hD hS ⊢
  have hx := hX.1
  have hb := hX.2.1
  have hown := hX.2.2.2.1
  have hts := hX.2.2.2.2
  have hl : lv_has ls 10 [(0, .ref ob), (1, .int (x)), (2, .long (told))] := hl
  refine lv_iload_n hx hb dX6_runScript_0 rfl (lv_at hl 1 rfl) ?_
  refine lv_iconst (v := 1) hx hb dX6_runScript_1 (by decide) ?_
  refine lv_icmp_lt (tgt := 10) hx hb dX6_runScript_2 (by decide) (fun c2_1 => ?_) (fun c2_1 => ?_)
  · skip
    exact ge_tia hst hX hEx hnt hlocks hE hSW hZ hS hP (m6 272 rfl) (m6 273 rfl) (show (239, _) ∈ xT from List.mem_of_getElem? (i := 21) rfl) ⟨⟨rfl, by rw [c6sc, if_neg (fun y => y.1 c2_1)]⟩, _, _, hBc, hBt, rfl⟩ hl.1 dX6_runScript_10 dX6_runScript_13 dX6_runScript_14 dX6_runScript_16 dX6_runScript_19 (Nat.le_of_ble_eq_true rfl) (Nat.le_of_ble_eq_true rfl) (Nat.le_of_ble_eq_true rfl) (Nat.le_of_ble_eq_true rfl) (Nat.le_of_ble_eq_true rfl) (Nat.le_of_ble_eq_true rfl)
  · skip
    refine lv_iload_n hx hb dX6_runScript_5 rfl (lv_at hl 1 rfl) ?_
    refine lv_iconst (v := 4) hx hb dX6_runScript_6 (by decide) ?_
    refine lv_icmp_le (tgt := 20) hx hb dX6_runScript_7 (by decide) (fun c7_2 => ?_) (fun c7_2 => ?_)
    · skip
      have c7_2 := i_nlt c7_2
      obtain ⟨en1, hn1, hn4⟩ := n_four c2_1 c7_2
      have hl : lv_has ls 10 [(0, .ref ob), (1, .int (nI (x.toNatClampNeg))), (2, .long (told))] := lv_re hl 1 rfl en1
      refine lv_lconst (v := 1) hx hb dX6_runScript_20 (by decide) ?_
      refine lv_lstore (lv' := [(4, .long (1)), (0, .ref ob), (1, .int (nI (x.toNatClampNeg))), (2, .long (told))]) hx hb dX6_runScript_21 hl (by decide) rfl (fun ls hl => ?_)
      refine lv_iconst (v := 0) hx hb dX6_runScript_23 (by decide) ?_
      refine lv_istore (lv' := [(6, .int (0)), (4, .long (1)), (0, .ref ob), (1, .int (nI (x.toNatClampNeg))), (2, .long (told))]) hx hb dX6_runScript_24 hl (by decide) rfl (fun ls hl => ?_)
      have LP26 : ∀ n9 : Nat, ∀ (j : Nat), (hj : j ≤ x.toNatClampNeg) → x.toNatClampNeg - j < n9 → ∀ (H : Heap) (locs : List Loc), va_P D vwCl (bw [[(ob, .inr (6, [.ref so, .ref ho, .ref sl, .ref (dg 0), .ref (dc 0), .ref (dt 0)]))], zL cI dg z, zL cI dc zc, zL cI dt zt]) H → va_D A (bw [[(ob, .inr (6, [.ref so, .ref ho, .ref sl, .ref (dg 0), .ref (dc 0), .ref (dt 0)]))], zL cI dg z, zL cI dc zc, zL cI dt zt]) → va_S A s.heap H locs → ∀ ls : Array Slot, lv_has ls 10 [(0, .ref ob), (1, .int (nI (x.toNatClampNeg))), (2, .long (told)), (4, .long (ten (4 * j))), (6, .int (nI (j)))] → W p l e ({ frames := 6, cells := 1, slots := 6, locals := 169 } : Room) s m ([.ref ob, .int (x), .long (told)] : List Value).toArray below meth c H locs 0 0 (vx_MQ below (va_Qi (fun (r9 : Int32) (u9 : List va_W) => (c6sc x told) = 0 ∧ r9 = (oI (scZ x.toNatClampNeg told.toInt.toNat x.toNatClampNeg 0 z)) ∧ ∃ zc9 : LgS, ∃ zt9 : LgS, (zc9.1.2 ≤ 8) ∧ (zt9.1.2 ≤ 8) ∧ u9 = [[(ob, .inr (6, [.ref so, .ref ho, .ref sl, .ref (dg 0), .ref (dc 0), .ref (dt 0)]))], zL cI dg z, zL cI dc zc9, zL cI dt zt9]) (fun u t => va_P D vwCl (bw u) t.heap) A) (ge_X (fun (e9 : String) (u9 : List va_W) => ((e9 = xIA ∧ (c6sc x told) = 1)) ∧ ∃ zc9 : LgS, ∃ zt9 : LgS, (zc9.1.2 ≤ 8) ∧ (zt9.1.2 ≤ 8) ∧ u9 = [[(ob, .inr (6, [.ref so, .ref ho, .ref sl, .ref (dg 0), .ref (dc 0), .ref (dt 0)]))], zL cI dg z, zL cI dc zc9, zL cI dt zt9]) D A) ([.ref ob, .int (x), .long (told)] : List Value).toArray s 1 6 A) (F0 m 26 ls []) := by
        intro n9
        induction n9 with
        | zero => intros; omega
        | succ n9 ih26 =>
          intro j hj hm9 H locs hP hD hS ls hl
          refine lv_iload hx hb dX6_runScript_26 (lv_at hl 4 rfl) ?_
          refine lv_iload_n hx hb dX6_runScript_28 rfl (lv_at hl 1 rfl) ?_
          refine lv_icmp_ge (tgt := 46) hx hb dX6_runScript_29 (by decide) (fun c29_3 => ?_) (fun c29_3 => ?_)
          · skip
            have c29_3 := cn_le (a := x.toNatClampNeg) (b := j) (by omega) (by omega) c29_3
            have ej : j = x.toNatClampNeg := by omega
            have hl : lv_has ls 10 [(0, .ref ob), (1, .int (nI (x.toNatClampNeg))), (2, .long (told)), (4, .long (ten (4 * x.toNatClampNeg))), (6, .int (nI (x.toNatClampNeg)))] := by rw [ej] at hl; exact hl
            refine lv_lload_n hx hb dX6_runScript_46 rfl (lv_at hl 2 rfl) ?_
            refine lv_lconst (v := 0) hx hb dX6_runScript_47 (by decide) ?_
            refine W.lcmp hx hb dX6_runScript_48 ?_
            refine lv_if_lt (tgt := 59) hx hb dX6_runScript_49 (by decide) (fun c49_4 => ?_) (fun c49_4 => ?_)
            · skip
              have c49_4 := (lg_cmp_lt _ _).mp c49_4
              exact ge_tia hst hX hEx hnt hlocks hE hSW hZ hS hP (m6 272 rfl) (m6 273 rfl) (show (243, _) ∈ xT from List.mem_of_getElem? (i := 22) rfl) ⟨⟨rfl, by rw [c6sc, if_pos ⟨c2_1, c7_2⟩, if_neg (fun y => y.1 c49_4)]⟩, _, _, hBc, hBt, rfl⟩ hl.1 dX6_runScript_59 dX6_runScript_62 dX6_runScript_63 dX6_runScript_65 dX6_runScript_68 (Nat.le_of_ble_eq_true rfl) (Nat.le_of_ble_eq_true rfl) (Nat.le_of_ble_eq_true rfl) (Nat.le_of_ble_eq_true rfl) (Nat.le_of_ble_eq_true rfl) (Nat.le_of_ble_eq_true rfl)
            · skip
              have c49_4 := (fun z => c49_4 ((lg_cmp_lt _ _).mpr z))
              refine lv_lload_n hx hb dX6_runScript_52 rfl (lv_at hl 2 rfl) ?_
              refine lv_lload hx hb dX6_runScript_53 (lv_at hl 3 rfl) ?_
              refine W.lcmp hx hb dX6_runScript_55 ?_
              refine lv_if_lt (tgt := 69) hx hb dX6_runScript_56 (by decide) (fun c56_5 => ?_) (fun c56_5 => ?_)
              · skip
                have c56_5 := (lg_cmp_lt _ _).mp c56_5
                obtain ⟨eT, hT⟩ := lnum_of (Int64.not_lt.mp c49_4)
                have hTt := lt_ten hn4 hT (by rw [← eT]; exact c56_5)
                have hl : lv_has ls 10 [(0, .ref ob), (1, .int (nI (x.toNatClampNeg))), (2, .long (lN told.toInt.toNat)), (4, .long (uL x.toNatClampNeg 0)), (6, .int (nI (x.toNatClampNeg)))] := by rw [← eT, ← uL_0]; exact hl
                refine lv_aload_n hx hb dX6_runScript_69 rfl (lv_at hl 0 rfl) ?_
                refine va_get (D := D) (ci := 6) (v := .ref (dc 0)) (C := RX6) (T := TX6) (N := 6) hx hb hts u6_X6 hown hK hP 0 rfl rfl 4 (by decide) (hts _ (m6 261 rfl)) (fun _ h9 => h9) rfl dX6_runScript_70 ?_
                refine lv_aload_n hx hb dX6_runScript_73 rfl (lv_at hl 0 rfl) ?_
                refine va_get (D := D) (ci := 6) (v := .ref (dg 0)) (C := RX6) (T := TX6) (N := 6) hx hb hts u6_X6 hown hK hP 0 rfl rfl 3 (by decide) (hts _ (m6 260 rfl)) (fun _ h9 => h9) rfl dX6_runScript_74 ?_
                refine bq_backv (bq_runV hX good6 (m6 83 rfl) (b2_copyFrom l D cI dc dg zc z hBc (inv_B hz)) q2_copyFrom rfl (m6 296 rfl) (m6 104 rfl) (m6 105 rfl) ⟨Nat.le_of_ble_eq_true rfl, Nat.le_of_ble_eq_true rfl⟩ hK hN [0] rfl hP hD [2, 1] (by decide) rfl (ci := 2) (q0 := 0) rfl rfl rfl hl.1 rfl (Nat.le_of_ble_eq_true rfl) dX6_runScript_77 ⟨Nat.zero_le _, Nat.zero_le _⟩) hP hD hS [2, 1] rfl (fun u h => by rw [h]; rfl) (fun u H locs hpost hP hD hS => ?_)
                subst hpost
                have hP : va_P D vwCl (bw [[(ob, .inr (6, [.ref so, .ref ho, .ref sl, .ref (dg 0), .ref (dc 0), .ref (dt 0)]))], zL cI dg z, zL cI dc z, zL cI dt zt]) H := hP
                have hD : va_D A (bw [[(ob, .inr (6, [.ref so, .ref ho, .ref sl, .ref (dg 0), .ref (dc 0), .ref (dt 0)]))], zL cI dg z, zL cI dc z, zL cI dt zt]) := hD
                refine lv_lload_n hx hb dX6_runScript_80 rfl (lv_at hl 2 rfl) ?_
                refine lv_lstore (lv' := [(6, .long (lN told.toInt.toNat)), (0, .ref ob), (1, .int (nI (x.toNatClampNeg))), (2, .long (lN told.toInt.toNat)), (4, .long (uL x.toNatClampNeg 0))]) hx hb dX6_runScript_81 hl (by decide) rfl (fun ls hl => ?_)
                have hl : lv_has ls 10 [(6, .long (rL x.toNatClampNeg told.toInt.toNat 0)), (0, .ref ob), (1, .int (nI (x.toNatClampNeg))), (2, .long (lN told.toInt.toNat)), (4, .long (uL x.toNatClampNeg 0))] := by rw [← rL_0 hTt]; exact hl
                refine lv_iconst (v := 0) hx hb dX6_runScript_83 (by decide) ?_
                refine lv_istore (lv' := [(8, .int (0)), (6, .long (rL x.toNatClampNeg told.toInt.toNat 0)), (0, .ref ob), (1, .int (nI (x.toNatClampNeg))), (2, .long (lN told.toInt.toNat)), (4, .long (uL x.toNatClampNeg 0))]) hx hb dX6_runScript_84 hl (by decide) rfl (fun ls hl => ?_)
                have LP86 : ∀ n9 : Nat, ∀ (j : Nat) (z8 : LgS) (zt8 : LgS), (hj : j ≤ x.toNatClampNeg) → (hI8 : Inv z8) → (hB8t : zt8.1.2 ≤ 8) → (hs8 : scZ x.toNatClampNeg told.toInt.toNat (x.toNatClampNeg - j) j z8 = scZ x.toNatClampNeg told.toInt.toNat x.toNatClampNeg 0 z) → x.toNatClampNeg - j < n9 → ∀ (H : Heap) (locs : List Loc), va_P D vwCl (bw [[(ob, .inr (6, [.ref so, .ref ho, .ref sl, .ref (dg 0), .ref (dc 0), .ref (dt 0)]))], zL cI dg z, zL cI dc z8, zL cI dt zt8]) H → va_D A (bw [[(ob, .inr (6, [.ref so, .ref ho, .ref sl, .ref (dg 0), .ref (dc 0), .ref (dt 0)]))], zL cI dg z, zL cI dc z8, zL cI dt zt8]) → va_S A s.heap H locs → ∀ ls : Array Slot, lv_has ls 10 [(0, .ref ob), (1, .int (nI (x.toNatClampNeg))), (2, .long (lN told.toInt.toNat)), (4, .long (uL x.toNatClampNeg j)), (6, .long (rL x.toNatClampNeg told.toInt.toNat j)), (8, .int (nI (j)))] → W p l e ({ frames := 6, cells := 1, slots := 6, locals := 169 } : Room) s m ([.ref ob, .int (x), .long (told)] : List Value).toArray below meth c H locs 0 0 (vx_MQ below (va_Qi (fun (r9 : Int32) (u9 : List va_W) => (c6sc x told) = 0 ∧ r9 = (oI (scZ x.toNatClampNeg told.toInt.toNat x.toNatClampNeg 0 z)) ∧ ∃ zc9 : LgS, ∃ zt9 : LgS, (zc9.1.2 ≤ 8) ∧ (zt9.1.2 ≤ 8) ∧ u9 = [[(ob, .inr (6, [.ref so, .ref ho, .ref sl, .ref (dg 0), .ref (dc 0), .ref (dt 0)]))], zL cI dg z, zL cI dc zc9, zL cI dt zt9]) (fun u t => va_P D vwCl (bw u) t.heap) A) (ge_X (fun (e9 : String) (u9 : List va_W) => ((e9 = xIA ∧ (c6sc x told) = 1)) ∧ ∃ zc9 : LgS, ∃ zt9 : LgS, (zc9.1.2 ≤ 8) ∧ (zt9.1.2 ≤ 8) ∧ u9 = [[(ob, .inr (6, [.ref so, .ref ho, .ref sl, .ref (dg 0), .ref (dc 0), .ref (dt 0)]))], zL cI dg z, zL cI dc zc9, zL cI dt zt9]) D A) ([.ref ob, .int (x), .long (told)] : List Value).toArray s 1 6 A) (F0 m 86 ls []) := by
                  intro n9
                  induction n9 with
                  | zero => intros; omega
                  | succ n9 ih86 =>
                    intro j z8 zt8 hj hI8 hB8t hs8 hm9 H locs hP hD hS ls hl
                    refine lv_iload hx hb dX6_runScript_86 (lv_at hl 5 rfl) ?_
                    refine lv_iload_n hx hb dX6_runScript_88 rfl (lv_at hl 1 rfl) ?_
                    refine lv_icmp_ge (tgt := 166) hx hb dX6_runScript_89 (by decide) (fun c89_6 => ?_) (fun c89_6 => ?_)
                    · skip
                      have c89_6 := cn_le (a := x.toNatClampNeg) (b := j) (by omega) (by omega) c89_6
                      refine lv_bipush (v := (-9)) hx hb dX6_runScript_166 (by decide) ?_
                      exact ge_ret hX hr hlocks hS hP ⟨by rw [c6sc, if_pos ⟨c2_1, c7_2⟩, if_pos ⟨c49_4, c56_5⟩], by rw [show x.toNatClampNeg - j = 0 by omega, scZ] at hs8; rw [← hs8]; rfl, _, _, (inv_B hI8), hB8t, rfl⟩ (Nat.le_of_ble_eq_true rfl) (Nat.le_of_ble_eq_true rfl) dX6_runScript_168
                    · skip
                      have c89_6 := cn_nle (a := x.toNatClampNeg) (b := j) (by omega) (by omega) c89_6
                      refine lv_lload hx hb dX6_runScript_92 (lv_at hl 3 rfl) ?_
                      refine lv_ldc2 (v := 10000) hx hb hown (hts _ (m6 381 rfl)) dX6_runScript_94 ?_
                      refine lv_ldiv hx hb dX6_runScript_97 (by decide) ?_
                      refine lv_asl (y := uL x.toNatClampNeg (j + 1)) (uL_d hn4 (by omega)) ?_
                      refine lv_lconst (v := 1) hx hb dX6_runScript_98 (by decide) ?_
                      refine va_mmax_long hx hb (hX.2.2.1.trans hl.1.symm) hown (hts _ (m6 382 rfl)) (hts _ (m6 383 rfl)) (hts _ (m6 14 rfl)) (hts _ (m6 384 rfl)) (Nat.le_of_ble_eq_true rfl) (Nat.le_of_ble_eq_true rfl) (Nat.le_of_ble_eq_true rfl) (Nat.le_of_ble_eq_true rfl) dX6_runScript_99 ?_
                      refine lv_asl (y := uL x.toNatClampNeg (j + 1)) (uL_m hn4) ?_
                      refine lv_lstore (lv' := [(4, .long (uL x.toNatClampNeg (j + 1))), (0, .ref ob), (1, .int (nI (x.toNatClampNeg))), (2, .long (lN told.toInt.toNat)), (6, .long (rL x.toNatClampNeg told.toInt.toNat j)), (8, .int (nI (j)))]) hx hb dX6_runScript_102 hl (by decide) rfl (fun ls hl => ?_)
                      refine lv_lload hx hb dX6_runScript_104 (lv_at hl 4 rfl) ?_
                      refine lv_lload hx hb dX6_runScript_106 (lv_at hl 0 rfl) ?_
                      refine lv_ldiv hx hb dX6_runScript_108 (uL_ne hn4) ?_
                      refine lv_asl (y := lN (grp x.toNatClampNeg told.toInt.toNat j)) (rL_d hn4 (by omega)) ?_
                      refine lv_l2i (v := nI (grp x.toNatClampNeg told.toInt.toNat j)) hx hb dX6_runScript_109 (lN_i _) ?_
                      refine lv_istore (lv' := [(9, .int (nI (grp x.toNatClampNeg told.toInt.toNat j))), (4, .long (uL x.toNatClampNeg (j + 1))), (0, .ref ob), (1, .int (nI (x.toNatClampNeg))), (2, .long (lN told.toInt.toNat)), (6, .long (rL x.toNatClampNeg told.toInt.toNat j)), (8, .int (nI (j)))]) hx hb dX6_runScript_110 hl (by decide) rfl (fun ls hl => ?_)
                      refine lv_lload hx hb dX6_runScript_112 (lv_at hl 5 rfl) ?_
                      refine lv_lload hx hb dX6_runScript_114 (lv_at hl 1 rfl) ?_
                      refine lv_lrem hx hb dX6_runScript_116 (uL_ne hn4) ?_
                      refine lv_asl (y := rL x.toNatClampNeg told.toInt.toNat (j + 1)) (rL_m hn4 (by omega)) ?_
                      refine lv_lstore (lv' := [(6, .long (rL x.toNatClampNeg told.toInt.toNat (j + 1))), (9, .int (nI (grp x.toNatClampNeg told.toInt.toNat j))), (4, .long (uL x.toNatClampNeg (j + 1))), (0, .ref ob), (1, .int (nI (x.toNatClampNeg))), (2, .long (lN told.toInt.toNat)), (8, .int (nI (j)))]) hx hb dX6_runScript_117 hl (by decide) rfl (fun ls hl => ?_)
                      have hg8 : grp x.toNatClampNeg told.toInt.toNat j < 10000 := Nat.mod_lt _ (by decide)
                      obtain ⟨mq, hm⟩ : ∃ mq, x.toNatClampNeg - j = mq + 1 := ⟨x.toNatClampNeg - j - 1, by omega⟩
                      have hm3 : mq = x.toNatClampNeg - (j + 1) := by omega
                      refine lv_iload hx hb dX6_runScript_119 (lv_at hl 1 rfl) ?_
                      refine rq_callS hX good6 (m6 31 rfl) (c6_isCommand l D (grp x.toNatClampNeg told.toInt.toNat j) hg8) q6_isCommand rfl (m6 385 rfl) (m6 386 rfl) ⟨Nat.le_of_ble_eq_true rfl, Nat.le_of_ble_eq_true rfl⟩ hK hN [] rfl hP [] rfl hS hl.1 rfl (Nat.le_of_ble_eq_true rfl) dX6_runScript_121 ⟨Nat.zero_le _, Nat.zero_le _⟩ (fun H locs hP hS => ?_)
                      refine lv_if_eq (tgt := 157) hx hb dX6_runScript_124 (by decide) (fun c124_7 => ?_) (fun c124_7 => ?_)
                      · skip
                        have c124_7 := bI_f c124_7
                        refine lv_iload hx hb dX6_runScript_157 (lv_at hl 6 rfl) ?_
                        exact ge_ret hX hr hlocks hS hP ⟨by rw [c6sc, if_pos ⟨c2_1, c7_2⟩, if_pos ⟨c49_4, c56_5⟩], by rw [hm, scZ, if_neg (fun y => c124_7 y.1)] at hs8; rw [← hs8]; rfl, _, _, (inv_B hI8), hB8t, rfl⟩ (Nat.le_of_ble_eq_true rfl) (Nat.le_of_ble_eq_true rfl) dX6_runScript_159
                      · skip
                        have c124_7 := bI_t c124_7
                        refine lv_aload_n hx hb dX6_runScript_127 rfl (lv_at hl 3 rfl) ?_
                        refine lv_aload_n hx hb dX6_runScript_128 rfl (lv_at hl 3 rfl) ?_
                        refine va_get (D := D) (ci := 6) (v := .ref (dc 0)) (C := RX6) (T := TX6) (N := 6) hx hb hts u6_X6 hown hK hP 0 rfl rfl 4 (by decide) (hts _ (m6 261 rfl)) (fun _ h9 => h9) rfl dX6_runScript_129 ?_
                        refine lv_iload hx hb dX6_runScript_132 (lv_at hl 1 rfl) ?_
                        refine lv_sipush (v := 1000) hx hb dX6_runScript_134 (by decide) ?_
                        refine lv_idiv hx hb dX6_runScript_137 (by decide) ?_
                        refine lv_as (y := nI ((grp x.toNatClampNeg told.toInt.toNat j) / 1000)) (pk_div (a := grp x.toNatClampNeg told.toInt.toNat j) (d := 1000) (by omega) (by decide) (by decide)) ?_
                        refine lv_iload hx hb dX6_runScript_138 (lv_at hl 1 rfl) ?_
                        refine lv_bipush (v := 100) hx hb dX6_runScript_140 (by decide) ?_
                        refine lv_idiv hx hb dX6_runScript_142 (by decide) ?_
                        refine lv_as (y := nI ((grp x.toNatClampNeg told.toInt.toNat j) / 100)) (pk_div (a := grp x.toNatClampNeg told.toInt.toNat j) (d := 100) (by omega) (by decide) (by decide)) ?_
                        refine lv_bipush (v := 10) hx hb dX6_runScript_143 (by decide) ?_
                        refine lv_irem hx hb dX6_runScript_145 (by decide) ?_
                        refine lv_as (y := nI (((grp x.toNatClampNeg told.toInt.toNat j) / 100) % 10)) (pk_rem (a := (grp x.toNatClampNeg told.toInt.toNat j) / 100) (d := 10) (by omega) (by decide) (by decide)) ?_
                        refine lv_iload hx hb dX6_runScript_146 (lv_at hl 1 rfl) ?_
                        refine lv_bipush (v := 100) hx hb dX6_runScript_148 (by decide) ?_
                        refine lv_irem hx hb dX6_runScript_150 (by decide) ?_
                        refine lv_as (y := nI ((grp x.toNatClampNeg told.toInt.toNat j) % 100)) (pk_rem (a := grp x.toNatClampNeg told.toInt.toNat j) (d := 100) (by omega) (by decide) (by decide)) ?_
                        obtain ⟨hc1, hc9⟩ := icm_c c124_7 hg8
                        refine bq_backi (bq_runV hX good6 (m6 31 rfl) (c6_perform l D cI ob so ho sl dg dc dt zt8 hB8t dc z8 hI8 ((grp x.toNatClampNeg told.toInt.toNat j) / 1000) (((grp x.toNatClampNeg told.toInt.toNat j) / 100) % 10) (by omega) (by omega) (by omega) (nI ((grp x.toNatClampNeg told.toInt.toNat j) % 100)) (fun _ => oI_ne (a := grp x.toNatClampNeg told.toInt.toNat j % 100) (by omega))) q6_perform rfl (m6 340 rfl) (m6 341 rfl) (m6 342 rfl) ⟨Nat.le_of_ble_eq_true rfl, Nat.le_of_ble_eq_true rfl⟩ hK hN [0] rfl hP hD [0, 3, 2] (by decide) rfl (ci := 6) (q0 := 0) rfl rfl rfl hl.1 rfl (Nat.le_of_ble_eq_true rfl) dX6_runScript_151 ⟨Nat.zero_le _, Nat.zero_le _⟩) hP hD hS [0, 3, 2] rfl (fun r u h => by obtain ⟨-, x8, hx9, rfl⟩ := h; rfl) (fun r9 u H locs hpost hP hD hS => ?_)
                        obtain ⟨hr9, x8, hx9, rfl⟩ := hpost
                        refine lv_as hr9 ?_
                        have hP : va_P D vwCl (bw [[(ob, .inr (6, [.ref so, .ref ho, .ref sl, .ref (dg 0), .ref (dc 0), .ref (dt 0)]))], zL cI dg z, zL cI dc (pfZ z8 ((grp x.toNatClampNeg told.toInt.toNat j) / 1000) (((grp x.toNatClampNeg told.toInt.toNat j) / 100) % 10) (nI ((grp x.toNatClampNeg told.toInt.toNat j) % 100))), zL cI dt x8]) H := hP
                        have hD : va_D A (bw [[(ob, .inr (6, [.ref so, .ref ho, .ref sl, .ref (dg 0), .ref (dc 0), .ref (dt 0)]))], zL cI dg z, zL cI dc (pfZ z8 ((grp x.toNatClampNeg told.toInt.toNat j) / 1000) (((grp x.toNatClampNeg told.toInt.toNat j) / 100) % 10) (nI ((grp x.toNatClampNeg told.toInt.toNat j) % 100))), zL cI dt x8]) := hD
                        refine lv_if_ne (tgt := 160) hx hb dX6_runScript_154 (by decide) (fun c154_10 => ?_) (fun c154_10 => ?_)
                        · skip
                          have c154_10 := bI_t c154_10
                          refine lv_iinc (v := nI (j + 1)) (lv' := [(8, .int (nI (j + 1))), (6, .long (rL x.toNatClampNeg told.toInt.toNat (j + 1))), (9, .int (nI (grp x.toNatClampNeg told.toInt.toNat j))), (4, .long (uL x.toNatClampNeg (j + 1))), (0, .ref ob), (1, .int (nI (x.toNatClampNeg))), (2, .long (lN told.toInt.toNat))]) hx hb dX6_runScript_160 hl (k := 6) rfl (nI_add _ 1) (by decide) rfl (fun ls hl => ?_)
                          refine lv_goto (tgt := 86) hx hb dX6_runScript_163 (by decide) ?_
                          have hP : va_P D vwCl (bw [[(ob, .inr (6, [.ref so, .ref ho, .ref sl, .ref (dg 0), .ref (dc 0), .ref (dt 0)]))], zL cI dg z, zL cI dc (pfZ z8 (grp x.toNatClampNeg told.toInt.toNat j / 1000) (grp x.toNatClampNeg told.toInt.toNat j / 100 % 10) (nI (grp x.toNatClampNeg told.toInt.toNat j % 100))), zL cI dt x8]) H := by
                            rw [show (pfZ z8 (grp x.toNatClampNeg told.toInt.toNat j / 1000) (grp x.toNatClampNeg told.toInt.toNat j / 100 % 10) (nI (grp x.toNatClampNeg told.toInt.toNat j % 100))) = (pfZ z8 ((grp x.toNatClampNeg told.toInt.toNat j) / 1000) (((grp x.toNatClampNeg told.toInt.toNat j) / 100) % 10) (nI ((grp x.toNatClampNeg told.toInt.toNat j) % 100))) from rfl]
                            exact hP
                          have hD : va_D A (bw [[(ob, .inr (6, [.ref so, .ref ho, .ref sl, .ref (dg 0), .ref (dc 0), .ref (dt 0)]))], zL cI dg z, zL cI dc (pfZ z8 (grp x.toNatClampNeg told.toInt.toNat j / 1000) (grp x.toNatClampNeg told.toInt.toNat j / 100 % 10) (nI (grp x.toNatClampNeg told.toInt.toNat j % 100))), zL cI dt x8]) := by
                            rw [show (pfZ z8 (grp x.toNatClampNeg told.toInt.toNat j / 1000) (grp x.toNatClampNeg told.toInt.toNat j / 100 % 10) (nI (grp x.toNatClampNeg told.toInt.toNat j % 100))) = (pfZ z8 ((grp x.toNatClampNeg told.toInt.toNat j) / 1000) (((grp x.toNatClampNeg told.toInt.toNat j) / 100) % 10) (nI ((grp x.toNatClampNeg told.toInt.toNat j) % 100))) from rfl]
                            exact hD
                          have hl : lv_has ls 10 [(8, .int (nI ((j + 1)))), (6, .long (rL x.toNatClampNeg told.toInt.toNat (j + 1))), (9, .int (nI (grp x.toNatClampNeg told.toInt.toNat j))), (4, .long (uL x.toNatClampNeg (j + 1))), (0, .ref ob), (1, .int (nI (x.toNatClampNeg))), (2, .long (lN told.toInt.toNat))] := lv_re hl 0 rfl (show (nI (j + 1)) = nI ((j + 1)) from rfl)
                          exact ih86 (j + 1) (pfZ z8 (grp x.toNatClampNeg told.toInt.toNat j / 1000) (grp x.toNatClampNeg told.toInt.toNat j / 100 % 10) (nI (grp x.toNatClampNeg told.toInt.toNat j % 100))) x8 (by omega) (inv_pf hI8 (by omega) (fun _ => oI_ne (a := grp x.toNatClampNeg told.toInt.toNat j % 100) (by omega)) (fun _ => ⟨grp x.toNatClampNeg told.toInt.toNat j % 100, by omega, rfl⟩)) (hx9) (by rw [hm, scZ, if_pos ⟨c124_7, c154_10⟩, hm3] at hs8; exact hs8) (by omega) _ _ hP hD hS _ (lv_sub hl [4, 5, 6, 3, 1, 0] rfl)
                        · skip
                          have c154_10 := bI_f c154_10
                          refine lv_iload hx hb dX6_runScript_157 (lv_at hl 6 rfl) ?_
                          exact ge_ret hX hr hlocks hS hP ⟨by rw [c6sc, if_pos ⟨c2_1, c7_2⟩, if_pos ⟨c49_4, c56_5⟩], by rw [hm, scZ, if_neg (fun y => c154_10 y.2)] at hs8; rw [← hs8]; rfl, _, _, (inv_B (inv_pf hI8 (by omega) (fun _ => oI_ne (a := grp x.toNatClampNeg told.toInt.toNat j % 100) (by omega)) (fun _ => ⟨grp x.toNatClampNeg told.toInt.toNat j % 100, by omega, rfl⟩))), hx9, rfl⟩ (Nat.le_of_ble_eq_true rfl) (Nat.le_of_ble_eq_true rfl) dX6_runScript_159
                have hl : lv_has ls 10 [(8, .int (nI (0))), (6, .long (rL x.toNatClampNeg told.toInt.toNat 0)), (0, .ref ob), (1, .int (nI (x.toNatClampNeg))), (2, .long (lN told.toInt.toNat)), (4, .long (uL x.toNatClampNeg 0))] := lv_re hl 0 rfl (show 0 = nI (0) from rfl)
                exact LP86 ((x.toNatClampNeg - 0) + 1) 0 z zt (by omega) (hz) (hBt) (rfl) (by omega) _ _ hP hD hS _ (lv_sub hl [2, 3, 4, 5, 1, 0] rfl)
              · skip
                have c56_5 := (fun z => c56_5 ((lg_cmp_lt _ _).mpr z))
                exact ge_tia hst hX hEx hnt hlocks hE hSW hZ hS hP (m6 272 rfl) (m6 273 rfl) (show (243, _) ∈ xT from List.mem_of_getElem? (i := 22) rfl) ⟨⟨rfl, by rw [c6sc, if_pos ⟨c2_1, c7_2⟩, if_neg (fun y => c56_5 y.2)]⟩, _, _, hBc, hBt, rfl⟩ hl.1 dX6_runScript_59 dX6_runScript_62 dX6_runScript_63 dX6_runScript_65 dX6_runScript_68 (Nat.le_of_ble_eq_true rfl) (Nat.le_of_ble_eq_true rfl) (Nat.le_of_ble_eq_true rfl) (Nat.le_of_ble_eq_true rfl) (Nat.le_of_ble_eq_true rfl) (Nat.le_of_ble_eq_true rfl)
          · skip
            have c29_3 := cn_nle (a := x.toNatClampNeg) (b := j) (by omega) (by omega) c29_3
            refine lv_lload hx hb dX6_runScript_32 (lv_at hl 3 rfl) ?_
            refine lv_ldc2 (v := 10000) hx hb hown (hts _ (m6 381 rfl)) dX6_runScript_34 ?_
            refine lv_lmul hx hb dX6_runScript_37 ?_
            refine lv_asl (y := ten (4 * (j + 1))) (ten_s j) ?_
            refine lv_lstore (lv' := [(4, .long (ten (4 * (j + 1)))), (0, .ref ob), (1, .int (nI (x.toNatClampNeg))), (2, .long (told)), (6, .int (nI (j)))]) hx hb dX6_runScript_38 hl (by decide) rfl (fun ls hl => ?_)
            refine lv_iinc (v := nI (j + 1)) (lv' := [(6, .int (nI (j + 1))), (4, .long (ten (4 * (j + 1)))), (0, .ref ob), (1, .int (nI (x.toNatClampNeg))), (2, .long (told))]) hx hb dX6_runScript_40 hl (k := 4) rfl (nI_add _ 1) (by decide) rfl (fun ls hl => ?_)
            refine lv_goto (tgt := 26) hx hb dX6_runScript_43 (by decide) ?_
            have hl : lv_has ls 10 [(6, .int (nI ((j + 1)))), (4, .long (ten (4 * (j + 1)))), (0, .ref ob), (1, .int (nI (x.toNatClampNeg))), (2, .long (told))] := lv_re hl 0 rfl (show (nI (j + 1)) = nI ((j + 1)) from rfl)
            exact ih26 (j + 1) (by omega) (by omega) _ _ hP hD hS _ (lv_sub hl [2, 3, 4, 1, 0] rfl)
      have hl : lv_has ls 10 [(6, .int (0)), (4, .long (ten (4 * 0))), (0, .ref ob), (1, .int (nI (x.toNatClampNeg))), (2, .long (told))] := hl
      have hl : lv_has ls 10 [(6, .int (nI (0))), (4, .long (ten (4 * 0))), (0, .ref ob), (1, .int (nI (x.toNatClampNeg))), (2, .long (told))] := lv_re hl 0 rfl (show 0 = nI (0) from rfl)
      exact LP26 ((x.toNatClampNeg - 0) + 1) 0 (by omega) (by omega) _ _ hP hD hS _ (lv_sub hl [2, 3, 4, 1, 0] rfl)
    · skip
      have c7_2 := i_lt c7_2
      exact ge_tia hst hX hEx hnt hlocks hE hSW hZ hS hP (m6 272 rfl) (m6 273 rfl) (show (239, _) ∈ xT from List.mem_of_getElem? (i := 21) rfl) ⟨⟨rfl, by rw [c6sc, if_neg (fun y => y.2 c7_2)]⟩, _, _, hBc, hBt, rfl⟩ hl.1 dX6_runScript_10 dX6_runScript_13 dX6_runScript_14 dX6_runScript_16 dX6_runScript_19 (Nat.le_of_ble_eq_true rfl) (Nat.le_of_ble_eq_true rfl) (Nat.le_of_ble_eq_true rfl) (Nat.le_of_ble_eq_true rfl) (Nat.le_of_ble_eq_true rfl) (Nat.le_of_ble_eq_true rfl)
