theorem dX5_tell_0 : decode cX5_tell 0 = .ok (.iload_n 1, 1) := by decide +kernel
theorem dX5_tell_1 : decode cX5_tell 1 = .ok (.tableswitch 51 6 9 #[31, 36, 41, 46], 31) := by decide +kernel
theorem dX5_tell_32 : decode cX5_tell 32 = .ok (.aload_n 0, 1) := by decide +kernel
theorem dX5_tell_33 : decode cX5_tell 33 = .ok (.getfield 9, 3) := by decide +kernel
theorem dX5_tell_36 : decode cX5_tell 36 = .ok (.ireturn, 1) := by decide +kernel
theorem dX5_tell_37 : decode cX5_tell 37 = .ok (.aload_n 0, 1) := by decide +kernel
theorem dX5_tell_38 : decode cX5_tell 38 = .ok (.getfield 15, 3) := by decide +kernel
theorem dX5_tell_41 : decode cX5_tell 41 = .ok (.ireturn, 1) := by decide +kernel
theorem dX5_tell_42 : decode cX5_tell 42 = .ok (.aload_n 0, 1) := by decide +kernel
theorem dX5_tell_43 : decode cX5_tell 43 = .ok (.getfield 18, 3) := by decide +kernel
theorem dX5_tell_46 : decode cX5_tell 46 = .ok (.ireturn, 1) := by decide +kernel
theorem dX5_tell_47 : decode cX5_tell 47 = .ok (.aload_n 0, 1) := by decide +kernel
theorem dX5_tell_48 : decode cX5_tell 48 = .ok (.getfield 21, 3) := by decide +kernel
theorem dX5_tell_51 : decode cX5_tell 51 = .ok (.ireturn, 1) := by decide +kernel
theorem dX5_tell_52 : decode cX5_tell 52 = .ok (.aload_n 0, 1) := by decide +kernel
theorem dX5_tell_53 : decode cX5_tell 53 = .ok (.getfield 24, 3) := by decide +kernel
theorem dX5_tell_56 : decode cX5_tell 56 = .ok (.ireturn, 1) := by decide +kernel
theorem q5_tell : CQ W6 yX5_tell cX5_tell 2 (some .int) 1 := ⟨(m6 347 rfl), by decide, by decide, by decide +kernel⟩
set_option maxHeartbeats 4000000 in
set_option maxRecDepth 100000 in
theorem c5_tell (l : Launch) (D : va_G) (ta : Nat) (tp tw9 tc te tk xa xe xs : Int32) (w : Nat) (h6 : 6 ≤ w) (h10 : w ≤ 10) : RQ l yX5_tell cX5_tell 2 .int W6 0 0 D [(ta, .inr (5, [.int (tp), .int (tw9), .int (tc), .int (te), .int (tk), .int (xa), .int (xe), .int (xs)]))] [] [.ref ta, .int (nI (w))] (tlF tp tw9 tc te tk w) := by
  refine rq_of RX5 (by decide) rfl (Nat.le_of_ble_eq_true rfl) ?_
  intro p e s m below meth c ls hX hr hlocks hK hN hP hS hl
  have hx := hX.1
  have hb := hX.2.1
  have hown := hX.2.2.2.1
  have hts := hX.2.2.2.2
  have hl : lv_has ls 2 [(0, .ref ta), (1, .int (nI (w)))] := hl
  rcases (show w = 6 ∨ w = 7 ∨ w = 8 ∨ w = 9 ∨ w = 10 by omega) with rfl | rfl | rfl | rfl | rfl
  · skip
    have hl : lv_has ls 2 [(0, .ref ta), (1, .int (6))] := hl
    refine lv_iload_n hx hb dX5_tell_0 rfl (lv_at hl 1 rfl) ?_
    refine lv_tableIn (off := 31) (tgt := 32) hx hb dX5_tell_1 (by decide) (by decide) (by decide) (by decide) ?_
    refine lv_aload_n hx hb dX5_tell_32 rfl (lv_at hl 0 rfl) ?_
    refine va_get (D := D) (ci := 5) (v := .int (tp)) (C := RX5) (T := TX5) (N := 8) hx hb hts u6_X5 hown hK hP 0 rfl rfl 0 (by decide) (hts _ (m6 46 rfl)) (fun _ h9 => h9) rfl dX5_tell_33 ?_
    exact rp_ret hX hr hlocks hS (rfl) dX5_tell_36
  · skip
    have hl : lv_has ls 2 [(0, .ref ta), (1, .int (7))] := hl
    refine lv_iload_n hx hb dX5_tell_0 rfl (lv_at hl 1 rfl) ?_
    refine lv_tableIn (off := 36) (tgt := 37) hx hb dX5_tell_1 (by decide) (by decide) (by decide) (by decide) ?_
    refine lv_aload_n hx hb dX5_tell_37 rfl (lv_at hl 0 rfl) ?_
    refine va_get (D := D) (ci := 5) (v := .int (tw9)) (C := RX5) (T := TX5) (N := 8) hx hb hts u6_X5 hown hK hP 0 rfl rfl 1 (by decide) (hts _ (m6 47 rfl)) (fun _ h9 => h9) rfl dX5_tell_38 ?_
    exact rp_ret hX hr hlocks hS (rfl) dX5_tell_41
  · skip
    have hl : lv_has ls 2 [(0, .ref ta), (1, .int (8))] := hl
    refine lv_iload_n hx hb dX5_tell_0 rfl (lv_at hl 1 rfl) ?_
    refine lv_tableIn (off := 41) (tgt := 42) hx hb dX5_tell_1 (by decide) (by decide) (by decide) (by decide) ?_
    refine lv_aload_n hx hb dX5_tell_42 rfl (lv_at hl 0 rfl) ?_
    refine va_get (D := D) (ci := 5) (v := .int (tc)) (C := RX5) (T := TX5) (N := 8) hx hb hts u6_X5 hown hK hP 0 rfl rfl 2 (by decide) (hts _ (m6 48 rfl)) (fun _ h9 => h9) rfl dX5_tell_43 ?_
    exact rp_ret hX hr hlocks hS (rfl) dX5_tell_46
  · skip
    have hl : lv_has ls 2 [(0, .ref ta), (1, .int (9))] := hl
    refine lv_iload_n hx hb dX5_tell_0 rfl (lv_at hl 1 rfl) ?_
    refine lv_tableIn (off := 46) (tgt := 47) hx hb dX5_tell_1 (by decide) (by decide) (by decide) (by decide) ?_
    refine lv_aload_n hx hb dX5_tell_47 rfl (lv_at hl 0 rfl) ?_
    refine va_get (D := D) (ci := 5) (v := .int (te)) (C := RX5) (T := TX5) (N := 8) hx hb hts u6_X5 hown hK hP 0 rfl rfl 3 (by decide) (hts _ (m6 49 rfl)) (fun _ h9 => h9) rfl dX5_tell_48 ?_
    exact rp_ret hX hr hlocks hS (rfl) dX5_tell_51
  · skip
    have hl : lv_has ls 2 [(0, .ref ta), (1, .int (10))] := hl
    refine lv_iload_n hx hb dX5_tell_0 rfl (lv_at hl 1 rfl) ?_
    refine lv_tableOut (tgt := 52) hx hb dX5_tell_1 (by decide) (by decide) ?_
    refine lv_aload_n hx hb dX5_tell_52 rfl (lv_at hl 0 rfl) ?_
    refine va_get (D := D) (ci := 5) (v := .int (tk)) (C := RX5) (T := TX5) (N := 8) hx hb hts u6_X5 hown hK hP 0 rfl rfl 4 (by decide) (hts _ (m6 50 rfl)) (fun _ h9 => h9) rfl dX5_tell_53 ?_
    exact rp_ret hX hr hlocks hS (rfl) dX5_tell_56
theorem dX5_tellCut_0 : decode cX5_tellCut 0 = .ok (.iload_n 1, 1) := by decide +kernel
theorem dX5_tellCut_1 : decode cX5_tellCut 1 = .ok (.lookupswitch 37 #[(0, 27), (1, 32)], 27) := by decide +kernel
theorem dX5_tellCut_28 : decode cX5_tellCut 28 = .ok (.aload_n 0, 1) := by decide +kernel
theorem dX5_tellCut_29 : decode cX5_tellCut 29 = .ok (.getfield 27, 3) := by decide +kernel
theorem dX5_tellCut_32 : decode cX5_tellCut 32 = .ok (.ireturn, 1) := by decide +kernel
theorem dX5_tellCut_33 : decode cX5_tellCut 33 = .ok (.aload_n 0, 1) := by decide +kernel
theorem dX5_tellCut_34 : decode cX5_tellCut 34 = .ok (.getfield 30, 3) := by decide +kernel
theorem dX5_tellCut_37 : decode cX5_tellCut 37 = .ok (.ireturn, 1) := by decide +kernel
theorem dX5_tellCut_38 : decode cX5_tellCut 38 = .ok (.aload_n 0, 1) := by decide +kernel
theorem dX5_tellCut_39 : decode cX5_tellCut 39 = .ok (.getfield 33, 3) := by decide +kernel
theorem dX5_tellCut_42 : decode cX5_tellCut 42 = .ok (.ireturn, 1) := by decide +kernel
theorem q5_tellCut : CQ W6 yX5_tellCut cX5_tellCut 2 (some .int) 1 := ⟨(m6 363 rfl), by decide, by decide, by decide +kernel⟩
set_option maxHeartbeats 4000000 in
set_option maxRecDepth 100000 in
theorem c5_tellCut (l : Launch) (D : va_G) (ta : Nat) (tp tw9 tc te tk xa xe xs : Int32) (w : Nat) (h2 : w ≤ 2) : RQ l yX5_tellCut cX5_tellCut 2 .int W6 0 0 D [(ta, .inr (5, [.int (tp), .int (tw9), .int (tc), .int (te), .int (tk), .int (xa), .int (xe), .int (xs)]))] [] [.ref ta, .int (nI (w))] (tcF xa xe xs w) := by
  refine rq_of RX5 (by decide) rfl (Nat.le_of_ble_eq_true rfl) ?_
  intro p e s m below meth c ls hX hr hlocks hK hN hP hS hl
  have hx := hX.1
  have hb := hX.2.1
  have hown := hX.2.2.2.1
  have hts := hX.2.2.2.2
  have hl : lv_has ls 2 [(0, .ref ta), (1, .int (nI (w)))] := hl
  rcases (show w = 0 ∨ w = 1 ∨ w = 2 by omega) with rfl | rfl | rfl
  · skip
    have hl : lv_has ls 2 [(0, .ref ta), (1, .int (0))] := hl
    refine lv_iload_n hx hb dX5_tellCut_0 rfl (lv_at hl 1 rfl) ?_
    refine lv_lookup (off := 27) (tgt := 28) hx hb dX5_tellCut_1 (by decide) (by decide) (by decide) ?_
    refine lv_aload_n hx hb dX5_tellCut_28 rfl (lv_at hl 0 rfl) ?_
    refine va_get (D := D) (ci := 5) (v := .int (xa)) (C := RX5) (T := TX5) (N := 8) hx hb hts u6_X5 hown hK hP 0 rfl rfl 5 (by decide) (hts _ (m6 51 rfl)) (fun _ h9 => h9) rfl dX5_tellCut_29 ?_
    exact rp_ret hX hr hlocks hS (rfl) dX5_tellCut_32
  · skip
    have hl : lv_has ls 2 [(0, .ref ta), (1, .int (1))] := hl
    refine lv_iload_n hx hb dX5_tellCut_0 rfl (lv_at hl 1 rfl) ?_
    refine lv_lookup (off := 32) (tgt := 33) hx hb dX5_tellCut_1 (by decide) (by decide) (by decide) ?_
    refine lv_aload_n hx hb dX5_tellCut_33 rfl (lv_at hl 0 rfl) ?_
    refine va_get (D := D) (ci := 5) (v := .int (xe)) (C := RX5) (T := TX5) (N := 8) hx hb hts u6_X5 hown hK hP 0 rfl rfl 6 (by decide) (hts _ (m6 52 rfl)) (fun _ h9 => h9) rfl dX5_tellCut_34 ?_
    exact rp_ret hX hr hlocks hS (rfl) dX5_tellCut_37
  · skip
    have hl : lv_has ls 2 [(0, .ref ta), (1, .int (2))] := hl
    refine lv_iload_n hx hb dX5_tellCut_0 rfl (lv_at hl 1 rfl) ?_
    refine lv_lookup (off := 37) (tgt := 38) hx hb dX5_tellCut_1 (by decide) (by decide) (by decide) ?_
    refine lv_aload_n hx hb dX5_tellCut_38 rfl (lv_at hl 0 rfl) ?_
    refine va_get (D := D) (ci := 5) (v := .int (xs)) (C := RX5) (T := TX5) (N := 8) hx hb hts u6_X5 hown hK hP 0 rfl rfl 7 (by decide) (hts _ (m6 53 rfl)) (fun _ h9 => h9) rfl dX5_tellCut_39 ?_
    exact rp_ret hX hr hlocks hS (rfl) dX5_tellCut_42
theorem dX2_canBeVictim_0 : decode cX2_canBeVictim 0 = .ok (.aload_n 0, 1) := by decide +kernel
theorem dX2_canBeVictim_1 : decode cX2_canBeVictim 1 = .ok (.getfield 34, 3) := by decide +kernel
theorem dX2_canBeVictim_4 : decode cX2_canBeVictim 4 = .ok (.ifCond .eq 37, 3) := by decide +kernel
theorem dX2_canBeVictim_7 : decode cX2_canBeVictim 7 = .ok (.iload_n 1, 1) := by decide +kernel
theorem dX2_canBeVictim_8 : decode cX2_canBeVictim 8 = .ok (.aload_n 0, 1) := by decide +kernel
theorem dX2_canBeVictim_9 : decode cX2_canBeVictim 9 = .ok (.getfield 48, 3) := by decide +kernel
theorem dX2_canBeVictim_12 : decode cX2_canBeVictim 12 = .ok (.if_icmp .eq 29, 3) := by decide +kernel
theorem dX2_canBeVictim_15 : decode cX2_canBeVictim 15 = .ok (.aload_n 0, 1) := by decide +kernel
theorem dX2_canBeVictim_16 : decode cX2_canBeVictim 16 = .ok (.getfield 12, 3) := by decide +kernel
theorem dX2_canBeVictim_19 : decode cX2_canBeVictim 19 = .ok (.iload_n 1, 1) := by decide +kernel
theorem dX2_canBeVictim_20 : decode cX2_canBeVictim 20 = .ok (.invokevirtual 75, 3) := by decide +kernel
theorem dX2_canBeVictim_23 : decode cX2_canBeVictim 23 = .ok (.aload_n 0, 1) := by decide +kernel
theorem dX2_canBeVictim_24 : decode cX2_canBeVictim 24 = .ok (.getfield 45, 3) := by decide +kernel
theorem dX2_canBeVictim_27 : decode cX2_canBeVictim 27 = .ok (.if_icmp .ge 14, 3) := by decide +kernel
theorem dX2_canBeVictim_30 : decode cX2_canBeVictim 30 = .ok (.aload_n 0, 1) := by decide +kernel
theorem dX2_canBeVictim_31 : decode cX2_canBeVictim 31 = .ok (.getfield 12, 3) := by decide +kernel
theorem dX2_canBeVictim_34 : decode cX2_canBeVictim 34 = .ok (.iload_n 1, 1) := by decide +kernel
theorem dX2_canBeVictim_35 : decode cX2_canBeVictim 35 = .ok (.invokevirtual 100, 3) := by decide +kernel
theorem dX2_canBeVictim_38 : decode cX2_canBeVictim 38 = .ok (.ifCond .ne 5, 3) := by decide +kernel
theorem dX2_canBeVictim_41 : decode cX2_canBeVictim 41 = .ok (.iconst 0, 1) := by decide +kernel
theorem dX2_canBeVictim_42 : decode cX2_canBeVictim 42 = .ok (.ireturn, 1) := by decide +kernel
theorem dX2_canBeVictim_43 : decode cX2_canBeVictim 43 = .ok (.aload_n 0, 1) := by decide +kernel
theorem dX2_canBeVictim_44 : decode cX2_canBeVictim 44 = .ok (.getfield 12, 3) := by decide +kernel
theorem dX2_canBeVictim_47 : decode cX2_canBeVictim 47 = .ok (.aload_n 0, 1) := by decide +kernel
theorem dX2_canBeVictim_48 : decode cX2_canBeVictim 48 = .ok (.getfield 48, 3) := by decide +kernel
theorem dX2_canBeVictim_51 : decode cX2_canBeVictim 51 = .ok (.invokevirtual 81, 3) := by decide +kernel
theorem dX2_canBeVictim_54 : decode cX2_canBeVictim 54 = .ok (.aload_n 0, 1) := by decide +kernel
theorem dX2_canBeVictim_55 : decode cX2_canBeVictim 55 = .ok (.getfield 12, 3) := by decide +kernel
theorem dX2_canBeVictim_58 : decode cX2_canBeVictim 58 = .ok (.aload_n 0, 1) := by decide +kernel
theorem dX2_canBeVictim_59 : decode cX2_canBeVictim 59 = .ok (.getfield 48, 3) := by decide +kernel
theorem dX2_canBeVictim_62 : decode cX2_canBeVictim 62 = .ok (.invokevirtual 64, 3) := by decide +kernel
theorem dX2_canBeVictim_65 : decode cX2_canBeVictim 65 = .ok (.ifCond .le 7, 3) := by decide +kernel
theorem dX2_canBeVictim_68 : decode cX2_canBeVictim 68 = .ok (.iconst 4, 1) := by decide +kernel
theorem dX2_canBeVictim_69 : decode cX2_canBeVictim 69 = .ok (.goto 4, 3) := by decide +kernel
theorem dX2_canBeVictim_72 : decode cX2_canBeVictim 72 = .ok (.iconst 0, 1) := by decide +kernel
theorem dX2_canBeVictim_73 : decode cX2_canBeVictim 73 = .ok (.iadd, 1) := by decide +kernel
theorem dX2_canBeVictim_74 : decode cX2_canBeVictim 74 = .ok (.istore_n 2, 1) := by decide +kernel
theorem dX2_canBeVictim_75 : decode cX2_canBeVictim 75 = .ok (.aload_n 0, 1) := by decide +kernel
theorem dX2_canBeVictim_76 : decode cX2_canBeVictim 76 = .ok (.getfield 12, 3) := by decide +kernel
theorem dX2_canBeVictim_79 : decode cX2_canBeVictim 79 = .ok (.iload_n 1, 1) := by decide +kernel
theorem dX2_canBeVictim_80 : decode cX2_canBeVictim 80 = .ok (.invokevirtual 78, 3) := by decide +kernel
theorem dX2_canBeVictim_83 : decode cX2_canBeVictim 83 = .ok (.iload_n 2, 1) := by decide +kernel
theorem dX2_canBeVictim_84 : decode cX2_canBeVictim 84 = .ok (.if_icmp .gt 7, 3) := by decide +kernel
theorem dX2_canBeVictim_87 : decode cX2_canBeVictim 87 = .ok (.iconst 1, 1) := by decide +kernel
theorem dX2_canBeVictim_88 : decode cX2_canBeVictim 88 = .ok (.goto 4, 3) := by decide +kernel
theorem dX2_canBeVictim_91 : decode cX2_canBeVictim 91 = .ok (.iconst 0, 1) := by decide +kernel
theorem dX2_canBeVictim_92 : decode cX2_canBeVictim 92 = .ok (.ireturn, 1) := by decide +kernel
theorem q2_canBeVictim : CQ W6 yX2_canBeVictim cX2_canBeVictim 3 (some .boolean) 1 := ⟨(m6 146 rfl), by decide, by decide, by decide +kernel⟩
set_option maxHeartbeats 4000000 in
set_option maxRecDepth 100000 in
theorem c2_canBeVictim (l : Launch) (D : va_G) (cI : ClassId) (lo fo a0 a1 a2 a3 a4 a5 a6 a7 ta : Nat) (on : Bool) (po cu li op nm : Int32) (kd ky vl mk wr lv nw fr : Nat → Int32) (B : Nat) (hB8 : B ≤ 8) (tp tw9 tc te tk xa xe xs : Int32) (x : Int32) : RQ l yX2_canBeVictim cX2_canBeVictim 3 .boolean W6 1 23 D [(lo, .inr (2, [.ref fo, .ref ta, .int (bI (on = true)), .int (po), .int (cu), .int (li), .int (op), .int (nm)])), (fo, .inr (0, [.ref a0, .ref a1, .ref a2, .ref a3, .ref a4, .ref a5, .ref a6, .ref a7, .int (nI (B))])), (a0, .inl (cI, 32, .inl kd)), (a1, .inl (cI, 32, .inl ky)), (a2, .inl (cI, 32, .inl vl)), (a3, .inl (cI, 32, .inl mk)), (a4, .inl (cI, 8, .inl wr)), (a5, .inl (cI, 32, .inl lv)), (a6, .inl (cI, 16, .inl nw)), (a7, .inl (cI, 8, .inl fr)), (ta, .inr (5, [.int (tp), .int (tw9), .int (tc), .int (te), .int (tk), .int (xa), .int (xe), .int (xs)]))] [(cI, .int)] [.ref lo, .int (x)] (bI (cvP kd wr lv fr B on li op x)) := by
  refine rq_of RX2 (by decide) rfl (Nat.le_of_ble_eq_true rfl) ?_
  intro p e s m below meth c ls hX hr hlocks hK hN hP hS hl
  have hx := hX.1
  have hb := hX.2.1
  have hown := hX.2.2.2.1
  have hts := hX.2.2.2.2
  have hl : lv_has ls 3 [(0, .ref lo), (1, .int (x))] := hl
  refine lv_aload_n hx hb dX2_canBeVictim_0 rfl (lv_at hl 0 rfl) ?_
  refine va_get (D := D) (ci := 2) (v := .int (bI (on = true))) (C := RX2) (T := TX2) (N := 8) hx hb hts u6_X2 hown hK hP 0 rfl rfl 2 (by decide) (hts _ (m6 56 rfl)) (fun _ h9 => h9) rfl dX2_canBeVictim_1 ?_
  refine lv_if_eq (tgt := 41) hx hb dX2_canBeVictim_4 (by decide) (fun c4_1 => ?_) (fun c4_1 => ?_)
  · skip
    have c4_1 := bI_f c4_1
    refine lv_iconst (v := 0) hx hb dX2_canBeVictim_41 (by decide) ?_
    exact rp_retz hX hr hlocks hS ((bI_0 (fun z => c4_1 z.1)).symm) dX2_canBeVictim_42
  · skip
    have c4_1 := bI_t c4_1
    refine lv_iload_n hx hb dX2_canBeVictim_7 rfl (lv_at hl 1 rfl) ?_
    refine lv_aload_n hx hb dX2_canBeVictim_8 rfl (lv_at hl 0 rfl) ?_
    refine va_get (D := D) (ci := 2) (v := .int (op)) (C := RX2) (T := TX2) (N := 8) hx hb hts u6_X2 hown hK hP 0 rfl rfl 6 (by decide) (hts _ (m6 60 rfl)) (fun _ h9 => h9) rfl dX2_canBeVictim_9 ?_
    refine lv_icmp_eq (tgt := 41) hx hb dX2_canBeVictim_12 (by decide) (fun c12_2 => ?_) (fun c12_2 => ?_)
    · skip
      refine lv_iconst (v := 0) hx hb dX2_canBeVictim_41 (by decide) ?_
      exact rp_retz hX hr hlocks hS ((bI_0 (fun z => z.2.1 c12_2)).symm) dX2_canBeVictim_42
    · skip
      refine lv_aload_n hx hb dX2_canBeVictim_15 rfl (lv_at hl 0 rfl) ?_
      refine va_get (D := D) (ci := 2) (v := .ref fo) (C := RX2) (T := TX2) (N := 8) hx hb hts u6_X2 hown hK hP 0 rfl rfl 0 (by decide) (hts _ (m6 54 rfl)) (fun _ h9 => h9) rfl dX2_canBeVictim_16 ?_
      refine lv_iload_n hx hb dX2_canBeVictim_19 rfl (lv_at hl 1 rfl) ?_
      refine rq_callV hX good6 (m6 23 rfl) (c0_wearOf l D cI fo a0 a1 a2 a3 a4 a5 a6 a7 kd ky vl mk wr lv nw fr B hB8 x) q0_wearOf rfl (m6 111 rfl) (m6 112 rfl) (m6 113 rfl) ⟨Nat.le_of_ble_eq_true rfl, Nat.le_of_ble_eq_true rfl⟩ hK hN [0] rfl hP [1, 2, 3, 4, 5, 6, 7, 8, 9] rfl (ci := 0) (q0 := 0) rfl rfl rfl hS hl.1 rfl (Nat.le_of_ble_eq_true rfl) dX2_canBeVictim_20 ⟨Nat.zero_le _, Nat.zero_le _⟩ (fun H locs hP hS => ?_)
      refine lv_aload_n hx hb dX2_canBeVictim_23 rfl (lv_at hl 0 rfl) ?_
      refine va_get (D := D) (ci := 2) (v := .int (li)) (C := RX2) (T := TX2) (N := 8) hx hb hts u6_X2 hown hK hP 0 rfl rfl 5 (by decide) (hts _ (m6 59 rfl)) (fun _ h9 => h9) rfl dX2_canBeVictim_24 ?_
      refine lv_icmp_ge (tgt := 41) hx hb dX2_canBeVictim_27 (by decide) (fun c27_3 => ?_) (fun c27_3 => ?_)
      · skip
        have c27_3 := i_nlt c27_3
        refine lv_iconst (v := 0) hx hb dX2_canBeVictim_41 (by decide) ?_
        exact rp_retz hX hr hlocks hS ((bI_0 (fun z => c27_3 z.2.2.1)).symm) dX2_canBeVictim_42
      · skip
        have c27_3 := i_lt c27_3
        refine lv_aload_n hx hb dX2_canBeVictim_30 rfl (lv_at hl 0 rfl) ?_
        refine va_get (D := D) (ci := 2) (v := .ref fo) (C := RX2) (T := TX2) (N := 8) hx hb hts u6_X2 hown hK hP 0 rfl rfl 0 (by decide) (hts _ (m6 54 rfl)) (fun _ h9 => h9) rfl dX2_canBeVictim_31 ?_
        refine lv_iload_n hx hb dX2_canBeVictim_34 rfl (lv_at hl 1 rfl) ?_
        refine rq_callV hX good6 (m6 23 rfl) (c0_hasTornOrDead l D cI fo a0 a1 a2 a3 a4 a5 a6 a7 kd ky vl mk wr lv nw fr B hB8 x) q0_hasTornOrDead rfl (m6 127 rfl) (m6 128 rfl) (m6 129 rfl) ⟨Nat.le_of_ble_eq_true rfl, Nat.le_of_ble_eq_true rfl⟩ hK hN [0] rfl hP [1, 2, 3, 4, 5, 6, 7, 8, 9] rfl (ci := 0) (q0 := 0) rfl rfl rfl hS hl.1 rfl (Nat.le_of_ble_eq_true rfl) dX2_canBeVictim_35 ⟨Nat.zero_le _, Nat.zero_le _⟩ (fun H locs hP hS => ?_)
        refine lv_if_ne (tgt := 43) hx hb dX2_canBeVictim_38 (by decide) (fun c38_4 => ?_) (fun c38_4 => ?_)
        · skip
          have c38_4 := bI_t c38_4
          refine lv_aload_n hx hb dX2_canBeVictim_43 rfl (lv_at hl 0 rfl) ?_
          refine va_get (D := D) (ci := 2) (v := .ref fo) (C := RX2) (T := TX2) (N := 8) hx hb hts u6_X2 hown hK hP 0 rfl rfl 0 (by decide) (hts _ (m6 54 rfl)) (fun _ h9 => h9) rfl dX2_canBeVictim_44 ?_
          refine lv_aload_n hx hb dX2_canBeVictim_47 rfl (lv_at hl 0 rfl) ?_
          refine va_get (D := D) (ci := 2) (v := .int (op)) (C := RX2) (T := TX2) (N := 8) hx hb hts u6_X2 hown hK hP 0 rfl rfl 6 (by decide) (hts _ (m6 60 rfl)) (fun _ h9 => h9) rfl dX2_canBeVictim_48 ?_
          refine rq_callV hX good6 (m6 23 rfl) (c0_freeIn l D cI fo a0 a1 a2 a3 a4 a5 a6 a7 kd ky vl mk wr lv nw fr B hB8 op) q0_freeIn rfl (m6 131 rfl) (m6 132 rfl) (m6 133 rfl) ⟨Nat.le_of_ble_eq_true rfl, Nat.le_of_ble_eq_true rfl⟩ hK hN [0] rfl hP [1, 2, 3, 4, 5, 6, 7, 8, 9] rfl (ci := 0) (q0 := 0) rfl rfl rfl hS hl.1 rfl (Nat.le_of_ble_eq_true rfl) dX2_canBeVictim_51 ⟨Nat.zero_le _, Nat.zero_le _⟩ (fun H locs hP hS => ?_)
          refine lv_aload_n hx hb dX2_canBeVictim_54 rfl (lv_at hl 0 rfl) ?_
          refine va_get (D := D) (ci := 2) (v := .ref fo) (C := RX2) (T := TX2) (N := 8) hx hb hts u6_X2 hown hK hP 0 rfl rfl 0 (by decide) (hts _ (m6 54 rfl)) (fun _ h9 => h9) rfl dX2_canBeVictim_55 ?_
          refine lv_aload_n hx hb dX2_canBeVictim_58 rfl (lv_at hl 0 rfl) ?_
          refine va_get (D := D) (ci := 2) (v := .int (op)) (C := RX2) (T := TX2) (N := 8) hx hb hts u6_X2 hown hK hP 0 rfl rfl 6 (by decide) (hts _ (m6 60 rfl)) (fun _ h9 => h9) rfl dX2_canBeVictim_59 ?_
          refine rq_callV hX good6 (m6 23 rfl) (c0_countCleanBlocks l D cI fo a0 a1 a2 a3 a4 a5 a6 a7 kd ky vl mk wr lv nw fr B hB8 op) q0_countCleanBlocks rfl (m6 115 rfl) (m6 116 rfl) (m6 117 rfl) ⟨Nat.le_of_ble_eq_true rfl, Nat.le_of_ble_eq_true rfl⟩ hK hN [0] rfl hP [1, 2, 3, 4, 5, 6, 7, 8, 9] rfl (ci := 0) (q0 := 0) rfl rfl rfl hS hl.1 rfl (Nat.le_of_ble_eq_true rfl) dX2_canBeVictim_62 ⟨Nat.zero_le _, Nat.zero_le _⟩ (fun H locs hP hS => ?_)
          have hcb := cbF_le (fr := fr) (op := op) B
          refine lv_if_le (tgt := 72) hx hb dX2_canBeVictim_65 (by decide) (fun c65_5 => ?_) (fun c65_5 => ?_)
          · skip
            have c65_5 := cn_le (a := cbF fr op B) (b := 0) (by omega) (by omega) c65_5
            refine lv_iconst (v := 0) hx hb dX2_canBeVictim_72 (by decide) ?_
            refine lv_iadd hx hb dX2_canBeVictim_73 ?_
            refine lv_as (show (at_ fr 8 0 op) + 0 = rmV fr op B from by rw [rmV, if_neg (by omega)]) ?_
            refine lv_istore_n (lv' := [(2, .int (rmV fr op B)), (0, .ref lo), (1, .int (x))]) hx hb dX2_canBeVictim_74 rfl hl (by decide) rfl (fun ls hl => ?_)
            refine lv_aload_n hx hb dX2_canBeVictim_75 rfl (lv_at hl 1 rfl) ?_
            refine va_get (D := D) (ci := 2) (v := .ref fo) (C := RX2) (T := TX2) (N := 8) hx hb hts u6_X2 hown hK hP 0 rfl rfl 0 (by decide) (hts _ (m6 54 rfl)) (fun _ h9 => h9) rfl dX2_canBeVictim_76 ?_
            refine lv_iload_n hx hb dX2_canBeVictim_79 rfl (lv_at hl 2 rfl) ?_
            refine rq_callV hX good6 (m6 23 rfl) (c0_countLive l D cI fo a0 a1 a2 a3 a4 a5 a6 a7 kd ky vl mk wr lv nw fr B hB8 x) q0_countLive rfl (m6 135 rfl) (m6 136 rfl) (m6 137 rfl) ⟨Nat.le_of_ble_eq_true rfl, Nat.le_of_ble_eq_true rfl⟩ hK hN [0] rfl hP [1, 2, 3, 4, 5, 6, 7, 8, 9] rfl (ci := 0) (q0 := 0) rfl rfl rfl hS hl.1 rfl (Nat.le_of_ble_eq_true rfl) dX2_canBeVictim_80 ⟨Nat.zero_le _, Nat.zero_le _⟩ (fun H locs hP hS => ?_)
            refine lv_iload_n hx hb dX2_canBeVictim_83 rfl (lv_at hl 0 rfl) ?_
            refine lv_icmp_gt (tgt := 91) hx hb dX2_canBeVictim_84 (by decide) (fun c84_6 => ?_) (fun c84_6 => ?_)
            · skip
              refine lv_iconst (v := 0) hx hb dX2_canBeVictim_91 (by decide) ?_
              exact rp_retz hX hr hlocks hS ((bI_0 (fun z => z.2.2.2.2 c84_6)).symm) dX2_canBeVictim_92
            · skip
              refine lv_iconst (v := 1) hx hb dX2_canBeVictim_87 (by decide) ?_
              refine lv_goto (tgt := 92) hx hb dX2_canBeVictim_88 (by decide) ?_
              exact rp_retz hX hr hlocks hS ((bI_1 ⟨c4_1, c12_2, c27_3, c38_4, c84_6⟩).symm) dX2_canBeVictim_92
          · skip
            have c65_5 := cn_nle (a := cbF fr op B) (b := 0) (by omega) (by omega) c65_5
            refine lv_iconst (v := 4) hx hb dX2_canBeVictim_68 (by decide) ?_
            refine lv_goto (tgt := 73) hx hb dX2_canBeVictim_69 (by decide) ?_
            refine lv_iadd hx hb dX2_canBeVictim_73 ?_
            refine lv_as (show (at_ fr 8 0 op) + 4 = rmV fr op B from by rw [rmV, if_pos c65_5]) ?_
            refine lv_istore_n (lv' := [(2, .int (rmV fr op B)), (0, .ref lo), (1, .int (x))]) hx hb dX2_canBeVictim_74 rfl hl (by decide) rfl (fun ls hl => ?_)
            refine lv_aload_n hx hb dX2_canBeVictim_75 rfl (lv_at hl 1 rfl) ?_
            refine va_get (D := D) (ci := 2) (v := .ref fo) (C := RX2) (T := TX2) (N := 8) hx hb hts u6_X2 hown hK hP 0 rfl rfl 0 (by decide) (hts _ (m6 54 rfl)) (fun _ h9 => h9) rfl dX2_canBeVictim_76 ?_
            refine lv_iload_n hx hb dX2_canBeVictim_79 rfl (lv_at hl 2 rfl) ?_
            refine rq_callV hX good6 (m6 23 rfl) (c0_countLive l D cI fo a0 a1 a2 a3 a4 a5 a6 a7 kd ky vl mk wr lv nw fr B hB8 x) q0_countLive rfl (m6 135 rfl) (m6 136 rfl) (m6 137 rfl) ⟨Nat.le_of_ble_eq_true rfl, Nat.le_of_ble_eq_true rfl⟩ hK hN [0] rfl hP [1, 2, 3, 4, 5, 6, 7, 8, 9] rfl (ci := 0) (q0 := 0) rfl rfl rfl hS hl.1 rfl (Nat.le_of_ble_eq_true rfl) dX2_canBeVictim_80 ⟨Nat.zero_le _, Nat.zero_le _⟩ (fun H locs hP hS => ?_)
            refine lv_iload_n hx hb dX2_canBeVictim_83 rfl (lv_at hl 0 rfl) ?_
            refine lv_icmp_gt (tgt := 91) hx hb dX2_canBeVictim_84 (by decide) (fun c84_7 => ?_) (fun c84_7 => ?_)
            · skip
              refine lv_iconst (v := 0) hx hb dX2_canBeVictim_91 (by decide) ?_
              exact rp_retz hX hr hlocks hS ((bI_0 (fun z => z.2.2.2.2 c84_7)).symm) dX2_canBeVictim_92
            · skip
              refine lv_iconst (v := 1) hx hb dX2_canBeVictim_87 (by decide) ?_
              refine lv_goto (tgt := 92) hx hb dX2_canBeVictim_88 (by decide) ?_
              exact rp_retz hX hr hlocks hS ((bI_1 ⟨c4_1, c12_2, c27_3, c38_4, c84_7⟩).symm) dX2_canBeVictim_92
        · skip
          have c38_4 := bI_f c38_4
          refine lv_iconst (v := 0) hx hb dX2_canBeVictim_41 (by decide) ?_
          exact rp_retz hX hr hlocks hS ((bI_0 (fun z => c38_4 z.2.2.2.1)).symm) dX2_canBeVictim_42
theorem dX2_goesBefore_0 : decode cX2_goesBefore 0 = .ok (.aload_n 0, 1) := by decide +kernel
theorem dX2_goesBefore_1 : decode cX2_goesBefore 1 = .ok (.getfield 38, 3) := by decide +kernel
theorem dX2_goesBefore_4 : decode cX2_goesBefore 4 = .ok (.iconst 2, 1) := by decide +kernel
theorem dX2_goesBefore_5 : decode cX2_goesBefore 5 = .ok (.if_icmp .ne 28, 3) := by decide +kernel
theorem dX2_goesBefore_8 : decode cX2_goesBefore 8 = .ok (.aload_n 0, 1) := by decide +kernel
theorem dX2_goesBefore_9 : decode cX2_goesBefore 9 = .ok (.getfield 12, 3) := by decide +kernel
theorem dX2_goesBefore_12 : decode cX2_goesBefore 12 = .ok (.iload_n 1, 1) := by decide +kernel
theorem dX2_goesBefore_13 : decode cX2_goesBefore 13 = .ok (.invokevirtual 107, 3) := by decide +kernel
theorem dX2_goesBefore_16 : decode cX2_goesBefore 16 = .ok (.aload_n 0, 1) := by decide +kernel
theorem dX2_goesBefore_17 : decode cX2_goesBefore 17 = .ok (.getfield 12, 3) := by decide +kernel
theorem dX2_goesBefore_20 : decode cX2_goesBefore 20 = .ok (.iload_n 2, 1) := by decide +kernel
theorem dX2_goesBefore_21 : decode cX2_goesBefore 21 = .ok (.invokevirtual 107, 3) := by decide +kernel
theorem dX2_goesBefore_24 : decode cX2_goesBefore 24 = .ok (.if_icmp .ge 7, 3) := by decide +kernel
theorem dX2_goesBefore_27 : decode cX2_goesBefore 27 = .ok (.iconst 1, 1) := by decide +kernel
theorem dX2_goesBefore_28 : decode cX2_goesBefore 28 = .ok (.goto 4, 3) := by decide +kernel
theorem dX2_goesBefore_31 : decode cX2_goesBefore 31 = .ok (.iconst 0, 1) := by decide +kernel
theorem dX2_goesBefore_32 : decode cX2_goesBefore 32 = .ok (.ireturn, 1) := by decide +kernel
theorem dX2_goesBefore_33 : decode cX2_goesBefore 33 = .ok (.aload_n 0, 1) := by decide +kernel
theorem dX2_goesBefore_34 : decode cX2_goesBefore 34 = .ok (.getfield 12, 3) := by decide +kernel
theorem dX2_goesBefore_37 : decode cX2_goesBefore 37 = .ok (.iload_n 1, 1) := by decide +kernel
theorem dX2_goesBefore_38 : decode cX2_goesBefore 38 = .ok (.invokevirtual 75, 3) := by decide +kernel
theorem dX2_goesBefore_41 : decode cX2_goesBefore 41 = .ok (.aload_n 0, 1) := by decide +kernel
theorem dX2_goesBefore_42 : decode cX2_goesBefore 42 = .ok (.getfield 12, 3) := by decide +kernel
theorem dX2_goesBefore_45 : decode cX2_goesBefore 45 = .ok (.iload_n 2, 1) := by decide +kernel
theorem dX2_goesBefore_46 : decode cX2_goesBefore 46 = .ok (.invokevirtual 75, 3) := by decide +kernel
theorem dX2_goesBefore_49 : decode cX2_goesBefore 49 = .ok (.isub, 1) := by decide +kernel
theorem dX2_goesBefore_50 : decode cX2_goesBefore 50 = .ok (.istore_n 3, 1) := by decide +kernel
theorem dX2_goesBefore_51 : decode cX2_goesBefore 51 = .ok (.aload_n 0, 1) := by decide +kernel
theorem dX2_goesBefore_52 : decode cX2_goesBefore 52 = .ok (.getfield 12, 3) := by decide +kernel
theorem dX2_goesBefore_55 : decode cX2_goesBefore 55 = .ok (.iload_n 1, 1) := by decide +kernel
theorem dX2_goesBefore_56 : decode cX2_goesBefore 56 = .ok (.invokevirtual 78, 3) := by decide +kernel
theorem dX2_goesBefore_59 : decode cX2_goesBefore 59 = .ok (.aload_n 0, 1) := by decide +kernel
theorem dX2_goesBefore_60 : decode cX2_goesBefore 60 = .ok (.getfield 12, 3) := by decide +kernel
theorem dX2_goesBefore_63 : decode cX2_goesBefore 63 = .ok (.iload_n 2, 1) := by decide +kernel
theorem dX2_goesBefore_64 : decode cX2_goesBefore 64 = .ok (.invokevirtual 78, 3) := by decide +kernel
theorem dX2_goesBefore_67 : decode cX2_goesBefore 67 = .ok (.isub, 1) := by decide +kernel
theorem dX2_goesBefore_68 : decode cX2_goesBefore 68 = .ok (.istore 4, 2) := by decide +kernel
theorem dX2_goesBefore_70 : decode cX2_goesBefore 70 = .ok (.aload_n 0, 1) := by decide +kernel
theorem dX2_goesBefore_71 : decode cX2_goesBefore 71 = .ok (.getfield 38, 3) := by decide +kernel
theorem dX2_goesBefore_74 : decode cX2_goesBefore 74 = .ok (.iconst 1, 1) := by decide +kernel
theorem dX2_goesBefore_75 : decode cX2_goesBefore 75 = .ok (.if_icmp .ne 22, 3) := by decide +kernel
theorem dX2_goesBefore_78 : decode cX2_goesBefore 78 = .ok (.iload_n 3, 1) := by decide +kernel
theorem dX2_goesBefore_79 : decode cX2_goesBefore 79 = .ok (.ifCond .lt 12, 3) := by decide +kernel
theorem dX2_goesBefore_82 : decode cX2_goesBefore 82 = .ok (.iload_n 3, 1) := by decide +kernel
theorem dX2_goesBefore_83 : decode cX2_goesBefore 83 = .ok (.ifCond .ne 12, 3) := by decide +kernel
theorem dX2_goesBefore_86 : decode cX2_goesBefore 86 = .ok (.iload 4, 2) := by decide +kernel
theorem dX2_goesBefore_88 : decode cX2_goesBefore 88 = .ok (.ifCond .ge 7, 3) := by decide +kernel
theorem dX2_goesBefore_91 : decode cX2_goesBefore 91 = .ok (.iconst 1, 1) := by decide +kernel
theorem dX2_goesBefore_92 : decode cX2_goesBefore 92 = .ok (.goto 4, 3) := by decide +kernel
theorem dX2_goesBefore_95 : decode cX2_goesBefore 95 = .ok (.iconst 0, 1) := by decide +kernel
theorem dX2_goesBefore_96 : decode cX2_goesBefore 96 = .ok (.ireturn, 1) := by decide +kernel
theorem dX2_goesBefore_97 : decode cX2_goesBefore 97 = .ok (.iload 4, 2) := by decide +kernel
theorem dX2_goesBefore_99 : decode cX2_goesBefore 99 = .ok (.ifCond .lt 12, 3) := by decide +kernel
theorem dX2_goesBefore_102 : decode cX2_goesBefore 102 = .ok (.iload 4, 2) := by decide +kernel
theorem dX2_goesBefore_104 : decode cX2_goesBefore 104 = .ok (.ifCond .ne 11, 3) := by decide +kernel
theorem dX2_goesBefore_107 : decode cX2_goesBefore 107 = .ok (.iload_n 3, 1) := by decide +kernel
theorem dX2_goesBefore_108 : decode cX2_goesBefore 108 = .ok (.ifCond .ge 7, 3) := by decide +kernel
theorem dX2_goesBefore_111 : decode cX2_goesBefore 111 = .ok (.iconst 1, 1) := by decide +kernel
theorem dX2_goesBefore_112 : decode cX2_goesBefore 112 = .ok (.goto 4, 3) := by decide +kernel
theorem dX2_goesBefore_115 : decode cX2_goesBefore 115 = .ok (.iconst 0, 1) := by decide +kernel
theorem dX2_goesBefore_116 : decode cX2_goesBefore 116 = .ok (.ireturn, 1) := by decide +kernel
theorem q2_goesBefore : CQ W6 yX2_goesBefore cX2_goesBefore 5 (some .boolean) 2 := ⟨(m6 154 rfl), by decide, by decide, by decide +kernel⟩
set_option maxHeartbeats 4000000 in
set_option maxRecDepth 100000 in
theorem c2_goesBefore (l : Launch) (D : va_G) (cI : ClassId) (lo fo a0 a1 a2 a3 a4 a5 a6 a7 ta : Nat) (on : Bool) (po cu li op nm : Int32) (kd ky vl mk wr lv nw fr : Nat → Int32) (B : Nat) (hB8 : B ≤ 8) (tp tw9 tc te tk xa xe xs : Int32) (x y : Int32) : RQ l yX2_goesBefore cX2_goesBefore 5 .boolean W6 1 23 D [(lo, .inr (2, [.ref fo, .ref ta, .int (bI (on = true)), .int (po), .int (cu), .int (li), .int (op), .int (nm)])), (fo, .inr (0, [.ref a0, .ref a1, .ref a2, .ref a3, .ref a4, .ref a5, .ref a6, .ref a7, .int (nI (B))])), (a0, .inl (cI, 32, .inl kd)), (a1, .inl (cI, 32, .inl ky)), (a2, .inl (cI, 32, .inl vl)), (a3, .inl (cI, 32, .inl mk)), (a4, .inl (cI, 8, .inl wr)), (a5, .inl (cI, 32, .inl lv)), (a6, .inl (cI, 16, .inl nw)), (a7, .inl (cI, 8, .inl fr)), (ta, .inr (5, [.int (tp), .int (tw9), .int (tc), .int (te), .int (tk), .int (xa), .int (xe), .int (xs)]))] [(cI, .int)] [.ref lo, .int (x), .int (y)] (bI (gbP kd mk wr lv po x y)) := by
  refine rq_of RX2 (by decide) rfl (Nat.le_of_ble_eq_true rfl) ?_
  intro p e s m below meth c ls hX hr hlocks hK hN hP hS hl
  have hx := hX.1
  have hb := hX.2.1
  have hown := hX.2.2.2.1
  have hts := hX.2.2.2.2
  have hl : lv_has ls 5 [(0, .ref lo), (1, .int (x)), (2, .int (y))] := hl
  refine lv_aload_n hx hb dX2_goesBefore_0 rfl (lv_at hl 0 rfl) ?_
  refine va_get (D := D) (ci := 2) (v := .int (po)) (C := RX2) (T := TX2) (N := 8) hx hb hts u6_X2 hown hK hP 0 rfl rfl 3 (by decide) (hts _ (m6 57 rfl)) (fun _ h9 => h9) rfl dX2_goesBefore_1 ?_
  refine lv_iconst (v := 2) hx hb dX2_goesBefore_4 (by decide) ?_
  refine lv_icmp_ne (tgt := 33) hx hb dX2_goesBefore_5 (by decide) (fun c5_1 => ?_) (fun c5_1 => ?_)
  · skip
    refine lv_aload_n hx hb dX2_goesBefore_33 rfl (lv_at hl 0 rfl) ?_
    refine va_get (D := D) (ci := 2) (v := .ref fo) (C := RX2) (T := TX2) (N := 8) hx hb hts u6_X2 hown hK hP 0 rfl rfl 0 (by decide) (hts _ (m6 54 rfl)) (fun _ h9 => h9) rfl dX2_goesBefore_34 ?_
    refine lv_iload_n hx hb dX2_goesBefore_37 rfl (lv_at hl 1 rfl) ?_
    refine rq_callV hX good6 (m6 23 rfl) (c0_wearOf l D cI fo a0 a1 a2 a3 a4 a5 a6 a7 kd ky vl mk wr lv nw fr B hB8 x) q0_wearOf rfl (m6 111 rfl) (m6 112 rfl) (m6 113 rfl) ⟨Nat.le_of_ble_eq_true rfl, Nat.le_of_ble_eq_true rfl⟩ hK hN [0] rfl hP [1, 2, 3, 4, 5, 6, 7, 8, 9] rfl (ci := 0) (q0 := 0) rfl rfl rfl hS hl.1 rfl (Nat.le_of_ble_eq_true rfl) dX2_goesBefore_38 ⟨Nat.zero_le _, Nat.zero_le _⟩ (fun H locs hP hS => ?_)
    refine lv_aload_n hx hb dX2_goesBefore_41 rfl (lv_at hl 0 rfl) ?_
    refine va_get (D := D) (ci := 2) (v := .ref fo) (C := RX2) (T := TX2) (N := 8) hx hb hts u6_X2 hown hK hP 0 rfl rfl 0 (by decide) (hts _ (m6 54 rfl)) (fun _ h9 => h9) rfl dX2_goesBefore_42 ?_
    refine lv_iload_n hx hb dX2_goesBefore_45 rfl (lv_at hl 2 rfl) ?_
    refine rq_callV hX good6 (m6 23 rfl) (c0_wearOf l D cI fo a0 a1 a2 a3 a4 a5 a6 a7 kd ky vl mk wr lv nw fr B hB8 y) q0_wearOf rfl (m6 111 rfl) (m6 112 rfl) (m6 113 rfl) ⟨Nat.le_of_ble_eq_true rfl, Nat.le_of_ble_eq_true rfl⟩ hK hN [0] rfl hP [1, 2, 3, 4, 5, 6, 7, 8, 9] rfl (ci := 0) (q0 := 0) rfl rfl rfl hS hl.1 rfl (Nat.le_of_ble_eq_true rfl) dX2_goesBefore_46 ⟨Nat.zero_le _, Nat.zero_le _⟩ (fun H locs hP hS => ?_)
    refine lv_isub hx hb dX2_goesBefore_49 ?_
    refine lv_istore_n (lv' := [(3, .int ((at_ wr 8 0 x) - (at_ wr 8 0 y))), (0, .ref lo), (1, .int (x)), (2, .int (y))]) hx hb dX2_goesBefore_50 rfl hl (by decide) rfl (fun ls hl => ?_)
    refine lv_aload_n hx hb dX2_goesBefore_51 rfl (lv_at hl 1 rfl) ?_
    refine va_get (D := D) (ci := 2) (v := .ref fo) (C := RX2) (T := TX2) (N := 8) hx hb hts u6_X2 hown hK hP 0 rfl rfl 0 (by decide) (hts _ (m6 54 rfl)) (fun _ h9 => h9) rfl dX2_goesBefore_52 ?_
    refine lv_iload_n hx hb dX2_goesBefore_55 rfl (lv_at hl 2 rfl) ?_
    refine rq_callV hX good6 (m6 23 rfl) (c0_countLive l D cI fo a0 a1 a2 a3 a4 a5 a6 a7 kd ky vl mk wr lv nw fr B hB8 x) q0_countLive rfl (m6 135 rfl) (m6 136 rfl) (m6 137 rfl) ⟨Nat.le_of_ble_eq_true rfl, Nat.le_of_ble_eq_true rfl⟩ hK hN [0] rfl hP [1, 2, 3, 4, 5, 6, 7, 8, 9] rfl (ci := 0) (q0 := 0) rfl rfl rfl hS hl.1 rfl (Nat.le_of_ble_eq_true rfl) dX2_goesBefore_56 ⟨Nat.zero_le _, Nat.zero_le _⟩ (fun H locs hP hS => ?_)
    refine lv_aload_n hx hb dX2_goesBefore_59 rfl (lv_at hl 1 rfl) ?_
    refine va_get (D := D) (ci := 2) (v := .ref fo) (C := RX2) (T := TX2) (N := 8) hx hb hts u6_X2 hown hK hP 0 rfl rfl 0 (by decide) (hts _ (m6 54 rfl)) (fun _ h9 => h9) rfl dX2_goesBefore_60 ?_
    refine lv_iload_n hx hb dX2_goesBefore_63 rfl (lv_at hl 3 rfl) ?_
    refine rq_callV hX good6 (m6 23 rfl) (c0_countLive l D cI fo a0 a1 a2 a3 a4 a5 a6 a7 kd ky vl mk wr lv nw fr B hB8 y) q0_countLive rfl (m6 135 rfl) (m6 136 rfl) (m6 137 rfl) ⟨Nat.le_of_ble_eq_true rfl, Nat.le_of_ble_eq_true rfl⟩ hK hN [0] rfl hP [1, 2, 3, 4, 5, 6, 7, 8, 9] rfl (ci := 0) (q0 := 0) rfl rfl rfl hS hl.1 rfl (Nat.le_of_ble_eq_true rfl) dX2_goesBefore_64 ⟨Nat.zero_le _, Nat.zero_le _⟩ (fun H locs hP hS => ?_)
    refine lv_isub hx hb dX2_goesBefore_67 ?_
    refine lv_istore (lv' := [(4, .int ((slV lv x) - (slV lv y))), (3, .int ((at_ wr 8 0 x) - (at_ wr 8 0 y))), (0, .ref lo), (1, .int (x)), (2, .int (y))]) hx hb dX2_goesBefore_68 hl (by decide) rfl (fun ls hl => ?_)
    refine lv_aload_n hx hb dX2_goesBefore_70 rfl (lv_at hl 2 rfl) ?_
    refine va_get (D := D) (ci := 2) (v := .int (po)) (C := RX2) (T := TX2) (N := 8) hx hb hts u6_X2 hown hK hP 0 rfl rfl 3 (by decide) (hts _ (m6 57 rfl)) (fun _ h9 => h9) rfl dX2_goesBefore_71 ?_
    refine lv_iconst (v := 1) hx hb dX2_goesBefore_74 (by decide) ?_
    refine lv_icmp_ne (tgt := 97) hx hb dX2_goesBefore_75 (by decide) (fun c75_2 => ?_) (fun c75_2 => ?_)
    · skip
      refine lv_iload hx hb dX2_goesBefore_97 (lv_at hl 0 rfl) ?_
      refine lv_if_lt (tgt := 111) hx hb dX2_goesBefore_99 (by decide) (fun c99_3 => ?_) (fun c99_3 => ?_)
      · skip
        refine lv_iconst (v := 1) hx hb dX2_goesBefore_111 (by decide) ?_
        refine lv_goto (tgt := 116) hx hb dX2_goesBefore_112 (by decide) ?_
        exact rp_retz hX hr hlocks hS ((bI_1 (by rw [gbP]; simp [c5_1, c75_2, c99_3])).symm) dX2_goesBefore_116
      · skip
        refine lv_iload hx hb dX2_goesBefore_102 (lv_at hl 0 rfl) ?_
        refine lv_if_ne (tgt := 115) hx hb dX2_goesBefore_104 (by decide) (fun c104_4 => ?_) (fun c104_4 => ?_)
        · skip
          refine lv_iconst (v := 0) hx hb dX2_goesBefore_115 (by decide) ?_
          exact rp_retz hX hr hlocks hS ((bI_0 (by rw [gbP]; simp [c5_1, c75_2, c99_3, c104_4])).symm) dX2_goesBefore_116
        · skip
          refine lv_iload_n hx hb dX2_goesBefore_107 rfl (lv_at hl 1 rfl) ?_
          refine lv_if_ge (tgt := 115) hx hb dX2_goesBefore_108 (by decide) (fun c108_5 => ?_) (fun c108_5 => ?_)
          · skip
            have c108_5 := i_nlt c108_5
            refine lv_iconst (v := 0) hx hb dX2_goesBefore_115 (by decide) ?_
            exact rp_retz hX hr hlocks hS ((bI_0 (by rw [gbP]; simp [c5_1, c75_2, c99_3, c104_4, c108_5])).symm) dX2_goesBefore_116
          · skip
            have c108_5 := i_lt c108_5
            refine lv_iconst (v := 1) hx hb dX2_goesBefore_111 (by decide) ?_
            refine lv_goto (tgt := 116) hx hb dX2_goesBefore_112 (by decide) ?_
            exact rp_retz hX hr hlocks hS ((bI_1 (by rw [gbP]; simp [c5_1, c75_2, c99_3, c104_4, c108_5])).symm) dX2_goesBefore_116
    · skip
      refine lv_iload_n hx hb dX2_goesBefore_78 rfl (lv_at hl 1 rfl) ?_
      refine lv_if_lt (tgt := 91) hx hb dX2_goesBefore_79 (by decide) (fun c79_6 => ?_) (fun c79_6 => ?_)
      · skip
        refine lv_iconst (v := 1) hx hb dX2_goesBefore_91 (by decide) ?_
        refine lv_goto (tgt := 96) hx hb dX2_goesBefore_92 (by decide) ?_
        exact rp_retz hX hr hlocks hS ((bI_1 (by rw [gbP]; simp [c5_1, c75_2, c79_6])).symm) dX2_goesBefore_96
      · skip
        refine lv_iload_n hx hb dX2_goesBefore_82 rfl (lv_at hl 1 rfl) ?_
        refine lv_if_ne (tgt := 95) hx hb dX2_goesBefore_83 (by decide) (fun c83_7 => ?_) (fun c83_7 => ?_)
        · skip
          refine lv_iconst (v := 0) hx hb dX2_goesBefore_95 (by decide) ?_
          exact rp_retz hX hr hlocks hS ((bI_0 (by rw [gbP]; simp [c5_1, c75_2, c79_6, c83_7])).symm) dX2_goesBefore_96
        · skip
          refine lv_iload hx hb dX2_goesBefore_86 (lv_at hl 0 rfl) ?_
          refine lv_if_ge (tgt := 95) hx hb dX2_goesBefore_88 (by decide) (fun c88_8 => ?_) (fun c88_8 => ?_)
          · skip
            have c88_8 := i_nlt c88_8
            refine lv_iconst (v := 0) hx hb dX2_goesBefore_95 (by decide) ?_
            exact rp_retz hX hr hlocks hS ((bI_0 (by rw [gbP]; simp [c5_1, c75_2, c79_6, c83_7, c88_8])).symm) dX2_goesBefore_96
          · skip
            have c88_8 := i_lt c88_8
            refine lv_iconst (v := 1) hx hb dX2_goesBefore_91 (by decide) ?_
            refine lv_goto (tgt := 96) hx hb dX2_goesBefore_92 (by decide) ?_
            exact rp_retz hX hr hlocks hS ((bI_1 (by rw [gbP]; simp [c5_1, c75_2, c79_6, c83_7, c88_8])).symm) dX2_goesBefore_96
  · skip
    refine lv_aload_n hx hb dX2_goesBefore_8 rfl (lv_at hl 0 rfl) ?_
    refine va_get (D := D) (ci := 2) (v := .ref fo) (C := RX2) (T := TX2) (N := 8) hx hb hts u6_X2 hown hK hP 0 rfl rfl 0 (by decide) (hts _ (m6 54 rfl)) (fun _ h9 => h9) rfl dX2_goesBefore_9 ?_
    refine lv_iload_n hx hb dX2_goesBefore_12 rfl (lv_at hl 1 rfl) ?_
    refine rq_callV hX good6 (m6 23 rfl) (c0_greatestMark l D cI fo a0 a1 a2 a3 a4 a5 a6 a7 kd ky vl mk wr lv nw fr B hB8 x) q0_greatestMark rfl (m6 147 rfl) (m6 148 rfl) (m6 149 rfl) ⟨Nat.le_of_ble_eq_true rfl, Nat.le_of_ble_eq_true rfl⟩ hK hN [0] rfl hP [1, 2, 3, 4, 5, 6, 7, 8, 9] rfl (ci := 0) (q0 := 0) rfl rfl rfl hS hl.1 rfl (Nat.le_of_ble_eq_true rfl) dX2_goesBefore_13 ⟨Nat.zero_le _, Nat.zero_le _⟩ (fun H locs hP hS => ?_)
    refine lv_aload_n hx hb dX2_goesBefore_16 rfl (lv_at hl 0 rfl) ?_
    refine va_get (D := D) (ci := 2) (v := .ref fo) (C := RX2) (T := TX2) (N := 8) hx hb hts u6_X2 hown hK hP 0 rfl rfl 0 (by decide) (hts _ (m6 54 rfl)) (fun _ h9 => h9) rfl dX2_goesBefore_17 ?_
    refine lv_iload_n hx hb dX2_goesBefore_20 rfl (lv_at hl 2 rfl) ?_
    refine rq_callV hX good6 (m6 23 rfl) (c0_greatestMark l D cI fo a0 a1 a2 a3 a4 a5 a6 a7 kd ky vl mk wr lv nw fr B hB8 y) q0_greatestMark rfl (m6 147 rfl) (m6 148 rfl) (m6 149 rfl) ⟨Nat.le_of_ble_eq_true rfl, Nat.le_of_ble_eq_true rfl⟩ hK hN [0] rfl hP [1, 2, 3, 4, 5, 6, 7, 8, 9] rfl (ci := 0) (q0 := 0) rfl rfl rfl hS hl.1 rfl (Nat.le_of_ble_eq_true rfl) dX2_goesBefore_21 ⟨Nat.zero_le _, Nat.zero_le _⟩ (fun H locs hP hS => ?_)
    refine lv_icmp_ge (tgt := 31) hx hb dX2_goesBefore_24 (by decide) (fun c24_9 => ?_) (fun c24_9 => ?_)
    · skip
      have c24_9 := i_nlt c24_9
      refine lv_iconst (v := 0) hx hb dX2_goesBefore_31 (by decide) ?_
      exact rp_retz hX hr hlocks hS ((bI_0 (by rw [gbP]; simp [c5_1, c24_9])).symm) dX2_goesBefore_32
    · skip
      have c24_9 := i_lt c24_9
      refine lv_iconst (v := 1) hx hb dX2_goesBefore_27 (by decide) ?_
      refine lv_goto (tgt := 32) hx hb dX2_goesBefore_28 (by decide) ?_
      exact rp_retz hX hr hlocks hS ((bI_1 (by rw [gbP]; simp [c5_1, c24_9])).symm) dX2_goesBefore_32
theorem dX2_chooseVictim_0 : decode cX2_chooseVictim 0 = .ok (.bipush (-9), 2) := by decide +kernel
theorem dX2_chooseVictim_2 : decode cX2_chooseVictim 2 = .ok (.istore_n 1, 1) := by decide +kernel
theorem dX2_chooseVictim_3 : decode cX2_chooseVictim 3 = .ok (.iconst 0, 1) := by decide +kernel
theorem dX2_chooseVictim_4 : decode cX2_chooseVictim 4 = .ok (.istore_n 2, 1) := by decide +kernel
theorem dX2_chooseVictim_5 : decode cX2_chooseVictim 5 = .ok (.iload_n 2, 1) := by decide +kernel
theorem dX2_chooseVictim_6 : decode cX2_chooseVictim 6 = .ok (.aload_n 0, 1) := by decide +kernel
theorem dX2_chooseVictim_7 : decode cX2_chooseVictim 7 = .ok (.getfield 12, 3) := by decide +kernel
theorem dX2_chooseVictim_10 : decode cX2_chooseVictim 10 = .ok (.getfield 61, 3) := by decide +kernel
theorem dX2_chooseVictim_13 : decode cX2_chooseVictim 13 = .ok (.if_icmp .ge 34, 3) := by decide +kernel
theorem dX2_chooseVictim_16 : decode cX2_chooseVictim 16 = .ok (.aload_n 0, 1) := by decide +kernel
theorem dX2_chooseVictim_17 : decode cX2_chooseVictim 17 = .ok (.iload_n 2, 1) := by decide +kernel
theorem dX2_chooseVictim_18 : decode cX2_chooseVictim 18 = .ok (.invokevirtual 87, 3) := by decide +kernel
theorem dX2_chooseVictim_21 : decode cX2_chooseVictim 21 = .ok (.ifCond .eq 20, 3) := by decide +kernel
theorem dX2_chooseVictim_24 : decode cX2_chooseVictim 24 = .ok (.iload_n 1, 1) := by decide +kernel
theorem dX2_chooseVictim_25 : decode cX2_chooseVictim 25 = .ok (.bipush (-9), 2) := by decide +kernel
theorem dX2_chooseVictim_27 : decode cX2_chooseVictim 27 = .ok (.if_icmp .eq 12, 3) := by decide +kernel
theorem dX2_chooseVictim_30 : decode cX2_chooseVictim 30 = .ok (.aload_n 0, 1) := by decide +kernel
theorem dX2_chooseVictim_31 : decode cX2_chooseVictim 31 = .ok (.iload_n 2, 1) := by decide +kernel
theorem dX2_chooseVictim_32 : decode cX2_chooseVictim 32 = .ok (.iload_n 1, 1) := by decide +kernel
theorem dX2_chooseVictim_33 : decode cX2_chooseVictim 33 = .ok (.invokevirtual 103, 3) := by decide +kernel
theorem dX2_chooseVictim_36 : decode cX2_chooseVictim 36 = .ok (.ifCond .eq 5, 3) := by decide +kernel
theorem dX2_chooseVictim_39 : decode cX2_chooseVictim 39 = .ok (.iload_n 2, 1) := by decide +kernel
theorem dX2_chooseVictim_40 : decode cX2_chooseVictim 40 = .ok (.istore_n 1, 1) := by decide +kernel
theorem dX2_chooseVictim_41 : decode cX2_chooseVictim 41 = .ok (.iinc 2 1, 3) := by decide +kernel
theorem dX2_chooseVictim_44 : decode cX2_chooseVictim 44 = .ok (.goto (-39), 3) := by decide +kernel
theorem dX2_chooseVictim_47 : decode cX2_chooseVictim 47 = .ok (.iload_n 1, 1) := by decide +kernel
theorem dX2_chooseVictim_48 : decode cX2_chooseVictim 48 = .ok (.ireturn, 1) := by decide +kernel
theorem q2_chooseVictim : CQ W6 yX2_chooseVictim cX2_chooseVictim 3 (some .int) 0 := ⟨(m6 202 rfl), by decide, by decide, by decide +kernel⟩
set_option maxHeartbeats 4000000 in
set_option maxRecDepth 100000 in
theorem c2_chooseVictim (l : Launch) (D : va_G) (cI : ClassId) (lo fo a0 a1 a2 a3 a4 a5 a6 a7 ta : Nat) (on : Bool) (po cu li op nm : Int32) (kd ky vl mk wr lv nw fr : Nat → Int32) (B : Nat) (hB8 : B ≤ 8) (tp tw9 tc te tk xa xe xs : Int32)  : RQ l yX2_chooseVictim cX2_chooseVictim 3 .int W6 2 47 D [(lo, .inr (2, [.ref fo, .ref ta, .int (bI (on = true)), .int (po), .int (cu), .int (li), .int (op), .int (nm)])), (fo, .inr (0, [.ref a0, .ref a1, .ref a2, .ref a3, .ref a4, .ref a5, .ref a6, .ref a7, .int (nI (B))])), (a0, .inl (cI, 32, .inl kd)), (a1, .inl (cI, 32, .inl ky)), (a2, .inl (cI, 32, .inl vl)), (a3, .inl (cI, 32, .inl mk)), (a4, .inl (cI, 8, .inl wr)), (a5, .inl (cI, 32, .inl lv)), (a6, .inl (cI, 16, .inl nw)), (a7, .inl (cI, 8, .inl fr)), (ta, .inr (5, [.int (tp), .int (tw9), .int (tc), .int (te), .int (tk), .int (xa), .int (xe), .int (xs)]))] [(cI, .int)] [.ref lo] (oI (cvF kd mk wr lv fr B on li op po B)) := by
  refine rq_of RX2 (by decide) rfl (Nat.le_of_ble_eq_true rfl) ?_
  intro p e s m below meth c ls hX hr hlocks hK hN hP hS hl
  have hx := hX.1
  have hb := hX.2.1
  have hown := hX.2.2.2.1
  have hts := hX.2.2.2.2
  have hl : lv_has ls 3 [(0, .ref lo)] := hl
  refine lv_bipush (v := (-9)) hx hb dX2_chooseVictim_0 (by decide) ?_
  refine lv_istore_n (lv' := [(1, .int ((-9))), (0, .ref lo)]) hx hb dX2_chooseVictim_2 rfl hl (by decide) rfl (fun ls hl => ?_)
  refine lv_iconst (v := 0) hx hb dX2_chooseVictim_3 (by decide) ?_
  refine lv_istore_n (lv' := [(2, .int (0)), (1, .int ((-9))), (0, .ref lo)]) hx hb dX2_chooseVictim_4 rfl hl (by decide) rfl (fun ls hl => ?_)
  have LP5 : ∀ n9 : Nat, ∀ (j : Nat), (hj : j ≤ B) → B - j < n9 → ∀ (H : Heap) (locs : List Loc), va_P D vwCl [(lo, .inr (2, [.ref fo, .ref ta, .int (bI (on = true)), .int (po), .int (cu), .int (li), .int (op), .int (nm)])), (fo, .inr (0, [.ref a0, .ref a1, .ref a2, .ref a3, .ref a4, .ref a5, .ref a6, .ref a7, .int (nI (B))])), (a0, .inl (cI, 32, .inl kd)), (a1, .inl (cI, 32, .inl ky)), (a2, .inl (cI, 32, .inl vl)), (a3, .inl (cI, 32, .inl mk)), (a4, .inl (cI, 8, .inl wr)), (a5, .inl (cI, 32, .inl lv)), (a6, .inl (cI, 16, .inl nw)), (a7, .inl (cI, 8, .inl fr)), (ta, .inr (5, [.int (tp), .int (tw9), .int (tc), .int (te), .int (tk), .int (xa), .int (xe), .int (xs)]))] H → va_S (fun _ => False) s.heap H locs → ∀ ls : Array Slot, lv_has ls 3 [(0, .ref lo), (1, .int (oI (cvF kd mk wr lv fr B on li op po j))), (2, .int (nI (j)))] → W p l e ({ frames := 2, cells := 0, slots := 0, locals := 47 } : Room) s m ([.ref lo] : List Value).toArray below meth c H locs 0 0 (MQ below (rp_Qi (oI (cvF kd mk wr lv fr B on li op po B))) ([.ref lo] : List Value).toArray s 0 0 (fun _ => False)) (F0 m 5 ls []) := by
    intro n9
    induction n9 with
    | zero => intros; omega
    | succ n9 ih5 =>
      intro j hj hm9 H locs hP hS ls hl
      refine lv_iload_n hx hb dX2_chooseVictim_5 rfl (lv_at hl 2 rfl) ?_
      refine lv_aload_n hx hb dX2_chooseVictim_6 rfl (lv_at hl 0 rfl) ?_
      refine va_get (D := D) (ci := 2) (v := .ref fo) (C := RX2) (T := TX2) (N := 8) hx hb hts u6_X2 hown hK hP 0 rfl rfl 0 (by decide) (hts _ (m6 54 rfl)) (fun _ h9 => h9) rfl dX2_chooseVictim_7 ?_
      refine va_get (D := D) (ci := 0) (v := .int (nI (B))) (C := RX0) (T := TX0) (N := 9) hx hb hts u6_X0 hown hK hP 1 rfl rfl 8 (by decide) (hts _ (m6 108 rfl)) (fun _ h9 => h9) rfl dX2_chooseVictim_10 ?_
      refine lv_icmp_ge (tgt := 47) hx hb dX2_chooseVictim_13 (by decide) (fun c13_1 => ?_) (fun c13_1 => ?_)
      · skip
        have c13_1 := cn_le (a := B) (b := j) (by omega) (by omega) c13_1
        refine lv_iload_n hx hb dX2_chooseVictim_47 rfl (lv_at hl 1 rfl) ?_
        exact rp_ret hX hr hlocks hS (by rw [show j = B by omega]) dX2_chooseVictim_48
      · skip
        have c13_1 := cn_nle (a := B) (b := j) (by omega) (by omega) c13_1
        rcases hO2 : cvF kd mk wr lv fr B on li op po j with _ | o2
        · skip
          have hl : lv_has ls 3 [(0, .ref lo), (1, .int ((-9))), (2, .int (nI (j)))] := by rw [hO2] at hl; exact hl
          refine lv_aload_n hx hb dX2_chooseVictim_16 rfl (lv_at hl 0 rfl) ?_
          refine lv_iload_n hx hb dX2_chooseVictim_17 rfl (lv_at hl 2 rfl) ?_
          refine rq_callV hX good6 (m6 83 rfl) (c2_canBeVictim l D cI lo fo a0 a1 a2 a3 a4 a5 a6 a7 ta on po cu li op nm kd ky vl mk wr lv nw fr B hB8 tp tw9 tc te tk xa xe xs (nI (j))) q2_canBeVictim rfl (m6 143 rfl) (m6 144 rfl) (m6 145 rfl) ⟨Nat.le_of_ble_eq_true rfl, Nat.le_of_ble_eq_true rfl⟩ hK hN [0] rfl hP [0, 1, 2, 3, 4, 5, 6, 7, 8, 9, 10] rfl (ci := 2) (q0 := 0) rfl rfl rfl hS hl.1 rfl (Nat.le_of_ble_eq_true rfl) dX2_chooseVictim_18 ⟨Nat.zero_le _, Nat.zero_le _⟩ (fun H locs hP hS => ?_)
          refine lv_if_eq (tgt := 41) hx hb dX2_chooseVictim_21 (by decide) (fun c21_3 => ?_) (fun c21_3 => ?_)
          · skip
            have c21_3 := bI_f c21_3
            refine lv_iinc (v := nI (j + 1)) (lv' := [(2, .int (nI (j + 1))), (0, .ref lo), (1, .int ((-9)))]) hx hb dX2_chooseVictim_41 hl (k := 2) rfl (nI_add _ 1) (by decide) rfl (fun ls hl => ?_)
            refine lv_goto (tgt := 5) hx hb dX2_chooseVictim_44 (by decide) ?_
            have hl : lv_has ls 3 [(2, .int (nI (j + 1))), (0, .ref lo), (1, .int (oI (cvF kd mk wr lv fr B on li op po (j + 1))))] := lv_re hl 2 rfl (show (-9) = oI (cvF kd mk wr lv fr B on li op po (j + 1)) from by rw [cvF, hO2]; dsimp only; rw [if_neg c21_3]; rfl)
            have hl : lv_has ls 3 [(2, .int (nI ((j + 1)))), (0, .ref lo), (1, .int (oI (cvF kd mk wr lv fr B on li op po (j + 1))))] := lv_re hl 0 rfl (show (nI (j + 1)) = nI ((j + 1)) from rfl)
            exact ih5 (j + 1) (by omega) (by omega) _ _ hP hS _ (lv_sub hl [1, 2, 0] rfl)
          · skip
            have c21_3 := bI_t c21_3
            refine lv_iload_n hx hb dX2_chooseVictim_24 rfl (lv_at hl 1 rfl) ?_
            refine lv_bipush (v := (-9)) hx hb dX2_chooseVictim_25 (by decide) ?_
            refine lv_icmp_eq (tgt := 39) hx hb dX2_chooseVictim_27 (by decide) (fun c27_4 => ?_) (fun c27_4 => ?_)
            · skip
              refine lv_iload_n hx hb dX2_chooseVictim_39 rfl (lv_at hl 2 rfl) ?_
              refine lv_istore_n (lv' := [(1, .int (nI (j))), (0, .ref lo), (2, .int (nI (j)))]) hx hb dX2_chooseVictim_40 rfl hl (by decide) rfl (fun ls hl => ?_)
              refine lv_iinc (v := nI (j + 1)) (lv' := [(2, .int (nI (j + 1))), (1, .int (nI (j))), (0, .ref lo)]) hx hb dX2_chooseVictim_41 hl (k := 2) rfl (nI_add _ 1) (by decide) rfl (fun ls hl => ?_)
              refine lv_goto (tgt := 5) hx hb dX2_chooseVictim_44 (by decide) ?_
              have hl : lv_has ls 3 [(2, .int (nI (j + 1))), (1, .int (oI (cvF kd mk wr lv fr B on li op po (j + 1)))), (0, .ref lo)] := lv_re hl 1 rfl (show (nI (j)) = oI (cvF kd mk wr lv fr B on li op po (j + 1)) from by rw [cvF, hO2]; dsimp only; rw [if_pos c21_3]; rfl)
              have hl : lv_has ls 3 [(2, .int (nI ((j + 1)))), (1, .int (oI (cvF kd mk wr lv fr B on li op po (j + 1)))), (0, .ref lo)] := lv_re hl 0 rfl (show (nI (j + 1)) = nI ((j + 1)) from rfl)
              exact ih5 (j + 1) (by omega) (by omega) _ _ hP hS _ (lv_sub hl [2, 1, 0] rfl)
            · skip
              exact absurd c27_4 (by decide)
        · skip
          have hl : lv_has ls 3 [(0, .ref lo), (1, .int (nI (o2))), (2, .int (nI (j)))] := by rw [hO2] at hl; exact hl
          have ho2 := cvF_lt hO2
          refine lv_aload_n hx hb dX2_chooseVictim_16 rfl (lv_at hl 0 rfl) ?_
          refine lv_iload_n hx hb dX2_chooseVictim_17 rfl (lv_at hl 2 rfl) ?_
          refine rq_callV hX good6 (m6 83 rfl) (c2_canBeVictim l D cI lo fo a0 a1 a2 a3 a4 a5 a6 a7 ta on po cu li op nm kd ky vl mk wr lv nw fr B hB8 tp tw9 tc te tk xa xe xs (nI (j))) q2_canBeVictim rfl (m6 143 rfl) (m6 144 rfl) (m6 145 rfl) ⟨Nat.le_of_ble_eq_true rfl, Nat.le_of_ble_eq_true rfl⟩ hK hN [0] rfl hP [0, 1, 2, 3, 4, 5, 6, 7, 8, 9, 10] rfl (ci := 2) (q0 := 0) rfl rfl rfl hS hl.1 rfl (Nat.le_of_ble_eq_true rfl) dX2_chooseVictim_18 ⟨Nat.zero_le _, Nat.zero_le _⟩ (fun H locs hP hS => ?_)
          refine lv_if_eq (tgt := 41) hx hb dX2_chooseVictim_21 (by decide) (fun c21_5 => ?_) (fun c21_5 => ?_)
          · skip
            have c21_5 := bI_f c21_5
            refine lv_iinc (v := nI (j + 1)) (lv' := [(2, .int (nI (j + 1))), (0, .ref lo), (1, .int (nI (o2)))]) hx hb dX2_chooseVictim_41 hl (k := 2) rfl (nI_add _ 1) (by decide) rfl (fun ls hl => ?_)
            refine lv_goto (tgt := 5) hx hb dX2_chooseVictim_44 (by decide) ?_
            have hl : lv_has ls 3 [(2, .int (nI (j + 1))), (0, .ref lo), (1, .int (oI (cvF kd mk wr lv fr B on li op po (j + 1))))] := lv_re hl 2 rfl (show (nI (o2)) = oI (cvF kd mk wr lv fr B on li op po (j + 1)) from by rw [cvF, hO2]; dsimp only; rw [if_neg (fun z => c21_5 z.1)]; rfl)
            have hl : lv_has ls 3 [(2, .int (nI ((j + 1)))), (0, .ref lo), (1, .int (oI (cvF kd mk wr lv fr B on li op po (j + 1))))] := lv_re hl 0 rfl (show (nI (j + 1)) = nI ((j + 1)) from rfl)
            exact ih5 (j + 1) (by omega) (by omega) _ _ hP hS _ (lv_sub hl [1, 2, 0] rfl)
          · skip
            have c21_5 := bI_t c21_5
            refine lv_iload_n hx hb dX2_chooseVictim_24 rfl (lv_at hl 1 rfl) ?_
            refine lv_bipush (v := (-9)) hx hb dX2_chooseVictim_25 (by decide) ?_
            refine lv_icmp_eq (tgt := 39) hx hb dX2_chooseVictim_27 (by decide) (fun c27_6 => ?_) (fun c27_6 => ?_)
            · skip
              exact absurd c27_6 (oI_ne (by omega))
            · skip
              refine lv_aload_n hx hb dX2_chooseVictim_30 rfl (lv_at hl 0 rfl) ?_
              refine lv_iload_n hx hb dX2_chooseVictim_31 rfl (lv_at hl 2 rfl) ?_
              refine lv_iload_n hx hb dX2_chooseVictim_32 rfl (lv_at hl 1 rfl) ?_
              refine rq_callV hX good6 (m6 83 rfl) (c2_goesBefore l D cI lo fo a0 a1 a2 a3 a4 a5 a6 a7 ta on po cu li op nm kd ky vl mk wr lv nw fr B hB8 tp tw9 tc te tk xa xe xs (nI (j)) (nI (o2))) q2_goesBefore rfl (m6 151 rfl) (m6 152 rfl) (m6 153 rfl) ⟨Nat.le_of_ble_eq_true rfl, Nat.le_of_ble_eq_true rfl⟩ hK hN [0] rfl hP [0, 1, 2, 3, 4, 5, 6, 7, 8, 9, 10] rfl (ci := 2) (q0 := 0) rfl rfl rfl hS hl.1 rfl (Nat.le_of_ble_eq_true rfl) dX2_chooseVictim_33 ⟨Nat.zero_le _, Nat.zero_le _⟩ (fun H locs hP hS => ?_)
              refine lv_if_eq (tgt := 41) hx hb dX2_chooseVictim_36 (by decide) (fun c36_7 => ?_) (fun c36_7 => ?_)
              · skip
                have c36_7 := bI_f c36_7
                refine lv_iinc (v := nI (j + 1)) (lv' := [(2, .int (nI (j + 1))), (0, .ref lo), (1, .int (nI (o2)))]) hx hb dX2_chooseVictim_41 hl (k := 2) rfl (nI_add _ 1) (by decide) rfl (fun ls hl => ?_)
                refine lv_goto (tgt := 5) hx hb dX2_chooseVictim_44 (by decide) ?_
                have hl : lv_has ls 3 [(2, .int (nI (j + 1))), (0, .ref lo), (1, .int (oI (cvF kd mk wr lv fr B on li op po (j + 1))))] := lv_re hl 2 rfl (show (nI (o2)) = oI (cvF kd mk wr lv fr B on li op po (j + 1)) from by rw [cvF, hO2]; dsimp only; rw [if_neg (fun z => c36_7 z.2)]; rfl)
                have hl : lv_has ls 3 [(2, .int (nI ((j + 1)))), (0, .ref lo), (1, .int (oI (cvF kd mk wr lv fr B on li op po (j + 1))))] := lv_re hl 0 rfl (show (nI (j + 1)) = nI ((j + 1)) from rfl)
                exact ih5 (j + 1) (by omega) (by omega) _ _ hP hS _ (lv_sub hl [1, 2, 0] rfl)
              · skip
                have c36_7 := bI_t c36_7
                refine lv_iload_n hx hb dX2_chooseVictim_39 rfl (lv_at hl 2 rfl) ?_
                refine lv_istore_n (lv' := [(1, .int (nI (j))), (0, .ref lo), (2, .int (nI (j)))]) hx hb dX2_chooseVictim_40 rfl hl (by decide) rfl (fun ls hl => ?_)
                refine lv_iinc (v := nI (j + 1)) (lv' := [(2, .int (nI (j + 1))), (1, .int (nI (j))), (0, .ref lo)]) hx hb dX2_chooseVictim_41 hl (k := 2) rfl (nI_add _ 1) (by decide) rfl (fun ls hl => ?_)
                refine lv_goto (tgt := 5) hx hb dX2_chooseVictim_44 (by decide) ?_
                have hl : lv_has ls 3 [(2, .int (nI (j + 1))), (1, .int (oI (cvF kd mk wr lv fr B on li op po (j + 1)))), (0, .ref lo)] := lv_re hl 1 rfl (show (nI (j)) = oI (cvF kd mk wr lv fr B on li op po (j + 1)) from by rw [cvF, hO2]; dsimp only; rw [if_pos ⟨c21_5, c36_7⟩]; rfl)
                have hl : lv_has ls 3 [(2, .int (nI ((j + 1)))), (1, .int (oI (cvF kd mk wr lv fr B on li op po (j + 1)))), (0, .ref lo)] := lv_re hl 0 rfl (show (nI (j + 1)) = nI ((j + 1)) from rfl)
                exact ih5 (j + 1) (by omega) (by omega) _ _ hP hS _ (lv_sub hl [2, 1, 0] rfl)
  have hl : lv_has ls 3 [(2, .int (0)), (1, .int (oI (cvF kd mk wr lv fr B on li op po 0))), (0, .ref lo)] := lv_re hl 1 rfl (show (-9) = oI (cvF kd mk wr lv fr B on li op po 0) from rfl)
  have hl : lv_has ls 3 [(2, .int (nI (0))), (1, .int (oI (cvF kd mk wr lv fr B on li op po 0))), (0, .ref lo)] := lv_re hl 0 rfl (show 0 = nI (0) from rfl)
  exact LP5 ((B - 0) + 1) 0 (by omega) (by omega) _ _ hP hS _ (lv_sub hl [2, 1, 0] rfl)
theorem dX2_hasSomethingToSweep_0 : decode cX2_hasSomethingToSweep 0 = .ok (.iconst 0, 1) := by decide +kernel
theorem dX2_hasSomethingToSweep_1 : decode cX2_hasSomethingToSweep 1 = .ok (.istore_n 1, 1) := by decide +kernel
theorem dX2_hasSomethingToSweep_2 : decode cX2_hasSomethingToSweep 2 = .ok (.iload_n 1, 1) := by decide +kernel
theorem dX2_hasSomethingToSweep_3 : decode cX2_hasSomethingToSweep 3 = .ok (.aload_n 0, 1) := by decide +kernel
theorem dX2_hasSomethingToSweep_4 : decode cX2_hasSomethingToSweep 4 = .ok (.getfield 12, 3) := by decide +kernel
theorem dX2_hasSomethingToSweep_7 : decode cX2_hasSomethingToSweep 7 = .ok (.getfield 61, 3) := by decide +kernel
theorem dX2_hasSomethingToSweep_10 : decode cX2_hasSomethingToSweep 10 = .ok (.if_icmp .ge 30, 3) := by decide +kernel
theorem dX2_hasSomethingToSweep_13 : decode cX2_hasSomethingToSweep 13 = .ok (.iload_n 1, 1) := by decide +kernel
theorem dX2_hasSomethingToSweep_14 : decode cX2_hasSomethingToSweep 14 = .ok (.aload_n 0, 1) := by decide +kernel
theorem dX2_hasSomethingToSweep_15 : decode cX2_hasSomethingToSweep 15 = .ok (.getfield 48, 3) := by decide +kernel
theorem dX2_hasSomethingToSweep_18 : decode cX2_hasSomethingToSweep 18 = .ok (.if_icmp .eq 16, 3) := by decide +kernel
theorem dX2_hasSomethingToSweep_21 : decode cX2_hasSomethingToSweep 21 = .ok (.aload_n 0, 1) := by decide +kernel
theorem dX2_hasSomethingToSweep_22 : decode cX2_hasSomethingToSweep 22 = .ok (.getfield 12, 3) := by decide +kernel
theorem dX2_hasSomethingToSweep_25 : decode cX2_hasSomethingToSweep 25 = .ok (.iload_n 1, 1) := by decide +kernel
theorem dX2_hasSomethingToSweep_26 : decode cX2_hasSomethingToSweep 26 = .ok (.invokevirtual 100, 3) := by decide +kernel
theorem dX2_hasSomethingToSweep_29 : decode cX2_hasSomethingToSweep 29 = .ok (.ifCond .eq 5, 3) := by decide +kernel
theorem dX2_hasSomethingToSweep_32 : decode cX2_hasSomethingToSweep 32 = .ok (.iconst 1, 1) := by decide +kernel
theorem dX2_hasSomethingToSweep_33 : decode cX2_hasSomethingToSweep 33 = .ok (.ireturn, 1) := by decide +kernel
theorem dX2_hasSomethingToSweep_34 : decode cX2_hasSomethingToSweep 34 = .ok (.iinc 1 1, 3) := by decide +kernel
theorem dX2_hasSomethingToSweep_37 : decode cX2_hasSomethingToSweep 37 = .ok (.goto (-35), 3) := by decide +kernel
theorem dX2_hasSomethingToSweep_40 : decode cX2_hasSomethingToSweep 40 = .ok (.iconst 0, 1) := by decide +kernel
theorem dX2_hasSomethingToSweep_41 : decode cX2_hasSomethingToSweep 41 = .ok (.ireturn, 1) := by decide +kernel
theorem q2_hasSomethingToSweep : CQ W6 yX2_hasSomethingToSweep cX2_hasSomethingToSweep 2 (some .boolean) 0 := ⟨(m6 380 rfl), by decide, by decide, by decide +kernel⟩
set_option maxHeartbeats 4000000 in
set_option maxRecDepth 100000 in
theorem c2_hasSomethingToSweep (l : Launch) (D : va_G) (cI : ClassId) (lo fo a0 a1 a2 a3 a4 a5 a6 a7 ta : Nat) (on : Bool) (po cu li op nm : Int32) (kd ky vl mk wr lv nw fr : Nat → Int32) (B : Nat) (hB8 : B ≤ 8) (tp tw9 tc te tk xa xe xs : Int32)  : RQ l yX2_hasSomethingToSweep cX2_hasSomethingToSweep 2 .boolean W6 1 22 D [(lo, .inr (2, [.ref fo, .ref ta, .int (bI (on = true)), .int (po), .int (cu), .int (li), .int (op), .int (nm)])), (fo, .inr (0, [.ref a0, .ref a1, .ref a2, .ref a3, .ref a4, .ref a5, .ref a6, .ref a7, .int (nI (B))])), (a0, .inl (cI, 32, .inl kd)), (a1, .inl (cI, 32, .inl ky)), (a2, .inl (cI, 32, .inl vl)), (a3, .inl (cI, 32, .inl mk)), (a4, .inl (cI, 8, .inl wr)), (a5, .inl (cI, 32, .inl lv)), (a6, .inl (cI, 16, .inl nw)), (a7, .inl (cI, 8, .inl fr)), (ta, .inr (5, [.int (tp), .int (tw9), .int (tc), .int (te), .int (tk), .int (xa), .int (xe), .int (xs)]))] [(cI, .int)] [.ref lo] (bI (hsF kd lv op B = true)) := by
  refine rq_of RX2 (by decide) rfl (Nat.le_of_ble_eq_true rfl) ?_
  intro p e s m below meth c ls hX hr hlocks hK hN hP hS hl
  have hx := hX.1
  have hb := hX.2.1
  have hown := hX.2.2.2.1
  have hts := hX.2.2.2.2
  have hl : lv_has ls 2 [(0, .ref lo)] := hl
  refine lv_iconst (v := 0) hx hb dX2_hasSomethingToSweep_0 (by decide) ?_
  refine lv_istore_n (lv' := [(1, .int (0)), (0, .ref lo)]) hx hb dX2_hasSomethingToSweep_1 rfl hl (by decide) rfl (fun ls hl => ?_)
  have LP2 : ∀ n9 : Nat, ∀ (j : Nat), (hj : j ≤ B) → (hq : hsF kd lv op j = false) → B - j < n9 → ∀ (H : Heap) (locs : List Loc), va_P D vwCl [(lo, .inr (2, [.ref fo, .ref ta, .int (bI (on = true)), .int (po), .int (cu), .int (li), .int (op), .int (nm)])), (fo, .inr (0, [.ref a0, .ref a1, .ref a2, .ref a3, .ref a4, .ref a5, .ref a6, .ref a7, .int (nI (B))])), (a0, .inl (cI, 32, .inl kd)), (a1, .inl (cI, 32, .inl ky)), (a2, .inl (cI, 32, .inl vl)), (a3, .inl (cI, 32, .inl mk)), (a4, .inl (cI, 8, .inl wr)), (a5, .inl (cI, 32, .inl lv)), (a6, .inl (cI, 16, .inl nw)), (a7, .inl (cI, 8, .inl fr)), (ta, .inr (5, [.int (tp), .int (tw9), .int (tc), .int (te), .int (tk), .int (xa), .int (xe), .int (xs)]))] H → va_S (fun _ => False) s.heap H locs → ∀ ls : Array Slot, lv_has ls 2 [(0, .ref lo), (1, .int (nI (j)))] → W p l e ({ frames := 1, cells := 0, slots := 0, locals := 22 } : Room) s m ([.ref lo] : List Value).toArray below meth c H locs 0 0 (MQ below (rp_Qi (bI (hsF kd lv op B = true))) ([.ref lo] : List Value).toArray s 0 0 (fun _ => False)) (F0 m 2 ls []) := by
    intro n9
    induction n9 with
    | zero => intros; omega
    | succ n9 ih2 =>
      intro j hj hq hm9 H locs hP hS ls hl
      refine lv_iload_n hx hb dX2_hasSomethingToSweep_2 rfl (lv_at hl 1 rfl) ?_
      refine lv_aload_n hx hb dX2_hasSomethingToSweep_3 rfl (lv_at hl 0 rfl) ?_
      refine va_get (D := D) (ci := 2) (v := .ref fo) (C := RX2) (T := TX2) (N := 8) hx hb hts u6_X2 hown hK hP 0 rfl rfl 0 (by decide) (hts _ (m6 54 rfl)) (fun _ h9 => h9) rfl dX2_hasSomethingToSweep_4 ?_
      refine va_get (D := D) (ci := 0) (v := .int (nI (B))) (C := RX0) (T := TX0) (N := 9) hx hb hts u6_X0 hown hK hP 1 rfl rfl 8 (by decide) (hts _ (m6 108 rfl)) (fun _ h9 => h9) rfl dX2_hasSomethingToSweep_7 ?_
      refine lv_icmp_ge (tgt := 40) hx hb dX2_hasSomethingToSweep_10 (by decide) (fun c10_1 => ?_) (fun c10_1 => ?_)
      · skip
        have c10_1 := cn_le (a := B) (b := j) (by omega) (by omega) c10_1
        refine lv_iconst (v := 0) hx hb dX2_hasSomethingToSweep_40 (by decide) ?_
        exact rp_retz hX hr hlocks hS ((bI_0 (fun z => by rw [← show j = B by omega, hq] at z; cases z)).symm) dX2_hasSomethingToSweep_41
      · skip
        have c10_1 := cn_nle (a := B) (b := j) (by omega) (by omega) c10_1
        refine lv_iload_n hx hb dX2_hasSomethingToSweep_13 rfl (lv_at hl 1 rfl) ?_
        refine lv_aload_n hx hb dX2_hasSomethingToSweep_14 rfl (lv_at hl 0 rfl) ?_
        refine va_get (D := D) (ci := 2) (v := .int (op)) (C := RX2) (T := TX2) (N := 8) hx hb hts u6_X2 hown hK hP 0 rfl rfl 6 (by decide) (hts _ (m6 60 rfl)) (fun _ h9 => h9) rfl dX2_hasSomethingToSweep_15 ?_
        refine lv_icmp_eq (tgt := 34) hx hb dX2_hasSomethingToSweep_18 (by decide) (fun c18_2 => ?_) (fun c18_2 => ?_)
        · skip
          refine lv_iinc (v := nI (j + 1)) (lv' := [(1, .int (nI (j + 1))), (0, .ref lo)]) hx hb dX2_hasSomethingToSweep_34 hl (k := 1) rfl (nI_add _ 1) (by decide) rfl (fun ls hl => ?_)
          refine lv_goto (tgt := 2) hx hb dX2_hasSomethingToSweep_37 (by decide) ?_
          have hl : lv_has ls 2 [(1, .int (nI ((j + 1)))), (0, .ref lo)] := lv_re hl 0 rfl (show (nI (j + 1)) = nI ((j + 1)) from rfl)
          exact ih2 (j + 1) (by omega) (by rw [hsF, hq, decide_eq_false (fun z => z.1 c18_2)]; rfl) (by omega) _ _ hP hS _ (lv_sub hl [1, 0] rfl)
        · skip
          refine lv_aload_n hx hb dX2_hasSomethingToSweep_21 rfl (lv_at hl 0 rfl) ?_
          refine va_get (D := D) (ci := 2) (v := .ref fo) (C := RX2) (T := TX2) (N := 8) hx hb hts u6_X2 hown hK hP 0 rfl rfl 0 (by decide) (hts _ (m6 54 rfl)) (fun _ h9 => h9) rfl dX2_hasSomethingToSweep_22 ?_
          refine lv_iload_n hx hb dX2_hasSomethingToSweep_25 rfl (lv_at hl 1 rfl) ?_
          refine rq_callV hX good6 (m6 23 rfl) (c0_hasTornOrDead l D cI fo a0 a1 a2 a3 a4 a5 a6 a7 kd ky vl mk wr lv nw fr B hB8 (nI (j))) q0_hasTornOrDead rfl (m6 127 rfl) (m6 128 rfl) (m6 129 rfl) ⟨Nat.le_of_ble_eq_true rfl, Nat.le_of_ble_eq_true rfl⟩ hK hN [0] rfl hP [1, 2, 3, 4, 5, 6, 7, 8, 9] rfl (ci := 0) (q0 := 0) rfl rfl rfl hS hl.1 rfl (Nat.le_of_ble_eq_true rfl) dX2_hasSomethingToSweep_26 ⟨Nat.zero_le _, Nat.zero_le _⟩ (fun H locs hP hS => ?_)
          refine lv_if_eq (tgt := 34) hx hb dX2_hasSomethingToSweep_29 (by decide) (fun c29_3 => ?_) (fun c29_3 => ?_)
          · skip
            have c29_3 := bI_f c29_3
            refine lv_iinc (v := nI (j + 1)) (lv' := [(1, .int (nI (j + 1))), (0, .ref lo)]) hx hb dX2_hasSomethingToSweep_34 hl (k := 1) rfl (nI_add _ 1) (by decide) rfl (fun ls hl => ?_)
            refine lv_goto (tgt := 2) hx hb dX2_hasSomethingToSweep_37 (by decide) ?_
            have hl : lv_has ls 2 [(1, .int (nI ((j + 1)))), (0, .ref lo)] := lv_re hl 0 rfl (show (nI (j + 1)) = nI ((j + 1)) from rfl)
            exact ih2 (j + 1) (by omega) (by rw [hsF, hq, decide_eq_false (fun z => c29_3 z.2)]; rfl) (by omega) _ _ hP hS _ (lv_sub hl [1, 0] rfl)
          · skip
            have c29_3 := bI_t c29_3
            refine lv_iconst (v := 1) hx hb dX2_hasSomethingToSweep_32 (by decide) ?_
            exact rp_retz hX hr hlocks hS ((bI_1 (hsF_at (j := j) c10_1 ⟨c18_2, c29_3⟩)).symm) dX2_hasSomethingToSweep_33
  have hl : lv_has ls 2 [(1, .int (nI (0))), (0, .ref lo)] := lv_re hl 0 rfl (show 0 = nI (0) from rfl)
  exact LP2 ((B - 0) + 1) 0 (by omega) (rfl) (by omega) _ _ hP hS _ (lv_sub hl [1, 0] rfl)
theorem dX2_wearSpread_0 : decode cX2_wearSpread 0 = .ok (.aload_n 0, 1) := by decide +kernel
theorem dX2_wearSpread_1 : decode cX2_wearSpread 1 = .ok (.getfield 12, 3) := by decide +kernel
theorem dX2_wearSpread_4 : decode cX2_wearSpread 4 = .ok (.iconst 0, 1) := by decide +kernel
theorem dX2_wearSpread_5 : decode cX2_wearSpread 5 = .ok (.invokevirtual 75, 3) := by decide +kernel
theorem dX2_wearSpread_8 : decode cX2_wearSpread 8 = .ok (.istore_n 1, 1) := by decide +kernel
theorem dX2_wearSpread_9 : decode cX2_wearSpread 9 = .ok (.iload_n 1, 1) := by decide +kernel
theorem dX2_wearSpread_10 : decode cX2_wearSpread 10 = .ok (.istore_n 2, 1) := by decide +kernel
theorem dX2_wearSpread_11 : decode cX2_wearSpread 11 = .ok (.iconst 1, 1) := by decide +kernel
theorem dX2_wearSpread_12 : decode cX2_wearSpread 12 = .ok (.istore_n 3, 1) := by decide +kernel
theorem dX2_wearSpread_13 : decode cX2_wearSpread 13 = .ok (.iload_n 3, 1) := by decide +kernel
theorem dX2_wearSpread_14 : decode cX2_wearSpread 14 = .ok (.aload_n 0, 1) := by decide +kernel
theorem dX2_wearSpread_15 : decode cX2_wearSpread 15 = .ok (.getfield 12, 3) := by decide +kernel
theorem dX2_wearSpread_18 : decode cX2_wearSpread 18 = .ok (.getfield 61, 3) := by decide +kernel
theorem dX2_wearSpread_21 : decode cX2_wearSpread 21 = .ok (.if_icmp .ge 35, 3) := by decide +kernel
theorem dX2_wearSpread_24 : decode cX2_wearSpread 24 = .ok (.iload_n 1, 1) := by decide +kernel
theorem dX2_wearSpread_25 : decode cX2_wearSpread 25 = .ok (.aload_n 0, 1) := by decide +kernel
theorem dX2_wearSpread_26 : decode cX2_wearSpread 26 = .ok (.getfield 12, 3) := by decide +kernel
theorem dX2_wearSpread_29 : decode cX2_wearSpread 29 = .ok (.iload_n 3, 1) := by decide +kernel
theorem dX2_wearSpread_30 : decode cX2_wearSpread 30 = .ok (.invokevirtual 75, 3) := by decide +kernel
theorem dX2_wearSpread_33 : decode cX2_wearSpread 33 = .ok (.invokestatic 91, 3) := by decide +kernel
theorem dX2_wearSpread_36 : decode cX2_wearSpread 36 = .ok (.istore_n 1, 1) := by decide +kernel
theorem dX2_wearSpread_37 : decode cX2_wearSpread 37 = .ok (.iload_n 2, 1) := by decide +kernel
theorem dX2_wearSpread_38 : decode cX2_wearSpread 38 = .ok (.aload_n 0, 1) := by decide +kernel
theorem dX2_wearSpread_39 : decode cX2_wearSpread 39 = .ok (.getfield 12, 3) := by decide +kernel
theorem dX2_wearSpread_42 : decode cX2_wearSpread 42 = .ok (.iload_n 3, 1) := by decide +kernel
theorem dX2_wearSpread_43 : decode cX2_wearSpread 43 = .ok (.invokevirtual 75, 3) := by decide +kernel
theorem dX2_wearSpread_46 : decode cX2_wearSpread 46 = .ok (.invokestatic 97, 3) := by decide +kernel
theorem dX2_wearSpread_49 : decode cX2_wearSpread 49 = .ok (.istore_n 2, 1) := by decide +kernel
theorem dX2_wearSpread_50 : decode cX2_wearSpread 50 = .ok (.iinc 3 1, 3) := by decide +kernel
theorem dX2_wearSpread_53 : decode cX2_wearSpread 53 = .ok (.goto (-40), 3) := by decide +kernel
theorem dX2_wearSpread_56 : decode cX2_wearSpread 56 = .ok (.iload_n 2, 1) := by decide +kernel
theorem dX2_wearSpread_57 : decode cX2_wearSpread 57 = .ok (.iload_n 1, 1) := by decide +kernel
theorem dX2_wearSpread_58 : decode cX2_wearSpread 58 = .ok (.isub, 1) := by decide +kernel
theorem dX2_wearSpread_59 : decode cX2_wearSpread 59 = .ok (.ireturn, 1) := by decide +kernel
theorem q2_wearSpread : CQ W6 yX2_wearSpread cX2_wearSpread 4 (some .int) 0 := ⟨(m6 126 rfl), by decide, by decide, by decide +kernel⟩
set_option maxHeartbeats 4000000 in
set_option maxRecDepth 100000 in
theorem c2_wearSpread (l : Launch) (D : va_G) (cI : ClassId) (lo fo a0 a1 a2 a3 a4 a5 a6 a7 ta : Nat) (on : Bool) (po cu li op nm : Int32) (kd ky vl mk wr lv nw fr : Nat → Int32) (B : Nat) (hB8 : B ≤ 8) (tp tw9 tc te tk xa xe xs : Int32)  : RQ l yX2_wearSpread cX2_wearSpread 4 .int W6 1 24 D [(lo, .inr (2, [.ref fo, .ref ta, .int (bI (on = true)), .int (po), .int (cu), .int (li), .int (op), .int (nm)])), (fo, .inr (0, [.ref a0, .ref a1, .ref a2, .ref a3, .ref a4, .ref a5, .ref a6, .ref a7, .int (nI (B))])), (a0, .inl (cI, 32, .inl kd)), (a1, .inl (cI, 32, .inl ky)), (a2, .inl (cI, 32, .inl vl)), (a3, .inl (cI, 32, .inl mk)), (a4, .inl (cI, 8, .inl wr)), (a5, .inl (cI, 32, .inl lv)), (a6, .inl (cI, 16, .inl nw)), (a7, .inl (cI, 8, .inl fr)), (ta, .inr (5, [.int (tp), .int (tw9), .int (tc), .int (te), .int (tk), .int (xa), .int (xe), .int (xs)]))] [(cI, .int)] [.ref lo] (wsX wr (B - 1) - wsN wr (B - 1)) := by
  refine rq_of RX2 (by decide) rfl (Nat.le_of_ble_eq_true rfl) ?_
  intro p e s m below meth c ls hX hr hlocks hK hN hP hS hl
  have hx := hX.1
  have hb := hX.2.1
  have hown := hX.2.2.2.1
  have hts := hX.2.2.2.2
  have hl : lv_has ls 4 [(0, .ref lo)] := hl
  refine lv_aload_n hx hb dX2_wearSpread_0 rfl (lv_at hl 0 rfl) ?_
  refine va_get (D := D) (ci := 2) (v := .ref fo) (C := RX2) (T := TX2) (N := 8) hx hb hts u6_X2 hown hK hP 0 rfl rfl 0 (by decide) (hts _ (m6 54 rfl)) (fun _ h9 => h9) rfl dX2_wearSpread_1 ?_
  refine lv_iconst (v := 0) hx hb dX2_wearSpread_4 (by decide) ?_
  refine rq_callV hX good6 (m6 23 rfl) (c0_wearOf l D cI fo a0 a1 a2 a3 a4 a5 a6 a7 kd ky vl mk wr lv nw fr B hB8 0) q0_wearOf rfl (m6 111 rfl) (m6 112 rfl) (m6 113 rfl) ⟨Nat.le_of_ble_eq_true rfl, Nat.le_of_ble_eq_true rfl⟩ hK hN [0] rfl hP [1, 2, 3, 4, 5, 6, 7, 8, 9] rfl (ci := 0) (q0 := 0) rfl rfl rfl hS hl.1 rfl (Nat.le_of_ble_eq_true rfl) dX2_wearSpread_5 ⟨Nat.zero_le _, Nat.zero_le _⟩ (fun H locs hP hS => ?_)
  refine lv_istore_n (lv' := [(1, .int (at_ wr 8 0 0)), (0, .ref lo)]) hx hb dX2_wearSpread_8 rfl hl (by decide) rfl (fun ls hl => ?_)
  refine lv_iload_n hx hb dX2_wearSpread_9 rfl (lv_at hl 0 rfl) ?_
  refine lv_istore_n (lv' := [(2, .int (at_ wr 8 0 0)), (1, .int (at_ wr 8 0 0)), (0, .ref lo)]) hx hb dX2_wearSpread_10 rfl hl (by decide) rfl (fun ls hl => ?_)
  refine lv_iconst (v := 1) hx hb dX2_wearSpread_11 (by decide) ?_
  refine lv_istore_n (lv' := [(3, .int (1)), (2, .int (at_ wr 8 0 0)), (1, .int (at_ wr 8 0 0)), (0, .ref lo)]) hx hb dX2_wearSpread_12 rfl hl (by decide) rfl (fun ls hl => ?_)
  have LP13 : ∀ n9 : Nat, ∀ (j : Nat), (hj : j ≤ B - 1) → B - j < n9 → ∀ (H : Heap) (locs : List Loc), va_P D vwCl [(lo, .inr (2, [.ref fo, .ref ta, .int (bI (on = true)), .int (po), .int (cu), .int (li), .int (op), .int (nm)])), (fo, .inr (0, [.ref a0, .ref a1, .ref a2, .ref a3, .ref a4, .ref a5, .ref a6, .ref a7, .int (nI (B))])), (a0, .inl (cI, 32, .inl kd)), (a1, .inl (cI, 32, .inl ky)), (a2, .inl (cI, 32, .inl vl)), (a3, .inl (cI, 32, .inl mk)), (a4, .inl (cI, 8, .inl wr)), (a5, .inl (cI, 32, .inl lv)), (a6, .inl (cI, 16, .inl nw)), (a7, .inl (cI, 8, .inl fr)), (ta, .inr (5, [.int (tp), .int (tw9), .int (tc), .int (te), .int (tk), .int (xa), .int (xe), .int (xs)]))] H → va_S (fun _ => False) s.heap H locs → ∀ ls : Array Slot, lv_has ls 4 [(0, .ref lo), (1, .int (wsN wr j)), (2, .int (wsX wr j)), (3, .int (nI (j + 1)))] → W p l e ({ frames := 1, cells := 0, slots := 0, locals := 24 } : Room) s m ([.ref lo] : List Value).toArray below meth c H locs 0 0 (MQ below (rp_Qi (wsX wr (B - 1) - wsN wr (B - 1))) ([.ref lo] : List Value).toArray s 0 0 (fun _ => False)) (F0 m 13 ls []) := by
    intro n9
    induction n9 with
    | zero => intros; omega
    | succ n9 ih13 =>
      intro j hj hm9 H locs hP hS ls hl
      refine lv_iload_n hx hb dX2_wearSpread_13 rfl (lv_at hl 3 rfl) ?_
      refine lv_aload_n hx hb dX2_wearSpread_14 rfl (lv_at hl 0 rfl) ?_
      refine va_get (D := D) (ci := 2) (v := .ref fo) (C := RX2) (T := TX2) (N := 8) hx hb hts u6_X2 hown hK hP 0 rfl rfl 0 (by decide) (hts _ (m6 54 rfl)) (fun _ h9 => h9) rfl dX2_wearSpread_15 ?_
      refine va_get (D := D) (ci := 0) (v := .int (nI (B))) (C := RX0) (T := TX0) (N := 9) hx hb hts u6_X0 hown hK hP 1 rfl rfl 8 (by decide) (hts _ (m6 108 rfl)) (fun _ h9 => h9) rfl dX2_wearSpread_18 ?_
      refine lv_icmp_ge (tgt := 56) hx hb dX2_wearSpread_21 (by decide) (fun c21_1 => ?_) (fun c21_1 => ?_)
      · skip
        have c21_1 := cn_le (a := B) (b := j + 1) (by omega) (by omega) c21_1
        refine lv_iload_n hx hb dX2_wearSpread_56 rfl (lv_at hl 2 rfl) ?_
        refine lv_iload_n hx hb dX2_wearSpread_57 rfl (lv_at hl 1 rfl) ?_
        refine lv_isub hx hb dX2_wearSpread_58 ?_
        exact rp_ret hX hr hlocks hS (by rw [show j = B - 1 by omega]) dX2_wearSpread_59
      · skip
        have c21_1 := cn_nle (a := B) (b := j + 1) (by omega) (by omega) c21_1
        refine lv_iload_n hx hb dX2_wearSpread_24 rfl (lv_at hl 1 rfl) ?_
        refine lv_aload_n hx hb dX2_wearSpread_25 rfl (lv_at hl 0 rfl) ?_
        refine va_get (D := D) (ci := 2) (v := .ref fo) (C := RX2) (T := TX2) (N := 8) hx hb hts u6_X2 hown hK hP 0 rfl rfl 0 (by decide) (hts _ (m6 54 rfl)) (fun _ h9 => h9) rfl dX2_wearSpread_26 ?_
        refine lv_iload_n hx hb dX2_wearSpread_29 rfl (lv_at hl 3 rfl) ?_
        refine rq_callV hX good6 (m6 23 rfl) (c0_wearOf l D cI fo a0 a1 a2 a3 a4 a5 a6 a7 kd ky vl mk wr lv nw fr B hB8 (nI (j + 1))) q0_wearOf rfl (m6 111 rfl) (m6 112 rfl) (m6 113 rfl) ⟨Nat.le_of_ble_eq_true rfl, Nat.le_of_ble_eq_true rfl⟩ hK hN [0] rfl hP [1, 2, 3, 4, 5, 6, 7, 8, 9] rfl (ci := 0) (q0 := 0) rfl rfl rfl hS hl.1 rfl (Nat.le_of_ble_eq_true rfl) dX2_wearSpread_30 ⟨Nat.zero_le _, Nat.zero_le _⟩ (fun H locs hP hS => ?_)
        refine va_mmin hx hb (hX.2.2.1.trans hl.1.symm) hown (hts _ (m6 109 rfl)) (hts _ (m6 13 rfl)) (hts _ (m6 14 rfl)) (hts _ (m6 15 rfl)) (Nat.le_of_ble_eq_true rfl) (Nat.le_of_ble_eq_true rfl) (Nat.le_of_ble_eq_true rfl) (Nat.le_of_ble_eq_true rfl) dX2_wearSpread_33 ?_
        refine lv_istore_n (lv' := [(1, .int (if at_ wr 8 0 (nI (j + 1)) < wsN wr j then at_ wr 8 0 (nI (j + 1)) else wsN wr j)), (0, .ref lo), (2, .int (wsX wr j)), (3, .int (nI (j + 1)))]) hx hb dX2_wearSpread_36 rfl hl (by decide) rfl (fun ls hl => ?_)
        refine lv_iload_n hx hb dX2_wearSpread_37 rfl (lv_at hl 2 rfl) ?_
        refine lv_aload_n hx hb dX2_wearSpread_38 rfl (lv_at hl 1 rfl) ?_
        refine va_get (D := D) (ci := 2) (v := .ref fo) (C := RX2) (T := TX2) (N := 8) hx hb hts u6_X2 hown hK hP 0 rfl rfl 0 (by decide) (hts _ (m6 54 rfl)) (fun _ h9 => h9) rfl dX2_wearSpread_39 ?_
        refine lv_iload_n hx hb dX2_wearSpread_42 rfl (lv_at hl 3 rfl) ?_
        refine rq_callV hX good6 (m6 23 rfl) (c0_wearOf l D cI fo a0 a1 a2 a3 a4 a5 a6 a7 kd ky vl mk wr lv nw fr B hB8 (nI (j + 1))) q0_wearOf rfl (m6 111 rfl) (m6 112 rfl) (m6 113 rfl) ⟨Nat.le_of_ble_eq_true rfl, Nat.le_of_ble_eq_true rfl⟩ hK hN [0] rfl hP [1, 2, 3, 4, 5, 6, 7, 8, 9] rfl (ci := 0) (q0 := 0) rfl rfl rfl hS hl.1 rfl (Nat.le_of_ble_eq_true rfl) dX2_wearSpread_43 ⟨Nat.zero_le _, Nat.zero_le _⟩ (fun H locs hP hS => ?_)
        refine va_mmax hx hb (hX.2.2.1.trans hl.1.symm) hown (hts _ (m6 110 rfl)) (hts _ (m6 17 rfl)) (hts _ (m6 14 rfl)) (hts _ (m6 18 rfl)) (Nat.le_of_ble_eq_true rfl) (Nat.le_of_ble_eq_true rfl) (Nat.le_of_ble_eq_true rfl) (Nat.le_of_ble_eq_true rfl) dX2_wearSpread_46 ?_
        refine lv_istore_n (lv' := [(2, .int (if wsX wr j < at_ wr 8 0 (nI (j + 1)) then at_ wr 8 0 (nI (j + 1)) else wsX wr j)), (1, .int (if at_ wr 8 0 (nI (j + 1)) < wsN wr j then at_ wr 8 0 (nI (j + 1)) else wsN wr j)), (0, .ref lo), (3, .int (nI (j + 1)))]) hx hb dX2_wearSpread_49 rfl hl (by decide) rfl (fun ls hl => ?_)
        refine lv_iinc (v := nI (j + 1 + 1)) (lv' := [(3, .int (nI (j + 1 + 1))), (2, .int (if wsX wr j < at_ wr 8 0 (nI (j + 1)) then at_ wr 8 0 (nI (j + 1)) else wsX wr j)), (1, .int (if at_ wr 8 0 (nI (j + 1)) < wsN wr j then at_ wr 8 0 (nI (j + 1)) else wsN wr j)), (0, .ref lo)]) hx hb dX2_wearSpread_50 hl (k := 3) rfl (nI_add _ 1) (by decide) rfl (fun ls hl => ?_)
        refine lv_goto (tgt := 13) hx hb dX2_wearSpread_53 (by decide) ?_
        have hl : lv_has ls 4 [(3, .int (nI (j + 1 + 1))), (2, .int (if wsX wr j < at_ wr 8 0 (nI (j + 1)) then at_ wr 8 0 (nI (j + 1)) else wsX wr j)), (1, .int (wsN wr (j + 1))), (0, .ref lo)] := lv_re hl 2 rfl (show (if at_ wr 8 0 (nI (j + 1)) < wsN wr j then at_ wr 8 0 (nI (j + 1)) else wsN wr j) = wsN wr (j + 1) from rfl)
        have hl : lv_has ls 4 [(3, .int (nI (j + 1 + 1))), (2, .int (wsX wr (j + 1))), (1, .int (wsN wr (j + 1))), (0, .ref lo)] := lv_re hl 1 rfl (show (if wsX wr j < at_ wr 8 0 (nI (j + 1)) then at_ wr 8 0 (nI (j + 1)) else wsX wr j) = wsX wr (j + 1) from rfl)
        have hl : lv_has ls 4 [(3, .int (nI ((j + 1) + 1))), (2, .int (wsX wr (j + 1))), (1, .int (wsN wr (j + 1))), (0, .ref lo)] := lv_re hl 0 rfl (show (nI (j + 1 + 1)) = nI ((j + 1) + 1) from rfl)
        exact ih13 (j + 1) (by omega) (by omega) _ _ hP hS _ (lv_sub hl [3, 2, 1, 0] rfl)
  have hl : lv_has ls 4 [(3, .int (1)), (2, .int (at_ wr 8 0 0)), (1, .int (wsN wr 0)), (0, .ref lo)] := lv_re hl 2 rfl (show (at_ wr 8 0 0) = wsN wr 0 from rfl)
  have hl : lv_has ls 4 [(3, .int (1)), (2, .int (wsX wr 0)), (1, .int (wsN wr 0)), (0, .ref lo)] := lv_re hl 1 rfl (show (at_ wr 8 0 0) = wsX wr 0 from rfl)
  have hl : lv_has ls 4 [(3, .int (nI (0 + 1))), (2, .int (wsX wr 0)), (1, .int (wsN wr 0)), (0, .ref lo)] := lv_re hl 0 rfl (show 1 = nI (0 + 1) from rfl)
  exact LP13 ((B - 0) + 1) 0 (by omega) (by omega) _ _ hP hS _ (lv_sub hl [3, 2, 1, 0] rfl)
theorem dX2_tell_0 : decode cX2_tell 0 = .ok (.iload_n 1, 1) := by decide +kernel
theorem dX2_tell_1 : decode cX2_tell 1 = .ok (.tableswitch 128 0 12 #[67, 75, 80, 93, 98, 110, 128, 128, 128, 128, 128, 118, 123], 67) := by decide +kernel
theorem dX2_tell_68 : decode cX2_tell 68 = .ok (.aload_n 0, 1) := by decide +kernel
theorem dX2_tell_69 : decode cX2_tell 69 = .ok (.getfield 12, 3) := by decide +kernel
theorem dX2_tell_72 : decode cX2_tell 72 = .ok (.getfield 61, 3) := by decide +kernel
theorem dX2_tell_75 : decode cX2_tell 75 = .ok (.ireturn, 1) := by decide +kernel
theorem dX2_tell_76 : decode cX2_tell 76 = .ok (.aload_n 0, 1) := by decide +kernel
theorem dX2_tell_77 : decode cX2_tell 77 = .ok (.getfield 45, 3) := by decide +kernel
theorem dX2_tell_80 : decode cX2_tell 80 = .ok (.ireturn, 1) := by decide +kernel
theorem dX2_tell_81 : decode cX2_tell 81 = .ok (.aload_n 0, 1) := by decide +kernel
theorem dX2_tell_82 : decode cX2_tell 82 = .ok (.getfield 34, 3) := by decide +kernel
theorem dX2_tell_85 : decode cX2_tell 85 = .ok (.ifCond .eq 7, 3) := by decide +kernel
theorem dX2_tell_88 : decode cX2_tell 88 = .ok (.iconst 1, 1) := by decide +kernel
theorem dX2_tell_89 : decode cX2_tell 89 = .ok (.goto 4, 3) := by decide +kernel
theorem dX2_tell_92 : decode cX2_tell 92 = .ok (.iconst 0, 1) := by decide +kernel
theorem dX2_tell_93 : decode cX2_tell 93 = .ok (.ireturn, 1) := by decide +kernel
theorem dX2_tell_94 : decode cX2_tell 94 = .ok (.aload_n 0, 1) := by decide +kernel
theorem dX2_tell_95 : decode cX2_tell 95 = .ok (.getfield 48, 3) := by decide +kernel
theorem dX2_tell_98 : decode cX2_tell 98 = .ok (.ireturn, 1) := by decide +kernel
theorem dX2_tell_99 : decode cX2_tell 99 = .ok (.aload_n 0, 1) := by decide +kernel
theorem dX2_tell_100 : decode cX2_tell 100 = .ok (.getfield 12, 3) := by decide +kernel
theorem dX2_tell_103 : decode cX2_tell 103 = .ok (.aload_n 0, 1) := by decide +kernel
theorem dX2_tell_104 : decode cX2_tell 104 = .ok (.getfield 48, 3) := by decide +kernel
theorem dX2_tell_107 : decode cX2_tell 107 = .ok (.invokevirtual 64, 3) := by decide +kernel
theorem dX2_tell_110 : decode cX2_tell 110 = .ok (.ireturn, 1) := by decide +kernel
theorem dX2_tell_111 : decode cX2_tell 111 = .ok (.aload_n 0, 1) := by decide +kernel
theorem dX2_tell_112 : decode cX2_tell 112 = .ok (.getfield 12, 3) := by decide +kernel
theorem dX2_tell_115 : decode cX2_tell 115 = .ok (.invokevirtual 68, 3) := by decide +kernel
theorem dX2_tell_118 : decode cX2_tell 118 = .ok (.ireturn, 1) := by decide +kernel
theorem dX2_tell_119 : decode cX2_tell 119 = .ok (.aload_n 0, 1) := by decide +kernel
theorem dX2_tell_120 : decode cX2_tell 120 = .ok (.getfield 42, 3) := by decide +kernel
theorem dX2_tell_123 : decode cX2_tell 123 = .ok (.ireturn, 1) := by decide +kernel
theorem dX2_tell_124 : decode cX2_tell 124 = .ok (.aload_n 0, 1) := by decide +kernel
theorem dX2_tell_125 : decode cX2_tell 125 = .ok (.getfield 38, 3) := by decide +kernel
theorem dX2_tell_128 : decode cX2_tell 128 = .ok (.ireturn, 1) := by decide +kernel
theorem dX2_tell_129 : decode cX2_tell 129 = .ok (.aload_n 0, 1) := by decide +kernel
theorem dX2_tell_130 : decode cX2_tell 130 = .ok (.invokevirtual 72, 3) := by decide +kernel
theorem dX2_tell_133 : decode cX2_tell 133 = .ok (.ireturn, 1) := by decide +kernel
theorem q2_tell : CQ W6 yX2_tell cX2_tell 2 (some .int) 1 := ⟨(m6 322 rfl), by decide, by decide, by decide +kernel⟩
set_option maxHeartbeats 4000000 in
set_option maxRecDepth 100000 in
theorem c2_tell (l : Launch) (D : va_G) (cI : ClassId) (lo fo a0 a1 a2 a3 a4 a5 a6 a7 ta : Nat) (on : Bool) (po cu li op nm : Int32) (kd ky vl mk wr lv nw fr : Nat → Int32) (B : Nat) (hB8 : B ≤ 8) (tp tw9 tc te tk xa xe xs : Int32) (w : Nat) (hw : w ≤ 5 ∨ (11 ≤ w ∧ w ≤ 13)) : RQ l yX2_tell cX2_tell 2 .int W6 3 65 D [(lo, .inr (2, [.ref fo, .ref ta, .int (bI (on = true)), .int (po), .int (cu), .int (li), .int (op), .int (nm)])), (fo, .inr (0, [.ref a0, .ref a1, .ref a2, .ref a3, .ref a4, .ref a5, .ref a6, .ref a7, .int (nI (B))])), (a0, .inl (cI, 32, .inl kd)), (a1, .inl (cI, 32, .inl ky)), (a2, .inl (cI, 32, .inl vl)), (a3, .inl (cI, 32, .inl mk)), (a4, .inl (cI, 8, .inl wr)), (a5, .inl (cI, 32, .inl lv)), (a6, .inl (cI, 16, .inl nw)), (a7, .inl (cI, 8, .inl fr)), (ta, .inr (5, [.int (tp), .int (tw9), .int (tc), .int (te), .int (tk), .int (xa), .int (xe), .int (xs)]))] [(cI, .int)] [.ref lo, .int (nI (w))] (lgF vl wr nw fr B on po cu li op w) := by
  refine rq_of RX2 (by decide) rfl (Nat.le_of_ble_eq_true rfl) ?_
  intro p e s m below meth c ls hX hr hlocks hK hN hP hS hl
  have hx := hX.1
  have hb := hX.2.1
  have hown := hX.2.2.2.1
  have hts := hX.2.2.2.2
  have hl : lv_has ls 2 [(0, .ref lo), (1, .int (nI (w)))] := hl
  rcases (show w = 0 ∨ w = 1 ∨ w = 2 ∨ w = 3 ∨ w = 4 ∨ w = 5 ∨ w = 11 ∨ w = 12 ∨ w = 13 by omega) with rfl | rfl | rfl | rfl | rfl | rfl | rfl | rfl | rfl
  · skip
    have hl : lv_has ls 2 [(0, .ref lo), (1, .int (0))] := hl
    refine lv_iload_n hx hb dX2_tell_0 rfl (lv_at hl 1 rfl) ?_
    refine lv_tableIn (off := 67) (tgt := 68) hx hb dX2_tell_1 (by decide) (by decide) (by decide) (by decide) ?_
    refine lv_aload_n hx hb dX2_tell_68 rfl (lv_at hl 0 rfl) ?_
    refine va_get (D := D) (ci := 2) (v := .ref fo) (C := RX2) (T := TX2) (N := 8) hx hb hts u6_X2 hown hK hP 0 rfl rfl 0 (by decide) (hts _ (m6 54 rfl)) (fun _ h9 => h9) rfl dX2_tell_69 ?_
    refine va_get (D := D) (ci := 0) (v := .int (nI (B))) (C := RX0) (T := TX0) (N := 9) hx hb hts u6_X0 hown hK hP 1 rfl rfl 8 (by decide) (hts _ (m6 108 rfl)) (fun _ h9 => h9) rfl dX2_tell_72 ?_
    exact rp_ret hX hr hlocks hS (rfl) dX2_tell_75
  · skip
    have hl : lv_has ls 2 [(0, .ref lo), (1, .int (1))] := hl
    refine lv_iload_n hx hb dX2_tell_0 rfl (lv_at hl 1 rfl) ?_
    refine lv_tableIn (off := 75) (tgt := 76) hx hb dX2_tell_1 (by decide) (by decide) (by decide) (by decide) ?_
    refine lv_aload_n hx hb dX2_tell_76 rfl (lv_at hl 0 rfl) ?_
    refine va_get (D := D) (ci := 2) (v := .int (li)) (C := RX2) (T := TX2) (N := 8) hx hb hts u6_X2 hown hK hP 0 rfl rfl 5 (by decide) (hts _ (m6 59 rfl)) (fun _ h9 => h9) rfl dX2_tell_77 ?_
    exact rp_ret hX hr hlocks hS (rfl) dX2_tell_80
  · skip
    have hl : lv_has ls 2 [(0, .ref lo), (1, .int (2))] := hl
    refine lv_iload_n hx hb dX2_tell_0 rfl (lv_at hl 1 rfl) ?_
    refine lv_tableIn (off := 80) (tgt := 81) hx hb dX2_tell_1 (by decide) (by decide) (by decide) (by decide) ?_
    refine lv_aload_n hx hb dX2_tell_81 rfl (lv_at hl 0 rfl) ?_
    refine va_get (D := D) (ci := 2) (v := .int (bI (on = true))) (C := RX2) (T := TX2) (N := 8) hx hb hts u6_X2 hown hK hP 0 rfl rfl 2 (by decide) (hts _ (m6 56 rfl)) (fun _ h9 => h9) rfl dX2_tell_82 ?_
    refine lv_if_eq (tgt := 92) hx hb dX2_tell_85 (by decide) (fun c85_1 => ?_) (fun c85_1 => ?_)
    · skip
      have c85_1 := bI_f c85_1
      refine lv_iconst (v := 0) hx hb dX2_tell_92 (by decide) ?_
      exact rp_ret hX hr hlocks hS ((bI_0 c85_1).symm) dX2_tell_93
    · skip
      have c85_1 := bI_t c85_1
      refine lv_iconst (v := 1) hx hb dX2_tell_88 (by decide) ?_
      refine lv_goto (tgt := 93) hx hb dX2_tell_89 (by decide) ?_
      exact rp_ret hX hr hlocks hS ((bI_1 c85_1).symm) dX2_tell_93
  · skip
    have hl : lv_has ls 2 [(0, .ref lo), (1, .int (3))] := hl
    refine lv_iload_n hx hb dX2_tell_0 rfl (lv_at hl 1 rfl) ?_
    refine lv_tableIn (off := 93) (tgt := 94) hx hb dX2_tell_1 (by decide) (by decide) (by decide) (by decide) ?_
    refine lv_aload_n hx hb dX2_tell_94 rfl (lv_at hl 0 rfl) ?_
    refine va_get (D := D) (ci := 2) (v := .int (op)) (C := RX2) (T := TX2) (N := 8) hx hb hts u6_X2 hown hK hP 0 rfl rfl 6 (by decide) (hts _ (m6 60 rfl)) (fun _ h9 => h9) rfl dX2_tell_95 ?_
    exact rp_ret hX hr hlocks hS (rfl) dX2_tell_98
  · skip
    have hl : lv_has ls 2 [(0, .ref lo), (1, .int (4))] := hl
    refine lv_iload_n hx hb dX2_tell_0 rfl (lv_at hl 1 rfl) ?_
    refine lv_tableIn (off := 98) (tgt := 99) hx hb dX2_tell_1 (by decide) (by decide) (by decide) (by decide) ?_
    refine lv_aload_n hx hb dX2_tell_99 rfl (lv_at hl 0 rfl) ?_
    refine va_get (D := D) (ci := 2) (v := .ref fo) (C := RX2) (T := TX2) (N := 8) hx hb hts u6_X2 hown hK hP 0 rfl rfl 0 (by decide) (hts _ (m6 54 rfl)) (fun _ h9 => h9) rfl dX2_tell_100 ?_
    refine lv_aload_n hx hb dX2_tell_103 rfl (lv_at hl 0 rfl) ?_
    refine va_get (D := D) (ci := 2) (v := .int (op)) (C := RX2) (T := TX2) (N := 8) hx hb hts u6_X2 hown hK hP 0 rfl rfl 6 (by decide) (hts _ (m6 60 rfl)) (fun _ h9 => h9) rfl dX2_tell_104 ?_
    refine rq_callV hX good6 (m6 23 rfl) (c0_countCleanBlocks l D cI fo a0 a1 a2 a3 a4 a5 a6 a7 kd ky vl mk wr lv nw fr B hB8 op) q0_countCleanBlocks rfl (m6 115 rfl) (m6 116 rfl) (m6 117 rfl) ⟨Nat.le_of_ble_eq_true rfl, Nat.le_of_ble_eq_true rfl⟩ hK hN [0] rfl hP [1, 2, 3, 4, 5, 6, 7, 8, 9] rfl (ci := 0) (q0 := 0) rfl rfl rfl hS hl.1 rfl (Nat.le_of_ble_eq_true rfl) dX2_tell_107 ⟨Nat.zero_le _, Nat.zero_le _⟩ (fun H locs hP hS => ?_)
    exact rp_ret hX hr hlocks hS (rfl) dX2_tell_110
  · skip
    have hl : lv_has ls 2 [(0, .ref lo), (1, .int (5))] := hl
    refine lv_iload_n hx hb dX2_tell_0 rfl (lv_at hl 1 rfl) ?_
    refine lv_tableIn (off := 110) (tgt := 111) hx hb dX2_tell_1 (by decide) (by decide) (by decide) (by decide) ?_
    refine lv_aload_n hx hb dX2_tell_111 rfl (lv_at hl 0 rfl) ?_
    refine va_get (D := D) (ci := 2) (v := .ref fo) (C := RX2) (T := TX2) (N := 8) hx hb hts u6_X2 hown hK hP 0 rfl rfl 0 (by decide) (hts _ (m6 54 rfl)) (fun _ h9 => h9) rfl dX2_tell_112 ?_
    refine rq_callV hX good6 (m6 23 rfl) (c0_countKeys l D cI fo a0 a1 a2 a3 a4 a5 a6 a7 kd ky vl mk wr lv nw fr B hB8 ) q0_countKeys rfl (m6 119 rfl) (m6 120 rfl) (m6 121 rfl) ⟨Nat.le_of_ble_eq_true rfl, Nat.le_of_ble_eq_true rfl⟩ hK hN [0] rfl hP [1, 2, 3, 4, 5, 6, 7, 8, 9] rfl (ci := 0) (q0 := 0) rfl rfl rfl hS hl.1 rfl (Nat.le_of_ble_eq_true rfl) dX2_tell_115 ⟨Nat.zero_le _, Nat.zero_le _⟩ (fun H locs hP hS => ?_)
    exact rp_ret hX hr hlocks hS (rfl) dX2_tell_118
  · skip
    have hl : lv_has ls 2 [(0, .ref lo), (1, .int (11))] := hl
    refine lv_iload_n hx hb dX2_tell_0 rfl (lv_at hl 1 rfl) ?_
    refine lv_tableIn (off := 118) (tgt := 119) hx hb dX2_tell_1 (by decide) (by decide) (by decide) (by decide) ?_
    refine lv_aload_n hx hb dX2_tell_119 rfl (lv_at hl 0 rfl) ?_
    refine va_get (D := D) (ci := 2) (v := .int (cu)) (C := RX2) (T := TX2) (N := 8) hx hb hts u6_X2 hown hK hP 0 rfl rfl 4 (by decide) (hts _ (m6 58 rfl)) (fun _ h9 => h9) rfl dX2_tell_120 ?_
    exact rp_ret hX hr hlocks hS (rfl) dX2_tell_123
  · skip
    have hl : lv_has ls 2 [(0, .ref lo), (1, .int (12))] := hl
    refine lv_iload_n hx hb dX2_tell_0 rfl (lv_at hl 1 rfl) ?_
    refine lv_tableIn (off := 123) (tgt := 124) hx hb dX2_tell_1 (by decide) (by decide) (by decide) (by decide) ?_
    refine lv_aload_n hx hb dX2_tell_124 rfl (lv_at hl 0 rfl) ?_
    refine va_get (D := D) (ci := 2) (v := .int (po)) (C := RX2) (T := TX2) (N := 8) hx hb hts u6_X2 hown hK hP 0 rfl rfl 3 (by decide) (hts _ (m6 57 rfl)) (fun _ h9 => h9) rfl dX2_tell_125 ?_
    exact rp_ret hX hr hlocks hS (rfl) dX2_tell_128
  · skip
    have hl : lv_has ls 2 [(0, .ref lo), (1, .int (13))] := hl
    refine lv_iload_n hx hb dX2_tell_0 rfl (lv_at hl 1 rfl) ?_
    refine lv_tableOut (tgt := 129) hx hb dX2_tell_1 (by decide) (by decide) ?_
    refine lv_aload_n hx hb dX2_tell_129 rfl (lv_at hl 0 rfl) ?_
    refine rq_callV hX good6 (m6 83 rfl) (c2_wearSpread l D cI lo fo a0 a1 a2 a3 a4 a5 a6 a7 ta on po cu li op nm kd ky vl mk wr lv nw fr B hB8 tp tw9 tc te tk xa xe xs ) q2_wearSpread rfl (m6 123 rfl) (m6 124 rfl) (m6 125 rfl) ⟨Nat.le_of_ble_eq_true rfl, Nat.le_of_ble_eq_true rfl⟩ hK hN [0] rfl hP [0, 1, 2, 3, 4, 5, 6, 7, 8, 9, 10] rfl (ci := 2) (q0 := 0) rfl rfl rfl hS hl.1 rfl (Nat.le_of_ble_eq_true rfl) dX2_tell_130 ⟨Nat.zero_le _, Nat.zero_le _⟩ (fun H locs hP hS => ?_)
    exact rp_ret hX hr hlocks hS (rfl) dX2_tell_133
theorem dX2_tellBlock_0 : decode cX2_tellBlock 0 = .ok (.iload_n 2, 1) := by decide +kernel
theorem dX2_tellBlock_1 : decode cX2_tellBlock 1 = .ok (.tableswitch 92 0 4 #[35, 44, 53, 62, 71], 35) := by decide +kernel
theorem dX2_tellBlock_36 : decode cX2_tellBlock 36 = .ok (.aload_n 0, 1) := by decide +kernel
theorem dX2_tellBlock_37 : decode cX2_tellBlock 37 = .ok (.getfield 12, 3) := by decide +kernel
theorem dX2_tellBlock_40 : decode cX2_tellBlock 40 = .ok (.iload_n 1, 1) := by decide +kernel
theorem dX2_tellBlock_41 : decode cX2_tellBlock 41 = .ok (.invokevirtual 75, 3) := by decide +kernel
theorem dX2_tellBlock_44 : decode cX2_tellBlock 44 = .ok (.ireturn, 1) := by decide +kernel
theorem dX2_tellBlock_45 : decode cX2_tellBlock 45 = .ok (.aload_n 0, 1) := by decide +kernel
theorem dX2_tellBlock_46 : decode cX2_tellBlock 46 = .ok (.getfield 12, 3) := by decide +kernel
theorem dX2_tellBlock_49 : decode cX2_tellBlock 49 = .ok (.iload_n 1, 1) := by decide +kernel
theorem dX2_tellBlock_50 : decode cX2_tellBlock 50 = .ok (.invokevirtual 78, 3) := by decide +kernel
theorem dX2_tellBlock_53 : decode cX2_tellBlock 53 = .ok (.ireturn, 1) := by decide +kernel
theorem dX2_tellBlock_54 : decode cX2_tellBlock 54 = .ok (.aload_n 0, 1) := by decide +kernel
theorem dX2_tellBlock_55 : decode cX2_tellBlock 55 = .ok (.getfield 12, 3) := by decide +kernel
theorem dX2_tellBlock_58 : decode cX2_tellBlock 58 = .ok (.iload_n 1, 1) := by decide +kernel
theorem dX2_tellBlock_59 : decode cX2_tellBlock 59 = .ok (.invokevirtual 81, 3) := by decide +kernel
theorem dX2_tellBlock_62 : decode cX2_tellBlock 62 = .ok (.ireturn, 1) := by decide +kernel
theorem dX2_tellBlock_63 : decode cX2_tellBlock 63 = .ok (.aload_n 0, 1) := by decide +kernel
theorem dX2_tellBlock_64 : decode cX2_tellBlock 64 = .ok (.getfield 12, 3) := by decide +kernel
theorem dX2_tellBlock_67 : decode cX2_tellBlock 67 = .ok (.iload_n 1, 1) := by decide +kernel
theorem dX2_tellBlock_68 : decode cX2_tellBlock 68 = .ok (.invokevirtual 84, 3) := by decide +kernel
theorem dX2_tellBlock_71 : decode cX2_tellBlock 71 = .ok (.ireturn, 1) := by decide +kernel
theorem dX2_tellBlock_72 : decode cX2_tellBlock 72 = .ok (.aload_n 0, 1) := by decide +kernel
theorem dX2_tellBlock_73 : decode cX2_tellBlock 73 = .ok (.getfield 12, 3) := by decide +kernel
theorem dX2_tellBlock_76 : decode cX2_tellBlock 76 = .ok (.iload_n 1, 1) := by decide +kernel
theorem dX2_tellBlock_77 : decode cX2_tellBlock 77 = .ok (.invokevirtual 75, 3) := by decide +kernel
theorem dX2_tellBlock_80 : decode cX2_tellBlock 80 = .ok (.aload_n 0, 1) := by decide +kernel
theorem dX2_tellBlock_81 : decode cX2_tellBlock 81 = .ok (.getfield 45, 3) := by decide +kernel
theorem dX2_tellBlock_84 : decode cX2_tellBlock 84 = .ok (.if_icmp .lt 7, 3) := by decide +kernel
theorem dX2_tellBlock_87 : decode cX2_tellBlock 87 = .ok (.iconst 1, 1) := by decide +kernel
theorem dX2_tellBlock_88 : decode cX2_tellBlock 88 = .ok (.goto 4, 3) := by decide +kernel
theorem dX2_tellBlock_91 : decode cX2_tellBlock 91 = .ok (.iconst 0, 1) := by decide +kernel
theorem dX2_tellBlock_92 : decode cX2_tellBlock 92 = .ok (.ireturn, 1) := by decide +kernel
theorem dX2_tellBlock_93 : decode cX2_tellBlock 93 = .ok (.aload_n 0, 1) := by decide +kernel
theorem dX2_tellBlock_94 : decode cX2_tellBlock 94 = .ok (.iload_n 1, 1) := by decide +kernel
theorem dX2_tellBlock_95 : decode cX2_tellBlock 95 = .ok (.invokevirtual 87, 3) := by decide +kernel
theorem dX2_tellBlock_98 : decode cX2_tellBlock 98 = .ok (.ifCond .eq 7, 3) := by decide +kernel
theorem dX2_tellBlock_101 : decode cX2_tellBlock 101 = .ok (.iconst 1, 1) := by decide +kernel
theorem dX2_tellBlock_102 : decode cX2_tellBlock 102 = .ok (.goto 4, 3) := by decide +kernel
theorem dX2_tellBlock_105 : decode cX2_tellBlock 105 = .ok (.iconst 0, 1) := by decide +kernel
theorem dX2_tellBlock_106 : decode cX2_tellBlock 106 = .ok (.ireturn, 1) := by decide +kernel
theorem q2_tellBlock : CQ W6 yX2_tellBlock cX2_tellBlock 3 (some .int) 2 := ⟨(m6 355 rfl), by decide, by decide, by decide +kernel⟩
set_option maxHeartbeats 4000000 in
set_option maxRecDepth 100000 in
theorem c2_tellBlock (l : Launch) (D : va_G) (cI : ClassId) (lo fo a0 a1 a2 a3 a4 a5 a6 a7 ta : Nat) (on : Bool) (po cu li op nm : Int32) (kd ky vl mk wr lv nw fr : Nat → Int32) (B : Nat) (hB8 : B ≤ 8) (tp tw9 tc te tk xa xe xs : Int32) (x : Int32) (w : Nat) (hw : w ≤ 5) : RQ l yX2_tellBlock cX2_tellBlock 3 .int W6 2 45 D [(lo, .inr (2, [.ref fo, .ref ta, .int (bI (on = true)), .int (po), .int (cu), .int (li), .int (op), .int (nm)])), (fo, .inr (0, [.ref a0, .ref a1, .ref a2, .ref a3, .ref a4, .ref a5, .ref a6, .ref a7, .int (nI (B))])), (a0, .inl (cI, 32, .inl kd)), (a1, .inl (cI, 32, .inl ky)), (a2, .inl (cI, 32, .inl vl)), (a3, .inl (cI, 32, .inl mk)), (a4, .inl (cI, 8, .inl wr)), (a5, .inl (cI, 32, .inl lv)), (a6, .inl (cI, 16, .inl nw)), (a7, .inl (cI, 8, .inl fr)), (ta, .inr (5, [.int (tp), .int (tw9), .int (tc), .int (te), .int (tk), .int (xa), .int (xe), .int (xs)]))] [(cI, .int)] [.ref lo, .int (x), .int (nI (w))] (lbF kd wr lv fr B on li op x w) := by
  refine rq_of RX2 (by decide) rfl (Nat.le_of_ble_eq_true rfl) ?_
  intro p e s m below meth c ls hX hr hlocks hK hN hP hS hl
  have hx := hX.1
  have hb := hX.2.1
  have hown := hX.2.2.2.1
  have hts := hX.2.2.2.2
  have hl : lv_has ls 3 [(0, .ref lo), (1, .int (x)), (2, .int (nI (w)))] := hl
  rcases (show w = 0 ∨ w = 1 ∨ w = 2 ∨ w = 3 ∨ w = 4 ∨ w = 5 by omega) with rfl | rfl | rfl | rfl | rfl | rfl
  · skip
    have hl : lv_has ls 3 [(0, .ref lo), (1, .int (x)), (2, .int (0))] := hl
    refine lv_iload_n hx hb dX2_tellBlock_0 rfl (lv_at hl 2 rfl) ?_
    refine lv_tableIn (off := 35) (tgt := 36) hx hb dX2_tellBlock_1 (by decide) (by decide) (by decide) (by decide) ?_
    refine lv_aload_n hx hb dX2_tellBlock_36 rfl (lv_at hl 0 rfl) ?_
    refine va_get (D := D) (ci := 2) (v := .ref fo) (C := RX2) (T := TX2) (N := 8) hx hb hts u6_X2 hown hK hP 0 rfl rfl 0 (by decide) (hts _ (m6 54 rfl)) (fun _ h9 => h9) rfl dX2_tellBlock_37 ?_
    refine lv_iload_n hx hb dX2_tellBlock_40 rfl (lv_at hl 1 rfl) ?_
    refine rq_callV hX good6 (m6 23 rfl) (c0_wearOf l D cI fo a0 a1 a2 a3 a4 a5 a6 a7 kd ky vl mk wr lv nw fr B hB8 x) q0_wearOf rfl (m6 111 rfl) (m6 112 rfl) (m6 113 rfl) ⟨Nat.le_of_ble_eq_true rfl, Nat.le_of_ble_eq_true rfl⟩ hK hN [0] rfl hP [1, 2, 3, 4, 5, 6, 7, 8, 9] rfl (ci := 0) (q0 := 0) rfl rfl rfl hS hl.1 rfl (Nat.le_of_ble_eq_true rfl) dX2_tellBlock_41 ⟨Nat.zero_le _, Nat.zero_le _⟩ (fun H locs hP hS => ?_)
    exact rp_ret hX hr hlocks hS (rfl) dX2_tellBlock_44
  · skip
    have hl : lv_has ls 3 [(0, .ref lo), (1, .int (x)), (2, .int (1))] := hl
    refine lv_iload_n hx hb dX2_tellBlock_0 rfl (lv_at hl 2 rfl) ?_
    refine lv_tableIn (off := 44) (tgt := 45) hx hb dX2_tellBlock_1 (by decide) (by decide) (by decide) (by decide) ?_
    refine lv_aload_n hx hb dX2_tellBlock_45 rfl (lv_at hl 0 rfl) ?_
    refine va_get (D := D) (ci := 2) (v := .ref fo) (C := RX2) (T := TX2) (N := 8) hx hb hts u6_X2 hown hK hP 0 rfl rfl 0 (by decide) (hts _ (m6 54 rfl)) (fun _ h9 => h9) rfl dX2_tellBlock_46 ?_
    refine lv_iload_n hx hb dX2_tellBlock_49 rfl (lv_at hl 1 rfl) ?_
    refine rq_callV hX good6 (m6 23 rfl) (c0_countLive l D cI fo a0 a1 a2 a3 a4 a5 a6 a7 kd ky vl mk wr lv nw fr B hB8 x) q0_countLive rfl (m6 135 rfl) (m6 136 rfl) (m6 137 rfl) ⟨Nat.le_of_ble_eq_true rfl, Nat.le_of_ble_eq_true rfl⟩ hK hN [0] rfl hP [1, 2, 3, 4, 5, 6, 7, 8, 9] rfl (ci := 0) (q0 := 0) rfl rfl rfl hS hl.1 rfl (Nat.le_of_ble_eq_true rfl) dX2_tellBlock_50 ⟨Nat.zero_le _, Nat.zero_le _⟩ (fun H locs hP hS => ?_)
    exact rp_ret hX hr hlocks hS (rfl) dX2_tellBlock_53
  · skip
    have hl : lv_has ls 3 [(0, .ref lo), (1, .int (x)), (2, .int (2))] := hl
    refine lv_iload_n hx hb dX2_tellBlock_0 rfl (lv_at hl 2 rfl) ?_
    refine lv_tableIn (off := 53) (tgt := 54) hx hb dX2_tellBlock_1 (by decide) (by decide) (by decide) (by decide) ?_
    refine lv_aload_n hx hb dX2_tellBlock_54 rfl (lv_at hl 0 rfl) ?_
    refine va_get (D := D) (ci := 2) (v := .ref fo) (C := RX2) (T := TX2) (N := 8) hx hb hts u6_X2 hown hK hP 0 rfl rfl 0 (by decide) (hts _ (m6 54 rfl)) (fun _ h9 => h9) rfl dX2_tellBlock_55 ?_
    refine lv_iload_n hx hb dX2_tellBlock_58 rfl (lv_at hl 1 rfl) ?_
    refine rq_callV hX good6 (m6 23 rfl) (c0_freeIn l D cI fo a0 a1 a2 a3 a4 a5 a6 a7 kd ky vl mk wr lv nw fr B hB8 x) q0_freeIn rfl (m6 131 rfl) (m6 132 rfl) (m6 133 rfl) ⟨Nat.le_of_ble_eq_true rfl, Nat.le_of_ble_eq_true rfl⟩ hK hN [0] rfl hP [1, 2, 3, 4, 5, 6, 7, 8, 9] rfl (ci := 0) (q0 := 0) rfl rfl rfl hS hl.1 rfl (Nat.le_of_ble_eq_true rfl) dX2_tellBlock_59 ⟨Nat.zero_le _, Nat.zero_le _⟩ (fun H locs hP hS => ?_)
    exact rp_ret hX hr hlocks hS (rfl) dX2_tellBlock_62
  · skip
    have hl : lv_has ls 3 [(0, .ref lo), (1, .int (x)), (2, .int (3))] := hl
    refine lv_iload_n hx hb dX2_tellBlock_0 rfl (lv_at hl 2 rfl) ?_
    refine lv_tableIn (off := 62) (tgt := 63) hx hb dX2_tellBlock_1 (by decide) (by decide) (by decide) (by decide) ?_
    refine lv_aload_n hx hb dX2_tellBlock_63 rfl (lv_at hl 0 rfl) ?_
    refine va_get (D := D) (ci := 2) (v := .ref fo) (C := RX2) (T := TX2) (N := 8) hx hb hts u6_X2 hown hK hP 0 rfl rfl 0 (by decide) (hts _ (m6 54 rfl)) (fun _ h9 => h9) rfl dX2_tellBlock_64 ?_
    refine lv_iload_n hx hb dX2_tellBlock_67 rfl (lv_at hl 1 rfl) ?_
    refine rq_callV hX good6 (m6 23 rfl) (c0_countTorn l D cI fo a0 a1 a2 a3 a4 a5 a6 a7 kd ky vl mk wr lv nw fr B hB8 x) q0_countTorn rfl (m6 139 rfl) (m6 140 rfl) (m6 141 rfl) ⟨Nat.le_of_ble_eq_true rfl, Nat.le_of_ble_eq_true rfl⟩ hK hN [0] rfl hP [1, 2, 3, 4, 5, 6, 7, 8, 9] rfl (ci := 0) (q0 := 0) rfl rfl rfl hS hl.1 rfl (Nat.le_of_ble_eq_true rfl) dX2_tellBlock_68 ⟨Nat.zero_le _, Nat.zero_le _⟩ (fun H locs hP hS => ?_)
    exact rp_ret hX hr hlocks hS (rfl) dX2_tellBlock_71
  · skip
    have hl : lv_has ls 3 [(0, .ref lo), (1, .int (x)), (2, .int (4))] := hl
    refine lv_iload_n hx hb dX2_tellBlock_0 rfl (lv_at hl 2 rfl) ?_
    refine lv_tableIn (off := 71) (tgt := 72) hx hb dX2_tellBlock_1 (by decide) (by decide) (by decide) (by decide) ?_
    refine lv_aload_n hx hb dX2_tellBlock_72 rfl (lv_at hl 0 rfl) ?_
    refine va_get (D := D) (ci := 2) (v := .ref fo) (C := RX2) (T := TX2) (N := 8) hx hb hts u6_X2 hown hK hP 0 rfl rfl 0 (by decide) (hts _ (m6 54 rfl)) (fun _ h9 => h9) rfl dX2_tellBlock_73 ?_
    refine lv_iload_n hx hb dX2_tellBlock_76 rfl (lv_at hl 1 rfl) ?_
    refine rq_callV hX good6 (m6 23 rfl) (c0_wearOf l D cI fo a0 a1 a2 a3 a4 a5 a6 a7 kd ky vl mk wr lv nw fr B hB8 x) q0_wearOf rfl (m6 111 rfl) (m6 112 rfl) (m6 113 rfl) ⟨Nat.le_of_ble_eq_true rfl, Nat.le_of_ble_eq_true rfl⟩ hK hN [0] rfl hP [1, 2, 3, 4, 5, 6, 7, 8, 9] rfl (ci := 0) (q0 := 0) rfl rfl rfl hS hl.1 rfl (Nat.le_of_ble_eq_true rfl) dX2_tellBlock_77 ⟨Nat.zero_le _, Nat.zero_le _⟩ (fun H locs hP hS => ?_)
    refine lv_aload_n hx hb dX2_tellBlock_80 rfl (lv_at hl 0 rfl) ?_
    refine va_get (D := D) (ci := 2) (v := .int (li)) (C := RX2) (T := TX2) (N := 8) hx hb hts u6_X2 hown hK hP 0 rfl rfl 5 (by decide) (hts _ (m6 59 rfl)) (fun _ h9 => h9) rfl dX2_tellBlock_81 ?_
    refine lv_icmp_lt (tgt := 91) hx hb dX2_tellBlock_84 (by decide) (fun c84_1 => ?_) (fun c84_1 => ?_)
    · skip
      refine lv_iconst (v := 0) hx hb dX2_tellBlock_91 (by decide) ?_
      exact rp_ret hX hr hlocks hS ((bI_0 (fun z => z c84_1)).symm) dX2_tellBlock_92
    · skip
      refine lv_iconst (v := 1) hx hb dX2_tellBlock_87 (by decide) ?_
      refine lv_goto (tgt := 92) hx hb dX2_tellBlock_88 (by decide) ?_
      exact rp_ret hX hr hlocks hS ((bI_1 c84_1).symm) dX2_tellBlock_92
  · skip
    have hl : lv_has ls 3 [(0, .ref lo), (1, .int (x)), (2, .int (5))] := hl
    refine lv_iload_n hx hb dX2_tellBlock_0 rfl (lv_at hl 2 rfl) ?_
    refine lv_tableOut (tgt := 93) hx hb dX2_tellBlock_1 (by decide) (by decide) ?_
    refine lv_aload_n hx hb dX2_tellBlock_93 rfl (lv_at hl 0 rfl) ?_
    refine lv_iload_n hx hb dX2_tellBlock_94 rfl (lv_at hl 1 rfl) ?_
    refine rq_callV hX good6 (m6 83 rfl) (c2_canBeVictim l D cI lo fo a0 a1 a2 a3 a4 a5 a6 a7 ta on po cu li op nm kd ky vl mk wr lv nw fr B hB8 tp tw9 tc te tk xa xe xs x) q2_canBeVictim rfl (m6 143 rfl) (m6 144 rfl) (m6 145 rfl) ⟨Nat.le_of_ble_eq_true rfl, Nat.le_of_ble_eq_true rfl⟩ hK hN [0] rfl hP [0, 1, 2, 3, 4, 5, 6, 7, 8, 9, 10] rfl (ci := 2) (q0 := 0) rfl rfl rfl hS hl.1 rfl (Nat.le_of_ble_eq_true rfl) dX2_tellBlock_95 ⟨Nat.zero_le _, Nat.zero_le _⟩ (fun H locs hP hS => ?_)
    refine lv_if_eq (tgt := 105) hx hb dX2_tellBlock_98 (by decide) (fun c98_2 => ?_) (fun c98_2 => ?_)
    · skip
      have c98_2 := bI_f c98_2
      refine lv_iconst (v := 0) hx hb dX2_tellBlock_105 (by decide) ?_
      exact rp_ret hX hr hlocks hS ((bI_0 c98_2).symm) dX2_tellBlock_106
    · skip
      have c98_2 := bI_t c98_2
      refine lv_iconst (v := 1) hx hb dX2_tellBlock_101 (by decide) ?_
      refine lv_goto (tgt := 106) hx hb dX2_tellBlock_102 (by decide) ?_
      exact rp_ret hX hr hlocks hS ((bI_1 c98_2).symm) dX2_tellBlock_106
