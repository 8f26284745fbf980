theorem dX6_isKey_0 : decode cX6_isKey 0 = .ok (.iload_n 0, 1) := by decide +kernel
theorem dX6_isKey_1 : decode cX6_isKey 1 = .ok (.ifCond .lt 13, 3) := by decide +kernel
theorem dX6_isKey_4 : decode cX6_isKey 4 = .ok (.iload_n 0, 1) := by decide +kernel
theorem dX6_isKey_5 : decode cX6_isKey 5 = .ok (.bipush 16, 2) := by decide +kernel
theorem dX6_isKey_7 : decode cX6_isKey 7 = .ok (.if_icmp .ge 7, 3) := by decide +kernel
theorem dX6_isKey_10 : decode cX6_isKey 10 = .ok (.iconst 1, 1) := by decide +kernel
theorem dX6_isKey_11 : decode cX6_isKey 11 = .ok (.goto 4, 3) := by decide +kernel
theorem dX6_isKey_14 : decode cX6_isKey 14 = .ok (.iconst 0, 1) := by decide +kernel
theorem dX6_isKey_15 : decode cX6_isKey 15 = .ok (.ireturn, 1) := by decide +kernel
theorem q6_isKey : CQ W6 yX6_isKey cX6_isKey 1 (some .boolean) 1 := ⟨(m6 358 rfl), by decide, by decide, by decide +kernel⟩
set_option maxHeartbeats 4000000 in
set_option maxRecDepth 100000 in
theorem c6_isKey (l : Launch) (D : va_G) (k : Int32) : RQ l yX6_isKey cX6_isKey 1 .boolean W6 0 0 D [] [] [.int (k)] (bI (inN k 16)) := by
  refine rq_of RX6 (by decide) rfl (Nat.le_of_ble_eq_true rfl) ?_
  intro p e s m below meth c ls hX hr hlocks hK hN hP hS hl
  have hx := hX.1
  have hb := hX.2.1
  have hown := hX.2.2.2.1
  have hts := hX.2.2.2.2
  have hl : lv_has ls 1 [(0, .int (k))] := hl
  refine lv_iload_n hx hb dX6_isKey_0 rfl (lv_at hl 0 rfl) ?_
  refine lv_if_lt (tgt := 14) hx hb dX6_isKey_1 (by decide) (fun c1_1 => ?_) (fun c1_1 => ?_)
  · skip
    refine lv_iconst (v := 0) hx hb dX6_isKey_14 (by decide) ?_
    exact rp_retz hX hr hlocks hS ((bI_0 (fun z => z.1 c1_1)).symm) dX6_isKey_15
  · skip
    refine lv_iload_n hx hb dX6_isKey_4 rfl (lv_at hl 0 rfl) ?_
    refine lv_bipush (v := 16) hx hb dX6_isKey_5 (by decide) ?_
    refine lv_icmp_ge (tgt := 14) hx hb dX6_isKey_7 (by decide) (fun c7_2 => ?_) (fun c7_2 => ?_)
    · skip
      have c7_2 := i_nlt c7_2
      refine lv_iconst (v := 0) hx hb dX6_isKey_14 (by decide) ?_
      exact rp_retz hX hr hlocks hS ((bI_0 (fun z => c7_2 z.2)).symm) dX6_isKey_15
    · skip
      have c7_2 := i_lt c7_2
      refine lv_iconst (v := 1) hx hb dX6_isKey_10 (by decide) ?_
      refine lv_goto (tgt := 15) hx hb dX6_isKey_11 (by decide) ?_
      exact rp_retz hX hr hlocks hS ((bI_1 ⟨c1_1, c7_2⟩).symm) dX6_isKey_15
theorem dX6_isValue_0 : decode cX6_isValue 0 = .ok (.iload_n 0, 1) := by decide +kernel
theorem dX6_isValue_1 : decode cX6_isValue 1 = .ok (.ifCond .lt 14, 3) := by decide +kernel
theorem dX6_isValue_4 : decode cX6_isValue 4 = .ok (.iload_n 0, 1) := by decide +kernel
theorem dX6_isValue_5 : decode cX6_isValue 5 = .ok (.sipush 999, 3) := by decide +kernel
theorem dX6_isValue_8 : decode cX6_isValue 8 = .ok (.if_icmp .gt 7, 3) := by decide +kernel
theorem dX6_isValue_11 : decode cX6_isValue 11 = .ok (.iconst 1, 1) := by decide +kernel
theorem dX6_isValue_12 : decode cX6_isValue 12 = .ok (.goto 4, 3) := by decide +kernel
theorem dX6_isValue_15 : decode cX6_isValue 15 = .ok (.iconst 0, 1) := by decide +kernel
theorem dX6_isValue_16 : decode cX6_isValue 16 = .ok (.ireturn, 1) := by decide +kernel
theorem q6_isValue : CQ W6 yX6_isValue cX6_isValue 1 (some .boolean) 1 := ⟨(m6 366 rfl), by decide, by decide, by decide +kernel⟩
set_option maxHeartbeats 4000000 in
set_option maxRecDepth 100000 in
theorem c6_isValue (l : Launch) (D : va_G) (k : Int32) : RQ l yX6_isValue cX6_isValue 1 .boolean W6 0 0 D [] [] [.int (k)] (bI (¬ k < 0 ∧ ¬ 999 < k)) := by
  refine rq_of RX6 (by decide) rfl (Nat.le_of_ble_eq_true rfl) ?_
  intro p e s m below meth c ls hX hr hlocks hK hN hP hS hl
  have hx := hX.1
  have hb := hX.2.1
  have hown := hX.2.2.2.1
  have hts := hX.2.2.2.2
  have hl : lv_has ls 1 [(0, .int (k))] := hl
  refine lv_iload_n hx hb dX6_isValue_0 rfl (lv_at hl 0 rfl) ?_
  refine lv_if_lt (tgt := 15) hx hb dX6_isValue_1 (by decide) (fun c1_1 => ?_) (fun c1_1 => ?_)
  · skip
    refine lv_iconst (v := 0) hx hb dX6_isValue_15 (by decide) ?_
    exact rp_retz hX hr hlocks hS ((bI_0 (fun z => z.1 c1_1)).symm) dX6_isValue_16
  · skip
    refine lv_iload_n hx hb dX6_isValue_4 rfl (lv_at hl 0 rfl) ?_
    refine lv_sipush (v := 999) hx hb dX6_isValue_5 (by decide) ?_
    refine lv_icmp_gt (tgt := 15) hx hb dX6_isValue_8 (by decide) (fun c8_2 => ?_) (fun c8_2 => ?_)
    · skip
      refine lv_iconst (v := 0) hx hb dX6_isValue_15 (by decide) ?_
      exact rp_retz hX hr hlocks hS ((bI_0 (fun z => z.2 c8_2)).symm) dX6_isValue_16
    · skip
      refine lv_iconst (v := 1) hx hb dX6_isValue_11 (by decide) ?_
      refine lv_goto (tgt := 16) hx hb dX6_isValue_12 (by decide) ?_
      exact rp_retz hX hr hlocks hS ((bI_1 ⟨c1_1, c8_2⟩).symm) dX6_isValue_16
theorem dX6_isCommand_0 : decode cX6_isCommand 0 = .ok (.iload_n 0, 1) := by decide +kernel
theorem dX6_isCommand_1 : decode cX6_isCommand 1 = .ok (.sipush 1000, 3) := by decide +kernel
theorem dX6_isCommand_4 : decode cX6_isCommand 4 = .ok (.idiv, 1) := by decide +kernel
theorem dX6_isCommand_5 : decode cX6_isCommand 5 = .ok (.tableswitch 112 1 9 #[51, 53, 66, 80, 66, 51, 51, 96, 96], 51) := by decide +kernel
theorem dX6_isCommand_56 : decode cX6_isCommand 56 = .ok (.iconst 1, 1) := by decide +kernel
theorem dX6_isCommand_57 : decode cX6_isCommand 57 = .ok (.ireturn, 1) := by decide +kernel
theorem dX6_isCommand_58 : decode cX6_isCommand 58 = .ok (.iload_n 0, 1) := by decide +kernel
theorem dX6_isCommand_59 : decode cX6_isCommand 59 = .ok (.bipush 100, 2) := by decide +kernel
theorem dX6_isCommand_61 : decode cX6_isCommand 61 = .ok (.irem, 1) := by decide +kernel
theorem dX6_isCommand_62 : decode cX6_isCommand 62 = .ok (.ifCond .ne 7, 3) := by decide +kernel
theorem dX6_isCommand_65 : decode cX6_isCommand 65 = .ok (.iconst 1, 1) := by decide +kernel
theorem dX6_isCommand_66 : decode cX6_isCommand 66 = .ok (.goto 4, 3) := by decide +kernel
theorem dX6_isCommand_69 : decode cX6_isCommand 69 = .ok (.iconst 0, 1) := by decide +kernel
theorem dX6_isCommand_70 : decode cX6_isCommand 70 = .ok (.ireturn, 1) := by decide +kernel
theorem dX6_isCommand_71 : decode cX6_isCommand 71 = .ok (.iload_n 0, 1) := by decide +kernel
theorem dX6_isCommand_72 : decode cX6_isCommand 72 = .ok (.sipush 1000, 3) := by decide +kernel
theorem dX6_isCommand_75 : decode cX6_isCommand 75 = .ok (.irem, 1) := by decide +kernel
theorem dX6_isCommand_76 : decode cX6_isCommand 76 = .ok (.ifCond .ne 7, 3) := by decide +kernel
theorem dX6_isCommand_79 : decode cX6_isCommand 79 = .ok (.iconst 1, 1) := by decide +kernel
theorem dX6_isCommand_80 : decode cX6_isCommand 80 = .ok (.goto 4, 3) := by decide +kernel
theorem dX6_isCommand_83 : decode cX6_isCommand 83 = .ok (.iconst 0, 1) := by decide +kernel
theorem dX6_isCommand_84 : decode cX6_isCommand 84 = .ok (.ireturn, 1) := by decide +kernel
theorem dX6_isCommand_85 : decode cX6_isCommand 85 = .ok (.iload_n 0, 1) := by decide +kernel
theorem dX6_isCommand_86 : decode cX6_isCommand 86 = .ok (.bipush 100, 2) := by decide +kernel
theorem dX6_isCommand_88 : decode cX6_isCommand 88 = .ok (.idiv, 1) := by decide +kernel
theorem dX6_isCommand_89 : decode cX6_isCommand 89 = .ok (.bipush 10, 2) := by decide +kernel
theorem dX6_isCommand_91 : decode cX6_isCommand 91 = .ok (.irem, 1) := by decide +kernel
theorem dX6_isCommand_92 : decode cX6_isCommand 92 = .ok (.ifCond .ne 7, 3) := by decide +kernel
theorem dX6_isCommand_95 : decode cX6_isCommand 95 = .ok (.iconst 1, 1) := by decide +kernel
theorem dX6_isCommand_96 : decode cX6_isCommand 96 = .ok (.goto 4, 3) := by decide +kernel
theorem dX6_isCommand_99 : decode cX6_isCommand 99 = .ok (.iconst 0, 1) := by decide +kernel
theorem dX6_isCommand_100 : decode cX6_isCommand 100 = .ok (.ireturn, 1) := by decide +kernel
theorem dX6_isCommand_101 : decode cX6_isCommand 101 = .ok (.iload_n 0, 1) := by decide +kernel
theorem dX6_isCommand_102 : decode cX6_isCommand 102 = .ok (.bipush 10, 2) := by decide +kernel
theorem dX6_isCommand_104 : decode cX6_isCommand 104 = .ok (.idiv, 1) := by decide +kernel
theorem dX6_isCommand_105 : decode cX6_isCommand 105 = .ok (.bipush 100, 2) := by decide +kernel
theorem dX6_isCommand_107 : decode cX6_isCommand 107 = .ok (.irem, 1) := by decide +kernel
theorem dX6_isCommand_108 : decode cX6_isCommand 108 = .ok (.ifCond .ne 7, 3) := by decide +kernel
theorem dX6_isCommand_111 : decode cX6_isCommand 111 = .ok (.iconst 1, 1) := by decide +kernel
theorem dX6_isCommand_112 : decode cX6_isCommand 112 = .ok (.goto 4, 3) := by decide +kernel
theorem dX6_isCommand_115 : decode cX6_isCommand 115 = .ok (.iconst 0, 1) := by decide +kernel
theorem dX6_isCommand_116 : decode cX6_isCommand 116 = .ok (.ireturn, 1) := by decide +kernel
theorem dX6_isCommand_117 : decode cX6_isCommand 117 = .ok (.iconst 0, 1) := by decide +kernel
theorem dX6_isCommand_118 : decode cX6_isCommand 118 = .ok (.ireturn, 1) := by decide +kernel
theorem q6_isCommand : CQ W6 yX6_isCommand cX6_isCommand 1 (some .boolean) 1 := ⟨(m6 387 rfl), by decide, by decide, by decide +kernel⟩
set_option maxHeartbeats 4000000 in
set_option maxRecDepth 100000 in
theorem c6_isCommand (l : Launch) (D : va_G) (g : Nat) (hg : g < 10000) : RQ l yX6_isCommand cX6_isCommand 1 .boolean W6 0 0 D [] [] [.int (nI (g))] (bI (icmP g)) := by
  refine rq_of RX6 (by decide) rfl (Nat.le_of_ble_eq_true rfl) ?_
  intro p e s m below meth c ls hX hr hlocks hK hN hP hS hl
  have hx := hX.1
  have hb := hX.2.1
  have hown := hX.2.2.2.1
  have hts := hX.2.2.2.2
  have hl : lv_has ls 1 [(0, .int (nI (g)))] := hl
  refine lv_iload_n hx hb dX6_isCommand_0 rfl (lv_at hl 0 rfl) ?_
  refine lv_sipush (v := 1000) hx hb dX6_isCommand_1 (by decide) ?_
  refine lv_idiv hx hb dX6_isCommand_4 (by decide) ?_
  refine lv_as (y := nI (g / 1000)) (pk_div (a := g) (d := 1000) (by omega) (by decide) (by decide)) ?_
  rcases (show g / 1000 = 0 ∨ g / 1000 = 1 ∨ g / 1000 = 2 ∨ g / 1000 = 3 ∨ g / 1000 = 4 ∨ g / 1000 = 5 ∨ g / 1000 = 6 ∨ g / 1000 = 7 ∨ g / 1000 = 8 ∨ g / 1000 = 9 by omega) with hg0 | hg1 | hg2 | hg3 | hg4 | hg5 | hg6 | hg7 | hg8 | hg9
  · skip
    refine lv_as (show nI (g / 1000) = 0 from by rw [hg0]; rfl) ?_
    refine lv_tableOut (tgt := 117) hx hb dX6_isCommand_5 (by decide) (by decide) ?_
    refine lv_iconst (v := 0) hx hb dX6_isCommand_117 (by decide) ?_
    exact rp_retz hX hr hlocks hS ((bI_0 (by simp [icmP, hg0])).symm) dX6_isCommand_118
  · skip
    refine lv_as (show nI (g / 1000) = 1 from by rw [hg1]; rfl) ?_
    refine lv_tableIn (off := 51) (tgt := 56) hx hb dX6_isCommand_5 (by decide) (by decide) (by decide) (by decide) ?_
    refine lv_iconst (v := 1) hx hb dX6_isCommand_56 (by decide) ?_
    exact rp_retz hX hr hlocks hS ((bI_1 (by simp [icmP, hg1])).symm) dX6_isCommand_57
  · skip
    refine lv_as (show nI (g / 1000) = 2 from by rw [hg2]; rfl) ?_
    refine lv_tableIn (off := 53) (tgt := 58) hx hb dX6_isCommand_5 (by decide) (by decide) (by decide) (by decide) ?_
    refine lv_iload_n hx hb dX6_isCommand_58 rfl (lv_at hl 0 rfl) ?_
    refine lv_bipush (v := 100) hx hb dX6_isCommand_59 (by decide) ?_
    refine lv_irem hx hb dX6_isCommand_61 (by decide) ?_
    refine lv_as (y := nI (g % 100)) (pk_rem (a := g) (d := 100) (by omega) (by decide) (by decide)) ?_
    refine lv_if_ne (tgt := 69) hx hb dX6_isCommand_62 (by decide) (fun c62_1 => ?_) (fun c62_1 => ?_)
    · skip
      have c62_1 := cn_ne (a := g % 100) (b := 0) (by omega) (by omega) c62_1
      refine lv_iconst (v := 0) hx hb dX6_isCommand_69 (by decide) ?_
      exact rp_retz hX hr hlocks hS ((bI_0 (by simp [icmP, hg2, c62_1])).symm) dX6_isCommand_70
    · skip
      have c62_1 := cn_eq (a := g % 100) (b := 0) (by omega) (by omega) c62_1
      refine lv_iconst (v := 1) hx hb dX6_isCommand_65 (by decide) ?_
      refine lv_goto (tgt := 70) hx hb dX6_isCommand_66 (by decide) ?_
      exact rp_retz hX hr hlocks hS ((bI_1 (by simp [icmP, hg2, c62_1])).symm) dX6_isCommand_70
  · skip
    refine lv_as (show nI (g / 1000) = 3 from by rw [hg3]; rfl) ?_
    refine lv_tableIn (off := 66) (tgt := 71) hx hb dX6_isCommand_5 (by decide) (by decide) (by decide) (by decide) ?_
    refine lv_iload_n hx hb dX6_isCommand_71 rfl (lv_at hl 0 rfl) ?_
    refine lv_sipush (v := 1000) hx hb dX6_isCommand_72 (by decide) ?_
    refine lv_irem hx hb dX6_isCommand_75 (by decide) ?_
    refine lv_as (y := nI (g % 1000)) (pk_rem (a := g) (d := 1000) (by omega) (by decide) (by decide)) ?_
    refine lv_if_ne (tgt := 83) hx hb dX6_isCommand_76 (by decide) (fun c76_2 => ?_) (fun c76_2 => ?_)
    · skip
      have c76_2 := cn_ne (a := g % 1000) (b := 0) (by omega) (by omega) c76_2
      refine lv_iconst (v := 0) hx hb dX6_isCommand_83 (by decide) ?_
      exact rp_retz hX hr hlocks hS ((bI_0 (by simp [icmP, hg3, c76_2])).symm) dX6_isCommand_84
    · skip
      have c76_2 := cn_eq (a := g % 1000) (b := 0) (by omega) (by omega) c76_2
      refine lv_iconst (v := 1) hx hb dX6_isCommand_79 (by decide) ?_
      refine lv_goto (tgt := 84) hx hb dX6_isCommand_80 (by decide) ?_
      exact rp_retz hX hr hlocks hS ((bI_1 (by simp [icmP, hg3, c76_2])).symm) dX6_isCommand_84
  · skip
    refine lv_as (show nI (g / 1000) = 4 from by rw [hg4]; rfl) ?_
    refine lv_tableIn (off := 80) (tgt := 85) hx hb dX6_isCommand_5 (by decide) (by decide) (by decide) (by decide) ?_
    refine lv_iload_n hx hb dX6_isCommand_85 rfl (lv_at hl 0 rfl) ?_
    refine lv_bipush (v := 100) hx hb dX6_isCommand_86 (by decide) ?_
    refine lv_idiv hx hb dX6_isCommand_88 (by decide) ?_
    refine lv_as (y := nI (g / 100)) (pk_div (a := g) (d := 100) (by omega) (by decide) (by decide)) ?_
    refine lv_bipush (v := 10) hx hb dX6_isCommand_89 (by decide) ?_
    refine lv_irem hx hb dX6_isCommand_91 (by decide) ?_
    refine lv_as (y := nI ((g / 100) % 10)) (pk_rem (a := g / 100) (d := 10) (by omega) (by decide) (by decide)) ?_
    refine lv_if_ne (tgt := 99) hx hb dX6_isCommand_92 (by decide) (fun c92_3 => ?_) (fun c92_3 => ?_)
    · skip
      have c92_3 := cn_ne (a := (g / 100) % 10) (b := 0) (by omega) (by omega) c92_3
      refine lv_iconst (v := 0) hx hb dX6_isCommand_99 (by decide) ?_
      exact rp_retz hX hr hlocks hS ((bI_0 (by simp [icmP, hg4, c92_3])).symm) dX6_isCommand_100
    · skip
      have c92_3 := cn_eq (a := (g / 100) % 10) (b := 0) (by omega) (by omega) c92_3
      refine lv_iconst (v := 1) hx hb dX6_isCommand_95 (by decide) ?_
      refine lv_goto (tgt := 100) hx hb dX6_isCommand_96 (by decide) ?_
      exact rp_retz hX hr hlocks hS ((bI_1 (by simp [icmP, hg4, c92_3])).symm) dX6_isCommand_100
  · skip
    refine lv_as (show nI (g / 1000) = 5 from by rw [hg5]; rfl) ?_
    refine lv_tableIn (off := 66) (tgt := 71) hx hb dX6_isCommand_5 (by decide) (by decide) (by decide) (by decide) ?_
    refine lv_iload_n hx hb dX6_isCommand_71 rfl (lv_at hl 0 rfl) ?_
    refine lv_sipush (v := 1000) hx hb dX6_isCommand_72 (by decide) ?_
    refine lv_irem hx hb dX6_isCommand_75 (by decide) ?_
    refine lv_as (y := nI (g % 1000)) (pk_rem (a := g) (d := 1000) (by omega) (by decide) (by decide)) ?_
    refine lv_if_ne (tgt := 83) hx hb dX6_isCommand_76 (by decide) (fun c76_4 => ?_) (fun c76_4 => ?_)
    · skip
      have c76_4 := cn_ne (a := g % 1000) (b := 0) (by omega) (by omega) c76_4
      refine lv_iconst (v := 0) hx hb dX6_isCommand_83 (by decide) ?_
      exact rp_retz hX hr hlocks hS ((bI_0 (by simp [icmP, hg5, c76_4])).symm) dX6_isCommand_84
    · skip
      have c76_4 := cn_eq (a := g % 1000) (b := 0) (by omega) (by omega) c76_4
      refine lv_iconst (v := 1) hx hb dX6_isCommand_79 (by decide) ?_
      refine lv_goto (tgt := 84) hx hb dX6_isCommand_80 (by decide) ?_
      exact rp_retz hX hr hlocks hS ((bI_1 (by simp [icmP, hg5, c76_4])).symm) dX6_isCommand_84
  · skip
    refine lv_as (show nI (g / 1000) = 6 from by rw [hg6]; rfl) ?_
    refine lv_tableIn (off := 51) (tgt := 56) hx hb dX6_isCommand_5 (by decide) (by decide) (by decide) (by decide) ?_
    refine lv_iconst (v := 1) hx hb dX6_isCommand_56 (by decide) ?_
    exact rp_retz hX hr hlocks hS ((bI_1 (by simp [icmP, hg6])).symm) dX6_isCommand_57
  · skip
    refine lv_as (show nI (g / 1000) = 7 from by rw [hg7]; rfl) ?_
    refine lv_tableIn (off := 51) (tgt := 56) hx hb dX6_isCommand_5 (by decide) (by decide) (by decide) (by decide) ?_
    refine lv_iconst (v := 1) hx hb dX6_isCommand_56 (by decide) ?_
    exact rp_retz hX hr hlocks hS ((bI_1 (by simp [icmP, hg7])).symm) dX6_isCommand_57
  · skip
    refine lv_as (show nI (g / 1000) = 8 from by rw [hg8]; rfl) ?_
    refine lv_tableIn (off := 96) (tgt := 101) hx hb dX6_isCommand_5 (by decide) (by decide) (by decide) (by decide) ?_
    refine lv_iload_n hx hb dX6_isCommand_101 rfl (lv_at hl 0 rfl) ?_
    refine lv_bipush (v := 10) hx hb dX6_isCommand_102 (by decide) ?_
    refine lv_idiv hx hb dX6_isCommand_104 (by decide) ?_
    refine lv_as (y := nI (g / 10)) (pk_div (a := g) (d := 10) (by omega) (by decide) (by decide)) ?_
    refine lv_bipush (v := 100) hx hb dX6_isCommand_105 (by decide) ?_
    refine lv_irem hx hb dX6_isCommand_107 (by decide) ?_
    refine lv_as (y := nI ((g / 10) % 100)) (pk_rem (a := g / 10) (d := 100) (by omega) (by decide) (by decide)) ?_
    refine lv_if_ne (tgt := 115) hx hb dX6_isCommand_108 (by decide) (fun c108_5 => ?_) (fun c108_5 => ?_)
    · skip
      have c108_5 := cn_ne (a := (g / 10) % 100) (b := 0) (by omega) (by omega) c108_5
      refine lv_iconst (v := 0) hx hb dX6_isCommand_115 (by decide) ?_
      exact rp_retz hX hr hlocks hS ((bI_0 (by simp [icmP, hg8, c108_5])).symm) dX6_isCommand_116
    · skip
      have c108_5 := cn_eq (a := (g / 10) % 100) (b := 0) (by omega) (by omega) c108_5
      refine lv_iconst (v := 1) hx hb dX6_isCommand_111 (by decide) ?_
      refine lv_goto (tgt := 116) hx hb dX6_isCommand_112 (by decide) ?_
      exact rp_retz hX hr hlocks hS ((bI_1 (by simp [icmP, hg8, c108_5])).symm) dX6_isCommand_116
  · skip
    refine lv_as (show nI (g / 1000) = 9 from by rw [hg9]; rfl) ?_
    refine lv_tableIn (off := 96) (tgt := 101) hx hb dX6_isCommand_5 (by decide) (by decide) (by decide) (by decide) ?_
    refine lv_iload_n hx hb dX6_isCommand_101 rfl (lv_at hl 0 rfl) ?_
    refine lv_bipush (v := 10) hx hb dX6_isCommand_102 (by decide) ?_
    refine lv_idiv hx hb dX6_isCommand_104 (by decide) ?_
    refine lv_as (y := nI (g / 10)) (pk_div (a := g) (d := 10) (by omega) (by decide) (by decide)) ?_
    refine lv_bipush (v := 100) hx hb dX6_isCommand_105 (by decide) ?_
    refine lv_irem hx hb dX6_isCommand_107 (by decide) ?_
    refine lv_as (y := nI ((g / 10) % 100)) (pk_rem (a := g / 10) (d := 100) (by omega) (by decide) (by decide)) ?_
    refine lv_if_ne (tgt := 115) hx hb dX6_isCommand_108 (by decide) (fun c108_6 => ?_) (fun c108_6 => ?_)
    · skip
      have c108_6 := cn_ne (a := (g / 10) % 100) (b := 0) (by omega) (by omega) c108_6
      refine lv_iconst (v := 0) hx hb dX6_isCommand_115 (by decide) ?_
      exact rp_retz hX hr hlocks hS ((bI_0 (by simp [icmP, hg9, c108_6])).symm) dX6_isCommand_116
    · skip
      have c108_6 := cn_eq (a := (g / 10) % 100) (b := 0) (by omega) (by omega) c108_6
      refine lv_iconst (v := 1) hx hb dX6_isCommand_111 (by decide) ?_
      refine lv_goto (tgt := 116) hx hb dX6_isCommand_112 (by decide) ?_
      exact rp_retz hX hr hlocks hS ((bI_1 (by simp [icmP, hg9, c108_6])).symm) dX6_isCommand_116
theorem dX6_costOfRecord_0 : decode cX6_costOfRecord 0 = .ok (.aload_n 1, 1) := by decide +kernel
theorem dX6_costOfRecord_1 : decode cX6_costOfRecord 1 = .ok (.getfield 158, 3) := by decide +kernel
theorem dX6_costOfRecord_4 : decode cX6_costOfRecord 4 = .ok (.ifCond .ne 5, 3) := by decide +kernel
theorem dX6_costOfRecord_7 : decode cX6_costOfRecord 7 = .ok (.iconst 0, 1) := by decide +kernel
theorem dX6_costOfRecord_8 : decode cX6_costOfRecord 8 = .ok (.ireturn, 1) := by decide +kernel
theorem dX6_costOfRecord_9 : decode cX6_costOfRecord 9 = .ok (.aload_n 0, 1) := by decide +kernel
theorem dX6_costOfRecord_10 : decode cX6_costOfRecord 10 = .ok (.getfield 40, 3) := by decide +kernel
theorem dX6_costOfRecord_13 : decode cX6_costOfRecord 13 = .ok (.aload_n 1, 1) := by decide +kernel
theorem dX6_costOfRecord_14 : decode cX6_costOfRecord 14 = .ok (.invokevirtual 236, 3) := by decide +kernel
theorem dX6_costOfRecord_17 : decode cX6_costOfRecord 17 = .ok (.aload_n 0, 1) := by decide +kernel
theorem dX6_costOfRecord_18 : decode cX6_costOfRecord 18 = .ok (.getfield 40, 3) := by decide +kernel
theorem dX6_costOfRecord_21 : decode cX6_costOfRecord 21 = .ok (.iconst 0, 1) := by decide +kernel
theorem dX6_costOfRecord_22 : decode cX6_costOfRecord 22 = .ok (.putfield 207, 3) := by decide +kernel
theorem dX6_costOfRecord_25 : decode cX6_costOfRecord 25 = .ok (.aload_n 0, 1) := by decide +kernel
theorem dX6_costOfRecord_26 : decode cX6_costOfRecord 26 = .ok (.getfield 40, 3) := by decide +kernel
theorem dX6_costOfRecord_29 : decode cX6_costOfRecord 29 = .ok (.iconst 0, 1) := by decide +kernel
theorem dX6_costOfRecord_30 : decode cX6_costOfRecord 30 = .ok (.iconst 0, 1) := by decide +kernel
theorem dX6_costOfRecord_31 : decode cX6_costOfRecord 31 = .ok (.invokevirtual 192, 3) := by decide +kernel
theorem dX6_costOfRecord_34 : decode cX6_costOfRecord 34 = .ok (.bipush (-9), 2) := by decide +kernel
theorem dX6_costOfRecord_36 : decode cX6_costOfRecord 36 = .ok (.if_icmp .ne 5, 3) := by decide +kernel
theorem dX6_costOfRecord_39 : decode cX6_costOfRecord 39 = .ok (.iconst 0, 1) := by decide +kernel
theorem dX6_costOfRecord_40 : decode cX6_costOfRecord 40 = .ok (.ireturn, 1) := by decide +kernel
theorem dX6_costOfRecord_41 : decode cX6_costOfRecord 41 = .ok (.aload_n 0, 1) := by decide +kernel
theorem dX6_costOfRecord_42 : decode cX6_costOfRecord 42 = .ok (.getfield 40, 3) := by decide +kernel
theorem dX6_costOfRecord_45 : decode cX6_costOfRecord 45 = .ok (.getfield 115, 3) := by decide +kernel
theorem dX6_costOfRecord_48 : decode cX6_costOfRecord 48 = .ok (.getfield 260, 3) := by decide +kernel
theorem dX6_costOfRecord_51 : decode cX6_costOfRecord 51 = .ok (.aload_n 1, 1) := by decide +kernel
theorem dX6_costOfRecord_52 : decode cX6_costOfRecord 52 = .ok (.getfield 115, 3) := by decide +kernel
theorem dX6_costOfRecord_55 : decode cX6_costOfRecord 55 = .ok (.getfield 260, 3) := by decide +kernel
theorem dX6_costOfRecord_58 : decode cX6_costOfRecord 58 = .ok (.isub, 1) := by decide +kernel
theorem dX6_costOfRecord_59 : decode cX6_costOfRecord 59 = .ok (.ireturn, 1) := by decide +kernel
theorem q6_costOfRecord : CQ W6 yX6_costOfRecord cX6_costOfRecord 2 (some .int) 1 := ⟨(m6 306 rfl), by decide, by decide, by decide +kernel⟩
set_option maxHeartbeats 4000000 in
set_option maxRecDepth 100000 in
theorem c6_costOfRecord (l : Launch) (D : va_G) (cI : ClassId) (ob so ho sl : Nat) (dg dc dt : Nat → Nat) (zt : LgS) (hBt : zt.1.2 ≤ 8) (d : Nat → Nat) (z : LgS) (hz : Inv z) : BQi l yX6_costOfRecord cX6_costOfRecord 2 .int W6 4 123 D [[(ob, .inr (6, [.ref so, .ref ho, .ref sl, .ref (dg 0), .ref (dc 0), .ref (dt 0)]))], zL cI dt zt, zL cI d z] [(cI, .int)] [.ref ob, .ref (d 0)] (fun (r9 : Int32) (u9 : List va_W) => r9 = (csV z) ∧ ∃ zt9 : LgS, (zt9.1.2 ≤ 8) ∧ u9 = [[(ob, .inr (6, [.ref so, .ref ho, .ref sl, .ref (dg 0), .ref (dc 0), .ref (dt 0)]))], zL cI dt zt9, zL cI d z]) := by
  refine gq_of RX6 (by decide) rfl (Nat.le_of_ble_eq_true rfl) ?_
  intro p e s m below meth c ls H hX hr hlocks hK hN hP hD hS hl
  generalize gp_A (bw [[(ob, .inr (6, [.ref so, .ref ho, .ref sl, .ref (dg 0), .ref (dc 0), .ref (dt 0)]))], zL cI dt zt, zL cI d z]) = A at hD hS ⊢
  have hx := hX.1
  have hb := hX.2.1
  have hown := hX.2.2.2.1
  have hts := hX.2.2.2.2
  have hl : lv_has ls 2 [(0, .ref ob), (1, .ref (d 0))] := hl
  refine lv_aload_n hx hb dX6_costOfRecord_0 rfl (lv_at hl 1 rfl) ?_
  refine va_get (D := D) (ci := 2) (v := .int (bI (z.1.1 = true))) (C := RX2) (T := TX2) (N := 8) hx hb hts u6_X2 hown hK hP 12 rfl rfl 2 (by decide) (hts _ (m6 292 rfl)) (fun _ h9 => h9) rfl dX6_costOfRecord_1 ?_
  refine lv_if_ne (tgt := 9) hx hb dX6_costOfRecord_4 (by decide) (fun c4_1 => ?_) (fun c4_1 => ?_)
  · skip
    have c4_1 := bI_t c4_1
    refine lv_aload_n hx hb dX6_costOfRecord_9 rfl (lv_at hl 0 rfl) ?_
    refine va_get (D := D) (ci := 6) (v := .ref (dt 0)) (C := RX6) (T := TX6) (N := 6) hx hb hts u6_X6 hown hK hP 0 rfl rfl 5 (by decide) (hts _ (m6 262 rfl)) (fun _ h9 => h9) rfl dX6_costOfRecord_10 ?_
    refine lv_aload_n hx hb dX6_costOfRecord_13 rfl (lv_at hl 1 rfl) ?_
    refine bq_backv (bq_runV hX good6 (m6 83 rfl) (b2_copyFrom l D cI dt d zt z hBt (inv_B hz)) q2_copyFrom rfl (m6 296 rfl) (m6 104 rfl) (m6 105 rfl) ⟨Nat.le_of_ble_eq_true rfl, Nat.le_of_ble_eq_true rfl⟩ hK hN [0] rfl hP hD [1, 2] (by decide) rfl (ci := 2) (q0 := 0) rfl rfl rfl hl.1 rfl (Nat.le_of_ble_eq_true rfl) dX6_costOfRecord_14 ⟨Nat.zero_le _, Nat.zero_le _⟩) hP hD hS [1, 2] rfl (fun u h => by rw [h]; rfl) (fun u H locs hpost hP hD hS => ?_)
    subst hpost
    have hP : va_P D vwCl (bw [[(ob, .inr (6, [.ref so, .ref ho, .ref sl, .ref (dg 0), .ref (dc 0), .ref (dt 0)]))], zL cI dt z, zL cI d z]) H := hP
    have hD : va_D A (bw [[(ob, .inr (6, [.ref so, .ref ho, .ref sl, .ref (dg 0), .ref (dc 0), .ref (dt 0)]))], zL cI dt z, zL cI d z]) := hD
    refine lv_aload_n hx hb dX6_costOfRecord_17 rfl (lv_at hl 0 rfl) ?_
    refine va_get (D := D) (ci := 6) (v := .ref (dt 0)) (C := RX6) (T := TX6) (N := 6) hx hb hts u6_X6 hown hK hP 0 rfl rfl 5 (by decide) (hts _ (m6 262 rfl)) (fun _ h9 => h9) rfl dX6_costOfRecord_18 ?_
    refine lv_iconst (v := 0) hx hb dX6_costOfRecord_21 (by decide) ?_
    refine va_put (D := D) (ci := 2) (v := .int (0)) (ty := .int) (C := RX2) (T := TX2) (N := 8) hx hb hts u6_X2 tyX2 tyX2_ok nmX2 hown hK hP hD hS 1 rfl rfl 4 (by decide) (hts _ (m6 293 rfl)) (fun _ h9 => h9) rfl (by decide +kernel) rfl rfl (Nat.le_of_ble_eq_true rfl) dX6_costOfRecord_22 (fun H locs hP hD hS => ?_)
    have hP : va_P D vwCl (bw [[(ob, .inr (6, [.ref so, .ref ho, .ref sl, .ref (dg 0), .ref (dc 0), .ref (dt 0)]))], zL cI dt (zC z 0), zL cI d z]) H := hP
    have hD : va_D A (bw [[(ob, .inr (6, [.ref so, .ref ho, .ref sl, .ref (dg 0), .ref (dc 0), .ref (dt 0)]))], zL cI dt (zC z 0), zL cI d z]) := hD
    refine lv_aload_n hx hb dX6_costOfRecord_25 rfl (lv_at hl 0 rfl) ?_
    refine va_get (D := D) (ci := 6) (v := .ref (dt 0)) (C := RX6) (T := TX6) (N := 6) hx hb hts u6_X6 hown hK hP 0 rfl rfl 5 (by decide) (hts _ (m6 262 rfl)) (fun _ h9 => h9) rfl dX6_costOfRecord_26 ?_
    refine lv_iconst (v := 0) hx hb dX6_costOfRecord_29 (by decide) ?_
    refine lv_iconst (v := 0) hx hb dX6_costOfRecord_30 (by decide) ?_
    have hs0 := inv_st (k := 0) (x := 0) (inv_zC (c := 0) hz (by omega)) (show (zC z 0).1.1 = true from c4_1) (by decide) (Or.inl (by decide))
    refine bq_backi (bq_runV hX good6 (m6 83 rfl) (b2_store l D cI dt (zC z 0) (inv_B (inv_zC (c := 0) hz (by omega))) 0 (by omega) 0 (stT 0 0 (zC z 0)).1 (stT 0 0 (zC z 0)).2 hs0.1) q2_store rfl (m6 297 rfl) (m6 298 rfl) (m6 299 rfl) ⟨Nat.le_of_ble_eq_true rfl, Nat.le_of_ble_eq_true rfl⟩ hK hN [0] rfl hP hD [1] (by decide) rfl (ci := 2) (q0 := 0) rfl rfl rfl hl.1 rfl (Nat.le_of_ble_eq_true rfl) dX6_costOfRecord_31 ⟨Nat.zero_le _, Nat.zero_le _⟩) hP hD hS [1] rfl (fun r u h => by obtain ⟨-, rfl⟩ := h; rfl) (fun r9 u H locs hpost hP hD hS => ?_)
    obtain ⟨hr9, rfl⟩ := hpost
    refine lv_as hr9 ?_
    have hP : va_P D vwCl (bw [[(ob, .inr (6, [.ref so, .ref ho, .ref sl, .ref (dg 0), .ref (dc 0), .ref (dt 0)]))], zL cI dt ((stT 0 0 (zC z 0)).2), zL cI d z]) H := hP
    have hD : va_D A (bw [[(ob, .inr (6, [.ref so, .ref ho, .ref sl, .ref (dg 0), .ref (dc 0), .ref (dt 0)]))], zL cI dt ((stT 0 0 (zC z 0)).2), zL cI d z]) := hD
    refine lv_bipush (v := (-9)) hx hb dX6_costOfRecord_34 (by decide) ?_
    refine lv_icmp_ne (tgt := 41) hx hb dX6_costOfRecord_36 (by decide) (fun c36_2 => ?_) (fun c36_2 => ?_)
    · skip
      refine lv_aload_n hx hb dX6_costOfRecord_41 rfl (lv_at hl 0 rfl) ?_
      refine va_get (D := D) (ci := 6) (v := .ref (dt 0)) (C := RX6) (T := TX6) (N := 6) hx hb hts u6_X6 hown hK hP 0 rfl rfl 5 (by decide) (hts _ (m6 262 rfl)) (fun _ h9 => h9) rfl dX6_costOfRecord_42 ?_
      refine va_get (D := D) (ci := 2) (v := .ref (dt 10)) (C := RX2) (T := TX2) (N := 8) hx hb hts u6_X2 hown hK hP 1 rfl rfl 1 (by decide) (hts _ (m6 294 rfl)) (fun _ h9 => h9) rfl dX6_costOfRecord_45 ?_
      refine va_get (D := D) (ci := 5) (v := .int (((stT 0 0 (zC z 0)).2).2.1 5)) (C := RX5) (T := TX5) (N := 8) hx hb hts u6_X5 hown hK hP 11 rfl rfl 0 (by decide) (hts _ (m6 295 rfl)) (fun _ h9 => h9) rfl dX6_costOfRecord_48 ?_
      refine lv_aload_n hx hb dX6_costOfRecord_51 rfl (lv_at hl 1 rfl) ?_
      refine va_get (D := D) (ci := 2) (v := .ref (d 10)) (C := RX2) (T := TX2) (N := 8) hx hb hts u6_X2 hown hK hP 12 rfl rfl 1 (by decide) (hts _ (m6 294 rfl)) (fun _ h9 => h9) rfl dX6_costOfRecord_52 ?_
      refine va_get (D := D) (ci := 5) (v := .int (z.2.1 5)) (C := RX5) (T := TX5) (N := 8) hx hb hts u6_X5 hown hK hP 22 rfl rfl 0 (by decide) (hts _ (m6 295 rfl)) (fun _ h9 => h9) rfl dX6_costOfRecord_55 ?_
      refine lv_isub hx hb dX6_costOfRecord_58 ?_
      exact bq_reti hX hr hlocks hS hP ⟨by rw [csV, if_pos c4_1, if_neg c36_2], _, (inv_B hs0.2), rfl⟩ dX6_costOfRecord_59
    · skip
      refine lv_iconst (v := 0) hx hb dX6_costOfRecord_39 (by decide) ?_
      exact bq_reti hX hr hlocks hS hP ⟨by rw [csV, if_pos c4_1, if_pos c36_2], _, (inv_B hs0.2), rfl⟩ dX6_costOfRecord_40
  · skip
    have c4_1 := bI_f c4_1
    refine lv_iconst (v := 0) hx hb dX6_costOfRecord_7 (by decide) ?_
    exact bq_reti hX hr hlocks hS hP ⟨by rw [csV, if_neg c4_1], _, hBt, rfl⟩ dX6_costOfRecord_8
theorem dX6_perform_0 : decode cX6_perform 0 = .ok (.iload_n 2, 1) := by decide +kernel
theorem dX6_perform_1 : decode cX6_perform 1 = .ok (.tableswitch 256 1 9 #[51, 77, 116, 146, 163, 168, 194, 224, 240], 51) := by decide +kernel
theorem dX6_perform_52 : decode cX6_perform 52 = .ok (.aload_n 0, 1) := by decide +kernel
theorem dX6_perform_53 : decode cX6_perform 53 = .ok (.aload_n 1, 1) := by decide +kernel
theorem dX6_perform_54 : decode cX6_perform 54 = .ok (.invokevirtual 182, 3) := by decide +kernel
theorem dX6_perform_57 : decode cX6_perform 57 = .ok (.ifCond .le 19, 3) := by decide +kernel
theorem dX6_perform_60 : decode cX6_perform 60 = .ok (.aload_n 1, 1) := by decide +kernel
theorem dX6_perform_61 : decode cX6_perform 61 = .ok (.iload_n 3, 1) := by decide +kernel
theorem dX6_perform_62 : decode cX6_perform 62 = .ok (.iload 4, 2) := by decide +kernel
theorem dX6_perform_64 : decode cX6_perform 64 = .ok (.invokevirtual 192, 3) := by decide +kernel
theorem dX6_perform_67 : decode cX6_perform 67 = .ok (.bipush (-9), 2) := by decide +kernel
theorem dX6_perform_69 : decode cX6_perform 69 = .ok (.if_icmp .eq 7, 3) := by decide +kernel
theorem dX6_perform_72 : decode cX6_perform 72 = .ok (.iconst 1, 1) := by decide +kernel
theorem dX6_perform_73 : decode cX6_perform 73 = .ok (.goto 4, 3) := by decide +kernel
theorem dX6_perform_76 : decode cX6_perform 76 = .ok (.iconst 0, 1) := by decide +kernel
theorem dX6_perform_77 : decode cX6_perform 77 = .ok (.ireturn, 1) := by decide +kernel
theorem dX6_perform_78 : decode cX6_perform 78 = .ok (.aload_n 1, 1) := by decide +kernel
theorem dX6_perform_79 : decode cX6_perform 79 = .ok (.getfield 122, 3) := by decide +kernel
theorem dX6_perform_82 : decode cX6_perform 82 = .ok (.iload_n 3, 1) := by decide +kernel
theorem dX6_perform_83 : decode cX6_perform 83 = .ok (.invokevirtual 164, 3) := by decide +kernel
theorem dX6_perform_86 : decode cX6_perform 86 = .ok (.bipush (-9), 2) := by decide +kernel
theorem dX6_perform_88 : decode cX6_perform 88 = .ok (.if_icmp .eq 27, 3) := by decide +kernel
theorem dX6_perform_91 : decode cX6_perform 91 = .ok (.aload_n 0, 1) := by decide +kernel
theorem dX6_perform_92 : decode cX6_perform 92 = .ok (.aload_n 1, 1) := by decide +kernel
theorem dX6_perform_93 : decode cX6_perform 93 = .ok (.invokevirtual 182, 3) := by decide +kernel
theorem dX6_perform_96 : decode cX6_perform 96 = .ok (.ifCond .le 19, 3) := by decide +kernel
theorem dX6_perform_99 : decode cX6_perform 99 = .ok (.aload_n 1, 1) := by decide +kernel
theorem dX6_perform_100 : decode cX6_perform 100 = .ok (.iload_n 3, 1) := by decide +kernel
theorem dX6_perform_101 : decode cX6_perform 101 = .ok (.bipush (-9), 2) := by decide +kernel
theorem dX6_perform_103 : decode cX6_perform 103 = .ok (.invokevirtual 192, 3) := by decide +kernel
theorem dX6_perform_106 : decode cX6_perform 106 = .ok (.bipush (-9), 2) := by decide +kernel
theorem dX6_perform_108 : decode cX6_perform 108 = .ok (.if_icmp .eq 7, 3) := by decide +kernel
theorem dX6_perform_111 : decode cX6_perform 111 = .ok (.iconst 1, 1) := by decide +kernel
theorem dX6_perform_112 : decode cX6_perform 112 = .ok (.goto 4, 3) := by decide +kernel
theorem dX6_perform_115 : decode cX6_perform 115 = .ok (.iconst 0, 1) := by decide +kernel
theorem dX6_perform_116 : decode cX6_perform 116 = .ok (.ireturn, 1) := by decide +kernel
theorem dX6_perform_117 : decode cX6_perform 117 = .ok (.aload_n 1, 1) := by decide +kernel
theorem dX6_perform_118 : decode cX6_perform 118 = .ok (.invokevirtual 197, 3) := by decide +kernel
theorem dX6_perform_121 : decode cX6_perform 121 = .ok (.istore 5, 2) := by decide +kernel
theorem dX6_perform_123 : decode cX6_perform 123 = .ok (.iload 5, 2) := by decide +kernel
theorem dX6_perform_125 : decode cX6_perform 125 = .ok (.bipush (-9), 2) := by decide +kernel
theorem dX6_perform_127 : decode cX6_perform 127 = .ok (.if_icmp .eq 18, 3) := by decide +kernel
theorem dX6_perform_130 : decode cX6_perform 130 = .ok (.aload_n 1, 1) := by decide +kernel
theorem dX6_perform_131 : decode cX6_perform 131 = .ok (.iload 5, 2) := by decide +kernel
theorem dX6_perform_133 : decode cX6_perform 133 = .ok (.invokevirtual 202, 3) := by decide +kernel
theorem dX6_perform_136 : decode cX6_perform 136 = .ok (.bipush (-9), 2) := by decide +kernel
theorem dX6_perform_138 : decode cX6_perform 138 = .ok (.if_icmp .eq 7, 3) := by decide +kernel
theorem dX6_perform_141 : decode cX6_perform 141 = .ok (.iconst 1, 1) := by decide +kernel
theorem dX6_perform_142 : decode cX6_perform 142 = .ok (.goto 4, 3) := by decide +kernel
theorem dX6_perform_145 : decode cX6_perform 145 = .ok (.iconst 0, 1) := by decide +kernel
theorem dX6_perform_146 : decode cX6_perform 146 = .ok (.ireturn, 1) := by decide +kernel
theorem dX6_perform_147 : decode cX6_perform 147 = .ok (.aload_n 1, 1) := by decide +kernel
theorem dX6_perform_148 : decode cX6_perform 148 = .ok (.getfield 158, 3) := by decide +kernel
theorem dX6_perform_151 : decode cX6_perform 151 = .ok (.ifCond .eq 11, 3) := by decide +kernel
theorem dX6_perform_154 : decode cX6_perform 154 = .ok (.aload_n 1, 1) := by decide +kernel
theorem dX6_perform_155 : decode cX6_perform 155 = .ok (.iload 4, 2) := by decide +kernel
theorem dX6_perform_157 : decode cX6_perform 157 = .ok (.putfield 207, 3) := by decide +kernel
theorem dX6_perform_160 : decode cX6_perform 160 = .ok (.iconst 1, 1) := by decide +kernel
theorem dX6_perform_161 : decode cX6_perform 161 = .ok (.ireturn, 1) := by decide +kernel
theorem dX6_perform_162 : decode cX6_perform 162 = .ok (.iconst 0, 1) := by decide +kernel
theorem dX6_perform_163 : decode cX6_perform 163 = .ok (.ireturn, 1) := by decide +kernel
theorem dX6_perform_164 : decode cX6_perform 164 = .ok (.aload_n 1, 1) := by decide +kernel
theorem dX6_perform_165 : decode cX6_perform 165 = .ok (.invokevirtual 212, 3) := by decide +kernel
theorem dX6_perform_168 : decode cX6_perform 168 = .ok (.ireturn, 1) := by decide +kernel
theorem dX6_perform_169 : decode cX6_perform 169 = .ok (.aload_n 1, 1) := by decide +kernel
theorem dX6_perform_170 : decode cX6_perform 170 = .ok (.getfield 158, 3) := by decide +kernel
theorem dX6_perform_173 : decode cX6_perform 173 = .ok (.ifCond .eq 20, 3) := by decide +kernel
theorem dX6_perform_176 : decode cX6_perform 176 = .ok (.aload_n 1, 1) := by decide +kernel
theorem dX6_perform_177 : decode cX6_perform 177 = .ok (.getfield 122, 3) := by decide +kernel
theorem dX6_perform_180 : decode cX6_perform 180 = .ok (.iload_n 3, 1) := by decide +kernel
theorem dX6_perform_181 : decode cX6_perform 181 = .ok (.invokevirtual 164, 3) := by decide +kernel
theorem dX6_perform_184 : decode cX6_perform 184 = .ok (.iload 4, 2) := by decide +kernel
theorem dX6_perform_186 : decode cX6_perform 186 = .ok (.if_icmp .ne 7, 3) := by decide +kernel
theorem dX6_perform_189 : decode cX6_perform 189 = .ok (.iconst 1, 1) := by decide +kernel
theorem dX6_perform_190 : decode cX6_perform 190 = .ok (.goto 4, 3) := by decide +kernel
theorem dX6_perform_193 : decode cX6_perform 193 = .ok (.iconst 0, 1) := by decide +kernel
theorem dX6_perform_194 : decode cX6_perform 194 = .ok (.ireturn, 1) := by decide +kernel
theorem dX6_perform_195 : decode cX6_perform 195 = .ok (.aload_n 1, 1) := by decide +kernel
theorem dX6_perform_196 : decode cX6_perform 196 = .ok (.getfield 122, 3) := by decide +kernel
theorem dX6_perform_199 : decode cX6_perform 199 = .ok (.iload_n 3, 1) := by decide +kernel
theorem dX6_perform_200 : decode cX6_perform 200 = .ok (.invokevirtual 143, 3) := by decide +kernel
theorem dX6_perform_203 : decode cX6_perform 203 = .ok (.ifCond .eq 20, 3) := by decide +kernel
theorem dX6_perform_206 : decode cX6_perform 206 = .ok (.aload_n 1, 1) := by decide +kernel
theorem dX6_perform_207 : decode cX6_perform 207 = .ok (.getfield 122, 3) := by decide +kernel
theorem dX6_perform_210 : decode cX6_perform 210 = .ok (.iload_n 3, 1) := by decide +kernel
theorem dX6_perform_211 : decode cX6_perform 211 = .ok (.invokevirtual 280, 3) := by decide +kernel
theorem dX6_perform_214 : decode cX6_perform 214 = .ok (.iload 4, 2) := by decide +kernel
theorem dX6_perform_216 : decode cX6_perform 216 = .ok (.if_icmp .gt 7, 3) := by decide +kernel
theorem dX6_perform_219 : decode cX6_perform 219 = .ok (.iconst 1, 1) := by decide +kernel
theorem dX6_perform_220 : decode cX6_perform 220 = .ok (.goto 4, 3) := by decide +kernel
theorem dX6_perform_223 : decode cX6_perform 223 = .ok (.iconst 0, 1) := by decide +kernel
theorem dX6_perform_224 : decode cX6_perform 224 = .ok (.ireturn, 1) := by decide +kernel
theorem dX6_perform_225 : decode cX6_perform 225 = .ok (.aload_n 1, 1) := by decide +kernel
theorem dX6_perform_226 : decode cX6_perform 226 = .ok (.iconst 4, 1) := by decide +kernel
theorem dX6_perform_227 : decode cX6_perform 227 = .ok (.invokevirtual 112, 3) := by decide +kernel
theorem dX6_perform_230 : decode cX6_perform 230 = .ok (.iload 4, 2) := by decide +kernel
theorem dX6_perform_232 : decode cX6_perform 232 = .ok (.if_icmp .lt 7, 3) := by decide +kernel
theorem dX6_perform_235 : decode cX6_perform 235 = .ok (.iconst 1, 1) := by decide +kernel
theorem dX6_perform_236 : decode cX6_perform 236 = .ok (.goto 4, 3) := by decide +kernel
theorem dX6_perform_239 : decode cX6_perform 239 = .ok (.iconst 0, 1) := by decide +kernel
theorem dX6_perform_240 : decode cX6_perform 240 = .ok (.ireturn, 1) := by decide +kernel
theorem dX6_perform_241 : decode cX6_perform 241 = .ok (.iload 4, 2) := by decide +kernel
theorem dX6_perform_243 : decode cX6_perform 243 = .ok (.iconst 2, 1) := by decide +kernel
theorem dX6_perform_244 : decode cX6_perform 244 = .ok (.if_icmp .gt 11, 3) := by decide +kernel
theorem dX6_perform_247 : decode cX6_perform 247 = .ok (.aload_n 1, 1) := by decide +kernel
theorem dX6_perform_248 : decode cX6_perform 248 = .ok (.iload 4, 2) := by decide +kernel
theorem dX6_perform_250 : decode cX6_perform 250 = .ok (.putfield 220, 3) := by decide +kernel
theorem dX6_perform_253 : decode cX6_perform 253 = .ok (.iconst 1, 1) := by decide +kernel
theorem dX6_perform_254 : decode cX6_perform 254 = .ok (.ireturn, 1) := by decide +kernel
theorem dX6_perform_255 : decode cX6_perform 255 = .ok (.iconst 0, 1) := by decide +kernel
theorem dX6_perform_256 : decode cX6_perform 256 = .ok (.ireturn, 1) := by decide +kernel
theorem q6_perform : CQ W6 yX6_perform cX6_perform 6 (some .boolean) 4 := ⟨(m6 343 rfl), by decide, by decide, by decide +kernel⟩
set_option maxHeartbeats 4000000 in
set_option maxRecDepth 100000 in
theorem c6_perform (l : Launch) (D : va_G) (cI : ClassId) (ob so ho sl : Nat) (dg dc dt : Nat → Nat) (zt : LgS) (hBt : zt.1.2 ≤ 8) (d : Nat → Nat) (z : LgS) (hz : Inv z) (cmd k : Nat) (hc1 : 1 ≤ cmd) (hc9 : cmd ≤ 9) (hk : k < 16) (n : Int32) (hn1 : cmd = 1 → ¬ n = -9) : BQi l yX6_perform cX6_perform 6 .boolean W6 5 144 D [[(ob, .inr (6, [.ref so, .ref ho, .ref sl, .ref (dg 0), .ref (dc 0), .ref (dt 0)]))], zL cI dt zt, zL cI d z] [(cI, .int)] [.ref ob, .ref (d 0), .int (nI (cmd)), .int (nI (k)), .int (n)] (fun (r9 : Int32) (u9 : List va_W) => r9 = (bI (pfP z cmd k n)) ∧ ∃ zt9 : LgS, (zt9.1.2 ≤ 8) ∧ u9 = [[(ob, .inr (6, [.ref so, .ref ho, .ref sl, .ref (dg 0), .ref (dc 0), .ref (dt 0)]))], zL cI dt zt9, zL cI d (pfZ z cmd k n)]) := by
  refine gq_of RX6 (by decide) rfl (Nat.le_of_ble_eq_true rfl) ?_
  intro p e s m below meth c ls H hX hr hlocks hK hN hP hD hS hl
  generalize gp_A (bw [[(ob, .inr (6, [.ref so, .ref ho, .ref sl, .ref (dg 0), .ref (dc 0), .ref (dt 0)]))], zL cI dt zt, zL cI d z]) = A at hD hS ⊢
  have hx := hX.1
  have hb := hX.2.1
  have hown := hX.2.2.2.1
  have hts := hX.2.2.2.2
  have hl : lv_has ls 6 [(0, .ref ob), (1, .ref (d 0)), (2, .int (nI (cmd))), (3, .int (nI (k))), (4, .int (n))] := hl
  rcases (show cmd = 1 ∨ cmd = 2 ∨ cmd = 3 ∨ cmd = 4 ∨ cmd = 5 ∨ cmd = 6 ∨ cmd = 7 ∨ cmd = 8 ∨ cmd = 9 by omega) with rfl | rfl | rfl | rfl | rfl | rfl | rfl | rfl | rfl
  · skip
    have hl : lv_has ls 6 [(0, .ref ob), (1, .ref (d 0)), (2, .int (1)), (3, .int (nI (k))), (4, .int (n))] := hl
    refine lv_iload_n hx hb dX6_perform_0 rfl (lv_at hl 2 rfl) ?_
    refine lv_tableIn (off := 51) (tgt := 52) hx hb dX6_perform_1 (by decide) (by decide) (by decide) (by decide) ?_
    refine lv_aload_n hx hb dX6_perform_52 rfl (lv_at hl 0 rfl) ?_
    refine lv_aload_n hx hb dX6_perform_53 rfl (lv_at hl 1 rfl) ?_
    refine bq_backi (bq_runV hX good6 (m6 31 rfl) (c6_costOfRecord l D cI ob so ho sl dg dc dt zt hBt d z hz) q6_costOfRecord rfl (m6 303 rfl) (m6 304 rfl) (m6 305 rfl) ⟨Nat.le_of_ble_eq_true rfl, Nat.le_of_ble_eq_true rfl⟩ hK hN [0] rfl hP hD [0, 1, 2] (by decide) rfl (ci := 6) (q0 := 0) rfl rfl rfl hl.1 rfl (Nat.le_of_ble_eq_true rfl) dX6_perform_54 ⟨Nat.zero_le _, Nat.zero_le _⟩) hP hD hS [0, 1, 2] rfl (fun r u h => by obtain ⟨-, x1, hx2, rfl⟩ := h; rfl) (fun r9 u H locs hpost hP hD hS => ?_)
    obtain ⟨hr9, x1, hx2, rfl⟩ := hpost
    refine lv_as hr9 ?_
    have hP : va_P D vwCl (bw [[(ob, .inr (6, [.ref so, .ref ho, .ref sl, .ref (dg 0), .ref (dc 0), .ref (dt 0)]))], zL cI dt x1, zL cI d z]) H := hP
    have hD : va_D A (bw [[(ob, .inr (6, [.ref so, .ref ho, .ref sl, .ref (dg 0), .ref (dc 0), .ref (dt 0)]))], zL cI dt x1, zL cI d z]) := hD
    refine lv_if_le (tgt := 76) hx hb dX6_perform_57 (by decide) (fun c57_3 => ?_) (fun c57_3 => ?_)
    · skip
      have c57_3 := i_nlt c57_3
      refine lv_iconst (v := 0) hx hb dX6_perform_76 (by decide) ?_
      have hP : va_P D vwCl (bw [[(ob, .inr (6, [.ref so, .ref ho, .ref sl, .ref (dg 0), .ref (dc 0), .ref (dt 0)]))], zL cI dt x1, zL cI d (pfZ z 1 k n)]) H := by
        rw [show (pfZ z 1 k n) = z from pfZ_1.trans (if_neg c57_3)]
        exact hP
      have hD : va_D A (bw [[(ob, .inr (6, [.ref so, .ref ho, .ref sl, .ref (dg 0), .ref (dc 0), .ref (dt 0)]))], zL cI dt x1, zL cI d (pfZ z 1 k n)]) := by
        rw [show (pfZ z 1 k n) = z from pfZ_1.trans (if_neg c57_3)]
        exact hD
      exact bq_retz hX hr hlocks hS hP (P := False) ((bI_0 (fun z => z)).symm) ⟨(bI_0 (fun y => c57_3 (pfP_1.mp y).1)).symm, _, hx2, rfl⟩ dX6_perform_77
    · skip
      have c57_3 := i_lt c57_3
      refine lv_aload_n hx hb dX6_perform_60 rfl (lv_at hl 1 rfl) ?_
      refine lv_iload_n hx hb dX6_perform_61 rfl (lv_at hl 3 rfl) ?_
      refine lv_iload hx hb dX6_perform_62 (lv_at hl 4 rfl) ?_
      have hs1 := inv_st (k := k) (x := n) hz (cs_on c57_3) hk (Or.inl (hn1 rfl))
      refine bq_backi (bq_runV hX good6 (m6 83 rfl) (b2_store l D cI d z (inv_B hz) k (by omega) n (stT k n z).1 (stT k n z).2 hs1.1) q2_store rfl (m6 297 rfl) (m6 298 rfl) (m6 299 rfl) ⟨Nat.le_of_ble_eq_true rfl, Nat.le_of_ble_eq_true rfl⟩ hK hN [0] rfl hP hD [2] (by decide) rfl (ci := 2) (q0 := 0) rfl rfl rfl hl.1 rfl (Nat.le_of_ble_eq_true rfl) dX6_perform_64 ⟨Nat.zero_le _, Nat.zero_le _⟩) hP hD hS [2] rfl (fun r u h => by obtain ⟨-, rfl⟩ := h; rfl) (fun r9 u H locs hpost hP hD hS => ?_)
      obtain ⟨hr9, rfl⟩ := hpost
      refine lv_as hr9 ?_
      have hP : va_P D vwCl (bw [[(ob, .inr (6, [.ref so, .ref ho, .ref sl, .ref (dg 0), .ref (dc 0), .ref (dt 0)]))], zL cI dt x1, zL cI d ((stT k n z).2)]) H := hP
      have hD : va_D A (bw [[(ob, .inr (6, [.ref so, .ref ho, .ref sl, .ref (dg 0), .ref (dc 0), .ref (dt 0)]))], zL cI dt x1, zL cI d ((stT k n z).2)]) := hD
      refine lv_bipush (v := (-9)) hx hb dX6_perform_67 (by decide) ?_
      refine lv_icmp_eq (tgt := 76) hx hb dX6_perform_69 (by decide) (fun c69_4 => ?_) (fun c69_4 => ?_)
      · skip
        refine lv_iconst (v := 0) hx hb dX6_perform_76 (by decide) ?_
        have hP : va_P D vwCl (bw [[(ob, .inr (6, [.ref so, .ref ho, .ref sl, .ref (dg 0), .ref (dc 0), .ref (dt 0)]))], zL cI dt x1, zL cI d (pfZ z 1 k n)]) H := by
          rw [show (pfZ z 1 k n) = ((stT k n z).2) from pfZ_1.trans (if_pos c57_3)]
          exact hP
        have hD : va_D A (bw [[(ob, .inr (6, [.ref so, .ref ho, .ref sl, .ref (dg 0), .ref (dc 0), .ref (dt 0)]))], zL cI dt x1, zL cI d (pfZ z 1 k n)]) := by
          rw [show (pfZ z 1 k n) = ((stT k n z).2) from pfZ_1.trans (if_pos c57_3)]
          exact hD
        exact bq_retz hX hr hlocks hS hP (P := False) ((bI_0 (fun z => z)).symm) ⟨(bI_0 (fun y => (pfP_1.mp y).2 c69_4)).symm, _, hx2, rfl⟩ dX6_perform_77
      · skip
        refine lv_iconst (v := 1) hx hb dX6_perform_72 (by decide) ?_
        refine lv_goto (tgt := 77) hx hb dX6_perform_73 (by decide) ?_
        have hP : va_P D vwCl (bw [[(ob, .inr (6, [.ref so, .ref ho, .ref sl, .ref (dg 0), .ref (dc 0), .ref (dt 0)]))], zL cI dt x1, zL cI d (pfZ z 1 k n)]) H := by
          rw [show (pfZ z 1 k n) = ((stT k n z).2) from pfZ_1.trans (if_pos c57_3)]
          exact hP
        have hD : va_D A (bw [[(ob, .inr (6, [.ref so, .ref ho, .ref sl, .ref (dg 0), .ref (dc 0), .ref (dt 0)]))], zL cI dt x1, zL cI d (pfZ z 1 k n)]) := by
          rw [show (pfZ z 1 k n) = ((stT k n z).2) from pfZ_1.trans (if_pos c57_3)]
          exact hD
        exact bq_retz hX hr hlocks hS hP (P := True) ((bI_1 trivial).symm) ⟨(bI_1 (pfP_1.mpr ⟨c57_3, c69_4⟩)).symm, _, hx2, rfl⟩ dX6_perform_77
  · skip
    have hl : lv_has ls 6 [(0, .ref ob), (1, .ref (d 0)), (2, .int (2)), (3, .int (nI (k))), (4, .int (n))] := hl
    refine lv_iload_n hx hb dX6_perform_0 rfl (lv_at hl 2 rfl) ?_
    refine lv_tableIn (off := 77) (tgt := 78) hx hb dX6_perform_1 (by decide) (by decide) (by decide) (by decide) ?_
    refine lv_aload_n hx hb dX6_perform_78 rfl (lv_at hl 1 rfl) ?_
    refine va_get (D := D) (ci := 2) (v := .ref (d 1)) (C := RX2) (T := TX2) (N := 8) hx hb hts u6_X2 hown hK hP 12 rfl rfl 0 (by decide) (hts _ (m6 301 rfl)) (fun _ h9 => h9) rfl dX6_perform_79 ?_
    refine lv_iload_n hx hb dX6_perform_82 rfl (lv_at hl 3 rfl) ?_
    refine bq_readV hX good6 (m6 23 rfl) (b0_valueOf l D cI d z (inv_B hz) (nI (k))) q0_valueOf rfl (m6 307 rfl) (m6 42 rfl) (m6 43 rfl) ⟨Nat.le_of_ble_eq_true rfl, Nat.le_of_ble_eq_true rfl⟩ hK hN [0] rfl hP [2] rfl (ci := 0) (q0 := 1) rfl rfl rfl hS hl.1 rfl (Nat.le_of_ble_eq_true rfl) dX6_perform_83 ⟨Nat.zero_le _, Nat.zero_le _⟩ (fun H locs hP hS => ?_)
    refine lv_bipush (v := (-9)) hx hb dX6_perform_86 (by decide) ?_
    refine lv_icmp_eq (tgt := 115) hx hb dX6_perform_88 (by decide) (fun c88_5 => ?_) (fun c88_5 => ?_)
    · skip
      refine lv_iconst (v := 0) hx hb dX6_perform_115 (by decide) ?_
      have hP : va_P D vwCl (bw [[(ob, .inr (6, [.ref so, .ref ho, .ref sl, .ref (dg 0), .ref (dc 0), .ref (dt 0)]))], zL cI dt zt, zL cI d (pfZ z 2 k n)]) H := by
        rw [show (pfZ z 2 k n) = z from pfZ_2.trans (if_neg (fun y => y.1 c88_5))]
        exact hP
      have hD : va_D A (bw [[(ob, .inr (6, [.ref so, .ref ho, .ref sl, .ref (dg 0), .ref (dc 0), .ref (dt 0)]))], zL cI dt zt, zL cI d (pfZ z 2 k n)]) := by
        rw [show (pfZ z 2 k n) = z from pfZ_2.trans (if_neg (fun y => y.1 c88_5))]
        exact hD
      exact bq_retz hX hr hlocks hS hP (P := False) ((bI_0 (fun z => z)).symm) ⟨(bI_0 (fun y => (pfP_2.mp y).1 c88_5)).symm, _, hBt, rfl⟩ dX6_perform_116
    · skip
      refine lv_aload_n hx hb dX6_perform_91 rfl (lv_at hl 0 rfl) ?_
      refine lv_aload_n hx hb dX6_perform_92 rfl (lv_at hl 1 rfl) ?_
      refine bq_backi (bq_runV hX good6 (m6 31 rfl) (c6_costOfRecord l D cI ob so ho sl dg dc dt zt hBt d z hz) q6_costOfRecord rfl (m6 303 rfl) (m6 304 rfl) (m6 305 rfl) ⟨Nat.le_of_ble_eq_true rfl, Nat.le_of_ble_eq_true rfl⟩ hK hN [0] rfl hP hD [0, 1, 2] (by decide) rfl (ci := 6) (q0 := 0) rfl rfl rfl hl.1 rfl (Nat.le_of_ble_eq_true rfl) dX6_perform_93 ⟨Nat.zero_le _, Nat.zero_le _⟩) hP hD hS [0, 1, 2] rfl (fun r u h => by obtain ⟨-, x6, hx7, rfl⟩ := h; rfl) (fun r9 u H locs hpost hP hD hS => ?_)
      obtain ⟨hr9, x6, hx7, rfl⟩ := hpost
      refine lv_as hr9 ?_
      have hP : va_P D vwCl (bw [[(ob, .inr (6, [.ref so, .ref ho, .ref sl, .ref (dg 0), .ref (dc 0), .ref (dt 0)]))], zL cI dt x6, zL cI d z]) H := hP
      have hD : va_D A (bw [[(ob, .inr (6, [.ref so, .ref ho, .ref sl, .ref (dg 0), .ref (dc 0), .ref (dt 0)]))], zL cI dt x6, zL cI d z]) := hD
      refine lv_if_le (tgt := 115) hx hb dX6_perform_96 (by decide) (fun c96_8 => ?_) (fun c96_8 => ?_)
      · skip
        have c96_8 := i_nlt c96_8
        refine lv_iconst (v := 0) hx hb dX6_perform_115 (by decide) ?_
        have hP : va_P D vwCl (bw [[(ob, .inr (6, [.ref so, .ref ho, .ref sl, .ref (dg 0), .ref (dc 0), .ref (dt 0)]))], zL cI dt x6, zL cI d (pfZ z 2 k n)]) H := by
          rw [show (pfZ z 2 k n) = z from pfZ_2.trans (if_neg (fun y => c96_8 y.2))]
          exact hP
        have hD : va_D A (bw [[(ob, .inr (6, [.ref so, .ref ho, .ref sl, .ref (dg 0), .ref (dc 0), .ref (dt 0)]))], zL cI dt x6, zL cI d (pfZ z 2 k n)]) := by
          rw [show (pfZ z 2 k n) = z from pfZ_2.trans (if_neg (fun y => c96_8 y.2))]
          exact hD
        exact bq_retz hX hr hlocks hS hP (P := False) ((bI_0 (fun z => z)).symm) ⟨(bI_0 (fun y => c96_8 (pfP_2.mp y).2.1)).symm, _, hx7, rfl⟩ dX6_perform_116
      · skip
        have c96_8 := i_lt c96_8
        refine lv_aload_n hx hb dX6_perform_99 rfl (lv_at hl 1 rfl) ?_
        refine lv_iload_n hx hb dX6_perform_100 rfl (lv_at hl 3 rfl) ?_
        refine lv_bipush (v := (-9)) hx hb dX6_perform_101 (by decide) ?_
        have hs1 := inv_st (k := k) (x := -9) hz (cs_on c96_8) hk (Or.inr c88_5)
        refine bq_backi (bq_runV hX good6 (m6 83 rfl) (b2_store l D cI d z (inv_B hz) k (by omega) (-9) (stT k (-9) z).1 (stT k (-9) z).2 hs1.1) q2_store rfl (m6 297 rfl) (m6 298 rfl) (m6 299 rfl) ⟨Nat.le_of_ble_eq_true rfl, Nat.le_of_ble_eq_true rfl⟩ hK hN [0] rfl hP hD [2] (by decide) rfl (ci := 2) (q0 := 0) rfl rfl rfl hl.1 rfl (Nat.le_of_ble_eq_true rfl) dX6_perform_103 ⟨Nat.zero_le _, Nat.zero_le _⟩) hP hD hS [2] rfl (fun r u h => by obtain ⟨-, rfl⟩ := h; rfl) (fun r9 u H locs hpost hP hD hS => ?_)
        obtain ⟨hr9, rfl⟩ := hpost
        refine lv_as hr9 ?_
        have hP : va_P D vwCl (bw [[(ob, .inr (6, [.ref so, .ref ho, .ref sl, .ref (dg 0), .ref (dc 0), .ref (dt 0)]))], zL cI dt x6, zL cI d ((stT k (-9) z).2)]) H := hP
        have hD : va_D A (bw [[(ob, .inr (6, [.ref so, .ref ho, .ref sl, .ref (dg 0), .ref (dc 0), .ref (dt 0)]))], zL cI dt x6, zL cI d ((stT k (-9) z).2)]) := hD
        refine lv_bipush (v := (-9)) hx hb dX6_perform_106 (by decide) ?_
        refine lv_icmp_eq (tgt := 115) hx hb dX6_perform_108 (by decide) (fun c108_9 => ?_) (fun c108_9 => ?_)
        · skip
          refine lv_iconst (v := 0) hx hb dX6_perform_115 (by decide) ?_
          have hP : va_P D vwCl (bw [[(ob, .inr (6, [.ref so, .ref ho, .ref sl, .ref (dg 0), .ref (dc 0), .ref (dt 0)]))], zL cI dt x6, zL cI d (pfZ z 2 k n)]) H := by
            rw [show (pfZ z 2 k n) = ((stT k (-9) z).2) from pfZ_2.trans (if_pos ⟨c88_5, c96_8⟩)]
            exact hP
          have hD : va_D A (bw [[(ob, .inr (6, [.ref so, .ref ho, .ref sl, .ref (dg 0), .ref (dc 0), .ref (dt 0)]))], zL cI dt x6, zL cI d (pfZ z 2 k n)]) := by
            rw [show (pfZ z 2 k n) = ((stT k (-9) z).2) from pfZ_2.trans (if_pos ⟨c88_5, c96_8⟩)]
            exact hD
          exact bq_retz hX hr hlocks hS hP (P := False) ((bI_0 (fun z => z)).symm) ⟨(bI_0 (fun y => (pfP_2.mp y).2.2 c108_9)).symm, _, hx7, rfl⟩ dX6_perform_116
        · skip
          refine lv_iconst (v := 1) hx hb dX6_perform_111 (by decide) ?_
          refine lv_goto (tgt := 116) hx hb dX6_perform_112 (by decide) ?_
          have hP : va_P D vwCl (bw [[(ob, .inr (6, [.ref so, .ref ho, .ref sl, .ref (dg 0), .ref (dc 0), .ref (dt 0)]))], zL cI dt x6, zL cI d (pfZ z 2 k n)]) H := by
            rw [show (pfZ z 2 k n) = ((stT k (-9) z).2) from pfZ_2.trans (if_pos ⟨c88_5, c96_8⟩)]
            exact hP
          have hD : va_D A (bw [[(ob, .inr (6, [.ref so, .ref ho, .ref sl, .ref (dg 0), .ref (dc 0), .ref (dt 0)]))], zL cI dt x6, zL cI d (pfZ z 2 k n)]) := by
            rw [show (pfZ z 2 k n) = ((stT k (-9) z).2) from pfZ_2.trans (if_pos ⟨c88_5, c96_8⟩)]
            exact hD
          exact bq_retz hX hr hlocks hS hP (P := True) ((bI_1 trivial).symm) ⟨(bI_1 (pfP_2.mpr ⟨c88_5, c96_8, c108_9⟩)).symm, _, hx7, rfl⟩ dX6_perform_116
  · skip
    have hl : lv_has ls 6 [(0, .ref ob), (1, .ref (d 0)), (2, .int (3)), (3, .int (nI (k))), (4, .int (n))] := hl
    refine lv_iload_n hx hb dX6_perform_0 rfl (lv_at hl 2 rfl) ?_
    refine lv_tableIn (off := 116) (tgt := 117) hx hb dX6_perform_1 (by decide) (by decide) (by decide) (by decide) ?_
    refine lv_aload_n hx hb dX6_perform_117 rfl (lv_at hl 1 rfl) ?_
    refine bq_readV hX good6 (m6 83 rfl) (b2_chooseVictim l D cI d z (inv_B hz) ) q2_chooseVictim rfl (m6 308 rfl) (m6 200 rfl) (m6 201 rfl) ⟨Nat.le_of_ble_eq_true rfl, Nat.le_of_ble_eq_true rfl⟩ hK hN [0] rfl hP [2] rfl (ci := 2) (q0 := 0) rfl rfl rfl hS hl.1 rfl (Nat.le_of_ble_eq_true rfl) dX6_perform_118 ⟨Nat.zero_le _, Nat.zero_le _⟩ (fun H locs hP hS => ?_)
    refine lv_istore (lv' := [(5, .int (oI (cvZ z))), (0, .ref ob), (1, .ref (d 0)), (2, .int (3)), (3, .int (nI (k))), (4, .int (n))]) hx hb dX6_perform_121 hl (by decide) rfl (fun ls hl => ?_)
    obtain ⟨v9, hO9⟩ : ∃ v9, cvZ z = v9 := ⟨_, rfl⟩
    rcases v9 with _ | o9
    · skip
      have hl : lv_has ls 6 [(5, .int ((-9))), (0, .ref ob), (1, .ref (d 0)), (2, .int (3)), (3, .int (nI (k))), (4, .int (n))] := by rw [hO9] at hl; exact hl
      refine lv_iload hx hb dX6_perform_123 (lv_at hl 0 rfl) ?_
      refine lv_bipush (v := (-9)) hx hb dX6_perform_125 (by decide) ?_
      refine lv_icmp_eq (tgt := 145) hx hb dX6_perform_127 (by decide) (fun c127_10 => ?_) (fun c127_10 => ?_)
      · skip
        refine lv_iconst (v := 0) hx hb dX6_perform_145 (by decide) ?_
        have hP : va_P D vwCl (bw [[(ob, .inr (6, [.ref so, .ref ho, .ref sl, .ref (dg 0), .ref (dc 0), .ref (dt 0)]))], zL cI dt zt, zL cI d (pfZ z 3 k n)]) H := by
          rw [show (pfZ z 3 k n) = z from pfZ_3.trans (if_pos (show oI (cvZ z) = -9 by rw [hO9]; rfl))]
          exact hP
        have hD : va_D A (bw [[(ob, .inr (6, [.ref so, .ref ho, .ref sl, .ref (dg 0), .ref (dc 0), .ref (dt 0)]))], zL cI dt zt, zL cI d (pfZ z 3 k n)]) := by
          rw [show (pfZ z 3 k n) = z from pfZ_3.trans (if_pos (show oI (cvZ z) = -9 by rw [hO9]; rfl))]
          exact hD
        exact bq_retz hX hr hlocks hS hP (P := False) ((bI_0 (fun z => z)).symm) ⟨(bI_0 (fun y => (pfP_3.mp y).1 (by rw [hO9]; rfl))).symm, _, hBt, rfl⟩ dX6_perform_146
      · skip
        exact absurd c127_10 (by decide)
    · skip
      have hl : lv_has ls 6 [(5, .int (nI (o9))), (0, .ref ob), (1, .ref (d 0)), (2, .int (3)), (3, .int (nI (k))), (4, .int (n))] := by rw [hO9] at hl; exact hl
      have ho9 := cvF_lt hO9
      have hB9 := inv_B hz
      have hcv := cvZ_o hO9 hB9
      refine lv_iload hx hb dX6_perform_123 (lv_at hl 0 rfl) ?_
      refine lv_bipush (v := (-9)) hx hb dX6_perform_125 (by decide) ?_
      refine lv_icmp_eq (tgt := 145) hx hb dX6_perform_127 (by decide) (fun c127_11 => ?_) (fun c127_11 => ?_)
      · skip
        exact absurd c127_11 (oI_ne (by omega))
      · skip
        refine lv_aload_n hx hb dX6_perform_130 rfl (lv_at hl 2 rfl) ?_
        refine lv_iload hx hb dX6_perform_131 (lv_at hl 0 rfl) ?_
        have hs1 := inv_sb hz hO9
        refine bq_backi (bq_runV hX good6 (m6 83 rfl) (b2_sweepBlock l D cI d z (inv_B hz) o9 (by omega) (sbT o9 z).1 (sbT o9 z).2 hs1.1) q2_sweepBlock rfl (m6 309 rfl) (m6 204 rfl) (m6 205 rfl) ⟨Nat.le_of_ble_eq_true rfl, Nat.le_of_ble_eq_true rfl⟩ hK hN [0] rfl hP hD [2] (by decide) rfl (ci := 2) (q0 := 0) rfl rfl rfl hl.1 rfl (Nat.le_of_ble_eq_true rfl) dX6_perform_133 ⟨Nat.zero_le _, Nat.zero_le _⟩) hP hD hS [2] rfl (fun r u h => by obtain ⟨-, rfl⟩ := h; rfl) (fun r9 u H locs hpost hP hD hS => ?_)
        obtain ⟨hr9, rfl⟩ := hpost
        refine lv_as hr9 ?_
        have hP : va_P D vwCl (bw [[(ob, .inr (6, [.ref so, .ref ho, .ref sl, .ref (dg 0), .ref (dc 0), .ref (dt 0)]))], zL cI dt zt, zL cI d ((sbT o9 z).2)]) H := hP
        have hD : va_D A (bw [[(ob, .inr (6, [.ref so, .ref ho, .ref sl, .ref (dg 0), .ref (dc 0), .ref (dt 0)]))], zL cI dt zt, zL cI d ((sbT o9 z).2)]) := hD
        refine lv_bipush (v := (-9)) hx hb dX6_perform_136 (by decide) ?_
        refine lv_icmp_eq (tgt := 145) hx hb dX6_perform_138 (by decide) (fun c138_12 => ?_) (fun c138_12 => ?_)
        · skip
          refine lv_iconst (v := 0) hx hb dX6_perform_145 (by decide) ?_
          have hP : va_P D vwCl (bw [[(ob, .inr (6, [.ref so, .ref ho, .ref sl, .ref (dg 0), .ref (dc 0), .ref (dt 0)]))], zL cI dt zt, zL cI d (pfZ z 3 k n)]) H := by
            rw [show (pfZ z 3 k n) = ((sbT o9 z).2) from pfZ_3.trans ((if_neg hcv.2).trans (by rw [hcv.1]))]
            exact hP
          have hD : va_D A (bw [[(ob, .inr (6, [.ref so, .ref ho, .ref sl, .ref (dg 0), .ref (dc 0), .ref (dt 0)]))], zL cI dt zt, zL cI d (pfZ z 3 k n)]) := by
            rw [show (pfZ z 3 k n) = ((sbT o9 z).2) from pfZ_3.trans ((if_neg hcv.2).trans (by rw [hcv.1]))]
            exact hD
          exact bq_retz hX hr hlocks hS hP (P := False) ((bI_0 (fun z => z)).symm) ⟨(bI_0 (fun y => (pfP_3.mp y).2 (by rw [hcv.1]; exact c138_12))).symm, _, hBt, rfl⟩ dX6_perform_146
        · skip
          refine lv_iconst (v := 1) hx hb dX6_perform_141 (by decide) ?_
          refine lv_goto (tgt := 146) hx hb dX6_perform_142 (by decide) ?_
          have hP : va_P D vwCl (bw [[(ob, .inr (6, [.ref so, .ref ho, .ref sl, .ref (dg 0), .ref (dc 0), .ref (dt 0)]))], zL cI dt zt, zL cI d (pfZ z 3 k n)]) H := by
            rw [show (pfZ z 3 k n) = ((sbT o9 z).2) from pfZ_3.trans ((if_neg hcv.2).trans (by rw [hcv.1]))]
            exact hP
          have hD : va_D A (bw [[(ob, .inr (6, [.ref so, .ref ho, .ref sl, .ref (dg 0), .ref (dc 0), .ref (dt 0)]))], zL cI dt zt, zL cI d (pfZ z 3 k n)]) := by
            rw [show (pfZ z 3 k n) = ((sbT o9 z).2) from pfZ_3.trans ((if_neg hcv.2).trans (by rw [hcv.1]))]
            exact hD
          exact bq_retz hX hr hlocks hS hP (P := True) ((bI_1 trivial).symm) ⟨(bI_1 (pfP_3.mpr ⟨hcv.2, by rw [hcv.1]; exact c138_12⟩)).symm, _, hBt, rfl⟩ dX6_perform_146
  · skip
    have hl : lv_has ls 6 [(0, .ref ob), (1, .ref (d 0)), (2, .int (4)), (3, .int (nI (k))), (4, .int (n))] := hl
    refine lv_iload_n hx hb dX6_perform_0 rfl (lv_at hl 2 rfl) ?_
    refine lv_tableIn (off := 146) (tgt := 147) hx hb dX6_perform_1 (by decide) (by decide) (by decide) (by decide) ?_
    refine lv_aload_n hx hb dX6_perform_147 rfl (lv_at hl 1 rfl) ?_
    refine va_get (D := D) (ci := 2) (v := .int (bI (z.1.1 = true))) (C := RX2) (T := TX2) (N := 8) hx hb hts u6_X2 hown hK hP 12 rfl rfl 2 (by decide) (hts _ (m6 292 rfl)) (fun _ h9 => h9) rfl dX6_perform_148 ?_
    refine lv_if_eq (tgt := 162) hx hb dX6_perform_151 (by decide) (fun c151_13 => ?_) (fun c151_13 => ?_)
    · skip
      have c151_13 := bI_f c151_13
      refine lv_iconst (v := 0) hx hb dX6_perform_162 (by decide) ?_
      have hP : va_P D vwCl (bw [[(ob, .inr (6, [.ref so, .ref ho, .ref sl, .ref (dg 0), .ref (dc 0), .ref (dt 0)]))], zL cI dt zt, zL cI d (pfZ z 4 k n)]) H := by
        rw [show (pfZ z 4 k n) = z from pfZ_4.trans (if_neg c151_13)]
        exact hP
      have hD : va_D A (bw [[(ob, .inr (6, [.ref so, .ref ho, .ref sl, .ref (dg 0), .ref (dc 0), .ref (dt 0)]))], zL cI dt zt, zL cI d (pfZ z 4 k n)]) := by
        rw [show (pfZ z 4 k n) = z from pfZ_4.trans (if_neg c151_13)]
        exact hD
      exact bq_retz hX hr hlocks hS hP (P := False) ((bI_0 (fun z => z)).symm) ⟨(bI_0 (fun y => c151_13 (pfP_4.mp y))).symm, _, hBt, rfl⟩ dX6_perform_163
    · skip
      have c151_13 := bI_t c151_13
      refine lv_aload_n hx hb dX6_perform_154 rfl (lv_at hl 1 rfl) ?_
      refine lv_iload hx hb dX6_perform_155 (lv_at hl 4 rfl) ?_
      refine va_put (D := D) (ci := 2) (v := .int (n)) (ty := .int) (C := RX2) (T := TX2) (N := 8) hx hb hts u6_X2 tyX2 tyX2_ok nmX2 hown hK hP hD hS 12 rfl rfl 4 (by decide) (hts _ (m6 293 rfl)) (fun _ h9 => h9) rfl (by decide +kernel) rfl rfl (Nat.le_of_ble_eq_true rfl) dX6_perform_157 (fun H locs hP hD hS => ?_)
      have hP : va_P D vwCl (bw [[(ob, .inr (6, [.ref so, .ref ho, .ref sl, .ref (dg 0), .ref (dc 0), .ref (dt 0)]))], zL cI dt zt, zL cI d (zC z n)]) H := hP
      have hD : va_D A (bw [[(ob, .inr (6, [.ref so, .ref ho, .ref sl, .ref (dg 0), .ref (dc 0), .ref (dt 0)]))], zL cI dt zt, zL cI d (zC z n)]) := hD
      refine lv_iconst (v := 1) hx hb dX6_perform_160 (by decide) ?_
      have hP : va_P D vwCl (bw [[(ob, .inr (6, [.ref so, .ref ho, .ref sl, .ref (dg 0), .ref (dc 0), .ref (dt 0)]))], zL cI dt zt, zL cI d (pfZ z 4 k n)]) H := by
        rw [show (pfZ z 4 k n) = (zC z n) from pfZ_4.trans (if_pos c151_13)]
        exact hP
      have hD : va_D A (bw [[(ob, .inr (6, [.ref so, .ref ho, .ref sl, .ref (dg 0), .ref (dc 0), .ref (dt 0)]))], zL cI dt zt, zL cI d (pfZ z 4 k n)]) := by
        rw [show (pfZ z 4 k n) = (zC z n) from pfZ_4.trans (if_pos c151_13)]
        exact hD
      exact bq_retz hX hr hlocks hS hP (P := True) ((bI_1 trivial).symm) ⟨(bI_1 (pfP_4.mpr c151_13)).symm, _, hBt, rfl⟩ dX6_perform_161
  · skip
    have hl : lv_has ls 6 [(0, .ref ob), (1, .ref (d 0)), (2, .int (5)), (3, .int (nI (k))), (4, .int (n))] := hl
    refine lv_iload_n hx hb dX6_perform_0 rfl (lv_at hl 2 rfl) ?_
    refine lv_tableIn (off := 163) (tgt := 164) hx hb dX6_perform_1 (by decide) (by decide) (by decide) (by decide) ?_
    refine lv_aload_n hx hb dX6_perform_164 rfl (lv_at hl 1 rfl) ?_
    refine bq_backi (bq_runV hX good6 (m6 83 rfl) (b2_switchOn l D cI d z (inv_B hz)) q2_switchOn rfl (m6 310 rfl) (m6 311 rfl) (m6 312 rfl) ⟨Nat.le_of_ble_eq_true rfl, Nat.le_of_ble_eq_true rfl⟩ hK hN [0] rfl hP hD [2] (by decide) rfl (ci := 2) (q0 := 0) rfl rfl rfl hl.1 rfl (Nat.le_of_ble_eq_true rfl) dX6_perform_165 ⟨Nat.zero_le _, Nat.zero_le _⟩) hP hD hS [2] rfl (fun r u h => by obtain ⟨-, rfl⟩ := h; rfl) (fun r9 u H locs hpost hP hD hS => ?_)
    obtain ⟨hr9, rfl⟩ := hpost
    refine lv_as hr9 ?_
    have hP : va_P D vwCl (bw [[(ob, .inr (6, [.ref so, .ref ho, .ref sl, .ref (dg 0), .ref (dc 0), .ref (dt 0)]))], zL cI dt zt, zL cI d (zSw z)]) H := hP
    have hD : va_D A (bw [[(ob, .inr (6, [.ref so, .ref ho, .ref sl, .ref (dg 0), .ref (dc 0), .ref (dt 0)]))], zL cI dt zt, zL cI d (zSw z)]) := hD
    have hP : va_P D vwCl (bw [[(ob, .inr (6, [.ref so, .ref ho, .ref sl, .ref (dg 0), .ref (dc 0), .ref (dt 0)]))], zL cI dt zt, zL cI d (pfZ z 5 k n)]) H := by
      rw [show (pfZ z 5 k n) = (zSw z) from pfZ_5]
      exact hP
    have hD : va_D A (bw [[(ob, .inr (6, [.ref so, .ref ho, .ref sl, .ref (dg 0), .ref (dc 0), .ref (dt 0)]))], zL cI dt zt, zL cI d (pfZ z 5 k n)]) := by
      rw [show (pfZ z 5 k n) = (zSw z) from pfZ_5]
      exact hD
    exact bq_retz hX hr hlocks hS hP (P := ¬ z.1.1 = true) (rfl) ⟨rfl, _, hBt, rfl⟩ dX6_perform_168
  · skip
    have hl : lv_has ls 6 [(0, .ref ob), (1, .ref (d 0)), (2, .int (6)), (3, .int (nI (k))), (4, .int (n))] := hl
    refine lv_iload_n hx hb dX6_perform_0 rfl (lv_at hl 2 rfl) ?_
    refine lv_tableIn (off := 168) (tgt := 169) hx hb dX6_perform_1 (by decide) (by decide) (by decide) (by decide) ?_
    refine lv_aload_n hx hb dX6_perform_169 rfl (lv_at hl 1 rfl) ?_
    refine va_get (D := D) (ci := 2) (v := .int (bI (z.1.1 = true))) (C := RX2) (T := TX2) (N := 8) hx hb hts u6_X2 hown hK hP 12 rfl rfl 2 (by decide) (hts _ (m6 292 rfl)) (fun _ h9 => h9) rfl dX6_perform_170 ?_
    refine lv_if_eq (tgt := 193) hx hb dX6_perform_173 (by decide) (fun c173_14 => ?_) (fun c173_14 => ?_)
    · skip
      have c173_14 := bI_f c173_14
      refine lv_iconst (v := 0) hx hb dX6_perform_193 (by decide) ?_
      have hP : va_P D vwCl (bw [[(ob, .inr (6, [.ref so, .ref ho, .ref sl, .ref (dg 0), .ref (dc 0), .ref (dt 0)]))], zL cI dt zt, zL cI d (pfZ z 6 k n)]) H := by
        rw [show (pfZ z 6 k n) = z from pfZ_6]
        exact hP
      have hD : va_D A (bw [[(ob, .inr (6, [.ref so, .ref ho, .ref sl, .ref (dg 0), .ref (dc 0), .ref (dt 0)]))], zL cI dt zt, zL cI d (pfZ z 6 k n)]) := by
        rw [show (pfZ z 6 k n) = z from pfZ_6]
        exact hD
      exact bq_retz hX hr hlocks hS hP (P := False) ((bI_0 (fun z => z)).symm) ⟨(bI_0 (fun y => c173_14 (pfP_6.mp y).1)).symm, _, hBt, rfl⟩ dX6_perform_194
    · skip
      have c173_14 := bI_t c173_14
      refine lv_aload_n hx hb dX6_perform_176 rfl (lv_at hl 1 rfl) ?_
      refine va_get (D := D) (ci := 2) (v := .ref (d 1)) (C := RX2) (T := TX2) (N := 8) hx hb hts u6_X2 hown hK hP 12 rfl rfl 0 (by decide) (hts _ (m6 301 rfl)) (fun _ h9 => h9) rfl dX6_perform_177 ?_
      refine lv_iload_n hx hb dX6_perform_180 rfl (lv_at hl 3 rfl) ?_
      refine bq_readV hX good6 (m6 23 rfl) (b0_valueOf l D cI d z (inv_B hz) (nI (k))) q0_valueOf rfl (m6 307 rfl) (m6 42 rfl) (m6 43 rfl) ⟨Nat.le_of_ble_eq_true rfl, Nat.le_of_ble_eq_true rfl⟩ hK hN [0] rfl hP [2] rfl (ci := 0) (q0 := 1) rfl rfl rfl hS hl.1 rfl (Nat.le_of_ble_eq_true rfl) dX6_perform_181 ⟨Nat.zero_le _, Nat.zero_le _⟩ (fun H locs hP hS => ?_)
      refine lv_iload hx hb dX6_perform_184 (lv_at hl 4 rfl) ?_
      refine lv_icmp_ne (tgt := 193) hx hb dX6_perform_186 (by decide) (fun c186_15 => ?_) (fun c186_15 => ?_)
      · skip
        refine lv_iconst (v := 0) hx hb dX6_perform_193 (by decide) ?_
        have hP : va_P D vwCl (bw [[(ob, .inr (6, [.ref so, .ref ho, .ref sl, .ref (dg 0), .ref (dc 0), .ref (dt 0)]))], zL cI dt zt, zL cI d (pfZ z 6 k n)]) H := by
          rw [show (pfZ z 6 k n) = z from pfZ_6]
          exact hP
        have hD : va_D A (bw [[(ob, .inr (6, [.ref so, .ref ho, .ref sl, .ref (dg 0), .ref (dc 0), .ref (dt 0)]))], zL cI dt zt, zL cI d (pfZ z 6 k n)]) := by
          rw [show (pfZ z 6 k n) = z from pfZ_6]
          exact hD
        exact bq_retz hX hr hlocks hS hP (P := False) ((bI_0 (fun z => z)).symm) ⟨(bI_0 (fun y => c186_15 (pfP_6.mp y).2)).symm, _, hBt, rfl⟩ dX6_perform_194
      · skip
        refine lv_iconst (v := 1) hx hb dX6_perform_189 (by decide) ?_
        refine lv_goto (tgt := 194) hx hb dX6_perform_190 (by decide) ?_
        have hP : va_P D vwCl (bw [[(ob, .inr (6, [.ref so, .ref ho, .ref sl, .ref (dg 0), .ref (dc 0), .ref (dt 0)]))], zL cI dt zt, zL cI d (pfZ z 6 k n)]) H := by
          rw [show (pfZ z 6 k n) = z from pfZ_6]
          exact hP
        have hD : va_D A (bw [[(ob, .inr (6, [.ref so, .ref ho, .ref sl, .ref (dg 0), .ref (dc 0), .ref (dt 0)]))], zL cI dt zt, zL cI d (pfZ z 6 k n)]) := by
          rw [show (pfZ z 6 k n) = z from pfZ_6]
          exact hD
        exact bq_retz hX hr hlocks hS hP (P := True) ((bI_1 trivial).symm) ⟨(bI_1 (pfP_6.mpr ⟨c173_14, c186_15⟩)).symm, _, hBt, rfl⟩ dX6_perform_194
  · skip
    have hl : lv_has ls 6 [(0, .ref ob), (1, .ref (d 0)), (2, .int (7)), (3, .int (nI (k))), (4, .int (n))] := hl
    refine lv_iload_n hx hb dX6_perform_0 rfl (lv_at hl 2 rfl) ?_
    refine lv_tableIn (off := 194) (tgt := 195) hx hb dX6_perform_1 (by decide) (by decide) (by decide) (by decide) ?_
    refine lv_aload_n hx hb dX6_perform_195 rfl (lv_at hl 1 rfl) ?_
    refine va_get (D := D) (ci := 2) (v := .ref (d 1)) (C := RX2) (T := TX2) (N := 8) hx hb hts u6_X2 hown hK hP 12 rfl rfl 0 (by decide) (hts _ (m6 301 rfl)) (fun _ h9 => h9) rfl dX6_perform_196 ?_
    refine lv_iload_n hx hb dX6_perform_199 rfl (lv_at hl 3 rfl) ?_
    refine bq_readV hX good6 (m6 23 rfl) (b0_hasBlock l D cI d z (inv_B hz) (nI (k))) q0_hasBlock rfl (m6 314 rfl) (m6 315 rfl) (m6 316 rfl) ⟨Nat.le_of_ble_eq_true rfl, Nat.le_of_ble_eq_true rfl⟩ hK hN [0] rfl hP [2] rfl (ci := 0) (q0 := 1) rfl rfl rfl hS hl.1 rfl (Nat.le_of_ble_eq_true rfl) dX6_perform_200 ⟨Nat.zero_le _, Nat.zero_le _⟩ (fun H locs hP hS => ?_)
    refine lv_if_eq (tgt := 223) hx hb dX6_perform_203 (by decide) (fun c203_16 => ?_) (fun c203_16 => ?_)
    · skip
      have c203_16 := bI_f c203_16
      refine lv_iconst (v := 0) hx hb dX6_perform_223 (by decide) ?_
      have hP : va_P D vwCl (bw [[(ob, .inr (6, [.ref so, .ref ho, .ref sl, .ref (dg 0), .ref (dc 0), .ref (dt 0)]))], zL cI dt zt, zL cI d (pfZ z 7 k n)]) H := by
        rw [show (pfZ z 7 k n) = z from pfZ_7]
        exact hP
      have hD : va_D A (bw [[(ob, .inr (6, [.ref so, .ref ho, .ref sl, .ref (dg 0), .ref (dc 0), .ref (dt 0)]))], zL cI dt zt, zL cI d (pfZ z 7 k n)]) := by
        rw [show (pfZ z 7 k n) = z from pfZ_7]
        exact hD
      exact bq_retz hX hr hlocks hS hP (P := False) ((bI_0 (fun z => z)).symm) ⟨(bI_0 (fun y => c203_16 (pfP_7.mp y).1)).symm, _, hBt, rfl⟩ dX6_perform_224
    · skip
      have c203_16 := bI_t c203_16
      refine lv_aload_n hx hb dX6_perform_206 rfl (lv_at hl 1 rfl) ?_
      refine va_get (D := D) (ci := 2) (v := .ref (d 1)) (C := RX2) (T := TX2) (N := 8) hx hb hts u6_X2 hown hK hP 12 rfl rfl 0 (by decide) (hts _ (m6 301 rfl)) (fun _ h9 => h9) rfl dX6_perform_207 ?_
      refine lv_iload_n hx hb dX6_perform_210 rfl (lv_at hl 3 rfl) ?_
      refine bq_readV hX good6 (m6 23 rfl) (b0_wearOf l D cI d z (inv_B hz) (nI (k))) q0_wearOf rfl (m6 318 rfl) (m6 112 rfl) (m6 113 rfl) ⟨Nat.le_of_ble_eq_true rfl, Nat.le_of_ble_eq_true rfl⟩ hK hN [0] rfl hP [2] rfl (ci := 0) (q0 := 1) rfl rfl rfl hS hl.1 rfl (Nat.le_of_ble_eq_true rfl) dX6_perform_211 ⟨Nat.zero_le _, Nat.zero_le _⟩ (fun H locs hP hS => ?_)
      refine lv_iload hx hb dX6_perform_214 (lv_at hl 4 rfl) ?_
      refine lv_icmp_gt (tgt := 223) hx hb dX6_perform_216 (by decide) (fun c216_17 => ?_) (fun c216_17 => ?_)
      · skip
        refine lv_iconst (v := 0) hx hb dX6_perform_223 (by decide) ?_
        have hP : va_P D vwCl (bw [[(ob, .inr (6, [.ref so, .ref ho, .ref sl, .ref (dg 0), .ref (dc 0), .ref (dt 0)]))], zL cI dt zt, zL cI d (pfZ z 7 k n)]) H := by
          rw [show (pfZ z 7 k n) = z from pfZ_7]
          exact hP
        have hD : va_D A (bw [[(ob, .inr (6, [.ref so, .ref ho, .ref sl, .ref (dg 0), .ref (dc 0), .ref (dt 0)]))], zL cI dt zt, zL cI d (pfZ z 7 k n)]) := by
          rw [show (pfZ z 7 k n) = z from pfZ_7]
          exact hD
        exact bq_retz hX hr hlocks hS hP (P := False) ((bI_0 (fun z => z)).symm) ⟨(bI_0 (fun y => (pfP_7.mp y).2 c216_17)).symm, _, hBt, rfl⟩ dX6_perform_224
      · skip
        refine lv_iconst (v := 1) hx hb dX6_perform_219 (by decide) ?_
        refine lv_goto (tgt := 224) hx hb dX6_perform_220 (by decide) ?_
        have hP : va_P D vwCl (bw [[(ob, .inr (6, [.ref so, .ref ho, .ref sl, .ref (dg 0), .ref (dc 0), .ref (dt 0)]))], zL cI dt zt, zL cI d (pfZ z 7 k n)]) H := by
          rw [show (pfZ z 7 k n) = z from pfZ_7]
          exact hP
        have hD : va_D A (bw [[(ob, .inr (6, [.ref so, .ref ho, .ref sl, .ref (dg 0), .ref (dc 0), .ref (dt 0)]))], zL cI dt zt, zL cI d (pfZ z 7 k n)]) := by
          rw [show (pfZ z 7 k n) = z from pfZ_7]
          exact hD
        exact bq_retz hX hr hlocks hS hP (P := True) ((bI_1 trivial).symm) ⟨(bI_1 (pfP_7.mpr ⟨c203_16, c216_17⟩)).symm, _, hBt, rfl⟩ dX6_perform_224
  · skip
    have hl : lv_has ls 6 [(0, .ref ob), (1, .ref (d 0)), (2, .int (8)), (3, .int (nI (k))), (4, .int (n))] := hl
    refine lv_iload_n hx hb dX6_perform_0 rfl (lv_at hl 2 rfl) ?_
    refine lv_tableIn (off := 224) (tgt := 225) hx hb dX6_perform_1 (by decide) (by decide) (by decide) (by decide) ?_
    refine lv_aload_n hx hb dX6_perform_225 rfl (lv_at hl 1 rfl) ?_
    refine lv_iconst (v := 4) hx hb dX6_perform_226 (by decide) ?_
    refine bq_readV hX good6 (m6 83 rfl) (b2_tell l D cI d z (inv_B hz) 4 (by omega)) q2_tell rfl (m6 319 rfl) (m6 320 rfl) (m6 321 rfl) ⟨Nat.le_of_ble_eq_true rfl, Nat.le_of_ble_eq_true rfl⟩ hK hN [0] rfl hP [2] rfl (ci := 2) (q0 := 0) rfl rfl rfl hS hl.1 rfl (Nat.le_of_ble_eq_true rfl) dX6_perform_227 ⟨Nat.zero_le _, Nat.zero_le _⟩ (fun H locs hP hS => ?_)
    refine lv_iload hx hb dX6_perform_230 (lv_at hl 4 rfl) ?_
    refine lv_icmp_lt (tgt := 239) hx hb dX6_perform_232 (by decide) (fun c232_18 => ?_) (fun c232_18 => ?_)
    · skip
      refine lv_iconst (v := 0) hx hb dX6_perform_239 (by decide) ?_
      have hP : va_P D vwCl (bw [[(ob, .inr (6, [.ref so, .ref ho, .ref sl, .ref (dg 0), .ref (dc 0), .ref (dt 0)]))], zL cI dt zt, zL cI d (pfZ z 8 k n)]) H := by
        rw [show (pfZ z 8 k n) = z from pfZ_8]
        exact hP
      have hD : va_D A (bw [[(ob, .inr (6, [.ref so, .ref ho, .ref sl, .ref (dg 0), .ref (dc 0), .ref (dt 0)]))], zL cI dt zt, zL cI d (pfZ z 8 k n)]) := by
        rw [show (pfZ z 8 k n) = z from pfZ_8]
        exact hD
      exact bq_retz hX hr hlocks hS hP (P := False) ((bI_0 (fun z => z)).symm) ⟨(bI_0 (fun y => (pfP_8.mp y) c232_18)).symm, _, hBt, rfl⟩ dX6_perform_240
    · skip
      refine lv_iconst (v := 1) hx hb dX6_perform_235 (by decide) ?_
      refine lv_goto (tgt := 240) hx hb dX6_perform_236 (by decide) ?_
      have hP : va_P D vwCl (bw [[(ob, .inr (6, [.ref so, .ref ho, .ref sl, .ref (dg 0), .ref (dc 0), .ref (dt 0)]))], zL cI dt zt, zL cI d (pfZ z 8 k n)]) H := by
        rw [show (pfZ z 8 k n) = z from pfZ_8]
        exact hP
      have hD : va_D A (bw [[(ob, .inr (6, [.ref so, .ref ho, .ref sl, .ref (dg 0), .ref (dc 0), .ref (dt 0)]))], zL cI dt zt, zL cI d (pfZ z 8 k n)]) := by
        rw [show (pfZ z 8 k n) = z from pfZ_8]
        exact hD
      exact bq_retz hX hr hlocks hS hP (P := True) ((bI_1 trivial).symm) ⟨(bI_1 (pfP_8.mpr c232_18)).symm, _, hBt, rfl⟩ dX6_perform_240
  · skip
    have hl : lv_has ls 6 [(0, .ref ob), (1, .ref (d 0)), (2, .int (9)), (3, .int (nI (k))), (4, .int (n))] := hl
    refine lv_iload_n hx hb dX6_perform_0 rfl (lv_at hl 2 rfl) ?_
    refine lv_tableIn (off := 240) (tgt := 241) hx hb dX6_perform_1 (by decide) (by decide) (by decide) (by decide) ?_
    refine lv_iload hx hb dX6_perform_241 (lv_at hl 4 rfl) ?_
    refine lv_iconst (v := 2) hx hb dX6_perform_243 (by decide) ?_
    refine lv_icmp_gt (tgt := 255) hx hb dX6_perform_244 (by decide) (fun c244_19 => ?_) (fun c244_19 => ?_)
    · skip
      refine lv_iconst (v := 0) hx hb dX6_perform_255 (by decide) ?_
      have hP : va_P D vwCl (bw [[(ob, .inr (6, [.ref so, .ref ho, .ref sl, .ref (dg 0), .ref (dc 0), .ref (dt 0)]))], zL cI dt zt, zL cI d (pfZ z 9 k n)]) H := by
        rw [show (pfZ z 9 k n) = z from pfZ_9.trans (if_pos c244_19)]
        exact hP
      have hD : va_D A (bw [[(ob, .inr (6, [.ref so, .ref ho, .ref sl, .ref (dg 0), .ref (dc 0), .ref (dt 0)]))], zL cI dt zt, zL cI d (pfZ z 9 k n)]) := by
        rw [show (pfZ z 9 k n) = z from pfZ_9.trans (if_pos c244_19)]
        exact hD
      exact bq_retz hX hr hlocks hS hP (P := False) ((bI_0 (fun z => z)).symm) ⟨(bI_0 (fun y => (pfP_9.mp y) c244_19)).symm, _, hBt, rfl⟩ dX6_perform_256
    · skip
      refine lv_aload_n hx hb dX6_perform_247 rfl (lv_at hl 1 rfl) ?_
      refine lv_iload hx hb dX6_perform_248 (lv_at hl 4 rfl) ?_
      refine va_put (D := D) (ci := 2) (v := .int (n)) (ty := .int) (C := RX2) (T := TX2) (N := 8) hx hb hts u6_X2 tyX2 tyX2_ok nmX2 hown hK hP hD hS 12 rfl rfl 3 (by decide) (hts _ (m6 302 rfl)) (fun _ h9 => h9) rfl (by decide +kernel) rfl rfl (Nat.le_of_ble_eq_true rfl) dX6_perform_250 (fun H locs hP hD hS => ?_)
      have hP : va_P D vwCl (bw [[(ob, .inr (6, [.ref so, .ref ho, .ref sl, .ref (dg 0), .ref (dc 0), .ref (dt 0)]))], zL cI dt zt, zL cI d (zPo z n)]) H := hP
      have hD : va_D A (bw [[(ob, .inr (6, [.ref so, .ref ho, .ref sl, .ref (dg 0), .ref (dc 0), .ref (dt 0)]))], zL cI dt zt, zL cI d (zPo z n)]) := hD
      refine lv_iconst (v := 1) hx hb dX6_perform_253 (by decide) ?_
      have hP : va_P D vwCl (bw [[(ob, .inr (6, [.ref so, .ref ho, .ref sl, .ref (dg 0), .ref (dc 0), .ref (dt 0)]))], zL cI dt zt, zL cI d (pfZ z 9 k n)]) H := by
        rw [show (pfZ z 9 k n) = (zPo z n) from pfZ_9.trans (if_neg c244_19)]
        exact hP
      have hD : va_D A (bw [[(ob, .inr (6, [.ref so, .ref ho, .ref sl, .ref (dg 0), .ref (dc 0), .ref (dt 0)]))], zL cI dt zt, zL cI d (pfZ z 9 k n)]) := by
        rw [show (pfZ z 9 k n) = (zPo z n) from pfZ_9.trans (if_neg c244_19)]
        exact hD
      exact bq_retz hX hr hlocks hS hP (P := True) ((bI_1 trivial).symm) ⟨(bI_1 (pfP_9.mpr c244_19)).symm, _, hBt, rfl⟩ dX6_perform_254
