theorem dX0_hasPage_0 : decode cX0_hasPage 0 = .ok (.iload_n 1, 1) := by decide +kernel
theorem dX0_hasPage_1 : decode cX0_hasPage 1 = .ok (.ifCond .lt 23, 3) := by decide +kernel
theorem dX0_hasPage_4 : decode cX0_hasPage 4 = .ok (.iload_n 1, 1) := by decide +kernel
theorem dX0_hasPage_5 : decode cX0_hasPage 5 = .ok (.iconst 4, 1) := by decide +kernel
theorem dX0_hasPage_6 : decode cX0_hasPage 6 = .ok (.aload_n 0, 1) := by decide +kernel
theorem dX0_hasPage_7 : decode cX0_hasPage 7 = .ok (.getfield 45, 3) := by decide +kernel
theorem dX0_hasPage_10 : decode cX0_hasPage 10 = .ok (.imul, 1) := by decide +kernel
theorem dX0_hasPage_11 : decode cX0_hasPage 11 = .ok (.if_icmp .ge 13, 3) := by decide +kernel
theorem dX0_hasPage_14 : decode cX0_hasPage 14 = .ok (.iload_n 1, 1) := by decide +kernel
theorem dX0_hasPage_15 : decode cX0_hasPage 15 = .ok (.bipush 32, 2) := by decide +kernel
theorem dX0_hasPage_17 : decode cX0_hasPage 17 = .ok (.if_icmp .ge 7, 3) := by decide +kernel
theorem dX0_hasPage_20 : decode cX0_hasPage 20 = .ok (.iconst 1, 1) := by decide +kernel
theorem dX0_hasPage_21 : decode cX0_hasPage 21 = .ok (.goto 4, 3) := by decide +kernel
theorem dX0_hasPage_24 : decode cX0_hasPage 24 = .ok (.iconst 0, 1) := by decide +kernel
theorem dX0_hasPage_25 : decode cX0_hasPage 25 = .ok (.ireturn, 1) := by decide +kernel
theorem q0_hasPage : CQ W6 yX0_hasPage cX0_hasPage 2 (some .boolean) 1 := ⟨(m6 40 rfl), by decide, by decide, by decide +kernel⟩
set_option maxHeartbeats 4000000 in
set_option maxRecDepth 100000 in
theorem c0_hasPage (l : Launch) (D : va_G) (cI : ClassId) (fo a0 a1 a2 a3 a4 a5 a6 a7 : Nat) (kd ky vl mk wr lv nw fr : Nat → Int32) (B : Nat) (hB8 : B ≤ 8) (a : Int32) : RQ l yX0_hasPage cX0_hasPage 2 .boolean W6 0 0 D [(fo, .inr (0, [.ref a0, .ref a1, .ref a2, .ref a3, .ref a4, .ref a5, .ref a6, .ref a7, .int (nI (B))])), (a0, .inl (cI, 32, .inl kd)), (a1, .inl (cI, 32, .inl ky)), (a2, .inl (cI, 32, .inl vl)), (a3, .inl (cI, 32, .inl mk)), (a4, .inl (cI, 8, .inl wr)), (a5, .inl (cI, 32, .inl lv)), (a6, .inl (cI, 16, .inl nw)), (a7, .inl (cI, 8, .inl fr))] [(cI, .int)] [.ref fo, .int (a)] (bI (pagP B a)) := by
  refine rq_of RX0 (by decide) rfl (Nat.le_of_ble_eq_true rfl) ?_
  intro p e s m below meth c ls hX hr hlocks hK hN hP hS hl
  have hx := hX.1
  have hb := hX.2.1
  have hown := hX.2.2.2.1
  have hts := hX.2.2.2.2
  have hl : lv_has ls 2 [(0, .ref fo), (1, .int (a))] := hl
  refine lv_iload_n hx hb dX0_hasPage_0 rfl (lv_at hl 1 rfl) ?_
  refine lv_if_lt (tgt := 24) hx hb dX0_hasPage_1 (by decide) (fun c1_1 => ?_) (fun c1_1 => ?_)
  · skip
    refine lv_iconst (v := 0) hx hb dX0_hasPage_24 (by decide) ?_
    exact rp_retz hX hr hlocks hS ((bI_0 (fun z => z.1 c1_1)).symm) dX0_hasPage_25
  · skip
    refine lv_iload_n hx hb dX0_hasPage_4 rfl (lv_at hl 1 rfl) ?_
    refine lv_iconst (v := 4) hx hb dX0_hasPage_5 (by decide) ?_
    refine lv_aload_n hx hb dX0_hasPage_6 rfl (lv_at hl 0 rfl) ?_
    refine va_get (D := D) (ci := 0) (v := .int (nI (B))) (C := RX0) (T := TX0) (N := 9) hx hb hts u6_X0 hown hK hP 0 rfl rfl 8 (by decide) (hts _ (m6 19 rfl)) (fun _ h9 => h9) rfl dX0_hasPage_7 ?_
    refine lv_imul hx hb dX0_hasPage_10 ?_
    refine lv_as (y := nI (4 * B)) (pk_mul (4) (B)) ?_
    refine lv_icmp_ge (tgt := 24) hx hb dX0_hasPage_11 (by decide) (fun c11_2 => ?_) (fun c11_2 => ?_)
    · skip
      have c11_2 := i_nlt c11_2
      refine lv_iconst (v := 0) hx hb dX0_hasPage_24 (by decide) ?_
      exact rp_retz hX hr hlocks hS ((bI_0 (fun z => c11_2 z.2.1)).symm) dX0_hasPage_25
    · skip
      have c11_2 := i_lt c11_2
      refine lv_iload_n hx hb dX0_hasPage_14 rfl (lv_at hl 1 rfl) ?_
      refine lv_bipush (v := 32) hx hb dX0_hasPage_15 (by decide) ?_
      refine lv_icmp_ge (tgt := 24) hx hb dX0_hasPage_17 (by decide) (fun c17_3 => ?_) (fun c17_3 => ?_)
      · skip
        have c17_3 := i_nlt c17_3
        refine lv_iconst (v := 0) hx hb dX0_hasPage_24 (by decide) ?_
        exact rp_retz hX hr hlocks hS ((bI_0 (fun z => c17_3 z.2.2)).symm) dX0_hasPage_25
      · skip
        have c17_3 := i_lt c17_3
        refine lv_iconst (v := 1) hx hb dX0_hasPage_20 (by decide) ?_
        refine lv_goto (tgt := 25) hx hb dX0_hasPage_21 (by decide) ?_
        exact rp_retz hX hr hlocks hS ((bI_1 ⟨c1_1, c11_2, c17_3⟩).symm) dX0_hasPage_25
theorem dX0_hasBlock_0 : decode cX0_hasBlock 0 = .ok (.iload_n 1, 1) := by decide +kernel
theorem dX0_hasBlock_1 : decode cX0_hasBlock 1 = .ok (.ifCond .lt 21, 3) := by decide +kernel
theorem dX0_hasBlock_4 : decode cX0_hasBlock 4 = .ok (.iload_n 1, 1) := by decide +kernel
theorem dX0_hasBlock_5 : decode cX0_hasBlock 5 = .ok (.aload_n 0, 1) := by decide +kernel
theorem dX0_hasBlock_6 : decode cX0_hasBlock 6 = .ok (.getfield 45, 3) := by decide +kernel
theorem dX0_hasBlock_9 : decode cX0_hasBlock 9 = .ok (.if_icmp .ge 13, 3) := by decide +kernel
theorem dX0_hasBlock_12 : decode cX0_hasBlock 12 = .ok (.iload_n 1, 1) := by decide +kernel
theorem dX0_hasBlock_13 : decode cX0_hasBlock 13 = .ok (.bipush 8, 2) := by decide +kernel
theorem dX0_hasBlock_15 : decode cX0_hasBlock 15 = .ok (.if_icmp .ge 7, 3) := by decide +kernel
theorem dX0_hasBlock_18 : decode cX0_hasBlock 18 = .ok (.iconst 1, 1) := by decide +kernel
theorem dX0_hasBlock_19 : decode cX0_hasBlock 19 = .ok (.goto 4, 3) := by decide +kernel
theorem dX0_hasBlock_22 : decode cX0_hasBlock 22 = .ok (.iconst 0, 1) := by decide +kernel
theorem dX0_hasBlock_23 : decode cX0_hasBlock 23 = .ok (.ireturn, 1) := by decide +kernel
theorem q0_hasBlock : CQ W6 yX0_hasBlock cX0_hasBlock 2 (some .boolean) 1 := ⟨(m6 317 rfl), by decide, by decide, by decide +kernel⟩
set_option maxHeartbeats 4000000 in
set_option maxRecDepth 100000 in
theorem c0_hasBlock (l : Launch) (D : va_G) (cI : ClassId) (fo a0 a1 a2 a3 a4 a5 a6 a7 : Nat) (kd ky vl mk wr lv nw fr : Nat → Int32) (B : Nat) (hB8 : B ≤ 8) (b : Int32) : RQ l yX0_hasBlock cX0_hasBlock 2 .boolean W6 0 0 D [(fo, .inr (0, [.ref a0, .ref a1, .ref a2, .ref a3, .ref a4, .ref a5, .ref a6, .ref a7, .int (nI (B))])), (a0, .inl (cI, 32, .inl kd)), (a1, .inl (cI, 32, .inl ky)), (a2, .inl (cI, 32, .inl vl)), (a3, .inl (cI, 32, .inl mk)), (a4, .inl (cI, 8, .inl wr)), (a5, .inl (cI, 32, .inl lv)), (a6, .inl (cI, 16, .inl nw)), (a7, .inl (cI, 8, .inl fr))] [(cI, .int)] [.ref fo, .int (b)] (bI (¬ b < 0 ∧ b < nI B ∧ b < 8)) := by
  refine rq_of RX0 (by decide) rfl (Nat.le_of_ble_eq_true rfl) ?_
  intro p e s m below meth c ls hX hr hlocks hK hN hP hS hl
  have hx := hX.1
  have hb := hX.2.1
  have hown := hX.2.2.2.1
  have hts := hX.2.2.2.2
  have hl : lv_has ls 2 [(0, .ref fo), (1, .int (b))] := hl
  refine lv_iload_n hx hb dX0_hasBlock_0 rfl (lv_at hl 1 rfl) ?_
  refine lv_if_lt (tgt := 22) hx hb dX0_hasBlock_1 (by decide) (fun c1_1 => ?_) (fun c1_1 => ?_)
  · skip
    refine lv_iconst (v := 0) hx hb dX0_hasBlock_22 (by decide) ?_
    exact rp_retz hX hr hlocks hS ((bI_0 (fun z => z.1 c1_1)).symm) dX0_hasBlock_23
  · skip
    refine lv_iload_n hx hb dX0_hasBlock_4 rfl (lv_at hl 1 rfl) ?_
    refine lv_aload_n hx hb dX0_hasBlock_5 rfl (lv_at hl 0 rfl) ?_
    refine va_get (D := D) (ci := 0) (v := .int (nI (B))) (C := RX0) (T := TX0) (N := 9) hx hb hts u6_X0 hown hK hP 0 rfl rfl 8 (by decide) (hts _ (m6 19 rfl)) (fun _ h9 => h9) rfl dX0_hasBlock_6 ?_
    refine lv_icmp_ge (tgt := 22) hx hb dX0_hasBlock_9 (by decide) (fun c9_2 => ?_) (fun c9_2 => ?_)
    · skip
      have c9_2 := i_nlt c9_2
      refine lv_iconst (v := 0) hx hb dX0_hasBlock_22 (by decide) ?_
      exact rp_retz hX hr hlocks hS ((bI_0 (fun z => c9_2 z.2.1)).symm) dX0_hasBlock_23
    · skip
      have c9_2 := i_lt c9_2
      refine lv_iload_n hx hb dX0_hasBlock_12 rfl (lv_at hl 1 rfl) ?_
      refine lv_bipush (v := 8) hx hb dX0_hasBlock_13 (by decide) ?_
      refine lv_icmp_ge (tgt := 22) hx hb dX0_hasBlock_15 (by decide) (fun c15_3 => ?_) (fun c15_3 => ?_)
      · skip
        have c15_3 := i_nlt c15_3
        refine lv_iconst (v := 0) hx hb dX0_hasBlock_22 (by decide) ?_
        exact rp_retz hX hr hlocks hS ((bI_0 (fun z => c15_3 z.2.2)).symm) dX0_hasBlock_23
      · skip
        have c15_3 := i_lt c15_3
        refine lv_iconst (v := 1) hx hb dX0_hasBlock_18 (by decide) ?_
        refine lv_goto (tgt := 23) hx hb dX0_hasBlock_19 (by decide) ?_
        exact rp_retz hX hr hlocks hS ((bI_1 ⟨c1_1, c9_2, c15_3⟩).symm) dX0_hasBlock_23
theorem dX0_newestOf_0 : decode cX0_newestOf 0 = .ok (.iload_n 1, 1) := by decide +kernel
theorem dX0_newestOf_1 : decode cX0_newestOf 1 = .ok (.ifCond .lt 18, 3) := by decide +kernel
theorem dX0_newestOf_4 : decode cX0_newestOf 4 = .ok (.iload_n 1, 1) := by decide +kernel
theorem dX0_newestOf_5 : decode cX0_newestOf 5 = .ok (.bipush 16, 2) := by decide +kernel
theorem dX0_newestOf_7 : decode cX0_newestOf 7 = .ok (.if_icmp .ge 12, 3) := by decide +kernel
theorem dX0_newestOf_10 : decode cX0_newestOf 10 = .ok (.aload_n 0, 1) := by decide +kernel
theorem dX0_newestOf_11 : decode cX0_newestOf 11 = .ok (.getfield 30, 3) := by decide +kernel
theorem dX0_newestOf_14 : decode cX0_newestOf 14 = .ok (.iload_n 1, 1) := by decide +kernel
theorem dX0_newestOf_15 : decode cX0_newestOf 15 = .ok (.iaload, 1) := by decide +kernel
theorem dX0_newestOf_16 : decode cX0_newestOf 16 = .ok (.goto 5, 3) := by decide +kernel
theorem dX0_newestOf_19 : decode cX0_newestOf 19 = .ok (.bipush (-9), 2) := by decide +kernel
theorem dX0_newestOf_21 : decode cX0_newestOf 21 = .ok (.ireturn, 1) := by decide +kernel
theorem q0_newestOf : CQ W6 yX0_newestOf cX0_newestOf 2 (some .int) 1 := ⟨(m6 36 rfl), by decide, by decide, by decide +kernel⟩
set_option maxHeartbeats 4000000 in
set_option maxRecDepth 100000 in
theorem c0_newestOf (l : Launch) (D : va_G) (cI : ClassId) (fo a0 a1 a2 a3 a4 a5 a6 a7 : Nat) (kd ky vl mk wr lv nw fr : Nat → Int32) (B : Nat) (hB8 : B ≤ 8) (x : Int32) : RQ l yX0_newestOf cX0_newestOf 2 .int W6 0 0 D [(fo, .inr (0, [.ref a0, .ref a1, .ref a2, .ref a3, .ref a4, .ref a5, .ref a6, .ref a7, .int (nI (B))])), (a0, .inl (cI, 32, .inl kd)), (a1, .inl (cI, 32, .inl ky)), (a2, .inl (cI, 32, .inl vl)), (a3, .inl (cI, 32, .inl mk)), (a4, .inl (cI, 8, .inl wr)), (a5, .inl (cI, 32, .inl lv)), (a6, .inl (cI, 16, .inl nw)), (a7, .inl (cI, 8, .inl fr))] [(cI, .int)] [.ref fo, .int (x)] (at_ nw 16 (-9) x) := by
  refine rq_of RX0 (by decide) rfl (Nat.le_of_ble_eq_true rfl) ?_
  intro p e s m below meth c ls hX hr hlocks hK hN hP hS hl
  have hx := hX.1
  have hb := hX.2.1
  have hown := hX.2.2.2.1
  have hts := hX.2.2.2.2
  have hl : lv_has ls 2 [(0, .ref fo), (1, .int (x))] := hl
  refine lv_iload_n hx hb dX0_newestOf_0 rfl (lv_at hl 1 rfl) ?_
  refine lv_if_lt (tgt := 19) hx hb dX0_newestOf_1 (by decide) (fun c1_1 => ?_) (fun c1_1 => ?_)
  · skip
    refine lv_bipush (v := (-9)) hx hb dX0_newestOf_19 (by decide) ?_
    exact rp_ret hX hr hlocks hS (by rw [at_, if_neg (fun z => z.1 c1_1)]) dX0_newestOf_21
  · skip
    refine lv_iload_n hx hb dX0_newestOf_4 rfl (lv_at hl 1 rfl) ?_
    refine lv_bipush (v := 16) hx hb dX0_newestOf_5 (by decide) ?_
    refine lv_icmp_ge (tgt := 19) hx hb dX0_newestOf_7 (by decide) (fun c7_2 => ?_) (fun c7_2 => ?_)
    · skip
      have c7_2 := i_nlt c7_2
      refine lv_bipush (v := (-9)) hx hb dX0_newestOf_19 (by decide) ?_
      exact rp_ret hX hr hlocks hS (by rw [at_, if_neg (fun z => c7_2 z.2)]) dX0_newestOf_21
    · skip
      have c7_2 := i_lt c7_2
      obtain ⟨en1, hn1⟩ := num0 (k := 16) (by decide) c1_1 c7_2
      have hl : lv_has ls 2 [(0, .ref fo), (1, .int (nI (x.toNatClampNeg)))] := lv_re hl 1 rfl en1
      refine lv_aload_n hx hb dX0_newestOf_10 rfl (lv_at hl 0 rfl) ?_
      refine va_get (D := D) (ci := 0) (v := .ref a6) (C := RX0) (T := TX0) (N := 9) hx hb hts u6_X0 hown hK hP 0 rfl rfl 6 (by decide) (hts _ (m6 10 rfl)) (fun _ h9 => h9) rfl dX0_newestOf_11 ?_
      refine lv_iload_n hx hb dX0_newestOf_14 rfl (lv_at hl 1 rfl) ?_
      refine ra_iald (i := x.toNatClampNeg) hx hb hK hP 7 0 rfl rfl (by omega) (by decide) dX0_newestOf_15 ?_
      refine lv_goto (tgt := 21) hx hb dX0_newestOf_16 (by decide) ?_
      exact rp_ret hX hr hlocks hS (by rw [at_, if_pos ⟨c1_1, c7_2⟩]) dX0_newestOf_21
theorem dX0_wearOf_0 : decode cX0_wearOf 0 = .ok (.iload_n 1, 1) := by decide +kernel
theorem dX0_wearOf_1 : decode cX0_wearOf 1 = .ok (.ifCond .lt 18, 3) := by decide +kernel
theorem dX0_wearOf_4 : decode cX0_wearOf 4 = .ok (.iload_n 1, 1) := by decide +kernel
theorem dX0_wearOf_5 : decode cX0_wearOf 5 = .ok (.bipush 8, 2) := by decide +kernel
theorem dX0_wearOf_7 : decode cX0_wearOf 7 = .ok (.if_icmp .ge 12, 3) := by decide +kernel
theorem dX0_wearOf_10 : decode cX0_wearOf 10 = .ok (.aload_n 0, 1) := by decide +kernel
theorem dX0_wearOf_11 : decode cX0_wearOf 11 = .ok (.getfield 24, 3) := by decide +kernel
theorem dX0_wearOf_14 : decode cX0_wearOf 14 = .ok (.iload_n 1, 1) := by decide +kernel
theorem dX0_wearOf_15 : decode cX0_wearOf 15 = .ok (.iaload, 1) := by decide +kernel
theorem dX0_wearOf_16 : decode cX0_wearOf 16 = .ok (.goto 4, 3) := by decide +kernel
theorem dX0_wearOf_19 : decode cX0_wearOf 19 = .ok (.iconst 0, 1) := by decide +kernel
theorem dX0_wearOf_20 : decode cX0_wearOf 20 = .ok (.ireturn, 1) := by decide +kernel
theorem q0_wearOf : CQ W6 yX0_wearOf cX0_wearOf 2 (some .int) 1 := ⟨(m6 114 rfl), by decide, by decide, by decide +kernel⟩
set_option maxHeartbeats 4000000 in
set_option maxRecDepth 100000 in
theorem c0_wearOf (l : Launch) (D : va_G) (cI : ClassId) (fo a0 a1 a2 a3 a4 a5 a6 a7 : Nat) (kd ky vl mk wr lv nw fr : Nat → Int32) (B : Nat) (hB8 : B ≤ 8) (x : Int32) : RQ l yX0_wearOf cX0_wearOf 2 .int W6 0 0 D [(fo, .inr (0, [.ref a0, .ref a1, .ref a2, .ref a3, .ref a4, .ref a5, .ref a6, .ref a7, .int (nI (B))])), (a0, .inl (cI, 32, .inl kd)), (a1, .inl (cI, 32, .inl ky)), (a2, .inl (cI, 32, .inl vl)), (a3, .inl (cI, 32, .inl mk)), (a4, .inl (cI, 8, .inl wr)), (a5, .inl (cI, 32, .inl lv)), (a6, .inl (cI, 16, .inl nw)), (a7, .inl (cI, 8, .inl fr))] [(cI, .int)] [.ref fo, .int (x)] (at_ wr 8 0 x) := by
  refine rq_of RX0 (by decide) rfl (Nat.le_of_ble_eq_true rfl) ?_
  intro p e s m below meth c ls hX hr hlocks hK hN hP hS hl
  have hx := hX.1
  have hb := hX.2.1
  have hown := hX.2.2.2.1
  have hts := hX.2.2.2.2
  have hl : lv_has ls 2 [(0, .ref fo), (1, .int (x))] := hl
  refine lv_iload_n hx hb dX0_wearOf_0 rfl (lv_at hl 1 rfl) ?_
  refine lv_if_lt (tgt := 19) hx hb dX0_wearOf_1 (by decide) (fun c1_1 => ?_) (fun c1_1 => ?_)
  · skip
    refine lv_iconst (v := 0) hx hb dX0_wearOf_19 (by decide) ?_
    exact rp_ret hX hr hlocks hS (by rw [at_, if_neg (fun z => z.1 c1_1)]) dX0_wearOf_20
  · skip
    refine lv_iload_n hx hb dX0_wearOf_4 rfl (lv_at hl 1 rfl) ?_
    refine lv_bipush (v := 8) hx hb dX0_wearOf_5 (by decide) ?_
    refine lv_icmp_ge (tgt := 19) hx hb dX0_wearOf_7 (by decide) (fun c7_2 => ?_) (fun c7_2 => ?_)
    · skip
      have c7_2 := i_nlt c7_2
      refine lv_iconst (v := 0) hx hb dX0_wearOf_19 (by decide) ?_
      exact rp_ret hX hr hlocks hS (by rw [at_, if_neg (fun z => c7_2 z.2)]) dX0_wearOf_20
    · skip
      have c7_2 := i_lt c7_2
      obtain ⟨en1, hn1⟩ := num0 (k := 8) (by decide) c1_1 c7_2
      have hl : lv_has ls 2 [(0, .ref fo), (1, .int (nI (x.toNatClampNeg)))] := lv_re hl 1 rfl en1
      refine lv_aload_n hx hb dX0_wearOf_10 rfl (lv_at hl 0 rfl) ?_
      refine va_get (D := D) (ci := 0) (v := .ref a4) (C := RX0) (T := TX0) (N := 9) hx hb hts u6_X0 hown hK hP 0 rfl rfl 4 (by decide) (hts _ (m6 8 rfl)) (fun _ h9 => h9) rfl dX0_wearOf_11 ?_
      refine lv_iload_n hx hb dX0_wearOf_14 rfl (lv_at hl 1 rfl) ?_
      refine ra_iald (i := x.toNatClampNeg) hx hb hK hP 5 0 rfl rfl (by omega) (by decide) dX0_wearOf_15 ?_
      refine lv_goto (tgt := 20) hx hb dX0_wearOf_16 (by decide) ?_
      exact rp_ret hX hr hlocks hS (by rw [at_, if_pos ⟨c1_1, c7_2⟩]) dX0_wearOf_20
theorem dX0_freeIn_0 : decode cX0_freeIn 0 = .ok (.iload_n 1, 1) := by decide +kernel
theorem dX0_freeIn_1 : decode cX0_freeIn 1 = .ok (.ifCond .lt 18, 3) := by decide +kernel
theorem dX0_freeIn_4 : decode cX0_freeIn 4 = .ok (.iload_n 1, 1) := by decide +kernel
theorem dX0_freeIn_5 : decode cX0_freeIn 5 = .ok (.bipush 8, 2) := by decide +kernel
theorem dX0_freeIn_7 : decode cX0_freeIn 7 = .ok (.if_icmp .ge 12, 3) := by decide +kernel
theorem dX0_freeIn_10 : decode cX0_freeIn 10 = .ok (.aload_n 0, 1) := by decide +kernel
theorem dX0_freeIn_11 : decode cX0_freeIn 11 = .ok (.getfield 33, 3) := by decide +kernel
theorem dX0_freeIn_14 : decode cX0_freeIn 14 = .ok (.iload_n 1, 1) := by decide +kernel
theorem dX0_freeIn_15 : decode cX0_freeIn 15 = .ok (.iaload, 1) := by decide +kernel
theorem dX0_freeIn_16 : decode cX0_freeIn 16 = .ok (.goto 4, 3) := by decide +kernel
theorem dX0_freeIn_19 : decode cX0_freeIn 19 = .ok (.iconst 0, 1) := by decide +kernel
theorem dX0_freeIn_20 : decode cX0_freeIn 20 = .ok (.ireturn, 1) := by decide +kernel
theorem q0_freeIn : CQ W6 yX0_freeIn cX0_freeIn 2 (some .int) 1 := ⟨(m6 134 rfl), by decide, by decide, by decide +kernel⟩
set_option maxHeartbeats 4000000 in
set_option maxRecDepth 100000 in
theorem c0_freeIn (l : Launch) (D : va_G) (cI : ClassId) (fo a0 a1 a2 a3 a4 a5 a6 a7 : Nat) (kd ky vl mk wr lv nw fr : Nat → Int32) (B : Nat) (hB8 : B ≤ 8) (x : Int32) : RQ l yX0_freeIn cX0_freeIn 2 .int W6 0 0 D [(fo, .inr (0, [.ref a0, .ref a1, .ref a2, .ref a3, .ref a4, .ref a5, .ref a6, .ref a7, .int (nI (B))])), (a0, .inl (cI, 32, .inl kd)), (a1, .inl (cI, 32, .inl ky)), (a2, .inl (cI, 32, .inl vl)), (a3, .inl (cI, 32, .inl mk)), (a4, .inl (cI, 8, .inl wr)), (a5, .inl (cI, 32, .inl lv)), (a6, .inl (cI, 16, .inl nw)), (a7, .inl (cI, 8, .inl fr))] [(cI, .int)] [.ref fo, .int (x)] (at_ fr 8 0 x) := by
  refine rq_of RX0 (by decide) rfl (Nat.le_of_ble_eq_true rfl) ?_
  intro p e s m below meth c ls hX hr hlocks hK hN hP hS hl
  have hx := hX.1
  have hb := hX.2.1
  have hown := hX.2.2.2.1
  have hts := hX.2.2.2.2
  have hl : lv_has ls 2 [(0, .ref fo), (1, .int (x))] := hl
  refine lv_iload_n hx hb dX0_freeIn_0 rfl (lv_at hl 1 rfl) ?_
  refine lv_if_lt (tgt := 19) hx hb dX0_freeIn_1 (by decide) (fun c1_1 => ?_) (fun c1_1 => ?_)
  · skip
    refine lv_iconst (v := 0) hx hb dX0_freeIn_19 (by decide) ?_
    exact rp_ret hX hr hlocks hS (by rw [at_, if_neg (fun z => z.1 c1_1)]) dX0_freeIn_20
  · skip
    refine lv_iload_n hx hb dX0_freeIn_4 rfl (lv_at hl 1 rfl) ?_
    refine lv_bipush (v := 8) hx hb dX0_freeIn_5 (by decide) ?_
    refine lv_icmp_ge (tgt := 19) hx hb dX0_freeIn_7 (by decide) (fun c7_2 => ?_) (fun c7_2 => ?_)
    · skip
      have c7_2 := i_nlt c7_2
      refine lv_iconst (v := 0) hx hb dX0_freeIn_19 (by decide) ?_
      exact rp_ret hX hr hlocks hS (by rw [at_, if_neg (fun z => c7_2 z.2)]) dX0_freeIn_20
    · skip
      have c7_2 := i_lt c7_2
      obtain ⟨en1, hn1⟩ := num0 (k := 8) (by decide) c1_1 c7_2
      have hl : lv_has ls 2 [(0, .ref fo), (1, .int (nI (x.toNatClampNeg)))] := lv_re hl 1 rfl en1
      refine lv_aload_n hx hb dX0_freeIn_10 rfl (lv_at hl 0 rfl) ?_
      refine va_get (D := D) (ci := 0) (v := .ref a7) (C := RX0) (T := TX0) (N := 9) hx hb hts u6_X0 hown hK hP 0 rfl rfl 7 (by decide) (hts _ (m6 11 rfl)) (fun _ h9 => h9) rfl dX0_freeIn_11 ?_
      refine lv_iload_n hx hb dX0_freeIn_14 rfl (lv_at hl 1 rfl) ?_
      refine ra_iald (i := x.toNatClampNeg) hx hb hK hP 8 0 rfl rfl (by omega) (by decide) dX0_freeIn_15 ?_
      refine lv_goto (tgt := 20) hx hb dX0_freeIn_16 (by decide) ?_
      exact rp_ret hX hr hlocks hS (by rw [at_, if_pos ⟨c1_1, c7_2⟩]) dX0_freeIn_20
theorem dX0_valueOf_0 : decode cX0_valueOf 0 = .ok (.aload_n 0, 1) := by decide +kernel
theorem dX0_valueOf_1 : decode cX0_valueOf 1 = .ok (.iload_n 1, 1) := by decide +kernel
theorem dX0_valueOf_2 : decode cX0_valueOf 2 = .ok (.invokevirtual 56, 3) := by decide +kernel
theorem dX0_valueOf_5 : decode cX0_valueOf 5 = .ok (.istore_n 2, 1) := by decide +kernel
theorem dX0_valueOf_6 : decode cX0_valueOf 6 = .ok (.aload_n 0, 1) := by decide +kernel
theorem dX0_valueOf_7 : decode cX0_valueOf 7 = .ok (.iload_n 2, 1) := by decide +kernel
theorem dX0_valueOf_8 : decode cX0_valueOf 8 = .ok (.invokevirtual 60, 3) := by decide +kernel
theorem dX0_valueOf_11 : decode cX0_valueOf 11 = .ok (.ifCond .eq 12, 3) := by decide +kernel
theorem dX0_valueOf_14 : decode cX0_valueOf 14 = .ok (.aload_n 0, 1) := by decide +kernel
theorem dX0_valueOf_15 : decode cX0_valueOf 15 = .ok (.getfield 18, 3) := by decide +kernel
theorem dX0_valueOf_18 : decode cX0_valueOf 18 = .ok (.iload_n 2, 1) := by decide +kernel
theorem dX0_valueOf_19 : decode cX0_valueOf 19 = .ok (.iaload, 1) := by decide +kernel
theorem dX0_valueOf_20 : decode cX0_valueOf 20 = .ok (.goto 5, 3) := by decide +kernel
theorem dX0_valueOf_23 : decode cX0_valueOf 23 = .ok (.bipush (-9), 2) := by decide +kernel
theorem dX0_valueOf_25 : decode cX0_valueOf 25 = .ok (.ireturn, 1) := by decide +kernel
theorem q0_valueOf : CQ W6 yX0_valueOf cX0_valueOf 3 (some .int) 1 := ⟨(m6 44 rfl), by decide, by decide, by decide +kernel⟩
set_option maxHeartbeats 4000000 in
set_option maxRecDepth 100000 in
theorem c0_valueOf (l : Launch) (D : va_G) (cI : ClassId) (fo a0 a1 a2 a3 a4 a5 a6 a7 : Nat) (kd ky vl mk wr lv nw fr : Nat → Int32) (B : Nat) (hB8 : B ≤ 8) (x : Int32) : RQ l yX0_valueOf cX0_valueOf 3 .int W6 1 21 D [(fo, .inr (0, [.ref a0, .ref a1, .ref a2, .ref a3, .ref a4, .ref a5, .ref a6, .ref a7, .int (nI (B))])), (a0, .inl (cI, 32, .inl kd)), (a1, .inl (cI, 32, .inl ky)), (a2, .inl (cI, 32, .inl vl)), (a3, .inl (cI, 32, .inl mk)), (a4, .inl (cI, 8, .inl wr)), (a5, .inl (cI, 32, .inl lv)), (a6, .inl (cI, 16, .inl nw)), (a7, .inl (cI, 8, .inl fr))] [(cI, .int)] [.ref fo, .int (x)] (vaV B vl nw x) := by
  refine rq_of RX0 (by decide) rfl (Nat.le_of_ble_eq_true rfl) ?_
  intro p e s m below meth c ls hX hr hlocks hK hN hP hS hl
  have hx := hX.1
  have hb := hX.2.1
  have hown := hX.2.2.2.1
  have hts := hX.2.2.2.2
  have hl : lv_has ls 3 [(0, .ref fo), (1, .int (x))] := hl
  refine lv_aload_n hx hb dX0_valueOf_0 rfl (lv_at hl 0 rfl) ?_
  refine lv_iload_n hx hb dX0_valueOf_1 rfl (lv_at hl 1 rfl) ?_
  refine rq_callV hX good6 (m6 23 rfl) (c0_newestOf l D cI fo a0 a1 a2 a3 a4 a5 a6 a7 kd ky vl mk wr lv nw fr B hB8 x) q0_newestOf rfl (m6 33 rfl) (m6 34 rfl) (m6 35 rfl) ⟨Nat.le_of_ble_eq_true rfl, Nat.le_of_ble_eq_true rfl⟩ hK hN [0] rfl hP [0, 1, 2, 3, 4, 5, 6, 7, 8] rfl (ci := 0) (q0 := 0) rfl rfl rfl hS hl.1 rfl (Nat.le_of_ble_eq_true rfl) dX0_valueOf_2 ⟨Nat.zero_le _, Nat.zero_le _⟩ (fun H locs hP hS => ?_)
  refine lv_istore_n (lv' := [(2, .int (at_ nw 16 (-9) x)), (0, .ref fo), (1, .int (x))]) hx hb dX0_valueOf_5 rfl hl (by decide) rfl (fun ls hl => ?_)
  refine lv_aload_n hx hb dX0_valueOf_6 rfl (lv_at hl 1 rfl) ?_
  refine lv_iload_n hx hb dX0_valueOf_7 rfl (lv_at hl 0 rfl) ?_
  refine rq_callV hX good6 (m6 23 rfl) (c0_hasPage l D cI fo a0 a1 a2 a3 a4 a5 a6 a7 kd ky vl mk wr lv nw fr B hB8 (at_ nw 16 (-9) x)) q0_hasPage rfl (m6 37 rfl) (m6 38 rfl) (m6 39 rfl) ⟨Nat.le_of_ble_eq_true rfl, Nat.le_of_ble_eq_true rfl⟩ hK hN [0] rfl hP [0, 1, 2, 3, 4, 5, 6, 7, 8] rfl (ci := 0) (q0 := 0) rfl rfl rfl hS hl.1 rfl (Nat.le_of_ble_eq_true rfl) dX0_valueOf_8 ⟨Nat.zero_le _, Nat.zero_le _⟩ (fun H locs hP hS => ?_)
  refine lv_if_eq (tgt := 23) hx hb dX0_valueOf_11 (by decide) (fun c11_1 => ?_) (fun c11_1 => ?_)
  · skip
    have c11_1 := bI_f c11_1
    refine lv_bipush (v := (-9)) hx hb dX0_valueOf_23 (by decide) ?_
    exact rp_ret hX hr hlocks hS (by rw [vaV, if_neg c11_1]) dX0_valueOf_25
  · skip
    have c11_1 := bI_t c11_1
    obtain ⟨en2, hn2⟩ := num0 (k := 32) (by decide) c11_1.1 c11_1.2.2
    have hl : lv_has ls 3 [(2, .int (nI ((at_ nw 16 (-9) x).toNatClampNeg))), (0, .ref fo), (1, .int (x))] := lv_re hl 0 rfl en2
    refine lv_aload_n hx hb dX0_valueOf_14 rfl (lv_at hl 1 rfl) ?_
    refine va_get (D := D) (ci := 0) (v := .ref a2) (C := RX0) (T := TX0) (N := 9) hx hb hts u6_X0 hown hK hP 0 rfl rfl 2 (by decide) (hts _ (m6 6 rfl)) (fun _ h9 => h9) rfl dX0_valueOf_15 ?_
    refine lv_iload_n hx hb dX0_valueOf_18 rfl (lv_at hl 0 rfl) ?_
    refine ra_iald (i := (at_ nw 16 (-9) x).toNatClampNeg) hx hb hK hP 3 0 rfl rfl (by omega) (by decide) dX0_valueOf_19 ?_
    refine lv_goto (tgt := 25) hx hb dX0_valueOf_20 (by decide) ?_
    exact rp_ret hX hr hlocks hS (by rw [vaV, if_pos c11_1]) dX0_valueOf_25
theorem dX0_countKeys_0 : decode cX0_countKeys 0 = .ok (.iconst 0, 1) := by decide +kernel
theorem dX0_countKeys_1 : decode cX0_countKeys 1 = .ok (.istore_n 1, 1) := by decide +kernel
theorem dX0_countKeys_2 : decode cX0_countKeys 2 = .ok (.iconst 0, 1) := by decide +kernel
theorem dX0_countKeys_3 : decode cX0_countKeys 3 = .ok (.istore_n 2, 1) := by decide +kernel
theorem dX0_countKeys_4 : decode cX0_countKeys 4 = .ok (.iload_n 2, 1) := by decide +kernel
theorem dX0_countKeys_5 : decode cX0_countKeys 5 = .ok (.bipush 16, 2) := by decide +kernel
theorem dX0_countKeys_7 : decode cX0_countKeys 7 = .ok (.if_icmp .ge 22, 3) := by decide +kernel
theorem dX0_countKeys_10 : decode cX0_countKeys 10 = .ok (.aload_n 0, 1) := by decide +kernel
theorem dX0_countKeys_11 : decode cX0_countKeys 11 = .ok (.iload_n 2, 1) := by decide +kernel
theorem dX0_countKeys_12 : decode cX0_countKeys 12 = .ok (.invokevirtual 64, 3) := by decide +kernel
theorem dX0_countKeys_15 : decode cX0_countKeys 15 = .ok (.bipush (-9), 2) := by decide +kernel
theorem dX0_countKeys_17 : decode cX0_countKeys 17 = .ok (.if_icmp .eq 6, 3) := by decide +kernel
theorem dX0_countKeys_20 : decode cX0_countKeys 20 = .ok (.iinc 1 1, 3) := by decide +kernel
theorem dX0_countKeys_23 : decode cX0_countKeys 23 = .ok (.iinc 2 1, 3) := by decide +kernel
theorem dX0_countKeys_26 : decode cX0_countKeys 26 = .ok (.goto (-22), 3) := by decide +kernel
theorem dX0_countKeys_29 : decode cX0_countKeys 29 = .ok (.iload_n 1, 1) := by decide +kernel
theorem dX0_countKeys_30 : decode cX0_countKeys 30 = .ok (.ireturn, 1) := by decide +kernel
theorem q0_countKeys : CQ W6 yX0_countKeys cX0_countKeys 3 (some .int) 0 := ⟨(m6 122 rfl), by decide, by decide, by decide +kernel⟩
set_option maxHeartbeats 4000000 in
set_option maxRecDepth 100000 in
theorem c0_countKeys (l : Launch) (D : va_G) (cI : ClassId) (fo a0 a1 a2 a3 a4 a5 a6 a7 : Nat) (kd ky vl mk wr lv nw fr : Nat → Int32) (B : Nat) (hB8 : B ≤ 8)  : RQ l yX0_countKeys cX0_countKeys 3 .int W6 2 43 D [(fo, .inr (0, [.ref a0, .ref a1, .ref a2, .ref a3, .ref a4, .ref a5, .ref a6, .ref a7, .int (nI (B))])), (a0, .inl (cI, 32, .inl kd)), (a1, .inl (cI, 32, .inl ky)), (a2, .inl (cI, 32, .inl vl)), (a3, .inl (cI, 32, .inl mk)), (a4, .inl (cI, 8, .inl wr)), (a5, .inl (cI, 32, .inl lv)), (a6, .inl (cI, 16, .inl nw)), (a7, .inl (cI, 8, .inl fr))] [(cI, .int)] [.ref fo] (nI (ckV B vl nw 16)) := by
  refine rq_of RX0 (by decide) rfl (Nat.le_of_ble_eq_true rfl) ?_
  intro p e s m below meth c ls hX hr hlocks hK hN hP hS hl
  have hx := hX.1
  have hb := hX.2.1
  have hown := hX.2.2.2.1
  have hts := hX.2.2.2.2
  have hl : lv_has ls 3 [(0, .ref fo)] := hl
  refine lv_iconst (v := 0) hx hb dX0_countKeys_0 (by decide) ?_
  refine lv_istore_n (lv' := [(1, .int (0)), (0, .ref fo)]) hx hb dX0_countKeys_1 rfl hl (by decide) rfl (fun ls hl => ?_)
  refine lv_iconst (v := 0) hx hb dX0_countKeys_2 (by decide) ?_
  refine lv_istore_n (lv' := [(2, .int (0)), (1, .int (0)), (0, .ref fo)]) hx hb dX0_countKeys_3 rfl hl (by decide) rfl (fun ls hl => ?_)
  have LP4 : ∀ n9 : Nat, ∀ (j : Nat), (hj : j ≤ 16) → 16 - j < n9 → ∀ (H : Heap) (locs : List Loc), va_P D vwCl [(fo, .inr (0, [.ref a0, .ref a1, .ref a2, .ref a3, .ref a4, .ref a5, .ref a6, .ref a7, .int (nI (B))])), (a0, .inl (cI, 32, .inl kd)), (a1, .inl (cI, 32, .inl ky)), (a2, .inl (cI, 32, .inl vl)), (a3, .inl (cI, 32, .inl mk)), (a4, .inl (cI, 8, .inl wr)), (a5, .inl (cI, 32, .inl lv)), (a6, .inl (cI, 16, .inl nw)), (a7, .inl (cI, 8, .inl fr))] H → va_S (fun _ => False) s.heap H locs → ∀ ls : Array Slot, lv_has ls 3 [(0, .ref fo), (1, .int (nI (ckV B vl nw j))), (2, .int (nI (j)))] → W p l e ({ frames := 2, cells := 0, slots := 0, locals := 43 } : Room) s m ([.ref fo] : List Value).toArray below meth c H locs 0 0 (MQ below (rp_Qi (nI (ckV B vl nw 16))) ([.ref fo] : List Value).toArray s 0 0 (fun _ => False)) (F0 m 4 ls []) := by
    intro n9
    induction n9 with
    | zero => intros; omega
    | succ n9 ih4 =>
      intro j hj hm9 H locs hP hS ls hl
      refine lv_iload_n hx hb dX0_countKeys_4 rfl (lv_at hl 2 rfl) ?_
      refine lv_bipush (v := 16) hx hb dX0_countKeys_5 (by decide) ?_
      refine lv_icmp_ge (tgt := 29) hx hb dX0_countKeys_7 (by decide) (fun c7_1 => ?_) (fun c7_1 => ?_)
      · skip
        have c7_1 := cn_le (a := 16) (b := j) (by omega) (by omega) c7_1
        refine lv_iload_n hx hb dX0_countKeys_29 rfl (lv_at hl 1 rfl) ?_
        exact rp_ret hX hr hlocks hS (by rw [show j = 16 by omega]) dX0_countKeys_30
      · skip
        have c7_1 := cn_nle (a := 16) (b := j) (by omega) (by omega) c7_1
        refine lv_aload_n hx hb dX0_countKeys_10 rfl (lv_at hl 0 rfl) ?_
        refine lv_iload_n hx hb dX0_countKeys_11 rfl (lv_at hl 2 rfl) ?_
        refine rq_callV hX good6 (m6 23 rfl) (c0_valueOf l D cI fo a0 a1 a2 a3 a4 a5 a6 a7 kd ky vl mk wr lv nw fr B hB8 (nI (j))) q0_valueOf rfl (m6 41 rfl) (m6 42 rfl) (m6 43 rfl) ⟨Nat.le_of_ble_eq_true rfl, Nat.le_of_ble_eq_true rfl⟩ hK hN [0] rfl hP [0, 1, 2, 3, 4, 5, 6, 7, 8] rfl (ci := 0) (q0 := 0) rfl rfl rfl hS hl.1 rfl (Nat.le_of_ble_eq_true rfl) dX0_countKeys_12 ⟨Nat.zero_le _, Nat.zero_le _⟩ (fun H locs hP hS => ?_)
        refine lv_bipush (v := (-9)) hx hb dX0_countKeys_15 (by decide) ?_
        refine lv_icmp_eq (tgt := 23) hx hb dX0_countKeys_17 (by decide) (fun c17_2 => ?_) (fun c17_2 => ?_)
        · skip
          refine lv_iinc (v := nI (j + 1)) (lv' := [(2, .int (nI (j + 1))), (0, .ref fo), (1, .int (nI (ckV B vl nw j)))]) hx hb dX0_countKeys_23 hl (k := 2) rfl (nI_add _ 1) (by decide) rfl (fun ls hl => ?_)
          refine lv_goto (tgt := 4) hx hb dX0_countKeys_26 (by decide) ?_
          have hl : lv_has ls 3 [(2, .int (nI (j + 1))), (0, .ref fo), (1, .int (nI (ckV B vl nw (j + 1))))] := lv_re hl 2 rfl (show nI (ckV B vl nw j) = nI (ckV B vl nw (j + 1)) from by simp [ckV, oI, c7_1, c17_2])
          have hl : lv_has ls 3 [(2, .int (nI ((j + 1)))), (0, .ref fo), (1, .int (nI (ckV B vl nw (j + 1))))] := lv_re hl 0 rfl (show nI (j + 1) = nI ((j + 1)) from rfl)
          exact ih4 (j + 1) (by omega) (by omega) _ _ hP hS _ (lv_sub hl [1, 2, 0] rfl)
        · skip
          refine lv_iinc (v := nI (ckV B vl nw j + 1)) (lv' := [(1, .int (nI (ckV B vl nw j + 1))), (0, .ref fo), (2, .int (nI (j)))]) hx hb dX0_countKeys_20 hl (k := 1) rfl (nI_add _ 1) (by decide) rfl (fun ls hl => ?_)
          refine lv_iinc (v := nI (j + 1)) (lv' := [(2, .int (nI (j + 1))), (1, .int (nI (ckV B vl nw j + 1))), (0, .ref fo)]) hx hb dX0_countKeys_23 hl (k := 2) rfl (nI_add _ 1) (by decide) rfl (fun ls hl => ?_)
          refine lv_goto (tgt := 4) hx hb dX0_countKeys_26 (by decide) ?_
          have hl : lv_has ls 3 [(2, .int (nI (j + 1))), (1, .int (nI (ckV B vl nw (j + 1)))), (0, .ref fo)] := lv_re hl 1 rfl (show nI (ckV B vl nw j + 1) = nI (ckV B vl nw (j + 1)) from by simp [ckV, oI, c7_1, c17_2])
          have hl : lv_has ls 3 [(2, .int (nI ((j + 1)))), (1, .int (nI (ckV B vl nw (j + 1)))), (0, .ref fo)] := lv_re hl 0 rfl (show nI (j + 1) = nI ((j + 1)) from rfl)
          exact ih4 (j + 1) (by omega) (by omega) _ _ hP hS _ (lv_sub hl [2, 1, 0] rfl)
  have hl : lv_has ls 3 [(2, .int (0)), (1, .int (nI (ckV B vl nw 0))), (0, .ref fo)] := lv_re hl 1 rfl (show 0 = nI (ckV B vl nw 0) from rfl)
  have hl : lv_has ls 3 [(2, .int (nI (0))), (1, .int (nI (ckV B vl nw 0))), (0, .ref fo)] := lv_re hl 0 rfl (show 0 = nI (0) from rfl)
  exact LP4 ((16 - 0) + 1) 0 (by omega) (by omega) _ _ hP hS _ (lv_sub hl [2, 1, 0] rfl)
theorem dX0_countTorn_0 : decode cX0_countTorn 0 = .ok (.iload_n 1, 1) := by decide +kernel
theorem dX0_countTorn_1 : decode cX0_countTorn 1 = .ok (.ifCond .lt 9, 3) := by decide +kernel
theorem dX0_countTorn_4 : decode cX0_countTorn 4 = .ok (.iload_n 1, 1) := by decide +kernel
theorem dX0_countTorn_5 : decode cX0_countTorn 5 = .ok (.bipush 8, 2) := by decide +kernel
theorem dX0_countTorn_7 : decode cX0_countTorn 7 = .ok (.if_icmp .lt 5, 3) := by decide +kernel
theorem dX0_countTorn_10 : decode cX0_countTorn 10 = .ok (.iconst 0, 1) := by decide +kernel
theorem dX0_countTorn_11 : decode cX0_countTorn 11 = .ok (.ireturn, 1) := by decide +kernel
theorem dX0_countTorn_12 : decode cX0_countTorn 12 = .ok (.iconst 0, 1) := by decide +kernel
theorem dX0_countTorn_13 : decode cX0_countTorn 13 = .ok (.istore_n 2, 1) := by decide +kernel
theorem dX0_countTorn_14 : decode cX0_countTorn 14 = .ok (.iconst 4, 1) := by decide +kernel
theorem dX0_countTorn_15 : decode cX0_countTorn 15 = .ok (.iload_n 1, 1) := by decide +kernel
theorem dX0_countTorn_16 : decode cX0_countTorn 16 = .ok (.imul, 1) := by decide +kernel
theorem dX0_countTorn_17 : decode cX0_countTorn 17 = .ok (.istore_n 3, 1) := by decide +kernel
theorem dX0_countTorn_18 : decode cX0_countTorn 18 = .ok (.iload_n 3, 1) := by decide +kernel
theorem dX0_countTorn_19 : decode cX0_countTorn 19 = .ok (.iconst 4, 1) := by decide +kernel
theorem dX0_countTorn_20 : decode cX0_countTorn 20 = .ok (.iload_n 1, 1) := by decide +kernel
theorem dX0_countTorn_21 : decode cX0_countTorn 21 = .ok (.imul, 1) := by decide +kernel
theorem dX0_countTorn_22 : decode cX0_countTorn 22 = .ok (.iconst 4, 1) := by decide +kernel
theorem dX0_countTorn_23 : decode cX0_countTorn 23 = .ok (.iadd, 1) := by decide +kernel
theorem dX0_countTorn_24 : decode cX0_countTorn 24 = .ok (.if_icmp .ge 22, 3) := by decide +kernel
theorem dX0_countTorn_27 : decode cX0_countTorn 27 = .ok (.aload_n 0, 1) := by decide +kernel
theorem dX0_countTorn_28 : decode cX0_countTorn 28 = .ok (.getfield 11, 3) := by decide +kernel
theorem dX0_countTorn_31 : decode cX0_countTorn 31 = .ok (.iload_n 3, 1) := by decide +kernel
theorem dX0_countTorn_32 : decode cX0_countTorn 32 = .ok (.iaload, 1) := by decide +kernel
theorem dX0_countTorn_33 : decode cX0_countTorn 33 = .ok (.iconst 2, 1) := by decide +kernel
theorem dX0_countTorn_34 : decode cX0_countTorn 34 = .ok (.if_icmp .ne 6, 3) := by decide +kernel
theorem dX0_countTorn_37 : decode cX0_countTorn 37 = .ok (.iinc 2 1, 3) := by decide +kernel
theorem dX0_countTorn_40 : decode cX0_countTorn 40 = .ok (.iinc 3 1, 3) := by decide +kernel
theorem dX0_countTorn_43 : decode cX0_countTorn 43 = .ok (.goto (-25), 3) := by decide +kernel
theorem dX0_countTorn_46 : decode cX0_countTorn 46 = .ok (.iload_n 2, 1) := by decide +kernel
theorem dX0_countTorn_47 : decode cX0_countTorn 47 = .ok (.ireturn, 1) := by decide +kernel
theorem q0_countTorn : CQ W6 yX0_countTorn cX0_countTorn 4 (some .int) 1 := ⟨(m6 142 rfl), by decide, by decide, by decide +kernel⟩
set_option maxHeartbeats 4000000 in
set_option maxRecDepth 100000 in
theorem c0_countTorn (l : Launch) (D : va_G) (cI : ClassId) (fo a0 a1 a2 a3 a4 a5 a6 a7 : Nat) (kd ky vl mk wr lv nw fr : Nat → Int32) (B : Nat) (hB8 : B ≤ 8) (x : Int32) : RQ l yX0_countTorn cX0_countTorn 4 .int W6 0 0 D [(fo, .inr (0, [.ref a0, .ref a1, .ref a2, .ref a3, .ref a4, .ref a5, .ref a6, .ref a7, .int (nI (B))])), (a0, .inl (cI, 32, .inl kd)), (a1, .inl (cI, 32, .inl ky)), (a2, .inl (cI, 32, .inl vl)), (a3, .inl (cI, 32, .inl mk)), (a4, .inl (cI, 8, .inl wr)), (a5, .inl (cI, 32, .inl lv)), (a6, .inl (cI, 16, .inl nw)), (a7, .inl (cI, 8, .inl fr))] [(cI, .int)] [.ref fo, .int (x)] (ctV kd 2 x) := by
  refine rq_of RX0 (by decide) rfl (Nat.le_of_ble_eq_true rfl) ?_
  intro p e s m below meth c ls hX hr hlocks hK hN hP hS hl
  have hx := hX.1
  have hb := hX.2.1
  have hown := hX.2.2.2.1
  have hts := hX.2.2.2.2
  have hl : lv_has ls 4 [(0, .ref fo), (1, .int (x))] := hl
  refine lv_iload_n hx hb dX0_countTorn_0 rfl (lv_at hl 1 rfl) ?_
  refine lv_if_lt (tgt := 10) hx hb dX0_countTorn_1 (by decide) (fun c1_1 => ?_) (fun c1_1 => ?_)
  · skip
    refine lv_iconst (v := 0) hx hb dX0_countTorn_10 (by decide) ?_
    exact rp_ret hX hr hlocks hS (by rw [ctV, if_neg (fun z => z.1 c1_1)]) dX0_countTorn_11
  · skip
    refine lv_iload_n hx hb dX0_countTorn_4 rfl (lv_at hl 1 rfl) ?_
    refine lv_bipush (v := 8) hx hb dX0_countTorn_5 (by decide) ?_
    refine lv_icmp_lt (tgt := 12) hx hb dX0_countTorn_7 (by decide) (fun c7_2 => ?_) (fun c7_2 => ?_)
    · skip
      obtain ⟨en1, hn1⟩ := num0 (k := 8) (by decide) c1_1 c7_2
      have hl : lv_has ls 4 [(0, .ref fo), (1, .int (nI (x.toNatClampNeg)))] := lv_re hl 1 rfl en1
      refine lv_iconst (v := 0) hx hb dX0_countTorn_12 (by decide) ?_
      refine lv_istore_n (lv' := [(2, .int (0)), (0, .ref fo), (1, .int (nI (x.toNatClampNeg)))]) hx hb dX0_countTorn_13 rfl hl (by decide) rfl (fun ls hl => ?_)
      refine lv_iconst (v := 4) hx hb dX0_countTorn_14 (by decide) ?_
      refine lv_iload_n hx hb dX0_countTorn_15 rfl (lv_at hl 2 rfl) ?_
      refine lv_imul hx hb dX0_countTorn_16 ?_
      refine lv_as (y := nI (4 * x.toNatClampNeg)) (pk_mul (4) (x.toNatClampNeg)) ?_
      refine lv_istore_n (lv' := [(3, .int (nI (4 * x.toNatClampNeg))), (2, .int (0)), (0, .ref fo), (1, .int (nI (x.toNatClampNeg)))]) hx hb dX0_countTorn_17 rfl hl (by decide) rfl (fun ls hl => ?_)
      have LP18 : ∀ n9 : Nat, ∀ (j : Nat), (hj : j ≤ 4) → 4 - j < n9 → ∀ (H : Heap) (locs : List Loc), va_P D vwCl [(fo, .inr (0, [.ref a0, .ref a1, .ref a2, .ref a3, .ref a4, .ref a5, .ref a6, .ref a7, .int (nI (B))])), (a0, .inl (cI, 32, .inl kd)), (a1, .inl (cI, 32, .inl ky)), (a2, .inl (cI, 32, .inl vl)), (a3, .inl (cI, 32, .inl mk)), (a4, .inl (cI, 8, .inl wr)), (a5, .inl (cI, 32, .inl lv)), (a6, .inl (cI, 16, .inl nw)), (a7, .inl (cI, 8, .inl fr))] H → va_S (fun _ => False) s.heap H locs → ∀ ls : Array Slot, lv_has ls 4 [(0, .ref fo), (1, .int (nI (x.toNatClampNeg))), (2, .int (nI (ctF kd x.toNatClampNeg 2 j))), (3, .int (nI (4 * x.toNatClampNeg + j)))] → W p l e ({ frames := 0, cells := 0, slots := 0, locals := 0 } : Room) s m ([.ref fo, .int (x)] : List Value).toArray below meth c H locs 0 0 (MQ below (rp_Qi (ctV kd 2 x)) ([.ref fo, .int (x)] : List Value).toArray s 0 0 (fun _ => False)) (F0 m 18 ls []) := by
        intro n9
        induction n9 with
        | zero => intros; omega
        | succ n9 ih18 =>
          intro j hj hm9 H locs hP hS ls hl
          refine lv_iload_n hx hb dX0_countTorn_18 rfl (lv_at hl 3 rfl) ?_
          refine lv_iconst (v := 4) hx hb dX0_countTorn_19 (by decide) ?_
          refine lv_iload_n hx hb dX0_countTorn_20 rfl (lv_at hl 1 rfl) ?_
          refine lv_imul hx hb dX0_countTorn_21 ?_
          refine lv_as (y := nI (4 * x.toNatClampNeg)) (pk_mul (4) (x.toNatClampNeg)) ?_
          refine lv_iconst (v := 4) hx hb dX0_countTorn_22 (by decide) ?_
          refine lv_iadd hx hb dX0_countTorn_23 ?_
          refine lv_as (y := nI (4 * x.toNatClampNeg + 4)) (nI_add (4 * x.toNatClampNeg) (4)) ?_
          refine lv_icmp_ge (tgt := 46) hx hb dX0_countTorn_24 (by decide) (fun c24_3 => ?_) (fun c24_3 => ?_)
          · skip
            have c24_3 := cn_le (a := 4 * x.toNatClampNeg + 4) (b := 4 * x.toNatClampNeg + j) (by omega) (by omega) c24_3
            refine lv_iload_n hx hb dX0_countTorn_46 rfl (lv_at hl 2 rfl) ?_
            exact rp_ret hX hr hlocks hS (by rw [ctV, if_pos ⟨c1_1, c7_2⟩, show j = 4 by omega]) dX0_countTorn_47
          · skip
            have c24_3 := cn_nle (a := 4 * x.toNatClampNeg + 4) (b := 4 * x.toNatClampNeg + j) (by omega) (by omega) c24_3
            refine lv_aload_n hx hb dX0_countTorn_27 rfl (lv_at hl 0 rfl) ?_
            refine va_get (D := D) (ci := 0) (v := .ref a0) (C := RX0) (T := TX0) (N := 9) hx hb hts u6_X0 hown hK hP 0 rfl rfl 0 (by decide) (hts _ (m6 4 rfl)) (fun _ h9 => h9) rfl dX0_countTorn_28 ?_
            refine lv_iload_n hx hb dX0_countTorn_31 rfl (lv_at hl 3 rfl) ?_
            refine ra_iald (i := 4 * x.toNatClampNeg + j) hx hb hK hP 1 0 rfl rfl (by omega) (by decide) dX0_countTorn_32 ?_
            refine lv_iconst (v := 2) hx hb dX0_countTorn_33 (by decide) ?_
            refine lv_icmp_ne (tgt := 40) hx hb dX0_countTorn_34 (by decide) (fun c34_4 => ?_) (fun c34_4 => ?_)
            · skip
              refine lv_iinc (v := nI (4 * x.toNatClampNeg + j + 1)) (lv' := [(3, .int (nI (4 * x.toNatClampNeg + j + 1))), (0, .ref fo), (1, .int (nI (x.toNatClampNeg))), (2, .int (nI (ctF kd x.toNatClampNeg 2 j)))]) hx hb dX0_countTorn_40 hl (k := 3) rfl (nI_add _ 1) (by decide) rfl (fun ls hl => ?_)
              refine lv_goto (tgt := 18) hx hb dX0_countTorn_43 (by decide) ?_
              have hl : lv_has ls 4 [(3, .int (nI (4 * x.toNatClampNeg + j + 1))), (0, .ref fo), (1, .int (nI (x.toNatClampNeg))), (2, .int (nI (ctF kd x.toNatClampNeg 2 (j + 1))))] := lv_re hl 3 rfl (show nI (ctF kd x.toNatClampNeg 2 j) = nI (ctF kd x.toNatClampNeg 2 (j + 1)) from by simp [ctF, oI, c1_1, c7_2, c24_3, c34_4])
              have hl : lv_has ls 4 [(3, .int (nI (4 * x.toNatClampNeg + (j + 1)))), (0, .ref fo), (1, .int (nI (x.toNatClampNeg))), (2, .int (nI (ctF kd x.toNatClampNeg 2 (j + 1))))] := lv_re hl 0 rfl (show nI (4 * x.toNatClampNeg + j + 1) = nI (4 * x.toNatClampNeg + (j + 1)) from rfl)
              exact ih18 (j + 1) (by omega) (by omega) _ _ hP hS _ (lv_sub hl [1, 2, 3, 0] rfl)
            · skip
              refine lv_iinc (v := nI (ctF kd x.toNatClampNeg 2 j + 1)) (lv' := [(2, .int (nI (ctF kd x.toNatClampNeg 2 j + 1))), (0, .ref fo), (1, .int (nI (x.toNatClampNeg))), (3, .int (nI (4 * x.toNatClampNeg + j)))]) hx hb dX0_countTorn_37 hl (k := 2) rfl (nI_add _ 1) (by decide) rfl (fun ls hl => ?_)
              refine lv_iinc (v := nI (4 * x.toNatClampNeg + j + 1)) (lv' := [(3, .int (nI (4 * x.toNatClampNeg + j + 1))), (2, .int (nI (ctF kd x.toNatClampNeg 2 j + 1))), (0, .ref fo), (1, .int (nI (x.toNatClampNeg)))]) hx hb dX0_countTorn_40 hl (k := 3) rfl (nI_add _ 1) (by decide) rfl (fun ls hl => ?_)
              refine lv_goto (tgt := 18) hx hb dX0_countTorn_43 (by decide) ?_
              have hl : lv_has ls 4 [(3, .int (nI (4 * x.toNatClampNeg + j + 1))), (2, .int (nI (ctF kd x.toNatClampNeg 2 (j + 1)))), (0, .ref fo), (1, .int (nI (x.toNatClampNeg)))] := lv_re hl 1 rfl (show nI (ctF kd x.toNatClampNeg 2 j + 1) = nI (ctF kd x.toNatClampNeg 2 (j + 1)) from by simp [ctF, oI, c1_1, c7_2, c24_3, c34_4])
              have hl : lv_has ls 4 [(3, .int (nI (4 * x.toNatClampNeg + (j + 1)))), (2, .int (nI (ctF kd x.toNatClampNeg 2 (j + 1)))), (0, .ref fo), (1, .int (nI (x.toNatClampNeg)))] := lv_re hl 0 rfl (show nI (4 * x.toNatClampNeg + j + 1) = nI (4 * x.toNatClampNeg + (j + 1)) from rfl)
              exact ih18 (j + 1) (by omega) (by omega) _ _ hP hS _ (lv_sub hl [2, 3, 1, 0] rfl)
      have hl : lv_has ls 4 [(3, .int (nI (4 * x.toNatClampNeg))), (2, .int (nI (ctF kd x.toNatClampNeg 2 0))), (0, .ref fo), (1, .int (nI (x.toNatClampNeg)))] := lv_re hl 1 rfl (show 0 = nI (ctF kd x.toNatClampNeg 2 0) from rfl)
      have hl : lv_has ls 4 [(3, .int (nI (4 * x.toNatClampNeg + 0))), (2, .int (nI (ctF kd x.toNatClampNeg 2 0))), (0, .ref fo), (1, .int (nI (x.toNatClampNeg)))] := lv_re hl 0 rfl (show nI (4 * x.toNatClampNeg) = nI (4 * x.toNatClampNeg + 0) from rfl)
      exact LP18 ((4 - 0) + 1) 0 (by omega) (by omega) _ _ hP hS _ (lv_sub hl [2, 3, 1, 0] rfl)
    · skip
      refine lv_iconst (v := 0) hx hb dX0_countTorn_10 (by decide) ?_
      exact rp_ret hX hr hlocks hS (by rw [ctV, if_neg (fun z => c7_2 z.2)]) dX0_countTorn_11
theorem dX0_countLive_0 : decode cX0_countLive 0 = .ok (.iload_n 1, 1) := by decide +kernel
theorem dX0_countLive_1 : decode cX0_countLive 1 = .ok (.ifCond .lt 9, 3) := by decide +kernel
theorem dX0_countLive_4 : decode cX0_countLive 4 = .ok (.iload_n 1, 1) := by decide +kernel
theorem dX0_countLive_5 : decode cX0_countLive 5 = .ok (.bipush 8, 2) := by decide +kernel
theorem dX0_countLive_7 : decode cX0_countLive 7 = .ok (.if_icmp .lt 5, 3) := by decide +kernel
theorem dX0_countLive_10 : decode cX0_countLive 10 = .ok (.iconst 0, 1) := by decide +kernel
theorem dX0_countLive_11 : decode cX0_countLive 11 = .ok (.ireturn, 1) := by decide +kernel
theorem dX0_countLive_12 : decode cX0_countLive 12 = .ok (.iconst 0, 1) := by decide +kernel
theorem dX0_countLive_13 : decode cX0_countLive 13 = .ok (.istore_n 2, 1) := by decide +kernel
theorem dX0_countLive_14 : decode cX0_countLive 14 = .ok (.iconst 4, 1) := by decide +kernel
theorem dX0_countLive_15 : decode cX0_countLive 15 = .ok (.iload_n 1, 1) := by decide +kernel
theorem dX0_countLive_16 : decode cX0_countLive 16 = .ok (.imul, 1) := by decide +kernel
theorem dX0_countLive_17 : decode cX0_countLive 17 = .ok (.istore_n 3, 1) := by decide +kernel
theorem dX0_countLive_18 : decode cX0_countLive 18 = .ok (.iload_n 3, 1) := by decide +kernel
theorem dX0_countLive_19 : decode cX0_countLive 19 = .ok (.iconst 4, 1) := by decide +kernel
theorem dX0_countLive_20 : decode cX0_countLive 20 = .ok (.iload_n 1, 1) := by decide +kernel
theorem dX0_countLive_21 : decode cX0_countLive 21 = .ok (.imul, 1) := by decide +kernel
theorem dX0_countLive_22 : decode cX0_countLive 22 = .ok (.iconst 4, 1) := by decide +kernel
theorem dX0_countLive_23 : decode cX0_countLive 23 = .ok (.iadd, 1) := by decide +kernel
theorem dX0_countLive_24 : decode cX0_countLive 24 = .ok (.if_icmp .ge 18, 3) := by decide +kernel
theorem dX0_countLive_27 : decode cX0_countLive 27 = .ok (.iload_n 2, 1) := by decide +kernel
theorem dX0_countLive_28 : decode cX0_countLive 28 = .ok (.aload_n 0, 1) := by decide +kernel
theorem dX0_countLive_29 : decode cX0_countLive 29 = .ok (.getfield 27, 3) := by decide +kernel
theorem dX0_countLive_32 : decode cX0_countLive 32 = .ok (.iload_n 3, 1) := by decide +kernel
theorem dX0_countLive_33 : decode cX0_countLive 33 = .ok (.iaload, 1) := by decide +kernel
theorem dX0_countLive_34 : decode cX0_countLive 34 = .ok (.iadd, 1) := by decide +kernel
theorem dX0_countLive_35 : decode cX0_countLive 35 = .ok (.istore_n 2, 1) := by decide +kernel
theorem dX0_countLive_36 : decode cX0_countLive 36 = .ok (.iinc 3 1, 3) := by decide +kernel
theorem dX0_countLive_39 : decode cX0_countLive 39 = .ok (.goto (-21), 3) := by decide +kernel
theorem dX0_countLive_42 : decode cX0_countLive 42 = .ok (.iload_n 2, 1) := by decide +kernel
theorem dX0_countLive_43 : decode cX0_countLive 43 = .ok (.ireturn, 1) := by decide +kernel
theorem q0_countLive : CQ W6 yX0_countLive cX0_countLive 4 (some .int) 1 := ⟨(m6 138 rfl), by decide, by decide, by decide +kernel⟩
set_option maxHeartbeats 4000000 in
set_option maxRecDepth 100000 in
theorem c0_countLive (l : Launch) (D : va_G) (cI : ClassId) (fo a0 a1 a2 a3 a4 a5 a6 a7 : Nat) (kd ky vl mk wr lv nw fr : Nat → Int32) (B : Nat) (hB8 : B ≤ 8) (x : Int32) : RQ l yX0_countLive cX0_countLive 4 .int W6 0 0 D [(fo, .inr (0, [.ref a0, .ref a1, .ref a2, .ref a3, .ref a4, .ref a5, .ref a6, .ref a7, .int (nI (B))])), (a0, .inl (cI, 32, .inl kd)), (a1, .inl (cI, 32, .inl ky)), (a2, .inl (cI, 32, .inl vl)), (a3, .inl (cI, 32, .inl mk)), (a4, .inl (cI, 8, .inl wr)), (a5, .inl (cI, 32, .inl lv)), (a6, .inl (cI, 16, .inl nw)), (a7, .inl (cI, 8, .inl fr))] [(cI, .int)] [.ref fo, .int (x)] (slV lv x) := by
  refine rq_of RX0 (by decide) rfl (Nat.le_of_ble_eq_true rfl) ?_
  intro p e s m below meth c ls hX hr hlocks hK hN hP hS hl
  have hx := hX.1
  have hb := hX.2.1
  have hown := hX.2.2.2.1
  have hts := hX.2.2.2.2
  have hl : lv_has ls 4 [(0, .ref fo), (1, .int (x))] := hl
  refine lv_iload_n hx hb dX0_countLive_0 rfl (lv_at hl 1 rfl) ?_
  refine lv_if_lt (tgt := 10) hx hb dX0_countLive_1 (by decide) (fun c1_1 => ?_) (fun c1_1 => ?_)
  · skip
    refine lv_iconst (v := 0) hx hb dX0_countLive_10 (by decide) ?_
    exact rp_ret hX hr hlocks hS (by rw [slV, if_neg (fun z => z.1 c1_1)]) dX0_countLive_11
  · skip
    refine lv_iload_n hx hb dX0_countLive_4 rfl (lv_at hl 1 rfl) ?_
    refine lv_bipush (v := 8) hx hb dX0_countLive_5 (by decide) ?_
    refine lv_icmp_lt (tgt := 12) hx hb dX0_countLive_7 (by decide) (fun c7_2 => ?_) (fun c7_2 => ?_)
    · skip
      obtain ⟨en1, hn1⟩ := num0 (k := 8) (by decide) c1_1 c7_2
      have hl : lv_has ls 4 [(0, .ref fo), (1, .int (nI (x.toNatClampNeg)))] := lv_re hl 1 rfl en1
      refine lv_iconst (v := 0) hx hb dX0_countLive_12 (by decide) ?_
      refine lv_istore_n (lv' := [(2, .int (0)), (0, .ref fo), (1, .int (nI (x.toNatClampNeg)))]) hx hb dX0_countLive_13 rfl hl (by decide) rfl (fun ls hl => ?_)
      refine lv_iconst (v := 4) hx hb dX0_countLive_14 (by decide) ?_
      refine lv_iload_n hx hb dX0_countLive_15 rfl (lv_at hl 2 rfl) ?_
      refine lv_imul hx hb dX0_countLive_16 ?_
      refine lv_as (y := nI (4 * x.toNatClampNeg)) (pk_mul (4) (x.toNatClampNeg)) ?_
      refine lv_istore_n (lv' := [(3, .int (nI (4 * x.toNatClampNeg))), (2, .int (0)), (0, .ref fo), (1, .int (nI (x.toNatClampNeg)))]) hx hb dX0_countLive_17 rfl hl (by decide) rfl (fun ls hl => ?_)
      have LP18 : ∀ n9 : Nat, ∀ (j : Nat), (hj : j ≤ 4) → 4 - j < n9 → ∀ (H : Heap) (locs : List Loc), va_P D vwCl [(fo, .inr (0, [.ref a0, .ref a1, .ref a2, .ref a3, .ref a4, .ref a5, .ref a6, .ref a7, .int (nI (B))])), (a0, .inl (cI, 32, .inl kd)), (a1, .inl (cI, 32, .inl ky)), (a2, .inl (cI, 32, .inl vl)), (a3, .inl (cI, 32, .inl mk)), (a4, .inl (cI, 8, .inl wr)), (a5, .inl (cI, 32, .inl lv)), (a6, .inl (cI, 16, .inl nw)), (a7, .inl (cI, 8, .inl fr))] H → va_S (fun _ => False) s.heap H locs → ∀ ls : Array Slot, lv_has ls 4 [(0, .ref fo), (1, .int (nI (x.toNatClampNeg))), (2, .int (slF lv x.toNatClampNeg j)), (3, .int (nI (4 * x.toNatClampNeg + j)))] → W p l e ({ frames := 0, cells := 0, slots := 0, locals := 0 } : Room) s m ([.ref fo, .int (x)] : List Value).toArray below meth c H locs 0 0 (MQ below (rp_Qi (slV lv x)) ([.ref fo, .int (x)] : List Value).toArray s 0 0 (fun _ => False)) (F0 m 18 ls []) := by
        intro n9
        induction n9 with
        | zero => intros; omega
        | succ n9 ih18 =>
          intro j hj hm9 H locs hP hS ls hl
          refine lv_iload_n hx hb dX0_countLive_18 rfl (lv_at hl 3 rfl) ?_
          refine lv_iconst (v := 4) hx hb dX0_countLive_19 (by decide) ?_
          refine lv_iload_n hx hb dX0_countLive_20 rfl (lv_at hl 1 rfl) ?_
          refine lv_imul hx hb dX0_countLive_21 ?_
          refine lv_as (y := nI (4 * x.toNatClampNeg)) (pk_mul (4) (x.toNatClampNeg)) ?_
          refine lv_iconst (v := 4) hx hb dX0_countLive_22 (by decide) ?_
          refine lv_iadd hx hb dX0_countLive_23 ?_
          refine lv_as (y := nI (4 * x.toNatClampNeg + 4)) (nI_add (4 * x.toNatClampNeg) (4)) ?_
          refine lv_icmp_ge (tgt := 42) hx hb dX0_countLive_24 (by decide) (fun c24_3 => ?_) (fun c24_3 => ?_)
          · skip
            have c24_3 := cn_le (a := 4 * x.toNatClampNeg + 4) (b := 4 * x.toNatClampNeg + j) (by omega) (by omega) c24_3
            refine lv_iload_n hx hb dX0_countLive_42 rfl (lv_at hl 2 rfl) ?_
            exact rp_ret hX hr hlocks hS (by rw [slV, if_pos ⟨c1_1, c7_2⟩, show j = 4 by omega]) dX0_countLive_43
          · skip
            have c24_3 := cn_nle (a := 4 * x.toNatClampNeg + 4) (b := 4 * x.toNatClampNeg + j) (by omega) (by omega) c24_3
            refine lv_iload_n hx hb dX0_countLive_27 rfl (lv_at hl 2 rfl) ?_
            refine lv_aload_n hx hb dX0_countLive_28 rfl (lv_at hl 0 rfl) ?_
            refine va_get (D := D) (ci := 0) (v := .ref a5) (C := RX0) (T := TX0) (N := 9) hx hb hts u6_X0 hown hK hP 0 rfl rfl 5 (by decide) (hts _ (m6 9 rfl)) (fun _ h9 => h9) rfl dX0_countLive_29 ?_
            refine lv_iload_n hx hb dX0_countLive_32 rfl (lv_at hl 3 rfl) ?_
            refine ra_iald (i := 4 * x.toNatClampNeg + j) hx hb hK hP 6 0 rfl rfl (by omega) (by decide) dX0_countLive_33 ?_
            refine lv_iadd hx hb dX0_countLive_34 ?_
            refine lv_istore_n (lv' := [(2, .int ((slF lv x.toNatClampNeg j) + (lv (4 * x.toNatClampNeg + j)))), (0, .ref fo), (1, .int (nI (x.toNatClampNeg))), (3, .int (nI (4 * x.toNatClampNeg + j)))]) hx hb dX0_countLive_35 rfl hl (by decide) rfl (fun ls hl => ?_)
            refine lv_iinc (v := nI (4 * x.toNatClampNeg + j + 1)) (lv' := [(3, .int (nI (4 * x.toNatClampNeg + j + 1))), (2, .int ((slF lv x.toNatClampNeg j) + (lv (4 * x.toNatClampNeg + j)))), (0, .ref fo), (1, .int (nI (x.toNatClampNeg)))]) hx hb dX0_countLive_36 hl (k := 3) rfl (nI_add _ 1) (by decide) rfl (fun ls hl => ?_)
            refine lv_goto (tgt := 18) hx hb dX0_countLive_39 (by decide) ?_
            have hl : lv_has ls 4 [(3, .int (nI (4 * x.toNatClampNeg + j + 1))), (2, .int (slF lv x.toNatClampNeg (j + 1))), (0, .ref fo), (1, .int (nI (x.toNatClampNeg)))] := lv_re hl 1 rfl (show (slF lv x.toNatClampNeg j) + (lv (4 * x.toNatClampNeg + j)) = slF lv x.toNatClampNeg (j + 1) from rfl)
            have hl : lv_has ls 4 [(3, .int (nI (4 * x.toNatClampNeg + (j + 1)))), (2, .int (slF lv x.toNatClampNeg (j + 1))), (0, .ref fo), (1, .int (nI (x.toNatClampNeg)))] := lv_re hl 0 rfl (show nI (4 * x.toNatClampNeg + j + 1) = nI (4 * x.toNatClampNeg + (j + 1)) from rfl)
            exact ih18 (j + 1) (by omega) (by omega) _ _ hP hS _ (lv_sub hl [2, 3, 1, 0] rfl)
      have hl : lv_has ls 4 [(3, .int (nI (4 * x.toNatClampNeg))), (2, .int (slF lv x.toNatClampNeg 0)), (0, .ref fo), (1, .int (nI (x.toNatClampNeg)))] := lv_re hl 1 rfl (show 0 = slF lv x.toNatClampNeg 0 from rfl)
      have hl : lv_has ls 4 [(3, .int (nI (4 * x.toNatClampNeg + 0))), (2, .int (slF lv x.toNatClampNeg 0)), (0, .ref fo), (1, .int (nI (x.toNatClampNeg)))] := lv_re hl 0 rfl (show nI (4 * x.toNatClampNeg) = nI (4 * x.toNatClampNeg + 0) from rfl)
      exact LP18 ((4 - 0) + 1) 0 (by omega) (by omega) _ _ hP hS _ (lv_sub hl [2, 3, 1, 0] rfl)
    · skip
      refine lv_iconst (v := 0) hx hb dX0_countLive_10 (by decide) ?_
      exact rp_ret hX hr hlocks hS (by rw [slV, if_neg (fun z => c7_2 z.2)]) dX0_countLive_11
theorem dX0_greatestMark_0 : decode cX0_greatestMark 0 = .ok (.iload_n 1, 1) := by decide +kernel
theorem dX0_greatestMark_1 : decode cX0_greatestMark 1 = .ok (.ifCond .lt 9, 3) := by decide +kernel
theorem dX0_greatestMark_4 : decode cX0_greatestMark 4 = .ok (.iload_n 1, 1) := by decide +kernel
theorem dX0_greatestMark_5 : decode cX0_greatestMark 5 = .ok (.bipush 8, 2) := by decide +kernel
theorem dX0_greatestMark_7 : decode cX0_greatestMark 7 = .ok (.if_icmp .lt 5, 3) := by decide +kernel
theorem dX0_greatestMark_10 : decode cX0_greatestMark 10 = .ok (.iconst 0, 1) := by decide +kernel
theorem dX0_greatestMark_11 : decode cX0_greatestMark 11 = .ok (.ireturn, 1) := by decide +kernel
theorem dX0_greatestMark_12 : decode cX0_greatestMark 12 = .ok (.iconst 0, 1) := by decide +kernel
theorem dX0_greatestMark_13 : decode cX0_greatestMark 13 = .ok (.istore_n 2, 1) := by decide +kernel
theorem dX0_greatestMark_14 : decode cX0_greatestMark 14 = .ok (.iconst 4, 1) := by decide +kernel
theorem dX0_greatestMark_15 : decode cX0_greatestMark 15 = .ok (.iload_n 1, 1) := by decide +kernel
theorem dX0_greatestMark_16 : decode cX0_greatestMark 16 = .ok (.imul, 1) := by decide +kernel
theorem dX0_greatestMark_17 : decode cX0_greatestMark 17 = .ok (.istore_n 3, 1) := by decide +kernel
theorem dX0_greatestMark_18 : decode cX0_greatestMark 18 = .ok (.iload_n 3, 1) := by decide +kernel
theorem dX0_greatestMark_19 : decode cX0_greatestMark 19 = .ok (.iconst 4, 1) := by decide +kernel
theorem dX0_greatestMark_20 : decode cX0_greatestMark 20 = .ok (.iload_n 1, 1) := by decide +kernel
theorem dX0_greatestMark_21 : decode cX0_greatestMark 21 = .ok (.imul, 1) := by decide +kernel
theorem dX0_greatestMark_22 : decode cX0_greatestMark 22 = .ok (.iconst 4, 1) := by decide +kernel
theorem dX0_greatestMark_23 : decode cX0_greatestMark 23 = .ok (.iadd, 1) := by decide +kernel
theorem dX0_greatestMark_24 : decode cX0_greatestMark 24 = .ok (.if_icmp .ge 36, 3) := by decide +kernel
theorem dX0_greatestMark_27 : decode cX0_greatestMark 27 = .ok (.aload_n 0, 1) := by decide +kernel
theorem dX0_greatestMark_28 : decode cX0_greatestMark 28 = .ok (.getfield 11, 3) := by decide +kernel
theorem dX0_greatestMark_31 : decode cX0_greatestMark 31 = .ok (.iload_n 3, 1) := by decide +kernel
theorem dX0_greatestMark_32 : decode cX0_greatestMark 32 = .ok (.iaload, 1) := by decide +kernel
theorem dX0_greatestMark_33 : decode cX0_greatestMark 33 = .ok (.iconst 1, 1) := by decide +kernel
theorem dX0_greatestMark_34 : decode cX0_greatestMark 34 = .ok (.if_icmp .ne 20, 3) := by decide +kernel
theorem dX0_greatestMark_37 : decode cX0_greatestMark 37 = .ok (.aload_n 0, 1) := by decide +kernel
theorem dX0_greatestMark_38 : decode cX0_greatestMark 38 = .ok (.getfield 21, 3) := by decide +kernel
theorem dX0_greatestMark_41 : decode cX0_greatestMark 41 = .ok (.iload_n 3, 1) := by decide +kernel
theorem dX0_greatestMark_42 : decode cX0_greatestMark 42 = .ok (.iaload, 1) := by decide +kernel
theorem dX0_greatestMark_43 : decode cX0_greatestMark 43 = .ok (.iload_n 2, 1) := by decide +kernel
theorem dX0_greatestMark_44 : decode cX0_greatestMark 44 = .ok (.if_icmp .le 10, 3) := by decide +kernel
theorem dX0_greatestMark_47 : decode cX0_greatestMark 47 = .ok (.aload_n 0, 1) := by decide +kernel
theorem dX0_greatestMark_48 : decode cX0_greatestMark 48 = .ok (.getfield 21, 3) := by decide +kernel
theorem dX0_greatestMark_51 : decode cX0_greatestMark 51 = .ok (.iload_n 3, 1) := by decide +kernel
theorem dX0_greatestMark_52 : decode cX0_greatestMark 52 = .ok (.iaload, 1) := by decide +kernel
theorem dX0_greatestMark_53 : decode cX0_greatestMark 53 = .ok (.istore_n 2, 1) := by decide +kernel
theorem dX0_greatestMark_54 : decode cX0_greatestMark 54 = .ok (.iinc 3 1, 3) := by decide +kernel
theorem dX0_greatestMark_57 : decode cX0_greatestMark 57 = .ok (.goto (-39), 3) := by decide +kernel
theorem dX0_greatestMark_60 : decode cX0_greatestMark 60 = .ok (.iload_n 2, 1) := by decide +kernel
theorem dX0_greatestMark_61 : decode cX0_greatestMark 61 = .ok (.ireturn, 1) := by decide +kernel
theorem q0_greatestMark : CQ W6 yX0_greatestMark cX0_greatestMark 4 (some .int) 1 := ⟨(m6 150 rfl), by decide, by decide, by decide +kernel⟩
set_option maxHeartbeats 4000000 in
set_option maxRecDepth 100000 in
theorem c0_greatestMark (l : Launch) (D : va_G) (cI : ClassId) (fo a0 a1 a2 a3 a4 a5 a6 a7 : Nat) (kd ky vl mk wr lv nw fr : Nat → Int32) (B : Nat) (hB8 : B ≤ 8) (x : Int32) : RQ l yX0_greatestMark cX0_greatestMark 4 .int W6 0 0 D [(fo, .inr (0, [.ref a0, .ref a1, .ref a2, .ref a3, .ref a4, .ref a5, .ref a6, .ref a7, .int (nI (B))])), (a0, .inl (cI, 32, .inl kd)), (a1, .inl (cI, 32, .inl ky)), (a2, .inl (cI, 32, .inl vl)), (a3, .inl (cI, 32, .inl mk)), (a4, .inl (cI, 8, .inl wr)), (a5, .inl (cI, 32, .inl lv)), (a6, .inl (cI, 16, .inl nw)), (a7, .inl (cI, 8, .inl fr))] [(cI, .int)] [.ref fo, .int (x)] (gmV kd mk x) := by
  refine rq_of RX0 (by decide) rfl (Nat.le_of_ble_eq_true rfl) ?_
  intro p e s m below meth c ls hX hr hlocks hK hN hP hS hl
  have hx := hX.1
  have hb := hX.2.1
  have hown := hX.2.2.2.1
  have hts := hX.2.2.2.2
  have hl : lv_has ls 4 [(0, .ref fo), (1, .int (x))] := hl
  refine lv_iload_n hx hb dX0_greatestMark_0 rfl (lv_at hl 1 rfl) ?_
  refine lv_if_lt (tgt := 10) hx hb dX0_greatestMark_1 (by decide) (fun c1_1 => ?_) (fun c1_1 => ?_)
  · skip
    refine lv_iconst (v := 0) hx hb dX0_greatestMark_10 (by decide) ?_
    exact rp_ret hX hr hlocks hS (by rw [gmV, if_neg (fun z => z.1 c1_1)]) dX0_greatestMark_11
  · skip
    refine lv_iload_n hx hb dX0_greatestMark_4 rfl (lv_at hl 1 rfl) ?_
    refine lv_bipush (v := 8) hx hb dX0_greatestMark_5 (by decide) ?_
    refine lv_icmp_lt (tgt := 12) hx hb dX0_greatestMark_7 (by decide) (fun c7_2 => ?_) (fun c7_2 => ?_)
    · skip
      obtain ⟨en1, hn1⟩ := num0 (k := 8) (by decide) c1_1 c7_2
      have hl : lv_has ls 4 [(0, .ref fo), (1, .int (nI (x.toNatClampNeg)))] := lv_re hl 1 rfl en1
      refine lv_iconst (v := 0) hx hb dX0_greatestMark_12 (by decide) ?_
      refine lv_istore_n (lv' := [(2, .int (0)), (0, .ref fo), (1, .int (nI (x.toNatClampNeg)))]) hx hb dX0_greatestMark_13 rfl hl (by decide) rfl (fun ls hl => ?_)
      refine lv_iconst (v := 4) hx hb dX0_greatestMark_14 (by decide) ?_
      refine lv_iload_n hx hb dX0_greatestMark_15 rfl (lv_at hl 2 rfl) ?_
      refine lv_imul hx hb dX0_greatestMark_16 ?_
      refine lv_as (y := nI (4 * x.toNatClampNeg)) (pk_mul (4) (x.toNatClampNeg)) ?_
      refine lv_istore_n (lv' := [(3, .int (nI (4 * x.toNatClampNeg))), (2, .int (0)), (0, .ref fo), (1, .int (nI (x.toNatClampNeg)))]) hx hb dX0_greatestMark_17 rfl hl (by decide) rfl (fun ls hl => ?_)
      have LP18 : ∀ n9 : Nat, ∀ (j : Nat), (hj : j ≤ 4) → 4 - j < n9 → ∀ (H : Heap) (locs : List Loc), va_P D vwCl [(fo, .inr (0, [.ref a0, .ref a1, .ref a2, .ref a3, .ref a4, .ref a5, .ref a6, .ref a7, .int (nI (B))])), (a0, .inl (cI, 32, .inl kd)), (a1, .inl (cI, 32, .inl ky)), (a2, .inl (cI, 32, .inl vl)), (a3, .inl (cI, 32, .inl mk)), (a4, .inl (cI, 8, .inl wr)), (a5, .inl (cI, 32, .inl lv)), (a6, .inl (cI, 16, .inl nw)), (a7, .inl (cI, 8, .inl fr))] H → va_S (fun _ => False) s.heap H locs → ∀ ls : Array Slot, lv_has ls 4 [(0, .ref fo), (1, .int (nI (x.toNatClampNeg))), (2, .int (gmF kd mk x.toNatClampNeg j)), (3, .int (nI (4 * x.toNatClampNeg + j)))] → W p l e ({ frames := 0, cells := 0, slots := 0, locals := 0 } : Room) s m ([.ref fo, .int (x)] : List Value).toArray below meth c H locs 0 0 (MQ below (rp_Qi (gmV kd mk x)) ([.ref fo, .int (x)] : List Value).toArray s 0 0 (fun _ => False)) (F0 m 18 ls []) := by
        intro n9
        induction n9 with
        | zero => intros; omega
        | succ n9 ih18 =>
          intro j hj hm9 H locs hP hS ls hl
          refine lv_iload_n hx hb dX0_greatestMark_18 rfl (lv_at hl 3 rfl) ?_
          refine lv_iconst (v := 4) hx hb dX0_greatestMark_19 (by decide) ?_
          refine lv_iload_n hx hb dX0_greatestMark_20 rfl (lv_at hl 1 rfl) ?_
          refine lv_imul hx hb dX0_greatestMark_21 ?_
          refine lv_as (y := nI (4 * x.toNatClampNeg)) (pk_mul (4) (x.toNatClampNeg)) ?_
          refine lv_iconst (v := 4) hx hb dX0_greatestMark_22 (by decide) ?_
          refine lv_iadd hx hb dX0_greatestMark_23 ?_
          refine lv_as (y := nI (4 * x.toNatClampNeg + 4)) (nI_add (4 * x.toNatClampNeg) (4)) ?_
          refine lv_icmp_ge (tgt := 60) hx hb dX0_greatestMark_24 (by decide) (fun c24_3 => ?_) (fun c24_3 => ?_)
          · skip
            have c24_3 := cn_le (a := 4 * x.toNatClampNeg + 4) (b := 4 * x.toNatClampNeg + j) (by omega) (by omega) c24_3
            refine lv_iload_n hx hb dX0_greatestMark_60 rfl (lv_at hl 2 rfl) ?_
            exact rp_ret hX hr hlocks hS (by rw [gmV, if_pos ⟨c1_1, c7_2⟩, show j = 4 by omega]) dX0_greatestMark_61
          · skip
            have c24_3 := cn_nle (a := 4 * x.toNatClampNeg + 4) (b := 4 * x.toNatClampNeg + j) (by omega) (by omega) c24_3
            refine lv_aload_n hx hb dX0_greatestMark_27 rfl (lv_at hl 0 rfl) ?_
            refine va_get (D := D) (ci := 0) (v := .ref a0) (C := RX0) (T := TX0) (N := 9) hx hb hts u6_X0 hown hK hP 0 rfl rfl 0 (by decide) (hts _ (m6 4 rfl)) (fun _ h9 => h9) rfl dX0_greatestMark_28 ?_
            refine lv_iload_n hx hb dX0_greatestMark_31 rfl (lv_at hl 3 rfl) ?_
            refine ra_iald (i := 4 * x.toNatClampNeg + j) hx hb hK hP 1 0 rfl rfl (by omega) (by decide) dX0_greatestMark_32 ?_
            refine lv_iconst (v := 1) hx hb dX0_greatestMark_33 (by decide) ?_
            refine lv_icmp_ne (tgt := 54) hx hb dX0_greatestMark_34 (by decide) (fun c34_4 => ?_) (fun c34_4 => ?_)
            · skip
              refine lv_iinc (v := nI (4 * x.toNatClampNeg + j + 1)) (lv' := [(3, .int (nI (4 * x.toNatClampNeg + j + 1))), (0, .ref fo), (1, .int (nI (x.toNatClampNeg))), (2, .int (gmF kd mk x.toNatClampNeg j))]) hx hb dX0_greatestMark_54 hl (k := 3) rfl (nI_add _ 1) (by decide) rfl (fun ls hl => ?_)
              refine lv_goto (tgt := 18) hx hb dX0_greatestMark_57 (by decide) ?_
              have hl : lv_has ls 4 [(3, .int (nI (4 * x.toNatClampNeg + j + 1))), (0, .ref fo), (1, .int (nI (x.toNatClampNeg))), (2, .int (gmF kd mk x.toNatClampNeg (j + 1)))] := lv_re hl 3 rfl (show gmF kd mk x.toNatClampNeg j = gmF kd mk x.toNatClampNeg (j + 1) from by rw [gmF, if_neg (fun z => c34_4 z.1)])
              have hl : lv_has ls 4 [(3, .int (nI (4 * x.toNatClampNeg + (j + 1)))), (0, .ref fo), (1, .int (nI (x.toNatClampNeg))), (2, .int (gmF kd mk x.toNatClampNeg (j + 1)))] := lv_re hl 0 rfl (show nI (4 * x.toNatClampNeg + j + 1) = nI (4 * x.toNatClampNeg + (j + 1)) from rfl)
              exact ih18 (j + 1) (by omega) (by omega) _ _ hP hS _ (lv_sub hl [1, 2, 3, 0] rfl)
            · skip
              refine lv_aload_n hx hb dX0_greatestMark_37 rfl (lv_at hl 0 rfl) ?_
              refine va_get (D := D) (ci := 0) (v := .ref a3) (C := RX0) (T := TX0) (N := 9) hx hb hts u6_X0 hown hK hP 0 rfl rfl 3 (by decide) (hts _ (m6 7 rfl)) (fun _ h9 => h9) rfl dX0_greatestMark_38 ?_
              refine lv_iload_n hx hb dX0_greatestMark_41 rfl (lv_at hl 3 rfl) ?_
              refine ra_iald (i := 4 * x.toNatClampNeg + j) hx hb hK hP 4 0 rfl rfl (by omega) (by decide) dX0_greatestMark_42 ?_
              refine lv_iload_n hx hb dX0_greatestMark_43 rfl (lv_at hl 2 rfl) ?_
              refine lv_icmp_le (tgt := 54) hx hb dX0_greatestMark_44 (by decide) (fun c44_5 => ?_) (fun c44_5 => ?_)
              · skip
                have c44_5 := i_nlt c44_5
                refine lv_iinc (v := nI (4 * x.toNatClampNeg + j + 1)) (lv' := [(3, .int (nI (4 * x.toNatClampNeg + j + 1))), (0, .ref fo), (1, .int (nI (x.toNatClampNeg))), (2, .int (gmF kd mk x.toNatClampNeg j))]) hx hb dX0_greatestMark_54 hl (k := 3) rfl (nI_add _ 1) (by decide) rfl (fun ls hl => ?_)
                refine lv_goto (tgt := 18) hx hb dX0_greatestMark_57 (by decide) ?_
                have hl : lv_has ls 4 [(3, .int (nI (4 * x.toNatClampNeg + j + 1))), (0, .ref fo), (1, .int (nI (x.toNatClampNeg))), (2, .int (gmF kd mk x.toNatClampNeg (j + 1)))] := lv_re hl 3 rfl (show gmF kd mk x.toNatClampNeg j = gmF kd mk x.toNatClampNeg (j + 1) from by rw [gmF, if_neg (fun z => c44_5 z.2)])
                have hl : lv_has ls 4 [(3, .int (nI (4 * x.toNatClampNeg + (j + 1)))), (0, .ref fo), (1, .int (nI (x.toNatClampNeg))), (2, .int (gmF kd mk x.toNatClampNeg (j + 1)))] := lv_re hl 0 rfl (show nI (4 * x.toNatClampNeg + j + 1) = nI (4 * x.toNatClampNeg + (j + 1)) from rfl)
                exact ih18 (j + 1) (by omega) (by omega) _ _ hP hS _ (lv_sub hl [1, 2, 3, 0] rfl)
              · skip
                have c44_5 := i_lt c44_5
                refine lv_aload_n hx hb dX0_greatestMark_47 rfl (lv_at hl 0 rfl) ?_
                refine va_get (D := D) (ci := 0) (v := .ref a3) (C := RX0) (T := TX0) (N := 9) hx hb hts u6_X0 hown hK hP 0 rfl rfl 3 (by decide) (hts _ (m6 7 rfl)) (fun _ h9 => h9) rfl dX0_greatestMark_48 ?_
                refine lv_iload_n hx hb dX0_greatestMark_51 rfl (lv_at hl 3 rfl) ?_
                refine ra_iald (i := 4 * x.toNatClampNeg + j) hx hb hK hP 4 0 rfl rfl (by omega) (by decide) dX0_greatestMark_52 ?_
                refine lv_istore_n (lv' := [(2, .int (mk (4 * x.toNatClampNeg + j))), (0, .ref fo), (1, .int (nI (x.toNatClampNeg))), (3, .int (nI (4 * x.toNatClampNeg + j)))]) hx hb dX0_greatestMark_53 rfl hl (by decide) rfl (fun ls hl => ?_)
                refine lv_iinc (v := nI (4 * x.toNatClampNeg + j + 1)) (lv' := [(3, .int (nI (4 * x.toNatClampNeg + j + 1))), (2, .int (mk (4 * x.toNatClampNeg + j))), (0, .ref fo), (1, .int (nI (x.toNatClampNeg)))]) hx hb dX0_greatestMark_54 hl (k := 3) rfl (nI_add _ 1) (by decide) rfl (fun ls hl => ?_)
                refine lv_goto (tgt := 18) hx hb dX0_greatestMark_57 (by decide) ?_
                have hl : lv_has ls 4 [(3, .int (nI (4 * x.toNatClampNeg + j + 1))), (2, .int (gmF kd mk x.toNatClampNeg (j + 1))), (0, .ref fo), (1, .int (nI (x.toNatClampNeg)))] := lv_re hl 1 rfl (show mk (4 * x.toNatClampNeg + j) = gmF kd mk x.toNatClampNeg (j + 1) from by rw [gmF, if_pos ⟨c34_4, c44_5⟩])
                have hl : lv_has ls 4 [(3, .int (nI (4 * x.toNatClampNeg + (j + 1)))), (2, .int (gmF kd mk x.toNatClampNeg (j + 1))), (0, .ref fo), (1, .int (nI (x.toNatClampNeg)))] := lv_re hl 0 rfl (show nI (4 * x.toNatClampNeg + j + 1) = nI (4 * x.toNatClampNeg + (j + 1)) from rfl)
                exact ih18 (j + 1) (by omega) (by omega) _ _ hP hS _ (lv_sub hl [2, 3, 1, 0] rfl)
      have hl : lv_has ls 4 [(3, .int (nI (4 * x.toNatClampNeg))), (2, .int (gmF kd mk x.toNatClampNeg 0)), (0, .ref fo), (1, .int (nI (x.toNatClampNeg)))] := lv_re hl 1 rfl (show 0 = gmF kd mk x.toNatClampNeg 0 from rfl)
      have hl : lv_has ls 4 [(3, .int (nI (4 * x.toNatClampNeg + 0))), (2, .int (gmF kd mk x.toNatClampNeg 0)), (0, .ref fo), (1, .int (nI (x.toNatClampNeg)))] := lv_re hl 0 rfl (show nI (4 * x.toNatClampNeg) = nI (4 * x.toNatClampNeg + 0) from rfl)
      exact LP18 ((4 - 0) + 1) 0 (by omega) (by omega) _ _ hP hS _ (lv_sub hl [2, 3, 1, 0] rfl)
    · skip
      refine lv_iconst (v := 0) hx hb dX0_greatestMark_10 (by decide) ?_
      exact rp_ret hX hr hlocks hS (by rw [gmV, if_neg (fun z => c7_2 z.2)]) dX0_greatestMark_11
theorem dX0_hasTornOrDead_0 : decode cX0_hasTornOrDead 0 = .ok (.iload_n 1, 1) := by decide +kernel
theorem dX0_hasTornOrDead_1 : decode cX0_hasTornOrDead 1 = .ok (.ifCond .lt 9, 3) := by decide +kernel
theorem dX0_hasTornOrDead_4 : decode cX0_hasTornOrDead 4 = .ok (.iload_n 1, 1) := by decide +kernel
theorem dX0_hasTornOrDead_5 : decode cX0_hasTornOrDead 5 = .ok (.bipush 8, 2) := by decide +kernel
theorem dX0_hasTornOrDead_7 : decode cX0_hasTornOrDead 7 = .ok (.if_icmp .lt 5, 3) := by decide +kernel
theorem dX0_hasTornOrDead_10 : decode cX0_hasTornOrDead 10 = .ok (.iconst 0, 1) := by decide +kernel
theorem dX0_hasTornOrDead_11 : decode cX0_hasTornOrDead 11 = .ok (.ireturn, 1) := by decide +kernel
theorem dX0_hasTornOrDead_12 : decode cX0_hasTornOrDead 12 = .ok (.iconst 4, 1) := by decide +kernel
theorem dX0_hasTornOrDead_13 : decode cX0_hasTornOrDead 13 = .ok (.iload_n 1, 1) := by decide +kernel
theorem dX0_hasTornOrDead_14 : decode cX0_hasTornOrDead 14 = .ok (.imul, 1) := by decide +kernel
theorem dX0_hasTornOrDead_15 : decode cX0_hasTornOrDead 15 = .ok (.istore_n 2, 1) := by decide +kernel
theorem dX0_hasTornOrDead_16 : decode cX0_hasTornOrDead 16 = .ok (.iload_n 2, 1) := by decide +kernel
theorem dX0_hasTornOrDead_17 : decode cX0_hasTornOrDead 17 = .ok (.iconst 4, 1) := by decide +kernel
theorem dX0_hasTornOrDead_18 : decode cX0_hasTornOrDead 18 = .ok (.iload_n 1, 1) := by decide +kernel
theorem dX0_hasTornOrDead_19 : decode cX0_hasTornOrDead 19 = .ok (.imul, 1) := by decide +kernel
theorem dX0_hasTornOrDead_20 : decode cX0_hasTornOrDead 20 = .ok (.iconst 4, 1) := by decide +kernel
theorem dX0_hasTornOrDead_21 : decode cX0_hasTornOrDead 21 = .ok (.iadd, 1) := by decide +kernel
theorem dX0_hasTornOrDead_22 : decode cX0_hasTornOrDead 22 = .ok (.if_icmp .ge 29, 3) := by decide +kernel
theorem dX0_hasTornOrDead_25 : decode cX0_hasTornOrDead 25 = .ok (.aload_n 0, 1) := by decide +kernel
theorem dX0_hasTornOrDead_26 : decode cX0_hasTornOrDead 26 = .ok (.getfield 11, 3) := by decide +kernel
theorem dX0_hasTornOrDead_29 : decode cX0_hasTornOrDead 29 = .ok (.iload_n 2, 1) := by decide +kernel
theorem dX0_hasTornOrDead_30 : decode cX0_hasTornOrDead 30 = .ok (.iaload, 1) := by decide +kernel
theorem dX0_hasTornOrDead_31 : decode cX0_hasTornOrDead 31 = .ok (.ifCond .eq 14, 3) := by decide +kernel
theorem dX0_hasTornOrDead_34 : decode cX0_hasTornOrDead 34 = .ok (.aload_n 0, 1) := by decide +kernel
theorem dX0_hasTornOrDead_35 : decode cX0_hasTornOrDead 35 = .ok (.getfield 27, 3) := by decide +kernel
theorem dX0_hasTornOrDead_38 : decode cX0_hasTornOrDead 38 = .ok (.iload_n 2, 1) := by decide +kernel
theorem dX0_hasTornOrDead_39 : decode cX0_hasTornOrDead 39 = .ok (.iaload, 1) := by decide +kernel
theorem dX0_hasTornOrDead_40 : decode cX0_hasTornOrDead 40 = .ok (.ifCond .ne 5, 3) := by decide +kernel
theorem dX0_hasTornOrDead_43 : decode cX0_hasTornOrDead 43 = .ok (.iconst 1, 1) := by decide +kernel
theorem dX0_hasTornOrDead_44 : decode cX0_hasTornOrDead 44 = .ok (.ireturn, 1) := by decide +kernel
theorem dX0_hasTornOrDead_45 : decode cX0_hasTornOrDead 45 = .ok (.iinc 2 1, 3) := by decide +kernel
theorem dX0_hasTornOrDead_48 : decode cX0_hasTornOrDead 48 = .ok (.goto (-32), 3) := by decide +kernel
theorem dX0_hasTornOrDead_51 : decode cX0_hasTornOrDead 51 = .ok (.iconst 0, 1) := by decide +kernel
theorem dX0_hasTornOrDead_52 : decode cX0_hasTornOrDead 52 = .ok (.ireturn, 1) := by decide +kernel
theorem q0_hasTornOrDead : CQ W6 yX0_hasTornOrDead cX0_hasTornOrDead 3 (some .boolean) 1 := ⟨(m6 130 rfl), by decide, by decide, by decide +kernel⟩
set_option maxHeartbeats 4000000 in
set_option maxRecDepth 100000 in
theorem c0_hasTornOrDead (l : Launch) (D : va_G) (cI : ClassId) (fo a0 a1 a2 a3 a4 a5 a6 a7 : Nat) (kd ky vl mk wr lv nw fr : Nat → Int32) (B : Nat) (hB8 : B ≤ 8) (x : Int32) : RQ l yX0_hasTornOrDead cX0_hasTornOrDead 3 .boolean W6 0 0 D [(fo, .inr (0, [.ref a0, .ref a1, .ref a2, .ref a3, .ref a4, .ref a5, .ref a6, .ref a7, .int (nI (B))])), (a0, .inl (cI, 32, .inl kd)), (a1, .inl (cI, 32, .inl ky)), (a2, .inl (cI, 32, .inl vl)), (a3, .inl (cI, 32, .inl mk)), (a4, .inl (cI, 8, .inl wr)), (a5, .inl (cI, 32, .inl lv)), (a6, .inl (cI, 16, .inl nw)), (a7, .inl (cI, 8, .inl fr))] [(cI, .int)] [.ref fo, .int (x)] (bI (tdP kd lv x)) := by
  refine rq_of RX0 (by decide) rfl (Nat.le_of_ble_eq_true rfl) ?_
  intro p e s m below meth c ls hX hr hlocks hK hN hP hS hl
  have hx := hX.1
  have hb := hX.2.1
  have hown := hX.2.2.2.1
  have hts := hX.2.2.2.2
  have hl : lv_has ls 3 [(0, .ref fo), (1, .int (x))] := hl
  refine lv_iload_n hx hb dX0_hasTornOrDead_0 rfl (lv_at hl 1 rfl) ?_
  refine lv_if_lt (tgt := 10) hx hb dX0_hasTornOrDead_1 (by decide) (fun c1_1 => ?_) (fun c1_1 => ?_)
  · skip
    refine lv_iconst (v := 0) hx hb dX0_hasTornOrDead_10 (by decide) ?_
    exact rp_retz hX hr hlocks hS ((bI_0 (fun z => z.1.1 c1_1)).symm) dX0_hasTornOrDead_11
  · skip
    refine lv_iload_n hx hb dX0_hasTornOrDead_4 rfl (lv_at hl 1 rfl) ?_
    refine lv_bipush (v := 8) hx hb dX0_hasTornOrDead_5 (by decide) ?_
    refine lv_icmp_lt (tgt := 12) hx hb dX0_hasTornOrDead_7 (by decide) (fun c7_2 => ?_) (fun c7_2 => ?_)
    · skip
      obtain ⟨en1, hn1⟩ := num0 (k := 8) (by decide) c1_1 c7_2
      have hl : lv_has ls 3 [(0, .ref fo), (1, .int (nI (x.toNatClampNeg)))] := lv_re hl 1 rfl en1
      refine lv_iconst (v := 4) hx hb dX0_hasTornOrDead_12 (by decide) ?_
      refine lv_iload_n hx hb dX0_hasTornOrDead_13 rfl (lv_at hl 1 rfl) ?_
      refine lv_imul hx hb dX0_hasTornOrDead_14 ?_
      refine lv_as (y := nI (4 * x.toNatClampNeg)) (pk_mul (4) (x.toNatClampNeg)) ?_
      refine lv_istore_n (lv' := [(2, .int (nI (4 * x.toNatClampNeg))), (0, .ref fo), (1, .int (nI (x.toNatClampNeg)))]) hx hb dX0_hasTornOrDead_15 rfl hl (by decide) rfl (fun ls hl => ?_)
      have LP16 : ∀ n9 : Nat, ∀ (j : Nat), (hj : j ≤ 4) → (hq : tdF kd lv x.toNatClampNeg j = false) → 4 - j < n9 → ∀ (H : Heap) (locs : List Loc), va_P D vwCl [(fo, .inr (0, [.ref a0, .ref a1, .ref a2, .ref a3, .ref a4, .ref a5, .ref a6, .ref a7, .int (nI (B))])), (a0, .inl (cI, 32, .inl kd)), (a1, .inl (cI, 32, .inl ky)), (a2, .inl (cI, 32, .inl vl)), (a3, .inl (cI, 32, .inl mk)), (a4, .inl (cI, 8, .inl wr)), (a5, .inl (cI, 32, .inl lv)), (a6, .inl (cI, 16, .inl nw)), (a7, .inl (cI, 8, .inl fr))] H → va_S (fun _ => False) s.heap H locs → ∀ ls : Array Slot, lv_has ls 3 [(0, .ref fo), (1, .int (nI (x.toNatClampNeg))), (2, .int (nI (4 * x.toNatClampNeg + j)))] → W p l e ({ frames := 0, cells := 0, slots := 0, locals := 0 } : Room) s m ([.ref fo, .int (x)] : List Value).toArray below meth c H locs 0 0 (MQ below (rp_Qi (bI (tdP kd lv x))) ([.ref fo, .int (x)] : List Value).toArray s 0 0 (fun _ => False)) (F0 m 16 ls []) := by
        intro n9
        induction n9 with
        | zero => intros; omega
        | succ n9 ih16 =>
          intro j hj hq hm9 H locs hP hS ls hl
          refine lv_iload_n hx hb dX0_hasTornOrDead_16 rfl (lv_at hl 2 rfl) ?_
          refine lv_iconst (v := 4) hx hb dX0_hasTornOrDead_17 (by decide) ?_
          refine lv_iload_n hx hb dX0_hasTornOrDead_18 rfl (lv_at hl 1 rfl) ?_
          refine lv_imul hx hb dX0_hasTornOrDead_19 ?_
          refine lv_as (y := nI (4 * x.toNatClampNeg)) (pk_mul (4) (x.toNatClampNeg)) ?_
          refine lv_iconst (v := 4) hx hb dX0_hasTornOrDead_20 (by decide) ?_
          refine lv_iadd hx hb dX0_hasTornOrDead_21 ?_
          refine lv_as (y := nI (4 * x.toNatClampNeg + 4)) (nI_add (4 * x.toNatClampNeg) (4)) ?_
          refine lv_icmp_ge (tgt := 51) hx hb dX0_hasTornOrDead_22 (by decide) (fun c22_3 => ?_) (fun c22_3 => ?_)
          · skip
            have c22_3 := cn_le (a := 4 * x.toNatClampNeg + 4) (b := 4 * x.toNatClampNeg + j) (by omega) (by omega) c22_3
            refine lv_iconst (v := 0) hx hb dX0_hasTornOrDead_51 (by decide) ?_
            exact rp_retz hX hr hlocks hS ((bI_0 (fun z => by have y := z.2; rw [← show j = 4 by omega, hq] at y; cases y)).symm) dX0_hasTornOrDead_52
          · skip
            have c22_3 := cn_nle (a := 4 * x.toNatClampNeg + 4) (b := 4 * x.toNatClampNeg + j) (by omega) (by omega) c22_3
            refine lv_aload_n hx hb dX0_hasTornOrDead_25 rfl (lv_at hl 0 rfl) ?_
            refine va_get (D := D) (ci := 0) (v := .ref a0) (C := RX0) (T := TX0) (N := 9) hx hb hts u6_X0 hown hK hP 0 rfl rfl 0 (by decide) (hts _ (m6 4 rfl)) (fun _ h9 => h9) rfl dX0_hasTornOrDead_26 ?_
            refine lv_iload_n hx hb dX0_hasTornOrDead_29 rfl (lv_at hl 2 rfl) ?_
            refine ra_iald (i := 4 * x.toNatClampNeg + j) hx hb hK hP 1 0 rfl rfl (by omega) (by decide) dX0_hasTornOrDead_30 ?_
            refine lv_if_eq (tgt := 45) hx hb dX0_hasTornOrDead_31 (by decide) (fun c31_4 => ?_) (fun c31_4 => ?_)
            · skip
              refine lv_iinc (v := nI (4 * x.toNatClampNeg + j + 1)) (lv' := [(2, .int (nI (4 * x.toNatClampNeg + j + 1))), (0, .ref fo), (1, .int (nI (x.toNatClampNeg)))]) hx hb dX0_hasTornOrDead_45 hl (k := 2) rfl (nI_add _ 1) (by decide) rfl (fun ls hl => ?_)
              refine lv_goto (tgt := 16) hx hb dX0_hasTornOrDead_48 (by decide) ?_
              have hl : lv_has ls 3 [(2, .int (nI (4 * x.toNatClampNeg + (j + 1)))), (0, .ref fo), (1, .int (nI (x.toNatClampNeg)))] := lv_re hl 0 rfl (show nI (4 * x.toNatClampNeg + j + 1) = nI (4 * x.toNatClampNeg + (j + 1)) from rfl)
              exact ih16 (j + 1) (by omega) (by rw [tdF, hq, decide_eq_false (fun z => z.1 c31_4)]; rfl) (by omega) _ _ hP hS _ (lv_sub hl [1, 2, 0] rfl)
            · skip
              refine lv_aload_n hx hb dX0_hasTornOrDead_34 rfl (lv_at hl 0 rfl) ?_
              refine va_get (D := D) (ci := 0) (v := .ref a5) (C := RX0) (T := TX0) (N := 9) hx hb hts u6_X0 hown hK hP 0 rfl rfl 5 (by decide) (hts _ (m6 9 rfl)) (fun _ h9 => h9) rfl dX0_hasTornOrDead_35 ?_
              refine lv_iload_n hx hb dX0_hasTornOrDead_38 rfl (lv_at hl 2 rfl) ?_
              refine ra_iald (i := 4 * x.toNatClampNeg + j) hx hb hK hP 6 0 rfl rfl (by omega) (by decide) dX0_hasTornOrDead_39 ?_
              refine lv_if_ne (tgt := 45) hx hb dX0_hasTornOrDead_40 (by decide) (fun c40_5 => ?_) (fun c40_5 => ?_)
              · skip
                refine lv_iinc (v := nI (4 * x.toNatClampNeg + j + 1)) (lv' := [(2, .int (nI (4 * x.toNatClampNeg + j + 1))), (0, .ref fo), (1, .int (nI (x.toNatClampNeg)))]) hx hb dX0_hasTornOrDead_45 hl (k := 2) rfl (nI_add _ 1) (by decide) rfl (fun ls hl => ?_)
                refine lv_goto (tgt := 16) hx hb dX0_hasTornOrDead_48 (by decide) ?_
                have hl : lv_has ls 3 [(2, .int (nI (4 * x.toNatClampNeg + (j + 1)))), (0, .ref fo), (1, .int (nI (x.toNatClampNeg)))] := lv_re hl 0 rfl (show nI (4 * x.toNatClampNeg + j + 1) = nI (4 * x.toNatClampNeg + (j + 1)) from rfl)
                exact ih16 (j + 1) (by omega) (by rw [tdF, hq, decide_eq_false (fun z => c40_5 z.2)]; rfl) (by omega) _ _ hP hS _ (lv_sub hl [1, 2, 0] rfl)
              · skip
                refine lv_iconst (v := 1) hx hb dX0_hasTornOrDead_43 (by decide) ?_
                exact rp_retz hX hr hlocks hS ((bI_1 ⟨⟨c1_1, c7_2⟩, tdF_at (j := j) (by omega) ⟨c31_4, c40_5⟩⟩).symm) dX0_hasTornOrDead_44
      have hl : lv_has ls 3 [(2, .int (nI (4 * x.toNatClampNeg + 0))), (0, .ref fo), (1, .int (nI (x.toNatClampNeg)))] := lv_re hl 0 rfl (show nI (4 * x.toNatClampNeg) = nI (4 * x.toNatClampNeg + 0) from rfl)
      exact LP16 ((4 - 0) + 1) 0 (by omega) (rfl) (by omega) _ _ hP hS _ (lv_sub hl [1, 2, 0] rfl)
    · skip
      refine lv_iconst (v := 0) hx hb dX0_hasTornOrDead_10 (by decide) ?_
      exact rp_retz hX hr hlocks hS ((bI_0 (fun z => c7_2 z.1.2)).symm) dX0_hasTornOrDead_11
theorem dX0_countCleanBlocks_0 : decode cX0_countCleanBlocks 0 = .ok (.iconst 0, 1) := by decide +kernel
theorem dX0_countCleanBlocks_1 : decode cX0_countCleanBlocks 1 = .ok (.istore_n 2, 1) := by decide +kernel
theorem dX0_countCleanBlocks_2 : decode cX0_countCleanBlocks 2 = .ok (.iconst 0, 1) := by decide +kernel
theorem dX0_countCleanBlocks_3 : decode cX0_countCleanBlocks 3 = .ok (.istore_n 3, 1) := by decide +kernel
theorem dX0_countCleanBlocks_4 : decode cX0_countCleanBlocks 4 = .ok (.iload_n 3, 1) := by decide +kernel
theorem dX0_countCleanBlocks_5 : decode cX0_countCleanBlocks 5 = .ok (.aload_n 0, 1) := by decide +kernel
theorem dX0_countCleanBlocks_6 : decode cX0_countCleanBlocks 6 = .ok (.getfield 45, 3) := by decide +kernel
theorem dX0_countCleanBlocks_9 : decode cX0_countCleanBlocks 9 = .ok (.if_icmp .ge 33, 3) := by decide +kernel
theorem dX0_countCleanBlocks_12 : decode cX0_countCleanBlocks 12 = .ok (.iload_n 3, 1) := by decide +kernel
theorem dX0_countCleanBlocks_13 : decode cX0_countCleanBlocks 13 = .ok (.bipush 8, 2) := by decide +kernel
theorem dX0_countCleanBlocks_15 : decode cX0_countCleanBlocks 15 = .ok (.if_icmp .ge 27, 3) := by decide +kernel
theorem dX0_countCleanBlocks_18 : decode cX0_countCleanBlocks 18 = .ok (.iload_n 3, 1) := by decide +kernel
theorem dX0_countCleanBlocks_19 : decode cX0_countCleanBlocks 19 = .ok (.iload_n 1, 1) := by decide +kernel
theorem dX0_countCleanBlocks_20 : decode cX0_countCleanBlocks 20 = .ok (.if_icmp .eq 16, 3) := by decide +kernel
theorem dX0_countCleanBlocks_23 : decode cX0_countCleanBlocks 23 = .ok (.aload_n 0, 1) := by decide +kernel
theorem dX0_countCleanBlocks_24 : decode cX0_countCleanBlocks 24 = .ok (.getfield 33, 3) := by decide +kernel
theorem dX0_countCleanBlocks_27 : decode cX0_countCleanBlocks 27 = .ok (.iload_n 3, 1) := by decide +kernel
theorem dX0_countCleanBlocks_28 : decode cX0_countCleanBlocks 28 = .ok (.iaload, 1) := by decide +kernel
theorem dX0_countCleanBlocks_29 : decode cX0_countCleanBlocks 29 = .ok (.iconst 4, 1) := by decide +kernel
theorem dX0_countCleanBlocks_30 : decode cX0_countCleanBlocks 30 = .ok (.if_icmp .ne 6, 3) := by decide +kernel
theorem dX0_countCleanBlocks_33 : decode cX0_countCleanBlocks 33 = .ok (.iinc 2 1, 3) := by decide +kernel
theorem dX0_countCleanBlocks_36 : decode cX0_countCleanBlocks 36 = .ok (.iinc 3 1, 3) := by decide +kernel
theorem dX0_countCleanBlocks_39 : decode cX0_countCleanBlocks 39 = .ok (.goto (-35), 3) := by decide +kernel
theorem dX0_countCleanBlocks_42 : decode cX0_countCleanBlocks 42 = .ok (.iload_n 2, 1) := by decide +kernel
theorem dX0_countCleanBlocks_43 : decode cX0_countCleanBlocks 43 = .ok (.ireturn, 1) := by decide +kernel
theorem q0_countCleanBlocks : CQ W6 yX0_countCleanBlocks cX0_countCleanBlocks 4 (some .int) 1 := ⟨(m6 118 rfl), by decide, by decide, by decide +kernel⟩
set_option maxHeartbeats 4000000 in
set_option maxRecDepth 100000 in
theorem c0_countCleanBlocks (l : Launch) (D : va_G) (cI : ClassId) (fo a0 a1 a2 a3 a4 a5 a6 a7 : Nat) (kd ky vl mk wr lv nw fr : Nat → Int32) (B : Nat) (hB8 : B ≤ 8) (x : Int32) : RQ l yX0_countCleanBlocks cX0_countCleanBlocks 4 .int W6 0 0 D [(fo, .inr (0, [.ref a0, .ref a1, .ref a2, .ref a3, .ref a4, .ref a5, .ref a6, .ref a7, .int (nI (B))])), (a0, .inl (cI, 32, .inl kd)), (a1, .inl (cI, 32, .inl ky)), (a2, .inl (cI, 32, .inl vl)), (a3, .inl (cI, 32, .inl mk)), (a4, .inl (cI, 8, .inl wr)), (a5, .inl (cI, 32, .inl lv)), (a6, .inl (cI, 16, .inl nw)), (a7, .inl (cI, 8, .inl fr))] [(cI, .int)] [.ref fo, .int (x)] (nI (cbF fr x B)) := by
  refine rq_of RX0 (by decide) rfl (Nat.le_of_ble_eq_true rfl) ?_
  intro p e s m below meth c ls hX hr hlocks hK hN hP hS hl
  have hx := hX.1
  have hb := hX.2.1
  have hown := hX.2.2.2.1
  have hts := hX.2.2.2.2
  have hl : lv_has ls 4 [(0, .ref fo), (1, .int (x))] := hl
  refine lv_iconst (v := 0) hx hb dX0_countCleanBlocks_0 (by decide) ?_
  refine lv_istore_n (lv' := [(2, .int (0)), (0, .ref fo), (1, .int (x))]) hx hb dX0_countCleanBlocks_1 rfl hl (by decide) rfl (fun ls hl => ?_)
  refine lv_iconst (v := 0) hx hb dX0_countCleanBlocks_2 (by decide) ?_
  refine lv_istore_n (lv' := [(3, .int (0)), (2, .int (0)), (0, .ref fo), (1, .int (x))]) hx hb dX0_countCleanBlocks_3 rfl hl (by decide) rfl (fun ls hl => ?_)
  have LP4 : ∀ n9 : Nat, ∀ (j : Nat), (hj : j ≤ B) → B - j < n9 → ∀ (H : Heap) (locs : List Loc), va_P D vwCl [(fo, .inr (0, [.ref a0, .ref a1, .ref a2, .ref a3, .ref a4, .ref a5, .ref a6, .ref a7, .int (nI (B))])), (a0, .inl (cI, 32, .inl kd)), (a1, .inl (cI, 32, .inl ky)), (a2, .inl (cI, 32, .inl vl)), (a3, .inl (cI, 32, .inl mk)), (a4, .inl (cI, 8, .inl wr)), (a5, .inl (cI, 32, .inl lv)), (a6, .inl (cI, 16, .inl nw)), (a7, .inl (cI, 8, .inl fr))] H → va_S (fun _ => False) s.heap H locs → ∀ ls : Array Slot, lv_has ls 4 [(0, .ref fo), (1, .int (x)), (2, .int (nI (cbF fr x j))), (3, .int (nI (j)))] → W p l e ({ frames := 0, cells := 0, slots := 0, locals := 0 } : Room) s m ([.ref fo, .int (x)] : List Value).toArray below meth c H locs 0 0 (MQ below (rp_Qi (nI (cbF fr x B))) ([.ref fo, .int (x)] : List Value).toArray s 0 0 (fun _ => False)) (F0 m 4 ls []) := by
    intro n9
    induction n9 with
    | zero => intros; omega
    | succ n9 ih4 =>
      intro j hj hm9 H locs hP hS ls hl
      refine lv_iload_n hx hb dX0_countCleanBlocks_4 rfl (lv_at hl 3 rfl) ?_
      refine lv_aload_n hx hb dX0_countCleanBlocks_5 rfl (lv_at hl 0 rfl) ?_
      refine va_get (D := D) (ci := 0) (v := .int (nI (B))) (C := RX0) (T := TX0) (N := 9) hx hb hts u6_X0 hown hK hP 0 rfl rfl 8 (by decide) (hts _ (m6 19 rfl)) (fun _ h9 => h9) rfl dX0_countCleanBlocks_6 ?_
      refine lv_icmp_ge (tgt := 42) hx hb dX0_countCleanBlocks_9 (by decide) (fun c9_1 => ?_) (fun c9_1 => ?_)
      · skip
        have c9_1 := cn_le (a := B) (b := j) (by omega) (by omega) c9_1
        refine lv_iload_n hx hb dX0_countCleanBlocks_42 rfl (lv_at hl 2 rfl) ?_
        exact rp_ret hX hr hlocks hS (by rw [show j = B by omega]) dX0_countCleanBlocks_43
      · skip
        have c9_1 := cn_nle (a := B) (b := j) (by omega) (by omega) c9_1
        refine lv_iload_n hx hb dX0_countCleanBlocks_12 rfl (lv_at hl 3 rfl) ?_
        refine lv_bipush (v := 8) hx hb dX0_countCleanBlocks_13 (by decide) ?_
        refine lv_icmp_ge (tgt := 42) hx hb dX0_countCleanBlocks_15 (by decide) (fun c15_2 => ?_) (fun c15_2 => ?_)
        · skip
          have c15_2 := cn_le (a := 8) (b := j) (by omega) (by omega) c15_2
          refine lv_iload_n hx hb dX0_countCleanBlocks_42 rfl (lv_at hl 2 rfl) ?_
          exact rp_ret hX hr hlocks hS (by rw [show j = B by omega]) dX0_countCleanBlocks_43
        · skip
          have c15_2 := cn_nle (a := 8) (b := j) (by omega) (by omega) c15_2
          refine lv_iload_n hx hb dX0_countCleanBlocks_18 rfl (lv_at hl 3 rfl) ?_
          refine lv_iload_n hx hb dX0_countCleanBlocks_19 rfl (lv_at hl 1 rfl) ?_
          refine lv_icmp_eq (tgt := 36) hx hb dX0_countCleanBlocks_20 (by decide) (fun c20_3 => ?_) (fun c20_3 => ?_)
          · skip
            refine lv_iinc (v := nI (j + 1)) (lv' := [(3, .int (nI (j + 1))), (0, .ref fo), (1, .int (x)), (2, .int (nI (cbF fr x j)))]) hx hb dX0_countCleanBlocks_36 hl (k := 3) rfl (nI_add _ 1) (by decide) rfl (fun ls hl => ?_)
            refine lv_goto (tgt := 4) hx hb dX0_countCleanBlocks_39 (by decide) ?_
            have hl : lv_has ls 4 [(3, .int (nI (j + 1))), (0, .ref fo), (1, .int (x)), (2, .int (nI (cbF fr x (j + 1))))] := lv_re hl 3 rfl (show nI (cbF fr x j) = nI (cbF fr x (j + 1)) from by rw [cbF, if_neg (fun z => z.1 c20_3)]; rfl)
            have hl : lv_has ls 4 [(3, .int (nI ((j + 1)))), (0, .ref fo), (1, .int (x)), (2, .int (nI (cbF fr x (j + 1))))] := lv_re hl 0 rfl (show nI (j + 1) = nI ((j + 1)) from rfl)
            exact ih4 (j + 1) (by omega) (by omega) _ _ hP hS _ (lv_sub hl [1, 2, 3, 0] rfl)
          · skip
            refine lv_aload_n hx hb dX0_countCleanBlocks_23 rfl (lv_at hl 0 rfl) ?_
            refine va_get (D := D) (ci := 0) (v := .ref a7) (C := RX0) (T := TX0) (N := 9) hx hb hts u6_X0 hown hK hP 0 rfl rfl 7 (by decide) (hts _ (m6 11 rfl)) (fun _ h9 => h9) rfl dX0_countCleanBlocks_24 ?_
            refine lv_iload_n hx hb dX0_countCleanBlocks_27 rfl (lv_at hl 3 rfl) ?_
            refine ra_iald (i := j) hx hb hK hP 8 0 rfl rfl (by omega) (by decide) dX0_countCleanBlocks_28 ?_
            refine lv_iconst (v := 4) hx hb dX0_countCleanBlocks_29 (by decide) ?_
            refine lv_icmp_ne (tgt := 36) hx hb dX0_countCleanBlocks_30 (by decide) (fun c30_4 => ?_) (fun c30_4 => ?_)
            · skip
              refine lv_iinc (v := nI (j + 1)) (lv' := [(3, .int (nI (j + 1))), (0, .ref fo), (1, .int (x)), (2, .int (nI (cbF fr x j)))]) hx hb dX0_countCleanBlocks_36 hl (k := 3) rfl (nI_add _ 1) (by decide) rfl (fun ls hl => ?_)
              refine lv_goto (tgt := 4) hx hb dX0_countCleanBlocks_39 (by decide) ?_
              have hl : lv_has ls 4 [(3, .int (nI (j + 1))), (0, .ref fo), (1, .int (x)), (2, .int (nI (cbF fr x (j + 1))))] := lv_re hl 3 rfl (show nI (cbF fr x j) = nI (cbF fr x (j + 1)) from by rw [cbF, if_neg (fun z => c30_4 z.2)]; rfl)
              have hl : lv_has ls 4 [(3, .int (nI ((j + 1)))), (0, .ref fo), (1, .int (x)), (2, .int (nI (cbF fr x (j + 1))))] := lv_re hl 0 rfl (show nI (j + 1) = nI ((j + 1)) from rfl)
              exact ih4 (j + 1) (by omega) (by omega) _ _ hP hS _ (lv_sub hl [1, 2, 3, 0] rfl)
            · skip
              refine lv_iinc (v := nI (cbF fr x j + 1)) (lv' := [(2, .int (nI (cbF fr x j + 1))), (0, .ref fo), (1, .int (x)), (3, .int (nI (j)))]) hx hb dX0_countCleanBlocks_33 hl (k := 2) rfl (nI_add _ 1) (by decide) rfl (fun ls hl => ?_)
              refine lv_iinc (v := nI (j + 1)) (lv' := [(3, .int (nI (j + 1))), (2, .int (nI (cbF fr x j + 1))), (0, .ref fo), (1, .int (x))]) hx hb dX0_countCleanBlocks_36 hl (k := 3) rfl (nI_add _ 1) (by decide) rfl (fun ls hl => ?_)
              refine lv_goto (tgt := 4) hx hb dX0_countCleanBlocks_39 (by decide) ?_
              have hl : lv_has ls 4 [(3, .int (nI (j + 1))), (2, .int (nI (cbF fr x (j + 1)))), (0, .ref fo), (1, .int (x))] := lv_re hl 1 rfl (show nI (cbF fr x j + 1) = nI (cbF fr x (j + 1)) from by rw [cbF, if_pos ⟨c20_3, c30_4⟩])
              have hl : lv_has ls 4 [(3, .int (nI ((j + 1)))), (2, .int (nI (cbF fr x (j + 1)))), (0, .ref fo), (1, .int (x))] := lv_re hl 0 rfl (show nI (j + 1) = nI ((j + 1)) from rfl)
              exact ih4 (j + 1) (by omega) (by omega) _ _ hP hS _ (lv_sub hl [2, 3, 1, 0] rfl)
  have hl : lv_has ls 4 [(3, .int (0)), (2, .int (nI (cbF fr x 0))), (0, .ref fo), (1, .int (x))] := lv_re hl 1 rfl (show 0 = nI (cbF fr x 0) from rfl)
  have hl : lv_has ls 4 [(3, .int (nI (0))), (2, .int (nI (cbF fr x 0))), (0, .ref fo), (1, .int (x))] := lv_re hl 0 rfl (show 0 = nI (0) from rfl)
  exact LP4 ((B - 0) + 1) 0 (by omega) (by omega) _ _ hP hS _ (lv_sub hl [2, 3, 1, 0] rfl)
