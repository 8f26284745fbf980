theorem dX7_in_0 : decode cX7_in 0 = .ok (.lload_n 0, 1) := by decide +kernel
theorem dX7_in_1 : decode cX7_in 1 = .ok (.lload_n 2, 1) := by decide +kernel
theorem dX7_in_2 : decode cX7_in 2 = .ok (.lcmp, 1) := by decide +kernel
theorem dX7_in_3 : decode cX7_in 3 = .ok (.ifCond .lt 14, 3) := by decide +kernel
theorem dX7_in_6 : decode cX7_in 6 = .ok (.lload_n 0, 1) := by decide +kernel
theorem dX7_in_7 : decode cX7_in 7 = .ok (.lload 4, 2) := by decide +kernel
theorem dX7_in_9 : decode cX7_in 9 = .ok (.lcmp, 1) := by decide +kernel
theorem dX7_in_10 : decode cX7_in 10 = .ok (.ifCond .gt 7, 3) := by decide +kernel
theorem dX7_in_13 : decode cX7_in 13 = .ok (.iconst 1, 1) := by decide +kernel
theorem dX7_in_14 : decode cX7_in 14 = .ok (.goto 4, 3) := by decide +kernel
theorem dX7_in_17 : decode cX7_in 17 = .ok (.iconst 0, 1) := by decide +kernel
theorem dX7_in_18 : decode cX7_in 18 = .ok (.ireturn, 1) := by decide +kernel
theorem q7_in : CQ W7 yX7_in cX7_in 6 (some .boolean) 3 := ⟨(m7 116 rfl), by decide, by decide, by decide +kernel⟩
set_option maxHeartbeats 4000000 in
set_option maxRecDepth 100000 in
theorem c7_in (l : Launch) (D : va_G) (x a b : Int64) : RP l yX7_in cX7_in 6 .boolean W7 0 0 D [] [] [.long (x), .long (a), .long (b)] (bI (a ≤ x ∧ x ≤ b)) := by
  refine rp_of RX7 (by decide) rfl (Nat.le_of_ble_eq_true rfl) ?_
  intro p e s m below meth c ls hX hr hlocks hK hP hS hl
  have hx := hX.1
  have hb := hX.2.1
  have hown := hX.2.2.2.1
  have hts := hX.2.2.2.2
  have hl : lv_has ls 6 [(0, .long (x)), (2, .long (a)), (4, .long (b))] := hl
  refine lv_lload_n hx hb dX7_in_0 rfl (lv_at hl 0 rfl) ?_
  refine lv_lload_n hx hb dX7_in_1 rfl (lv_at hl 1 rfl) ?_
  refine W.lcmp hx hb dX7_in_2 ?_
  refine lv_if_lt (tgt := 17) hx hb dX7_in_3 (by decide) (fun c3_1 => ?_) (fun c3_1 => ?_)
  · skip
    have c3_1 := (lg_cmp_lt _ _).mp c3_1
    refine lv_iconst (v := 0) hx hb dX7_in_17 (by decide) ?_
    exact rp_retz hX hr hlocks hS ((bI_0 (fun z => absurd z.1 (Int64.not_le.mpr c3_1))).symm) dX7_in_18
  · skip
    have c3_1 := (fun z => c3_1 ((lg_cmp_lt _ _).mpr z))
    refine lv_lload_n hx hb dX7_in_6 rfl (lv_at hl 0 rfl) ?_
    refine lv_lload hx hb dX7_in_7 (lv_at hl 2 rfl) ?_
    refine W.lcmp hx hb dX7_in_9 ?_
    refine lv_if_gt (tgt := 17) hx hb dX7_in_10 (by decide) (fun c10_2 => ?_) (fun c10_2 => ?_)
    · skip
      have c10_2 := (lg_cmp_gt _ _).mp c10_2
      refine lv_iconst (v := 0) hx hb dX7_in_17 (by decide) ?_
      exact rp_retz hX hr hlocks hS ((bI_0 (fun z => absurd z.2 (Int64.not_le.mpr c10_2))).symm) dX7_in_18
    · skip
      have c10_2 := (fun z => c10_2 ((lg_cmp_gt _ _).mpr z))
      refine lv_iconst (v := 1) hx hb dX7_in_13 (by decide) ?_
      refine lv_goto (tgt := 18) hx hb dX7_in_14 (by decide) ?_
      exact rp_retz hX hr hlocks hS ((bI_1 ⟨Int64.not_lt.mp c3_1, Int64.not_lt.mp c10_2⟩).symm) dX7_in_18
theorem c7_inI (l : Launch) (D : va_G) (x a b : Int32) : RP l yX7_in cX7_in 6 .boolean W7 0 0 D [] [] [.long x.toInt64, .long a.toInt64, .long b.toInt64] (bI (a ≤ x ∧ x ≤ b)) := by
  rw [← bI_congr (inI_iff x a b)]
  exact c7_in l D _ _ _
theorem dX7_tenTo_0 : decode cX7_tenTo 0 = .ok (.lconst 1, 1) := by decide +kernel
theorem dX7_tenTo_1 : decode cX7_tenTo 1 = .ok (.lstore_n 1, 1) := by decide +kernel
theorem dX7_tenTo_2 : decode cX7_tenTo 2 = .ok (.iconst 0, 1) := by decide +kernel
theorem dX7_tenTo_3 : decode cX7_tenTo 3 = .ok (.istore_n 3, 1) := by decide +kernel
theorem dX7_tenTo_4 : decode cX7_tenTo 4 = .ok (.iload_n 3, 1) := by decide +kernel
theorem dX7_tenTo_5 : decode cX7_tenTo 5 = .ok (.iload_n 0, 1) := by decide +kernel
theorem dX7_tenTo_6 : decode cX7_tenTo 6 = .ok (.if_icmp .ge 15, 3) := by decide +kernel
theorem dX7_tenTo_9 : decode cX7_tenTo 9 = .ok (.lload_n 1, 1) := by decide +kernel
theorem dX7_tenTo_10 : decode cX7_tenTo 10 = .ok (.ldc2_w 43, 3) := by decide +kernel
theorem dX7_tenTo_13 : decode cX7_tenTo 13 = .ok (.lmul, 1) := by decide +kernel
theorem dX7_tenTo_14 : decode cX7_tenTo 14 = .ok (.lstore_n 1, 1) := by decide +kernel
theorem dX7_tenTo_15 : decode cX7_tenTo 15 = .ok (.iinc 3 1, 3) := by decide +kernel
theorem dX7_tenTo_18 : decode cX7_tenTo 18 = .ok (.goto (-14), 3) := by decide +kernel
theorem dX7_tenTo_21 : decode cX7_tenTo 21 = .ok (.lload_n 1, 1) := by decide +kernel
theorem dX7_tenTo_22 : decode cX7_tenTo 22 = .ok (.lreturn, 1) := by decide +kernel
theorem q7_tenTo : CQ W7 yX7_tenTo cX7_tenTo 4 (some .long) 1 := ⟨(m7 207 rfl), by decide, by decide, by decide +kernel⟩
set_option maxHeartbeats 4000000 in
set_option maxRecDepth 100000 in
theorem c7_tenTo (l : Launch) (D : va_G) (n : Nat) (hn : n ≤ 100) : RPl l yX7_tenTo cX7_tenTo 4 W7 0 0 D [] [] [.int (nI (n))] (ten n) := by
  refine rpl_of RX7 (by decide) rfl (Nat.le_of_ble_eq_true rfl) ?_
  intro p e s m below meth c ls hX hr hlocks hK hP hS hl
  have hx := hX.1
  have hb := hX.2.1
  have hown := hX.2.2.2.1
  have hts := hX.2.2.2.2
  have hl : lv_has ls 4 [(0, .int (nI (n)))] := hl
  refine lv_lconst (v := 1) hx hb dX7_tenTo_0 (by decide) ?_
  refine lv_lstore_n (lv' := [(1, .long (1)), (0, .int (nI (n)))]) hx hb dX7_tenTo_1 rfl hl (by decide) rfl (fun ls hl => ?_)
  refine lv_iconst (v := 0) hx hb dX7_tenTo_2 (by decide) ?_
  refine lv_istore_n (lv' := [(3, .int (0)), (1, .long (1)), (0, .int (nI (n)))]) hx hb dX7_tenTo_3 rfl hl (by decide) rfl (fun ls hl => ?_)
  have LP4 : ∀ n9 : Nat, ∀ (j : Nat), (hj : j ≤ n) → n - j < n9 → ∀ (H : Heap) (locs : List Loc), va_P D vwCl [] H → va_S (fun _ => False) s.heap H locs → ∀ ls : Array Slot, lv_has ls 4 [(0, .int (nI (n))), (1, .long (ten j)), (3, .int (nI (j)))] → W p l e ({ frames := 0, cells := 0, slots := 0, locals := 0 } : Room) s m ([.int (nI (n))] : List Value).toArray below meth c H locs 0 0 (MQ below (rp_Ql (ten n)) ([.int (nI (n))] : List Value).toArray s 0 0 (fun _ => False)) (F0 m 4 ls []) := by
    intro n9
    induction n9 with
    | zero => intros; omega
    | succ n9 ih4 =>
      intro j hj hm9 H locs hP hS ls hl
      refine lv_iload_n hx hb dX7_tenTo_4 rfl (lv_at hl 2 rfl) ?_
      refine lv_iload_n hx hb dX7_tenTo_5 rfl (lv_at hl 0 rfl) ?_
      refine lv_icmp_ge (tgt := 21) hx hb dX7_tenTo_6 (by decide) (fun c6_1 => ?_) (fun c6_1 => ?_)
      · skip
        have c6_1 := cn_le (a := n) (b := j) (by omega) (by omega) c6_1
        refine lv_lload_n hx hb dX7_tenTo_21 rfl (lv_at hl 1 rfl) ?_
        exact rp_retl hX hr hlocks hS (by rw [show j = n by omega]) dX7_tenTo_22
      · skip
        have c6_1 := cn_nle (a := n) (b := j) (by omega) (by omega) c6_1
        refine lv_lload_n hx hb dX7_tenTo_9 rfl (lv_at hl 1 rfl) ?_
        refine lv_ldc2 (v := 10) hx hb hown (hts _ (m7 18 rfl)) dX7_tenTo_10 ?_
        refine lv_lmul hx hb dX7_tenTo_13 ?_
        refine lv_lstore_n (lv' := [(1, .long ((ten j) * 10)), (0, .int (nI (n))), (3, .int (nI (j)))]) hx hb dX7_tenTo_14 rfl hl (by decide) rfl (fun ls hl => ?_)
        refine lv_iinc (v := nI (j + 1)) (lv' := [(3, .int (nI (j + 1))), (1, .long ((ten j) * 10)), (0, .int (nI (n)))]) hx hb dX7_tenTo_15 hl (k := 2) rfl (nI_add _ 1) (by decide) rfl (fun ls hl => ?_)
        refine lv_goto (tgt := 4) hx hb dX7_tenTo_18 (by decide) ?_
        have hl : lv_has ls 4 [(3, .int (nI (j + 1))), (1, .long (ten (j + 1))), (0, .int (nI (n)))] := hl
        have hl : lv_has ls 4 [(3, .int (nI ((j + 1)))), (1, .long (ten (j + 1))), (0, .int (nI (n)))] := lv_re hl 0 rfl (show nI (j + 1) = nI ((j + 1)) from rfl)
        exact ih4 (j + 1) (by omega) (by omega) _ _ hP hS _ (lv_sub hl [2, 1, 0] rfl)
  have hl : lv_has ls 4 [(3, .int (0)), (1, .long (ten 0)), (0, .int (nI (n)))] := hl
  have hl : lv_has ls 4 [(3, .int (nI (0))), (1, .long (ten 0)), (0, .int (nI (n)))] := lv_re hl 0 rfl (show 0 = nI (0) from rfl)
  exact LP4 ((n - 0) + 1) 0 (by omega) (by omega) _ _ hP hS _ (lv_sub hl [2, 1, 0] rfl)
theorem dX7_isKey_0 : decode cX7_isKey 0 = .ok (.iload_n 0, 1) := by decide +kernel
theorem dX7_isKey_1 : decode cX7_isKey 1 = .ok (.i2l, 1) := by decide +kernel
theorem dX7_isKey_2 : decode cX7_isKey 2 = .ok (.lconst 0, 1) := by decide +kernel
theorem dX7_isKey_3 : decode cX7_isKey 3 = .ok (.ldc2_w 228, 3) := by decide +kernel
theorem dX7_isKey_6 : decode cX7_isKey 6 = .ok (.invokestatic 147, 3) := by decide +kernel
theorem dX7_isKey_9 : decode cX7_isKey 9 = .ok (.ireturn, 1) := by decide +kernel
theorem q7_isKey : CQ W7 yX7_isKey cX7_isKey 1 (some .boolean) 1 := ⟨(m7 188 rfl), by decide, by decide, by decide +kernel⟩
set_option maxHeartbeats 4000000 in
set_option maxRecDepth 100000 in
theorem c7_isKey (l : Launch) (D : va_G) (k : Int32) : RP l yX7_isKey cX7_isKey 1 .boolean W7 1 25 D [] [] [.int (k)] (bI (0 ≤ k ∧ k ≤ 15)) := by
  refine rp_of RX7 (by decide) rfl (Nat.le_of_ble_eq_true rfl) ?_
  intro p e s m below meth c ls hX hr hlocks hK hP hS hl
  have hx := hX.1
  have hb := hX.2.1
  have hown := hX.2.2.2.1
  have hts := hX.2.2.2.2
  have hl : lv_has ls 1 [(0, .int (k))] := hl
  refine lv_iload_n hx hb dX7_isKey_0 rfl (lv_at hl 0 rfl) ?_
  refine lv_i2l (v := (k : Int32).toInt64) hx hb dX7_isKey_1 (rfl) ?_
  refine lv_lconst (v := 0) hx hb dX7_isKey_2 (by decide) ?_
  refine lv_asl (show (0 : Int64) = (0 : Int32).toInt64 from by decide) ?_
  refine lv_ldc2 (v := 15) hx hb hown (hts _ (m7 185 rfl)) dX7_isKey_3 ?_
  refine lv_asl (show (15 : Int64) = (15 : Int32).toInt64 from by decide) ?_
  refine rp_callS hX good7 i7 (c7_inI l D k 0 15) q7_in rfl (m7 114 rfl) (m7 115 rfl) ⟨Nat.le_of_ble_eq_true rfl, Nat.le_of_ble_eq_true rfl⟩ hK [] rfl hP [] rfl hS hl.1 rfl (Nat.le_of_ble_eq_true rfl) dX7_isKey_6 ⟨Nat.zero_le _, Nat.zero_le _⟩ (fun H locs hP hS => ?_)
  exact rp_retz hX hr hlocks hS (rfl) dX7_isKey_9
theorem dX7_isPage_0 : decode cX7_isPage 0 = .ok (.iload_n 1, 1) := by decide +kernel
theorem dX7_isPage_1 : decode cX7_isPage 1 = .ok (.i2l, 1) := by decide +kernel
theorem dX7_isPage_2 : decode cX7_isPage 2 = .ok (.lconst 0, 1) := by decide +kernel
theorem dX7_isPage_3 : decode cX7_isPage 3 = .ok (.aload_n 0, 1) := by decide +kernel
theorem dX7_isPage_4 : decode cX7_isPage 4 = .ok (.getfield 13, 3) := by decide +kernel
theorem dX7_isPage_7 : decode cX7_isPage 7 = .ok (.invokestatic 56, 3) := by decide +kernel
theorem dX7_isPage_10 : decode cX7_isPage 10 = .ok (.iconst 1, 1) := by decide +kernel
theorem dX7_isPage_11 : decode cX7_isPage 11 = .ok (.isub, 1) := by decide +kernel
theorem dX7_isPage_12 : decode cX7_isPage 12 = .ok (.i2l, 1) := by decide +kernel
theorem dX7_isPage_13 : decode cX7_isPage 13 = .ok (.invokestatic 147, 3) := by decide +kernel
theorem dX7_isPage_16 : decode cX7_isPage 16 = .ok (.ireturn, 1) := by decide +kernel
theorem q7_isPage : CQ W7 yX7_isPage cX7_isPage 2 (some .boolean) 1 := ⟨(m7 179 rfl), by decide, by decide, by decide +kernel⟩
set_option maxHeartbeats 4000000 in
set_option maxRecDepth 100000 in
theorem c7_isPage (l : Launch) (D : va_G) (cI : ClassId) (h r : Nat) (fs : List Value) (f : Nat → Int32) (B : Nat) (hW : Wf f B) (hB1 : 1 ≤ B) (h7 : fs[7]? = some (.ref r)) (a : Int32) : RP l yX7_isPage cX7_isPage 2 .boolean W7 1 25 D [(h, .inr (7, fs)), (r, .inl (cI, 151, .inl f))] [(cI, .int)] [.ref h, .int (a)] (bI (0 ≤ a ∧ a ≤ nI (4 * B - 1))) := by
  refine rp_of RX7 (by decide) rfl (Nat.le_of_ble_eq_true rfl) ?_
  intro p e s m below meth c ls hX hr hlocks hK hP hS hl
  have hx := hX.1
  have hb := hX.2.1
  have hown := hX.2.2.2.1
  have hts := hX.2.2.2.2
  have hl : lv_has ls 2 [(0, .ref h), (1, .int (a))] := hl
  have hB8 := hW.2.1
  refine lv_iload_n hx hb dX7_isPage_0 rfl (lv_at hl 1 rfl) ?_
  refine lv_i2l (v := (a : Int32).toInt64) hx hb dX7_isPage_1 (rfl) ?_
  refine lv_lconst (v := 0) hx hb dX7_isPage_2 (by decide) ?_
  refine lv_asl (show (0 : Int64) = (0 : Int32).toInt64 from by decide) ?_
  refine lv_aload_n hx hb dX7_isPage_3 rfl (lv_at hl 0 rfl) ?_
  refine va_get (D := D) (ci := 7) (v := .ref r) (C := RX7) (T := TX7) (N := 15) hx hb hts u7 hown hK hP 0 rfl rfl 7 (by decide) (hts _ (m7 5 rfl)) (fun _ h9 => h9) h7 dX7_isPage_4 ?_
  refine rp_callS hX good7 i7 (c7_pages l D cI r f B hW.1) q7_pages rfl (m7 26 rfl) (m7 27 rfl) ⟨Nat.le_of_ble_eq_true rfl, Nat.le_of_ble_eq_true rfl⟩ hK [0] rfl hP [1] rfl hS hl.1 rfl (Nat.le_of_ble_eq_true rfl) dX7_isPage_7 ⟨Nat.zero_le _, Nat.zero_le _⟩ (fun H locs hP hS => ?_)
  refine lv_iconst (v := 1) hx hb dX7_isPage_10 (by decide) ?_
  refine lv_isub hx hb dX7_isPage_11 ?_
  refine lv_as (y := nI (4 * B - 1)) (pk_sub (a := 4 * B) (b := 1) (by omega)) ?_
  refine lv_i2l (v := (nI (4 * B - 1) : Int32).toInt64) hx hb dX7_isPage_12 (rfl) ?_
  refine rp_callS hX good7 i7 (c7_inI l D a 0 (nI (4 * B - 1))) q7_in rfl (m7 114 rfl) (m7 115 rfl) ⟨Nat.le_of_ble_eq_true rfl, Nat.le_of_ble_eq_true rfl⟩ hK [] rfl hP [] rfl hS hl.1 rfl (Nat.le_of_ble_eq_true rfl) dX7_isPage_13 ⟨Nat.zero_le _, Nat.zero_le _⟩ (fun H locs hP hS => ?_)
  exact rp_retz hX hr hlocks hS (rfl) dX7_isPage_16
theorem dX7_isBlock_0 : decode cX7_isBlock 0 = .ok (.iload_n 1, 1) := by decide +kernel
theorem dX7_isBlock_1 : decode cX7_isBlock 1 = .ok (.i2l, 1) := by decide +kernel
theorem dX7_isBlock_2 : decode cX7_isBlock 2 = .ok (.lconst 0, 1) := by decide +kernel
theorem dX7_isBlock_3 : decode cX7_isBlock 3 = .ok (.aload_n 0, 1) := by decide +kernel
theorem dX7_isBlock_4 : decode cX7_isBlock 4 = .ok (.getfield 13, 3) := by decide +kernel
theorem dX7_isBlock_7 : decode cX7_isBlock 7 = .ok (.iconst 0, 1) := by decide +kernel
theorem dX7_isBlock_8 : decode cX7_isBlock 8 = .ok (.iaload, 1) := by decide +kernel
theorem dX7_isBlock_9 : decode cX7_isBlock 9 = .ok (.iconst 1, 1) := by decide +kernel
theorem dX7_isBlock_10 : decode cX7_isBlock 10 = .ok (.isub, 1) := by decide +kernel
theorem dX7_isBlock_11 : decode cX7_isBlock 11 = .ok (.i2l, 1) := by decide +kernel
theorem dX7_isBlock_12 : decode cX7_isBlock 12 = .ok (.invokestatic 147, 3) := by decide +kernel
theorem dX7_isBlock_15 : decode cX7_isBlock 15 = .ok (.ireturn, 1) := by decide +kernel
theorem q7_isBlock : CQ W7 yX7_isBlock cX7_isBlock 2 (some .boolean) 1 := ⟨(m7 184 rfl), by decide, by decide, by decide +kernel⟩
set_option maxHeartbeats 4000000 in
set_option maxRecDepth 100000 in
theorem c7_isBlock (l : Launch) (D : va_G) (cI : ClassId) (h r : Nat) (fs : List Value) (f : Nat → Int32) (B : Nat) (hW : Wf f B) (hB1 : 1 ≤ B) (h7 : fs[7]? = some (.ref r)) (a : Int32) : RP l yX7_isBlock cX7_isBlock 2 .boolean W7 1 25 D [(h, .inr (7, fs)), (r, .inl (cI, 151, .inl f))] [(cI, .int)] [.ref h, .int (a)] (bI (0 ≤ a ∧ a ≤ nI (B - 1))) := by
  refine rp_of RX7 (by decide) rfl (Nat.le_of_ble_eq_true rfl) ?_
  intro p e s m below meth c ls hX hr hlocks hK hP hS hl
  have hx := hX.1
  have hb := hX.2.1
  have hown := hX.2.2.2.1
  have hts := hX.2.2.2.2
  have hl : lv_has ls 2 [(0, .ref h), (1, .int (a))] := hl
  have hB8 := hW.2.1
  refine lv_iload_n hx hb dX7_isBlock_0 rfl (lv_at hl 1 rfl) ?_
  refine lv_i2l (v := (a : Int32).toInt64) hx hb dX7_isBlock_1 (rfl) ?_
  refine lv_lconst (v := 0) hx hb dX7_isBlock_2 (by decide) ?_
  refine lv_asl (show (0 : Int64) = (0 : Int32).toInt64 from by decide) ?_
  refine lv_aload_n hx hb dX7_isBlock_3 rfl (lv_at hl 0 rfl) ?_
  refine va_get (D := D) (ci := 7) (v := .ref r) (C := RX7) (T := TX7) (N := 15) hx hb hts u7 hown hK hP 0 rfl rfl 7 (by decide) (hts _ (m7 5 rfl)) (fun _ h9 => h9) h7 dX7_isBlock_4 ?_
  refine lv_iconst (v := 0) hx hb dX7_isBlock_7 (by decide) ?_
  refine ra_iald (i := 0) hx hb hK hP 1 0 rfl rfl (by omega) (by decide) dX7_isBlock_8 ?_
  refine lv_as (show f (0) = nI (B) from hW.1) ?_
  refine lv_iconst (v := 1) hx hb dX7_isBlock_9 (by decide) ?_
  refine lv_isub hx hb dX7_isBlock_10 ?_
  refine lv_as (y := nI (B - 1)) (pk_sub (a := B) (b := 1) (by omega)) ?_
  refine lv_i2l (v := (nI (B - 1) : Int32).toInt64) hx hb dX7_isBlock_11 (rfl) ?_
  refine rp_callS hX good7 i7 (c7_inI l D a 0 (nI (B - 1))) q7_in rfl (m7 114 rfl) (m7 115 rfl) ⟨Nat.le_of_ble_eq_true rfl, Nat.le_of_ble_eq_true rfl⟩ hK [] rfl hP [] rfl hS hl.1 rfl (Nat.le_of_ble_eq_true rfl) dX7_isBlock_12 ⟨Nat.zero_le _, Nat.zero_le _⟩ (fun H locs hP hS => ?_)
  exact rp_retz hX hr hlocks hS (rfl) dX7_isBlock_15
theorem dX7_thrown_0 : decode cX7_thrown 0 = .ok (.aload_n 0, 1) := by decide +kernel
theorem dX7_thrown_1 : decode cX7_thrown 1 = .ok (.getfield 39, 3) := by decide +kernel
theorem dX7_thrown_4 : decode cX7_thrown 4 = .ok (.ireturn, 1) := by decide +kernel
set_option maxHeartbeats 4000000 in
set_option maxRecDepth 100000 in
theorem c7_thrown (l : Launch) (D : va_G) (h : Nat) (rf : Int32) (fr : List Value)  : RP l yX7_thrown cX7_thrown 1 .int W7 0 0 D [(h, .inr (7, .int (rf) :: fr))] [] [.ref h] (rf) := by
  refine rp_of RX7 (by decide) rfl (Nat.le_of_ble_eq_true rfl) ?_
  intro p e s m below meth c ls hX hr hlocks hK hP hS hl
  have hx := hX.1
  have hb := hX.2.1
  have hown := hX.2.2.2.1
  have hts := hX.2.2.2.2
  have hl : lv_has ls 1 [(0, .ref h)] := hl
  refine lv_aload_n hx hb dX7_thrown_0 rfl (lv_at hl 0 rfl) ?_
  refine va_get (D := D) (ci := 7) (v := .int (rf)) (C := RX7) (T := TX7) (N := 15) hx hb hts u7 hown hK hP 0 rfl rfl 0 (by decide) (hts _ (m7 17 rfl)) (fun _ h9 => h9) rfl dX7_thrown_1 ?_
  exact rp_ret hX hr hlocks hS (rfl) dX7_thrown_4
theorem dX7_refused_0 : decode cX7_refused 0 = .ok (.aload_n 0, 1) := by decide +kernel
theorem dX7_refused_1 : decode cX7_refused 1 = .ok (.iload_n 1, 1) := by decide +kernel
theorem dX7_refused_2 : decode cX7_refused 2 = .ok (.putfield 39, 3) := by decide +kernel
theorem dX7_refused_5 : decode cX7_refused 5 = .ok (.iload_n 1, 1) := by decide +kernel
theorem dX7_refused_6 : decode cX7_refused 6 = .ok (.ifCond .le 7, 3) := by decide +kernel
theorem dX7_refused_9 : decode cX7_refused 9 = .ok (.iconst 1, 1) := by decide +kernel
theorem dX7_refused_10 : decode cX7_refused 10 = .ok (.goto 4, 3) := by decide +kernel
theorem dX7_refused_13 : decode cX7_refused 13 = .ok (.iconst 0, 1) := by decide +kernel
theorem dX7_refused_14 : decode cX7_refused 14 = .ok (.ireturn, 1) := by decide +kernel
theorem q7_refused : CQ W7 yX7_refused cX7_refused 2 (some .boolean) 1 := ⟨(m7 120 rfl), by decide, by decide, by decide +kernel⟩
set_option maxHeartbeats 4000000 in
set_option maxRecDepth 100000 in
theorem c7_refused (l : Launch) (D : va_G) (h : Nat) (rf x : Int32) (fr : List Value)  : GPi l yX7_refused cX7_refused 2 .boolean W7 0 0 D [(h, .inr (7, .int (rf) :: fr))] [] [.ref h, .int (x)] (fun (r9 : Int32) (u9 : va_W) => r9 = (bI (0 < x)) ∧ u9 = [(h, .inr (7, .int (x) :: fr))]) := by
  refine gp_of RX7 (by decide) rfl (Nat.le_of_ble_eq_true rfl) ?_
  intro p e s m below meth c ls H hX hr hlocks hK hP hD hS hl
  generalize gp_A [(h, .inr (7, .int (rf) :: fr))] = A at hD hS ⊢
  have hx := hX.1
  have hb := hX.2.1
  have hown := hX.2.2.2.1
  have hts := hX.2.2.2.2
  have hl : lv_has ls 2 [(0, .ref h), (1, .int (x))] := hl
  refine lv_aload_n hx hb dX7_refused_0 rfl (lv_at hl 0 rfl) ?_
  refine lv_iload_n hx hb dX7_refused_1 rfl (lv_at hl 1 rfl) ?_
  refine va_put (D := D) (ci := 7) (v := .int (x)) (ty := .int) (C := RX7) (T := TX7) (N := 15) hx hb hts u7 tyX7 tyX7_ok nmX7 hown hK hP hD hS 0 rfl rfl 0 (by decide) (hts _ (m7 17 rfl)) (fun _ h9 => h9) rfl (by decide +kernel) rfl rfl (by simp) dX7_refused_2 (fun H locs hP hD hS => ?_)
  have hP : va_P D vwCl [(h, .inr (7, .int (x) :: fr))] H := hP
  have hD : va_D A [(h, .inr (7, .int (x) :: fr))] := hD
  refine lv_iload_n hx hb dX7_refused_5 rfl (lv_at hl 1 rfl) ?_
  refine lv_if_le (tgt := 13) hx hb dX7_refused_6 (by decide) (fun c6_1 => ?_) (fun c6_1 => ?_)
  · skip
    have c6_1 := i_nlt c6_1
    refine lv_iconst (v := 0) hx hb dX7_refused_13 (by decide) ?_
    exact gp_retz hX hr hlocks hS hP (P := 0 < x) ((bI_0 c6_1).symm) ⟨(bI_0 c6_1).symm, rfl⟩ dX7_refused_14
  · skip
    have c6_1 := i_lt c6_1
    refine lv_iconst (v := 1) hx hb dX7_refused_9 (by decide) ?_
    refine lv_goto (tgt := 14) hx hb dX7_refused_10 (by decide) ?_
    exact gp_retz hX hr hlocks hS hP (P := 0 < x) ((bI_1 c6_1).symm) ⟨(bI_1 c6_1).symm, rfl⟩ dX7_refused_14
theorem dX7_doPut_0 : decode cX7_doPut 0 = .ok (.aload_n 0, 1) := by decide +kernel
theorem dX7_doPut_1 : decode cX7_doPut 1 = .ok (.aload_n 1, 1) := by decide +kernel
theorem dX7_doPut_2 : decode cX7_doPut 2 = .ok (.invokevirtual 134, 3) := by decide +kernel
theorem dX7_doPut_5 : decode cX7_doPut 5 = .ok (.ifCond .ne 5, 3) := by decide +kernel
theorem dX7_doPut_8 : decode cX7_doPut 8 = .ok (.iconst 0, 1) := by decide +kernel
theorem dX7_doPut_9 : decode cX7_doPut 9 = .ok (.ireturn, 1) := by decide +kernel
theorem dX7_doPut_10 : decode cX7_doPut 10 = .ok (.aload_n 0, 1) := by decide +kernel
theorem dX7_doPut_11 : decode cX7_doPut 11 = .ok (.aload_n 1, 1) := by decide +kernel
theorem dX7_doPut_12 : decode cX7_doPut 12 = .ok (.iload_n 2, 1) := by decide +kernel
theorem dX7_doPut_13 : decode cX7_doPut 13 = .ok (.iload_n 3, 1) := by decide +kernel
theorem dX7_doPut_14 : decode cX7_doPut 14 = .ok (.invokevirtual 128, 3) := by decide +kernel
theorem dX7_doPut_17 : decode cX7_doPut 17 = .ok (.pop, 1) := by decide +kernel
theorem dX7_doPut_18 : decode cX7_doPut 18 = .ok (.iconst 1, 1) := by decide +kernel
theorem dX7_doPut_19 : decode cX7_doPut 19 = .ok (.ireturn, 1) := by decide +kernel
theorem q7_doPut : CQ W7 yX7_doPut cX7_doPut 4 (some .boolean) 3 := ⟨(m7 108 rfl), by decide, by decide, by decide +kernel⟩
set_option maxHeartbeats 4000000 in
set_option maxRecDepth 100000 in
theorem c7_doPut (l : Launch) (D : va_G) (cI : ClassId) (h lv lk r : Nat) (fs : List Value) (fl flk f : Nat → Int32) (B : Nat) (hW : Wf f B) (h9 : fs[9]? = some (.ref lk)) (h14 : fs[14]? = some (.ref lv)) (n : Nat) (v : Int32) (f2 : Nat → Int32) (hs : rec B 0 0 n (upd f 5 0) = some (v, f2)) (key val : Int32) (n2 : Nat) (v2 : Int32) (f4 : Nat → Int32) (hs2 : rec B key val n2 f = some (v2, f4)) : GPi l yX7_doPut cX7_doPut 4 .boolean W7 12 269 D [(h, .inr (7, fs)), (lv, .inl (cI, 4, .inl fl)), (lk, .inl (cI, 151, .inl flk)), (r, .inl (cI, 151, .inl f))] [(cI, .int)] [.ref h, .ref r, .int (key), .int (val)] (fun (r9 : Int32) (u9 : va_W) => r9 = (bI (f 2 = 1 ∧ ¬ v < 0)) ∧ ∃ fl9 : Nat → Int32, ∃ lk9 : Nat → Int32, u9 = [(h, .inr (7, fs)), (lv, .inl (cI, 4, .inl fl9)), (lk, .inl (cI, 151, .inl lk9)), (r, .inl (cI, 151, .inl (if f 2 = 1 ∧ ¬ v < 0 then f4 else f)))]) := by
  refine gp_of RX7 (by decide) rfl (Nat.le_of_ble_eq_true rfl) ?_
  intro p e s m below meth c ls H hX hr hlocks hK hP hD hS hl
  generalize gp_A [(h, .inr (7, fs)), (lv, .inl (cI, 4, .inl fl)), (lk, .inl (cI, 151, .inl flk)), (r, .inl (cI, 151, .inl f))] = A at hD hS ⊢
  have hx := hX.1
  have hb := hX.2.1
  have hown := hX.2.2.2.1
  have hts := hX.2.2.2.2
  have hl : lv_has ls 4 [(0, .ref h), (1, .ref r), (2, .int (key)), (3, .int (val))] := hl
  refine lv_aload_n hx hb dX7_doPut_0 rfl (lv_at hl 0 rfl) ?_
  refine lv_aload_n hx hb dX7_doPut_1 rfl (lv_at hl 1 rfl) ?_
  refine gp_backi (gp_runV hX good7 i7 (c7_hasRoom l D cI h lv lk r fs fl flk f B hW h9 h14 n v f2 hs) q7_hasRoom rfl (m7 101 rfl) (m7 102 rfl) (m7 103 rfl) ⟨Nat.le_of_ble_eq_true rfl, Nat.le_of_ble_eq_true rfl⟩ hK [0] rfl hP hD [0, 1, 2, 3] (by decide) rfl (ci := 7) (q0 := 0) rfl rfl rfl hl.1 rfl (Nat.le_of_ble_eq_true rfl) dX7_doPut_2 ⟨Nat.zero_le _, Nat.zero_le _⟩) hP hD hS [0, 1, 2, 3] rfl (fun r u h => by obtain ⟨-, x1, rfl⟩ := h; simp only [List.map_cons, List.map_nil]) (fun r9 u H locs hpost hP hD hS => ?_)
  obtain ⟨hr9, x1, rfl⟩ := hpost
  refine lv_as hr9 ?_
  have hP : va_P D vwCl [(h, .inr (7, fs)), (lv, .inl (cI, 4, .inl x1)), (lk, .inl (cI, 151, .inl (if f 2 = 1 then f2 else flk))), (r, .inl (cI, 151, .inl f))] H := hP
  have hD : va_D A [(h, .inr (7, fs)), (lv, .inl (cI, 4, .inl x1)), (lk, .inl (cI, 151, .inl (if f 2 = 1 then f2 else flk))), (r, .inl (cI, 151, .inl f))] := hD
  refine lv_if_ne (tgt := 10) hx hb dX7_doPut_5 (by decide) (fun c5_2 => ?_) (fun c5_2 => ?_)
  · skip
    have c5_2 := bI_t c5_2
    refine lv_aload_n hx hb dX7_doPut_10 rfl (lv_at hl 0 rfl) ?_
    refine lv_aload_n hx hb dX7_doPut_11 rfl (lv_at hl 1 rfl) ?_
    refine lv_iload_n hx hb dX7_doPut_12 rfl (lv_at hl 2 rfl) ?_
    refine lv_iload_n hx hb dX7_doPut_13 rfl (lv_at hl 3 rfl) ?_
    refine gp_backi (gp_runV hX good7 i7 (c7_record l D cI h lv r fs x1 f B hW h14 key val n2 v2 f4 hs2) q7_record rfl (m7 93 rfl) (m7 94 rfl) (m7 95 rfl) ⟨Nat.le_of_ble_eq_true rfl, Nat.le_of_ble_eq_true rfl⟩ hK [0] rfl hP hD [0, 1, 3] (by decide) rfl (ci := 7) (q0 := 0) rfl rfl rfl hl.1 rfl (Nat.le_of_ble_eq_true rfl) dX7_doPut_14 ⟨Nat.zero_le _, Nat.zero_le _⟩) hP hD hS [0, 1, 3] rfl (fun r u h => by obtain ⟨-, x3, rfl⟩ := h; simp only [List.map_cons, List.map_nil]) (fun r9 u H locs hpost hP hD hS => ?_)
    obtain ⟨hr9, x3, rfl⟩ := hpost
    refine lv_as hr9 ?_
    have hP : va_P D vwCl [(h, .inr (7, fs)), (lv, .inl (cI, 4, .inl x3)), (lk, .inl (cI, 151, .inl (if f 2 = 1 then f2 else flk))), (r, .inl (cI, 151, .inl f4))] H := hP
    have hD : va_D A [(h, .inr (7, fs)), (lv, .inl (cI, 4, .inl x3)), (lk, .inl (cI, 151, .inl (if f 2 = 1 then f2 else flk))), (r, .inl (cI, 151, .inl f4))] := hD
    refine lv_pop hx hb dX7_doPut_17 rfl ?_
    refine lv_iconst (v := 1) hx hb dX7_doPut_18 (by decide) ?_
    have hP : va_P D vwCl [(h, .inr (7, fs)), (lv, .inl (cI, 4, .inl x3)), (lk, .inl (cI, 151, .inl (if f 2 = 1 then f2 else flk))), (r, .inl (cI, 151, .inl (if f 2 = 1 ∧ ¬ v < 0 then f4 else f)))] H := by
      rw [show (if f 2 = 1 ∧ ¬ v < 0 then f4 else f : Nat → Int32) = f4 from if_pos c5_2]
      exact hP
    exact gp_retz hX hr hlocks hS hP (P := f 2 = 1 ∧ ¬ v < 0) ((bI_1 c5_2).symm) ⟨(bI_1 c5_2).symm, _, _, rfl⟩ dX7_doPut_19
  · skip
    have c5_2 := bI_f c5_2
    refine lv_iconst (v := 0) hx hb dX7_doPut_8 (by decide) ?_
    have hP : va_P D vwCl [(h, .inr (7, fs)), (lv, .inl (cI, 4, .inl x1)), (lk, .inl (cI, 151, .inl (if f 2 = 1 then f2 else flk))), (r, .inl (cI, 151, .inl (if f 2 = 1 ∧ ¬ v < 0 then f4 else f)))] H := by
      rw [show (if f 2 = 1 ∧ ¬ v < 0 then f4 else f : Nat → Int32) = f from if_neg c5_2]
      exact hP
    exact gp_retz hX hr hlocks hS hP (P := f 2 = 1 ∧ ¬ v < 0) ((bI_0 c5_2).symm) ⟨(bI_0 c5_2).symm, _, _, rfl⟩ dX7_doPut_9
theorem dX7_doRemove_0 : decode cX7_doRemove 0 = .ok (.aload_n 1, 1) := by decide +kernel
theorem dX7_doRemove_1 : decode cX7_doRemove 1 = .ok (.iload_n 2, 1) := by decide +kernel
theorem dX7_doRemove_2 : decode cX7_doRemove 2 = .ok (.invokestatic 68, 3) := by decide +kernel
theorem dX7_doRemove_5 : decode cX7_doRemove 5 = .ok (.bipush (-9), 2) := by decide +kernel
theorem dX7_doRemove_7 : decode cX7_doRemove 7 = .ok (.if_icmp .eq 18, 3) := by decide +kernel
theorem dX7_doRemove_10 : decode cX7_doRemove 10 = .ok (.aload_n 0, 1) := by decide +kernel
theorem dX7_doRemove_11 : decode cX7_doRemove 11 = .ok (.aload_n 1, 1) := by decide +kernel
theorem dX7_doRemove_12 : decode cX7_doRemove 12 = .ok (.iload_n 2, 1) := by decide +kernel
theorem dX7_doRemove_13 : decode cX7_doRemove 13 = .ok (.bipush (-9), 2) := by decide +kernel
theorem dX7_doRemove_15 : decode cX7_doRemove 15 = .ok (.invokevirtual 138, 3) := by decide +kernel
theorem dX7_doRemove_18 : decode cX7_doRemove 18 = .ok (.ifCond .eq 7, 3) := by decide +kernel
theorem dX7_doRemove_21 : decode cX7_doRemove 21 = .ok (.iconst 1, 1) := by decide +kernel
theorem dX7_doRemove_22 : decode cX7_doRemove 22 = .ok (.goto 4, 3) := by decide +kernel
theorem dX7_doRemove_25 : decode cX7_doRemove 25 = .ok (.iconst 0, 1) := by decide +kernel
theorem dX7_doRemove_26 : decode cX7_doRemove 26 = .ok (.ireturn, 1) := by decide +kernel
theorem q7_doRemove : CQ W7 yX7_doRemove cX7_doRemove 3 (some .boolean) 2 := ⟨(m7 143 rfl), by decide, by decide, by decide +kernel⟩
set_option maxHeartbeats 4000000 in
set_option maxRecDepth 100000 in
theorem c7_doRemove (l : Launch) (D : va_G) (cI : ClassId) (h lv lk r : Nat) (fs : List Value) (fl flk f : Nat → Int32) (B : Nat) (hW : Wf f B) (h9 : fs[9]? = some (.ref lk)) (h14 : fs[14]? = some (.ref lv)) (n : Nat) (v : Int32) (f2 : Nat → Int32) (hs : rec B 0 0 n (upd f 5 0) = some (v, f2)) (key : Int32) (n2 : Nat) (v2 : Int32) (f4 : Nat → Int32) (hs2 : rec B key (-9) n2 f = some (v2, f4)) : GPi l yX7_doRemove cX7_doRemove 3 .boolean W7 13 292 D [(h, .inr (7, fs)), (lv, .inl (cI, 4, .inl fl)), (lk, .inl (cI, 151, .inl flk)), (r, .inl (cI, 151, .inl f))] [(cI, .int)] [.ref h, .ref r, .int (key)] (fun (r9 : Int32) (u9 : va_W) => r9 = (bI (vlu f key B ≠ -9 ∧ f 2 = 1 ∧ ¬ v < 0)) ∧ ∃ fl9 : Nat → Int32, ∃ lk9 : Nat → Int32, u9 = [(h, .inr (7, fs)), (lv, .inl (cI, 4, .inl fl9)), (lk, .inl (cI, 151, .inl lk9)), (r, .inl (cI, 151, .inl (if vlu f key B ≠ -9 ∧ f 2 = 1 ∧ ¬ v < 0 then f4 else f)))]) := by
  refine gp_of RX7 (by decide) rfl (Nat.le_of_ble_eq_true rfl) ?_
  intro p e s m below meth c ls H hX hr hlocks hK hP hD hS hl
  generalize gp_A [(h, .inr (7, fs)), (lv, .inl (cI, 4, .inl fl)), (lk, .inl (cI, 151, .inl flk)), (r, .inl (cI, 151, .inl f))] = A at hD hS ⊢
  have hx := hX.1
  have hb := hX.2.1
  have hown := hX.2.2.2.1
  have hts := hX.2.2.2.2
  have hl : lv_has ls 3 [(0, .ref h), (1, .ref r), (2, .int (key))] := hl
  refine lv_aload_n hx hb dX7_doRemove_0 rfl (lv_at hl 1 rfl) ?_
  refine lv_iload_n hx hb dX7_doRemove_1 rfl (lv_at hl 2 rfl) ?_
  refine rp_callS hX good7 i7 (c7_valueOf l D cI r f key B hW.1 hW.2.1) q7_valueOf rfl (m7 35 rfl) (m7 36 rfl) ⟨Nat.le_of_ble_eq_true rfl, Nat.le_of_ble_eq_true rfl⟩ hK [0] rfl hP [3] rfl hS hl.1 rfl (Nat.le_of_ble_eq_true rfl) dX7_doRemove_2 ⟨Nat.zero_le _, Nat.zero_le _⟩ (fun H locs hP hS => ?_)
  refine lv_bipush (v := (-9)) hx hb dX7_doRemove_5 (by decide) ?_
  refine lv_icmp_eq (tgt := 25) hx hb dX7_doRemove_7 (by decide) (fun c7_1 => ?_) (fun c7_1 => ?_)
  · skip
    refine lv_iconst (v := 0) hx hb dX7_doRemove_25 (by decide) ?_
    have hP : va_P D vwCl [(h, .inr (7, fs)), (lv, .inl (cI, 4, .inl fl)), (lk, .inl (cI, 151, .inl flk)), (r, .inl (cI, 151, .inl (if vlu f key B ≠ -9 ∧ f 2 = 1 ∧ ¬ v < 0 then f4 else f)))] H := by
      rw [show (if vlu f key B ≠ -9 ∧ f 2 = 1 ∧ ¬ v < 0 then f4 else f : Nat → Int32) = f from if_neg (fun z => z.1 c7_1)]
      exact hP
    exact gp_retz hX hr hlocks hS hP (P := vlu f key B ≠ -9 ∧ f 2 = 1 ∧ ¬ v < 0) ((bI_0 (fun z => z.1 c7_1)).symm) ⟨(bI_0 (fun z => z.1 c7_1)).symm, _, _, rfl⟩ dX7_doRemove_26
  · skip
    refine lv_aload_n hx hb dX7_doRemove_10 rfl (lv_at hl 0 rfl) ?_
    refine lv_aload_n hx hb dX7_doRemove_11 rfl (lv_at hl 1 rfl) ?_
    refine lv_iload_n hx hb dX7_doRemove_12 rfl (lv_at hl 2 rfl) ?_
    refine lv_bipush (v := (-9)) hx hb dX7_doRemove_13 (by decide) ?_
    refine gp_backi (gp_runV hX good7 i7 (c7_doPut l D cI h lv lk r fs fl flk f B hW h9 h14 n v f2 hs key (-9) n2 v2 f4 hs2) q7_doPut rfl (m7 105 rfl) (m7 106 rfl) (m7 107 rfl) ⟨Nat.le_of_ble_eq_true rfl, Nat.le_of_ble_eq_true rfl⟩ hK [0] rfl hP hD [0, 1, 2, 3] (by decide) rfl (ci := 7) (q0 := 0) rfl rfl rfl hl.1 rfl (Nat.le_of_ble_eq_true rfl) dX7_doRemove_15 ⟨Nat.zero_le _, Nat.zero_le _⟩) hP hD hS [0, 1, 2, 3] rfl (fun r u h => by obtain ⟨-, x2, x3, rfl⟩ := h; simp only [List.map_cons, List.map_nil]) (fun r9 u H locs hpost hP hD hS => ?_)
    obtain ⟨hr9, x2, x3, rfl⟩ := hpost
    refine lv_as hr9 ?_
    have hP : va_P D vwCl [(h, .inr (7, fs)), (lv, .inl (cI, 4, .inl x2)), (lk, .inl (cI, 151, .inl x3)), (r, .inl (cI, 151, .inl (if f 2 = 1 ∧ ¬ v < 0 then f4 else f)))] H := hP
    have hD : va_D A [(h, .inr (7, fs)), (lv, .inl (cI, 4, .inl x2)), (lk, .inl (cI, 151, .inl x3)), (r, .inl (cI, 151, .inl (if f 2 = 1 ∧ ¬ v < 0 then f4 else f)))] := hD
    refine lv_if_eq (tgt := 25) hx hb dX7_doRemove_18 (by decide) (fun c18_4 => ?_) (fun c18_4 => ?_)
    · skip
      have c18_4 := bI_f c18_4
      refine lv_iconst (v := 0) hx hb dX7_doRemove_25 (by decide) ?_
      have hP : va_P D vwCl [(h, .inr (7, fs)), (lv, .inl (cI, 4, .inl x2)), (lk, .inl (cI, 151, .inl x3)), (r, .inl (cI, 151, .inl (if vlu f key B ≠ -9 ∧ f 2 = 1 ∧ ¬ v < 0 then f4 else f)))] H := by
        rw [show (if vlu f key B ≠ -9 ∧ f 2 = 1 ∧ ¬ v < 0 then f4 else f : Nat → Int32) = if f 2 = 1 ∧ ¬ v < 0 then f4 else f from by rw [if_neg (fun z => c18_4 z.2), if_neg c18_4]]
        exact hP
      exact gp_retz hX hr hlocks hS hP (P := vlu f key B ≠ -9 ∧ f 2 = 1 ∧ ¬ v < 0) ((bI_0 (fun z => c18_4 z.2)).symm) ⟨(bI_0 (fun z => c18_4 z.2)).symm, _, _, rfl⟩ dX7_doRemove_26
    · skip
      have c18_4 := bI_t c18_4
      refine lv_iconst (v := 1) hx hb dX7_doRemove_21 (by decide) ?_
      refine lv_goto (tgt := 26) hx hb dX7_doRemove_22 (by decide) ?_
      have hP : va_P D vwCl [(h, .inr (7, fs)), (lv, .inl (cI, 4, .inl x2)), (lk, .inl (cI, 151, .inl x3)), (r, .inl (cI, 151, .inl (if vlu f key B ≠ -9 ∧ f 2 = 1 ∧ ¬ v < 0 then f4 else f)))] H := by
        rw [show (if vlu f key B ≠ -9 ∧ f 2 = 1 ∧ ¬ v < 0 then f4 else f : Nat → Int32) = if f 2 = 1 ∧ ¬ v < 0 then f4 else f from by rw [if_pos ⟨c7_1, c18_4⟩, if_pos c18_4]]
        exact hP
      exact gp_retz hX hr hlocks hS hP (P := vlu f key B ≠ -9 ∧ f 2 = 1 ∧ ¬ v < 0) ((bI_1 ⟨c7_1, c18_4⟩).symm) ⟨(bI_1 ⟨c7_1, c18_4⟩).symm, _, _, rfl⟩ dX7_doRemove_26
theorem dX7_doSweep_0 : decode cX7_doSweep 0 = .ok (.aload_n 0, 1) := by decide +kernel
theorem dX7_doSweep_1 : decode cX7_doSweep 1 = .ok (.aload_n 1, 1) := by decide +kernel
theorem dX7_doSweep_2 : decode cX7_doSweep 2 = .ok (.invokevirtual 125, 3) := by decide +kernel
theorem dX7_doSweep_5 : decode cX7_doSweep 5 = .ok (.bipush (-9), 2) := by decide +kernel
theorem dX7_doSweep_7 : decode cX7_doSweep 7 = .ok (.if_icmp .eq 7, 3) := by decide +kernel
theorem dX7_doSweep_10 : decode cX7_doSweep 10 = .ok (.iconst 1, 1) := by decide +kernel
theorem dX7_doSweep_11 : decode cX7_doSweep 11 = .ok (.goto 4, 3) := by decide +kernel
theorem dX7_doSweep_14 : decode cX7_doSweep 14 = .ok (.iconst 0, 1) := by decide +kernel
theorem dX7_doSweep_15 : decode cX7_doSweep 15 = .ok (.ireturn, 1) := by decide +kernel
theorem q7_doSweep : CQ W7 yX7_doSweep cX7_doSweep 2 (some .boolean) 1 := ⟨(m7 150 rfl), by decide, by decide, by decide +kernel⟩
set_option maxHeartbeats 4000000 in
set_option maxRecDepth 100000 in
theorem c7_doSweep (l : Launch) (D : va_G) (cI : ClassId) (h lv r : Nat) (fs : List Value) (fl f : Nat → Int32) (B : Nat) (hW : Wf f B) (h14 : fs[14]? = some (.ref lv)) (v : Int32) (f2 : Nat → Int32) (hs : swp f B = some (v, f2)) : GPi l yX7_doSweep cX7_doSweep 2 .boolean W7 9 203 D [(h, .inr (7, fs)), (lv, .inl (cI, 4, .inl fl)), (r, .inl (cI, 151, .inl f))] [(cI, .int)] [.ref h, .ref r] (fun (r9 : Int32) (u9 : va_W) => r9 = (bI (¬ v = -9)) ∧ ∃ fl9 : Nat → Int32, u9 = [(h, .inr (7, fs)), (lv, .inl (cI, 4, .inl fl9)), (r, .inl (cI, 151, .inl f2))]) := by
  refine gp_of RX7 (by decide) rfl (Nat.le_of_ble_eq_true rfl) ?_
  intro p e s m below meth c ls H hX hr hlocks hK hP hD hS hl
  generalize gp_A [(h, .inr (7, fs)), (lv, .inl (cI, 4, .inl fl)), (r, .inl (cI, 151, .inl f))] = A at hD hS ⊢
  have hx := hX.1
  have hb := hX.2.1
  have hown := hX.2.2.2.1
  have hts := hX.2.2.2.2
  have hl : lv_has ls 2 [(0, .ref h), (1, .ref r)] := hl
  refine lv_aload_n hx hb dX7_doSweep_0 rfl (lv_at hl 0 rfl) ?_
  refine lv_aload_n hx hb dX7_doSweep_1 rfl (lv_at hl 1 rfl) ?_
  refine gp_backi (gp_runV hX good7 i7 (c7_sweepOnce l D cI h lv r fs fl f B hW h14 v f2 hs) q7_sweepOnce rfl (m7 89 rfl) (m7 90 rfl) (m7 91 rfl) ⟨Nat.le_of_ble_eq_true rfl, Nat.le_of_ble_eq_true rfl⟩ hK [0] rfl hP hD [0, 1, 2] (by decide) rfl (ci := 7) (q0 := 0) rfl rfl rfl hl.1 rfl (Nat.le_of_ble_eq_true rfl) dX7_doSweep_2 ⟨Nat.zero_le _, Nat.zero_le _⟩) hP hD hS [0, 1, 2] rfl (fun r u h => by obtain ⟨-, x1, rfl⟩ := h; simp only [List.map_cons, List.map_nil]) (fun r9 u H locs hpost hP hD hS => ?_)
  obtain ⟨hr9, x1, rfl⟩ := hpost
  refine lv_as hr9 ?_
  have hP : va_P D vwCl [(h, .inr (7, fs)), (lv, .inl (cI, 4, .inl x1)), (r, .inl (cI, 151, .inl f2))] H := hP
  have hD : va_D A [(h, .inr (7, fs)), (lv, .inl (cI, 4, .inl x1)), (r, .inl (cI, 151, .inl f2))] := hD
  refine lv_bipush (v := (-9)) hx hb dX7_doSweep_5 (by decide) ?_
  refine lv_icmp_eq (tgt := 14) hx hb dX7_doSweep_7 (by decide) (fun c7_2 => ?_) (fun c7_2 => ?_)
  · skip
    refine lv_iconst (v := 0) hx hb dX7_doSweep_14 (by decide) ?_
    exact gp_retz hX hr hlocks hS hP (P := ¬ v = -9) ((bI_0 (fun z => z c7_2)).symm) ⟨(bI_0 (fun z => z c7_2)).symm, _, rfl⟩ dX7_doSweep_15
  · skip
    refine lv_iconst (v := 1) hx hb dX7_doSweep_10 (by decide) ?_
    refine lv_goto (tgt := 15) hx hb dX7_doSweep_11 (by decide) ?_
    exact gp_retz hX hr hlocks hS hP (P := ¬ v = -9) ((bI_1 c7_2).symm) ⟨(bI_1 c7_2).symm, _, rfl⟩ dX7_doSweep_15
theorem dX7_reason_0 : decode cX7_reason 0 = .ok (.aload_n 0, 1) := by decide +kernel
theorem dX7_reason_1 : decode cX7_reason 1 = .ok (.getfield 13, 3) := by decide +kernel
theorem dX7_reason_4 : decode cX7_reason 4 = .ok (.iconst 2, 1) := by decide +kernel
theorem dX7_reason_5 : decode cX7_reason 5 = .ok (.iaload, 1) := by decide +kernel
theorem dX7_reason_6 : decode cX7_reason 6 = .ok (.ifCond .ne 5, 3) := by decide +kernel
theorem dX7_reason_9 : decode cX7_reason 9 = .ok (.iconst 1, 1) := by decide +kernel
theorem dX7_reason_10 : decode cX7_reason 10 = .ok (.ireturn, 1) := by decide +kernel
theorem dX7_reason_11 : decode cX7_reason 11 = .ok (.aload_n 0, 1) := by decide +kernel
theorem dX7_reason_12 : decode cX7_reason 12 = .ok (.aload_n 0, 1) := by decide +kernel
theorem dX7_reason_13 : decode cX7_reason 13 = .ok (.getfield 13, 3) := by decide +kernel
theorem dX7_reason_16 : decode cX7_reason 16 = .ok (.invokevirtual 131, 3) := by decide +kernel
theorem dX7_reason_19 : decode cX7_reason 19 = .ok (.ifCond .lt 5, 3) := by decide +kernel
theorem dX7_reason_22 : decode cX7_reason 22 = .ok (.iconst 0, 1) := by decide +kernel
theorem dX7_reason_23 : decode cX7_reason 23 = .ok (.ireturn, 1) := by decide +kernel
theorem dX7_reason_24 : decode cX7_reason 24 = .ok (.iconst 0, 1) := by decide +kernel
theorem dX7_reason_25 : decode cX7_reason 25 = .ok (.istore_n 1, 1) := by decide +kernel
theorem dX7_reason_26 : decode cX7_reason 26 = .ok (.iload_n 1, 1) := by decide +kernel
theorem dX7_reason_27 : decode cX7_reason 27 = .ok (.aload_n 0, 1) := by decide +kernel
theorem dX7_reason_28 : decode cX7_reason 28 = .ok (.getfield 13, 3) := by decide +kernel
theorem dX7_reason_31 : decode cX7_reason 31 = .ok (.iconst 0, 1) := by decide +kernel
theorem dX7_reason_32 : decode cX7_reason 32 = .ok (.iaload, 1) := by decide +kernel
theorem dX7_reason_33 : decode cX7_reason 33 = .ok (.if_icmp .ge 22, 3) := by decide +kernel
theorem dX7_reason_36 : decode cX7_reason 36 = .ok (.aload_n 0, 1) := by decide +kernel
theorem dX7_reason_37 : decode cX7_reason 37 = .ok (.getfield 13, 3) := by decide +kernel
theorem dX7_reason_40 : decode cX7_reason 40 = .ok (.iload_n 1, 1) := by decide +kernel
theorem dX7_reason_41 : decode cX7_reason 41 = .ok (.invokestatic 92, 3) := by decide +kernel
theorem dX7_reason_44 : decode cX7_reason 44 = .ok (.ifCond .eq 5, 3) := by decide +kernel
theorem dX7_reason_47 : decode cX7_reason 47 = .ok (.iconst 3, 1) := by decide +kernel
theorem dX7_reason_48 : decode cX7_reason 48 = .ok (.ireturn, 1) := by decide +kernel
theorem dX7_reason_49 : decode cX7_reason 49 = .ok (.iinc 1 1, 3) := by decide +kernel
theorem dX7_reason_52 : decode cX7_reason 52 = .ok (.goto (-26), 3) := by decide +kernel
theorem dX7_reason_55 : decode cX7_reason 55 = .ok (.iconst 2, 1) := by decide +kernel
theorem dX7_reason_56 : decode cX7_reason 56 = .ok (.ireturn, 1) := by decide +kernel
theorem q7_reason : CQ W7 yX7_reason cX7_reason 2 (some .int) 0 := ⟨(m7 199 rfl), by decide, by decide, by decide +kernel⟩
set_option maxHeartbeats 4000000 in
set_option maxRecDepth 100000 in
theorem c7_reason (l : Launch) (D : va_G) (cI : ClassId) (h lv lk r : Nat) (fs : List Value) (fl flk f : Nat → Int32) (B : Nat) (hW : Wf f B) (h9 : fs[9]? = some (.ref lk)) (h14 : fs[14]? = some (.ref lv)) (n : Nat) (v : Int32) (f2 : Nat → Int32) (hs : rec B 0 0 n (upd f 5 0) = some (v, f2)) (h7 : fs[7]? = some (.ref r)) : GPi l yX7_reason cX7_reason 2 .int W7 11 248 D [(h, .inr (7, fs)), (lv, .inl (cI, 4, .inl fl)), (lk, .inl (cI, 151, .inl flk)), (r, .inl (cI, 151, .inl f))] [(cI, .int)] [.ref h] (fun (r9 : Int32) (u9 : va_W) => r9 = (rsn f B v) ∧ ∃ fl9 : Nat → Int32, ∃ lk9 : Nat → Int32, u9 = [(h, .inr (7, fs)), (lv, .inl (cI, 4, .inl fl9)), (lk, .inl (cI, 151, .inl lk9)), (r, .inl (cI, 151, .inl f))]) := by
  refine gp_of RX7 (by decide) rfl (Nat.le_of_ble_eq_true rfl) ?_
  intro p e s m below meth c ls H hX hr hlocks hK hP hD hS hl
  generalize gp_A [(h, .inr (7, fs)), (lv, .inl (cI, 4, .inl fl)), (lk, .inl (cI, 151, .inl flk)), (r, .inl (cI, 151, .inl f))] = A at hD hS ⊢
  have hx := hX.1
  have hb := hX.2.1
  have hown := hX.2.2.2.1
  have hts := hX.2.2.2.2
  have hl : lv_has ls 2 [(0, .ref h)] := hl
  refine lv_aload_n hx hb dX7_reason_0 rfl (lv_at hl 0 rfl) ?_
  refine va_get (D := D) (ci := 7) (v := .ref r) (C := RX7) (T := TX7) (N := 15) hx hb hts u7 hown hK hP 0 rfl rfl 7 (by decide) (hts _ (m7 5 rfl)) (fun _ h9 => h9) h7 dX7_reason_1 ?_
  refine lv_iconst (v := 2) hx hb dX7_reason_4 (by decide) ?_
  refine ra_iald (i := 2) hx hb hK hP 3 0 rfl rfl (by omega) (by decide) dX7_reason_5 ?_
  refine lv_if_ne (tgt := 11) hx hb dX7_reason_6 (by decide) (fun c6_1 => ?_) (fun c6_1 => ?_)
  · skip
    refine lv_aload_n hx hb dX7_reason_11 rfl (lv_at hl 0 rfl) ?_
    refine lv_aload_n hx hb dX7_reason_12 rfl (lv_at hl 0 rfl) ?_
    refine va_get (D := D) (ci := 7) (v := .ref r) (C := RX7) (T := TX7) (N := 15) hx hb hts u7 hown hK hP 0 rfl rfl 7 (by decide) (hts _ (m7 5 rfl)) (fun _ h9 => h9) h7 dX7_reason_13 ?_
    refine gp_backi (gp_runV hX good7 i7 (c7_looked l D cI h lv lk r fs fl flk f B hW h9 h14 n v f2 hs) q7_looked rfl (m7 97 rfl) (m7 98 rfl) (m7 99 rfl) ⟨Nat.le_of_ble_eq_true rfl, Nat.le_of_ble_eq_true rfl⟩ hK [0] rfl hP hD [0, 1, 2, 3] (by decide) rfl (ci := 7) (q0 := 0) rfl rfl rfl hl.1 rfl (Nat.le_of_ble_eq_true rfl) dX7_reason_16 ⟨Nat.zero_le _, Nat.zero_le _⟩) hP hD hS [0, 1, 2, 3] rfl (fun r u h => by obtain ⟨-, x2, rfl⟩ := h; simp only [List.map_cons, List.map_nil]) (fun r9 u H locs hpost hP hD hS => ?_)
    obtain ⟨hr9, x2, rfl⟩ := hpost
    refine lv_as hr9 ?_
    have hP : va_P D vwCl [(h, .inr (7, fs)), (lv, .inl (cI, 4, .inl x2)), (lk, .inl (cI, 151, .inl f2)), (r, .inl (cI, 151, .inl f))] H := hP
    have hD : va_D A [(h, .inr (7, fs)), (lv, .inl (cI, 4, .inl x2)), (lk, .inl (cI, 151, .inl f2)), (r, .inl (cI, 151, .inl f))] := hD
    refine lv_if_lt (tgt := 24) hx hb dX7_reason_19 (by decide) (fun c19_3 => ?_) (fun c19_3 => ?_)
    · skip
      have hB8 := hW.2.1
      refine lv_iconst (v := 0) hx hb dX7_reason_24 (by decide) ?_
      refine lv_istore_n (lv' := [(1, .int (0)), (0, .ref h)]) hx hb dX7_reason_25 rfl hl (by decide) rfl (fun ls hl => ?_)
      have LP26 : ∀ n9 : Nat, ∀ (j : Nat) (flx : Nat → Int32) (lkx : Nat → Int32), (hj : j ≤ B) → (hq : stlA f B j = false) → B - j < n9 → ∀ (H : Heap) (locs : List Loc), va_P D vwCl [(h, .inr (7, fs)), (lv, .inl (cI, 4, .inl flx)), (lk, .inl (cI, 151, .inl lkx)), (r, .inl (cI, 151, .inl f))] H → va_D A [(h, .inr (7, fs)), (lv, .inl (cI, 4, .inl flx)), (lk, .inl (cI, 151, .inl lkx)), (r, .inl (cI, 151, .inl f))] → va_S A s.heap H locs → ∀ ls : Array Slot, lv_has ls 2 [(0, .ref h), (1, .int (nI (j)))] → W p l e ({ frames := 11, cells := 0, slots := 0, locals := 248 } : Room) s m ([.ref h] : List Value).toArray below meth c H locs 0 0 (MQ below (va_Qi (fun (r9 : Int32) (u9 : va_W) => r9 = (rsn f B v) ∧ ∃ fl9 : Nat → Int32, ∃ lk9 : Nat → Int32, u9 = [(h, .inr (7, fs)), (lv, .inl (cI, 4, .inl fl9)), (lk, .inl (cI, 151, .inl lk9)), (r, .inl (cI, 151, .inl f))]) (fun u t => va_P D vwCl u t.heap) A) ([.ref h] : List Value).toArray s 0 0 A) (F0 m 26 ls []) := by
        intro n9
        induction n9 with
        | zero => intros; omega
        | succ n9 ih26 =>
          intro j flx lkx hj hq hm9 H locs hP hD hS ls hl
          refine lv_iload_n hx hb dX7_reason_26 rfl (lv_at hl 1 rfl) ?_
          refine lv_aload_n hx hb dX7_reason_27 rfl (lv_at hl 0 rfl) ?_
          refine va_get (D := D) (ci := 7) (v := .ref r) (C := RX7) (T := TX7) (N := 15) hx hb hts u7 hown hK hP 0 rfl rfl 7 (by decide) (hts _ (m7 5 rfl)) (fun _ h9 => h9) h7 dX7_reason_28 ?_
          refine lv_iconst (v := 0) hx hb dX7_reason_31 (by decide) ?_
          refine ra_iald (i := 0) hx hb hK hP 3 0 rfl rfl (by omega) (by decide) dX7_reason_32 ?_
          refine lv_as (show f (0) = nI (B) from hW.1) ?_
          refine lv_icmp_ge (tgt := 55) hx hb dX7_reason_33 (by decide) (fun c33_4 => ?_) (fun c33_4 => ?_)
          · skip
            have c33_4 := cn_le (a := B) (b := j) (by omega) (by omega) c33_4
            have hq2 : ¬ stlA f B B = true := by
              have e9 : j = B := by omega
              rw [e9] at hq
              rw [hq]
              exact Bool.false_ne_true
            refine lv_iconst (v := 2) hx hb dX7_reason_55 (by decide) ?_
            exact gp_reti hX hr hlocks hS hP ⟨by rw [rsn, if_neg c6_1, if_neg (fun z => z c19_3), if_neg hq2], _, _, rfl⟩ dX7_reason_56
          · skip
            have c33_4 := cn_nle (a := B) (b := j) (by omega) (by omega) c33_4
            refine lv_aload_n hx hb dX7_reason_36 rfl (lv_at hl 0 rfl) ?_
            refine va_get (D := D) (ci := 7) (v := .ref r) (C := RX7) (T := TX7) (N := 15) hx hb hts u7 hown hK hP 0 rfl rfl 7 (by decide) (hts _ (m7 5 rfl)) (fun _ h9 => h9) h7 dX7_reason_37 ?_
            refine lv_iload_n hx hb dX7_reason_40 rfl (lv_at hl 1 rfl) ?_
            refine rp_callS hX good7 i7 (c7_isStale l D cI r f j (by omega) B hW.1 hW.2.1) q7_isStale rfl (m7 59 rfl) (m7 60 rfl) ⟨Nat.le_of_ble_eq_true rfl, Nat.le_of_ble_eq_true rfl⟩ hK [0] rfl hP [3] rfl hS hl.1 rfl (Nat.le_of_ble_eq_true rfl) dX7_reason_41 ⟨Nat.zero_le _, Nat.zero_le _⟩ (fun H locs hP hS => ?_)
            refine lv_if_eq (tgt := 49) hx hb dX7_reason_44 (by decide) (fun c44_5 => ?_) (fun c44_5 => ?_)
            · skip
              have c44_5 := bI_f c44_5
              refine lv_iinc (v := nI (j + 1)) (lv' := [(1, .int (nI (j + 1))), (0, .ref h)]) hx hb dX7_reason_49 hl (k := 1) rfl (nI_add _ 1) (by decide) rfl (fun ls hl => ?_)
              refine lv_goto (tgt := 26) hx hb dX7_reason_52 (by decide) ?_
              have hl : lv_has ls 2 [(1, .int (nI ((j + 1)))), (0, .ref h)] := lv_re hl 0 rfl (show nI (j + 1) = nI ((j + 1)) from rfl)
              exact ih26 (j + 1) flx lkx (by omega) (by rw [stlA, hq, decide_eq_false c44_5]; rfl) (by omega) _ _ hP hD hS _ (lv_sub hl [1, 0] rfl)
            · skip
              have c44_5 := bI_t c44_5
              refine lv_iconst (v := 3) hx hb dX7_reason_47 (by decide) ?_
              exact gp_reti hX hr hlocks hS hP ⟨by rw [rsn, if_neg c6_1, if_neg (fun z => z c19_3), if_pos (stlA_at c33_4 c44_5)], _, _, rfl⟩ dX7_reason_48
      have hl : lv_has ls 2 [(1, .int (nI (0))), (0, .ref h)] := lv_re hl 0 rfl (show 0 = nI (0) from rfl)
      exact LP26 ((B - 0) + 1) 0 x2 f2 (by omega) (rfl) (by omega) _ _ hP hD hS _ (lv_sub hl [1, 0] rfl)
    · skip
      refine lv_iconst (v := 0) hx hb dX7_reason_22 (by decide) ?_
      exact gp_reti hX hr hlocks hS hP ⟨by rw [rsn, if_neg c6_1, if_pos c19_3], _, _, rfl⟩ dX7_reason_23
  · skip
    refine lv_iconst (v := 1) hx hb dX7_reason_9 (by decide) ?_
    exact gp_reti hX hr hlocks hS hP ⟨(if_pos c6_1).symm, _, _, rfl⟩ dX7_reason_10
theorem dX7_begin_0 : decode cX7_begin 0 = .ok (.aload_n 0, 1) := by decide +kernel
theorem dX7_begin_1 : decode cX7_begin 1 = .ok (.getfield 13, 3) := by decide +kernel
theorem dX7_begin_4 : decode cX7_begin 4 = .ok (.iconst 0, 1) := by decide +kernel
theorem dX7_begin_5 : decode cX7_begin 5 = .ok (.aload_n 0, 1) := by decide +kernel
theorem dX7_begin_6 : decode cX7_begin 6 = .ok (.getfield 16, 3) := by decide +kernel
theorem dX7_begin_9 : decode cX7_begin 9 = .ok (.iconst 0, 1) := by decide +kernel
theorem dX7_begin_10 : decode cX7_begin 10 = .ok (.sipush 151, 3) := by decide +kernel
theorem dX7_begin_13 : decode cX7_begin 13 = .ok (.invokestatic 48, 3) := by decide +kernel
theorem dX7_begin_16 : decode cX7_begin 16 = .ok (.return_, 1) := by decide +kernel
theorem q7_begin : CQ W7 yX7_begin cX7_begin 1 none 0 := ⟨(m7 203 rfl), by decide, by decide, by decide +kernel⟩
set_option maxHeartbeats 4000000 in
set_option maxRecDepth 100000 in
theorem c7_begin (l : Launch) (D : va_G) (cI : ClassId) (h tr r : Nat) (fs : List Value) (ft f : Nat → Int32) (h7 : fs[7]? = some (.ref r)) (h8 : fs[8]? = some (.ref tr)) : GPv l yX7_begin cX7_begin 1 W7 1 25 D [(h, .inr (7, fs)), (tr, .inl (cI, 151, .inl ft)), (r, .inl (cI, 151, .inl f))] [(cI, .int)] [.ref h] (fun u9 : va_W => u9 = [(h, .inr (7, fs)), (tr, .inl (cI, 151, .inl f)), (r, .inl (cI, 151, .inl f))]) := by
  refine gp_of RX7 (by decide) rfl (Nat.le_of_ble_eq_true rfl) ?_
  intro p e s m below meth c ls H hX hr hlocks hK hP hD hS hl
  generalize gp_A [(h, .inr (7, fs)), (tr, .inl (cI, 151, .inl ft)), (r, .inl (cI, 151, .inl f))] = A at hD hS ⊢
  have hx := hX.1
  have hb := hX.2.1
  have hown := hX.2.2.2.1
  have hts := hX.2.2.2.2
  have hl : lv_has ls 1 [(0, .ref h)] := hl
  refine lv_aload_n hx hb dX7_begin_0 rfl (lv_at hl 0 rfl) ?_
  refine va_get (D := D) (ci := 7) (v := .ref r) (C := RX7) (T := TX7) (N := 15) hx hb hts u7 hown hK hP 0 rfl rfl 7 (by decide) (hts _ (m7 5 rfl)) (fun _ h9 => h9) h7 dX7_begin_1 ?_
  refine lv_iconst (v := 0) hx hb dX7_begin_4 (by decide) ?_
  refine lv_aload_n hx hb dX7_begin_5 rfl (lv_at hl 0 rfl) ?_
  refine va_get (D := D) (ci := 7) (v := .ref tr) (C := RX7) (T := TX7) (N := 15) hx hb hts u7 hown hK hP 0 rfl rfl 8 (by decide) (hts _ (m7 6 rfl)) (fun _ h9 => h9) h8 dX7_begin_6 ?_
  refine lv_iconst (v := 0) hx hb dX7_begin_9 (by decide) ?_
  refine lv_sipush (v := 151) hx hb dX7_begin_10 (by decide) ?_
  refine gp_backv (gp_runS hX good7 i7 (c7_copy l D cI r tr 151 151 f ft 0 0 151 (by omega) (by omega) (by omega) (by omega)) q7_copy rfl (m7 20 rfl) (m7 21 rfl) ⟨Nat.le_of_ble_eq_true rfl, Nat.le_of_ble_eq_true rfl⟩ hK [0] rfl hP hD [2, 1] (by decide) rfl hl.1 rfl (Nat.le_of_ble_eq_true rfl) dX7_begin_13 ⟨Nat.zero_le _, Nat.zero_le _⟩) hP hD hS [2, 1] rfl (fun u h => by rw [h]; simp only [List.map_cons, List.map_nil]) (fun u H locs hpost hP hD hS => ?_)
  subst hpost
  have hP : va_P D vwCl [(h, .inr (7, fs)), (tr, .inl (cI, 151, .inl (va_cpy f ft 0 0 151))), (r, .inl (cI, 151, .inl f))] H := hP
  have hD : va_D A [(h, .inr (7, fs)), (tr, .inl (cI, 151, .inl (va_cpy f ft 0 0 151))), (r, .inl (cI, 151, .inl f))] := hD
  have hP : va_P D vwCl [(h, .inr (7, fs)), (tr, .inl (cI, 151, .inl f)), (r, .inl (cI, 151, .inl f))] H := gp_cell (A := A) hP 1 rfl (fun k hk => cpy_all hk)
  have hD : va_D A [(h, .inr (7, fs)), (tr, .inl (cI, 151, .inl f)), (r, .inl (cI, 151, .inl f))] := gp_D hD (by simp only [List.map_cons, List.map_nil])
  exact gp_retv hX hr hlocks hS hP rfl dX7_begin_16
