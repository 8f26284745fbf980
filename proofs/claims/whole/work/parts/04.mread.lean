theorem dX7_pageOf_0 : decode cX7_pageOf 0 = .ok (.aload_n 0, 1) := by decide +kernel
theorem dX7_pageOf_1 : decode cX7_pageOf 1 = .ok (.bipush 23, 2) := by decide +kernel
theorem dX7_pageOf_3 : decode cX7_pageOf 3 = .ok (.iconst 4, 1) := by decide +kernel
theorem dX7_pageOf_4 : decode cX7_pageOf 4 = .ok (.iload_n 1, 1) := by decide +kernel
theorem dX7_pageOf_5 : decode cX7_pageOf 5 = .ok (.imul, 1) := by decide +kernel
theorem dX7_pageOf_6 : decode cX7_pageOf 6 = .ok (.iadd, 1) := by decide +kernel
theorem dX7_pageOf_7 : decode cX7_pageOf 7 = .ok (.iload_n 2, 1) := by decide +kernel
theorem dX7_pageOf_8 : decode cX7_pageOf 8 = .ok (.iadd, 1) := by decide +kernel
theorem dX7_pageOf_9 : decode cX7_pageOf 9 = .ok (.iaload, 1) := by decide +kernel
theorem dX7_pageOf_10 : decode cX7_pageOf 10 = .ok (.ireturn, 1) := by decide +kernel
theorem q7_pageOf : CQ W7 yX7_pageOf cX7_pageOf 3 (some .int) 3 := ⟨(m7 25 rfl), by decide, by decide, by decide +kernel⟩
set_option maxHeartbeats 4000000 in
set_option maxRecDepth 100000 in
theorem c7_pageOf (l : Launch) (D : va_G) (cI : ClassId) (r : Nat) (f : Nat → Int32) (a w : Nat) (ha : a < 32) (hw : w < 4) : RP l yX7_pageOf cX7_pageOf 3 .int W7 0 0 D [(r, .inl (cI, 151, .inl f))] [(cI, .int)] [.ref r, .int (nI (a)), .int (nI (w))] (pg f a w) := by
  refine rp_of RX7 (by decide) rfl (Nat.le_of_ble_eq_true rfl) ?_
  intro p e s m below meth c ls hX hr hlocks hK hP hS hl
  have hx := hX.1
  have hb := hX.2.1
  have hown := hX.2.2.2.1
  have hts := hX.2.2.2.2
  have hl : lv_has ls 3 [(0, .ref r), (1, .int (nI (a))), (2, .int (nI (w)))] := hl
  refine lv_aload_n hx hb dX7_pageOf_0 rfl (lv_at hl 0 rfl) ?_
  refine lv_bipush (v := 23) hx hb dX7_pageOf_1 (by decide) ?_
  refine lv_iconst (v := 4) hx hb dX7_pageOf_3 (by decide) ?_
  refine lv_iload_n hx hb dX7_pageOf_4 rfl (lv_at hl 1 rfl) ?_
  refine lv_imul hx hb dX7_pageOf_5 ?_
  refine lv_as (y := nI (4 * a)) (pk_mul (4) (a)) ?_
  refine lv_iadd hx hb dX7_pageOf_6 ?_
  refine lv_as (y := nI (23 + 4 * a)) (nI_add (23) (4 * a)) ?_
  refine lv_iload_n hx hb dX7_pageOf_7 rfl (lv_at hl 2 rfl) ?_
  refine lv_iadd hx hb dX7_pageOf_8 ?_
  refine lv_as (y := nI (23 + 4 * a + w)) (nI_add (23 + 4 * a) (w)) ?_
  refine ra_iald (i := 23 + 4 * a + w) hx hb hK hP 0 0 rfl rfl (by omega) (by decide) dX7_pageOf_9 ?_
  exact rp_ret hX hr hlocks hS (rfl) dX7_pageOf_10
theorem dX7_pages_0 : decode cX7_pages 0 = .ok (.iconst 4, 1) := by decide +kernel
theorem dX7_pages_1 : decode cX7_pages 1 = .ok (.aload_n 0, 1) := by decide +kernel
theorem dX7_pages_2 : decode cX7_pages 2 = .ok (.iconst 0, 1) := by decide +kernel
theorem dX7_pages_3 : decode cX7_pages 3 = .ok (.iaload, 1) := by decide +kernel
theorem dX7_pages_4 : decode cX7_pages 4 = .ok (.imul, 1) := by decide +kernel
theorem dX7_pages_5 : decode cX7_pages 5 = .ok (.ireturn, 1) := by decide +kernel
theorem q7_pages : CQ W7 yX7_pages cX7_pages 1 (some .int) 1 := ⟨(m7 28 rfl), by decide, by decide, by decide +kernel⟩
set_option maxHeartbeats 4000000 in
set_option maxRecDepth 100000 in
theorem c7_pages (l : Launch) (D : va_G) (cI : ClassId) (r : Nat) (f : Nat → Int32) (B : Nat) (hB : f 0 = nI B) : RP l yX7_pages cX7_pages 1 .int W7 0 0 D [(r, .inl (cI, 151, .inl f))] [(cI, .int)] [.ref r] (nI (4 * B)) := by
  refine rp_of RX7 (by decide) rfl (Nat.le_of_ble_eq_true rfl) ?_
  intro p e s m below meth c ls hX hr hlocks hK hP hS hl
  have hx := hX.1
  have hb := hX.2.1
  have hown := hX.2.2.2.1
  have hts := hX.2.2.2.2
  have hl : lv_has ls 1 [(0, .ref r)] := hl
  refine lv_iconst (v := 4) hx hb dX7_pages_0 (by decide) ?_
  refine lv_aload_n hx hb dX7_pages_1 rfl (lv_at hl 0 rfl) ?_
  refine lv_iconst (v := 0) hx hb dX7_pages_2 (by decide) ?_
  refine ra_iald (i := 0) hx hb hK hP 0 0 rfl rfl (by omega) (by decide) dX7_pages_3 ?_
  refine lv_as (show f (0) = nI (B) from hB) ?_
  refine lv_imul hx hb dX7_pages_4 ?_
  refine lv_as (y := nI (4 * B)) (pk_mul (4) (B)) ?_
  exact rp_ret hX hr hlocks hS (rfl) dX7_pages_5
theorem dX7_isWritten_0 : decode cX7_isWritten 0 = .ok (.aload_n 0, 1) := by decide +kernel
theorem dX7_isWritten_1 : decode cX7_isWritten 1 = .ok (.iload_n 1, 1) := by decide +kernel
theorem dX7_isWritten_2 : decode cX7_isWritten 2 = .ok (.iconst 0, 1) := by decide +kernel
theorem dX7_isWritten_3 : decode cX7_isWritten 3 = .ok (.invokestatic 52, 3) := by decide +kernel
theorem dX7_isWritten_6 : decode cX7_isWritten 6 = .ok (.iconst 1, 1) := by decide +kernel
theorem dX7_isWritten_7 : decode cX7_isWritten 7 = .ok (.if_icmp .ne 7, 3) := by decide +kernel
theorem dX7_isWritten_10 : decode cX7_isWritten 10 = .ok (.iconst 1, 1) := by decide +kernel
theorem dX7_isWritten_11 : decode cX7_isWritten 11 = .ok (.goto 4, 3) := by decide +kernel
theorem dX7_isWritten_14 : decode cX7_isWritten 14 = .ok (.iconst 0, 1) := by decide +kernel
theorem dX7_isWritten_15 : decode cX7_isWritten 15 = .ok (.ireturn, 1) := by decide +kernel
theorem q7_isWritten : CQ W7 yX7_isWritten cX7_isWritten 2 (some .boolean) 2 := ⟨(m7 31 rfl), by decide, by decide, by decide +kernel⟩
set_option maxHeartbeats 4000000 in
set_option maxRecDepth 100000 in
theorem c7_isWritten (l : Launch) (D : va_G) (cI : ClassId) (r : Nat) (f : Nat → Int32) (a : Nat) (ha : a < 32) : RP l yX7_isWritten cX7_isWritten 2 .boolean W7 1 22 D [(r, .inl (cI, 151, .inl f))] [(cI, .int)] [.ref r, .int (nI (a))] (bI (pg f a 0 = 1)) := by
  refine rp_of RX7 (by decide) rfl (Nat.le_of_ble_eq_true rfl) ?_
  intro p e s m below meth c ls hX hr hlocks hK hP hS hl
  have hx := hX.1
  have hb := hX.2.1
  have hown := hX.2.2.2.1
  have hts := hX.2.2.2.2
  have hl : lv_has ls 2 [(0, .ref r), (1, .int (nI (a)))] := hl
  refine lv_aload_n hx hb dX7_isWritten_0 rfl (lv_at hl 0 rfl) ?_
  refine lv_iload_n hx hb dX7_isWritten_1 rfl (lv_at hl 1 rfl) ?_
  refine lv_iconst (v := 0) hx hb dX7_isWritten_2 (by decide) ?_
  refine rp_callS hX good7 i7 (c7_pageOf l D cI r f a 0 (by omega) (by omega)) q7_pageOf rfl (m7 23 rfl) (m7 24 rfl) ⟨Nat.le_of_ble_eq_true rfl, Nat.le_of_ble_eq_true rfl⟩ hK [0] rfl hP [0] rfl hS hl.1 rfl (Nat.le_of_ble_eq_true rfl) dX7_isWritten_3 ⟨Nat.zero_le _, Nat.zero_le _⟩ (fun H locs hP hS => ?_)
  refine lv_iconst (v := 1) hx hb dX7_isWritten_6 (by decide) ?_
  refine lv_icmp_ne (tgt := 14) hx hb dX7_isWritten_7 (by decide) (fun c7_1 => ?_) (fun c7_1 => ?_)
  · skip
    refine lv_iconst (v := 0) hx hb dX7_isWritten_14 (by decide) ?_
    exact rp_retz hX hr hlocks hS ((bI_0 (by simp_all)).symm) dX7_isWritten_15
  · skip
    refine lv_iconst (v := 1) hx hb dX7_isWritten_10 (by decide) ?_
    refine lv_goto (tgt := 15) hx hb dX7_isWritten_11 (by decide) ?_
    exact rp_retz hX hr hlocks hS ((bI_1 (by simp_all)).symm) dX7_isWritten_15
theorem dX7_newestOf_0 : decode cX7_newestOf 0 = .ok (.bipush (-9), 2) := by decide +kernel
theorem dX7_newestOf_2 : decode cX7_newestOf 2 = .ok (.istore_n 2, 1) := by decide +kernel
theorem dX7_newestOf_3 : decode cX7_newestOf 3 = .ok (.iconst 0, 1) := by decide +kernel
theorem dX7_newestOf_4 : decode cX7_newestOf 4 = .ok (.istore_n 3, 1) := by decide +kernel
theorem dX7_newestOf_5 : decode cX7_newestOf 5 = .ok (.iload_n 3, 1) := by decide +kernel
theorem dX7_newestOf_6 : decode cX7_newestOf 6 = .ok (.aload_n 0, 1) := by decide +kernel
theorem dX7_newestOf_7 : decode cX7_newestOf 7 = .ok (.invokestatic 56, 3) := by decide +kernel
theorem dX7_newestOf_10 : decode cX7_newestOf 10 = .ok (.if_icmp .ge 50, 3) := by decide +kernel
theorem dX7_newestOf_13 : decode cX7_newestOf 13 = .ok (.aload_n 0, 1) := by decide +kernel
theorem dX7_newestOf_14 : decode cX7_newestOf 14 = .ok (.iload_n 3, 1) := by decide +kernel
theorem dX7_newestOf_15 : decode cX7_newestOf 15 = .ok (.invokestatic 60, 3) := by decide +kernel
theorem dX7_newestOf_18 : decode cX7_newestOf 18 = .ok (.ifCond .eq 36, 3) := by decide +kernel
theorem dX7_newestOf_21 : decode cX7_newestOf 21 = .ok (.aload_n 0, 1) := by decide +kernel
theorem dX7_newestOf_22 : decode cX7_newestOf 22 = .ok (.iload_n 3, 1) := by decide +kernel
theorem dX7_newestOf_23 : decode cX7_newestOf 23 = .ok (.iconst 1, 1) := by decide +kernel
theorem dX7_newestOf_24 : decode cX7_newestOf 24 = .ok (.invokestatic 52, 3) := by decide +kernel
theorem dX7_newestOf_27 : decode cX7_newestOf 27 = .ok (.iload_n 1, 1) := by decide +kernel
theorem dX7_newestOf_28 : decode cX7_newestOf 28 = .ok (.if_icmp .ne 26, 3) := by decide +kernel
theorem dX7_newestOf_31 : decode cX7_newestOf 31 = .ok (.iload_n 2, 1) := by decide +kernel
theorem dX7_newestOf_32 : decode cX7_newestOf 32 = .ok (.bipush (-9), 2) := by decide +kernel
theorem dX7_newestOf_34 : decode cX7_newestOf 34 = .ok (.if_icmp .eq 18, 3) := by decide +kernel
theorem dX7_newestOf_37 : decode cX7_newestOf 37 = .ok (.aload_n 0, 1) := by decide +kernel
theorem dX7_newestOf_38 : decode cX7_newestOf 38 = .ok (.iload_n 3, 1) := by decide +kernel
theorem dX7_newestOf_39 : decode cX7_newestOf 39 = .ok (.iconst 3, 1) := by decide +kernel
theorem dX7_newestOf_40 : decode cX7_newestOf 40 = .ok (.invokestatic 52, 3) := by decide +kernel
theorem dX7_newestOf_43 : decode cX7_newestOf 43 = .ok (.aload_n 0, 1) := by decide +kernel
theorem dX7_newestOf_44 : decode cX7_newestOf 44 = .ok (.iload_n 2, 1) := by decide +kernel
theorem dX7_newestOf_45 : decode cX7_newestOf 45 = .ok (.iconst 3, 1) := by decide +kernel
theorem dX7_newestOf_46 : decode cX7_newestOf 46 = .ok (.invokestatic 52, 3) := by decide +kernel
theorem dX7_newestOf_49 : decode cX7_newestOf 49 = .ok (.if_icmp .le 5, 3) := by decide +kernel
theorem dX7_newestOf_52 : decode cX7_newestOf 52 = .ok (.iload_n 3, 1) := by decide +kernel
theorem dX7_newestOf_53 : decode cX7_newestOf 53 = .ok (.istore_n 2, 1) := by decide +kernel
theorem dX7_newestOf_54 : decode cX7_newestOf 54 = .ok (.iinc 3 1, 3) := by decide +kernel
theorem dX7_newestOf_57 : decode cX7_newestOf 57 = .ok (.goto (-52), 3) := by decide +kernel
theorem dX7_newestOf_60 : decode cX7_newestOf 60 = .ok (.iload_n 2, 1) := by decide +kernel
theorem dX7_newestOf_61 : decode cX7_newestOf 61 = .ok (.ireturn, 1) := by decide +kernel
theorem q7_newestOf : CQ W7 yX7_newestOf cX7_newestOf 4 (some .int) 2 := ⟨(m7 34 rfl), by decide, by decide, by decide +kernel⟩
set_option maxHeartbeats 4000000 in
set_option maxRecDepth 100000 in
theorem c7_newestOf (l : Launch) (D : va_G) (cI : ClassId) (r : Nat) (f : Nat → Int32) (key : Int32) (B : Nat) (hB : f 0 = nI B) (hB8 : B ≤ 8) : RP l yX7_newestOf cX7_newestOf 4 .int W7 2 43 D [(r, .inl (cI, 151, .inl f))] [(cI, .int)] [.ref r, .int (key)] (oI (nwst f key (4 * B))) := by
  refine rp_of RX7 (by decide) rfl (Nat.le_of_ble_eq_true rfl) ?_
  intro p e s m below meth c ls hX hr hlocks hK hP hS hl
  have hx := hX.1
  have hb := hX.2.1
  have hown := hX.2.2.2.1
  have hts := hX.2.2.2.2
  have hl : lv_has ls 4 [(0, .ref r), (1, .int (key))] := hl
  refine lv_bipush (v := (-9)) hx hb dX7_newestOf_0 (by decide) ?_
  refine lv_istore_n (lv' := [(2, .int ((-9))), (0, .ref r), (1, .int (key))]) hx hb dX7_newestOf_2 rfl hl (by decide) rfl (fun ls hl => ?_)
  refine lv_iconst (v := 0) hx hb dX7_newestOf_3 (by decide) ?_
  refine lv_istore_n (lv' := [(3, .int (0)), (2, .int ((-9))), (0, .ref r), (1, .int (key))]) hx hb dX7_newestOf_4 rfl hl (by decide) rfl (fun ls hl => ?_)
  have LP5 : ∀ n9 : Nat, ∀ (j : Nat), (hj : j ≤ 4 * B) → 4 * B - j < n9 → ∀ (H : Heap) (locs : List Loc), va_P D vwCl [(r, .inl (cI, 151, .inl f))] H → va_S (fun _ => False) s.heap H locs → ∀ ls : Array Slot, lv_has ls 4 [(0, .ref r), (1, .int (key)), (2, .int (oI (nwst f key j))), (3, .int (nI (j)))] → W p l e ({ frames := 2, cells := 0, slots := 0, locals := 43 } : Room) s m ([.ref r, .int (key)] : List Value).toArray below meth c H locs 0 0 (MQ below (rp_Qi (oI (nwst f key (4 * B)))) ([.ref r, .int (key)] : List Value).toArray s 0 0 (fun _ => False)) (F0 m 5 ls []) := by
    intro n9
    induction n9 with
    | zero => intros; omega
    | succ n9 ih5 =>
      intro j hj hm9 H locs hP hS ls hl
      refine lv_iload_n hx hb dX7_newestOf_5 rfl (lv_at hl 3 rfl) ?_
      refine lv_aload_n hx hb dX7_newestOf_6 rfl (lv_at hl 0 rfl) ?_
      refine rp_callS hX good7 i7 (c7_pages l D cI r f B hB) q7_pages rfl (m7 26 rfl) (m7 27 rfl) ⟨Nat.le_of_ble_eq_true rfl, Nat.le_of_ble_eq_true rfl⟩ hK [0] rfl hP [0] rfl hS hl.1 rfl (Nat.le_of_ble_eq_true rfl) dX7_newestOf_7 ⟨Nat.zero_le _, Nat.zero_le _⟩ (fun H locs hP hS => ?_)
      refine lv_icmp_ge (tgt := 60) hx hb dX7_newestOf_10 (by decide) (fun c10_1 => ?_) (fun c10_1 => ?_)
      · skip
        have c10_1 := cn_le (a := 4 * B) (b := j) (by omega) (by omega) c10_1
        refine lv_iload_n hx hb dX7_newestOf_60 rfl (lv_at hl 2 rfl) ?_
        exact rp_ret hX hr hlocks hS (by rw [show 4 * B = j by omega]) dX7_newestOf_61
      · skip
        have c10_1 := cn_nle (a := 4 * B) (b := j) (by omega) (by omega) c10_1
        rcases hO2 : nwst f key j with _ | o2
        · skip
          have hl : lv_has ls 4 [(0, .ref r), (1, .int (key)), (2, .int ((-9))), (3, .int (nI (j)))] := by rw [hO2] at hl; exact hl
          refine lv_aload_n hx hb dX7_newestOf_13 rfl (lv_at hl 0 rfl) ?_
          refine lv_iload_n hx hb dX7_newestOf_14 rfl (lv_at hl 3 rfl) ?_
          refine rp_callS hX good7 i7 (c7_isWritten l D cI r f j (by omega)) q7_isWritten rfl (m7 29 rfl) (m7 30 rfl) ⟨Nat.le_of_ble_eq_true rfl, Nat.le_of_ble_eq_true rfl⟩ hK [0] rfl hP [0] rfl hS hl.1 rfl (Nat.le_of_ble_eq_true rfl) dX7_newestOf_15 ⟨Nat.zero_le _, Nat.zero_le _⟩ (fun H locs hP hS => ?_)
          refine lv_if_eq (tgt := 54) hx hb dX7_newestOf_18 (by decide) (fun c18_3 => ?_) (fun c18_3 => ?_)
          · skip
            have c18_3 := bI_f c18_3
            refine lv_iinc (v := nI (j + 1)) (lv' := [(3, .int (nI (j + 1))), (0, .ref r), (1, .int (key)), (2, .int ((-9)))]) hx hb dX7_newestOf_54 hl (k := 3) rfl (nI_add _ 1) (by decide) rfl (fun ls hl => ?_)
            refine lv_goto (tgt := 5) hx hb dX7_newestOf_57 (by decide) ?_
            have hl : lv_has ls 4 [(3, .int (nI (j + 1))), (0, .ref r), (1, .int (key)), (2, .int (oI (nwst f key (j + 1))))] := lv_re hl 3 rfl (show (-9) = oI (nwst f key (j + 1)) from by simp [nwst, oI, c10_1, hO2, c18_3])
            have hl : lv_has ls 4 [(3, .int (nI ((j + 1)))), (0, .ref r), (1, .int (key)), (2, .int (oI (nwst f key (j + 1))))] := lv_re hl 0 rfl (show nI (j + 1) = nI ((j + 1)) from rfl)
            exact ih5 (j + 1) (by omega) (by omega) _ _ hP hS _ (lv_sub hl [1, 2, 3, 0] rfl)
          · skip
            have c18_3 := bI_t c18_3
            refine lv_aload_n hx hb dX7_newestOf_21 rfl (lv_at hl 0 rfl) ?_
            refine lv_iload_n hx hb dX7_newestOf_22 rfl (lv_at hl 3 rfl) ?_
            refine lv_iconst (v := 1) hx hb dX7_newestOf_23 (by decide) ?_
            refine rp_callS hX good7 i7 (c7_pageOf l D cI r f j 1 (by omega) (by omega)) q7_pageOf rfl (m7 23 rfl) (m7 24 rfl) ⟨Nat.le_of_ble_eq_true rfl, Nat.le_of_ble_eq_true rfl⟩ hK [0] rfl hP [0] rfl hS hl.1 rfl (Nat.le_of_ble_eq_true rfl) dX7_newestOf_24 ⟨Nat.zero_le _, Nat.zero_le _⟩ (fun H locs hP hS => ?_)
            refine lv_iload_n hx hb dX7_newestOf_27 rfl (lv_at hl 1 rfl) ?_
            refine lv_icmp_ne (tgt := 54) hx hb dX7_newestOf_28 (by decide) (fun c28_4 => ?_) (fun c28_4 => ?_)
            · skip
              refine lv_iinc (v := nI (j + 1)) (lv' := [(3, .int (nI (j + 1))), (0, .ref r), (1, .int (key)), (2, .int ((-9)))]) hx hb dX7_newestOf_54 hl (k := 3) rfl (nI_add _ 1) (by decide) rfl (fun ls hl => ?_)
              refine lv_goto (tgt := 5) hx hb dX7_newestOf_57 (by decide) ?_
              have hl : lv_has ls 4 [(3, .int (nI (j + 1))), (0, .ref r), (1, .int (key)), (2, .int (oI (nwst f key (j + 1))))] := lv_re hl 3 rfl (show (-9) = oI (nwst f key (j + 1)) from by simp [nwst, oI, c10_1, hO2, c18_3, c28_4])
              have hl : lv_has ls 4 [(3, .int (nI ((j + 1)))), (0, .ref r), (1, .int (key)), (2, .int (oI (nwst f key (j + 1))))] := lv_re hl 0 rfl (show nI (j + 1) = nI ((j + 1)) from rfl)
              exact ih5 (j + 1) (by omega) (by omega) _ _ hP hS _ (lv_sub hl [1, 2, 3, 0] rfl)
            · skip
              refine lv_iload_n hx hb dX7_newestOf_31 rfl (lv_at hl 2 rfl) ?_
              refine lv_bipush (v := (-9)) hx hb dX7_newestOf_32 (by decide) ?_
              refine lv_icmp_eq (tgt := 52) hx hb dX7_newestOf_34 (by decide) (fun c34_5 => ?_) (fun c34_5 => ?_)
              · skip
                refine lv_iload_n hx hb dX7_newestOf_52 rfl (lv_at hl 3 rfl) ?_
                refine lv_istore_n (lv' := [(2, .int (nI (j))), (0, .ref r), (1, .int (key)), (3, .int (nI (j)))]) hx hb dX7_newestOf_53 rfl hl (by decide) rfl (fun ls hl => ?_)
                refine lv_iinc (v := nI (j + 1)) (lv' := [(3, .int (nI (j + 1))), (2, .int (nI (j))), (0, .ref r), (1, .int (key))]) hx hb dX7_newestOf_54 hl (k := 3) rfl (nI_add _ 1) (by decide) rfl (fun ls hl => ?_)
                refine lv_goto (tgt := 5) hx hb dX7_newestOf_57 (by decide) ?_
                have hl : lv_has ls 4 [(3, .int (nI (j + 1))), (2, .int (oI (nwst f key (j + 1)))), (0, .ref r), (1, .int (key))] := lv_re hl 1 rfl (show nI (j) = oI (nwst f key (j + 1)) from by simp [nwst, oI, c10_1, hO2, c18_3, c28_4, c34_5])
                have hl : lv_has ls 4 [(3, .int (nI ((j + 1)))), (2, .int (oI (nwst f key (j + 1)))), (0, .ref r), (1, .int (key))] := lv_re hl 0 rfl (show nI (j + 1) = nI ((j + 1)) from rfl)
                exact ih5 (j + 1) (by omega) (by omega) _ _ hP hS _ (lv_sub hl [2, 3, 1, 0] rfl)
              · skip
                exact absurd c34_5 (by decide)
        · skip
          have hl : lv_has ls 4 [(0, .ref r), (1, .int (key)), (2, .int (nI (o2))), (3, .int (nI (j)))] := by rw [hO2] at hl; exact hl
          have ho2 := nwst_lt hO2
          refine lv_aload_n hx hb dX7_newestOf_13 rfl (lv_at hl 0 rfl) ?_
          refine lv_iload_n hx hb dX7_newestOf_14 rfl (lv_at hl 3 rfl) ?_
          refine rp_callS hX good7 i7 (c7_isWritten l D cI r f j (by omega)) q7_isWritten rfl (m7 29 rfl) (m7 30 rfl) ⟨Nat.le_of_ble_eq_true rfl, Nat.le_of_ble_eq_true rfl⟩ hK [0] rfl hP [0] rfl hS hl.1 rfl (Nat.le_of_ble_eq_true rfl) dX7_newestOf_15 ⟨Nat.zero_le _, Nat.zero_le _⟩ (fun H locs hP hS => ?_)
          refine lv_if_eq (tgt := 54) hx hb dX7_newestOf_18 (by decide) (fun c18_6 => ?_) (fun c18_6 => ?_)
          · skip
            have c18_6 := bI_f c18_6
            refine lv_iinc (v := nI (j + 1)) (lv' := [(3, .int (nI (j + 1))), (0, .ref r), (1, .int (key)), (2, .int (nI (o2)))]) hx hb dX7_newestOf_54 hl (k := 3) rfl (nI_add _ 1) (by decide) rfl (fun ls hl => ?_)
            refine lv_goto (tgt := 5) hx hb dX7_newestOf_57 (by decide) ?_
            have hl : lv_has ls 4 [(3, .int (nI (j + 1))), (0, .ref r), (1, .int (key)), (2, .int (oI (nwst f key (j + 1))))] := lv_re hl 3 rfl (show nI (o2) = oI (nwst f key (j + 1)) from by simp [nwst, oI, c10_1, hO2, c18_6])
            have hl : lv_has ls 4 [(3, .int (nI ((j + 1)))), (0, .ref r), (1, .int (key)), (2, .int (oI (nwst f key (j + 1))))] := lv_re hl 0 rfl (show nI (j + 1) = nI ((j + 1)) from rfl)
            exact ih5 (j + 1) (by omega) (by omega) _ _ hP hS _ (lv_sub hl [1, 2, 3, 0] rfl)
          · skip
            have c18_6 := bI_t c18_6
            refine lv_aload_n hx hb dX7_newestOf_21 rfl (lv_at hl 0 rfl) ?_
            refine lv_iload_n hx hb dX7_newestOf_22 rfl (lv_at hl 3 rfl) ?_
            refine lv_iconst (v := 1) hx hb dX7_newestOf_23 (by decide) ?_
            refine rp_callS hX good7 i7 (c7_pageOf l D cI r f j 1 (by omega) (by omega)) q7_pageOf rfl (m7 23 rfl) (m7 24 rfl) ⟨Nat.le_of_ble_eq_true rfl, Nat.le_of_ble_eq_true rfl⟩ hK [0] rfl hP [0] rfl hS hl.1 rfl (Nat.le_of_ble_eq_true rfl) dX7_newestOf_24 ⟨Nat.zero_le _, Nat.zero_le _⟩ (fun H locs hP hS => ?_)
            refine lv_iload_n hx hb dX7_newestOf_27 rfl (lv_at hl 1 rfl) ?_
            refine lv_icmp_ne (tgt := 54) hx hb dX7_newestOf_28 (by decide) (fun c28_7 => ?_) (fun c28_7 => ?_)
            · skip
              refine lv_iinc (v := nI (j + 1)) (lv' := [(3, .int (nI (j + 1))), (0, .ref r), (1, .int (key)), (2, .int (nI (o2)))]) hx hb dX7_newestOf_54 hl (k := 3) rfl (nI_add _ 1) (by decide) rfl (fun ls hl => ?_)
              refine lv_goto (tgt := 5) hx hb dX7_newestOf_57 (by decide) ?_
              have hl : lv_has ls 4 [(3, .int (nI (j + 1))), (0, .ref r), (1, .int (key)), (2, .int (oI (nwst f key (j + 1))))] := lv_re hl 3 rfl (show nI (o2) = oI (nwst f key (j + 1)) from by simp [nwst, oI, c10_1, hO2, c18_6, c28_7])
              have hl : lv_has ls 4 [(3, .int (nI ((j + 1)))), (0, .ref r), (1, .int (key)), (2, .int (oI (nwst f key (j + 1))))] := lv_re hl 0 rfl (show nI (j + 1) = nI ((j + 1)) from rfl)
              exact ih5 (j + 1) (by omega) (by omega) _ _ hP hS _ (lv_sub hl [1, 2, 3, 0] rfl)
            · skip
              refine lv_iload_n hx hb dX7_newestOf_31 rfl (lv_at hl 2 rfl) ?_
              refine lv_bipush (v := (-9)) hx hb dX7_newestOf_32 (by decide) ?_
              refine lv_icmp_eq (tgt := 52) hx hb dX7_newestOf_34 (by decide) (fun c34_8 => ?_) (fun c34_8 => ?_)
              · skip
                exact absurd c34_8 (oI_ne (by omega))
              · skip
                refine lv_aload_n hx hb dX7_newestOf_37 rfl (lv_at hl 0 rfl) ?_
                refine lv_iload_n hx hb dX7_newestOf_38 rfl (lv_at hl 3 rfl) ?_
                refine lv_iconst (v := 3) hx hb dX7_newestOf_39 (by decide) ?_
                refine rp_callS hX good7 i7 (c7_pageOf l D cI r f j 3 (by omega) (by omega)) q7_pageOf rfl (m7 23 rfl) (m7 24 rfl) ⟨Nat.le_of_ble_eq_true rfl, Nat.le_of_ble_eq_true rfl⟩ hK [0] rfl hP [0] rfl hS hl.1 rfl (Nat.le_of_ble_eq_true rfl) dX7_newestOf_40 ⟨Nat.zero_le _, Nat.zero_le _⟩ (fun H locs hP hS => ?_)
                refine lv_aload_n hx hb dX7_newestOf_43 rfl (lv_at hl 0 rfl) ?_
                refine lv_iload_n hx hb dX7_newestOf_44 rfl (lv_at hl 2 rfl) ?_
                refine lv_iconst (v := 3) hx hb dX7_newestOf_45 (by decide) ?_
                refine rp_callS hX good7 i7 (c7_pageOf l D cI r f o2 3 (by omega) (by omega)) q7_pageOf rfl (m7 23 rfl) (m7 24 rfl) ⟨Nat.le_of_ble_eq_true rfl, Nat.le_of_ble_eq_true rfl⟩ hK [0] rfl hP [0] rfl hS hl.1 rfl (Nat.le_of_ble_eq_true rfl) dX7_newestOf_46 ⟨Nat.zero_le _, Nat.zero_le _⟩ (fun H locs hP hS => ?_)
                refine lv_icmp_le (tgt := 54) hx hb dX7_newestOf_49 (by decide) (fun c49_9 => ?_) (fun c49_9 => ?_)
                · skip
                  have c49_9 := i_nlt c49_9
                  refine lv_iinc (v := nI (j + 1)) (lv' := [(3, .int (nI (j + 1))), (0, .ref r), (1, .int (key)), (2, .int (nI (o2)))]) hx hb dX7_newestOf_54 hl (k := 3) rfl (nI_add _ 1) (by decide) rfl (fun ls hl => ?_)
                  refine lv_goto (tgt := 5) hx hb dX7_newestOf_57 (by decide) ?_
                  have hl : lv_has ls 4 [(3, .int (nI (j + 1))), (0, .ref r), (1, .int (key)), (2, .int (oI (nwst f key (j + 1))))] := lv_re hl 3 rfl (show nI (o2) = oI (nwst f key (j + 1)) from by simp [nwst, oI, c10_1, hO2, c18_6, c28_7, c34_8, c49_9])
                  have hl : lv_has ls 4 [(3, .int (nI ((j + 1)))), (0, .ref r), (1, .int (key)), (2, .int (oI (nwst f key (j + 1))))] := lv_re hl 0 rfl (show nI (j + 1) = nI ((j + 1)) from rfl)
                  exact ih5 (j + 1) (by omega) (by omega) _ _ hP hS _ (lv_sub hl [1, 2, 3, 0] rfl)
                · skip
                  have c49_9 := i_lt c49_9
                  refine lv_iload_n hx hb dX7_newestOf_52 rfl (lv_at hl 3 rfl) ?_
                  refine lv_istore_n (lv' := [(2, .int (nI (j))), (0, .ref r), (1, .int (key)), (3, .int (nI (j)))]) hx hb dX7_newestOf_53 rfl hl (by decide) rfl (fun ls hl => ?_)
                  refine lv_iinc (v := nI (j + 1)) (lv' := [(3, .int (nI (j + 1))), (2, .int (nI (j))), (0, .ref r), (1, .int (key))]) hx hb dX7_newestOf_54 hl (k := 3) rfl (nI_add _ 1) (by decide) rfl (fun ls hl => ?_)
                  refine lv_goto (tgt := 5) hx hb dX7_newestOf_57 (by decide) ?_
                  have hl : lv_has ls 4 [(3, .int (nI (j + 1))), (2, .int (oI (nwst f key (j + 1)))), (0, .ref r), (1, .int (key))] := lv_re hl 1 rfl (show nI (j) = oI (nwst f key (j + 1)) from by simp [nwst, oI, c10_1, hO2, c18_6, c28_7, c34_8, c49_9])
                  have hl : lv_has ls 4 [(3, .int (nI ((j + 1)))), (2, .int (oI (nwst f key (j + 1)))), (0, .ref r), (1, .int (key))] := lv_re hl 0 rfl (show nI (j + 1) = nI ((j + 1)) from rfl)
                  exact ih5 (j + 1) (by omega) (by omega) _ _ hP hS _ (lv_sub hl [2, 3, 1, 0] rfl)
  have hl : lv_has ls 4 [(3, .int (0)), (2, .int (oI (nwst f key 0))), (0, .ref r), (1, .int (key))] := lv_re hl 1 rfl (show (-9) = oI (nwst f key 0) from rfl)
  have hl : lv_has ls 4 [(3, .int (nI (0))), (2, .int (oI (nwst f key 0))), (0, .ref r), (1, .int (key))] := lv_re hl 0 rfl (show 0 = nI (0) from rfl)
  exact LP5 ((4 * B - 0) + 1) 0 (by omega) (by omega) _ _ hP hS _ (lv_sub hl [2, 3, 1, 0] rfl)
theorem dX7_valueOf_0 : decode cX7_valueOf 0 = .ok (.aload_n 0, 1) := by decide +kernel
theorem dX7_valueOf_1 : decode cX7_valueOf 1 = .ok (.iload_n 1, 1) := by decide +kernel
theorem dX7_valueOf_2 : decode cX7_valueOf 2 = .ok (.invokestatic 64, 3) := by decide +kernel
theorem dX7_valueOf_5 : decode cX7_valueOf 5 = .ok (.istore_n 2, 1) := by decide +kernel
theorem dX7_valueOf_6 : decode cX7_valueOf 6 = .ok (.iload_n 2, 1) := by decide +kernel
theorem dX7_valueOf_7 : decode cX7_valueOf 7 = .ok (.bipush (-9), 2) := by decide +kernel
theorem dX7_valueOf_9 : decode cX7_valueOf 9 = .ok (.if_icmp .ne 8, 3) := by decide +kernel
theorem dX7_valueOf_12 : decode cX7_valueOf 12 = .ok (.bipush (-9), 2) := by decide +kernel
theorem dX7_valueOf_14 : decode cX7_valueOf 14 = .ok (.goto 9, 3) := by decide +kernel
theorem dX7_valueOf_17 : decode cX7_valueOf 17 = .ok (.aload_n 0, 1) := by decide +kernel
theorem dX7_valueOf_18 : decode cX7_valueOf 18 = .ok (.iload_n 2, 1) := by decide +kernel
theorem dX7_valueOf_19 : decode cX7_valueOf 19 = .ok (.iconst 2, 1) := by decide +kernel
theorem dX7_valueOf_20 : decode cX7_valueOf 20 = .ok (.invokestatic 52, 3) := by decide +kernel
theorem dX7_valueOf_23 : decode cX7_valueOf 23 = .ok (.ireturn, 1) := by decide +kernel
theorem q7_valueOf : CQ W7 yX7_valueOf cX7_valueOf 3 (some .int) 2 := ⟨(m7 37 rfl), by decide, by decide, by decide +kernel⟩
set_option maxHeartbeats 4000000 in
set_option maxRecDepth 100000 in
theorem c7_valueOf (l : Launch) (D : va_G) (cI : ClassId) (r : Nat) (f : Nat → Int32) (key : Int32) (B : Nat) (hB : f 0 = nI B) (hB8 : B ≤ 8) : RP l yX7_valueOf cX7_valueOf 3 .int W7 3 66 D [(r, .inl (cI, 151, .inl f))] [(cI, .int)] [.ref r, .int (key)] (vlu f key B) := by
  refine rp_of RX7 (by decide) rfl (Nat.le_of_ble_eq_true rfl) ?_
  intro p e s m below meth c ls hX hr hlocks hK hP hS hl
  have hx := hX.1
  have hb := hX.2.1
  have hown := hX.2.2.2.1
  have hts := hX.2.2.2.2
  have hl : lv_has ls 3 [(0, .ref r), (1, .int (key))] := hl
  refine lv_aload_n hx hb dX7_valueOf_0 rfl (lv_at hl 0 rfl) ?_
  refine lv_iload_n hx hb dX7_valueOf_1 rfl (lv_at hl 1 rfl) ?_
  refine rp_callS hX good7 i7 (c7_newestOf l D cI r f key B hB hB8) q7_newestOf rfl (m7 32 rfl) (m7 33 rfl) ⟨Nat.le_of_ble_eq_true rfl, Nat.le_of_ble_eq_true rfl⟩ hK [0] rfl hP [0] rfl hS hl.1 rfl (Nat.le_of_ble_eq_true rfl) dX7_valueOf_2 ⟨Nat.zero_le _, Nat.zero_le _⟩ (fun H locs hP hS => ?_)
  refine lv_istore_n (lv' := [(2, .int (oI (nwst f key (4 * B)))), (0, .ref r), (1, .int (key))]) hx hb dX7_valueOf_5 rfl hl (by decide) rfl (fun ls hl => ?_)
  rcases hO1 : nwst f key (4 * B) with _ | o1
  · skip
    have hl : lv_has ls 3 [(2, .int ((-9))), (0, .ref r), (1, .int (key))] := by rw [hO1] at hl; exact hl
    refine lv_iload_n hx hb dX7_valueOf_6 rfl (lv_at hl 0 rfl) ?_
    refine lv_bipush (v := (-9)) hx hb dX7_valueOf_7 (by decide) ?_
    refine lv_icmp_ne (tgt := 17) hx hb dX7_valueOf_9 (by decide) (fun c9_2 => ?_) (fun c9_2 => ?_)
    · skip
      exact absurd c9_2 (by decide)
    · skip
      refine lv_bipush (v := (-9)) hx hb dX7_valueOf_12 (by decide) ?_
      refine lv_goto (tgt := 23) hx hb dX7_valueOf_14 (by decide) ?_
      exact rp_ret hX hr hlocks hS (by simp [vlu, hO1, c9_2]) dX7_valueOf_23
  · skip
    have hl : lv_has ls 3 [(2, .int (nI (o1))), (0, .ref r), (1, .int (key))] := by rw [hO1] at hl; exact hl
    have ho1 := nwst_lt hO1
    refine lv_iload_n hx hb dX7_valueOf_6 rfl (lv_at hl 0 rfl) ?_
    refine lv_bipush (v := (-9)) hx hb dX7_valueOf_7 (by decide) ?_
    refine lv_icmp_ne (tgt := 17) hx hb dX7_valueOf_9 (by decide) (fun c9_3 => ?_) (fun c9_3 => ?_)
    · skip
      refine lv_aload_n hx hb dX7_valueOf_17 rfl (lv_at hl 1 rfl) ?_
      refine lv_iload_n hx hb dX7_valueOf_18 rfl (lv_at hl 0 rfl) ?_
      refine lv_iconst (v := 2) hx hb dX7_valueOf_19 (by decide) ?_
      refine rp_callS hX good7 i7 (c7_pageOf l D cI r f o1 2 (by omega) (by omega)) q7_pageOf rfl (m7 23 rfl) (m7 24 rfl) ⟨Nat.le_of_ble_eq_true rfl, Nat.le_of_ble_eq_true rfl⟩ hK [0] rfl hP [0] rfl hS hl.1 rfl (Nat.le_of_ble_eq_true rfl) dX7_valueOf_20 ⟨Nat.zero_le _, Nat.zero_le _⟩ (fun H locs hP hS => ?_)
      exact rp_ret hX hr hlocks hS (by simp [vlu, hO1, c9_3]) dX7_valueOf_23
    · skip
      exact absurd c9_3 (oI_ne (by omega))
theorem dX7_keysOf_0 : decode cX7_keysOf 0 = .ok (.iconst 0, 1) := by decide +kernel
theorem dX7_keysOf_1 : decode cX7_keysOf 1 = .ok (.istore_n 1, 1) := by decide +kernel
theorem dX7_keysOf_2 : decode cX7_keysOf 2 = .ok (.iconst 0, 1) := by decide +kernel
theorem dX7_keysOf_3 : decode cX7_keysOf 3 = .ok (.istore_n 2, 1) := by decide +kernel
theorem dX7_keysOf_4 : decode cX7_keysOf 4 = .ok (.iload_n 2, 1) := by decide +kernel
theorem dX7_keysOf_5 : decode cX7_keysOf 5 = .ok (.bipush 16, 2) := by decide +kernel
theorem dX7_keysOf_7 : decode cX7_keysOf 7 = .ok (.if_icmp .ge 27, 3) := by decide +kernel
theorem dX7_keysOf_10 : decode cX7_keysOf 10 = .ok (.iload_n 1, 1) := by decide +kernel
theorem dX7_keysOf_11 : decode cX7_keysOf 11 = .ok (.aload_n 0, 1) := by decide +kernel
theorem dX7_keysOf_12 : decode cX7_keysOf 12 = .ok (.iload_n 2, 1) := by decide +kernel
theorem dX7_keysOf_13 : decode cX7_keysOf 13 = .ok (.invokestatic 68, 3) := by decide +kernel
theorem dX7_keysOf_16 : decode cX7_keysOf 16 = .ok (.bipush (-9), 2) := by decide +kernel
theorem dX7_keysOf_18 : decode cX7_keysOf 18 = .ok (.if_icmp .ne 7, 3) := by decide +kernel
theorem dX7_keysOf_21 : decode cX7_keysOf 21 = .ok (.iconst 0, 1) := by decide +kernel
theorem dX7_keysOf_22 : decode cX7_keysOf 22 = .ok (.goto 4, 3) := by decide +kernel
theorem dX7_keysOf_25 : decode cX7_keysOf 25 = .ok (.iconst 1, 1) := by decide +kernel
theorem dX7_keysOf_26 : decode cX7_keysOf 26 = .ok (.iadd, 1) := by decide +kernel
theorem dX7_keysOf_27 : decode cX7_keysOf 27 = .ok (.istore_n 1, 1) := by decide +kernel
theorem dX7_keysOf_28 : decode cX7_keysOf 28 = .ok (.iinc 2 1, 3) := by decide +kernel
theorem dX7_keysOf_31 : decode cX7_keysOf 31 = .ok (.goto (-27), 3) := by decide +kernel
theorem dX7_keysOf_34 : decode cX7_keysOf 34 = .ok (.iload_n 1, 1) := by decide +kernel
theorem dX7_keysOf_35 : decode cX7_keysOf 35 = .ok (.ireturn, 1) := by decide +kernel
theorem q7_keysOf : CQ W7 yX7_keysOf cX7_keysOf 3 (some .int) 1 := ⟨(m7 171 rfl), by decide, by decide, by decide +kernel⟩
set_option maxHeartbeats 4000000 in
set_option maxRecDepth 100000 in
theorem c7_keysOf (l : Launch) (D : va_G) (cI : ClassId) (r : Nat) (f : Nat → Int32) (B : Nat) (hB : f 0 = nI B) (hB8 : B ≤ 8) : RP l yX7_keysOf cX7_keysOf 3 .int W7 4 88 D [(r, .inl (cI, 151, .inl f))] [(cI, .int)] [.ref r] (nI (kys f B 16)) := by
  refine rp_of RX7 (by decide) rfl (Nat.le_of_ble_eq_true rfl) ?_
  intro p e s m below meth c ls hX hr hlocks hK hP hS hl
  have hx := hX.1
  have hb := hX.2.1
  have hown := hX.2.2.2.1
  have hts := hX.2.2.2.2
  have hl : lv_has ls 3 [(0, .ref r)] := hl
  refine lv_iconst (v := 0) hx hb dX7_keysOf_0 (by decide) ?_
  refine lv_istore_n (lv' := [(1, .int (0)), (0, .ref r)]) hx hb dX7_keysOf_1 rfl hl (by decide) rfl (fun ls hl => ?_)
  refine lv_iconst (v := 0) hx hb dX7_keysOf_2 (by decide) ?_
  refine lv_istore_n (lv' := [(2, .int (0)), (1, .int (0)), (0, .ref r)]) hx hb dX7_keysOf_3 rfl hl (by decide) rfl (fun ls hl => ?_)
  have LP4 : ∀ n9 : Nat, ∀ (j : Nat), (hj : j ≤ 16) → 16 - j < n9 → ∀ (H : Heap) (locs : List Loc), va_P D vwCl [(r, .inl (cI, 151, .inl f))] H → va_S (fun _ => False) s.heap H locs → ∀ ls : Array Slot, lv_has ls 3 [(0, .ref r), (1, .int (nI (kys f B j))), (2, .int (nI (j)))] → W p l e ({ frames := 4, cells := 0, slots := 0, locals := 88 } : Room) s m ([.ref r] : List Value).toArray below meth c H locs 0 0 (MQ below (rp_Qi (nI (kys f B 16))) ([.ref r] : List Value).toArray s 0 0 (fun _ => False)) (F0 m 4 ls []) := by
    intro n9
    induction n9 with
    | zero => intros; omega
    | succ n9 ih4 =>
      intro j hj hm9 H locs hP hS ls hl
      refine lv_iload_n hx hb dX7_keysOf_4 rfl (lv_at hl 2 rfl) ?_
      refine lv_bipush (v := 16) hx hb dX7_keysOf_5 (by decide) ?_
      refine lv_icmp_ge (tgt := 34) hx hb dX7_keysOf_7 (by decide) (fun c7_1 => ?_) (fun c7_1 => ?_)
      · skip
        have c7_1 := cn_le (a := 16) (b := j) (by omega) (by omega) c7_1
        refine lv_iload_n hx hb dX7_keysOf_34 rfl (lv_at hl 1 rfl) ?_
        exact rp_ret hX hr hlocks hS (by rw [show j = 16 by omega]) dX7_keysOf_35
      · skip
        have c7_1 := cn_nle (a := 16) (b := j) (by omega) (by omega) c7_1
        refine lv_iload_n hx hb dX7_keysOf_10 rfl (lv_at hl 1 rfl) ?_
        refine lv_aload_n hx hb dX7_keysOf_11 rfl (lv_at hl 0 rfl) ?_
        refine lv_iload_n hx hb dX7_keysOf_12 rfl (lv_at hl 2 rfl) ?_
        refine rp_callS hX good7 i7 (c7_valueOf l D cI r f (nI (j)) B hB hB8) q7_valueOf rfl (m7 35 rfl) (m7 36 rfl) ⟨Nat.le_of_ble_eq_true rfl, Nat.le_of_ble_eq_true rfl⟩ hK [0] rfl hP [0] rfl hS hl.1 rfl (Nat.le_of_ble_eq_true rfl) dX7_keysOf_13 ⟨Nat.zero_le _, Nat.zero_le _⟩ (fun H locs hP hS => ?_)
        refine lv_bipush (v := (-9)) hx hb dX7_keysOf_16 (by decide) ?_
        refine lv_icmp_ne (tgt := 25) hx hb dX7_keysOf_18 (by decide) (fun c18_2 => ?_) (fun c18_2 => ?_)
        · skip
          refine lv_iconst (v := 1) hx hb dX7_keysOf_25 (by decide) ?_
          refine lv_iadd hx hb dX7_keysOf_26 ?_
          refine lv_as (y := nI (kys f B j + 1)) (nI_add (kys f B j) (1)) ?_
          refine lv_istore_n (lv' := [(1, .int (nI (kys f B j + 1))), (0, .ref r), (2, .int (nI (j)))]) hx hb dX7_keysOf_27 rfl hl (by decide) rfl (fun ls hl => ?_)
          refine lv_iinc (v := nI (j + 1)) (lv' := [(2, .int (nI (j + 1))), (1, .int (nI (kys f B j + 1))), (0, .ref r)]) hx hb dX7_keysOf_28 hl (k := 2) rfl (nI_add _ 1) (by decide) rfl (fun ls hl => ?_)
          refine lv_goto (tgt := 4) hx hb dX7_keysOf_31 (by decide) ?_
          have hl : lv_has ls 3 [(2, .int (nI (j + 1))), (1, .int (nI (kys f B (j + 1)))), (0, .ref r)] := lv_re hl 1 rfl (show nI (kys f B j + 1) = nI (kys f B (j + 1)) from by simp [kys, oI, c7_1, c18_2])
          have hl : lv_has ls 3 [(2, .int (nI ((j + 1)))), (1, .int (nI (kys f B (j + 1)))), (0, .ref r)] := lv_re hl 0 rfl (show nI (j + 1) = nI ((j + 1)) from rfl)
          exact ih4 (j + 1) (by omega) (by omega) _ _ hP hS _ (lv_sub hl [2, 1, 0] rfl)
        · skip
          refine lv_iconst (v := 0) hx hb dX7_keysOf_21 (by decide) ?_
          refine lv_goto (tgt := 26) hx hb dX7_keysOf_22 (by decide) ?_
          refine lv_iadd hx hb dX7_keysOf_26 ?_
          refine lv_as (y := nI (kys f B j + 0)) (nI_add (kys f B j) (0)) ?_
          refine lv_istore_n (lv' := [(1, .int (nI (kys f B j + 0))), (0, .ref r), (2, .int (nI (j)))]) hx hb dX7_keysOf_27 rfl hl (by decide) rfl (fun ls hl => ?_)
          refine lv_iinc (v := nI (j + 1)) (lv' := [(2, .int (nI (j + 1))), (1, .int (nI (kys f B j + 0))), (0, .ref r)]) hx hb dX7_keysOf_28 hl (k := 2) rfl (nI_add _ 1) (by decide) rfl (fun ls hl => ?_)
          refine lv_goto (tgt := 4) hx hb dX7_keysOf_31 (by decide) ?_
          have hl : lv_has ls 3 [(2, .int (nI (j + 1))), (1, .int (nI (kys f B (j + 1)))), (0, .ref r)] := lv_re hl 1 rfl (show nI (kys f B j + 0) = nI (kys f B (j + 1)) from by simp [kys, oI, c7_1, c18_2])
          have hl : lv_has ls 3 [(2, .int (nI ((j + 1)))), (1, .int (nI (kys f B (j + 1)))), (0, .ref r)] := lv_re hl 0 rfl (show nI (j + 1) = nI ((j + 1)) from rfl)
          exact ih4 (j + 1) (by omega) (by omega) _ _ hP hS _ (lv_sub hl [2, 1, 0] rfl)
  have hl : lv_has ls 3 [(2, .int (0)), (1, .int (nI (kys f B 0))), (0, .ref r)] := lv_re hl 1 rfl (show 0 = nI (kys f B 0) from rfl)
  have hl : lv_has ls 3 [(2, .int (nI (0))), (1, .int (nI (kys f B 0))), (0, .ref r)] := lv_re hl 0 rfl (show 0 = nI (0) from rfl)
  exact LP4 ((16 - 0) + 1) 0 (by omega) (by omega) _ _ hP hS _ (lv_sub hl [2, 1, 0] rfl)
theorem dX7_isLive_0 : decode cX7_isLive 0 = .ok (.aload_n 0, 1) := by decide +kernel
theorem dX7_isLive_1 : decode cX7_isLive 1 = .ok (.iload_n 1, 1) := by decide +kernel
theorem dX7_isLive_2 : decode cX7_isLive 2 = .ok (.invokestatic 60, 3) := by decide +kernel
theorem dX7_isLive_5 : decode cX7_isLive 5 = .ok (.ifCond .ne 5, 3) := by decide +kernel
theorem dX7_isLive_8 : decode cX7_isLive 8 = .ok (.iconst 0, 1) := by decide +kernel
theorem dX7_isLive_9 : decode cX7_isLive 9 = .ok (.ireturn, 1) := by decide +kernel
theorem dX7_isLive_10 : decode cX7_isLive 10 = .ok (.aload_n 0, 1) := by decide +kernel
theorem dX7_isLive_11 : decode cX7_isLive 11 = .ok (.iload_n 1, 1) := by decide +kernel
theorem dX7_isLive_12 : decode cX7_isLive 12 = .ok (.iconst 1, 1) := by decide +kernel
theorem dX7_isLive_13 : decode cX7_isLive 13 = .ok (.invokestatic 52, 3) := by decide +kernel
theorem dX7_isLive_16 : decode cX7_isLive 16 = .ok (.istore_n 2, 1) := by decide +kernel
theorem dX7_isLive_17 : decode cX7_isLive 17 = .ok (.aload_n 0, 1) := by decide +kernel
theorem dX7_isLive_18 : decode cX7_isLive 18 = .ok (.iload_n 2, 1) := by decide +kernel
theorem dX7_isLive_19 : decode cX7_isLive 19 = .ok (.invokestatic 64, 3) := by decide +kernel
theorem dX7_isLive_22 : decode cX7_isLive 22 = .ok (.iload_n 1, 1) := by decide +kernel
theorem dX7_isLive_23 : decode cX7_isLive 23 = .ok (.if_icmp .eq 5, 3) := by decide +kernel
theorem dX7_isLive_26 : decode cX7_isLive 26 = .ok (.iconst 0, 1) := by decide +kernel
theorem dX7_isLive_27 : decode cX7_isLive 27 = .ok (.ireturn, 1) := by decide +kernel
theorem dX7_isLive_28 : decode cX7_isLive 28 = .ok (.iconst 0, 1) := by decide +kernel
theorem dX7_isLive_29 : decode cX7_isLive 29 = .ok (.istore_n 3, 1) := by decide +kernel
theorem dX7_isLive_30 : decode cX7_isLive 30 = .ok (.iconst 0, 1) := by decide +kernel
theorem dX7_isLive_31 : decode cX7_isLive 31 = .ok (.istore 4, 2) := by decide +kernel
theorem dX7_isLive_33 : decode cX7_isLive 33 = .ok (.iload 4, 2) := by decide +kernel
theorem dX7_isLive_35 : decode cX7_isLive 35 = .ok (.aload_n 0, 1) := by decide +kernel
theorem dX7_isLive_36 : decode cX7_isLive 36 = .ok (.invokestatic 56, 3) := by decide +kernel
theorem dX7_isLive_39 : decode cX7_isLive 39 = .ok (.if_icmp .ge 37, 3) := by decide +kernel
theorem dX7_isLive_42 : decode cX7_isLive 42 = .ok (.iload_n 3, 1) := by decide +kernel
theorem dX7_isLive_43 : decode cX7_isLive 43 = .ok (.aload_n 0, 1) := by decide +kernel
theorem dX7_isLive_44 : decode cX7_isLive 44 = .ok (.iload 4, 2) := by decide +kernel
theorem dX7_isLive_46 : decode cX7_isLive 46 = .ok (.invokestatic 60, 3) := by decide +kernel
theorem dX7_isLive_49 : decode cX7_isLive 49 = .ok (.ifCond .eq 18, 3) := by decide +kernel
theorem dX7_isLive_52 : decode cX7_isLive 52 = .ok (.aload_n 0, 1) := by decide +kernel
theorem dX7_isLive_53 : decode cX7_isLive 53 = .ok (.iload 4, 2) := by decide +kernel
theorem dX7_isLive_55 : decode cX7_isLive 55 = .ok (.iconst 1, 1) := by decide +kernel
theorem dX7_isLive_56 : decode cX7_isLive 56 = .ok (.invokestatic 52, 3) := by decide +kernel
theorem dX7_isLive_59 : decode cX7_isLive 59 = .ok (.iload_n 2, 1) := by decide +kernel
theorem dX7_isLive_60 : decode cX7_isLive 60 = .ok (.if_icmp .ne 7, 3) := by decide +kernel
theorem dX7_isLive_63 : decode cX7_isLive 63 = .ok (.iconst 1, 1) := by decide +kernel
theorem dX7_isLive_64 : decode cX7_isLive 64 = .ok (.goto 4, 3) := by decide +kernel
theorem dX7_isLive_67 : decode cX7_isLive 67 = .ok (.iconst 0, 1) := by decide +kernel
theorem dX7_isLive_68 : decode cX7_isLive 68 = .ok (.iadd, 1) := by decide +kernel
theorem dX7_isLive_69 : decode cX7_isLive 69 = .ok (.istore_n 3, 1) := by decide +kernel
theorem dX7_isLive_70 : decode cX7_isLive 70 = .ok (.iinc 4 1, 3) := by decide +kernel
theorem dX7_isLive_73 : decode cX7_isLive 73 = .ok (.goto (-40), 3) := by decide +kernel
theorem dX7_isLive_76 : decode cX7_isLive 76 = .ok (.aload_n 0, 1) := by decide +kernel
theorem dX7_isLive_77 : decode cX7_isLive 77 = .ok (.iload_n 1, 1) := by decide +kernel
theorem dX7_isLive_78 : decode cX7_isLive 78 = .ok (.iconst 2, 1) := by decide +kernel
theorem dX7_isLive_79 : decode cX7_isLive 79 = .ok (.invokestatic 52, 3) := by decide +kernel
theorem dX7_isLive_82 : decode cX7_isLive 82 = .ok (.bipush (-9), 2) := by decide +kernel
theorem dX7_isLive_84 : decode cX7_isLive 84 = .ok (.if_icmp .ne 8, 3) := by decide +kernel
theorem dX7_isLive_87 : decode cX7_isLive 87 = .ok (.iload_n 3, 1) := by decide +kernel
theorem dX7_isLive_88 : decode cX7_isLive 88 = .ok (.iconst 1, 1) := by decide +kernel
theorem dX7_isLive_89 : decode cX7_isLive 89 = .ok (.if_icmp .le 7, 3) := by decide +kernel
theorem dX7_isLive_92 : decode cX7_isLive 92 = .ok (.iconst 1, 1) := by decide +kernel
theorem dX7_isLive_93 : decode cX7_isLive 93 = .ok (.goto 4, 3) := by decide +kernel
theorem dX7_isLive_96 : decode cX7_isLive 96 = .ok (.iconst 0, 1) := by decide +kernel
theorem dX7_isLive_97 : decode cX7_isLive 97 = .ok (.ireturn, 1) := by decide +kernel
theorem q7_isLive : CQ W7 yX7_isLive cX7_isLive 5 (some .boolean) 2 := ⟨(m7 40 rfl), by decide, by decide, by decide +kernel⟩
set_option maxHeartbeats 4000000 in
set_option maxRecDepth 100000 in
theorem c7_isLive (l : Launch) (D : va_G) (cI : ClassId) (r : Nat) (f : Nat → Int32) (a : Nat) (ha : a < 32) (B : Nat) (hB : f 0 = nI B) (hB8 : B ≤ 8) : RP l yX7_isLive cX7_isLive 5 .boolean W7 3 66 D [(r, .inl (cI, 151, .inl f))] [(cI, .int)] [.ref r, .int (nI (a))] (bI (livP f B a)) := by
  refine rp_of RX7 (by decide) rfl (Nat.le_of_ble_eq_true rfl) ?_
  intro p e s m below meth c ls hX hr hlocks hK hP hS hl
  have hx := hX.1
  have hb := hX.2.1
  have hown := hX.2.2.2.1
  have hts := hX.2.2.2.2
  have hl : lv_has ls 5 [(0, .ref r), (1, .int (nI (a)))] := hl
  refine lv_aload_n hx hb dX7_isLive_0 rfl (lv_at hl 0 rfl) ?_
  refine lv_iload_n hx hb dX7_isLive_1 rfl (lv_at hl 1 rfl) ?_
  refine rp_callS hX good7 i7 (c7_isWritten l D cI r f a (by omega)) q7_isWritten rfl (m7 29 rfl) (m7 30 rfl) ⟨Nat.le_of_ble_eq_true rfl, Nat.le_of_ble_eq_true rfl⟩ hK [0] rfl hP [0] rfl hS hl.1 rfl (Nat.le_of_ble_eq_true rfl) dX7_isLive_2 ⟨Nat.zero_le _, Nat.zero_le _⟩ (fun H locs hP hS => ?_)
  refine lv_if_ne (tgt := 10) hx hb dX7_isLive_5 (by decide) (fun c5_1 => ?_) (fun c5_1 => ?_)
  · skip
    have c5_1 := bI_t c5_1
    refine lv_aload_n hx hb dX7_isLive_10 rfl (lv_at hl 0 rfl) ?_
    refine lv_iload_n hx hb dX7_isLive_11 rfl (lv_at hl 1 rfl) ?_
    refine lv_iconst (v := 1) hx hb dX7_isLive_12 (by decide) ?_
    refine rp_callS hX good7 i7 (c7_pageOf l D cI r f a 1 (by omega) (by omega)) q7_pageOf rfl (m7 23 rfl) (m7 24 rfl) ⟨Nat.le_of_ble_eq_true rfl, Nat.le_of_ble_eq_true rfl⟩ hK [0] rfl hP [0] rfl hS hl.1 rfl (Nat.le_of_ble_eq_true rfl) dX7_isLive_13 ⟨Nat.zero_le _, Nat.zero_le _⟩ (fun H locs hP hS => ?_)
    refine lv_istore_n (lv' := [(2, .int (pg f a 1)), (0, .ref r), (1, .int (nI (a)))]) hx hb dX7_isLive_16 rfl hl (by decide) rfl (fun ls hl => ?_)
    refine lv_aload_n hx hb dX7_isLive_17 rfl (lv_at hl 1 rfl) ?_
    refine lv_iload_n hx hb dX7_isLive_18 rfl (lv_at hl 0 rfl) ?_
    refine rp_callS hX good7 i7 (c7_newestOf l D cI r f (pg f a 1) B hB hB8) q7_newestOf rfl (m7 32 rfl) (m7 33 rfl) ⟨Nat.le_of_ble_eq_true rfl, Nat.le_of_ble_eq_true rfl⟩ hK [0] rfl hP [0] rfl hS hl.1 rfl (Nat.le_of_ble_eq_true rfl) dX7_isLive_19 ⟨Nat.zero_le _, Nat.zero_le _⟩ (fun H locs hP hS => ?_)
    refine lv_iload_n hx hb dX7_isLive_22 rfl (lv_at hl 2 rfl) ?_
    refine lv_icmp_eq (tgt := 28) hx hb dX7_isLive_23 (by decide) (fun c23_2 => ?_) (fun c23_2 => ?_)
    · skip
      have c23_2 := oI_eqN (fun x hx => by have := nwst_lt hx; omega) (by omega) c23_2
      refine lv_iconst (v := 0) hx hb dX7_isLive_28 (by decide) ?_
      refine lv_istore_n (lv' := [(3, .int (0)), (2, .int (pg f a 1)), (0, .ref r), (1, .int (nI (a)))]) hx hb dX7_isLive_29 rfl hl (by decide) rfl (fun ls hl => ?_)
      refine lv_iconst (v := 0) hx hb dX7_isLive_30 (by decide) ?_
      refine lv_istore (lv' := [(4, .int (0)), (3, .int (0)), (2, .int (pg f a 1)), (0, .ref r), (1, .int (nI (a)))]) hx hb dX7_isLive_31 hl (by decide) rfl (fun ls hl => ?_)
      have LP33 : ∀ n9 : Nat, ∀ (j : Nat), (hj : j ≤ 4 * B) → 4 * B - j < n9 → ∀ (H : Heap) (locs : List Loc), va_P D vwCl [(r, .inl (cI, 151, .inl f))] H → va_S (fun _ => False) s.heap H locs → ∀ ls : Array Slot, lv_has ls 5 [(0, .ref r), (1, .int (nI (a))), (2, .int (pg f a 1)), (3, .int (nI (cnt f (pg f a 1) j))), (4, .int (nI (j)))] → W p l e ({ frames := 3, cells := 0, slots := 0, locals := 66 } : Room) s m ([.ref r, .int (nI (a))] : List Value).toArray below meth c H locs 0 0 (MQ below (rp_Qi (bI (livP f B a))) ([.ref r, .int (nI (a))] : List Value).toArray s 0 0 (fun _ => False)) (F0 m 33 ls []) := by
        intro n9
        induction n9 with
        | zero => intros; omega
        | succ n9 ih33 =>
          intro j hj hm9 H locs hP hS ls hl
          refine lv_iload hx hb dX7_isLive_33 (lv_at hl 4 rfl) ?_
          refine lv_aload_n hx hb dX7_isLive_35 rfl (lv_at hl 0 rfl) ?_
          refine rp_callS hX good7 i7 (c7_pages l D cI r f B hB) q7_pages rfl (m7 26 rfl) (m7 27 rfl) ⟨Nat.le_of_ble_eq_true rfl, Nat.le_of_ble_eq_true rfl⟩ hK [0] rfl hP [0] rfl hS hl.1 rfl (Nat.le_of_ble_eq_true rfl) dX7_isLive_36 ⟨Nat.zero_le _, Nat.zero_le _⟩ (fun H locs hP hS => ?_)
          refine lv_icmp_ge (tgt := 76) hx hb dX7_isLive_39 (by decide) (fun c39_3 => ?_) (fun c39_3 => ?_)
          · skip
            have c39_3 := cn_le (a := 4 * B) (b := j) (by omega) (by omega) c39_3
            have e9 : j = 4 * B := by omega
            have hc9 := cnt_le (f := f) (key := pg f a 1) j
            refine lv_aload_n hx hb dX7_isLive_76 rfl (lv_at hl 0 rfl) ?_
            refine lv_iload_n hx hb dX7_isLive_77 rfl (lv_at hl 1 rfl) ?_
            refine lv_iconst (v := 2) hx hb dX7_isLive_78 (by decide) ?_
            refine rp_callS hX good7 i7 (c7_pageOf l D cI r f a 2 (by omega) (by omega)) q7_pageOf rfl (m7 23 rfl) (m7 24 rfl) ⟨Nat.le_of_ble_eq_true rfl, Nat.le_of_ble_eq_true rfl⟩ hK [0] rfl hP [0] rfl hS hl.1 rfl (Nat.le_of_ble_eq_true rfl) dX7_isLive_79 ⟨Nat.zero_le _, Nat.zero_le _⟩ (fun H locs hP hS => ?_)
            refine lv_bipush (v := (-9)) hx hb dX7_isLive_82 (by decide) ?_
            refine lv_icmp_ne (tgt := 92) hx hb dX7_isLive_84 (by decide) (fun c84_4 => ?_) (fun c84_4 => ?_)
            · skip
              refine lv_iconst (v := 1) hx hb dX7_isLive_92 (by decide) ?_
              refine lv_goto (tgt := 97) hx hb dX7_isLive_93 (by decide) ?_
              exact rp_retz hX hr hlocks hS ((bI_1 ⟨c5_1, c23_2, Or.inl c84_4⟩).symm) dX7_isLive_97
            · skip
              refine lv_iload_n hx hb dX7_isLive_87 rfl (lv_at hl 3 rfl) ?_
              refine lv_iconst (v := 1) hx hb dX7_isLive_88 (by decide) ?_
              refine lv_icmp_le (tgt := 96) hx hb dX7_isLive_89 (by decide) (fun c89_5 => ?_) (fun c89_5 => ?_)
              · skip
                have c89_5 := cn_le (a := cnt f (pg f a 1) j) (b := 1) (by omega) (by omega) c89_5
                refine lv_iconst (v := 0) hx hb dX7_isLive_96 (by decide) ?_
                exact rp_retz hX hr hlocks hS ((bI_0 (fun z => z.2.2.elim (fun y => y c84_4) (fun y => by rw [← e9] at y; omega))).symm) dX7_isLive_97
              · skip
                have c89_5 := cn_nle (a := cnt f (pg f a 1) j) (b := 1) (by omega) (by omega) c89_5
                refine lv_iconst (v := 1) hx hb dX7_isLive_92 (by decide) ?_
                refine lv_goto (tgt := 97) hx hb dX7_isLive_93 (by decide) ?_
                exact rp_retz hX hr hlocks hS ((bI_1 ⟨c5_1, c23_2, Or.inr (e9 ▸ c89_5)⟩).symm) dX7_isLive_97
          · skip
            have c39_3 := cn_nle (a := 4 * B) (b := j) (by omega) (by omega) c39_3
            refine lv_iload_n hx hb dX7_isLive_42 rfl (lv_at hl 3 rfl) ?_
            refine lv_aload_n hx hb dX7_isLive_43 rfl (lv_at hl 0 rfl) ?_
            refine lv_iload hx hb dX7_isLive_44 (lv_at hl 4 rfl) ?_
            refine rp_callS hX good7 i7 (c7_isWritten l D cI r f j (by omega)) q7_isWritten rfl (m7 29 rfl) (m7 30 rfl) ⟨Nat.le_of_ble_eq_true rfl, Nat.le_of_ble_eq_true rfl⟩ hK [0] rfl hP [0] rfl hS hl.1 rfl (Nat.le_of_ble_eq_true rfl) dX7_isLive_46 ⟨Nat.zero_le _, Nat.zero_le _⟩ (fun H locs hP hS => ?_)
            refine lv_if_eq (tgt := 67) hx hb dX7_isLive_49 (by decide) (fun c49_6 => ?_) (fun c49_6 => ?_)
            · skip
              have c49_6 := bI_f c49_6
              refine lv_iconst (v := 0) hx hb dX7_isLive_67 (by decide) ?_
              refine lv_iadd hx hb dX7_isLive_68 ?_
              refine lv_as (y := nI (cnt f (pg f a 1) j + 0)) (nI_add (cnt f (pg f a 1) j) (0)) ?_
              refine lv_istore_n (lv' := [(3, .int (nI (cnt f (pg f a 1) j + 0))), (0, .ref r), (1, .int (nI (a))), (2, .int (pg f a 1)), (4, .int (nI (j)))]) hx hb dX7_isLive_69 rfl hl (by decide) rfl (fun ls hl => ?_)
              refine lv_iinc (v := nI (j + 1)) (lv' := [(4, .int (nI (j + 1))), (3, .int (nI (cnt f (pg f a 1) j + 0))), (0, .ref r), (1, .int (nI (a))), (2, .int (pg f a 1))]) hx hb dX7_isLive_70 hl (k := 4) rfl (nI_add _ 1) (by decide) rfl (fun ls hl => ?_)
              refine lv_goto (tgt := 33) hx hb dX7_isLive_73 (by decide) ?_
              have hl : lv_has ls 5 [(4, .int (nI (j + 1))), (3, .int (nI (cnt f (pg f a 1) (j + 1)))), (0, .ref r), (1, .int (nI (a))), (2, .int (pg f a 1))] := lv_re hl 1 rfl (show nI (cnt f (pg f a 1) j + 0) = nI (cnt f (pg f a 1) (j + 1)) from by simp [cnt, oI, c5_1, c23_2, c39_3, c49_6])
              have hl : lv_has ls 5 [(4, .int (nI ((j + 1)))), (3, .int (nI (cnt f (pg f a 1) (j + 1)))), (0, .ref r), (1, .int (nI (a))), (2, .int (pg f a 1))] := lv_re hl 0 rfl (show nI (j + 1) = nI ((j + 1)) from rfl)
              exact ih33 (j + 1) (by omega) (by omega) _ _ hP hS _ (lv_sub hl [2, 3, 4, 1, 0] rfl)
            · skip
              have c49_6 := bI_t c49_6
              refine lv_aload_n hx hb dX7_isLive_52 rfl (lv_at hl 0 rfl) ?_
              refine lv_iload hx hb dX7_isLive_53 (lv_at hl 4 rfl) ?_
              refine lv_iconst (v := 1) hx hb dX7_isLive_55 (by decide) ?_
              refine rp_callS hX good7 i7 (c7_pageOf l D cI r f j 1 (by omega) (by omega)) q7_pageOf rfl (m7 23 rfl) (m7 24 rfl) ⟨Nat.le_of_ble_eq_true rfl, Nat.le_of_ble_eq_true rfl⟩ hK [0] rfl hP [0] rfl hS hl.1 rfl (Nat.le_of_ble_eq_true rfl) dX7_isLive_56 ⟨Nat.zero_le _, Nat.zero_le _⟩ (fun H locs hP hS => ?_)
              refine lv_iload_n hx hb dX7_isLive_59 rfl (lv_at hl 2 rfl) ?_
              refine lv_icmp_ne (tgt := 67) hx hb dX7_isLive_60 (by decide) (fun c60_7 => ?_) (fun c60_7 => ?_)
              · skip
                refine lv_iconst (v := 0) hx hb dX7_isLive_67 (by decide) ?_
                refine lv_iadd hx hb dX7_isLive_68 ?_
                refine lv_as (y := nI (cnt f (pg f a 1) j + 0)) (nI_add (cnt f (pg f a 1) j) (0)) ?_
                refine lv_istore_n (lv' := [(3, .int (nI (cnt f (pg f a 1) j + 0))), (0, .ref r), (1, .int (nI (a))), (2, .int (pg f a 1)), (4, .int (nI (j)))]) hx hb dX7_isLive_69 rfl hl (by decide) rfl (fun ls hl => ?_)
                refine lv_iinc (v := nI (j + 1)) (lv' := [(4, .int (nI (j + 1))), (3, .int (nI (cnt f (pg f a 1) j + 0))), (0, .ref r), (1, .int (nI (a))), (2, .int (pg f a 1))]) hx hb dX7_isLive_70 hl (k := 4) rfl (nI_add _ 1) (by decide) rfl (fun ls hl => ?_)
                refine lv_goto (tgt := 33) hx hb dX7_isLive_73 (by decide) ?_
                have hl : lv_has ls 5 [(4, .int (nI (j + 1))), (3, .int (nI (cnt f (pg f a 1) (j + 1)))), (0, .ref r), (1, .int (nI (a))), (2, .int (pg f a 1))] := lv_re hl 1 rfl (show nI (cnt f (pg f a 1) j + 0) = nI (cnt f (pg f a 1) (j + 1)) from by simp [cnt, oI, c5_1, c23_2, c39_3, c49_6, c60_7])
                have hl : lv_has ls 5 [(4, .int (nI ((j + 1)))), (3, .int (nI (cnt f (pg f a 1) (j + 1)))), (0, .ref r), (1, .int (nI (a))), (2, .int (pg f a 1))] := lv_re hl 0 rfl (show nI (j + 1) = nI ((j + 1)) from rfl)
                exact ih33 (j + 1) (by omega) (by omega) _ _ hP hS _ (lv_sub hl [2, 3, 4, 1, 0] rfl)
              · skip
                refine lv_iconst (v := 1) hx hb dX7_isLive_63 (by decide) ?_
                refine lv_goto (tgt := 68) hx hb dX7_isLive_64 (by decide) ?_
                refine lv_iadd hx hb dX7_isLive_68 ?_
                refine lv_as (y := nI (cnt f (pg f a 1) j + 1)) (nI_add (cnt f (pg f a 1) j) (1)) ?_
                refine lv_istore_n (lv' := [(3, .int (nI (cnt f (pg f a 1) j + 1))), (0, .ref r), (1, .int (nI (a))), (2, .int (pg f a 1)), (4, .int (nI (j)))]) hx hb dX7_isLive_69 rfl hl (by decide) rfl (fun ls hl => ?_)
                refine lv_iinc (v := nI (j + 1)) (lv' := [(4, .int (nI (j + 1))), (3, .int (nI (cnt f (pg f a 1) j + 1))), (0, .ref r), (1, .int (nI (a))), (2, .int (pg f a 1))]) hx hb dX7_isLive_70 hl (k := 4) rfl (nI_add _ 1) (by decide) rfl (fun ls hl => ?_)
                refine lv_goto (tgt := 33) hx hb dX7_isLive_73 (by decide) ?_
                have hl : lv_has ls 5 [(4, .int (nI (j + 1))), (3, .int (nI (cnt f (pg f a 1) (j + 1)))), (0, .ref r), (1, .int (nI (a))), (2, .int (pg f a 1))] := lv_re hl 1 rfl (show nI (cnt f (pg f a 1) j + 1) = nI (cnt f (pg f a 1) (j + 1)) from by simp [cnt, oI, c5_1, c23_2, c39_3, c49_6, c60_7])
                have hl : lv_has ls 5 [(4, .int (nI ((j + 1)))), (3, .int (nI (cnt f (pg f a 1) (j + 1)))), (0, .ref r), (1, .int (nI (a))), (2, .int (pg f a 1))] := lv_re hl 0 rfl (show nI (j + 1) = nI ((j + 1)) from rfl)
                exact ih33 (j + 1) (by omega) (by omega) _ _ hP hS _ (lv_sub hl [2, 3, 4, 1, 0] rfl)
      have hl : lv_has ls 5 [(4, .int (0)), (3, .int (nI (cnt f (pg f a 1) 0))), (2, .int (pg f a 1)), (0, .ref r), (1, .int (nI (a)))] := lv_re hl 1 rfl (show 0 = nI (cnt f (pg f a 1) 0) from rfl)
      have hl : lv_has ls 5 [(4, .int (nI (0))), (3, .int (nI (cnt f (pg f a 1) 0))), (2, .int (pg f a 1)), (0, .ref r), (1, .int (nI (a)))] := lv_re hl 0 rfl (show 0 = nI (0) from rfl)
      exact LP33 ((4 * B - 0) + 1) 0 (by omega) (by omega) _ _ hP hS _ (lv_sub hl [3, 4, 2, 1, 0] rfl)
    · skip
      have c23_2 := oI_neN c23_2
      refine lv_iconst (v := 0) hx hb dX7_isLive_26 (by decide) ?_
      exact rp_retz hX hr hlocks hS ((bI_0 (fun z => c23_2 z.2.1)).symm) dX7_isLive_27
  · skip
    have c5_1 := bI_f c5_1
    refine lv_iconst (v := 0) hx hb dX7_isLive_8 (by decide) ?_
    exact rp_retz hX hr hlocks hS ((bI_0 (fun z => c5_1 z.1)).symm) dX7_isLive_9
theorem dX7_countOf_0 : decode cX7_countOf 0 = .ok (.iconst 0, 1) := by decide +kernel
theorem dX7_countOf_1 : decode cX7_countOf 1 = .ok (.istore_n 3, 1) := by decide +kernel
theorem dX7_countOf_2 : decode cX7_countOf 2 = .ok (.iconst 0, 1) := by decide +kernel
theorem dX7_countOf_3 : decode cX7_countOf 3 = .ok (.istore 4, 2) := by decide +kernel
theorem dX7_countOf_5 : decode cX7_countOf 5 = .ok (.iload 4, 2) := by decide +kernel
theorem dX7_countOf_7 : decode cX7_countOf 7 = .ok (.iconst 4, 1) := by decide +kernel
theorem dX7_countOf_8 : decode cX7_countOf 8 = .ok (.if_icmp .ge 32, 3) := by decide +kernel
theorem dX7_countOf_11 : decode cX7_countOf 11 = .ok (.iload_n 3, 1) := by decide +kernel
theorem dX7_countOf_12 : decode cX7_countOf 12 = .ok (.aload_n 0, 1) := by decide +kernel
theorem dX7_countOf_13 : decode cX7_countOf 13 = .ok (.iconst 4, 1) := by decide +kernel
theorem dX7_countOf_14 : decode cX7_countOf 14 = .ok (.iload_n 1, 1) := by decide +kernel
theorem dX7_countOf_15 : decode cX7_countOf 15 = .ok (.imul, 1) := by decide +kernel
theorem dX7_countOf_16 : decode cX7_countOf 16 = .ok (.iload 4, 2) := by decide +kernel
theorem dX7_countOf_18 : decode cX7_countOf 18 = .ok (.iadd, 1) := by decide +kernel
theorem dX7_countOf_19 : decode cX7_countOf 19 = .ok (.iconst 0, 1) := by decide +kernel
theorem dX7_countOf_20 : decode cX7_countOf 20 = .ok (.invokestatic 52, 3) := by decide +kernel
theorem dX7_countOf_23 : decode cX7_countOf 23 = .ok (.iload_n 2, 1) := by decide +kernel
theorem dX7_countOf_24 : decode cX7_countOf 24 = .ok (.if_icmp .ne 7, 3) := by decide +kernel
theorem dX7_countOf_27 : decode cX7_countOf 27 = .ok (.iconst 1, 1) := by decide +kernel
theorem dX7_countOf_28 : decode cX7_countOf 28 = .ok (.goto 4, 3) := by decide +kernel
theorem dX7_countOf_31 : decode cX7_countOf 31 = .ok (.iconst 0, 1) := by decide +kernel
theorem dX7_countOf_32 : decode cX7_countOf 32 = .ok (.iadd, 1) := by decide +kernel
theorem dX7_countOf_33 : decode cX7_countOf 33 = .ok (.istore_n 3, 1) := by decide +kernel
theorem dX7_countOf_34 : decode cX7_countOf 34 = .ok (.iinc 4 1, 3) := by decide +kernel
theorem dX7_countOf_37 : decode cX7_countOf 37 = .ok (.goto (-32), 3) := by decide +kernel
theorem dX7_countOf_40 : decode cX7_countOf 40 = .ok (.iload_n 3, 1) := by decide +kernel
theorem dX7_countOf_41 : decode cX7_countOf 41 = .ok (.ireturn, 1) := by decide +kernel
theorem q7_countOf : CQ W7 yX7_countOf cX7_countOf 5 (some .int) 3 := ⟨(m7 43 rfl), by decide, by decide, by decide +kernel⟩
set_option maxHeartbeats 4000000 in
set_option maxRecDepth 100000 in
theorem c7_countOf (l : Launch) (D : va_G) (cI : ClassId) (r : Nat) (f : Nat → Int32) (b : Nat) (hb8 : b < 8) (st : Int32) : RP l yX7_countOf cX7_countOf 5 .int W7 1 22 D [(r, .inl (cI, 151, .inl f))] [(cI, .int)] [.ref r, .int (nI (b)), .int (st)] (nI (cst f b st 4)) := by
  refine rp_of RX7 (by decide) rfl (Nat.le_of_ble_eq_true rfl) ?_
  intro p e s m below meth c ls hX hr hlocks hK hP hS hl
  have hx := hX.1
  have hb := hX.2.1
  have hown := hX.2.2.2.1
  have hts := hX.2.2.2.2
  have hl : lv_has ls 5 [(0, .ref r), (1, .int (nI (b))), (2, .int (st))] := hl
  refine lv_iconst (v := 0) hx hb dX7_countOf_0 (by decide) ?_
  refine lv_istore_n (lv' := [(3, .int (0)), (0, .ref r), (1, .int (nI (b))), (2, .int (st))]) hx hb dX7_countOf_1 rfl hl (by decide) rfl (fun ls hl => ?_)
  refine lv_iconst (v := 0) hx hb dX7_countOf_2 (by decide) ?_
  refine lv_istore (lv' := [(4, .int (0)), (3, .int (0)), (0, .ref r), (1, .int (nI (b))), (2, .int (st))]) hx hb dX7_countOf_3 hl (by decide) rfl (fun ls hl => ?_)
  have LP5 : ∀ n9 : Nat, ∀ (j : Nat), (hj : j ≤ 4) → 4 - j < n9 → ∀ (H : Heap) (locs : List Loc), va_P D vwCl [(r, .inl (cI, 151, .inl f))] H → va_S (fun _ => False) s.heap H locs → ∀ ls : Array Slot, lv_has ls 5 [(0, .ref r), (1, .int (nI (b))), (2, .int (st)), (3, .int (nI (cst f b st j))), (4, .int (nI (j)))] → W p l e ({ frames := 1, cells := 0, slots := 0, locals := 22 } : Room) s m ([.ref r, .int (nI (b)), .int (st)] : List Value).toArray below meth c H locs 0 0 (MQ below (rp_Qi (nI (cst f b st 4))) ([.ref r, .int (nI (b)), .int (st)] : List Value).toArray s 0 0 (fun _ => False)) (F0 m 5 ls []) := by
    intro n9
    induction n9 with
    | zero => intros; omega
    | succ n9 ih5 =>
      intro j hj hm9 H locs hP hS ls hl
      refine lv_iload hx hb dX7_countOf_5 (lv_at hl 4 rfl) ?_
      refine lv_iconst (v := 4) hx hb dX7_countOf_7 (by decide) ?_
      refine lv_icmp_ge (tgt := 40) hx hb dX7_countOf_8 (by decide) (fun c8_1 => ?_) (fun c8_1 => ?_)
      · skip
        have c8_1 := cn_le (a := 4) (b := j) (by omega) (by omega) c8_1
        refine lv_iload_n hx hb dX7_countOf_40 rfl (lv_at hl 3 rfl) ?_
        exact rp_ret hX hr hlocks hS (by rw [show j = 4 by omega]) dX7_countOf_41
      · skip
        have c8_1 := cn_nle (a := 4) (b := j) (by omega) (by omega) c8_1
        refine lv_iload_n hx hb dX7_countOf_11 rfl (lv_at hl 3 rfl) ?_
        refine lv_aload_n hx hb dX7_countOf_12 rfl (lv_at hl 0 rfl) ?_
        refine lv_iconst (v := 4) hx hb dX7_countOf_13 (by decide) ?_
        refine lv_iload_n hx hb dX7_countOf_14 rfl (lv_at hl 1 rfl) ?_
        refine lv_imul hx hb dX7_countOf_15 ?_
        refine lv_as (y := nI (4 * b)) (pk_mul (4) (b)) ?_
        refine lv_iload hx hb dX7_countOf_16 (lv_at hl 4 rfl) ?_
        refine lv_iadd hx hb dX7_countOf_18 ?_
        refine lv_as (y := nI (4 * b + j)) (nI_add (4 * b) (j)) ?_
        refine lv_iconst (v := 0) hx hb dX7_countOf_19 (by decide) ?_
        refine rp_callS hX good7 i7 (c7_pageOf l D cI r f (4 * b + j) 0 (by omega) (by omega)) q7_pageOf rfl (m7 23 rfl) (m7 24 rfl) ⟨Nat.le_of_ble_eq_true rfl, Nat.le_of_ble_eq_true rfl⟩ hK [0] rfl hP [0] rfl hS hl.1 rfl (Nat.le_of_ble_eq_true rfl) dX7_countOf_20 ⟨Nat.zero_le _, Nat.zero_le _⟩ (fun H locs hP hS => ?_)
        refine lv_iload_n hx hb dX7_countOf_23 rfl (lv_at hl 2 rfl) ?_
        refine lv_icmp_ne (tgt := 31) hx hb dX7_countOf_24 (by decide) (fun c24_2 => ?_) (fun c24_2 => ?_)
        · skip
          refine lv_iconst (v := 0) hx hb dX7_countOf_31 (by decide) ?_
          refine lv_iadd hx hb dX7_countOf_32 ?_
          refine lv_as (y := nI (cst f b st j + 0)) (nI_add (cst f b st j) (0)) ?_
          refine lv_istore_n (lv' := [(3, .int (nI (cst f b st j + 0))), (0, .ref r), (1, .int (nI (b))), (2, .int (st)), (4, .int (nI (j)))]) hx hb dX7_countOf_33 rfl hl (by decide) rfl (fun ls hl => ?_)
          refine lv_iinc (v := nI (j + 1)) (lv' := [(4, .int (nI (j + 1))), (3, .int (nI (cst f b st j + 0))), (0, .ref r), (1, .int (nI (b))), (2, .int (st))]) hx hb dX7_countOf_34 hl (k := 4) rfl (nI_add _ 1) (by decide) rfl (fun ls hl => ?_)
          refine lv_goto (tgt := 5) hx hb dX7_countOf_37 (by decide) ?_
          have hl : lv_has ls 5 [(4, .int (nI (j + 1))), (3, .int (nI (cst f b st (j + 1)))), (0, .ref r), (1, .int (nI (b))), (2, .int (st))] := lv_re hl 1 rfl (show nI (cst f b st j + 0) = nI (cst f b st (j + 1)) from by simp [cst, oI, c8_1, c24_2])
          have hl : lv_has ls 5 [(4, .int (nI ((j + 1)))), (3, .int (nI (cst f b st (j + 1)))), (0, .ref r), (1, .int (nI (b))), (2, .int (st))] := lv_re hl 0 rfl (show nI (j + 1) = nI ((j + 1)) from rfl)
          exact ih5 (j + 1) (by omega) (by omega) _ _ hP hS _ (lv_sub hl [2, 3, 4, 1, 0] rfl)
        · skip
          refine lv_iconst (v := 1) hx hb dX7_countOf_27 (by decide) ?_
          refine lv_goto (tgt := 32) hx hb dX7_countOf_28 (by decide) ?_
          refine lv_iadd hx hb dX7_countOf_32 ?_
          refine lv_as (y := nI (cst f b st j + 1)) (nI_add (cst f b st j) (1)) ?_
          refine lv_istore_n (lv' := [(3, .int (nI (cst f b st j + 1))), (0, .ref r), (1, .int (nI (b))), (2, .int (st)), (4, .int (nI (j)))]) hx hb dX7_countOf_33 rfl hl (by decide) rfl (fun ls hl => ?_)
          refine lv_iinc (v := nI (j + 1)) (lv' := [(4, .int (nI (j + 1))), (3, .int (nI (cst f b st j + 1))), (0, .ref r), (1, .int (nI (b))), (2, .int (st))]) hx hb dX7_countOf_34 hl (k := 4) rfl (nI_add _ 1) (by decide) rfl (fun ls hl => ?_)
          refine lv_goto (tgt := 5) hx hb dX7_countOf_37 (by decide) ?_
          have hl : lv_has ls 5 [(4, .int (nI (j + 1))), (3, .int (nI (cst f b st (j + 1)))), (0, .ref r), (1, .int (nI (b))), (2, .int (st))] := lv_re hl 1 rfl (show nI (cst f b st j + 1) = nI (cst f b st (j + 1)) from by simp [cst, oI, c8_1, c24_2])
          have hl : lv_has ls 5 [(4, .int (nI ((j + 1)))), (3, .int (nI (cst f b st (j + 1)))), (0, .ref r), (1, .int (nI (b))), (2, .int (st))] := lv_re hl 0 rfl (show nI (j + 1) = nI ((j + 1)) from rfl)
          exact ih5 (j + 1) (by omega) (by omega) _ _ hP hS _ (lv_sub hl [2, 3, 4, 1, 0] rfl)
  have hl : lv_has ls 5 [(4, .int (0)), (3, .int (nI (cst f b st 0))), (0, .ref r), (1, .int (nI (b))), (2, .int (st))] := lv_re hl 1 rfl (show 0 = nI (cst f b st 0) from rfl)
  have hl : lv_has ls 5 [(4, .int (nI (0))), (3, .int (nI (cst f b st 0))), (0, .ref r), (1, .int (nI (b))), (2, .int (st))] := lv_re hl 0 rfl (show 0 = nI (0) from rfl)
  exact LP5 ((4 - 0) + 1) 0 (by omega) (by omega) _ _ hP hS _ (lv_sub hl [2, 3, 4, 1, 0] rfl)
theorem dX7_liveOf_0 : decode cX7_liveOf 0 = .ok (.iconst 0, 1) := by decide +kernel
theorem dX7_liveOf_1 : decode cX7_liveOf 1 = .ok (.istore_n 2, 1) := by decide +kernel
theorem dX7_liveOf_2 : decode cX7_liveOf 2 = .ok (.iconst 0, 1) := by decide +kernel
theorem dX7_liveOf_3 : decode cX7_liveOf 3 = .ok (.istore_n 3, 1) := by decide +kernel
theorem dX7_liveOf_4 : decode cX7_liveOf 4 = .ok (.iload_n 3, 1) := by decide +kernel
theorem dX7_liveOf_5 : decode cX7_liveOf 5 = .ok (.iconst 4, 1) := by decide +kernel
theorem dX7_liveOf_6 : decode cX7_liveOf 6 = .ok (.if_icmp .ge 29, 3) := by decide +kernel
theorem dX7_liveOf_9 : decode cX7_liveOf 9 = .ok (.iload_n 2, 1) := by decide +kernel
theorem dX7_liveOf_10 : decode cX7_liveOf 10 = .ok (.aload_n 0, 1) := by decide +kernel
theorem dX7_liveOf_11 : decode cX7_liveOf 11 = .ok (.iconst 4, 1) := by decide +kernel
theorem dX7_liveOf_12 : decode cX7_liveOf 12 = .ok (.iload_n 1, 1) := by decide +kernel
theorem dX7_liveOf_13 : decode cX7_liveOf 13 = .ok (.imul, 1) := by decide +kernel
theorem dX7_liveOf_14 : decode cX7_liveOf 14 = .ok (.iload_n 3, 1) := by decide +kernel
theorem dX7_liveOf_15 : decode cX7_liveOf 15 = .ok (.iadd, 1) := by decide +kernel
theorem dX7_liveOf_16 : decode cX7_liveOf 16 = .ok (.invokestatic 71, 3) := by decide +kernel
theorem dX7_liveOf_19 : decode cX7_liveOf 19 = .ok (.ifCond .eq 7, 3) := by decide +kernel
theorem dX7_liveOf_22 : decode cX7_liveOf 22 = .ok (.iconst 1, 1) := by decide +kernel
theorem dX7_liveOf_23 : decode cX7_liveOf 23 = .ok (.goto 4, 3) := by decide +kernel
theorem dX7_liveOf_26 : decode cX7_liveOf 26 = .ok (.iconst 0, 1) := by decide +kernel
theorem dX7_liveOf_27 : decode cX7_liveOf 27 = .ok (.iadd, 1) := by decide +kernel
theorem dX7_liveOf_28 : decode cX7_liveOf 28 = .ok (.istore_n 2, 1) := by decide +kernel
theorem dX7_liveOf_29 : decode cX7_liveOf 29 = .ok (.iinc 3 1, 3) := by decide +kernel
theorem dX7_liveOf_32 : decode cX7_liveOf 32 = .ok (.goto (-28), 3) := by decide +kernel
theorem dX7_liveOf_35 : decode cX7_liveOf 35 = .ok (.iload_n 2, 1) := by decide +kernel
theorem dX7_liveOf_36 : decode cX7_liveOf 36 = .ok (.ireturn, 1) := by decide +kernel
theorem q7_liveOf : CQ W7 yX7_liveOf cX7_liveOf 4 (some .int) 2 := ⟨(m7 55 rfl), by decide, by decide, by decide +kernel⟩
set_option maxHeartbeats 4000000 in
set_option maxRecDepth 100000 in
theorem c7_liveOf (l : Launch) (D : va_G) (cI : ClassId) (r : Nat) (f : Nat → Int32) (b : Nat) (hb8 : b < 8) (B : Nat) (hB : f 0 = nI B) (hB8 : B ≤ 8) : RP l yX7_liveOf cX7_liveOf 4 .int W7 4 90 D [(r, .inl (cI, 151, .inl f))] [(cI, .int)] [.ref r, .int (nI (b))] (nI (lvs f B b 4)) := by
  refine rp_of RX7 (by decide) rfl (Nat.le_of_ble_eq_true rfl) ?_
  intro p e s m below meth c ls hX hr hlocks hK hP hS hl
  have hx := hX.1
  have hb := hX.2.1
  have hown := hX.2.2.2.1
  have hts := hX.2.2.2.2
  have hl : lv_has ls 4 [(0, .ref r), (1, .int (nI (b)))] := hl
  refine lv_iconst (v := 0) hx hb dX7_liveOf_0 (by decide) ?_
  refine lv_istore_n (lv' := [(2, .int (0)), (0, .ref r), (1, .int (nI (b)))]) hx hb dX7_liveOf_1 rfl hl (by decide) rfl (fun ls hl => ?_)
  refine lv_iconst (v := 0) hx hb dX7_liveOf_2 (by decide) ?_
  refine lv_istore_n (lv' := [(3, .int (0)), (2, .int (0)), (0, .ref r), (1, .int (nI (b)))]) hx hb dX7_liveOf_3 rfl hl (by decide) rfl (fun ls hl => ?_)
  have LP4 : ∀ n9 : Nat, ∀ (j : Nat), (hj : j ≤ 4) → 4 - j < n9 → ∀ (H : Heap) (locs : List Loc), va_P D vwCl [(r, .inl (cI, 151, .inl f))] H → va_S (fun _ => False) s.heap H locs → ∀ ls : Array Slot, lv_has ls 4 [(0, .ref r), (1, .int (nI (b))), (2, .int (nI (lvs f B b j))), (3, .int (nI (j)))] → W p l e ({ frames := 4, cells := 0, slots := 0, locals := 90 } : Room) s m ([.ref r, .int (nI (b))] : List Value).toArray below meth c H locs 0 0 (MQ below (rp_Qi (nI (lvs f B b 4))) ([.ref r, .int (nI (b))] : List Value).toArray s 0 0 (fun _ => False)) (F0 m 4 ls []) := by
    intro n9
    induction n9 with
    | zero => intros; omega
    | succ n9 ih4 =>
      intro j hj hm9 H locs hP hS ls hl
      refine lv_iload_n hx hb dX7_liveOf_4 rfl (lv_at hl 3 rfl) ?_
      refine lv_iconst (v := 4) hx hb dX7_liveOf_5 (by decide) ?_
      refine lv_icmp_ge (tgt := 35) hx hb dX7_liveOf_6 (by decide) (fun c6_1 => ?_) (fun c6_1 => ?_)
      · skip
        have c6_1 := cn_le (a := 4) (b := j) (by omega) (by omega) c6_1
        refine lv_iload_n hx hb dX7_liveOf_35 rfl (lv_at hl 2 rfl) ?_
        exact rp_ret hX hr hlocks hS (by rw [show j = 4 by omega]) dX7_liveOf_36
      · skip
        have c6_1 := cn_nle (a := 4) (b := j) (by omega) (by omega) c6_1
        refine lv_iload_n hx hb dX7_liveOf_9 rfl (lv_at hl 2 rfl) ?_
        refine lv_aload_n hx hb dX7_liveOf_10 rfl (lv_at hl 0 rfl) ?_
        refine lv_iconst (v := 4) hx hb dX7_liveOf_11 (by decide) ?_
        refine lv_iload_n hx hb dX7_liveOf_12 rfl (lv_at hl 1 rfl) ?_
        refine lv_imul hx hb dX7_liveOf_13 ?_
        refine lv_as (y := nI (4 * b)) (pk_mul (4) (b)) ?_
        refine lv_iload_n hx hb dX7_liveOf_14 rfl (lv_at hl 3 rfl) ?_
        refine lv_iadd hx hb dX7_liveOf_15 ?_
        refine lv_as (y := nI (4 * b + j)) (nI_add (4 * b) (j)) ?_
        refine rp_callS hX good7 i7 (c7_isLive l D cI r f (4 * b + j) (by omega) B hB hB8) q7_isLive rfl (m7 38 rfl) (m7 39 rfl) ⟨Nat.le_of_ble_eq_true rfl, Nat.le_of_ble_eq_true rfl⟩ hK [0] rfl hP [0] rfl hS hl.1 rfl (Nat.le_of_ble_eq_true rfl) dX7_liveOf_16 ⟨Nat.zero_le _, Nat.zero_le _⟩ (fun H locs hP hS => ?_)
        refine lv_if_eq (tgt := 26) hx hb dX7_liveOf_19 (by decide) (fun c19_2 => ?_) (fun c19_2 => ?_)
        · skip
          have c19_2 := bI_f c19_2
          refine lv_iconst (v := 0) hx hb dX7_liveOf_26 (by decide) ?_
          refine lv_iadd hx hb dX7_liveOf_27 ?_
          refine lv_as (y := nI (lvs f B b j + 0)) (nI_add (lvs f B b j) (0)) ?_
          refine lv_istore_n (lv' := [(2, .int (nI (lvs f B b j + 0))), (0, .ref r), (1, .int (nI (b))), (3, .int (nI (j)))]) hx hb dX7_liveOf_28 rfl hl (by decide) rfl (fun ls hl => ?_)
          refine lv_iinc (v := nI (j + 1)) (lv' := [(3, .int (nI (j + 1))), (2, .int (nI (lvs f B b j + 0))), (0, .ref r), (1, .int (nI (b)))]) hx hb dX7_liveOf_29 hl (k := 3) rfl (nI_add _ 1) (by decide) rfl (fun ls hl => ?_)
          refine lv_goto (tgt := 4) hx hb dX7_liveOf_32 (by decide) ?_
          have hl : lv_has ls 4 [(3, .int (nI (j + 1))), (2, .int (nI (lvs f B b (j + 1)))), (0, .ref r), (1, .int (nI (b)))] := lv_re hl 1 rfl (show nI (lvs f B b j + 0) = nI (lvs f B b (j + 1)) from by rw [lvs, if_neg c19_2])
          have hl : lv_has ls 4 [(3, .int (nI ((j + 1)))), (2, .int (nI (lvs f B b (j + 1)))), (0, .ref r), (1, .int (nI (b)))] := lv_re hl 0 rfl (show nI (j + 1) = nI ((j + 1)) from rfl)
          exact ih4 (j + 1) (by omega) (by omega) _ _ hP hS _ (lv_sub hl [2, 3, 1, 0] rfl)
        · skip
          have c19_2 := bI_t c19_2
          refine lv_iconst (v := 1) hx hb dX7_liveOf_22 (by decide) ?_
          refine lv_goto (tgt := 27) hx hb dX7_liveOf_23 (by decide) ?_
          refine lv_iadd hx hb dX7_liveOf_27 ?_
          refine lv_as (y := nI (lvs f B b j + 1)) (nI_add (lvs f B b j) (1)) ?_
          refine lv_istore_n (lv' := [(2, .int (nI (lvs f B b j + 1))), (0, .ref r), (1, .int (nI (b))), (3, .int (nI (j)))]) hx hb dX7_liveOf_28 rfl hl (by decide) rfl (fun ls hl => ?_)
          refine lv_iinc (v := nI (j + 1)) (lv' := [(3, .int (nI (j + 1))), (2, .int (nI (lvs f B b j + 1))), (0, .ref r), (1, .int (nI (b)))]) hx hb dX7_liveOf_29 hl (k := 3) rfl (nI_add _ 1) (by decide) rfl (fun ls hl => ?_)
          refine lv_goto (tgt := 4) hx hb dX7_liveOf_32 (by decide) ?_
          have hl : lv_has ls 4 [(3, .int (nI (j + 1))), (2, .int (nI (lvs f B b (j + 1)))), (0, .ref r), (1, .int (nI (b)))] := lv_re hl 1 rfl (show nI (lvs f B b j + 1) = nI (lvs f B b (j + 1)) from by rw [lvs, if_pos c19_2])
          have hl : lv_has ls 4 [(3, .int (nI ((j + 1)))), (2, .int (nI (lvs f B b (j + 1)))), (0, .ref r), (1, .int (nI (b)))] := lv_re hl 0 rfl (show nI (j + 1) = nI ((j + 1)) from rfl)
          exact ih4 (j + 1) (by omega) (by omega) _ _ hP hS _ (lv_sub hl [2, 3, 1, 0] rfl)
  have hl : lv_has ls 4 [(3, .int (0)), (2, .int (nI (lvs f B b 0))), (0, .ref r), (1, .int (nI (b)))] := lv_re hl 1 rfl (show 0 = nI (lvs f B b 0) from rfl)
  have hl : lv_has ls 4 [(3, .int (nI (0))), (2, .int (nI (lvs f B b 0))), (0, .ref r), (1, .int (nI (b)))] := lv_re hl 0 rfl (show 0 = nI (0) from rfl)
  exact LP4 ((4 - 0) + 1) 0 (by omega) (by omega) _ _ hP hS _ (lv_sub hl [2, 3, 1, 0] rfl)
theorem dX7_isClean_0 : decode cX7_isClean 0 = .ok (.iload_n 1, 1) := by decide +kernel
theorem dX7_isClean_1 : decode cX7_isClean 1 = .ok (.aload_n 0, 1) := by decide +kernel
theorem dX7_isClean_2 : decode cX7_isClean 2 = .ok (.iconst 3, 1) := by decide +kernel
theorem dX7_isClean_3 : decode cX7_isClean 3 = .ok (.iaload, 1) := by decide +kernel
theorem dX7_isClean_4 : decode cX7_isClean 4 = .ok (.if_icmp .eq 17, 3) := by decide +kernel
theorem dX7_isClean_7 : decode cX7_isClean 7 = .ok (.aload_n 0, 1) := by decide +kernel
theorem dX7_isClean_8 : decode cX7_isClean 8 = .ok (.iload_n 1, 1) := by decide +kernel
theorem dX7_isClean_9 : decode cX7_isClean 9 = .ok (.iconst 0, 1) := by decide +kernel
theorem dX7_isClean_10 : decode cX7_isClean 10 = .ok (.invokestatic 74, 3) := by decide +kernel
theorem dX7_isClean_13 : decode cX7_isClean 13 = .ok (.iconst 4, 1) := by decide +kernel
theorem dX7_isClean_14 : decode cX7_isClean 14 = .ok (.if_icmp .ne 7, 3) := by decide +kernel
theorem dX7_isClean_17 : decode cX7_isClean 17 = .ok (.iconst 1, 1) := by decide +kernel
theorem dX7_isClean_18 : decode cX7_isClean 18 = .ok (.goto 4, 3) := by decide +kernel
theorem dX7_isClean_21 : decode cX7_isClean 21 = .ok (.iconst 0, 1) := by decide +kernel
theorem dX7_isClean_22 : decode cX7_isClean 22 = .ok (.ireturn, 1) := by decide +kernel
theorem q7_isClean : CQ W7 yX7_isClean cX7_isClean 2 (some .boolean) 2 := ⟨(m7 46 rfl), by decide, by decide, by decide +kernel⟩
set_option maxHeartbeats 4000000 in
set_option maxRecDepth 100000 in
theorem c7_isClean (l : Launch) (D : va_G) (cI : ClassId) (r : Nat) (f : Nat → Int32) (b : Nat) (hb8 : b < 8) : RP l yX7_isClean cX7_isClean 2 .boolean W7 2 46 D [(r, .inl (cI, 151, .inl f))] [(cI, .int)] [.ref r, .int (nI (b))] (bI (clnP f b)) := by
  refine rp_of RX7 (by decide) rfl (Nat.le_of_ble_eq_true rfl) ?_
  intro p e s m below meth c ls hX hr hlocks hK hP hS hl
  have hx := hX.1
  have hb := hX.2.1
  have hown := hX.2.2.2.1
  have hts := hX.2.2.2.2
  have hl : lv_has ls 2 [(0, .ref r), (1, .int (nI (b)))] := hl
  refine lv_iload_n hx hb dX7_isClean_0 rfl (lv_at hl 1 rfl) ?_
  refine lv_aload_n hx hb dX7_isClean_1 rfl (lv_at hl 0 rfl) ?_
  refine lv_iconst (v := 3) hx hb dX7_isClean_2 (by decide) ?_
  refine ra_iald (i := 3) hx hb hK hP 0 0 rfl rfl (by omega) (by decide) dX7_isClean_3 ?_
  refine lv_icmp_eq (tgt := 21) hx hb dX7_isClean_4 (by decide) (fun c4_1 => ?_) (fun c4_1 => ?_)
  · skip
    refine lv_iconst (v := 0) hx hb dX7_isClean_21 (by decide) ?_
    exact rp_retz hX hr hlocks hS ((bI_0 (fun z => z.1 c4_1)).symm) dX7_isClean_22
  · skip
    refine lv_aload_n hx hb dX7_isClean_7 rfl (lv_at hl 0 rfl) ?_
    refine lv_iload_n hx hb dX7_isClean_8 rfl (lv_at hl 1 rfl) ?_
    refine lv_iconst (v := 0) hx hb dX7_isClean_9 (by decide) ?_
    refine rp_callS hX good7 i7 (c7_countOf l D cI r f b (by omega) 0) q7_countOf rfl (m7 41 rfl) (m7 42 rfl) ⟨Nat.le_of_ble_eq_true rfl, Nat.le_of_ble_eq_true rfl⟩ hK [0] rfl hP [0] rfl hS hl.1 rfl (Nat.le_of_ble_eq_true rfl) dX7_isClean_10 ⟨Nat.zero_le _, Nat.zero_le _⟩ (fun H locs hP hS => ?_)
    refine lv_iconst (v := 4) hx hb dX7_isClean_13 (by decide) ?_
    have hc9 := cst_le (f := f) (b := b) (st := 0) 4
    refine lv_icmp_ne (tgt := 21) hx hb dX7_isClean_14 (by decide) (fun c14_2 => ?_) (fun c14_2 => ?_)
    · skip
      have c14_2 := cn_ne (a := cst f b 0 4) (b := 4) (by omega) (by omega) c14_2
      refine lv_iconst (v := 0) hx hb dX7_isClean_21 (by decide) ?_
      exact rp_retz hX hr hlocks hS ((bI_0 (fun z => c14_2 z.2)).symm) dX7_isClean_22
    · skip
      have c14_2 := cn_eq (a := cst f b 0 4) (b := 4) (by omega) (by omega) c14_2
      refine lv_iconst (v := 1) hx hb dX7_isClean_17 (by decide) ?_
      refine lv_goto (tgt := 22) hx hb dX7_isClean_18 (by decide) ?_
      exact rp_retz hX hr hlocks hS ((bI_1 ⟨c4_1, c14_2⟩).symm) dX7_isClean_22
theorem dX7_cleanBlocks_0 : decode cX7_cleanBlocks 0 = .ok (.iconst 0, 1) := by decide +kernel
theorem dX7_cleanBlocks_1 : decode cX7_cleanBlocks 1 = .ok (.istore_n 1, 1) := by decide +kernel
theorem dX7_cleanBlocks_2 : decode cX7_cleanBlocks 2 = .ok (.iconst 0, 1) := by decide +kernel
theorem dX7_cleanBlocks_3 : decode cX7_cleanBlocks 3 = .ok (.istore_n 2, 1) := by decide +kernel
theorem dX7_cleanBlocks_4 : decode cX7_cleanBlocks 4 = .ok (.iload_n 2, 1) := by decide +kernel
theorem dX7_cleanBlocks_5 : decode cX7_cleanBlocks 5 = .ok (.aload_n 0, 1) := by decide +kernel
theorem dX7_cleanBlocks_6 : decode cX7_cleanBlocks 6 = .ok (.iconst 0, 1) := by decide +kernel
theorem dX7_cleanBlocks_7 : decode cX7_cleanBlocks 7 = .ok (.iaload, 1) := by decide +kernel
theorem dX7_cleanBlocks_8 : decode cX7_cleanBlocks 8 = .ok (.if_icmp .ge 25, 3) := by decide +kernel
theorem dX7_cleanBlocks_11 : decode cX7_cleanBlocks 11 = .ok (.iload_n 1, 1) := by decide +kernel
theorem dX7_cleanBlocks_12 : decode cX7_cleanBlocks 12 = .ok (.aload_n 0, 1) := by decide +kernel
theorem dX7_cleanBlocks_13 : decode cX7_cleanBlocks 13 = .ok (.iload_n 2, 1) := by decide +kernel
theorem dX7_cleanBlocks_14 : decode cX7_cleanBlocks 14 = .ok (.invokestatic 77, 3) := by decide +kernel
theorem dX7_cleanBlocks_17 : decode cX7_cleanBlocks 17 = .ok (.ifCond .eq 7, 3) := by decide +kernel
theorem dX7_cleanBlocks_20 : decode cX7_cleanBlocks 20 = .ok (.iconst 1, 1) := by decide +kernel
theorem dX7_cleanBlocks_21 : decode cX7_cleanBlocks 21 = .ok (.goto 4, 3) := by decide +kernel
theorem dX7_cleanBlocks_24 : decode cX7_cleanBlocks 24 = .ok (.iconst 0, 1) := by decide +kernel
theorem dX7_cleanBlocks_25 : decode cX7_cleanBlocks 25 = .ok (.iadd, 1) := by decide +kernel
theorem dX7_cleanBlocks_26 : decode cX7_cleanBlocks 26 = .ok (.istore_n 1, 1) := by decide +kernel
theorem dX7_cleanBlocks_27 : decode cX7_cleanBlocks 27 = .ok (.iinc 2 1, 3) := by decide +kernel
theorem dX7_cleanBlocks_30 : decode cX7_cleanBlocks 30 = .ok (.goto (-26), 3) := by decide +kernel
theorem dX7_cleanBlocks_33 : decode cX7_cleanBlocks 33 = .ok (.iload_n 1, 1) := by decide +kernel
theorem dX7_cleanBlocks_34 : decode cX7_cleanBlocks 34 = .ok (.ireturn, 1) := by decide +kernel
theorem q7_cleanBlocks : CQ W7 yX7_cleanBlocks cX7_cleanBlocks 3 (some .int) 1 := ⟨(m7 58 rfl), by decide, by decide, by decide +kernel⟩
set_option maxHeartbeats 4000000 in
set_option maxRecDepth 100000 in
theorem c7_cleanBlocks (l : Launch) (D : va_G) (cI : ClassId) (r : Nat) (f : Nat → Int32) (B : Nat) (hB : f 0 = nI B) (hB8 : B ≤ 8) : RP l yX7_cleanBlocks cX7_cleanBlocks 3 .int W7 3 67 D [(r, .inl (cI, 151, .inl f))] [(cI, .int)] [.ref r] (nI (cln f B)) := by
  refine rp_of RX7 (by decide) rfl (Nat.le_of_ble_eq_true rfl) ?_
  intro p e s m below meth c ls hX hr hlocks hK hP hS hl
  have hx := hX.1
  have hb := hX.2.1
  have hown := hX.2.2.2.1
  have hts := hX.2.2.2.2
  have hl : lv_has ls 3 [(0, .ref r)] := hl
  refine lv_iconst (v := 0) hx hb dX7_cleanBlocks_0 (by decide) ?_
  refine lv_istore_n (lv' := [(1, .int (0)), (0, .ref r)]) hx hb dX7_cleanBlocks_1 rfl hl (by decide) rfl (fun ls hl => ?_)
  refine lv_iconst (v := 0) hx hb dX7_cleanBlocks_2 (by decide) ?_
  refine lv_istore_n (lv' := [(2, .int (0)), (1, .int (0)), (0, .ref r)]) hx hb dX7_cleanBlocks_3 rfl hl (by decide) rfl (fun ls hl => ?_)
  have LP4 : ∀ n9 : Nat, ∀ (j : Nat), (hj : j ≤ B) → B - j < n9 → ∀ (H : Heap) (locs : List Loc), va_P D vwCl [(r, .inl (cI, 151, .inl f))] H → va_S (fun _ => False) s.heap H locs → ∀ ls : Array Slot, lv_has ls 3 [(0, .ref r), (1, .int (nI (cln f j))), (2, .int (nI (j)))] → W p l e ({ frames := 3, cells := 0, slots := 0, locals := 67 } : Room) s m ([.ref r] : List Value).toArray below meth c H locs 0 0 (MQ below (rp_Qi (nI (cln f B))) ([.ref r] : List Value).toArray s 0 0 (fun _ => False)) (F0 m 4 ls []) := by
    intro n9
    induction n9 with
    | zero => intros; omega
    | succ n9 ih4 =>
      intro j hj hm9 H locs hP hS ls hl
      refine lv_iload_n hx hb dX7_cleanBlocks_4 rfl (lv_at hl 2 rfl) ?_
      refine lv_aload_n hx hb dX7_cleanBlocks_5 rfl (lv_at hl 0 rfl) ?_
      refine lv_iconst (v := 0) hx hb dX7_cleanBlocks_6 (by decide) ?_
      refine ra_iald (i := 0) hx hb hK hP 0 0 rfl rfl (by omega) (by decide) dX7_cleanBlocks_7 ?_
      refine lv_as (show f (0) = nI (B) from hB) ?_
      refine lv_icmp_ge (tgt := 33) hx hb dX7_cleanBlocks_8 (by decide) (fun c8_1 => ?_) (fun c8_1 => ?_)
      · skip
        have c8_1 := cn_le (a := B) (b := j) (by omega) (by omega) c8_1
        refine lv_iload_n hx hb dX7_cleanBlocks_33 rfl (lv_at hl 1 rfl) ?_
        exact rp_ret hX hr hlocks hS (by rw [show j = B by omega]) dX7_cleanBlocks_34
      · skip
        have c8_1 := cn_nle (a := B) (b := j) (by omega) (by omega) c8_1
        refine lv_iload_n hx hb dX7_cleanBlocks_11 rfl (lv_at hl 1 rfl) ?_
        refine lv_aload_n hx hb dX7_cleanBlocks_12 rfl (lv_at hl 0 rfl) ?_
        refine lv_iload_n hx hb dX7_cleanBlocks_13 rfl (lv_at hl 2 rfl) ?_
        refine rp_callS hX good7 i7 (c7_isClean l D cI r f j (by omega)) q7_isClean rfl (m7 44 rfl) (m7 45 rfl) ⟨Nat.le_of_ble_eq_true rfl, Nat.le_of_ble_eq_true rfl⟩ hK [0] rfl hP [0] rfl hS hl.1 rfl (Nat.le_of_ble_eq_true rfl) dX7_cleanBlocks_14 ⟨Nat.zero_le _, Nat.zero_le _⟩ (fun H locs hP hS => ?_)
        refine lv_if_eq (tgt := 24) hx hb dX7_cleanBlocks_17 (by decide) (fun c17_2 => ?_) (fun c17_2 => ?_)
        · skip
          have c17_2 := bI_f c17_2
          refine lv_iconst (v := 0) hx hb dX7_cleanBlocks_24 (by decide) ?_
          refine lv_iadd hx hb dX7_cleanBlocks_25 ?_
          refine lv_as (y := nI (cln f j + 0)) (nI_add (cln f j) (0)) ?_
          refine lv_istore_n (lv' := [(1, .int (nI (cln f j + 0))), (0, .ref r), (2, .int (nI (j)))]) hx hb dX7_cleanBlocks_26 rfl hl (by decide) rfl (fun ls hl => ?_)
          refine lv_iinc (v := nI (j + 1)) (lv' := [(2, .int (nI (j + 1))), (1, .int (nI (cln f j + 0))), (0, .ref r)]) hx hb dX7_cleanBlocks_27 hl (k := 2) rfl (nI_add _ 1) (by decide) rfl (fun ls hl => ?_)
          refine lv_goto (tgt := 4) hx hb dX7_cleanBlocks_30 (by decide) ?_
          have hl : lv_has ls 3 [(2, .int (nI (j + 1))), (1, .int (nI (cln f (j + 1)))), (0, .ref r)] := lv_re hl 1 rfl (show nI (cln f j + 0) = nI (cln f (j + 1)) from by rw [cln, if_neg c17_2])
          have hl : lv_has ls 3 [(2, .int (nI ((j + 1)))), (1, .int (nI (cln f (j + 1)))), (0, .ref r)] := lv_re hl 0 rfl (show nI (j + 1) = nI ((j + 1)) from rfl)
          exact ih4 (j + 1) (by omega) (by omega) _ _ hP hS _ (lv_sub hl [2, 1, 0] rfl)
        · skip
          have c17_2 := bI_t c17_2
          refine lv_iconst (v := 1) hx hb dX7_cleanBlocks_20 (by decide) ?_
          refine lv_goto (tgt := 25) hx hb dX7_cleanBlocks_21 (by decide) ?_
          refine lv_iadd hx hb dX7_cleanBlocks_25 ?_
          refine lv_as (y := nI (cln f j + 1)) (nI_add (cln f j) (1)) ?_
          refine lv_istore_n (lv' := [(1, .int (nI (cln f j + 1))), (0, .ref r), (2, .int (nI (j)))]) hx hb dX7_cleanBlocks_26 rfl hl (by decide) rfl (fun ls hl => ?_)
          refine lv_iinc (v := nI (j + 1)) (lv' := [(2, .int (nI (j + 1))), (1, .int (nI (cln f j + 1))), (0, .ref r)]) hx hb dX7_cleanBlocks_27 hl (k := 2) rfl (nI_add _ 1) (by decide) rfl (fun ls hl => ?_)
          refine lv_goto (tgt := 4) hx hb dX7_cleanBlocks_30 (by decide) ?_
          have hl : lv_has ls 3 [(2, .int (nI (j + 1))), (1, .int (nI (cln f (j + 1)))), (0, .ref r)] := lv_re hl 1 rfl (show nI (cln f j + 1) = nI (cln f (j + 1)) from by rw [cln, if_pos c17_2])
          have hl : lv_has ls 3 [(2, .int (nI ((j + 1)))), (1, .int (nI (cln f (j + 1)))), (0, .ref r)] := lv_re hl 0 rfl (show nI (j + 1) = nI ((j + 1)) from rfl)
          exact ih4 (j + 1) (by omega) (by omega) _ _ hP hS _ (lv_sub hl [2, 1, 0] rfl)
  have hl : lv_has ls 3 [(2, .int (0)), (1, .int (nI (cln f 0))), (0, .ref r)] := lv_re hl 1 rfl (show 0 = nI (cln f 0) from rfl)
  have hl : lv_has ls 3 [(2, .int (nI (0))), (1, .int (nI (cln f 0))), (0, .ref r)] := lv_re hl 0 rfl (show 0 = nI (0) from rfl)
  exact LP4 ((B - 0) + 1) 0 (by omega) (by omega) _ _ hP hS _ (lv_sub hl [2, 1, 0] rfl)
theorem dX7_leastClean_0 : decode cX7_leastClean 0 = .ok (.bipush (-9), 2) := by decide +kernel
theorem dX7_leastClean_2 : decode cX7_leastClean 2 = .ok (.istore_n 1, 1) := by decide +kernel
theorem dX7_leastClean_3 : decode cX7_leastClean 3 = .ok (.iconst 0, 1) := by decide +kernel
theorem dX7_leastClean_4 : decode cX7_leastClean 4 = .ok (.istore_n 2, 1) := by decide +kernel
theorem dX7_leastClean_5 : decode cX7_leastClean 5 = .ok (.iload_n 2, 1) := by decide +kernel
theorem dX7_leastClean_6 : decode cX7_leastClean 6 = .ok (.aload_n 0, 1) := by decide +kernel
theorem dX7_leastClean_7 : decode cX7_leastClean 7 = .ok (.iconst 0, 1) := by decide +kernel
theorem dX7_leastClean_8 : decode cX7_leastClean 8 = .ok (.iaload, 1) := by decide +kernel
theorem dX7_leastClean_9 : decode cX7_leastClean 9 = .ok (.if_icmp .ge 40, 3) := by decide +kernel
theorem dX7_leastClean_12 : decode cX7_leastClean 12 = .ok (.aload_n 0, 1) := by decide +kernel
theorem dX7_leastClean_13 : decode cX7_leastClean 13 = .ok (.iload_n 2, 1) := by decide +kernel
theorem dX7_leastClean_14 : decode cX7_leastClean 14 = .ok (.invokestatic 77, 3) := by decide +kernel
theorem dX7_leastClean_17 : decode cX7_leastClean 17 = .ok (.ifCond .eq 26, 3) := by decide +kernel
theorem dX7_leastClean_20 : decode cX7_leastClean 20 = .ok (.iload_n 1, 1) := by decide +kernel
theorem dX7_leastClean_21 : decode cX7_leastClean 21 = .ok (.bipush (-9), 2) := by decide +kernel
theorem dX7_leastClean_23 : decode cX7_leastClean 23 = .ok (.if_icmp .eq 18, 3) := by decide +kernel
theorem dX7_leastClean_26 : decode cX7_leastClean 26 = .ok (.aload_n 0, 1) := by decide +kernel
theorem dX7_leastClean_27 : decode cX7_leastClean 27 = .ok (.bipush 15, 2) := by decide +kernel
theorem dX7_leastClean_29 : decode cX7_leastClean 29 = .ok (.iload_n 2, 1) := by decide +kernel
theorem dX7_leastClean_30 : decode cX7_leastClean 30 = .ok (.iadd, 1) := by decide +kernel
theorem dX7_leastClean_31 : decode cX7_leastClean 31 = .ok (.iaload, 1) := by decide +kernel
theorem dX7_leastClean_32 : decode cX7_leastClean 32 = .ok (.aload_n 0, 1) := by decide +kernel
theorem dX7_leastClean_33 : decode cX7_leastClean 33 = .ok (.bipush 15, 2) := by decide +kernel
theorem dX7_leastClean_35 : decode cX7_leastClean 35 = .ok (.iload_n 1, 1) := by decide +kernel
theorem dX7_leastClean_36 : decode cX7_leastClean 36 = .ok (.iadd, 1) := by decide +kernel
theorem dX7_leastClean_37 : decode cX7_leastClean 37 = .ok (.iaload, 1) := by decide +kernel
theorem dX7_leastClean_38 : decode cX7_leastClean 38 = .ok (.if_icmp .ge 5, 3) := by decide +kernel
theorem dX7_leastClean_41 : decode cX7_leastClean 41 = .ok (.iload_n 2, 1) := by decide +kernel
theorem dX7_leastClean_42 : decode cX7_leastClean 42 = .ok (.istore_n 1, 1) := by decide +kernel
theorem dX7_leastClean_43 : decode cX7_leastClean 43 = .ok (.iinc 2 1, 3) := by decide +kernel
theorem dX7_leastClean_46 : decode cX7_leastClean 46 = .ok (.goto (-41), 3) := by decide +kernel
theorem dX7_leastClean_49 : decode cX7_leastClean 49 = .ok (.iload_n 1, 1) := by decide +kernel
theorem dX7_leastClean_50 : decode cX7_leastClean 50 = .ok (.ireturn, 1) := by decide +kernel
theorem q7_leastClean : CQ W7 yX7_leastClean cX7_leastClean 3 (some .int) 1 := ⟨(m7 82 rfl), by decide, by decide, by decide +kernel⟩
set_option maxHeartbeats 4000000 in
set_option maxRecDepth 100000 in
theorem c7_leastClean (l : Launch) (D : va_G) (cI : ClassId) (r : Nat) (f : Nat → Int32) (B : Nat) (hB : f 0 = nI B) (hB8 : B ≤ 8) : RP l yX7_leastClean cX7_leastClean 3 .int W7 3 67 D [(r, .inl (cI, 151, .inl f))] [(cI, .int)] [.ref r] (oI (lcl f B)) := by
  refine rp_of RX7 (by decide) rfl (Nat.le_of_ble_eq_true rfl) ?_
  intro p e s m below meth c ls hX hr hlocks hK hP hS hl
  have hx := hX.1
  have hb := hX.2.1
  have hown := hX.2.2.2.1
  have hts := hX.2.2.2.2
  have hl : lv_has ls 3 [(0, .ref r)] := hl
  refine lv_bipush (v := (-9)) hx hb dX7_leastClean_0 (by decide) ?_
  refine lv_istore_n (lv' := [(1, .int ((-9))), (0, .ref r)]) hx hb dX7_leastClean_2 rfl hl (by decide) rfl (fun ls hl => ?_)
  refine lv_iconst (v := 0) hx hb dX7_leastClean_3 (by decide) ?_
  refine lv_istore_n (lv' := [(2, .int (0)), (1, .int ((-9))), (0, .ref r)]) hx hb dX7_leastClean_4 rfl hl (by decide) rfl (fun ls hl => ?_)
  have LP5 : ∀ n9 : Nat, ∀ (j : Nat), (hj : j ≤ B) → B - j < n9 → ∀ (H : Heap) (locs : List Loc), va_P D vwCl [(r, .inl (cI, 151, .inl f))] H → va_S (fun _ => False) s.heap H locs → ∀ ls : Array Slot, lv_has ls 3 [(0, .ref r), (1, .int (oI (lcl f j))), (2, .int (nI (j)))] → W p l e ({ frames := 3, cells := 0, slots := 0, locals := 67 } : Room) s m ([.ref r] : List Value).toArray below meth c H locs 0 0 (MQ below (rp_Qi (oI (lcl f B))) ([.ref r] : List Value).toArray s 0 0 (fun _ => False)) (F0 m 5 ls []) := by
    intro n9
    induction n9 with
    | zero => intros; omega
    | succ n9 ih5 =>
      intro j hj hm9 H locs hP hS ls hl
      refine lv_iload_n hx hb dX7_leastClean_5 rfl (lv_at hl 2 rfl) ?_
      refine lv_aload_n hx hb dX7_leastClean_6 rfl (lv_at hl 0 rfl) ?_
      refine lv_iconst (v := 0) hx hb dX7_leastClean_7 (by decide) ?_
      refine ra_iald (i := 0) hx hb hK hP 0 0 rfl rfl (by omega) (by decide) dX7_leastClean_8 ?_
      refine lv_as (show f (0) = nI (B) from hB) ?_
      refine lv_icmp_ge (tgt := 49) hx hb dX7_leastClean_9 (by decide) (fun c9_1 => ?_) (fun c9_1 => ?_)
      · skip
        have c9_1 := cn_le (a := B) (b := j) (by omega) (by omega) c9_1
        refine lv_iload_n hx hb dX7_leastClean_49 rfl (lv_at hl 1 rfl) ?_
        exact rp_ret hX hr hlocks hS (by rw [show j = B by omega]) dX7_leastClean_50
      · skip
        have c9_1 := cn_nle (a := B) (b := j) (by omega) (by omega) c9_1
        rcases hO2 : lcl f j with _ | o2
        · skip
          have hl : lv_has ls 3 [(0, .ref r), (1, .int ((-9))), (2, .int (nI (j)))] := by rw [hO2] at hl; exact hl
          refine lv_aload_n hx hb dX7_leastClean_12 rfl (lv_at hl 0 rfl) ?_
          refine lv_iload_n hx hb dX7_leastClean_13 rfl (lv_at hl 2 rfl) ?_
          refine rp_callS hX good7 i7 (c7_isClean l D cI r f j (by omega)) q7_isClean rfl (m7 44 rfl) (m7 45 rfl) ⟨Nat.le_of_ble_eq_true rfl, Nat.le_of_ble_eq_true rfl⟩ hK [0] rfl hP [0] rfl hS hl.1 rfl (Nat.le_of_ble_eq_true rfl) dX7_leastClean_14 ⟨Nat.zero_le _, Nat.zero_le _⟩ (fun H locs hP hS => ?_)
          refine lv_if_eq (tgt := 43) hx hb dX7_leastClean_17 (by decide) (fun c17_3 => ?_) (fun c17_3 => ?_)
          · skip
            have c17_3 := bI_f c17_3
            refine lv_iinc (v := nI (j + 1)) (lv' := [(2, .int (nI (j + 1))), (0, .ref r), (1, .int ((-9)))]) hx hb dX7_leastClean_43 hl (k := 2) rfl (nI_add _ 1) (by decide) rfl (fun ls hl => ?_)
            refine lv_goto (tgt := 5) hx hb dX7_leastClean_46 (by decide) ?_
            have hl : lv_has ls 3 [(2, .int (nI (j + 1))), (0, .ref r), (1, .int (oI (lcl f (j + 1))))] := lv_re hl 2 rfl (show (-9) = oI (lcl f (j + 1)) from by rw [lcl, hO2]; dsimp only; rw [if_neg c17_3]; rfl)
            have hl : lv_has ls 3 [(2, .int (nI ((j + 1)))), (0, .ref r), (1, .int (oI (lcl f (j + 1))))] := lv_re hl 0 rfl (show nI (j + 1) = nI ((j + 1)) from rfl)
            exact ih5 (j + 1) (by omega) (by omega) _ _ hP hS _ (lv_sub hl [1, 2, 0] rfl)
          · skip
            have c17_3 := bI_t c17_3
            refine lv_iload_n hx hb dX7_leastClean_20 rfl (lv_at hl 1 rfl) ?_
            refine lv_bipush (v := (-9)) hx hb dX7_leastClean_21 (by decide) ?_
            refine lv_icmp_eq (tgt := 41) hx hb dX7_leastClean_23 (by decide) (fun c23_4 => ?_) (fun c23_4 => ?_)
            · skip
              refine lv_iload_n hx hb dX7_leastClean_41 rfl (lv_at hl 2 rfl) ?_
              refine lv_istore_n (lv' := [(1, .int (nI (j))), (0, .ref r), (2, .int (nI (j)))]) hx hb dX7_leastClean_42 rfl hl (by decide) rfl (fun ls hl => ?_)
              refine lv_iinc (v := nI (j + 1)) (lv' := [(2, .int (nI (j + 1))), (1, .int (nI (j))), (0, .ref r)]) hx hb dX7_leastClean_43 hl (k := 2) rfl (nI_add _ 1) (by decide) rfl (fun ls hl => ?_)
              refine lv_goto (tgt := 5) hx hb dX7_leastClean_46 (by decide) ?_
              have hl : lv_has ls 3 [(2, .int (nI (j + 1))), (1, .int (oI (lcl f (j + 1)))), (0, .ref r)] := lv_re hl 1 rfl (show nI (j) = oI (lcl f (j + 1)) from by rw [lcl, hO2]; dsimp only; rw [if_pos c17_3]; rfl)
              have hl : lv_has ls 3 [(2, .int (nI ((j + 1)))), (1, .int (oI (lcl f (j + 1)))), (0, .ref r)] := lv_re hl 0 rfl (show nI (j + 1) = nI ((j + 1)) from rfl)
              exact ih5 (j + 1) (by omega) (by omega) _ _ hP hS _ (lv_sub hl [2, 1, 0] rfl)
            · skip
              exact absurd c23_4 (by decide)
        · skip
          have hl : lv_has ls 3 [(0, .ref r), (1, .int (nI (o2))), (2, .int (nI (j)))] := by rw [hO2] at hl; exact hl
          have ho2 := lcl_lt hO2
          refine lv_aload_n hx hb dX7_leastClean_12 rfl (lv_at hl 0 rfl) ?_
          refine lv_iload_n hx hb dX7_leastClean_13 rfl (lv_at hl 2 rfl) ?_
          refine rp_callS hX good7 i7 (c7_isClean l D cI r f j (by omega)) q7_isClean rfl (m7 44 rfl) (m7 45 rfl) ⟨Nat.le_of_ble_eq_true rfl, Nat.le_of_ble_eq_true rfl⟩ hK [0] rfl hP [0] rfl hS hl.1 rfl (Nat.le_of_ble_eq_true rfl) dX7_leastClean_14 ⟨Nat.zero_le _, Nat.zero_le _⟩ (fun H locs hP hS => ?_)
          refine lv_if_eq (tgt := 43) hx hb dX7_leastClean_17 (by decide) (fun c17_5 => ?_) (fun c17_5 => ?_)
          · skip
            have c17_5 := bI_f c17_5
            refine lv_iinc (v := nI (j + 1)) (lv' := [(2, .int (nI (j + 1))), (0, .ref r), (1, .int (nI (o2)))]) hx hb dX7_leastClean_43 hl (k := 2) rfl (nI_add _ 1) (by decide) rfl (fun ls hl => ?_)
            refine lv_goto (tgt := 5) hx hb dX7_leastClean_46 (by decide) ?_
            have hl : lv_has ls 3 [(2, .int (nI (j + 1))), (0, .ref r), (1, .int (oI (lcl f (j + 1))))] := lv_re hl 2 rfl (show nI (o2) = oI (lcl f (j + 1)) from by rw [lcl, hO2]; dsimp only; rw [if_neg (fun z => c17_5 z.1)]; rfl)
            have hl : lv_has ls 3 [(2, .int (nI ((j + 1)))), (0, .ref r), (1, .int (oI (lcl f (j + 1))))] := lv_re hl 0 rfl (show nI (j + 1) = nI ((j + 1)) from rfl)
            exact ih5 (j + 1) (by omega) (by omega) _ _ hP hS _ (lv_sub hl [1, 2, 0] rfl)
          · skip
            have c17_5 := bI_t c17_5
            refine lv_iload_n hx hb dX7_leastClean_20 rfl (lv_at hl 1 rfl) ?_
            refine lv_bipush (v := (-9)) hx hb dX7_leastClean_21 (by decide) ?_
            refine lv_icmp_eq (tgt := 41) hx hb dX7_leastClean_23 (by decide) (fun c23_6 => ?_) (fun c23_6 => ?_)
            · skip
              exact absurd c23_6 (oI_ne (by omega))
            · skip
              refine lv_aload_n hx hb dX7_leastClean_26 rfl (lv_at hl 0 rfl) ?_
              refine lv_bipush (v := 15) hx hb dX7_leastClean_27 (by decide) ?_
              refine lv_iload_n hx hb dX7_leastClean_29 rfl (lv_at hl 2 rfl) ?_
              refine lv_iadd hx hb dX7_leastClean_30 ?_
              refine lv_as (y := nI (15 + j)) (nI_add (15) (j)) ?_
              refine ra_iald (i := 15 + j) hx hb hK hP 0 0 rfl rfl (by omega) (by decide) dX7_leastClean_31 ?_
              refine lv_aload_n hx hb dX7_leastClean_32 rfl (lv_at hl 0 rfl) ?_
              refine lv_bipush (v := 15) hx hb dX7_leastClean_33 (by decide) ?_
              refine lv_iload_n hx hb dX7_leastClean_35 rfl (lv_at hl 1 rfl) ?_
              refine lv_iadd hx hb dX7_leastClean_36 ?_
              refine lv_as (y := nI (15 + o2)) (nI_add (15) (o2)) ?_
              refine ra_iald (i := 15 + o2) hx hb hK hP 0 0 rfl rfl (by omega) (by decide) dX7_leastClean_37 ?_
              refine lv_icmp_ge (tgt := 43) hx hb dX7_leastClean_38 (by decide) (fun c38_7 => ?_) (fun c38_7 => ?_)
              · skip
                have c38_7 := i_nlt c38_7
                refine lv_iinc (v := nI (j + 1)) (lv' := [(2, .int (nI (j + 1))), (0, .ref r), (1, .int (nI (o2)))]) hx hb dX7_leastClean_43 hl (k := 2) rfl (nI_add _ 1) (by decide) rfl (fun ls hl => ?_)
                refine lv_goto (tgt := 5) hx hb dX7_leastClean_46 (by decide) ?_
                have hl : lv_has ls 3 [(2, .int (nI (j + 1))), (0, .ref r), (1, .int (oI (lcl f (j + 1))))] := lv_re hl 2 rfl (show nI (o2) = oI (lcl f (j + 1)) from by rw [lcl, hO2]; dsimp only; rw [if_neg (fun z => c38_7 z.2)]; rfl)
                have hl : lv_has ls 3 [(2, .int (nI ((j + 1)))), (0, .ref r), (1, .int (oI (lcl f (j + 1))))] := lv_re hl 0 rfl (show nI (j + 1) = nI ((j + 1)) from rfl)
                exact ih5 (j + 1) (by omega) (by omega) _ _ hP hS _ (lv_sub hl [1, 2, 0] rfl)
              · skip
                have c38_7 := i_lt c38_7
                refine lv_iload_n hx hb dX7_leastClean_41 rfl (lv_at hl 2 rfl) ?_
                refine lv_istore_n (lv' := [(1, .int (nI (j))), (0, .ref r), (2, .int (nI (j)))]) hx hb dX7_leastClean_42 rfl hl (by decide) rfl (fun ls hl => ?_)
                refine lv_iinc (v := nI (j + 1)) (lv' := [(2, .int (nI (j + 1))), (1, .int (nI (j))), (0, .ref r)]) hx hb dX7_leastClean_43 hl (k := 2) rfl (nI_add _ 1) (by decide) rfl (fun ls hl => ?_)
                refine lv_goto (tgt := 5) hx hb dX7_leastClean_46 (by decide) ?_
                have hl : lv_has ls 3 [(2, .int (nI (j + 1))), (1, .int (oI (lcl f (j + 1)))), (0, .ref r)] := lv_re hl 1 rfl (show nI (j) = oI (lcl f (j + 1)) from by rw [lcl, hO2]; dsimp only; rw [if_pos ⟨c17_5, c38_7⟩]; rfl)
                have hl : lv_has ls 3 [(2, .int (nI ((j + 1)))), (1, .int (oI (lcl f (j + 1)))), (0, .ref r)] := lv_re hl 0 rfl (show nI (j + 1) = nI ((j + 1)) from rfl)
                exact ih5 (j + 1) (by omega) (by omega) _ _ hP hS _ (lv_sub hl [2, 1, 0] rfl)
  have hl : lv_has ls 3 [(2, .int (0)), (1, .int (oI (lcl f 0))), (0, .ref r)] := lv_re hl 1 rfl (show (-9) = oI (lcl f 0) from rfl)
  have hl : lv_has ls 3 [(2, .int (nI (0))), (1, .int (oI (lcl f 0))), (0, .ref r)] := lv_re hl 0 rfl (show 0 = nI (0) from rfl)
  exact LP5 ((B - 0) + 1) 0 (by omega) (by omega) _ _ hP hS _ (lv_sub hl [2, 1, 0] rfl)
theorem dX7_leftIn_0 : decode cX7_leftIn 0 = .ok (.iconst 0, 1) := by decide +kernel
theorem dX7_leftIn_1 : decode cX7_leftIn 1 = .ok (.istore_n 2, 1) := by decide +kernel
theorem dX7_leftIn_2 : decode cX7_leftIn 2 = .ok (.iload_n 2, 1) := by decide +kernel
theorem dX7_leftIn_3 : decode cX7_leftIn 3 = .ok (.iconst 4, 1) := by decide +kernel
theorem dX7_leftIn_4 : decode cX7_leftIn 4 = .ok (.if_icmp .ge 26, 3) := by decide +kernel
theorem dX7_leftIn_7 : decode cX7_leftIn 7 = .ok (.aload_n 0, 1) := by decide +kernel
theorem dX7_leftIn_8 : decode cX7_leftIn 8 = .ok (.iconst 4, 1) := by decide +kernel
theorem dX7_leftIn_9 : decode cX7_leftIn 9 = .ok (.iload_n 1, 1) := by decide +kernel
theorem dX7_leftIn_10 : decode cX7_leftIn 10 = .ok (.imul, 1) := by decide +kernel
theorem dX7_leftIn_11 : decode cX7_leftIn 11 = .ok (.iconst 4, 1) := by decide +kernel
theorem dX7_leftIn_12 : decode cX7_leftIn 12 = .ok (.iadd, 1) := by decide +kernel
theorem dX7_leftIn_13 : decode cX7_leftIn 13 = .ok (.iconst 1, 1) := by decide +kernel
theorem dX7_leftIn_14 : decode cX7_leftIn 14 = .ok (.isub, 1) := by decide +kernel
theorem dX7_leftIn_15 : decode cX7_leftIn 15 = .ok (.iload_n 2, 1) := by decide +kernel
theorem dX7_leftIn_16 : decode cX7_leftIn 16 = .ok (.isub, 1) := by decide +kernel
theorem dX7_leftIn_17 : decode cX7_leftIn 17 = .ok (.iconst 0, 1) := by decide +kernel
theorem dX7_leftIn_18 : decode cX7_leftIn 18 = .ok (.invokestatic 52, 3) := by decide +kernel
theorem dX7_leftIn_21 : decode cX7_leftIn 21 = .ok (.ifCond .ne 9, 3) := by decide +kernel
theorem dX7_leftIn_24 : decode cX7_leftIn 24 = .ok (.iinc 2 1, 3) := by decide +kernel
theorem dX7_leftIn_27 : decode cX7_leftIn 27 = .ok (.goto (-25), 3) := by decide +kernel
theorem dX7_leftIn_30 : decode cX7_leftIn 30 = .ok (.iload_n 2, 1) := by decide +kernel
theorem dX7_leftIn_31 : decode cX7_leftIn 31 = .ok (.ireturn, 1) := by decide +kernel
theorem q7_leftIn : CQ W7 yX7_leftIn cX7_leftIn 3 (some .int) 2 := ⟨(m7 49 rfl), by decide, by decide, by decide +kernel⟩
set_option maxHeartbeats 4000000 in
set_option maxRecDepth 100000 in
theorem c7_leftIn (l : Launch) (D : va_G) (cI : ClassId) (r : Nat) (f : Nat → Int32) (b : Nat) (hb8 : b < 8) : RP l yX7_leftIn cX7_leftIn 3 .int W7 1 22 D [(r, .inl (cI, 151, .inl f))] [(cI, .int)] [.ref r, .int (nI (b))] (nI (lft f b)) := by
  refine rp_of RX7 (by decide) rfl (Nat.le_of_ble_eq_true rfl) ?_
  intro p e s m below meth c ls hX hr hlocks hK hP hS hl
  have hx := hX.1
  have hb := hX.2.1
  have hown := hX.2.2.2.1
  have hts := hX.2.2.2.2
  have hl : lv_has ls 3 [(0, .ref r), (1, .int (nI (b)))] := hl
  refine lv_iconst (v := 0) hx hb dX7_leftIn_0 (by decide) ?_
  refine lv_istore_n (lv' := [(2, .int (0)), (0, .ref r), (1, .int (nI (b)))]) hx hb dX7_leftIn_1 rfl hl (by decide) rfl (fun ls hl => ?_)
  refine lv_iload_n hx hb dX7_leftIn_2 rfl (lv_at hl 0 rfl) ?_
  refine lv_iconst (v := 4) hx hb dX7_leftIn_3 (by decide) ?_
  refine lv_icmp_ge (tgt := 30) hx hb dX7_leftIn_4 (by decide) (fun c4_1 => ?_) (fun c4_1 => ?_)
  · skip
    exact absurd c4_1 (by decide)
  · skip
    refine lv_aload_n hx hb dX7_leftIn_7 rfl (lv_at hl 1 rfl) ?_
    refine lv_iconst (v := 4) hx hb dX7_leftIn_8 (by decide) ?_
    refine lv_iload_n hx hb dX7_leftIn_9 rfl (lv_at hl 2 rfl) ?_
    refine lv_imul hx hb dX7_leftIn_10 ?_
    refine lv_as (y := nI (4 * b)) (pk_mul (4) (b)) ?_
    refine lv_iconst (v := 4) hx hb dX7_leftIn_11 (by decide) ?_
    refine lv_iadd hx hb dX7_leftIn_12 ?_
    refine lv_as (y := nI (4 * b + 4)) (nI_add (4 * b) (4)) ?_
    refine lv_iconst (v := 1) hx hb dX7_leftIn_13 (by decide) ?_
    refine lv_isub hx hb dX7_leftIn_14 ?_
    refine lv_as (y := nI (4 * b + 4 - 1)) (pk_sub (a := 4 * b + 4) (b := 1) (by omega)) ?_
    refine lv_iload_n hx hb dX7_leftIn_15 rfl (lv_at hl 0 rfl) ?_
    refine lv_isub hx hb dX7_leftIn_16 ?_
    refine lv_as (y := nI (4 * b + 3)) (by rw [show 4 * b + 4 - 1 = 4 * b + 3 by omega]; exact (pk_sub (a := 4 * b + 3) (b := 0) (by omega))) ?_
    refine lv_iconst (v := 0) hx hb dX7_leftIn_17 (by decide) ?_
    refine rp_callS hX good7 i7 (c7_pageOf l D cI r f (4 * b + 3) 0 (by omega) (by omega)) q7_pageOf rfl (m7 23 rfl) (m7 24 rfl) ⟨Nat.le_of_ble_eq_true rfl, Nat.le_of_ble_eq_true rfl⟩ hK [0] rfl hP [0] rfl hS hl.1 rfl (Nat.le_of_ble_eq_true rfl) dX7_leftIn_18 ⟨Nat.zero_le _, Nat.zero_le _⟩ (fun H locs hP hS => ?_)
    refine lv_if_ne (tgt := 30) hx hb dX7_leftIn_21 (by decide) (fun c21_2 => ?_) (fun c21_2 => ?_)
    · skip
      refine lv_iload_n hx hb dX7_leftIn_30 rfl (lv_at hl 0 rfl) ?_
      exact rp_ret hX hr hlocks hS (by simp [lft, c21_2]; rfl) dX7_leftIn_31
    · skip
      refine lv_iinc (v := 1) (lv' := [(2, .int (1)), (0, .ref r), (1, .int (nI (b)))]) hx hb dX7_leftIn_24 hl (k := 0) rfl (by decide) (by decide) rfl (fun ls hl => ?_)
      refine lv_goto (tgt := 2) hx hb dX7_leftIn_27 (by decide) ?_
      refine lv_iload_n hx hb dX7_leftIn_2 rfl (lv_at hl 0 rfl) ?_
      refine lv_iconst (v := 4) hx hb dX7_leftIn_3 (by decide) ?_
      refine lv_icmp_ge (tgt := 30) hx hb dX7_leftIn_4 (by decide) (fun c4_3 => ?_) (fun c4_3 => ?_)
      · skip
        exact absurd c4_3 (by decide)
      · skip
        refine lv_aload_n hx hb dX7_leftIn_7 rfl (lv_at hl 1 rfl) ?_
        refine lv_iconst (v := 4) hx hb dX7_leftIn_8 (by decide) ?_
        refine lv_iload_n hx hb dX7_leftIn_9 rfl (lv_at hl 2 rfl) ?_
        refine lv_imul hx hb dX7_leftIn_10 ?_
        refine lv_as (y := nI (4 * b)) (pk_mul (4) (b)) ?_
        refine lv_iconst (v := 4) hx hb dX7_leftIn_11 (by decide) ?_
        refine lv_iadd hx hb dX7_leftIn_12 ?_
        refine lv_as (y := nI (4 * b + 4)) (nI_add (4 * b) (4)) ?_
        refine lv_iconst (v := 1) hx hb dX7_leftIn_13 (by decide) ?_
        refine lv_isub hx hb dX7_leftIn_14 ?_
        refine lv_as (y := nI (4 * b + 4 - 1)) (pk_sub (a := 4 * b + 4) (b := 1) (by omega)) ?_
        refine lv_iload_n hx hb dX7_leftIn_15 rfl (lv_at hl 0 rfl) ?_
        refine lv_isub hx hb dX7_leftIn_16 ?_
        refine lv_as (y := nI (4 * b + 2)) (by rw [show 4 * b + 4 - 1 = 4 * b + 3 by omega]; exact (pk_sub (a := 4 * b + 3) (b := 1) (by omega))) ?_
        refine lv_iconst (v := 0) hx hb dX7_leftIn_17 (by decide) ?_
        refine rp_callS hX good7 i7 (c7_pageOf l D cI r f (4 * b + 2) 0 (by omega) (by omega)) q7_pageOf rfl (m7 23 rfl) (m7 24 rfl) ⟨Nat.le_of_ble_eq_true rfl, Nat.le_of_ble_eq_true rfl⟩ hK [0] rfl hP [0] rfl hS hl.1 rfl (Nat.le_of_ble_eq_true rfl) dX7_leftIn_18 ⟨Nat.zero_le _, Nat.zero_le _⟩ (fun H locs hP hS => ?_)
        refine lv_if_ne (tgt := 30) hx hb dX7_leftIn_21 (by decide) (fun c21_4 => ?_) (fun c21_4 => ?_)
        · skip
          refine lv_iload_n hx hb dX7_leftIn_30 rfl (lv_at hl 0 rfl) ?_
          exact rp_ret hX hr hlocks hS (by simp [lft, c21_2, c21_4]; rfl) dX7_leftIn_31
        · skip
          refine lv_iinc (v := 2) (lv' := [(2, .int (2)), (0, .ref r), (1, .int (nI (b)))]) hx hb dX7_leftIn_24 hl (k := 0) rfl (by decide) (by decide) rfl (fun ls hl => ?_)
          refine lv_goto (tgt := 2) hx hb dX7_leftIn_27 (by decide) ?_
          refine lv_iload_n hx hb dX7_leftIn_2 rfl (lv_at hl 0 rfl) ?_
          refine lv_iconst (v := 4) hx hb dX7_leftIn_3 (by decide) ?_
          refine lv_icmp_ge (tgt := 30) hx hb dX7_leftIn_4 (by decide) (fun c4_5 => ?_) (fun c4_5 => ?_)
          · skip
            exact absurd c4_5 (by decide)
          · skip
            refine lv_aload_n hx hb dX7_leftIn_7 rfl (lv_at hl 1 rfl) ?_
            refine lv_iconst (v := 4) hx hb dX7_leftIn_8 (by decide) ?_
            refine lv_iload_n hx hb dX7_leftIn_9 rfl (lv_at hl 2 rfl) ?_
            refine lv_imul hx hb dX7_leftIn_10 ?_
            refine lv_as (y := nI (4 * b)) (pk_mul (4) (b)) ?_
            refine lv_iconst (v := 4) hx hb dX7_leftIn_11 (by decide) ?_
            refine lv_iadd hx hb dX7_leftIn_12 ?_
            refine lv_as (y := nI (4 * b + 4)) (nI_add (4 * b) (4)) ?_
            refine lv_iconst (v := 1) hx hb dX7_leftIn_13 (by decide) ?_
            refine lv_isub hx hb dX7_leftIn_14 ?_
            refine lv_as (y := nI (4 * b + 4 - 1)) (pk_sub (a := 4 * b + 4) (b := 1) (by omega)) ?_
            refine lv_iload_n hx hb dX7_leftIn_15 rfl (lv_at hl 0 rfl) ?_
            refine lv_isub hx hb dX7_leftIn_16 ?_
            refine lv_as (y := nI (4 * b + 1)) (by rw [show 4 * b + 4 - 1 = 4 * b + 3 by omega]; exact (pk_sub (a := 4 * b + 3) (b := 2) (by omega))) ?_
            refine lv_iconst (v := 0) hx hb dX7_leftIn_17 (by decide) ?_
            refine rp_callS hX good7 i7 (c7_pageOf l D cI r f (4 * b + 1) 0 (by omega) (by omega)) q7_pageOf rfl (m7 23 rfl) (m7 24 rfl) ⟨Nat.le_of_ble_eq_true rfl, Nat.le_of_ble_eq_true rfl⟩ hK [0] rfl hP [0] rfl hS hl.1 rfl (Nat.le_of_ble_eq_true rfl) dX7_leftIn_18 ⟨Nat.zero_le _, Nat.zero_le _⟩ (fun H locs hP hS => ?_)
            refine lv_if_ne (tgt := 30) hx hb dX7_leftIn_21 (by decide) (fun c21_6 => ?_) (fun c21_6 => ?_)
            · skip
              refine lv_iload_n hx hb dX7_leftIn_30 rfl (lv_at hl 0 rfl) ?_
              exact rp_ret hX hr hlocks hS (by simp [lft, c21_2, c21_4, c21_6]; rfl) dX7_leftIn_31
            · skip
              refine lv_iinc (v := 3) (lv' := [(2, .int (3)), (0, .ref r), (1, .int (nI (b)))]) hx hb dX7_leftIn_24 hl (k := 0) rfl (by decide) (by decide) rfl (fun ls hl => ?_)
              refine lv_goto (tgt := 2) hx hb dX7_leftIn_27 (by decide) ?_
              refine lv_iload_n hx hb dX7_leftIn_2 rfl (lv_at hl 0 rfl) ?_
              refine lv_iconst (v := 4) hx hb dX7_leftIn_3 (by decide) ?_
              refine lv_icmp_ge (tgt := 30) hx hb dX7_leftIn_4 (by decide) (fun c4_7 => ?_) (fun c4_7 => ?_)
              · skip
                exact absurd c4_7 (by decide)
              · skip
                refine lv_aload_n hx hb dX7_leftIn_7 rfl (lv_at hl 1 rfl) ?_
                refine lv_iconst (v := 4) hx hb dX7_leftIn_8 (by decide) ?_
                refine lv_iload_n hx hb dX7_leftIn_9 rfl (lv_at hl 2 rfl) ?_
                refine lv_imul hx hb dX7_leftIn_10 ?_
                refine lv_as (y := nI (4 * b)) (pk_mul (4) (b)) ?_
                refine lv_iconst (v := 4) hx hb dX7_leftIn_11 (by decide) ?_
                refine lv_iadd hx hb dX7_leftIn_12 ?_
                refine lv_as (y := nI (4 * b + 4)) (nI_add (4 * b) (4)) ?_
                refine lv_iconst (v := 1) hx hb dX7_leftIn_13 (by decide) ?_
                refine lv_isub hx hb dX7_leftIn_14 ?_
                refine lv_as (y := nI (4 * b + 4 - 1)) (pk_sub (a := 4 * b + 4) (b := 1) (by omega)) ?_
                refine lv_iload_n hx hb dX7_leftIn_15 rfl (lv_at hl 0 rfl) ?_
                refine lv_isub hx hb dX7_leftIn_16 ?_
                refine lv_as (y := nI (4 * b)) (by rw [show 4 * b + 4 - 1 = 4 * b + 3 by omega]; exact (pk_sub (a := 4 * b + 3) (b := 3) (by omega))) ?_
                refine lv_iconst (v := 0) hx hb dX7_leftIn_17 (by decide) ?_
                refine rp_callS hX good7 i7 (c7_pageOf l D cI r f (4 * b) 0 (by omega) (by omega)) q7_pageOf rfl (m7 23 rfl) (m7 24 rfl) ⟨Nat.le_of_ble_eq_true rfl, Nat.le_of_ble_eq_true rfl⟩ hK [0] rfl hP [0] rfl hS hl.1 rfl (Nat.le_of_ble_eq_true rfl) dX7_leftIn_18 ⟨Nat.zero_le _, Nat.zero_le _⟩ (fun H locs hP hS => ?_)
                refine lv_if_ne (tgt := 30) hx hb dX7_leftIn_21 (by decide) (fun c21_8 => ?_) (fun c21_8 => ?_)
                · skip
                  refine lv_iload_n hx hb dX7_leftIn_30 rfl (lv_at hl 0 rfl) ?_
                  exact rp_ret hX hr hlocks hS (by simp [lft, c21_2, c21_4, c21_6, c21_8]; rfl) dX7_leftIn_31
                · skip
                  refine lv_iinc (v := 4) (lv' := [(2, .int (4)), (0, .ref r), (1, .int (nI (b)))]) hx hb dX7_leftIn_24 hl (k := 0) rfl (by decide) (by decide) rfl (fun ls hl => ?_)
                  refine lv_goto (tgt := 2) hx hb dX7_leftIn_27 (by decide) ?_
                  refine lv_iload_n hx hb dX7_leftIn_2 rfl (lv_at hl 0 rfl) ?_
                  refine lv_iconst (v := 4) hx hb dX7_leftIn_3 (by decide) ?_
                  refine lv_icmp_ge (tgt := 30) hx hb dX7_leftIn_4 (by decide) (fun c4_9 => ?_) (fun c4_9 => ?_)
                  · skip
                    refine lv_iload_n hx hb dX7_leftIn_30 rfl (lv_at hl 0 rfl) ?_
                    exact rp_ret hX hr hlocks hS (by simp [lft, c21_2, c21_4, c21_6, c21_8]; rfl) dX7_leftIn_31
                  · skip
                    exact absurd c4_9 (by decide)
theorem dX7_leftOpen_0 : decode cX7_leftOpen 0 = .ok (.aload_n 0, 1) := by decide +kernel
theorem dX7_leftOpen_1 : decode cX7_leftOpen 1 = .ok (.iconst 3, 1) := by decide +kernel
theorem dX7_leftOpen_2 : decode cX7_leftOpen 2 = .ok (.iaload, 1) := by decide +kernel
theorem dX7_leftOpen_3 : decode cX7_leftOpen 3 = .ok (.bipush (-9), 2) := by decide +kernel
theorem dX7_leftOpen_5 : decode cX7_leftOpen 5 = .ok (.if_icmp .ne 7, 3) := by decide +kernel
theorem dX7_leftOpen_8 : decode cX7_leftOpen 8 = .ok (.iconst 0, 1) := by decide +kernel
theorem dX7_leftOpen_9 : decode cX7_leftOpen 9 = .ok (.goto 10, 3) := by decide +kernel
theorem dX7_leftOpen_12 : decode cX7_leftOpen 12 = .ok (.aload_n 0, 1) := by decide +kernel
theorem dX7_leftOpen_13 : decode cX7_leftOpen 13 = .ok (.aload_n 0, 1) := by decide +kernel
theorem dX7_leftOpen_14 : decode cX7_leftOpen 14 = .ok (.iconst 3, 1) := by decide +kernel
theorem dX7_leftOpen_15 : decode cX7_leftOpen 15 = .ok (.iaload, 1) := by decide +kernel
theorem dX7_leftOpen_16 : decode cX7_leftOpen 16 = .ok (.invokestatic 80, 3) := by decide +kernel
theorem dX7_leftOpen_19 : decode cX7_leftOpen 19 = .ok (.ireturn, 1) := by decide +kernel
theorem q7_leftOpen : CQ W7 yX7_leftOpen cX7_leftOpen 1 (some .int) 1 := ⟨(m7 52 rfl), by decide, by decide, by decide +kernel⟩
set_option maxHeartbeats 4000000 in
set_option maxRecDepth 100000 in
theorem c7_leftOpen (l : Launch) (D : va_G) (cI : ClassId) (r : Nat) (f : Nat → Int32) (o : Option Nat) (hO : f 3 = oI o) (ho8 : ∀ b, o = some b → b < 8) : RP l yX7_leftOpen cX7_leftOpen 1 .int W7 2 44 D [(r, .inl (cI, 151, .inl f))] [(cI, .int)] [.ref r] (nI (lfo f o)) := by
  refine rp_of RX7 (by decide) rfl (Nat.le_of_ble_eq_true rfl) ?_
  intro p e s m below meth c ls hX hr hlocks hK hP hS hl
  have hx := hX.1
  have hb := hX.2.1
  have hown := hX.2.2.2.1
  have hts := hX.2.2.2.2
  have hl : lv_has ls 1 [(0, .ref r)] := hl
  rcases o with _ | b0
  · skip
    refine lv_aload_n hx hb dX7_leftOpen_0 rfl (lv_at hl 0 rfl) ?_
    refine lv_iconst (v := 3) hx hb dX7_leftOpen_1 (by decide) ?_
    refine ra_iald (i := 3) hx hb hK hP 0 0 rfl rfl (by omega) (by decide) dX7_leftOpen_2 ?_
    refine lv_as (show f (3) = (-9) from hO) ?_
    refine lv_bipush (v := (-9)) hx hb dX7_leftOpen_3 (by decide) ?_
    refine lv_icmp_ne (tgt := 12) hx hb dX7_leftOpen_5 (by decide) (fun c5_1 => ?_) (fun c5_1 => ?_)
    · skip
      exact absurd c5_1 (by decide)
    · skip
      refine lv_iconst (v := 0) hx hb dX7_leftOpen_8 (by decide) ?_
      refine lv_goto (tgt := 19) hx hb dX7_leftOpen_9 (by decide) ?_
      exact rp_ret hX hr hlocks hS (rfl) dX7_leftOpen_19
  · skip
    have hb0 := ho8 b0 rfl
    refine lv_aload_n hx hb dX7_leftOpen_0 rfl (lv_at hl 0 rfl) ?_
    refine lv_iconst (v := 3) hx hb dX7_leftOpen_1 (by decide) ?_
    refine ra_iald (i := 3) hx hb hK hP 0 0 rfl rfl (by omega) (by decide) dX7_leftOpen_2 ?_
    refine lv_as (show f (3) = nI (b0) from hO) ?_
    refine lv_bipush (v := (-9)) hx hb dX7_leftOpen_3 (by decide) ?_
    refine lv_icmp_ne (tgt := 12) hx hb dX7_leftOpen_5 (by decide) (fun c5_2 => ?_) (fun c5_2 => ?_)
    · skip
      refine lv_aload_n hx hb dX7_leftOpen_12 rfl (lv_at hl 0 rfl) ?_
      refine lv_aload_n hx hb dX7_leftOpen_13 rfl (lv_at hl 0 rfl) ?_
      refine lv_iconst (v := 3) hx hb dX7_leftOpen_14 (by decide) ?_
      refine ra_iald (i := 3) hx hb hK hP 0 0 rfl rfl (by omega) (by decide) dX7_leftOpen_15 ?_
      refine lv_as (show f (3) = nI (b0) from hO) ?_
      refine rp_callS hX good7 i7 (c7_leftIn l D cI r f b0 (by omega)) q7_leftIn rfl (m7 47 rfl) (m7 48 rfl) ⟨Nat.le_of_ble_eq_true rfl, Nat.le_of_ble_eq_true rfl⟩ hK [0] rfl hP [0] rfl hS hl.1 rfl (Nat.le_of_ble_eq_true rfl) dX7_leftOpen_16 ⟨Nat.zero_le _, Nat.zero_le _⟩ (fun H locs hP hS => ?_)
      exact rp_ret hX hr hlocks hS (rfl) dX7_leftOpen_19
    · skip
      exact absurd c5_2 (oI_ne (by omega))
theorem dX7_nextPage_0 : decode cX7_nextPage 0 = .ok (.aload_n 0, 1) := by decide +kernel
theorem dX7_nextPage_1 : decode cX7_nextPage 1 = .ok (.invokestatic 83, 3) := by decide +kernel
theorem dX7_nextPage_4 : decode cX7_nextPage 4 = .ok (.istore_n 1, 1) := by decide +kernel
theorem dX7_nextPage_5 : decode cX7_nextPage 5 = .ok (.iload_n 1, 1) := by decide +kernel
theorem dX7_nextPage_6 : decode cX7_nextPage 6 = .ok (.ifCond .ne 8, 3) := by decide +kernel
theorem dX7_nextPage_9 : decode cX7_nextPage 9 = .ok (.bipush (-9), 2) := by decide +kernel
theorem dX7_nextPage_11 : decode cX7_nextPage 11 = .ok (.goto 12, 3) := by decide +kernel
theorem dX7_nextPage_14 : decode cX7_nextPage 14 = .ok (.iconst 4, 1) := by decide +kernel
theorem dX7_nextPage_15 : decode cX7_nextPage 15 = .ok (.aload_n 0, 1) := by decide +kernel
theorem dX7_nextPage_16 : decode cX7_nextPage 16 = .ok (.iconst 3, 1) := by decide +kernel
theorem dX7_nextPage_17 : decode cX7_nextPage 17 = .ok (.iaload, 1) := by decide +kernel
theorem dX7_nextPage_18 : decode cX7_nextPage 18 = .ok (.imul, 1) := by decide +kernel
theorem dX7_nextPage_19 : decode cX7_nextPage 19 = .ok (.iconst 4, 1) := by decide +kernel
theorem dX7_nextPage_20 : decode cX7_nextPage 20 = .ok (.iadd, 1) := by decide +kernel
theorem dX7_nextPage_21 : decode cX7_nextPage 21 = .ok (.iload_n 1, 1) := by decide +kernel
theorem dX7_nextPage_22 : decode cX7_nextPage 22 = .ok (.isub, 1) := by decide +kernel
theorem dX7_nextPage_23 : decode cX7_nextPage 23 = .ok (.ireturn, 1) := by decide +kernel
theorem q7_nextPage : CQ W7 yX7_nextPage cX7_nextPage 2 (some .int) 1 := ⟨(m7 79 rfl), by decide, by decide, by decide +kernel⟩
set_option maxHeartbeats 4000000 in
set_option maxRecDepth 100000 in
theorem c7_nextPage (l : Launch) (D : va_G) (cI : ClassId) (r : Nat) (f : Nat → Int32) (o : Option Nat) (hO : f 3 = oI o) (ho8 : ∀ b, o = some b → b < 8) : RP l yX7_nextPage cX7_nextPage 2 .int W7 3 64 D [(r, .inl (cI, 151, .inl f))] [(cI, .int)] [.ref r] (oI (nxp f o)) := by
  refine rp_of RX7 (by decide) rfl (Nat.le_of_ble_eq_true rfl) ?_
  intro p e s m below meth c ls hX hr hlocks hK hP hS hl
  have hx := hX.1
  have hb := hX.2.1
  have hown := hX.2.2.2.1
  have hts := hX.2.2.2.2
  have hl : lv_has ls 2 [(0, .ref r)] := hl
  rcases o with _ | b0
  · skip
    refine lv_aload_n hx hb dX7_nextPage_0 rfl (lv_at hl 0 rfl) ?_
    refine rp_callS hX good7 i7 (c7_leftOpen l D cI r f none hO ho8) q7_leftOpen rfl (m7 50 rfl) (m7 51 rfl) ⟨Nat.le_of_ble_eq_true rfl, Nat.le_of_ble_eq_true rfl⟩ hK [0] rfl hP [0] rfl hS hl.1 rfl (Nat.le_of_ble_eq_true rfl) dX7_nextPage_1 ⟨Nat.zero_le _, Nat.zero_le _⟩ (fun H locs hP hS => ?_)
    refine lv_istore_n (lv' := [(1, .int (nI (lfo f none))), (0, .ref r)]) hx hb dX7_nextPage_4 rfl hl (by decide) rfl (fun ls hl => ?_)
    have hle := lfo_le f none
    refine lv_iload_n hx hb dX7_nextPage_5 rfl (lv_at hl 0 rfl) ?_
    refine lv_if_ne (tgt := 14) hx hb dX7_nextPage_6 (by decide) (fun c6_1 => ?_) (fun c6_1 => ?_)
    · skip
      have c6_1 := cn_ne (a := lfo f none) (b := 0) (by omega) (by omega) c6_1
      exact absurd rfl c6_1
    · skip
      have c6_1 := cn_eq (a := lfo f none) (b := 0) (by omega) (by omega) c6_1
      refine lv_bipush (v := (-9)) hx hb dX7_nextPage_9 (by decide) ?_
      refine lv_goto (tgt := 23) hx hb dX7_nextPage_11 (by decide) ?_
      exact rp_ret hX hr hlocks hS (rfl) dX7_nextPage_23
  · skip
    have hb0 := ho8 b0 rfl
    refine lv_aload_n hx hb dX7_nextPage_0 rfl (lv_at hl 0 rfl) ?_
    refine rp_callS hX good7 i7 (c7_leftOpen l D cI r f (some b0) hO ho8) q7_leftOpen rfl (m7 50 rfl) (m7 51 rfl) ⟨Nat.le_of_ble_eq_true rfl, Nat.le_of_ble_eq_true rfl⟩ hK [0] rfl hP [0] rfl hS hl.1 rfl (Nat.le_of_ble_eq_true rfl) dX7_nextPage_1 ⟨Nat.zero_le _, Nat.zero_le _⟩ (fun H locs hP hS => ?_)
    refine lv_istore_n (lv' := [(1, .int (nI (lfo f (some b0)))), (0, .ref r)]) hx hb dX7_nextPage_4 rfl hl (by decide) rfl (fun ls hl => ?_)
    have hle := lfo_le f (some b0)
    refine lv_iload_n hx hb dX7_nextPage_5 rfl (lv_at hl 0 rfl) ?_
    refine lv_if_ne (tgt := 14) hx hb dX7_nextPage_6 (by decide) (fun c6_2 => ?_) (fun c6_2 => ?_)
    · skip
      have c6_2 := cn_ne (a := lfo f (some b0)) (b := 0) (by omega) (by omega) c6_2
      refine lv_iconst (v := 4) hx hb dX7_nextPage_14 (by decide) ?_
      refine lv_aload_n hx hb dX7_nextPage_15 rfl (lv_at hl 1 rfl) ?_
      refine lv_iconst (v := 3) hx hb dX7_nextPage_16 (by decide) ?_
      refine ra_iald (i := 3) hx hb hK hP 0 0 rfl rfl (by omega) (by decide) dX7_nextPage_17 ?_
      refine lv_as (show f (3) = nI (b0) from hO) ?_
      refine lv_imul hx hb dX7_nextPage_18 ?_
      refine lv_as (y := nI (4 * b0)) (pk_mul (4) (b0)) ?_
      refine lv_iconst (v := 4) hx hb dX7_nextPage_19 (by decide) ?_
      refine lv_iadd hx hb dX7_nextPage_20 ?_
      refine lv_as (y := nI (4 * b0 + 4)) (nI_add (4 * b0) (4)) ?_
      refine lv_iload_n hx hb dX7_nextPage_21 rfl (lv_at hl 0 rfl) ?_
      refine lv_isub hx hb dX7_nextPage_22 ?_
      refine lv_as (y := nI (4 * b0 + 4 - (lfo f (some b0)))) (pk_sub (a := 4 * b0 + 4) (b := lfo f (some b0)) (by omega)) ?_
      exact rp_ret hX hr hlocks hS (by simp [nxp, show ¬ lft f b0 = 0 from c6_2, oI]; rfl) dX7_nextPage_23
    · skip
      have c6_2 := cn_eq (a := lfo f (some b0)) (b := 0) (by omega) (by omega) c6_2
      refine lv_bipush (v := (-9)) hx hb dX7_nextPage_9 (by decide) ?_
      refine lv_goto (tgt := 23) hx hb dX7_nextPage_11 (by decide) ?_
      exact rp_ret hX hr hlocks hS (by simp [nxp, show lft f b0 = 0 from c6_2, oI]) dX7_nextPage_23
theorem dX7_isStale_0 : decode cX7_isStale 0 = .ok (.iload_n 1, 1) := by decide +kernel
theorem dX7_isStale_1 : decode cX7_isStale 1 = .ok (.aload_n 0, 1) := by decide +kernel
theorem dX7_isStale_2 : decode cX7_isStale 2 = .ok (.iconst 3, 1) := by decide +kernel
theorem dX7_isStale_3 : decode cX7_isStale 3 = .ok (.iaload, 1) := by decide +kernel
theorem dX7_isStale_4 : decode cX7_isStale 4 = .ok (.if_icmp .eq 36, 3) := by decide +kernel
theorem dX7_isStale_7 : decode cX7_isStale 7 = .ok (.aload_n 0, 1) := by decide +kernel
theorem dX7_isStale_8 : decode cX7_isStale 8 = .ok (.iload_n 1, 1) := by decide +kernel
theorem dX7_isStale_9 : decode cX7_isStale 9 = .ok (.invokestatic 77, 3) := by decide +kernel
theorem dX7_isStale_12 : decode cX7_isStale 12 = .ok (.ifCond .ne 28, 3) := by decide +kernel
theorem dX7_isStale_15 : decode cX7_isStale 15 = .ok (.aload_n 0, 1) := by decide +kernel
theorem dX7_isStale_16 : decode cX7_isStale 16 = .ok (.iload_n 1, 1) := by decide +kernel
theorem dX7_isStale_17 : decode cX7_isStale 17 = .ok (.iconst 2, 1) := by decide +kernel
theorem dX7_isStale_18 : decode cX7_isStale 18 = .ok (.invokestatic 74, 3) := by decide +kernel
theorem dX7_isStale_21 : decode cX7_isStale 21 = .ok (.aload_n 0, 1) := by decide +kernel
theorem dX7_isStale_22 : decode cX7_isStale 22 = .ok (.iload_n 1, 1) := by decide +kernel
theorem dX7_isStale_23 : decode cX7_isStale 23 = .ok (.iconst 1, 1) := by decide +kernel
theorem dX7_isStale_24 : decode cX7_isStale 24 = .ok (.invokestatic 74, 3) := by decide +kernel
theorem dX7_isStale_27 : decode cX7_isStale 27 = .ok (.iadd, 1) := by decide +kernel
theorem dX7_isStale_28 : decode cX7_isStale 28 = .ok (.aload_n 0, 1) := by decide +kernel
theorem dX7_isStale_29 : decode cX7_isStale 29 = .ok (.iload_n 1, 1) := by decide +kernel
theorem dX7_isStale_30 : decode cX7_isStale 30 = .ok (.invokestatic 86, 3) := by decide +kernel
theorem dX7_isStale_33 : decode cX7_isStale 33 = .ok (.if_icmp .le 7, 3) := by decide +kernel
theorem dX7_isStale_36 : decode cX7_isStale 36 = .ok (.iconst 1, 1) := by decide +kernel
theorem dX7_isStale_37 : decode cX7_isStale 37 = .ok (.goto 4, 3) := by decide +kernel
theorem dX7_isStale_40 : decode cX7_isStale 40 = .ok (.iconst 0, 1) := by decide +kernel
theorem dX7_isStale_41 : decode cX7_isStale 41 = .ok (.ireturn, 1) := by decide +kernel
theorem q7_isStale : CQ W7 yX7_isStale cX7_isStale 2 (some .boolean) 2 := ⟨(m7 61 rfl), by decide, by decide, by decide +kernel⟩
set_option maxHeartbeats 4000000 in
set_option maxRecDepth 100000 in
theorem c7_isStale (l : Launch) (D : va_G) (cI : ClassId) (r : Nat) (f : Nat → Int32) (b : Nat) (hb8 : b < 8) (B : Nat) (hB : f 0 = nI B) (hB8 : B ≤ 8) : RP l yX7_isStale cX7_isStale 2 .boolean W7 5 113 D [(r, .inl (cI, 151, .inl f))] [(cI, .int)] [.ref r, .int (nI (b))] (bI (stlP f B b)) := by
  refine rp_of RX7 (by decide) rfl (Nat.le_of_ble_eq_true rfl) ?_
  intro p e s m below meth c ls hX hr hlocks hK hP hS hl
  have hx := hX.1
  have hb := hX.2.1
  have hown := hX.2.2.2.1
  have hts := hX.2.2.2.2
  have hl : lv_has ls 2 [(0, .ref r), (1, .int (nI (b)))] := hl
  refine lv_iload_n hx hb dX7_isStale_0 rfl (lv_at hl 1 rfl) ?_
  refine lv_aload_n hx hb dX7_isStale_1 rfl (lv_at hl 0 rfl) ?_
  refine lv_iconst (v := 3) hx hb dX7_isStale_2 (by decide) ?_
  refine ra_iald (i := 3) hx hb hK hP 0 0 rfl rfl (by omega) (by decide) dX7_isStale_3 ?_
  refine lv_icmp_eq (tgt := 40) hx hb dX7_isStale_4 (by decide) (fun c4_1 => ?_) (fun c4_1 => ?_)
  · skip
    refine lv_iconst (v := 0) hx hb dX7_isStale_40 (by decide) ?_
    exact rp_retz hX hr hlocks hS ((bI_0 (fun z => z.1 c4_1)).symm) dX7_isStale_41
  · skip
    refine lv_aload_n hx hb dX7_isStale_7 rfl (lv_at hl 0 rfl) ?_
    refine lv_iload_n hx hb dX7_isStale_8 rfl (lv_at hl 1 rfl) ?_
    refine rp_callS hX good7 i7 (c7_isClean l D cI r f b (by omega)) q7_isClean rfl (m7 44 rfl) (m7 45 rfl) ⟨Nat.le_of_ble_eq_true rfl, Nat.le_of_ble_eq_true rfl⟩ hK [0] rfl hP [0] rfl hS hl.1 rfl (Nat.le_of_ble_eq_true rfl) dX7_isStale_9 ⟨Nat.zero_le _, Nat.zero_le _⟩ (fun H locs hP hS => ?_)
    refine lv_if_ne (tgt := 40) hx hb dX7_isStale_12 (by decide) (fun c12_2 => ?_) (fun c12_2 => ?_)
    · skip
      have c12_2 := bI_t c12_2
      refine lv_iconst (v := 0) hx hb dX7_isStale_40 (by decide) ?_
      exact rp_retz hX hr hlocks hS ((bI_0 (fun z => z.2.1 c12_2)).symm) dX7_isStale_41
    · skip
      have c12_2 := bI_f c12_2
      refine lv_aload_n hx hb dX7_isStale_15 rfl (lv_at hl 0 rfl) ?_
      refine lv_iload_n hx hb dX7_isStale_16 rfl (lv_at hl 1 rfl) ?_
      refine lv_iconst (v := 2) hx hb dX7_isStale_17 (by decide) ?_
      refine rp_callS hX good7 i7 (c7_countOf l D cI r f b (by omega) 2) q7_countOf rfl (m7 41 rfl) (m7 42 rfl) ⟨Nat.le_of_ble_eq_true rfl, Nat.le_of_ble_eq_true rfl⟩ hK [0] rfl hP [0] rfl hS hl.1 rfl (Nat.le_of_ble_eq_true rfl) dX7_isStale_18 ⟨Nat.zero_le _, Nat.zero_le _⟩ (fun H locs hP hS => ?_)
      refine lv_aload_n hx hb dX7_isStale_21 rfl (lv_at hl 0 rfl) ?_
      refine lv_iload_n hx hb dX7_isStale_22 rfl (lv_at hl 1 rfl) ?_
      refine lv_iconst (v := 1) hx hb dX7_isStale_23 (by decide) ?_
      refine rp_callS hX good7 i7 (c7_countOf l D cI r f b (by omega) 1) q7_countOf rfl (m7 41 rfl) (m7 42 rfl) ⟨Nat.le_of_ble_eq_true rfl, Nat.le_of_ble_eq_true rfl⟩ hK [0] rfl hP [0] rfl hS hl.1 rfl (Nat.le_of_ble_eq_true rfl) dX7_isStale_24 ⟨Nat.zero_le _, Nat.zero_le _⟩ (fun H locs hP hS => ?_)
      refine lv_iadd hx hb dX7_isStale_27 ?_
      refine lv_as (y := nI (cst f b 2 4 + cst f b 1 4)) (nI_add (cst f b 2 4) (cst f b 1 4)) ?_
      refine lv_aload_n hx hb dX7_isStale_28 rfl (lv_at hl 0 rfl) ?_
      refine lv_iload_n hx hb dX7_isStale_29 rfl (lv_at hl 1 rfl) ?_
      refine rp_callS hX good7 i7 (c7_liveOf l D cI r f b (by omega) B hB hB8) q7_liveOf rfl (m7 53 rfl) (m7 54 rfl) ⟨Nat.le_of_ble_eq_true rfl, Nat.le_of_ble_eq_true rfl⟩ hK [0] rfl hP [0] rfl hS hl.1 rfl (Nat.le_of_ble_eq_true rfl) dX7_isStale_30 ⟨Nat.zero_le _, Nat.zero_le _⟩ (fun H locs hP hS => ?_)
      have h91 := cst_le (f := f) (b := b) (st := 1) 4
      have h92 := cst_le (f := f) (b := b) (st := 2) 4
      have h93 := lvs_le (f := f) (B := B) (b := b) 4
      refine lv_icmp_le (tgt := 40) hx hb dX7_isStale_33 (by decide) (fun c33_3 => ?_) (fun c33_3 => ?_)
      · skip
        have c33_3 := cn_le (a := cst f b 2 4 + cst f b 1 4) (b := lvs f B b 4) (by omega) (by omega) c33_3
        refine lv_iconst (v := 0) hx hb dX7_isStale_40 (by decide) ?_
        exact rp_retz hX hr hlocks hS ((bI_0 (fun z => absurd z.2.2 (by omega))).symm) dX7_isStale_41
      · skip
        have c33_3 := cn_nle (a := cst f b 2 4 + cst f b 1 4) (b := lvs f B b 4) (by omega) (by omega) c33_3
        refine lv_iconst (v := 1) hx hb dX7_isStale_36 (by decide) ?_
        refine lv_goto (tgt := 41) hx hb dX7_isStale_37 (by decide) ?_
        exact rp_retz hX hr hlocks hS ((bI_1 ⟨c4_1, c12_2, c33_3⟩).symm) dX7_isStale_41
theorem dX7_isVictim_0 : decode cX7_isVictim 0 = .ok (.aload_n 0, 1) := by decide +kernel
theorem dX7_isVictim_1 : decode cX7_isVictim 1 = .ok (.iload_n 1, 1) := by decide +kernel
theorem dX7_isVictim_2 : decode cX7_isVictim 2 = .ok (.invokestatic 86, 3) := by decide +kernel
theorem dX7_isVictim_5 : decode cX7_isVictim 5 = .ok (.istore_n 2, 1) := by decide +kernel
theorem dX7_isVictim_6 : decode cX7_isVictim 6 = .ok (.aload_n 0, 1) := by decide +kernel
theorem dX7_isVictim_7 : decode cX7_isVictim 7 = .ok (.invokestatic 83, 3) := by decide +kernel
theorem dX7_isVictim_10 : decode cX7_isVictim 10 = .ok (.aload_n 0, 1) := by decide +kernel
theorem dX7_isVictim_11 : decode cX7_isVictim 11 = .ok (.invokestatic 89, 3) := by decide +kernel
theorem dX7_isVictim_14 : decode cX7_isVictim 14 = .ok (.ifCond .le 7, 3) := by decide +kernel
theorem dX7_isVictim_17 : decode cX7_isVictim 17 = .ok (.iconst 4, 1) := by decide +kernel
theorem dX7_isVictim_18 : decode cX7_isVictim 18 = .ok (.goto 4, 3) := by decide +kernel
theorem dX7_isVictim_21 : decode cX7_isVictim 21 = .ok (.iconst 0, 1) := by decide +kernel
theorem dX7_isVictim_22 : decode cX7_isVictim 22 = .ok (.iadd, 1) := by decide +kernel
theorem dX7_isVictim_23 : decode cX7_isVictim 23 = .ok (.istore_n 3, 1) := by decide +kernel
theorem dX7_isVictim_24 : decode cX7_isVictim 24 = .ok (.aload_n 0, 1) := by decide +kernel
theorem dX7_isVictim_25 : decode cX7_isVictim 25 = .ok (.iload_n 1, 1) := by decide +kernel
theorem dX7_isVictim_26 : decode cX7_isVictim 26 = .ok (.invokestatic 92, 3) := by decide +kernel
theorem dX7_isVictim_29 : decode cX7_isVictim 29 = .ok (.ifCond .eq 28, 3) := by decide +kernel
theorem dX7_isVictim_32 : decode cX7_isVictim 32 = .ok (.aload_n 0, 1) := by decide +kernel
theorem dX7_isVictim_33 : decode cX7_isVictim 33 = .ok (.bipush 15, 2) := by decide +kernel
theorem dX7_isVictim_35 : decode cX7_isVictim 35 = .ok (.iload_n 1, 1) := by decide +kernel
theorem dX7_isVictim_36 : decode cX7_isVictim 36 = .ok (.iadd, 1) := by decide +kernel
theorem dX7_isVictim_37 : decode cX7_isVictim 37 = .ok (.iaload, 1) := by decide +kernel
theorem dX7_isVictim_38 : decode cX7_isVictim 38 = .ok (.aload_n 0, 1) := by decide +kernel
theorem dX7_isVictim_39 : decode cX7_isVictim 39 = .ok (.iconst 1, 1) := by decide +kernel
theorem dX7_isVictim_40 : decode cX7_isVictim 40 = .ok (.iaload, 1) := by decide +kernel
theorem dX7_isVictim_41 : decode cX7_isVictim 41 = .ok (.if_icmp .ge 16, 3) := by decide +kernel
theorem dX7_isVictim_44 : decode cX7_isVictim 44 = .ok (.iload_n 2, 1) := by decide +kernel
theorem dX7_isVictim_45 : decode cX7_isVictim 45 = .ok (.ifCond .eq 8, 3) := by decide +kernel
theorem dX7_isVictim_48 : decode cX7_isVictim 48 = .ok (.iload_n 2, 1) := by decide +kernel
theorem dX7_isVictim_49 : decode cX7_isVictim 49 = .ok (.iload_n 3, 1) := by decide +kernel
theorem dX7_isVictim_50 : decode cX7_isVictim 50 = .ok (.if_icmp .gt 7, 3) := by decide +kernel
theorem dX7_isVictim_53 : decode cX7_isVictim 53 = .ok (.iconst 1, 1) := by decide +kernel
theorem dX7_isVictim_54 : decode cX7_isVictim 54 = .ok (.goto 4, 3) := by decide +kernel
theorem dX7_isVictim_57 : decode cX7_isVictim 57 = .ok (.iconst 0, 1) := by decide +kernel
theorem dX7_isVictim_58 : decode cX7_isVictim 58 = .ok (.ireturn, 1) := by decide +kernel
theorem q7_isVictim : CQ W7 yX7_isVictim cX7_isVictim 4 (some .boolean) 2 := ⟨(m7 67 rfl), by decide, by decide, by decide +kernel⟩
set_option maxHeartbeats 4000000 in
set_option maxRecDepth 100000 in
theorem c7_isVictim (l : Launch) (D : va_G) (cI : ClassId) (r : Nat) (f : Nat → Int32) (b : Nat) (hb8 : b < 8) (B : Nat) (hB : f 0 = nI B) (hB8 : B ≤ 8) (o : Option Nat) (hO : f 3 = oI o) (ho8 : ∀ b, o = some b → b < 8) : RP l yX7_isVictim cX7_isVictim 4 .boolean W7 6 134 D [(r, .inl (cI, 151, .inl f))] [(cI, .int)] [.ref r, .int (nI (b))] (bI (vicP f B o b)) := by
  refine rp_of RX7 (by decide) rfl (Nat.le_of_ble_eq_true rfl) ?_
  intro p e s m below meth c ls hX hr hlocks hK hP hS hl
  have hx := hX.1
  have hb := hX.2.1
  have hown := hX.2.2.2.1
  have hts := hX.2.2.2.2
  have hl : lv_has ls 4 [(0, .ref r), (1, .int (nI (b)))] := hl
  have JP24 : ∀ (room : Nat), (hroom : room = lfo f o + if 0 < cln f B then 4 else 0) → (hr8 : room ≤ 8) → (h93 : lvs f B b 4 ≤ 4) → ∀ (H : Heap) (locs : List Loc), va_P D vwCl [(r, .inl (cI, 151, .inl f))] H → va_S (fun _ => False) s.heap H locs → ∀ ls : Array Slot, lv_has ls 4 [(0, .ref r), (1, .int (nI (b))), (2, .int (nI (lvs f B b 4))), (3, .int (nI (room)))] → W p l e ({ frames := 6, cells := 0, slots := 0, locals := 134 } : Room) s m ([.ref r, .int (nI (b))] : List Value).toArray below meth c H locs 0 0 (MQ below (rp_Qi (bI (vicP f B o b))) ([.ref r, .int (nI (b))] : List Value).toArray s 0 0 (fun _ => False)) (F0 m 24 ls []) := by
    intro room hroom hr8 h93 H locs hP hS ls hl
    refine lv_aload_n hx hb dX7_isVictim_24 rfl (lv_at hl 0 rfl) ?_
    refine lv_iload_n hx hb dX7_isVictim_25 rfl (lv_at hl 1 rfl) ?_
    refine rp_callS hX good7 i7 (c7_isStale l D cI r f b (by omega) B hB hB8) q7_isStale rfl (m7 59 rfl) (m7 60 rfl) ⟨Nat.le_of_ble_eq_true rfl, Nat.le_of_ble_eq_true rfl⟩ hK [0] rfl hP [0] rfl hS hl.1 rfl (Nat.le_of_ble_eq_true rfl) dX7_isVictim_26 ⟨Nat.zero_le _, Nat.zero_le _⟩ (fun H locs hP hS => ?_)
    refine lv_if_eq (tgt := 57) hx hb dX7_isVictim_29 (by decide) (fun c29_1 => ?_) (fun c29_1 => ?_)
    · skip
      have c29_1 := bI_f c29_1
      refine lv_iconst (v := 0) hx hb dX7_isVictim_57 (by decide) ?_
      exact rp_retz hX hr hlocks hS ((bI_0 (fun z => c29_1 z.1)).symm) dX7_isVictim_58
    · skip
      have c29_1 := bI_t c29_1
      refine lv_aload_n hx hb dX7_isVictim_32 rfl (lv_at hl 0 rfl) ?_
      refine lv_bipush (v := 15) hx hb dX7_isVictim_33 (by decide) ?_
      refine lv_iload_n hx hb dX7_isVictim_35 rfl (lv_at hl 1 rfl) ?_
      refine lv_iadd hx hb dX7_isVictim_36 ?_
      refine lv_as (y := nI (15 + b)) (nI_add (15) (b)) ?_
      refine ra_iald (i := 15 + b) hx hb hK hP 0 0 rfl rfl (by omega) (by decide) dX7_isVictim_37 ?_
      refine lv_aload_n hx hb dX7_isVictim_38 rfl (lv_at hl 0 rfl) ?_
      refine lv_iconst (v := 1) hx hb dX7_isVictim_39 (by decide) ?_
      refine ra_iald (i := 1) hx hb hK hP 0 0 rfl rfl (by omega) (by decide) dX7_isVictim_40 ?_
      refine lv_icmp_ge (tgt := 57) hx hb dX7_isVictim_41 (by decide) (fun c41_2 => ?_) (fun c41_2 => ?_)
      · skip
        have c41_2 := i_nlt c41_2
        refine lv_iconst (v := 0) hx hb dX7_isVictim_57 (by decide) ?_
        exact rp_retz hX hr hlocks hS ((bI_0 (fun z => c41_2 z.2.1)).symm) dX7_isVictim_58
      · skip
        have c41_2 := i_lt c41_2
        refine lv_iload_n hx hb dX7_isVictim_44 rfl (lv_at hl 2 rfl) ?_
        refine lv_if_eq (tgt := 53) hx hb dX7_isVictim_45 (by decide) (fun c45_3 => ?_) (fun c45_3 => ?_)
        · skip
          have c45_3 := cn_eq (a := lvs f B b 4) (b := 0) (by omega) (by omega) c45_3
          refine lv_iconst (v := 1) hx hb dX7_isVictim_53 (by decide) ?_
          refine lv_goto (tgt := 58) hx hb dX7_isVictim_54 (by decide) ?_
          exact rp_retz hX hr hlocks hS ((bI_1 ⟨c29_1, c41_2, Or.inl c45_3⟩).symm) dX7_isVictim_58
        · skip
          have c45_3 := cn_ne (a := lvs f B b 4) (b := 0) (by omega) (by omega) c45_3
          refine lv_iload_n hx hb dX7_isVictim_48 rfl (lv_at hl 2 rfl) ?_
          refine lv_iload_n hx hb dX7_isVictim_49 rfl (lv_at hl 3 rfl) ?_
          refine lv_icmp_gt (tgt := 57) hx hb dX7_isVictim_50 (by decide) (fun c50_4 => ?_) (fun c50_4 => ?_)
          · skip
            have c50_4 := cn_lt (a := room) (b := lvs f B b 4) (by omega) (by omega) c50_4
            refine lv_iconst (v := 0) hx hb dX7_isVictim_57 (by decide) ?_
            exact rp_retz hX hr hlocks hS ((bI_0 (fun z => by have := z.2.2; omega)).symm) dX7_isVictim_58
          · skip
            have c50_4 := cn_nlt (a := room) (b := lvs f B b 4) (by omega) (by omega) c50_4
            refine lv_iconst (v := 1) hx hb dX7_isVictim_53 (by decide) ?_
            refine lv_goto (tgt := 58) hx hb dX7_isVictim_54 (by decide) ?_
            exact rp_retz hX hr hlocks hS ((bI_1 ⟨c29_1, c41_2, Or.inr (by omega)⟩).symm) dX7_isVictim_58
  refine lv_aload_n hx hb dX7_isVictim_0 rfl (lv_at hl 0 rfl) ?_
  refine lv_iload_n hx hb dX7_isVictim_1 rfl (lv_at hl 1 rfl) ?_
  refine rp_callS hX good7 i7 (c7_liveOf l D cI r f b (by omega) B hB hB8) q7_liveOf rfl (m7 53 rfl) (m7 54 rfl) ⟨Nat.le_of_ble_eq_true rfl, Nat.le_of_ble_eq_true rfl⟩ hK [0] rfl hP [0] rfl hS hl.1 rfl (Nat.le_of_ble_eq_true rfl) dX7_isVictim_2 ⟨Nat.zero_le _, Nat.zero_le _⟩ (fun H locs hP hS => ?_)
  refine lv_istore_n (lv' := [(2, .int (nI (lvs f B b 4))), (0, .ref r), (1, .int (nI (b)))]) hx hb dX7_isVictim_5 rfl hl (by decide) rfl (fun ls hl => ?_)
  refine lv_aload_n hx hb dX7_isVictim_6 rfl (lv_at hl 1 rfl) ?_
  refine rp_callS hX good7 i7 (c7_leftOpen l D cI r f o hO ho8) q7_leftOpen rfl (m7 50 rfl) (m7 51 rfl) ⟨Nat.le_of_ble_eq_true rfl, Nat.le_of_ble_eq_true rfl⟩ hK [0] rfl hP [0] rfl hS hl.1 rfl (Nat.le_of_ble_eq_true rfl) dX7_isVictim_7 ⟨Nat.zero_le _, Nat.zero_le _⟩ (fun H locs hP hS => ?_)
  refine lv_aload_n hx hb dX7_isVictim_10 rfl (lv_at hl 1 rfl) ?_
  refine rp_callS hX good7 i7 (c7_cleanBlocks l D cI r f B hB hB8) q7_cleanBlocks rfl (m7 56 rfl) (m7 57 rfl) ⟨Nat.le_of_ble_eq_true rfl, Nat.le_of_ble_eq_true rfl⟩ hK [0] rfl hP [0] rfl hS hl.1 rfl (Nat.le_of_ble_eq_true rfl) dX7_isVictim_11 ⟨Nat.zero_le _, Nat.zero_le _⟩ (fun H locs hP hS => ?_)
  have h91 := cln_le (f := f) B
  have h92 := lfo_le f o
  have h93 := lvs_le (f := f) (B := B) (b := b) 4
  refine lv_if_le (tgt := 21) hx hb dX7_isVictim_14 (by decide) (fun c14_5 => ?_) (fun c14_5 => ?_)
  · skip
    have c14_5 := cn_le (a := cln f B) (b := 0) (by omega) (by omega) c14_5
    refine lv_iconst (v := 0) hx hb dX7_isVictim_21 (by decide) ?_
    refine lv_iadd hx hb dX7_isVictim_22 ?_
    refine lv_as (y := nI (lfo f o + 0)) (nI_add (lfo f o) (0)) ?_
    refine lv_istore_n (lv' := [(3, .int (nI (lfo f o + 0))), (2, .int (nI (lvs f B b 4))), (0, .ref r), (1, .int (nI (b)))]) hx hb dX7_isVictim_23 rfl hl (by decide) rfl (fun ls hl => ?_)
    have hl : lv_has ls 4 [(3, .int (nI ((lfo f o + 0)))), (2, .int (nI (lvs f B b 4))), (0, .ref r), (1, .int (nI (b)))] := lv_re hl 0 rfl (show nI (lfo f o + 0) = nI ((lfo f o + 0)) from rfl)
    exact JP24 (lfo f o + 0) (by rw [if_neg (by omega)]) (by omega) (by omega) _ _ hP hS _ (lv_sub hl [2, 3, 1, 0] rfl)
  · skip
    have c14_5 := cn_nle (a := cln f B) (b := 0) (by omega) (by omega) c14_5
    refine lv_iconst (v := 4) hx hb dX7_isVictim_17 (by decide) ?_
    refine lv_goto (tgt := 22) hx hb dX7_isVictim_18 (by decide) ?_
    refine lv_iadd hx hb dX7_isVictim_22 ?_
    refine lv_as (y := nI (lfo f o + 4)) (nI_add (lfo f o) (4)) ?_
    refine lv_istore_n (lv' := [(3, .int (nI (lfo f o + 4))), (2, .int (nI (lvs f B b 4))), (0, .ref r), (1, .int (nI (b)))]) hx hb dX7_isVictim_23 rfl hl (by decide) rfl (fun ls hl => ?_)
    have hl : lv_has ls 4 [(3, .int (nI ((lfo f o + 4)))), (2, .int (nI (lvs f B b 4))), (0, .ref r), (1, .int (nI (b)))] := lv_re hl 0 rfl (show nI (lfo f o + 4) = nI ((lfo f o + 4)) from rfl)
    exact JP24 (lfo f o + 4) (by rw [if_pos c14_5]) (by omega) (by omega) _ _ hP hS _ (lv_sub hl [2, 3, 1, 0] rfl)
theorem dX7_greatestMark_0 : decode cX7_greatestMark 0 = .ok (.iconst 0, 1) := by decide +kernel
theorem dX7_greatestMark_1 : decode cX7_greatestMark 1 = .ok (.istore_n 2, 1) := by decide +kernel
theorem dX7_greatestMark_2 : decode cX7_greatestMark 2 = .ok (.iconst 0, 1) := by decide +kernel
theorem dX7_greatestMark_3 : decode cX7_greatestMark 3 = .ok (.istore_n 3, 1) := by decide +kernel
theorem dX7_greatestMark_4 : decode cX7_greatestMark 4 = .ok (.iload_n 3, 1) := by decide +kernel
theorem dX7_greatestMark_5 : decode cX7_greatestMark 5 = .ok (.iconst 4, 1) := by decide +kernel
theorem dX7_greatestMark_6 : decode cX7_greatestMark 6 = .ok (.if_icmp .ge 48, 3) := by decide +kernel
theorem dX7_greatestMark_9 : decode cX7_greatestMark 9 = .ok (.iconst 4, 1) := by decide +kernel
theorem dX7_greatestMark_10 : decode cX7_greatestMark 10 = .ok (.iload_n 1, 1) := by decide +kernel
theorem dX7_greatestMark_11 : decode cX7_greatestMark 11 = .ok (.imul, 1) := by decide +kernel
theorem dX7_greatestMark_12 : decode cX7_greatestMark 12 = .ok (.iload_n 3, 1) := by decide +kernel
theorem dX7_greatestMark_13 : decode cX7_greatestMark 13 = .ok (.iadd, 1) := by decide +kernel
theorem dX7_greatestMark_14 : decode cX7_greatestMark 14 = .ok (.istore 4, 2) := by decide +kernel
theorem dX7_greatestMark_16 : decode cX7_greatestMark 16 = .ok (.aload_n 0, 1) := by decide +kernel
theorem dX7_greatestMark_17 : decode cX7_greatestMark 17 = .ok (.iload 4, 2) := by decide +kernel
theorem dX7_greatestMark_19 : decode cX7_greatestMark 19 = .ok (.invokestatic 60, 3) := by decide +kernel
theorem dX7_greatestMark_22 : decode cX7_greatestMark 22 = .ok (.ifCond .eq 24, 3) := by decide +kernel
theorem dX7_greatestMark_25 : decode cX7_greatestMark 25 = .ok (.aload_n 0, 1) := by decide +kernel
theorem dX7_greatestMark_26 : decode cX7_greatestMark 26 = .ok (.iload 4, 2) := by decide +kernel
theorem dX7_greatestMark_28 : decode cX7_greatestMark 28 = .ok (.iconst 3, 1) := by decide +kernel
theorem dX7_greatestMark_29 : decode cX7_greatestMark 29 = .ok (.invokestatic 52, 3) := by decide +kernel
theorem dX7_greatestMark_32 : decode cX7_greatestMark 32 = .ok (.iload_n 2, 1) := by decide +kernel
theorem dX7_greatestMark_33 : decode cX7_greatestMark 33 = .ok (.if_icmp .le 13, 3) := by decide +kernel
theorem dX7_greatestMark_36 : decode cX7_greatestMark 36 = .ok (.aload_n 0, 1) := by decide +kernel
theorem dX7_greatestMark_37 : decode cX7_greatestMark 37 = .ok (.iload 4, 2) := by decide +kernel
theorem dX7_greatestMark_39 : decode cX7_greatestMark 39 = .ok (.iconst 3, 1) := by decide +kernel
theorem dX7_greatestMark_40 : decode cX7_greatestMark 40 = .ok (.invokestatic 52, 3) := by decide +kernel
theorem dX7_greatestMark_43 : decode cX7_greatestMark 43 = .ok (.goto 4, 3) := by decide +kernel
theorem dX7_greatestMark_46 : decode cX7_greatestMark 46 = .ok (.iload_n 2, 1) := by decide +kernel
theorem dX7_greatestMark_47 : decode cX7_greatestMark 47 = .ok (.istore_n 2, 1) := by decide +kernel
theorem dX7_greatestMark_48 : decode cX7_greatestMark 48 = .ok (.iinc 3 1, 3) := by decide +kernel
theorem dX7_greatestMark_51 : decode cX7_greatestMark 51 = .ok (.goto (-47), 3) := by decide +kernel
theorem dX7_greatestMark_54 : decode cX7_greatestMark 54 = .ok (.iload_n 2, 1) := by decide +kernel
theorem dX7_greatestMark_55 : decode cX7_greatestMark 55 = .ok (.ireturn, 1) := by decide +kernel
theorem q7_greatestMark : CQ W7 yX7_greatestMark cX7_greatestMark 5 (some .int) 2 := ⟨(m7 64 rfl), by decide, by decide, by decide +kernel⟩
set_option maxHeartbeats 4000000 in
set_option maxRecDepth 100000 in
theorem c7_greatestMark (l : Launch) (D : va_G) (cI : ClassId) (r : Nat) (f : Nat → Int32) (b : Nat) (hb8 : b < 8) : RP l yX7_greatestMark cX7_greatestMark 5 .int W7 2 43 D [(r, .inl (cI, 151, .inl f))] [(cI, .int)] [.ref r, .int (nI (b))] (gmk f b 4) := by
  refine rp_of RX7 (by decide) rfl (Nat.le_of_ble_eq_true rfl) ?_
  intro p e s m below meth c ls hX hr hlocks hK hP hS hl
  have hx := hX.1
  have hb := hX.2.1
  have hown := hX.2.2.2.1
  have hts := hX.2.2.2.2
  have hl : lv_has ls 5 [(0, .ref r), (1, .int (nI (b)))] := hl
  refine lv_iconst (v := 0) hx hb dX7_greatestMark_0 (by decide) ?_
  refine lv_istore_n (lv' := [(2, .int (0)), (0, .ref r), (1, .int (nI (b)))]) hx hb dX7_greatestMark_1 rfl hl (by decide) rfl (fun ls hl => ?_)
  refine lv_iconst (v := 0) hx hb dX7_greatestMark_2 (by decide) ?_
  refine lv_istore_n (lv' := [(3, .int (0)), (2, .int (0)), (0, .ref r), (1, .int (nI (b)))]) hx hb dX7_greatestMark_3 rfl hl (by decide) rfl (fun ls hl => ?_)
  have LP4 : ∀ n9 : Nat, ∀ (j : Nat), (hj : j ≤ 4) → 4 - j < n9 → ∀ (H : Heap) (locs : List Loc), va_P D vwCl [(r, .inl (cI, 151, .inl f))] H → va_S (fun _ => False) s.heap H locs → ∀ ls : Array Slot, lv_has ls 5 [(0, .ref r), (1, .int (nI (b))), (2, .int (gmk f b j)), (3, .int (nI (j)))] → W p l e ({ frames := 2, cells := 0, slots := 0, locals := 43 } : Room) s m ([.ref r, .int (nI (b))] : List Value).toArray below meth c H locs 0 0 (MQ below (rp_Qi (gmk f b 4)) ([.ref r, .int (nI (b))] : List Value).toArray s 0 0 (fun _ => False)) (F0 m 4 ls []) := by
    intro n9
    induction n9 with
    | zero => intros; omega
    | succ n9 ih4 =>
      intro j hj hm9 H locs hP hS ls hl
      refine lv_iload_n hx hb dX7_greatestMark_4 rfl (lv_at hl 3 rfl) ?_
      refine lv_iconst (v := 4) hx hb dX7_greatestMark_5 (by decide) ?_
      refine lv_icmp_ge (tgt := 54) hx hb dX7_greatestMark_6 (by decide) (fun c6_1 => ?_) (fun c6_1 => ?_)
      · skip
        have c6_1 := cn_le (a := 4) (b := j) (by omega) (by omega) c6_1
        refine lv_iload_n hx hb dX7_greatestMark_54 rfl (lv_at hl 2 rfl) ?_
        exact rp_ret hX hr hlocks hS (by rw [show j = 4 by omega]) dX7_greatestMark_55
      · skip
        have c6_1 := cn_nle (a := 4) (b := j) (by omega) (by omega) c6_1
        refine lv_iconst (v := 4) hx hb dX7_greatestMark_9 (by decide) ?_
        refine lv_iload_n hx hb dX7_greatestMark_10 rfl (lv_at hl 1 rfl) ?_
        refine lv_imul hx hb dX7_greatestMark_11 ?_
        refine lv_as (y := nI (4 * b)) (pk_mul (4) (b)) ?_
        refine lv_iload_n hx hb dX7_greatestMark_12 rfl (lv_at hl 3 rfl) ?_
        refine lv_iadd hx hb dX7_greatestMark_13 ?_
        refine lv_as (y := nI (4 * b + j)) (nI_add (4 * b) (j)) ?_
        refine lv_istore (lv' := [(4, .int (nI (4 * b + j))), (0, .ref r), (1, .int (nI (b))), (2, .int (gmk f b j)), (3, .int (nI (j)))]) hx hb dX7_greatestMark_14 hl (by decide) rfl (fun ls hl => ?_)
        refine lv_aload_n hx hb dX7_greatestMark_16 rfl (lv_at hl 1 rfl) ?_
        refine lv_iload hx hb dX7_greatestMark_17 (lv_at hl 0 rfl) ?_
        refine rp_callS hX good7 i7 (c7_isWritten l D cI r f (4 * b + j) (by omega)) q7_isWritten rfl (m7 29 rfl) (m7 30 rfl) ⟨Nat.le_of_ble_eq_true rfl, Nat.le_of_ble_eq_true rfl⟩ hK [0] rfl hP [0] rfl hS hl.1 rfl (Nat.le_of_ble_eq_true rfl) dX7_greatestMark_19 ⟨Nat.zero_le _, Nat.zero_le _⟩ (fun H locs hP hS => ?_)
        refine lv_if_eq (tgt := 46) hx hb dX7_greatestMark_22 (by decide) (fun c22_2 => ?_) (fun c22_2 => ?_)
        · skip
          have c22_2 := bI_f c22_2
          refine lv_iload_n hx hb dX7_greatestMark_46 rfl (lv_at hl 3 rfl) ?_
          refine lv_istore_n (lv' := [(2, .int (gmk f b j)), (4, .int (nI (4 * b + j))), (0, .ref r), (1, .int (nI (b))), (3, .int (nI (j)))]) hx hb dX7_greatestMark_47 rfl hl (by decide) rfl (fun ls hl => ?_)
          refine lv_iinc (v := nI (j + 1)) (lv' := [(3, .int (nI (j + 1))), (2, .int (gmk f b j)), (4, .int (nI (4 * b + j))), (0, .ref r), (1, .int (nI (b)))]) hx hb dX7_greatestMark_48 hl (k := 4) rfl (nI_add _ 1) (by decide) rfl (fun ls hl => ?_)
          refine lv_goto (tgt := 4) hx hb dX7_greatestMark_51 (by decide) ?_
          have hl : lv_has ls 5 [(3, .int (nI (j + 1))), (2, .int (gmk f b (j + 1))), (4, .int (nI (4 * b + j))), (0, .ref r), (1, .int (nI (b)))] := lv_re hl 1 rfl (show gmk f b j = gmk f b (j + 1) from by rw [gmk, if_neg (fun z => c22_2 z.1)])
          have hl : lv_has ls 5 [(3, .int (nI ((j + 1)))), (2, .int (gmk f b (j + 1))), (4, .int (nI (4 * b + j))), (0, .ref r), (1, .int (nI (b)))] := lv_re hl 0 rfl (show nI (j + 1) = nI ((j + 1)) from rfl)
          exact ih4 (j + 1) (by omega) (by omega) _ _ hP hS _ (lv_sub hl [3, 4, 1, 0] rfl)
        · skip
          have c22_2 := bI_t c22_2
          refine lv_aload_n hx hb dX7_greatestMark_25 rfl (lv_at hl 1 rfl) ?_
          refine lv_iload hx hb dX7_greatestMark_26 (lv_at hl 0 rfl) ?_
          refine lv_iconst (v := 3) hx hb dX7_greatestMark_28 (by decide) ?_
          refine rp_callS hX good7 i7 (c7_pageOf l D cI r f (4 * b + j) 3 (by omega) (by omega)) q7_pageOf rfl (m7 23 rfl) (m7 24 rfl) ⟨Nat.le_of_ble_eq_true rfl, Nat.le_of_ble_eq_true rfl⟩ hK [0] rfl hP [0] rfl hS hl.1 rfl (Nat.le_of_ble_eq_true rfl) dX7_greatestMark_29 ⟨Nat.zero_le _, Nat.zero_le _⟩ (fun H locs hP hS => ?_)
          refine lv_iload_n hx hb dX7_greatestMark_32 rfl (lv_at hl 3 rfl) ?_
          refine lv_icmp_le (tgt := 46) hx hb dX7_greatestMark_33 (by decide) (fun c33_3 => ?_) (fun c33_3 => ?_)
          · skip
            have c33_3 := i_nlt c33_3
            refine lv_iload_n hx hb dX7_greatestMark_46 rfl (lv_at hl 3 rfl) ?_
            refine lv_istore_n (lv' := [(2, .int (gmk f b j)), (4, .int (nI (4 * b + j))), (0, .ref r), (1, .int (nI (b))), (3, .int (nI (j)))]) hx hb dX7_greatestMark_47 rfl hl (by decide) rfl (fun ls hl => ?_)
            refine lv_iinc (v := nI (j + 1)) (lv' := [(3, .int (nI (j + 1))), (2, .int (gmk f b j)), (4, .int (nI (4 * b + j))), (0, .ref r), (1, .int (nI (b)))]) hx hb dX7_greatestMark_48 hl (k := 4) rfl (nI_add _ 1) (by decide) rfl (fun ls hl => ?_)
            refine lv_goto (tgt := 4) hx hb dX7_greatestMark_51 (by decide) ?_
            have hl : lv_has ls 5 [(3, .int (nI (j + 1))), (2, .int (gmk f b (j + 1))), (4, .int (nI (4 * b + j))), (0, .ref r), (1, .int (nI (b)))] := lv_re hl 1 rfl (show gmk f b j = gmk f b (j + 1) from by rw [gmk, if_neg (fun z => c33_3 z.2)])
            have hl : lv_has ls 5 [(3, .int (nI ((j + 1)))), (2, .int (gmk f b (j + 1))), (4, .int (nI (4 * b + j))), (0, .ref r), (1, .int (nI (b)))] := lv_re hl 0 rfl (show nI (j + 1) = nI ((j + 1)) from rfl)
            exact ih4 (j + 1) (by omega) (by omega) _ _ hP hS _ (lv_sub hl [3, 4, 1, 0] rfl)
          · skip
            have c33_3 := i_lt c33_3
            refine lv_aload_n hx hb dX7_greatestMark_36 rfl (lv_at hl 1 rfl) ?_
            refine lv_iload hx hb dX7_greatestMark_37 (lv_at hl 0 rfl) ?_
            refine lv_iconst (v := 3) hx hb dX7_greatestMark_39 (by decide) ?_
            refine rp_callS hX good7 i7 (c7_pageOf l D cI r f (4 * b + j) 3 (by omega) (by omega)) q7_pageOf rfl (m7 23 rfl) (m7 24 rfl) ⟨Nat.le_of_ble_eq_true rfl, Nat.le_of_ble_eq_true rfl⟩ hK [0] rfl hP [0] rfl hS hl.1 rfl (Nat.le_of_ble_eq_true rfl) dX7_greatestMark_40 ⟨Nat.zero_le _, Nat.zero_le _⟩ (fun H locs hP hS => ?_)
            refine lv_goto (tgt := 47) hx hb dX7_greatestMark_43 (by decide) ?_
            refine lv_istore_n (lv' := [(2, .int (pg f (4 * b + j) 3)), (4, .int (nI (4 * b + j))), (0, .ref r), (1, .int (nI (b))), (3, .int (nI (j)))]) hx hb dX7_greatestMark_47 rfl hl (by decide) rfl (fun ls hl => ?_)
            refine lv_iinc (v := nI (j + 1)) (lv' := [(3, .int (nI (j + 1))), (2, .int (pg f (4 * b + j) 3)), (4, .int (nI (4 * b + j))), (0, .ref r), (1, .int (nI (b)))]) hx hb dX7_greatestMark_48 hl (k := 4) rfl (nI_add _ 1) (by decide) rfl (fun ls hl => ?_)
            refine lv_goto (tgt := 4) hx hb dX7_greatestMark_51 (by decide) ?_
            have hl : lv_has ls 5 [(3, .int (nI (j + 1))), (2, .int (gmk f b (j + 1))), (4, .int (nI (4 * b + j))), (0, .ref r), (1, .int (nI (b)))] := lv_re hl 1 rfl (show pg f (4 * b + j) 3 = gmk f b (j + 1) from by rw [gmk, if_pos ⟨c22_2, c33_3⟩])
            have hl : lv_has ls 5 [(3, .int (nI ((j + 1)))), (2, .int (gmk f b (j + 1))), (4, .int (nI (4 * b + j))), (0, .ref r), (1, .int (nI (b)))] := lv_re hl 0 rfl (show nI (j + 1) = nI ((j + 1)) from rfl)
            exact ih4 (j + 1) (by omega) (by omega) _ _ hP hS _ (lv_sub hl [3, 4, 1, 0] rfl)
  have hl : lv_has ls 5 [(3, .int (0)), (2, .int (gmk f b 0)), (0, .ref r), (1, .int (nI (b)))] := lv_re hl 1 rfl (show 0 = gmk f b 0 from rfl)
  have hl : lv_has ls 5 [(3, .int (nI (0))), (2, .int (gmk f b 0)), (0, .ref r), (1, .int (nI (b)))] := lv_re hl 0 rfl (show 0 = nI (0) from rfl)
  exact LP4 ((4 - 0) + 1) 0 (by omega) (by omega) _ _ hP hS _ (lv_sub hl [2, 3, 1, 0] rfl)
theorem dX7_isRather_0 : decode cX7_isRather 0 = .ok (.aload_n 0, 1) := by decide +kernel
theorem dX7_isRather_1 : decode cX7_isRather 1 = .ok (.iload_n 1, 1) := by decide +kernel
theorem dX7_isRather_2 : decode cX7_isRather 2 = .ok (.invokestatic 86, 3) := by decide +kernel
theorem dX7_isRather_5 : decode cX7_isRather 5 = .ok (.aload_n 0, 1) := by decide +kernel
theorem dX7_isRather_6 : decode cX7_isRather 6 = .ok (.iload_n 2, 1) := by decide +kernel
theorem dX7_isRather_7 : decode cX7_isRather 7 = .ok (.invokestatic 86, 3) := by decide +kernel
theorem dX7_isRather_10 : decode cX7_isRather 10 = .ok (.isub, 1) := by decide +kernel
theorem dX7_isRather_11 : decode cX7_isRather 11 = .ok (.istore_n 3, 1) := by decide +kernel
theorem dX7_isRather_12 : decode cX7_isRather 12 = .ok (.aload_n 0, 1) := by decide +kernel
theorem dX7_isRather_13 : decode cX7_isRather 13 = .ok (.bipush 15, 2) := by decide +kernel
theorem dX7_isRather_15 : decode cX7_isRather 15 = .ok (.iload_n 1, 1) := by decide +kernel
theorem dX7_isRather_16 : decode cX7_isRather 16 = .ok (.iadd, 1) := by decide +kernel
theorem dX7_isRather_17 : decode cX7_isRather 17 = .ok (.iaload, 1) := by decide +kernel
theorem dX7_isRather_18 : decode cX7_isRather 18 = .ok (.aload_n 0, 1) := by decide +kernel
theorem dX7_isRather_19 : decode cX7_isRather 19 = .ok (.bipush 15, 2) := by decide +kernel
theorem dX7_isRather_21 : decode cX7_isRather 21 = .ok (.iload_n 2, 1) := by decide +kernel
theorem dX7_isRather_22 : decode cX7_isRather 22 = .ok (.iadd, 1) := by decide +kernel
theorem dX7_isRather_23 : decode cX7_isRather 23 = .ok (.iaload, 1) := by decide +kernel
theorem dX7_isRather_24 : decode cX7_isRather 24 = .ok (.isub, 1) := by decide +kernel
theorem dX7_isRather_25 : decode cX7_isRather 25 = .ok (.istore 4, 2) := by decide +kernel
theorem dX7_isRather_27 : decode cX7_isRather 27 = .ok (.aload_n 0, 1) := by decide +kernel
theorem dX7_isRather_28 : decode cX7_isRather 28 = .ok (.bipush 6, 2) := by decide +kernel
theorem dX7_isRather_30 : decode cX7_isRather 30 = .ok (.iaload, 1) := by decide +kernel
theorem dX7_isRather_31 : decode cX7_isRather 31 = .ok (.iconst 2, 1) := by decide +kernel
theorem dX7_isRather_32 : decode cX7_isRather 32 = .ok (.if_icmp .ne 22, 3) := by decide +kernel
theorem dX7_isRather_35 : decode cX7_isRather 35 = .ok (.aload_n 0, 1) := by decide +kernel
theorem dX7_isRather_36 : decode cX7_isRather 36 = .ok (.iload_n 1, 1) := by decide +kernel
theorem dX7_isRather_37 : decode cX7_isRather 37 = .ok (.invokestatic 95, 3) := by decide +kernel
theorem dX7_isRather_40 : decode cX7_isRather 40 = .ok (.aload_n 0, 1) := by decide +kernel
theorem dX7_isRather_41 : decode cX7_isRather 41 = .ok (.iload_n 2, 1) := by decide +kernel
theorem dX7_isRather_42 : decode cX7_isRather 42 = .ok (.invokestatic 95, 3) := by decide +kernel
theorem dX7_isRather_45 : decode cX7_isRather 45 = .ok (.if_icmp .ge 7, 3) := by decide +kernel
theorem dX7_isRather_48 : decode cX7_isRather 48 = .ok (.iconst 1, 1) := by decide +kernel
theorem dX7_isRather_49 : decode cX7_isRather 49 = .ok (.goto 4, 3) := by decide +kernel
theorem dX7_isRather_52 : decode cX7_isRather 52 = .ok (.iconst 0, 1) := by decide +kernel
theorem dX7_isRather_53 : decode cX7_isRather 53 = .ok (.ireturn, 1) := by decide +kernel
theorem dX7_isRather_54 : decode cX7_isRather 54 = .ok (.aload_n 0, 1) := by decide +kernel
theorem dX7_isRather_55 : decode cX7_isRather 55 = .ok (.bipush 6, 2) := by decide +kernel
theorem dX7_isRather_57 : decode cX7_isRather 57 = .ok (.iaload, 1) := by decide +kernel
theorem dX7_isRather_58 : decode cX7_isRather 58 = .ok (.ifCond .ne 24, 3) := by decide +kernel
theorem dX7_isRather_61 : decode cX7_isRather 61 = .ok (.iload_n 3, 1) := by decide +kernel
theorem dX7_isRather_62 : decode cX7_isRather 62 = .ok (.ifCond .lt 12, 3) := by decide +kernel
theorem dX7_isRather_65 : decode cX7_isRather 65 = .ok (.iload_n 3, 1) := by decide +kernel
theorem dX7_isRather_66 : decode cX7_isRather 66 = .ok (.ifCond .ne 12, 3) := by decide +kernel
theorem dX7_isRather_69 : decode cX7_isRather 69 = .ok (.iload 4, 2) := by decide +kernel
theorem dX7_isRather_71 : decode cX7_isRather 71 = .ok (.ifCond .ge 7, 3) := by decide +kernel
theorem dX7_isRather_74 : decode cX7_isRather 74 = .ok (.iconst 1, 1) := by decide +kernel
theorem dX7_isRather_75 : decode cX7_isRather 75 = .ok (.goto 26, 3) := by decide +kernel
theorem dX7_isRather_78 : decode cX7_isRather 78 = .ok (.iconst 0, 1) := by decide +kernel
theorem dX7_isRather_79 : decode cX7_isRather 79 = .ok (.goto 22, 3) := by decide +kernel
theorem dX7_isRather_82 : decode cX7_isRather 82 = .ok (.iload 4, 2) := by decide +kernel
theorem dX7_isRather_84 : decode cX7_isRather 84 = .ok (.ifCond .lt 12, 3) := by decide +kernel
theorem dX7_isRather_87 : decode cX7_isRather 87 = .ok (.iload 4, 2) := by decide +kernel
theorem dX7_isRather_89 : decode cX7_isRather 89 = .ok (.ifCond .ne 11, 3) := by decide +kernel
theorem dX7_isRather_92 : decode cX7_isRather 92 = .ok (.iload_n 3, 1) := by decide +kernel
theorem dX7_isRather_93 : decode cX7_isRather 93 = .ok (.ifCond .ge 7, 3) := by decide +kernel
theorem dX7_isRather_96 : decode cX7_isRather 96 = .ok (.iconst 1, 1) := by decide +kernel
theorem dX7_isRather_97 : decode cX7_isRather 97 = .ok (.goto 4, 3) := by decide +kernel
theorem dX7_isRather_100 : decode cX7_isRather 100 = .ok (.iconst 0, 1) := by decide +kernel
theorem dX7_isRather_101 : decode cX7_isRather 101 = .ok (.ireturn, 1) := by decide +kernel
theorem q7_isRather : CQ W7 yX7_isRather cX7_isRather 5 (some .boolean) 3 := ⟨(m7 70 rfl), by decide, by decide, by decide +kernel⟩
set_option maxHeartbeats 4000000 in
set_option maxRecDepth 100000 in
theorem c7_isRather (l : Launch) (D : va_G) (cI : ClassId) (r : Nat) (f : Nat → Int32) (b o2 : Nat) (hb8 : b < 8) (ho28 : o2 < 8) (B : Nat) (hB : f 0 = nI B) (hB8 : B ≤ 8) : RP l yX7_isRather cX7_isRather 5 .boolean W7 5 113 D [(r, .inl (cI, 151, .inl f))] [(cI, .int)] [.ref r, .int (nI (b)), .int (nI (o2))] (bI (ratP f B b o2)) := by
  refine rp_of RX7 (by decide) rfl (Nat.le_of_ble_eq_true rfl) ?_
  intro p e s m below meth c ls hX hr hlocks hK hP hS hl
  have hx := hX.1
  have hb := hX.2.1
  have hown := hX.2.2.2.1
  have hts := hX.2.2.2.2
  have hl : lv_has ls 5 [(0, .ref r), (1, .int (nI (b))), (2, .int (nI (o2)))] := hl
  refine lv_aload_n hx hb dX7_isRather_0 rfl (lv_at hl 0 rfl) ?_
  refine lv_iload_n hx hb dX7_isRather_1 rfl (lv_at hl 1 rfl) ?_
  refine rp_callS hX good7 i7 (c7_liveOf l D cI r f b (by omega) B hB hB8) q7_liveOf rfl (m7 53 rfl) (m7 54 rfl) ⟨Nat.le_of_ble_eq_true rfl, Nat.le_of_ble_eq_true rfl⟩ hK [0] rfl hP [0] rfl hS hl.1 rfl (Nat.le_of_ble_eq_true rfl) dX7_isRather_2 ⟨Nat.zero_le _, Nat.zero_le _⟩ (fun H locs hP hS => ?_)
  refine lv_aload_n hx hb dX7_isRather_5 rfl (lv_at hl 0 rfl) ?_
  refine lv_iload_n hx hb dX7_isRather_6 rfl (lv_at hl 2 rfl) ?_
  refine rp_callS hX good7 i7 (c7_liveOf l D cI r f o2 (by omega) B hB hB8) q7_liveOf rfl (m7 53 rfl) (m7 54 rfl) ⟨Nat.le_of_ble_eq_true rfl, Nat.le_of_ble_eq_true rfl⟩ hK [0] rfl hP [0] rfl hS hl.1 rfl (Nat.le_of_ble_eq_true rfl) dX7_isRather_7 ⟨Nat.zero_le _, Nat.zero_le _⟩ (fun H locs hP hS => ?_)
  refine lv_isub hx hb dX7_isRather_10 ?_
  refine lv_as (y := nI (lvs f B b 4) - nI (lvs f B o2 4)) (rfl) ?_
  refine lv_istore_n (lv' := [(3, .int (nI (lvs f B b 4) - nI (lvs f B o2 4))), (0, .ref r), (1, .int (nI (b))), (2, .int (nI (o2)))]) hx hb dX7_isRather_11 rfl hl (by decide) rfl (fun ls hl => ?_)
  refine lv_aload_n hx hb dX7_isRather_12 rfl (lv_at hl 1 rfl) ?_
  refine lv_bipush (v := 15) hx hb dX7_isRather_13 (by decide) ?_
  refine lv_iload_n hx hb dX7_isRather_15 rfl (lv_at hl 2 rfl) ?_
  refine lv_iadd hx hb dX7_isRather_16 ?_
  refine lv_as (y := nI (15 + b)) (nI_add (15) (b)) ?_
  refine ra_iald (i := 15 + b) hx hb hK hP 0 0 rfl rfl (by omega) (by decide) dX7_isRather_17 ?_
  refine lv_aload_n hx hb dX7_isRather_18 rfl (lv_at hl 1 rfl) ?_
  refine lv_bipush (v := 15) hx hb dX7_isRather_19 (by decide) ?_
  refine lv_iload_n hx hb dX7_isRather_21 rfl (lv_at hl 3 rfl) ?_
  refine lv_iadd hx hb dX7_isRather_22 ?_
  refine lv_as (y := nI (15 + o2)) (nI_add (15) (o2)) ?_
  refine ra_iald (i := 15 + o2) hx hb hK hP 0 0 rfl rfl (by omega) (by decide) dX7_isRather_23 ?_
  refine lv_isub hx hb dX7_isRather_24 ?_
  refine lv_istore (lv' := [(4, .int ((f (15 + b)) - (f (15 + o2)))), (3, .int (nI (lvs f B b 4) - nI (lvs f B o2 4))), (0, .ref r), (1, .int (nI (b))), (2, .int (nI (o2)))]) hx hb dX7_isRather_25 hl (by decide) rfl (fun ls hl => ?_)
  refine lv_aload_n hx hb dX7_isRather_27 rfl (lv_at hl 2 rfl) ?_
  refine lv_bipush (v := 6) hx hb dX7_isRather_28 (by decide) ?_
  refine ra_iald (i := 6) hx hb hK hP 0 0 rfl rfl (by omega) (by decide) dX7_isRather_30 ?_
  refine lv_iconst (v := 2) hx hb dX7_isRather_31 (by decide) ?_
  refine lv_icmp_ne (tgt := 54) hx hb dX7_isRather_32 (by decide) (fun c32_1 => ?_) (fun c32_1 => ?_)
  · skip
    refine lv_aload_n hx hb dX7_isRather_54 rfl (lv_at hl 2 rfl) ?_
    refine lv_bipush (v := 6) hx hb dX7_isRather_55 (by decide) ?_
    refine ra_iald (i := 6) hx hb hK hP 0 0 rfl rfl (by omega) (by decide) dX7_isRather_57 ?_
    refine lv_if_ne (tgt := 82) hx hb dX7_isRather_58 (by decide) (fun c58_2 => ?_) (fun c58_2 => ?_)
    · skip
      refine lv_iload hx hb dX7_isRather_82 (lv_at hl 0 rfl) ?_
      refine lv_if_lt (tgt := 96) hx hb dX7_isRather_84 (by decide) (fun c84_3 => ?_) (fun c84_3 => ?_)
      · skip
        refine lv_iconst (v := 1) hx hb dX7_isRather_96 (by decide) ?_
        refine lv_goto (tgt := 101) hx hb dX7_isRather_97 (by decide) ?_
        exact rp_retz hX hr hlocks hS ((bI_1 (by rw [ratP]; simp [c32_1, c58_2, c84_3])).symm) dX7_isRather_101
      · skip
        refine lv_iload hx hb dX7_isRather_87 (lv_at hl 0 rfl) ?_
        refine lv_if_ne (tgt := 100) hx hb dX7_isRather_89 (by decide) (fun c89_4 => ?_) (fun c89_4 => ?_)
        · skip
          refine lv_iconst (v := 0) hx hb dX7_isRather_100 (by decide) ?_
          exact rp_retz hX hr hlocks hS ((bI_0 (by rw [ratP]; simp [c32_1, c58_2, c84_3, c89_4])).symm) dX7_isRather_101
        · skip
          refine lv_iload_n hx hb dX7_isRather_92 rfl (lv_at hl 1 rfl) ?_
          refine lv_if_ge (tgt := 100) hx hb dX7_isRather_93 (by decide) (fun c93_5 => ?_) (fun c93_5 => ?_)
          · skip
            have c93_5 := i_nlt c93_5
            refine lv_iconst (v := 0) hx hb dX7_isRather_100 (by decide) ?_
            exact rp_retz hX hr hlocks hS ((bI_0 (by rw [ratP]; simp [c32_1, c58_2, c84_3, c89_4, c93_5])).symm) dX7_isRather_101
          · skip
            have c93_5 := i_lt c93_5
            refine lv_iconst (v := 1) hx hb dX7_isRather_96 (by decide) ?_
            refine lv_goto (tgt := 101) hx hb dX7_isRather_97 (by decide) ?_
            exact rp_retz hX hr hlocks hS ((bI_1 (by rw [ratP]; simp [c32_1, c58_2, c84_3, c89_4, c93_5])).symm) dX7_isRather_101
    · skip
      refine lv_iload_n hx hb dX7_isRather_61 rfl (lv_at hl 1 rfl) ?_
      refine lv_if_lt (tgt := 74) hx hb dX7_isRather_62 (by decide) (fun c62_6 => ?_) (fun c62_6 => ?_)
      · skip
        refine lv_iconst (v := 1) hx hb dX7_isRather_74 (by decide) ?_
        refine lv_goto (tgt := 101) hx hb dX7_isRather_75 (by decide) ?_
        exact rp_retz hX hr hlocks hS ((bI_1 (by rw [ratP]; simp [c32_1, c58_2, c62_6])).symm) dX7_isRather_101
      · skip
        refine lv_iload_n hx hb dX7_isRather_65 rfl (lv_at hl 1 rfl) ?_
        refine lv_if_ne (tgt := 78) hx hb dX7_isRather_66 (by decide) (fun c66_7 => ?_) (fun c66_7 => ?_)
        · skip
          refine lv_iconst (v := 0) hx hb dX7_isRather_78 (by decide) ?_
          refine lv_goto (tgt := 101) hx hb dX7_isRather_79 (by decide) ?_
          exact rp_retz hX hr hlocks hS ((bI_0 (by rw [ratP]; simp [c32_1, c58_2, c62_6, c66_7])).symm) dX7_isRather_101
        · skip
          refine lv_iload hx hb dX7_isRather_69 (lv_at hl 0 rfl) ?_
          refine lv_if_ge (tgt := 78) hx hb dX7_isRather_71 (by decide) (fun c71_8 => ?_) (fun c71_8 => ?_)
          · skip
            have c71_8 := i_nlt c71_8
            refine lv_iconst (v := 0) hx hb dX7_isRather_78 (by decide) ?_
            refine lv_goto (tgt := 101) hx hb dX7_isRather_79 (by decide) ?_
            exact rp_retz hX hr hlocks hS ((bI_0 (by rw [ratP]; simp [c32_1, c58_2, c62_6, c66_7, c71_8])).symm) dX7_isRather_101
          · skip
            have c71_8 := i_lt c71_8
            refine lv_iconst (v := 1) hx hb dX7_isRather_74 (by decide) ?_
            refine lv_goto (tgt := 101) hx hb dX7_isRather_75 (by decide) ?_
            exact rp_retz hX hr hlocks hS ((bI_1 (by rw [ratP]; simp [c32_1, c58_2, c62_6, c66_7, c71_8])).symm) dX7_isRather_101
  · skip
    refine lv_aload_n hx hb dX7_isRather_35 rfl (lv_at hl 2 rfl) ?_
    refine lv_iload_n hx hb dX7_isRather_36 rfl (lv_at hl 3 rfl) ?_
    refine rp_callS hX good7 i7 (c7_greatestMark l D cI r f b (by omega)) q7_greatestMark rfl (m7 62 rfl) (m7 63 rfl) ⟨Nat.le_of_ble_eq_true rfl, Nat.le_of_ble_eq_true rfl⟩ hK [0] rfl hP [0] rfl hS hl.1 rfl (Nat.le_of_ble_eq_true rfl) dX7_isRather_37 ⟨Nat.zero_le _, Nat.zero_le _⟩ (fun H locs hP hS => ?_)
    refine lv_aload_n hx hb dX7_isRather_40 rfl (lv_at hl 2 rfl) ?_
    refine lv_iload_n hx hb dX7_isRather_41 rfl (lv_at hl 4 rfl) ?_
    refine rp_callS hX good7 i7 (c7_greatestMark l D cI r f o2 (by omega)) q7_greatestMark rfl (m7 62 rfl) (m7 63 rfl) ⟨Nat.le_of_ble_eq_true rfl, Nat.le_of_ble_eq_true rfl⟩ hK [0] rfl hP [0] rfl hS hl.1 rfl (Nat.le_of_ble_eq_true rfl) dX7_isRather_42 ⟨Nat.zero_le _, Nat.zero_le _⟩ (fun H locs hP hS => ?_)
    refine lv_icmp_ge (tgt := 52) hx hb dX7_isRather_45 (by decide) (fun c45_9 => ?_) (fun c45_9 => ?_)
    · skip
      have c45_9 := i_nlt c45_9
      refine lv_iconst (v := 0) hx hb dX7_isRather_52 (by decide) ?_
      exact rp_retz hX hr hlocks hS ((bI_0 (by rw [ratP]; simp [c32_1, c45_9])).symm) dX7_isRather_53
    · skip
      have c45_9 := i_lt c45_9
      refine lv_iconst (v := 1) hx hb dX7_isRather_48 (by decide) ?_
      refine lv_goto (tgt := 53) hx hb dX7_isRather_49 (by decide) ?_
      exact rp_retz hX hr hlocks hS ((bI_1 (by rw [ratP]; simp [c32_1, c45_9])).symm) dX7_isRather_53
theorem dX7_victimOf_0 : decode cX7_victimOf 0 = .ok (.bipush (-9), 2) := by decide +kernel
theorem dX7_victimOf_2 : decode cX7_victimOf 2 = .ok (.istore_n 1, 1) := by decide +kernel
theorem dX7_victimOf_3 : decode cX7_victimOf 3 = .ok (.iconst 0, 1) := by decide +kernel
theorem dX7_victimOf_4 : decode cX7_victimOf 4 = .ok (.istore_n 2, 1) := by decide +kernel
theorem dX7_victimOf_5 : decode cX7_victimOf 5 = .ok (.iload_n 2, 1) := by decide +kernel
theorem dX7_victimOf_6 : decode cX7_victimOf 6 = .ok (.aload_n 0, 1) := by decide +kernel
theorem dX7_victimOf_7 : decode cX7_victimOf 7 = .ok (.iconst 0, 1) := by decide +kernel
theorem dX7_victimOf_8 : decode cX7_victimOf 8 = .ok (.iaload, 1) := by decide +kernel
theorem dX7_victimOf_9 : decode cX7_victimOf 9 = .ok (.if_icmp .ge 41, 3) := by decide +kernel
theorem dX7_victimOf_12 : decode cX7_victimOf 12 = .ok (.aload_n 0, 1) := by decide +kernel
theorem dX7_victimOf_13 : decode cX7_victimOf 13 = .ok (.iconst 2, 1) := by decide +kernel
theorem dX7_victimOf_14 : decode cX7_victimOf 14 = .ok (.iaload, 1) := by decide +kernel
theorem dX7_victimOf_15 : decode cX7_victimOf 15 = .ok (.iconst 1, 1) := by decide +kernel
theorem dX7_victimOf_16 : decode cX7_victimOf 16 = .ok (.if_icmp .ne 34, 3) := by decide +kernel
theorem dX7_victimOf_19 : decode cX7_victimOf 19 = .ok (.aload_n 0, 1) := by decide +kernel
theorem dX7_victimOf_20 : decode cX7_victimOf 20 = .ok (.iload_n 2, 1) := by decide +kernel
theorem dX7_victimOf_21 : decode cX7_victimOf 21 = .ok (.invokestatic 98, 3) := by decide +kernel
theorem dX7_victimOf_24 : decode cX7_victimOf 24 = .ok (.ifCond .eq 20, 3) := by decide +kernel
theorem dX7_victimOf_27 : decode cX7_victimOf 27 = .ok (.iload_n 1, 1) := by decide +kernel
theorem dX7_victimOf_28 : decode cX7_victimOf 28 = .ok (.bipush (-9), 2) := by decide +kernel
theorem dX7_victimOf_30 : decode cX7_victimOf 30 = .ok (.if_icmp .eq 12, 3) := by decide +kernel
theorem dX7_victimOf_33 : decode cX7_victimOf 33 = .ok (.aload_n 0, 1) := by decide +kernel
theorem dX7_victimOf_34 : decode cX7_victimOf 34 = .ok (.iload_n 2, 1) := by decide +kernel
theorem dX7_victimOf_35 : decode cX7_victimOf 35 = .ok (.iload_n 1, 1) := by decide +kernel
theorem dX7_victimOf_36 : decode cX7_victimOf 36 = .ok (.invokestatic 101, 3) := by decide +kernel
theorem dX7_victimOf_39 : decode cX7_victimOf 39 = .ok (.ifCond .eq 5, 3) := by decide +kernel
theorem dX7_victimOf_42 : decode cX7_victimOf 42 = .ok (.iload_n 2, 1) := by decide +kernel
theorem dX7_victimOf_43 : decode cX7_victimOf 43 = .ok (.istore_n 1, 1) := by decide +kernel
theorem dX7_victimOf_44 : decode cX7_victimOf 44 = .ok (.iinc 2 1, 3) := by decide +kernel
theorem dX7_victimOf_47 : decode cX7_victimOf 47 = .ok (.goto (-42), 3) := by decide +kernel
theorem dX7_victimOf_50 : decode cX7_victimOf 50 = .ok (.iload_n 1, 1) := by decide +kernel
theorem dX7_victimOf_51 : decode cX7_victimOf 51 = .ok (.ireturn, 1) := by decide +kernel
theorem q7_victimOf : CQ W7 yX7_victimOf cX7_victimOf 3 (some .int) 1 := ⟨(m7 76 rfl), by decide, by decide, by decide +kernel⟩
set_option maxHeartbeats 4000000 in
set_option maxRecDepth 100000 in
theorem c7_victimOf (l : Launch) (D : va_G) (cI : ClassId) (r : Nat) (f : Nat → Int32) (B : Nat) (hB : f 0 = nI B) (hB8 : B ≤ 8) (o : Option Nat) (hO : f 3 = oI o) (ho8 : ∀ b, o = some b → b < 8) : RP l yX7_victimOf cX7_victimOf 3 .int W7 7 157 D [(r, .inl (cI, 151, .inl f))] [(cI, .int)] [.ref r] (oI (vcm f B o)) := by
  refine rp_of RX7 (by decide) rfl (Nat.le_of_ble_eq_true rfl) ?_
  intro p e s m below meth c ls hX hr hlocks hK hP hS hl
  have hx := hX.1
  have hb := hX.2.1
  have hown := hX.2.2.2.1
  have hts := hX.2.2.2.2
  have hl : lv_has ls 3 [(0, .ref r)] := hl
  refine lv_bipush (v := (-9)) hx hb dX7_victimOf_0 (by decide) ?_
  refine lv_istore_n (lv' := [(1, .int ((-9))), (0, .ref r)]) hx hb dX7_victimOf_2 rfl hl (by decide) rfl (fun ls hl => ?_)
  refine lv_iconst (v := 0) hx hb dX7_victimOf_3 (by decide) ?_
  refine lv_istore_n (lv' := [(2, .int (0)), (1, .int ((-9))), (0, .ref r)]) hx hb dX7_victimOf_4 rfl hl (by decide) rfl (fun ls hl => ?_)
  have LP5 : ∀ n9 : Nat, ∀ (j : Nat), (hj : j ≤ B) → (hq : f 2 = 1 ∨ j = 0) → B - j < n9 → ∀ (H : Heap) (locs : List Loc), va_P D vwCl [(r, .inl (cI, 151, .inl f))] H → va_S (fun _ => False) s.heap H locs → ∀ ls : Array Slot, lv_has ls 3 [(0, .ref r), (1, .int (oI (vct f B o j))), (2, .int (nI (j)))] → W p l e ({ frames := 7, cells := 0, slots := 0, locals := 157 } : Room) s m ([.ref r] : List Value).toArray below meth c H locs 0 0 (MQ below (rp_Qi (oI (vcm f B o))) ([.ref r] : List Value).toArray s 0 0 (fun _ => False)) (F0 m 5 ls []) := by
    intro n9
    induction n9 with
    | zero => intros; omega
    | succ n9 ih5 =>
      intro j hj hq hm9 H locs hP hS ls hl
      refine lv_iload_n hx hb dX7_victimOf_5 rfl (lv_at hl 2 rfl) ?_
      refine lv_aload_n hx hb dX7_victimOf_6 rfl (lv_at hl 0 rfl) ?_
      refine lv_iconst (v := 0) hx hb dX7_victimOf_7 (by decide) ?_
      refine ra_iald (i := 0) hx hb hK hP 0 0 rfl rfl (by omega) (by decide) dX7_victimOf_8 ?_
      refine lv_as (show f (0) = nI (B) from hB) ?_
      refine lv_icmp_ge (tgt := 50) hx hb dX7_victimOf_9 (by decide) (fun c9_1 => ?_) (fun c9_1 => ?_)
      · skip
        have c9_1 := cn_le (a := B) (b := j) (by omega) (by omega) c9_1
        refine lv_iload_n hx hb dX7_victimOf_50 rfl (lv_at hl 1 rfl) ?_
        exact rp_ret hX hr hlocks hS (by rcases hq with hq | hq; rw [vcm, if_pos hq, show j = B by omega]; subst hq; rw [show B = 0 by omega]; rw [vcm]; split <;> rfl) dX7_victimOf_51
      · skip
        have c9_1 := cn_nle (a := B) (b := j) (by omega) (by omega) c9_1
        refine lv_aload_n hx hb dX7_victimOf_12 rfl (lv_at hl 0 rfl) ?_
        refine lv_iconst (v := 2) hx hb dX7_victimOf_13 (by decide) ?_
        refine ra_iald (i := 2) hx hb hK hP 0 0 rfl rfl (by omega) (by decide) dX7_victimOf_14 ?_
        refine lv_iconst (v := 1) hx hb dX7_victimOf_15 (by decide) ?_
        refine lv_icmp_ne (tgt := 50) hx hb dX7_victimOf_16 (by decide) (fun c16_2 => ?_) (fun c16_2 => ?_)
        · skip
          refine lv_iload_n hx hb dX7_victimOf_50 rfl (lv_at hl 1 rfl) ?_
          exact rp_ret hX hr hlocks hS (by rw [vcm, if_neg c16_2]; rcases hq with hq | hq; exact absurd hq c16_2; subst hq; rfl) dX7_victimOf_51
        · skip
          rcases hO3 : vct f B o j with _ | o3
          · skip
            have hl : lv_has ls 3 [(0, .ref r), (1, .int ((-9))), (2, .int (nI (j)))] := by rw [hO3] at hl; exact hl
            refine lv_aload_n hx hb dX7_victimOf_19 rfl (lv_at hl 0 rfl) ?_
            refine lv_iload_n hx hb dX7_victimOf_20 rfl (lv_at hl 2 rfl) ?_
            refine rp_callS hX good7 i7 (c7_isVictim l D cI r f j (by omega) B hB hB8 o hO ho8) q7_isVictim rfl (m7 65 rfl) (m7 66 rfl) ⟨Nat.le_of_ble_eq_true rfl, Nat.le_of_ble_eq_true rfl⟩ hK [0] rfl hP [0] rfl hS hl.1 rfl (Nat.le_of_ble_eq_true rfl) dX7_victimOf_21 ⟨Nat.zero_le _, Nat.zero_le _⟩ (fun H locs hP hS => ?_)
            refine lv_if_eq (tgt := 44) hx hb dX7_victimOf_24 (by decide) (fun c24_4 => ?_) (fun c24_4 => ?_)
            · skip
              have c24_4 := bI_f c24_4
              refine lv_iinc (v := nI (j + 1)) (lv' := [(2, .int (nI (j + 1))), (0, .ref r), (1, .int ((-9)))]) hx hb dX7_victimOf_44 hl (k := 2) rfl (nI_add _ 1) (by decide) rfl (fun ls hl => ?_)
              refine lv_goto (tgt := 5) hx hb dX7_victimOf_47 (by decide) ?_
              have hl : lv_has ls 3 [(2, .int (nI (j + 1))), (0, .ref r), (1, .int (oI (vct f B o (j + 1))))] := lv_re hl 2 rfl (show (-9) = oI (vct f B o (j + 1)) from by rw [vct, hO3]; dsimp only; rw [if_neg c24_4]; rfl)
              have hl : lv_has ls 3 [(2, .int (nI ((j + 1)))), (0, .ref r), (1, .int (oI (vct f B o (j + 1))))] := lv_re hl 0 rfl (show nI (j + 1) = nI ((j + 1)) from rfl)
              exact ih5 (j + 1) (by omega) (Or.inl c16_2) (by omega) _ _ hP hS _ (lv_sub hl [1, 2, 0] rfl)
            · skip
              have c24_4 := bI_t c24_4
              refine lv_iload_n hx hb dX7_victimOf_27 rfl (lv_at hl 1 rfl) ?_
              refine lv_bipush (v := (-9)) hx hb dX7_victimOf_28 (by decide) ?_
              refine lv_icmp_eq (tgt := 42) hx hb dX7_victimOf_30 (by decide) (fun c30_5 => ?_) (fun c30_5 => ?_)
              · skip
                refine lv_iload_n hx hb dX7_victimOf_42 rfl (lv_at hl 2 rfl) ?_
                refine lv_istore_n (lv' := [(1, .int (nI (j))), (0, .ref r), (2, .int (nI (j)))]) hx hb dX7_victimOf_43 rfl hl (by decide) rfl (fun ls hl => ?_)
                refine lv_iinc (v := nI (j + 1)) (lv' := [(2, .int (nI (j + 1))), (1, .int (nI (j))), (0, .ref r)]) hx hb dX7_victimOf_44 hl (k := 2) rfl (nI_add _ 1) (by decide) rfl (fun ls hl => ?_)
                refine lv_goto (tgt := 5) hx hb dX7_victimOf_47 (by decide) ?_
                have hl : lv_has ls 3 [(2, .int (nI (j + 1))), (1, .int (oI (vct f B o (j + 1)))), (0, .ref r)] := lv_re hl 1 rfl (show nI (j) = oI (vct f B o (j + 1)) from by rw [vct, hO3]; dsimp only; rw [if_pos c24_4]; rfl)
                have hl : lv_has ls 3 [(2, .int (nI ((j + 1)))), (1, .int (oI (vct f B o (j + 1)))), (0, .ref r)] := lv_re hl 0 rfl (show nI (j + 1) = nI ((j + 1)) from rfl)
                exact ih5 (j + 1) (by omega) (Or.inl c16_2) (by omega) _ _ hP hS _ (lv_sub hl [2, 1, 0] rfl)
              · skip
                exact absurd c30_5 (by decide)
          · skip
            have hl : lv_has ls 3 [(0, .ref r), (1, .int (nI (o3))), (2, .int (nI (j)))] := by rw [hO3] at hl; exact hl
            have ho3 := vct_lt hO3
            refine lv_aload_n hx hb dX7_victimOf_19 rfl (lv_at hl 0 rfl) ?_
            refine lv_iload_n hx hb dX7_victimOf_20 rfl (lv_at hl 2 rfl) ?_
            refine rp_callS hX good7 i7 (c7_isVictim l D cI r f j (by omega) B hB hB8 o hO ho8) q7_isVictim rfl (m7 65 rfl) (m7 66 rfl) ⟨Nat.le_of_ble_eq_true rfl, Nat.le_of_ble_eq_true rfl⟩ hK [0] rfl hP [0] rfl hS hl.1 rfl (Nat.le_of_ble_eq_true rfl) dX7_victimOf_21 ⟨Nat.zero_le _, Nat.zero_le _⟩ (fun H locs hP hS => ?_)
            refine lv_if_eq (tgt := 44) hx hb dX7_victimOf_24 (by decide) (fun c24_6 => ?_) (fun c24_6 => ?_)
            · skip
              have c24_6 := bI_f c24_6
              refine lv_iinc (v := nI (j + 1)) (lv' := [(2, .int (nI (j + 1))), (0, .ref r), (1, .int (nI (o3)))]) hx hb dX7_victimOf_44 hl (k := 2) rfl (nI_add _ 1) (by decide) rfl (fun ls hl => ?_)
              refine lv_goto (tgt := 5) hx hb dX7_victimOf_47 (by decide) ?_
              have hl : lv_has ls 3 [(2, .int (nI (j + 1))), (0, .ref r), (1, .int (oI (vct f B o (j + 1))))] := lv_re hl 2 rfl (show nI (o3) = oI (vct f B o (j + 1)) from by rw [vct, hO3]; dsimp only; rw [if_neg (fun z => c24_6 z.1)]; rfl)
              have hl : lv_has ls 3 [(2, .int (nI ((j + 1)))), (0, .ref r), (1, .int (oI (vct f B o (j + 1))))] := lv_re hl 0 rfl (show nI (j + 1) = nI ((j + 1)) from rfl)
              exact ih5 (j + 1) (by omega) (Or.inl c16_2) (by omega) _ _ hP hS _ (lv_sub hl [1, 2, 0] rfl)
            · skip
              have c24_6 := bI_t c24_6
              refine lv_iload_n hx hb dX7_victimOf_27 rfl (lv_at hl 1 rfl) ?_
              refine lv_bipush (v := (-9)) hx hb dX7_victimOf_28 (by decide) ?_
              refine lv_icmp_eq (tgt := 42) hx hb dX7_victimOf_30 (by decide) (fun c30_7 => ?_) (fun c30_7 => ?_)
              · skip
                exact absurd c30_7 (oI_ne (by omega))
              · skip
                refine lv_aload_n hx hb dX7_victimOf_33 rfl (lv_at hl 0 rfl) ?_
                refine lv_iload_n hx hb dX7_victimOf_34 rfl (lv_at hl 2 rfl) ?_
                refine lv_iload_n hx hb dX7_victimOf_35 rfl (lv_at hl 1 rfl) ?_
                refine rp_callS hX good7 i7 (c7_isRather l D cI r f j o3 (by omega) (by omega) B hB hB8) q7_isRather rfl (m7 68 rfl) (m7 69 rfl) ⟨Nat.le_of_ble_eq_true rfl, Nat.le_of_ble_eq_true rfl⟩ hK [0] rfl hP [0] rfl hS hl.1 rfl (Nat.le_of_ble_eq_true rfl) dX7_victimOf_36 ⟨Nat.zero_le _, Nat.zero_le _⟩ (fun H locs hP hS => ?_)
                refine lv_if_eq (tgt := 44) hx hb dX7_victimOf_39 (by decide) (fun c39_8 => ?_) (fun c39_8 => ?_)
                · skip
                  have c39_8 := bI_f c39_8
                  refine lv_iinc (v := nI (j + 1)) (lv' := [(2, .int (nI (j + 1))), (0, .ref r), (1, .int (nI (o3)))]) hx hb dX7_victimOf_44 hl (k := 2) rfl (nI_add _ 1) (by decide) rfl (fun ls hl => ?_)
                  refine lv_goto (tgt := 5) hx hb dX7_victimOf_47 (by decide) ?_
                  have hl : lv_has ls 3 [(2, .int (nI (j + 1))), (0, .ref r), (1, .int (oI (vct f B o (j + 1))))] := lv_re hl 2 rfl (show nI (o3) = oI (vct f B o (j + 1)) from by rw [vct, hO3]; dsimp only; rw [if_neg (fun z => c39_8 z.2)]; rfl)
                  have hl : lv_has ls 3 [(2, .int (nI ((j + 1)))), (0, .ref r), (1, .int (oI (vct f B o (j + 1))))] := lv_re hl 0 rfl (show nI (j + 1) = nI ((j + 1)) from rfl)
                  exact ih5 (j + 1) (by omega) (Or.inl c16_2) (by omega) _ _ hP hS _ (lv_sub hl [1, 2, 0] rfl)
                · skip
                  have c39_8 := bI_t c39_8
                  refine lv_iload_n hx hb dX7_victimOf_42 rfl (lv_at hl 2 rfl) ?_
                  refine lv_istore_n (lv' := [(1, .int (nI (j))), (0, .ref r), (2, .int (nI (j)))]) hx hb dX7_victimOf_43 rfl hl (by decide) rfl (fun ls hl => ?_)
                  refine lv_iinc (v := nI (j + 1)) (lv' := [(2, .int (nI (j + 1))), (1, .int (nI (j))), (0, .ref r)]) hx hb dX7_victimOf_44 hl (k := 2) rfl (nI_add _ 1) (by decide) rfl (fun ls hl => ?_)
                  refine lv_goto (tgt := 5) hx hb dX7_victimOf_47 (by decide) ?_
                  have hl : lv_has ls 3 [(2, .int (nI (j + 1))), (1, .int (oI (vct f B o (j + 1)))), (0, .ref r)] := lv_re hl 1 rfl (show nI (j) = oI (vct f B o (j + 1)) from by rw [vct, hO3]; dsimp only; rw [if_pos ⟨c24_6, c39_8⟩]; rfl)
                  have hl : lv_has ls 3 [(2, .int (nI ((j + 1)))), (1, .int (oI (vct f B o (j + 1)))), (0, .ref r)] := lv_re hl 0 rfl (show nI (j + 1) = nI ((j + 1)) from rfl)
                  exact ih5 (j + 1) (by omega) (Or.inl c16_2) (by omega) _ _ hP hS _ (lv_sub hl [2, 1, 0] rfl)
  have hl : lv_has ls 3 [(2, .int (0)), (1, .int (oI (vct f B o 0))), (0, .ref r)] := lv_re hl 1 rfl (show (-9) = oI (vct f B o 0) from rfl)
  have hl : lv_has ls 3 [(2, .int (nI (0))), (1, .int (oI (vct f B o 0))), (0, .ref r)] := lv_re hl 0 rfl (show 0 = nI (0) from rfl)
  exact LP5 ((B - 0) + 1) 0 (by omega) (Or.inr rfl) (by omega) _ _ hP hS _ (lv_sub hl [2, 1, 0] rfl)
