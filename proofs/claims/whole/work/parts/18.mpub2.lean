theorem dX7_afterCut_0 : decode cX7_afterCut 0 = .ok (.iload_n 1, 1) := by decide +kernel
theorem dX7_afterCut_1 : decode cX7_afterCut 1 = .ok (.invokestatic 230, 3) := by decide +kernel
theorem dX7_afterCut_4 : decode cX7_afterCut 4 = .ok (.ifCond .eq 31, 3) := by decide +kernel
theorem dX7_afterCut_7 : decode cX7_afterCut 7 = .ok (.iload_n 2, 1) := by decide +kernel
theorem dX7_afterCut_8 : decode cX7_afterCut 8 = .ok (.i2l, 1) := by decide +kernel
theorem dX7_afterCut_9 : decode cX7_afterCut 9 = .ok (.lconst 0, 1) := by decide +kernel
theorem dX7_afterCut_10 : decode cX7_afterCut 10 = .ok (.ldc2_w 235, 3) := by decide +kernel
theorem dX7_afterCut_13 : decode cX7_afterCut 13 = .ok (.invokestatic 147, 3) := by decide +kernel
theorem dX7_afterCut_16 : decode cX7_afterCut 16 = .ok (.ifCond .eq 19, 3) := by decide +kernel
theorem dX7_afterCut_19 : decode cX7_afterCut 19 = .ok (.iload_n 3, 1) := by decide +kernel
theorem dX7_afterCut_20 : decode cX7_afterCut 20 = .ok (.i2l, 1) := by decide +kernel
theorem dX7_afterCut_21 : decode cX7_afterCut 21 = .ok (.lconst 1, 1) := by decide +kernel
theorem dX7_afterCut_22 : decode cX7_afterCut 22 = .ok (.ldc2_w 240, 3) := by decide +kernel
theorem dX7_afterCut_25 : decode cX7_afterCut 25 = .ok (.invokestatic 147, 3) := by decide +kernel
theorem dX7_afterCut_28 : decode cX7_afterCut 28 = .ok (.ifCond .eq 7, 3) := by decide +kernel
theorem dX7_afterCut_31 : decode cX7_afterCut 31 = .ok (.iconst 1, 1) := by decide +kernel
theorem dX7_afterCut_32 : decode cX7_afterCut 32 = .ok (.goto 4, 3) := by decide +kernel
theorem dX7_afterCut_35 : decode cX7_afterCut 35 = .ok (.iconst 0, 1) := by decide +kernel
theorem dX7_afterCut_36 : decode cX7_afterCut 36 = .ok (.istore 4, 2) := by decide +kernel
theorem dX7_afterCut_38 : decode cX7_afterCut 38 = .ok (.aload_n 0, 1) := by decide +kernel
theorem dX7_afterCut_39 : decode cX7_afterCut 39 = .ok (.iload 4, 2) := by decide +kernel
theorem dX7_afterCut_41 : decode cX7_afterCut 41 = .ok (.ifCond .ne 7, 3) := by decide +kernel
theorem dX7_afterCut_44 : decode cX7_afterCut 44 = .ok (.iconst 1, 1) := by decide +kernel
theorem dX7_afterCut_45 : decode cX7_afterCut 45 = .ok (.goto 19, 3) := by decide +kernel
theorem dX7_afterCut_48 : decode cX7_afterCut 48 = .ok (.aload_n 0, 1) := by decide +kernel
theorem dX7_afterCut_49 : decode cX7_afterCut 49 = .ok (.aload_n 0, 1) := by decide +kernel
theorem dX7_afterCut_50 : decode cX7_afterCut 50 = .ok (.getfield 13, 3) := by decide +kernel
theorem dX7_afterCut_53 : decode cX7_afterCut 53 = .ok (.invokevirtual 134, 3) := by decide +kernel
theorem dX7_afterCut_56 : decode cX7_afterCut 56 = .ok (.ifCond .eq 7, 3) := by decide +kernel
theorem dX7_afterCut_59 : decode cX7_afterCut 59 = .ok (.iconst 0, 1) := by decide +kernel
theorem dX7_afterCut_60 : decode cX7_afterCut 60 = .ok (.goto 4, 3) := by decide +kernel
theorem dX7_afterCut_63 : decode cX7_afterCut 63 = .ok (.iconst 2, 1) := by decide +kernel
theorem dX7_afterCut_64 : decode cX7_afterCut 64 = .ok (.invokevirtual 154, 3) := by decide +kernel
theorem dX7_afterCut_67 : decode cX7_afterCut 67 = .ok (.ifCond .eq 5, 3) := by decide +kernel
theorem dX7_afterCut_70 : decode cX7_afterCut 70 = .ok (.iconst 0, 1) := by decide +kernel
theorem dX7_afterCut_71 : decode cX7_afterCut 71 = .ok (.ireturn, 1) := by decide +kernel
theorem dX7_afterCut_72 : decode cX7_afterCut 72 = .ok (.aload_n 0, 1) := by decide +kernel
theorem dX7_afterCut_73 : decode cX7_afterCut 73 = .ok (.invokevirtual 245, 3) := by decide +kernel
theorem dX7_afterCut_76 : decode cX7_afterCut 76 = .ok (.aload_n 0, 1) := by decide +kernel
theorem dX7_afterCut_77 : decode cX7_afterCut 77 = .ok (.getfield 16, 3) := by decide +kernel
theorem dX7_afterCut_80 : decode cX7_afterCut 80 = .ok (.iconst 5, 1) := by decide +kernel
theorem dX7_afterCut_81 : decode cX7_afterCut 81 = .ok (.iload_n 3, 1) := by decide +kernel
theorem dX7_afterCut_82 : decode cX7_afterCut 82 = .ok (.iastore, 1) := by decide +kernel
theorem dX7_afterCut_83 : decode cX7_afterCut 83 = .ok (.aload_n 0, 1) := by decide +kernel
theorem dX7_afterCut_84 : decode cX7_afterCut 84 = .ok (.aload_n 0, 1) := by decide +kernel
theorem dX7_afterCut_85 : decode cX7_afterCut 85 = .ok (.getfield 16, 3) := by decide +kernel
theorem dX7_afterCut_88 : decode cX7_afterCut 88 = .ok (.iload_n 1, 1) := by decide +kernel
theorem dX7_afterCut_89 : decode cX7_afterCut 89 = .ok (.iload_n 2, 1) := by decide +kernel
theorem dX7_afterCut_90 : decode cX7_afterCut 90 = .ok (.invokevirtual 128, 3) := by decide +kernel
theorem dX7_afterCut_93 : decode cX7_afterCut 93 = .ok (.pop, 1) := by decide +kernel
theorem dX7_afterCut_94 : decode cX7_afterCut 94 = .ok (.aload_n 0, 1) := by decide +kernel
theorem dX7_afterCut_95 : decode cX7_afterCut 95 = .ok (.getfield 16, 3) := by decide +kernel
theorem dX7_afterCut_98 : decode cX7_afterCut 98 = .ok (.iload_n 1, 1) := by decide +kernel
theorem dX7_afterCut_99 : decode cX7_afterCut 99 = .ok (.invokestatic 68, 3) := by decide +kernel
theorem dX7_afterCut_102 : decode cX7_afterCut 102 = .ok (.ireturn, 1) := by decide +kernel
set_option maxHeartbeats 4000000 in
set_option maxRecDepth 100000 in
theorem c7_afterCut (l : Launch) (D : va_G) (cI cZ : ClassId) (h sc nw tr lk di kp ik lv : Nat) (rf rb rl : Int32) (ac9 : Nat) (ss : Nat) (ps : Bool × Nat) (f : Nat → Int32) (B : Nat) (ft flk fl : Nat → Int32) (hO : Ok f B) (k v n : Int32) (hO2 : 1 ≤ n ∧ n ≤ 99 → Ok (upd f 5 n) B) : GPi l yX7_afterCut cX7_afterCut 5 .int W7 12 269 D [(h, .inr (7, [.int (rf), .ref sc, .int (nI (ss)), .int (nI (ps.2)), .int (bI (ps.1 = true)), .int (rb), .int (rl), .ref nw, .ref tr, .ref lk, .ref di, .int (nI (ac9)), .ref kp, .ref ik, .ref lv])), (nw, .inl (cI, 151, .inl f)), (tr, .inl (cI, 151, .inl ft)), (lk, .inl (cI, 151, .inl flk)), (lv, .inl (cI, 4, .inl fl))] [(cI, .int)] [.ref h, .int (k), .int (v), .int (n)] (fun (r9 : Int32) (u9 : va_W) => r9 = (if afcR f B k v n = 0 then vlu (recT B k v (upd f 5 n)).2 k B else 0) ∧ ∃ tr9 : Nat → Int32, ∃ fl9 : Nat → Int32, ∃ lk9 : Nat → Int32, u9 = [(h, .inr (7, [.int (afcR f B k v n), .ref sc, .int (nI (ss)), .int (nI (ps.2)), .int (bI (ps.1 = true)), .int (rb), .int (rl), .ref nw, .ref tr, .ref lk, .ref di, .int (nI (ac9)), .ref kp, .ref ik, .ref lv])), (nw, .inl (cI, 151, .inl f)), (tr, .inl (cI, 151, .inl tr9)), (lk, .inl (cI, 151, .inl lk9)), (lv, .inl (cI, 4, .inl fl9))]) := by
  refine gp_of RX7 (by decide) rfl (Nat.le_of_ble_eq_true rfl) ?_
  intro p e s m below meth c ls H hX hr hlocks hK hP hD hS hl
  generalize gp_A [(h, .inr (7, [.int (rf), .ref sc, .int (nI (ss)), .int (nI (ps.2)), .int (bI (ps.1 = true)), .int (rb), .int (rl), .ref nw, .ref tr, .ref lk, .ref di, .int (nI (ac9)), .ref kp, .ref ik, .ref lv])), (nw, .inl (cI, 151, .inl f)), (tr, .inl (cI, 151, .inl ft)), (lk, .inl (cI, 151, .inl flk)), (lv, .inl (cI, 4, .inl fl))] = A at hD hS ⊢
  have hx := hX.1
  have hb := hX.2.1
  have hown := hX.2.2.2.1
  have hts := hX.2.2.2.2
  have hl : lv_has ls 5 [(0, .ref h), (1, .int (k)), (2, .int (v)), (3, .int (n))] := hl
  have hB8 := hO.1.2.1
  refine lv_iload_n hx hb dX7_afterCut_0 rfl (lv_at hl 1 rfl) ?_
  refine rp_callS hX good7 i7 (c7_isKey l D k) q7_isKey rfl (m7 186 rfl) (m7 187 rfl) ⟨Nat.le_of_ble_eq_true rfl, Nat.le_of_ble_eq_true rfl⟩ hK [] rfl hP [] rfl hS hl.1 rfl (Nat.le_of_ble_eq_true rfl) dX7_afterCut_1 ⟨Nat.zero_le _, Nat.zero_le _⟩ (fun H locs hP hS => ?_)
  refine lv_if_eq (tgt := 35) hx hb dX7_afterCut_4 (by decide) (fun c4_1 => ?_) (fun c4_1 => ?_)
  · skip
    have c4_1 := bI_f c4_1
    refine lv_iconst (v := 0) hx hb dX7_afterCut_35 (by decide) ?_
    refine lv_istore (lv' := [(4, .int (0)), (0, .ref h), (1, .int (k)), (2, .int (v)), (3, .int (n))]) hx hb dX7_afterCut_36 hl (by decide) rfl (fun ls hl => ?_)
    refine lv_aload_n hx hb dX7_afterCut_38 rfl (lv_at hl 1 rfl) ?_
    refine lv_iload hx hb dX7_afterCut_39 (lv_at hl 0 rfl) ?_
    refine lv_if_ne (tgt := 48) hx hb dX7_afterCut_41 (by decide) (fun c41_2 => ?_) (fun c41_2 => ?_)
    · skip
      exact absurd c41_2 (by decide)
    · skip
      refine lv_iconst (v := 1) hx hb dX7_afterCut_44 (by decide) ?_
      refine lv_goto (tgt := 64) hx hb dX7_afterCut_45 (by decide) ?_
      refine gp_backi (gp_runV hX good7 i7 (c7_refused l D h rf 1 [.ref sc, .int (nI (ss)), .int (nI (ps.2)), .int (bI (ps.1 = true)), .int (rb), .int (rl), .ref nw, .ref tr, .ref lk, .ref di, .int (nI (ac9)), .ref kp, .ref ik, .ref lv]) q7_refused rfl (m7 117 rfl) (m7 118 rfl) (m7 119 rfl) ⟨Nat.le_of_ble_eq_true rfl, Nat.le_of_ble_eq_true rfl⟩ hK [] rfl hP hD [0] (by decide) rfl (ci := 7) (q0 := 0) rfl rfl rfl hl.1 rfl (Nat.le_of_ble_eq_true rfl) dX7_afterCut_64 ⟨Nat.zero_le _, Nat.zero_le _⟩) hP hD hS [0] rfl (fun r u h => by rw [h.2]; simp only [List.map_cons, List.map_nil]) (fun r9 u H locs hpost hP hD hS => ?_)
      obtain ⟨hr9, rfl⟩ := hpost
      refine lv_as hr9 ?_
      have hP : va_P D vwCl [(h, .inr (7, [.int (1), .ref sc, .int (nI (ss)), .int (nI (ps.2)), .int (bI (ps.1 = true)), .int (rb), .int (rl), .ref nw, .ref tr, .ref lk, .ref di, .int (nI (ac9)), .ref kp, .ref ik, .ref lv])), (nw, .inl (cI, 151, .inl f)), (tr, .inl (cI, 151, .inl ft)), (lk, .inl (cI, 151, .inl flk)), (lv, .inl (cI, 4, .inl fl))] H := hP
      have hD : va_D A [(h, .inr (7, [.int (1), .ref sc, .int (nI (ss)), .int (nI (ps.2)), .int (bI (ps.1 = true)), .int (rb), .int (rl), .ref nw, .ref tr, .ref lk, .ref di, .int (nI (ac9)), .ref kp, .ref ik, .ref lv])), (nw, .inl (cI, 151, .inl f)), (tr, .inl (cI, 151, .inl ft)), (lk, .inl (cI, 151, .inl flk)), (lv, .inl (cI, 4, .inl fl))] := hD
      refine lv_as (show bI (0 < (1 : Int32)) = 1 from by decide) ?_
      refine lv_if_eq (tgt := 72) hx hb dX7_afterCut_67 (by decide) (fun c67_3 => ?_) (fun c67_3 => ?_)
      · skip
        exact absurd c67_3 (by decide)
      · skip
        refine lv_iconst (v := 0) hx hb dX7_afterCut_70 (by decide) ?_
        have hR9 : afcR f B k v n = 1 := by rw [afcR, if_neg (fun z => c4_1 z.1)]
        have hP : va_P D vwCl [(h, .inr (7, [.int (afcR f B k v n), .ref sc, .int (nI (ss)), .int (nI (ps.2)), .int (bI (ps.1 = true)), .int (rb), .int (rl), .ref nw, .ref tr, .ref lk, .ref di, .int (nI (ac9)), .ref kp, .ref ik, .ref lv])), (nw, .inl (cI, 151, .inl f)), (tr, .inl (cI, 151, .inl ft)), (lk, .inl (cI, 151, .inl flk)), (lv, .inl (cI, 4, .inl fl))] H := by
          rw [show (afcR f B k v n : Int32) = 1 from hR9]
          exact hP
        exact gp_reti hX hr hlocks hS hP ⟨oRn hR9 (by decide), _, _, _, rfl⟩ dX7_afterCut_71
  · skip
    have c4_1 := bI_t c4_1
    refine lv_iload_n hx hb dX7_afterCut_7 rfl (lv_at hl 2 rfl) ?_
    refine lv_i2l (v := (v : Int32).toInt64) hx hb dX7_afterCut_8 (rfl) ?_
    refine lv_lconst (v := 0) hx hb dX7_afterCut_9 (by decide) ?_
    refine lv_asl (show (0 : Int64) = (0 : Int32).toInt64 from by decide) ?_
    refine lv_ldc2 (v := 999) hx hb hown (hts _ (m7 190 rfl)) dX7_afterCut_10 ?_
    refine lv_asl (show (999 : Int64) = (999 : Int32).toInt64 from by decide) ?_
    refine rp_callS hX good7 i7 (c7_inI l D v 0 999) q7_in rfl (m7 114 rfl) (m7 115 rfl) ⟨Nat.le_of_ble_eq_true rfl, Nat.le_of_ble_eq_true rfl⟩ hK [] rfl hP [] rfl hS hl.1 rfl (Nat.le_of_ble_eq_true rfl) dX7_afterCut_13 ⟨Nat.zero_le _, Nat.zero_le _⟩ (fun H locs hP hS => ?_)
    refine lv_if_eq (tgt := 35) hx hb dX7_afterCut_16 (by decide) (fun c16_4 => ?_) (fun c16_4 => ?_)
    · skip
      have c16_4 := bI_f c16_4
      refine lv_iconst (v := 0) hx hb dX7_afterCut_35 (by decide) ?_
      refine lv_istore (lv' := [(4, .int (0)), (0, .ref h), (1, .int (k)), (2, .int (v)), (3, .int (n))]) hx hb dX7_afterCut_36 hl (by decide) rfl (fun ls hl => ?_)
      refine lv_aload_n hx hb dX7_afterCut_38 rfl (lv_at hl 1 rfl) ?_
      refine lv_iload hx hb dX7_afterCut_39 (lv_at hl 0 rfl) ?_
      refine lv_if_ne (tgt := 48) hx hb dX7_afterCut_41 (by decide) (fun c41_5 => ?_) (fun c41_5 => ?_)
      · skip
        exact absurd c41_5 (by decide)
      · skip
        refine lv_iconst (v := 1) hx hb dX7_afterCut_44 (by decide) ?_
        refine lv_goto (tgt := 64) hx hb dX7_afterCut_45 (by decide) ?_
        refine gp_backi (gp_runV hX good7 i7 (c7_refused l D h rf 1 [.ref sc, .int (nI (ss)), .int (nI (ps.2)), .int (bI (ps.1 = true)), .int (rb), .int (rl), .ref nw, .ref tr, .ref lk, .ref di, .int (nI (ac9)), .ref kp, .ref ik, .ref lv]) q7_refused rfl (m7 117 rfl) (m7 118 rfl) (m7 119 rfl) ⟨Nat.le_of_ble_eq_true rfl, Nat.le_of_ble_eq_true rfl⟩ hK [] rfl hP hD [0] (by decide) rfl (ci := 7) (q0 := 0) rfl rfl rfl hl.1 rfl (Nat.le_of_ble_eq_true rfl) dX7_afterCut_64 ⟨Nat.zero_le _, Nat.zero_le _⟩) hP hD hS [0] rfl (fun r u h => by rw [h.2]; simp only [List.map_cons, List.map_nil]) (fun r9 u H locs hpost hP hD hS => ?_)
        obtain ⟨hr9, rfl⟩ := hpost
        refine lv_as hr9 ?_
        have hP : va_P D vwCl [(h, .inr (7, [.int (1), .ref sc, .int (nI (ss)), .int (nI (ps.2)), .int (bI (ps.1 = true)), .int (rb), .int (rl), .ref nw, .ref tr, .ref lk, .ref di, .int (nI (ac9)), .ref kp, .ref ik, .ref lv])), (nw, .inl (cI, 151, .inl f)), (tr, .inl (cI, 151, .inl ft)), (lk, .inl (cI, 151, .inl flk)), (lv, .inl (cI, 4, .inl fl))] H := hP
        have hD : va_D A [(h, .inr (7, [.int (1), .ref sc, .int (nI (ss)), .int (nI (ps.2)), .int (bI (ps.1 = true)), .int (rb), .int (rl), .ref nw, .ref tr, .ref lk, .ref di, .int (nI (ac9)), .ref kp, .ref ik, .ref lv])), (nw, .inl (cI, 151, .inl f)), (tr, .inl (cI, 151, .inl ft)), (lk, .inl (cI, 151, .inl flk)), (lv, .inl (cI, 4, .inl fl))] := hD
        refine lv_as (show bI (0 < (1 : Int32)) = 1 from by decide) ?_
        refine lv_if_eq (tgt := 72) hx hb dX7_afterCut_67 (by decide) (fun c67_6 => ?_) (fun c67_6 => ?_)
        · skip
          exact absurd c67_6 (by decide)
        · skip
          refine lv_iconst (v := 0) hx hb dX7_afterCut_70 (by decide) ?_
          have hR9 : afcR f B k v n = 1 := by rw [afcR, if_neg (fun z => c16_4 z.2.1)]
          have hP : va_P D vwCl [(h, .inr (7, [.int (afcR f B k v n), .ref sc, .int (nI (ss)), .int (nI (ps.2)), .int (bI (ps.1 = true)), .int (rb), .int (rl), .ref nw, .ref tr, .ref lk, .ref di, .int (nI (ac9)), .ref kp, .ref ik, .ref lv])), (nw, .inl (cI, 151, .inl f)), (tr, .inl (cI, 151, .inl ft)), (lk, .inl (cI, 151, .inl flk)), (lv, .inl (cI, 4, .inl fl))] H := by
            rw [show (afcR f B k v n : Int32) = 1 from hR9]
            exact hP
          exact gp_reti hX hr hlocks hS hP ⟨oRn hR9 (by decide), _, _, _, rfl⟩ dX7_afterCut_71
    · skip
      have c16_4 := bI_t c16_4
      refine lv_iload_n hx hb dX7_afterCut_19 rfl (lv_at hl 3 rfl) ?_
      refine lv_i2l (v := (n : Int32).toInt64) hx hb dX7_afterCut_20 (rfl) ?_
      refine lv_lconst (v := 1) hx hb dX7_afterCut_21 (by decide) ?_
      refine lv_asl (show (1 : Int64) = (1 : Int32).toInt64 from by decide) ?_
      refine lv_ldc2 (v := 99) hx hb hown (hts _ (m7 195 rfl)) dX7_afterCut_22 ?_
      refine lv_asl (show (99 : Int64) = (99 : Int32).toInt64 from by decide) ?_
      refine rp_callS hX good7 i7 (c7_inI l D n 1 99) q7_in rfl (m7 114 rfl) (m7 115 rfl) ⟨Nat.le_of_ble_eq_true rfl, Nat.le_of_ble_eq_true rfl⟩ hK [] rfl hP [] rfl hS hl.1 rfl (Nat.le_of_ble_eq_true rfl) dX7_afterCut_25 ⟨Nat.zero_le _, Nat.zero_le _⟩ (fun H locs hP hS => ?_)
      refine lv_if_eq (tgt := 35) hx hb dX7_afterCut_28 (by decide) (fun c28_7 => ?_) (fun c28_7 => ?_)
      · skip
        have c28_7 := bI_f c28_7
        refine lv_iconst (v := 0) hx hb dX7_afterCut_35 (by decide) ?_
        refine lv_istore (lv' := [(4, .int (0)), (0, .ref h), (1, .int (k)), (2, .int (v)), (3, .int (n))]) hx hb dX7_afterCut_36 hl (by decide) rfl (fun ls hl => ?_)
        refine lv_aload_n hx hb dX7_afterCut_38 rfl (lv_at hl 1 rfl) ?_
        refine lv_iload hx hb dX7_afterCut_39 (lv_at hl 0 rfl) ?_
        refine lv_if_ne (tgt := 48) hx hb dX7_afterCut_41 (by decide) (fun c41_8 => ?_) (fun c41_8 => ?_)
        · skip
          exact absurd c41_8 (by decide)
        · skip
          refine lv_iconst (v := 1) hx hb dX7_afterCut_44 (by decide) ?_
          refine lv_goto (tgt := 64) hx hb dX7_afterCut_45 (by decide) ?_
          refine gp_backi (gp_runV hX good7 i7 (c7_refused l D h rf 1 [.ref sc, .int (nI (ss)), .int (nI (ps.2)), .int (bI (ps.1 = true)), .int (rb), .int (rl), .ref nw, .ref tr, .ref lk, .ref di, .int (nI (ac9)), .ref kp, .ref ik, .ref lv]) q7_refused rfl (m7 117 rfl) (m7 118 rfl) (m7 119 rfl) ⟨Nat.le_of_ble_eq_true rfl, Nat.le_of_ble_eq_true rfl⟩ hK [] rfl hP hD [0] (by decide) rfl (ci := 7) (q0 := 0) rfl rfl rfl hl.1 rfl (Nat.le_of_ble_eq_true rfl) dX7_afterCut_64 ⟨Nat.zero_le _, Nat.zero_le _⟩) hP hD hS [0] rfl (fun r u h => by rw [h.2]; simp only [List.map_cons, List.map_nil]) (fun r9 u H locs hpost hP hD hS => ?_)
          obtain ⟨hr9, rfl⟩ := hpost
          refine lv_as hr9 ?_
          have hP : va_P D vwCl [(h, .inr (7, [.int (1), .ref sc, .int (nI (ss)), .int (nI (ps.2)), .int (bI (ps.1 = true)), .int (rb), .int (rl), .ref nw, .ref tr, .ref lk, .ref di, .int (nI (ac9)), .ref kp, .ref ik, .ref lv])), (nw, .inl (cI, 151, .inl f)), (tr, .inl (cI, 151, .inl ft)), (lk, .inl (cI, 151, .inl flk)), (lv, .inl (cI, 4, .inl fl))] H := hP
          have hD : va_D A [(h, .inr (7, [.int (1), .ref sc, .int (nI (ss)), .int (nI (ps.2)), .int (bI (ps.1 = true)), .int (rb), .int (rl), .ref nw, .ref tr, .ref lk, .ref di, .int (nI (ac9)), .ref kp, .ref ik, .ref lv])), (nw, .inl (cI, 151, .inl f)), (tr, .inl (cI, 151, .inl ft)), (lk, .inl (cI, 151, .inl flk)), (lv, .inl (cI, 4, .inl fl))] := hD
          refine lv_as (show bI (0 < (1 : Int32)) = 1 from by decide) ?_
          refine lv_if_eq (tgt := 72) hx hb dX7_afterCut_67 (by decide) (fun c67_9 => ?_) (fun c67_9 => ?_)
          · skip
            exact absurd c67_9 (by decide)
          · skip
            refine lv_iconst (v := 0) hx hb dX7_afterCut_70 (by decide) ?_
            have hR9 : afcR f B k v n = 1 := by rw [afcR, if_neg (fun z => c28_7 z.2.2)]
            have hP : va_P D vwCl [(h, .inr (7, [.int (afcR f B k v n), .ref sc, .int (nI (ss)), .int (nI (ps.2)), .int (bI (ps.1 = true)), .int (rb), .int (rl), .ref nw, .ref tr, .ref lk, .ref di, .int (nI (ac9)), .ref kp, .ref ik, .ref lv])), (nw, .inl (cI, 151, .inl f)), (tr, .inl (cI, 151, .inl ft)), (lk, .inl (cI, 151, .inl flk)), (lv, .inl (cI, 4, .inl fl))] H := by
              rw [show (afcR f B k v n : Int32) = 1 from hR9]
              exact hP
            exact gp_reti hX hr hlocks hS hP ⟨oRn hR9 (by decide), _, _, _, rfl⟩ dX7_afterCut_71
      · skip
        have c28_7 := bI_t c28_7
        refine lv_iconst (v := 1) hx hb dX7_afterCut_31 (by decide) ?_
        refine lv_goto (tgt := 36) hx hb dX7_afterCut_32 (by decide) ?_
        refine lv_istore (lv' := [(4, .int (1)), (0, .ref h), (1, .int (k)), (2, .int (v)), (3, .int (n))]) hx hb dX7_afterCut_36 hl (by decide) rfl (fun ls hl => ?_)
        refine lv_aload_n hx hb dX7_afterCut_38 rfl (lv_at hl 1 rfl) ?_
        refine lv_iload hx hb dX7_afterCut_39 (lv_at hl 0 rfl) ?_
        refine lv_if_ne (tgt := 48) hx hb dX7_afterCut_41 (by decide) (fun c41_10 => ?_) (fun c41_10 => ?_)
        · skip
          refine lv_aload_n hx hb dX7_afterCut_48 rfl (lv_at hl 1 rfl) ?_
          refine lv_aload_n hx hb dX7_afterCut_49 rfl (lv_at hl 1 rfl) ?_
          refine va_get (D := D) (ci := 7) (v := .ref nw) (C := RX7) (T := TX7) (N := 15) hx hb hts u7 hown hK hP 0 rfl rfl 7 (by decide) (hts _ (m7 5 rfl)) (fun _ h9 => h9) rfl dX7_afterCut_50 ?_
          refine gp_backi (gp_runV hX good7 i7 (c7_hasRoom l D cI h lv lk nw [.int (rf), .ref sc, .int (nI (ss)), .int (nI (ps.2)), .int (bI (ps.1 = true)), .int (rb), .int (rl), .ref nw, .ref tr, .ref lk, .ref di, .int (nI (ac9)), .ref kp, .ref ik, .ref lv] fl flk f B hO.1 rfl rfl 5000 (lookT B f).1 (lookT B f).2 (ok_look hO)) q7_hasRoom rfl (m7 101 rfl) (m7 102 rfl) (m7 103 rfl) ⟨Nat.le_of_ble_eq_true rfl, Nat.le_of_ble_eq_true rfl⟩ hK [0] rfl hP hD [0, 4, 3, 1] (by decide) rfl (ci := 7) (q0 := 0) rfl rfl rfl hl.1 rfl (Nat.le_of_ble_eq_true rfl) dX7_afterCut_53 ⟨Nat.zero_le _, Nat.zero_le _⟩) hP hD hS [0, 4, 3, 1] rfl (fun r u h => by obtain ⟨-, x11, rfl⟩ := h; simp only [List.map_cons, List.map_nil]) (fun r9 u H locs hpost hP hD hS => ?_)
          obtain ⟨hr9, x11, rfl⟩ := hpost
          refine lv_as hr9 ?_
          have hP : va_P D vwCl [(h, .inr (7, [.int (rf), .ref sc, .int (nI (ss)), .int (nI (ps.2)), .int (bI (ps.1 = true)), .int (rb), .int (rl), .ref nw, .ref tr, .ref lk, .ref di, .int (nI (ac9)), .ref kp, .ref ik, .ref lv])), (nw, .inl (cI, 151, .inl f)), (tr, .inl (cI, 151, .inl ft)), (lk, .inl (cI, 151, .inl (if f 2 = 1 then ((lookT B f).2) else flk))), (lv, .inl (cI, 4, .inl x11))] H := hP
          have hD : va_D A [(h, .inr (7, [.int (rf), .ref sc, .int (nI (ss)), .int (nI (ps.2)), .int (bI (ps.1 = true)), .int (rb), .int (rl), .ref nw, .ref tr, .ref lk, .ref di, .int (nI (ac9)), .ref kp, .ref ik, .ref lv])), (nw, .inl (cI, 151, .inl f)), (tr, .inl (cI, 151, .inl ft)), (lk, .inl (cI, 151, .inl (if f 2 = 1 then ((lookT B f).2) else flk))), (lv, .inl (cI, 4, .inl x11))] := hD
          refine lv_if_eq (tgt := 63) hx hb dX7_afterCut_56 (by decide) (fun c56_12 => ?_) (fun c56_12 => ?_)
          · skip
            have c56_12 := bI_f c56_12
            refine lv_iconst (v := 2) hx hb dX7_afterCut_63 (by decide) ?_
            refine gp_backi (gp_runV hX good7 i7 (c7_refused l D h rf 2 [.ref sc, .int (nI (ss)), .int (nI (ps.2)), .int (bI (ps.1 = true)), .int (rb), .int (rl), .ref nw, .ref tr, .ref lk, .ref di, .int (nI (ac9)), .ref kp, .ref ik, .ref lv]) q7_refused rfl (m7 117 rfl) (m7 118 rfl) (m7 119 rfl) ⟨Nat.le_of_ble_eq_true rfl, Nat.le_of_ble_eq_true rfl⟩ hK [] rfl hP hD [0] (by decide) rfl (ci := 7) (q0 := 0) rfl rfl rfl hl.1 rfl (Nat.le_of_ble_eq_true rfl) dX7_afterCut_64 ⟨Nat.zero_le _, Nat.zero_le _⟩) hP hD hS [0] rfl (fun r u h => by rw [h.2]; simp only [List.map_cons, List.map_nil]) (fun r9 u H locs hpost hP hD hS => ?_)
            obtain ⟨hr9, rfl⟩ := hpost
            refine lv_as hr9 ?_
            have hP : va_P D vwCl [(h, .inr (7, [.int (2), .ref sc, .int (nI (ss)), .int (nI (ps.2)), .int (bI (ps.1 = true)), .int (rb), .int (rl), .ref nw, .ref tr, .ref lk, .ref di, .int (nI (ac9)), .ref kp, .ref ik, .ref lv])), (nw, .inl (cI, 151, .inl f)), (tr, .inl (cI, 151, .inl ft)), (lk, .inl (cI, 151, .inl (if f 2 = 1 then ((lookT B f).2) else flk))), (lv, .inl (cI, 4, .inl x11))] H := hP
            have hD : va_D A [(h, .inr (7, [.int (2), .ref sc, .int (nI (ss)), .int (nI (ps.2)), .int (bI (ps.1 = true)), .int (rb), .int (rl), .ref nw, .ref tr, .ref lk, .ref di, .int (nI (ac9)), .ref kp, .ref ik, .ref lv])), (nw, .inl (cI, 151, .inl f)), (tr, .inl (cI, 151, .inl ft)), (lk, .inl (cI, 151, .inl (if f 2 = 1 then ((lookT B f).2) else flk))), (lv, .inl (cI, 4, .inl x11))] := hD
            refine lv_as (show bI (0 < (2 : Int32)) = 1 from by decide) ?_
            refine lv_if_eq (tgt := 72) hx hb dX7_afterCut_67 (by decide) (fun c67_13 => ?_) (fun c67_13 => ?_)
            · skip
              exact absurd c67_13 (by decide)
            · skip
              refine lv_iconst (v := 0) hx hb dX7_afterCut_70 (by decide) ?_
              have hR9 : afcR f B k v n = 2 := by rw [afcR, if_pos ⟨c4_1, c16_4, c28_7⟩, if_neg c56_12]
              have hP : va_P D vwCl [(h, .inr (7, [.int (afcR f B k v n), .ref sc, .int (nI (ss)), .int (nI (ps.2)), .int (bI (ps.1 = true)), .int (rb), .int (rl), .ref nw, .ref tr, .ref lk, .ref di, .int (nI (ac9)), .ref kp, .ref ik, .ref lv])), (nw, .inl (cI, 151, .inl f)), (tr, .inl (cI, 151, .inl ft)), (lk, .inl (cI, 151, .inl (if f 2 = 1 then ((lookT B f).2) else flk))), (lv, .inl (cI, 4, .inl x11))] H := by
                rw [show (afcR f B k v n : Int32) = 2 from hR9]
                exact hP
              exact gp_reti hX hr hlocks hS hP ⟨oRn hR9 (by decide), _, _, _, rfl⟩ dX7_afterCut_71
          · skip
            have c56_12 := bI_t c56_12
            refine lv_iconst (v := 0) hx hb dX7_afterCut_59 (by decide) ?_
            refine lv_goto (tgt := 64) hx hb dX7_afterCut_60 (by decide) ?_
            refine gp_backi (gp_runV hX good7 i7 (c7_refused l D h rf 0 [.ref sc, .int (nI (ss)), .int (nI (ps.2)), .int (bI (ps.1 = true)), .int (rb), .int (rl), .ref nw, .ref tr, .ref lk, .ref di, .int (nI (ac9)), .ref kp, .ref ik, .ref lv]) q7_refused rfl (m7 117 rfl) (m7 118 rfl) (m7 119 rfl) ⟨Nat.le_of_ble_eq_true rfl, Nat.le_of_ble_eq_true rfl⟩ hK [] rfl hP hD [0] (by decide) rfl (ci := 7) (q0 := 0) rfl rfl rfl hl.1 rfl (Nat.le_of_ble_eq_true rfl) dX7_afterCut_64 ⟨Nat.zero_le _, Nat.zero_le _⟩) hP hD hS [0] rfl (fun r u h => by rw [h.2]; simp only [List.map_cons, List.map_nil]) (fun r9 u H locs hpost hP hD hS => ?_)
            obtain ⟨hr9, rfl⟩ := hpost
            refine lv_as hr9 ?_
            have hP : va_P D vwCl [(h, .inr (7, [.int (0), .ref sc, .int (nI (ss)), .int (nI (ps.2)), .int (bI (ps.1 = true)), .int (rb), .int (rl), .ref nw, .ref tr, .ref lk, .ref di, .int (nI (ac9)), .ref kp, .ref ik, .ref lv])), (nw, .inl (cI, 151, .inl f)), (tr, .inl (cI, 151, .inl ft)), (lk, .inl (cI, 151, .inl (if f 2 = 1 then ((lookT B f).2) else flk))), (lv, .inl (cI, 4, .inl x11))] H := hP
            have hD : va_D A [(h, .inr (7, [.int (0), .ref sc, .int (nI (ss)), .int (nI (ps.2)), .int (bI (ps.1 = true)), .int (rb), .int (rl), .ref nw, .ref tr, .ref lk, .ref di, .int (nI (ac9)), .ref kp, .ref ik, .ref lv])), (nw, .inl (cI, 151, .inl f)), (tr, .inl (cI, 151, .inl ft)), (lk, .inl (cI, 151, .inl (if f 2 = 1 then ((lookT B f).2) else flk))), (lv, .inl (cI, 4, .inl x11))] := hD
            refine lv_as (show bI (0 < (0 : Int32)) = 0 from by decide) ?_
            refine lv_if_eq (tgt := 72) hx hb dX7_afterCut_67 (by decide) (fun c67_14 => ?_) (fun c67_14 => ?_)
            · skip
              have hO3 := hO2 c28_7
              refine lv_aload_n hx hb dX7_afterCut_72 rfl (lv_at hl 1 rfl) ?_
              refine gp_backv (gp_runV hX good7 i7 (c7_begin l D cI h tr nw [.int (0), .ref sc, .int (nI (ss)), .int (nI (ps.2)), .int (bI (ps.1 = true)), .int (rb), .int (rl), .ref nw, .ref tr, .ref lk, .ref di, .int (nI (ac9)), .ref kp, .ref ik, .ref lv] ft f rfl rfl) q7_begin rfl (m7 200 rfl) (m7 201 rfl) (m7 202 rfl) ⟨Nat.le_of_ble_eq_true rfl, Nat.le_of_ble_eq_true rfl⟩ hK [0] rfl hP hD [0, 2, 1] (by decide) rfl (ci := 7) (q0 := 0) rfl rfl rfl hl.1 rfl (Nat.le_of_ble_eq_true rfl) dX7_afterCut_73 ⟨Nat.zero_le _, Nat.zero_le _⟩) hP hD hS [0, 2, 1] rfl (fun u h => by rw [h]; simp only [List.map_cons, List.map_nil]) (fun u H locs hpost hP hD hS => ?_)
              subst hpost
              have hP : va_P D vwCl [(h, .inr (7, [.int (0), .ref sc, .int (nI (ss)), .int (nI (ps.2)), .int (bI (ps.1 = true)), .int (rb), .int (rl), .ref nw, .ref tr, .ref lk, .ref di, .int (nI (ac9)), .ref kp, .ref ik, .ref lv])), (nw, .inl (cI, 151, .inl f)), (tr, .inl (cI, 151, .inl f)), (lk, .inl (cI, 151, .inl (if f 2 = 1 then ((lookT B f).2) else flk))), (lv, .inl (cI, 4, .inl x11))] H := hP
              have hD : va_D A [(h, .inr (7, [.int (0), .ref sc, .int (nI (ss)), .int (nI (ps.2)), .int (bI (ps.1 = true)), .int (rb), .int (rl), .ref nw, .ref tr, .ref lk, .ref di, .int (nI (ac9)), .ref kp, .ref ik, .ref lv])), (nw, .inl (cI, 151, .inl f)), (tr, .inl (cI, 151, .inl f)), (lk, .inl (cI, 151, .inl (if f 2 = 1 then ((lookT B f).2) else flk))), (lv, .inl (cI, 4, .inl x11))] := hD
              refine lv_aload_n hx hb dX7_afterCut_76 rfl (lv_at hl 1 rfl) ?_
              refine va_get (D := D) (ci := 7) (v := .ref tr) (C := RX7) (T := TX7) (N := 15) hx hb hts u7 hown hK hP 0 rfl rfl 8 (by decide) (hts _ (m7 6 rfl)) (fun _ h9 => h9) rfl dX7_afterCut_77 ?_
              refine lv_iconst (v := 5) hx hb dX7_afterCut_80 (by decide) ?_
              refine lv_iload_n hx hb dX7_afterCut_81 rfl (lv_at hl 4 rfl) ?_
              refine ra_iast (i := 5) hx hb hK hP hD hS 2 0 rfl rfl (by omega) (by decide) dX7_afterCut_82 (fun H locs hP hD hS => ?_)
              have hP : va_P D vwCl [(h, .inr (7, [.int (0), .ref sc, .int (nI (ss)), .int (nI (ps.2)), .int (bI (ps.1 = true)), .int (rb), .int (rl), .ref nw, .ref tr, .ref lk, .ref di, .int (nI (ac9)), .ref kp, .ref ik, .ref lv])), (nw, .inl (cI, 151, .inl f)), (tr, .inl (cI, 151, .inl (upd f 5 n))), (lk, .inl (cI, 151, .inl (if f 2 = 1 then ((lookT B f).2) else flk))), (lv, .inl (cI, 4, .inl x11))] H := hP
              have hD : va_D A [(h, .inr (7, [.int (0), .ref sc, .int (nI (ss)), .int (nI (ps.2)), .int (bI (ps.1 = true)), .int (rb), .int (rl), .ref nw, .ref tr, .ref lk, .ref di, .int (nI (ac9)), .ref kp, .ref ik, .ref lv])), (nw, .inl (cI, 151, .inl f)), (tr, .inl (cI, 151, .inl (upd f 5 n))), (lk, .inl (cI, 151, .inl (if f 2 = 1 then ((lookT B f).2) else flk))), (lv, .inl (cI, 4, .inl x11))] := hD
              refine lv_aload_n hx hb dX7_afterCut_83 rfl (lv_at hl 1 rfl) ?_
              refine lv_aload_n hx hb dX7_afterCut_84 rfl (lv_at hl 1 rfl) ?_
              refine va_get (D := D) (ci := 7) (v := .ref tr) (C := RX7) (T := TX7) (N := 15) hx hb hts u7 hown hK hP 0 rfl rfl 8 (by decide) (hts _ (m7 6 rfl)) (fun _ h9 => h9) rfl dX7_afterCut_85 ?_
              refine lv_iload_n hx hb dX7_afterCut_88 rfl (lv_at hl 2 rfl) ?_
              refine lv_iload_n hx hb dX7_afterCut_89 rfl (lv_at hl 3 rfl) ?_
              refine gp_backi (gp_runV hX good7 i7 (c7_record l D cI h lv tr [.int (0), .ref sc, .int (nI (ss)), .int (nI (ps.2)), .int (bI (ps.1 = true)), .int (rb), .int (rl), .ref nw, .ref tr, .ref lk, .ref di, .int (nI (ac9)), .ref kp, .ref ik, .ref lv] x11 (upd f 5 n) B hO3.1 rfl k v 5000 (recT B k v (upd f 5 n)).1 (recT B k v (upd f 5 n)).2 (ok_rec hO3 _ _)) q7_record rfl (m7 93 rfl) (m7 94 rfl) (m7 95 rfl) ⟨Nat.le_of_ble_eq_true rfl, Nat.le_of_ble_eq_true rfl⟩ hK [0] rfl hP hD [0, 4, 2] (by decide) rfl (ci := 7) (q0 := 0) rfl rfl rfl hl.1 rfl (Nat.le_of_ble_eq_true rfl) dX7_afterCut_90 ⟨Nat.zero_le _, Nat.zero_le _⟩) hP hD hS [0, 4, 2] rfl (fun r u h => by obtain ⟨-, x15, rfl⟩ := h; simp only [List.map_cons, List.map_nil]) (fun r9 u H locs hpost hP hD hS => ?_)
              obtain ⟨hr9, x15, rfl⟩ := hpost
              refine lv_as hr9 ?_
              have hP : va_P D vwCl [(h, .inr (7, [.int (0), .ref sc, .int (nI (ss)), .int (nI (ps.2)), .int (bI (ps.1 = true)), .int (rb), .int (rl), .ref nw, .ref tr, .ref lk, .ref di, .int (nI (ac9)), .ref kp, .ref ik, .ref lv])), (nw, .inl (cI, 151, .inl f)), (tr, .inl (cI, 151, .inl ((recT B k v (upd f 5 n)).2))), (lk, .inl (cI, 151, .inl (if f 2 = 1 then ((lookT B f).2) else flk))), (lv, .inl (cI, 4, .inl x15))] H := hP
              have hD : va_D A [(h, .inr (7, [.int (0), .ref sc, .int (nI (ss)), .int (nI (ps.2)), .int (bI (ps.1 = true)), .int (rb), .int (rl), .ref nw, .ref tr, .ref lk, .ref di, .int (nI (ac9)), .ref kp, .ref ik, .ref lv])), (nw, .inl (cI, 151, .inl f)), (tr, .inl (cI, 151, .inl ((recT B k v (upd f 5 n)).2))), (lk, .inl (cI, 151, .inl (if f 2 = 1 then ((lookT B f).2) else flk))), (lv, .inl (cI, 4, .inl x15))] := hD
              refine lv_pop hx hb dX7_afterCut_93 rfl ?_
              refine lv_aload_n hx hb dX7_afterCut_94 rfl (lv_at hl 1 rfl) ?_
              refine va_get (D := D) (ci := 7) (v := .ref tr) (C := RX7) (T := TX7) (N := 15) hx hb hts u7 hown hK hP 0 rfl rfl 8 (by decide) (hts _ (m7 6 rfl)) (fun _ h9 => h9) rfl dX7_afterCut_95 ?_
              refine lv_iload_n hx hb dX7_afterCut_98 rfl (lv_at hl 2 rfl) ?_
              refine rp_callS hX good7 i7 (c7_valueOf l D cI tr ((recT B k v (upd f 5 n)).2) k B (Wf_recT hO3 k v).1 (Wf_recT hO3 k v).2.1) q7_valueOf rfl (m7 35 rfl) (m7 36 rfl) ⟨Nat.le_of_ble_eq_true rfl, Nat.le_of_ble_eq_true rfl⟩ hK [0] rfl hP [2] rfl hS hl.1 rfl (Nat.le_of_ble_eq_true rfl) dX7_afterCut_99 ⟨Nat.zero_le _, Nat.zero_le _⟩ (fun H locs hP hS => ?_)
              have hR9 : afcR f B k v n = 0 := by rw [afcR, if_pos ⟨c4_1, c16_4, c28_7⟩, if_pos c56_12]
              have hP : va_P D vwCl [(h, .inr (7, [.int (afcR f B k v n), .ref sc, .int (nI (ss)), .int (nI (ps.2)), .int (bI (ps.1 = true)), .int (rb), .int (rl), .ref nw, .ref tr, .ref lk, .ref di, .int (nI (ac9)), .ref kp, .ref ik, .ref lv])), (nw, .inl (cI, 151, .inl f)), (tr, .inl (cI, 151, .inl ((recT B k v (upd f 5 n)).2))), (lk, .inl (cI, 151, .inl (if f 2 = 1 then ((lookT B f).2) else flk))), (lv, .inl (cI, 4, .inl x15))] H := by
                rw [show (afcR f B k v n : Int32) = 0 from hR9]
                exact hP
              exact gp_reti hX hr hlocks hS hP ⟨oR0 hR9, _, _, _, rfl⟩ dX7_afterCut_102
            · skip
              exact absurd c67_14 (by decide)
        · skip
          exact absurd c41_10 (by decide)
theorem dX7_lasts_0 : decode cX7_lasts 0 = .ok (.aload_n 0, 1) := by decide +kernel
theorem dX7_lasts_1 : decode cX7_lasts 1 = .ok (.iload_n 1, 1) := by decide +kernel
theorem dX7_lasts_2 : decode cX7_lasts 2 = .ok (.invokestatic 230, 3) := by decide +kernel
theorem dX7_lasts_5 : decode cX7_lasts 5 = .ok (.ifCond .eq 7, 3) := by decide +kernel
theorem dX7_lasts_8 : decode cX7_lasts 8 = .ok (.iconst 0, 1) := by decide +kernel
theorem dX7_lasts_9 : decode cX7_lasts 9 = .ok (.goto 4, 3) := by decide +kernel
theorem dX7_lasts_12 : decode cX7_lasts 12 = .ok (.iconst 1, 1) := by decide +kernel
theorem dX7_lasts_13 : decode cX7_lasts 13 = .ok (.invokevirtual 154, 3) := by decide +kernel
theorem dX7_lasts_16 : decode cX7_lasts 16 = .ok (.ifCond .eq 5, 3) := by decide +kernel
theorem dX7_lasts_19 : decode cX7_lasts 19 = .ok (.iconst 0, 1) := by decide +kernel
theorem dX7_lasts_20 : decode cX7_lasts 20 = .ok (.ireturn, 1) := by decide +kernel
theorem dX7_lasts_21 : decode cX7_lasts 21 = .ok (.aload_n 0, 1) := by decide +kernel
theorem dX7_lasts_22 : decode cX7_lasts 22 = .ok (.invokevirtual 245, 3) := by decide +kernel
theorem dX7_lasts_25 : decode cX7_lasts 25 = .ok (.aload_n 0, 1) := by decide +kernel
theorem dX7_lasts_26 : decode cX7_lasts 26 = .ok (.getfield 16, 3) := by decide +kernel
theorem dX7_lasts_29 : decode cX7_lasts 29 = .ok (.iconst 5, 1) := by decide +kernel
theorem dX7_lasts_30 : decode cX7_lasts 30 = .ok (.iconst 0, 1) := by decide +kernel
theorem dX7_lasts_31 : decode cX7_lasts 31 = .ok (.iastore, 1) := by decide +kernel
theorem dX7_lasts_32 : decode cX7_lasts 32 = .ok (.iconst 0, 1) := by decide +kernel
theorem dX7_lasts_33 : decode cX7_lasts 33 = .ok (.istore_n 2, 1) := by decide +kernel
theorem dX7_lasts_34 : decode cX7_lasts 34 = .ok (.iload_n 2, 1) := by decide +kernel
theorem dX7_lasts_35 : decode cX7_lasts 35 = .ok (.sipush 300, 3) := by decide +kernel
theorem dX7_lasts_38 : decode cX7_lasts 38 = .ok (.if_icmp .ge 32, 3) := by decide +kernel
theorem dX7_lasts_41 : decode cX7_lasts 41 = .ok (.aload_n 0, 1) := by decide +kernel
theorem dX7_lasts_42 : decode cX7_lasts 42 = .ok (.getfield 16, 3) := by decide +kernel
theorem dX7_lasts_45 : decode cX7_lasts 45 = .ok (.iconst 2, 1) := by decide +kernel
theorem dX7_lasts_46 : decode cX7_lasts 46 = .ok (.iaload, 1) := by decide +kernel
theorem dX7_lasts_47 : decode cX7_lasts 47 = .ok (.iconst 1, 1) := by decide +kernel
theorem dX7_lasts_48 : decode cX7_lasts 48 = .ok (.if_icmp .ne 22, 3) := by decide +kernel
theorem dX7_lasts_51 : decode cX7_lasts 51 = .ok (.aload_n 0, 1) := by decide +kernel
theorem dX7_lasts_52 : decode cX7_lasts 52 = .ok (.aload_n 0, 1) := by decide +kernel
theorem dX7_lasts_53 : decode cX7_lasts 53 = .ok (.getfield 16, 3) := by decide +kernel
theorem dX7_lasts_56 : decode cX7_lasts 56 = .ok (.iload_n 1, 1) := by decide +kernel
theorem dX7_lasts_57 : decode cX7_lasts 57 = .ok (.iconst 0, 1) := by decide +kernel
theorem dX7_lasts_58 : decode cX7_lasts 58 = .ok (.invokevirtual 128, 3) := by decide +kernel
theorem dX7_lasts_61 : decode cX7_lasts 61 = .ok (.ifCond .lt 9, 3) := by decide +kernel
theorem dX7_lasts_64 : decode cX7_lasts 64 = .ok (.iinc 2 1, 3) := by decide +kernel
theorem dX7_lasts_67 : decode cX7_lasts 67 = .ok (.goto (-33), 3) := by decide +kernel
theorem dX7_lasts_70 : decode cX7_lasts 70 = .ok (.iload_n 2, 1) := by decide +kernel
theorem dX7_lasts_71 : decode cX7_lasts 71 = .ok (.ireturn, 1) := by decide +kernel
set_option maxHeartbeats 4000000 in
set_option maxRecDepth 100000 in
theorem c7_lasts (l : Launch) (D : va_G) (cI cZ : ClassId) (h sc nw tr lk di kp ik lv : Nat) (rf rb rl : Int32) (ac9 : Nat) (ss : Nat) (ps : Bool × Nat) (f : Nat → Int32) (B : Nat) (ft flk fl : Nat → Int32) (hO : Ok f B) (k : Int32) (la n2 : Nat) (hls : keyP k → lsL B k la n2 (upd f 5 0) 0) : GPi l yX7_lasts cX7_lasts 3 .int W7 10 227 D [(h, .inr (7, [.int (rf), .ref sc, .int (nI (ss)), .int (nI (ps.2)), .int (bI (ps.1 = true)), .int (rb), .int (rl), .ref nw, .ref tr, .ref lk, .ref di, .int (nI (ac9)), .ref kp, .ref ik, .ref lv])), (nw, .inl (cI, 151, .inl f)), (tr, .inl (cI, 151, .inl ft)), (lk, .inl (cI, 151, .inl flk)), (lv, .inl (cI, 4, .inl fl))] [(cI, .int)] [.ref h, .int (k)] (fun (r9 : Int32) (u9 : va_W) => r9 = (if keyR k = 0 then nI la else 0) ∧ ∃ tr9 : Nat → Int32, ∃ fl9 : Nat → Int32, ∃ lk9 : Nat → Int32, u9 = [(h, .inr (7, [.int (keyR k), .ref sc, .int (nI (ss)), .int (nI (ps.2)), .int (bI (ps.1 = true)), .int (rb), .int (rl), .ref nw, .ref tr, .ref lk, .ref di, .int (nI (ac9)), .ref kp, .ref ik, .ref lv])), (nw, .inl (cI, 151, .inl f)), (tr, .inl (cI, 151, .inl tr9)), (lk, .inl (cI, 151, .inl lk9)), (lv, .inl (cI, 4, .inl fl9))]) := by
  refine gp_of RX7 (by decide) rfl (Nat.le_of_ble_eq_true rfl) ?_
  intro p e s m below meth c ls H hX hr hlocks hK hP hD hS hl
  generalize gp_A [(h, .inr (7, [.int (rf), .ref sc, .int (nI (ss)), .int (nI (ps.2)), .int (bI (ps.1 = true)), .int (rb), .int (rl), .ref nw, .ref tr, .ref lk, .ref di, .int (nI (ac9)), .ref kp, .ref ik, .ref lv])), (nw, .inl (cI, 151, .inl f)), (tr, .inl (cI, 151, .inl ft)), (lk, .inl (cI, 151, .inl flk)), (lv, .inl (cI, 4, .inl fl))] = A at hD hS ⊢
  have hx := hX.1
  have hb := hX.2.1
  have hown := hX.2.2.2.1
  have hts := hX.2.2.2.2
  have hl : lv_has ls 3 [(0, .ref h), (1, .int (k))] := hl
  have hB8 := hO.1.2.1
  refine lv_aload_n hx hb dX7_lasts_0 rfl (lv_at hl 0 rfl) ?_
  refine lv_iload_n hx hb dX7_lasts_1 rfl (lv_at hl 1 rfl) ?_
  refine rp_callS hX good7 i7 (c7_isKey l D k) q7_isKey rfl (m7 186 rfl) (m7 187 rfl) ⟨Nat.le_of_ble_eq_true rfl, Nat.le_of_ble_eq_true rfl⟩ hK [] rfl hP [] rfl hS hl.1 rfl (Nat.le_of_ble_eq_true rfl) dX7_lasts_2 ⟨Nat.zero_le _, Nat.zero_le _⟩ (fun H locs hP hS => ?_)
  refine lv_if_eq (tgt := 12) hx hb dX7_lasts_5 (by decide) (fun c5_1 => ?_) (fun c5_1 => ?_)
  · skip
    have c5_1 := bI_f c5_1
    refine lv_iconst (v := 1) hx hb dX7_lasts_12 (by decide) ?_
    refine gp_backi (gp_runV hX good7 i7 (c7_refused l D h rf 1 [.ref sc, .int (nI (ss)), .int (nI (ps.2)), .int (bI (ps.1 = true)), .int (rb), .int (rl), .ref nw, .ref tr, .ref lk, .ref di, .int (nI (ac9)), .ref kp, .ref ik, .ref lv]) q7_refused rfl (m7 117 rfl) (m7 118 rfl) (m7 119 rfl) ⟨Nat.le_of_ble_eq_true rfl, Nat.le_of_ble_eq_true rfl⟩ hK [] rfl hP hD [0] (by decide) rfl (ci := 7) (q0 := 0) rfl rfl rfl hl.1 rfl (Nat.le_of_ble_eq_true rfl) dX7_lasts_13 ⟨Nat.zero_le _, Nat.zero_le _⟩) hP hD hS [0] rfl (fun r u h => by rw [h.2]; simp only [List.map_cons, List.map_nil]) (fun r9 u H locs hpost hP hD hS => ?_)
    obtain ⟨hr9, rfl⟩ := hpost
    refine lv_as hr9 ?_
    have hP : va_P D vwCl [(h, .inr (7, [.int (1), .ref sc, .int (nI (ss)), .int (nI (ps.2)), .int (bI (ps.1 = true)), .int (rb), .int (rl), .ref nw, .ref tr, .ref lk, .ref di, .int (nI (ac9)), .ref kp, .ref ik, .ref lv])), (nw, .inl (cI, 151, .inl f)), (tr, .inl (cI, 151, .inl ft)), (lk, .inl (cI, 151, .inl flk)), (lv, .inl (cI, 4, .inl fl))] H := hP
    have hD : va_D A [(h, .inr (7, [.int (1), .ref sc, .int (nI (ss)), .int (nI (ps.2)), .int (bI (ps.1 = true)), .int (rb), .int (rl), .ref nw, .ref tr, .ref lk, .ref di, .int (nI (ac9)), .ref kp, .ref ik, .ref lv])), (nw, .inl (cI, 151, .inl f)), (tr, .inl (cI, 151, .inl ft)), (lk, .inl (cI, 151, .inl flk)), (lv, .inl (cI, 4, .inl fl))] := hD
    refine lv_as (show bI (0 < (1 : Int32)) = 1 from by decide) ?_
    refine lv_if_eq (tgt := 21) hx hb dX7_lasts_16 (by decide) (fun c16_2 => ?_) (fun c16_2 => ?_)
    · skip
      exact absurd c16_2 (by decide)
    · skip
      refine lv_iconst (v := 0) hx hb dX7_lasts_19 (by decide) ?_
      have hR9 : keyR k = 1 := by rw [keyR, if_neg c5_1]
      have hP : va_P D vwCl [(h, .inr (7, [.int (keyR k), .ref sc, .int (nI (ss)), .int (nI (ps.2)), .int (bI (ps.1 = true)), .int (rb), .int (rl), .ref nw, .ref tr, .ref lk, .ref di, .int (nI (ac9)), .ref kp, .ref ik, .ref lv])), (nw, .inl (cI, 151, .inl f)), (tr, .inl (cI, 151, .inl ft)), (lk, .inl (cI, 151, .inl flk)), (lv, .inl (cI, 4, .inl fl))] H := by
        rw [show (keyR k : Int32) = 1 from hR9]
        exact hP
      exact gp_reti hX hr hlocks hS hP ⟨oRn hR9 (by decide), _, _, _, rfl⟩ dX7_lasts_20
  · skip
    have c5_1 := bI_t c5_1
    refine lv_iconst (v := 0) hx hb dX7_lasts_8 (by decide) ?_
    refine lv_goto (tgt := 13) hx hb dX7_lasts_9 (by decide) ?_
    refine gp_backi (gp_runV hX good7 i7 (c7_refused l D h rf 0 [.ref sc, .int (nI (ss)), .int (nI (ps.2)), .int (bI (ps.1 = true)), .int (rb), .int (rl), .ref nw, .ref tr, .ref lk, .ref di, .int (nI (ac9)), .ref kp, .ref ik, .ref lv]) q7_refused rfl (m7 117 rfl) (m7 118 rfl) (m7 119 rfl) ⟨Nat.le_of_ble_eq_true rfl, Nat.le_of_ble_eq_true rfl⟩ hK [] rfl hP hD [0] (by decide) rfl (ci := 7) (q0 := 0) rfl rfl rfl hl.1 rfl (Nat.le_of_ble_eq_true rfl) dX7_lasts_13 ⟨Nat.zero_le _, Nat.zero_le _⟩) hP hD hS [0] rfl (fun r u h => by rw [h.2]; simp only [List.map_cons, List.map_nil]) (fun r9 u H locs hpost hP hD hS => ?_)
    obtain ⟨hr9, rfl⟩ := hpost
    refine lv_as hr9 ?_
    have hP : va_P D vwCl [(h, .inr (7, [.int (0), .ref sc, .int (nI (ss)), .int (nI (ps.2)), .int (bI (ps.1 = true)), .int (rb), .int (rl), .ref nw, .ref tr, .ref lk, .ref di, .int (nI (ac9)), .ref kp, .ref ik, .ref lv])), (nw, .inl (cI, 151, .inl f)), (tr, .inl (cI, 151, .inl ft)), (lk, .inl (cI, 151, .inl flk)), (lv, .inl (cI, 4, .inl fl))] H := hP
    have hD : va_D A [(h, .inr (7, [.int (0), .ref sc, .int (nI (ss)), .int (nI (ps.2)), .int (bI (ps.1 = true)), .int (rb), .int (rl), .ref nw, .ref tr, .ref lk, .ref di, .int (nI (ac9)), .ref kp, .ref ik, .ref lv])), (nw, .inl (cI, 151, .inl f)), (tr, .inl (cI, 151, .inl ft)), (lk, .inl (cI, 151, .inl flk)), (lv, .inl (cI, 4, .inl fl))] := hD
    refine lv_as (show bI (0 < (0 : Int32)) = 0 from by decide) ?_
    refine lv_if_eq (tgt := 21) hx hb dX7_lasts_16 (by decide) (fun c16_3 => ?_) (fun c16_3 => ?_)
    · skip
      refine lv_aload_n hx hb dX7_lasts_21 rfl (lv_at hl 0 rfl) ?_
      refine gp_backv (gp_runV hX good7 i7 (c7_begin l D cI h tr nw [.int (0), .ref sc, .int (nI (ss)), .int (nI (ps.2)), .int (bI (ps.1 = true)), .int (rb), .int (rl), .ref nw, .ref tr, .ref lk, .ref di, .int (nI (ac9)), .ref kp, .ref ik, .ref lv] ft f rfl rfl) q7_begin rfl (m7 200 rfl) (m7 201 rfl) (m7 202 rfl) ⟨Nat.le_of_ble_eq_true rfl, Nat.le_of_ble_eq_true rfl⟩ hK [0] rfl hP hD [0, 2, 1] (by decide) rfl (ci := 7) (q0 := 0) rfl rfl rfl hl.1 rfl (Nat.le_of_ble_eq_true rfl) dX7_lasts_22 ⟨Nat.zero_le _, Nat.zero_le _⟩) hP hD hS [0, 2, 1] rfl (fun u h => by rw [h]; simp only [List.map_cons, List.map_nil]) (fun u H locs hpost hP hD hS => ?_)
      subst hpost
      have hP : va_P D vwCl [(h, .inr (7, [.int (0), .ref sc, .int (nI (ss)), .int (nI (ps.2)), .int (bI (ps.1 = true)), .int (rb), .int (rl), .ref nw, .ref tr, .ref lk, .ref di, .int (nI (ac9)), .ref kp, .ref ik, .ref lv])), (nw, .inl (cI, 151, .inl f)), (tr, .inl (cI, 151, .inl f)), (lk, .inl (cI, 151, .inl flk)), (lv, .inl (cI, 4, .inl fl))] H := hP
      have hD : va_D A [(h, .inr (7, [.int (0), .ref sc, .int (nI (ss)), .int (nI (ps.2)), .int (bI (ps.1 = true)), .int (rb), .int (rl), .ref nw, .ref tr, .ref lk, .ref di, .int (nI (ac9)), .ref kp, .ref ik, .ref lv])), (nw, .inl (cI, 151, .inl f)), (tr, .inl (cI, 151, .inl f)), (lk, .inl (cI, 151, .inl flk)), (lv, .inl (cI, 4, .inl fl))] := hD
      refine lv_aload_n hx hb dX7_lasts_25 rfl (lv_at hl 0 rfl) ?_
      refine va_get (D := D) (ci := 7) (v := .ref tr) (C := RX7) (T := TX7) (N := 15) hx hb hts u7 hown hK hP 0 rfl rfl 8 (by decide) (hts _ (m7 6 rfl)) (fun _ h9 => h9) rfl dX7_lasts_26 ?_
      refine lv_iconst (v := 5) hx hb dX7_lasts_29 (by decide) ?_
      refine lv_iconst (v := 0) hx hb dX7_lasts_30 (by decide) ?_
      refine ra_iast (i := 5) hx hb hK hP hD hS 2 0 rfl rfl (by omega) (by decide) dX7_lasts_31 (fun H locs hP hD hS => ?_)
      have hP : va_P D vwCl [(h, .inr (7, [.int (0), .ref sc, .int (nI (ss)), .int (nI (ps.2)), .int (bI (ps.1 = true)), .int (rb), .int (rl), .ref nw, .ref tr, .ref lk, .ref di, .int (nI (ac9)), .ref kp, .ref ik, .ref lv])), (nw, .inl (cI, 151, .inl f)), (tr, .inl (cI, 151, .inl (upd f 5 0))), (lk, .inl (cI, 151, .inl flk)), (lv, .inl (cI, 4, .inl fl))] H := hP
      have hD : va_D A [(h, .inr (7, [.int (0), .ref sc, .int (nI (ss)), .int (nI (ps.2)), .int (bI (ps.1 = true)), .int (rb), .int (rl), .ref nw, .ref tr, .ref lk, .ref di, .int (nI (ac9)), .ref kp, .ref ik, .ref lv])), (nw, .inl (cI, 151, .inl f)), (tr, .inl (cI, 151, .inl (upd f 5 0))), (lk, .inl (cI, 151, .inl flk)), (lv, .inl (cI, 4, .inl fl))] := hD
      refine lv_iconst (v := 0) hx hb dX7_lasts_32 (by decide) ?_
      refine lv_istore_n (lv' := [(2, .int (0)), (0, .ref h), (1, .int (k))]) hx hb dX7_lasts_33 rfl hl (by decide) rfl (fun ls hl => ?_)
      have LP34 : ∀ n9 : Nat, ∀ (n8 : Nat) (g : Nat → Int32) (j : Nat) (lx : Nat → Int32), (hj : j ≤ 300) → (hl8 : lsL B k la n8 g j) → n8 < n9 → ∀ (H : Heap) (locs : List Loc), va_P D vwCl [(h, .inr (7, [.int (0), .ref sc, .int (nI (ss)), .int (nI (ps.2)), .int (bI (ps.1 = true)), .int (rb), .int (rl), .ref nw, .ref tr, .ref lk, .ref di, .int (nI (ac9)), .ref kp, .ref ik, .ref lv])), (nw, .inl (cI, 151, .inl f)), (tr, .inl (cI, 151, .inl g)), (lk, .inl (cI, 151, .inl flk)), (lv, .inl (cI, 4, .inl lx))] H → va_D A [(h, .inr (7, [.int (0), .ref sc, .int (nI (ss)), .int (nI (ps.2)), .int (bI (ps.1 = true)), .int (rb), .int (rl), .ref nw, .ref tr, .ref lk, .ref di, .int (nI (ac9)), .ref kp, .ref ik, .ref lv])), (nw, .inl (cI, 151, .inl f)), (tr, .inl (cI, 151, .inl g)), (lk, .inl (cI, 151, .inl flk)), (lv, .inl (cI, 4, .inl lx))] → va_S A s.heap H locs → ∀ ls : Array Slot, lv_has ls 3 [(0, .ref h), (1, .int (k)), (2, .int (nI (j)))] → W p l e ({ frames := 10, cells := 0, slots := 0, locals := 227 } : Room) s m ([.ref h, .int (k)] : List Value).toArray below meth c H locs 0 0 (MQ below (va_Qi (fun (r9 : Int32) (u9 : va_W) => r9 = (if keyR k = 0 then nI la else 0) ∧ ∃ tr9 : Nat → Int32, ∃ fl9 : Nat → Int32, ∃ lk9 : Nat → Int32, u9 = [(h, .inr (7, [.int (keyR k), .ref sc, .int (nI (ss)), .int (nI (ps.2)), .int (bI (ps.1 = true)), .int (rb), .int (rl), .ref nw, .ref tr, .ref lk, .ref di, .int (nI (ac9)), .ref kp, .ref ik, .ref lv])), (nw, .inl (cI, 151, .inl f)), (tr, .inl (cI, 151, .inl tr9)), (lk, .inl (cI, 151, .inl lk9)), (lv, .inl (cI, 4, .inl fl9))]) (fun u t => va_P D vwCl u t.heap) A) ([.ref h, .int (k)] : List Value).toArray s 0 0 A) (F0 m 34 ls []) := by
        intro n9
        induction n9 with
        | zero => intros; omega
        | succ n9 ih34 =>
          intro n8 g j lx hj hl8 hm9 H locs hP hD hS ls hl
          obtain ⟨n7, rfl⟩ : ∃ n7, n8 = n7 + 1 := by cases n8 with | zero => cases hl8 | succ n => exact ⟨n, rfl⟩
          rw [lsL] at hl8
          refine lv_iload_n hx hb dX7_lasts_34 rfl (lv_at hl 2 rfl) ?_
          refine lv_sipush (v := 300) hx hb dX7_lasts_35 (by decide) ?_
          refine lv_icmp_ge (tgt := 70) hx hb dX7_lasts_38 (by decide) (fun c38_4 => ?_) (fun c38_4 => ?_)
          · skip
            have c38_4 := cn_le (a := 300) (b := j) (by omega) (by omega) c38_4
            rw [if_neg (fun z => absurd z.1 (by omega))] at hl8
            refine lv_iload_n hx hb dX7_lasts_70 rfl (lv_at hl 2 rfl) ?_
            have hR9 : keyR k = 0 := by rw [keyR, if_pos c5_1]
            have hP : va_P D vwCl [(h, .inr (7, [.int (keyR k), .ref sc, .int (nI (ss)), .int (nI (ps.2)), .int (bI (ps.1 = true)), .int (rb), .int (rl), .ref nw, .ref tr, .ref lk, .ref di, .int (nI (ac9)), .ref kp, .ref ik, .ref lv])), (nw, .inl (cI, 151, .inl f)), (tr, .inl (cI, 151, .inl g)), (lk, .inl (cI, 151, .inl flk)), (lv, .inl (cI, 4, .inl lx))] H := by
              rw [show (keyR k : Int32) = 0 from hR9]
              exact hP
            exact gp_reti hX hr hlocks hS hP ⟨(show nI (j) = nI la from by rw [hl8]).trans (oR0 hR9), _, _, _, rfl⟩ dX7_lasts_71
          · skip
            have c38_4 := cn_nle (a := 300) (b := j) (by omega) (by omega) c38_4
            refine lv_aload_n hx hb dX7_lasts_41 rfl (lv_at hl 0 rfl) ?_
            refine va_get (D := D) (ci := 7) (v := .ref tr) (C := RX7) (T := TX7) (N := 15) hx hb hts u7 hown hK hP 0 rfl rfl 8 (by decide) (hts _ (m7 6 rfl)) (fun _ h9 => h9) rfl dX7_lasts_42 ?_
            refine lv_iconst (v := 2) hx hb dX7_lasts_45 (by decide) ?_
            refine ra_iald (i := 2) hx hb hK hP 2 0 rfl rfl (by omega) (by decide) dX7_lasts_46 ?_
            refine lv_iconst (v := 1) hx hb dX7_lasts_47 (by decide) ?_
            refine lv_icmp_ne (tgt := 70) hx hb dX7_lasts_48 (by decide) (fun c48_5 => ?_) (fun c48_5 => ?_)
            · skip
              rw [if_neg (fun z => c48_5 z.2)] at hl8
              refine lv_iload_n hx hb dX7_lasts_70 rfl (lv_at hl 2 rfl) ?_
              have hR9 : keyR k = 0 := by rw [keyR, if_pos c5_1]
              have hP : va_P D vwCl [(h, .inr (7, [.int (keyR k), .ref sc, .int (nI (ss)), .int (nI (ps.2)), .int (bI (ps.1 = true)), .int (rb), .int (rl), .ref nw, .ref tr, .ref lk, .ref di, .int (nI (ac9)), .ref kp, .ref ik, .ref lv])), (nw, .inl (cI, 151, .inl f)), (tr, .inl (cI, 151, .inl g)), (lk, .inl (cI, 151, .inl flk)), (lv, .inl (cI, 4, .inl lx))] H := by
                rw [show (keyR k : Int32) = 0 from hR9]
                exact hP
              exact gp_reti hX hr hlocks hS hP ⟨(show nI (j) = nI la from by rw [hl8]).trans (oR0 hR9), _, _, _, rfl⟩ dX7_lasts_71
            · skip
              rw [if_pos ⟨c38_4, c48_5⟩] at hl8
              obtain ⟨hO8, hl8⟩ := hl8
              refine lv_aload_n hx hb dX7_lasts_51 rfl (lv_at hl 0 rfl) ?_
              refine lv_aload_n hx hb dX7_lasts_52 rfl (lv_at hl 0 rfl) ?_
              refine va_get (D := D) (ci := 7) (v := .ref tr) (C := RX7) (T := TX7) (N := 15) hx hb hts u7 hown hK hP 0 rfl rfl 8 (by decide) (hts _ (m7 6 rfl)) (fun _ h9 => h9) rfl dX7_lasts_53 ?_
              refine lv_iload_n hx hb dX7_lasts_56 rfl (lv_at hl 1 rfl) ?_
              refine lv_iconst (v := 0) hx hb dX7_lasts_57 (by decide) ?_
              refine gp_backi (gp_runV hX good7 i7 (c7_record l D cI h lv tr [.int (0), .ref sc, .int (nI (ss)), .int (nI (ps.2)), .int (bI (ps.1 = true)), .int (rb), .int (rl), .ref nw, .ref tr, .ref lk, .ref di, .int (nI (ac9)), .ref kp, .ref ik, .ref lv] lx g B hO8.1 rfl k 0 5000 (recT B k 0 g).1 (recT B k 0 g).2 (ok_rec hO8 _ _)) q7_record rfl (m7 93 rfl) (m7 94 rfl) (m7 95 rfl) ⟨Nat.le_of_ble_eq_true rfl, Nat.le_of_ble_eq_true rfl⟩ hK [0] rfl hP hD [0, 4, 2] (by decide) rfl (ci := 7) (q0 := 0) rfl rfl rfl hl.1 rfl (Nat.le_of_ble_eq_true rfl) dX7_lasts_58 ⟨Nat.zero_le _, Nat.zero_le _⟩) hP hD hS [0, 4, 2] rfl (fun r u h => by obtain ⟨-, x6, rfl⟩ := h; simp only [List.map_cons, List.map_nil]) (fun r9 u H locs hpost hP hD hS => ?_)
              obtain ⟨hr9, x6, rfl⟩ := hpost
              refine lv_as hr9 ?_
              have hP : va_P D vwCl [(h, .inr (7, [.int (0), .ref sc, .int (nI (ss)), .int (nI (ps.2)), .int (bI (ps.1 = true)), .int (rb), .int (rl), .ref nw, .ref tr, .ref lk, .ref di, .int (nI (ac9)), .ref kp, .ref ik, .ref lv])), (nw, .inl (cI, 151, .inl f)), (tr, .inl (cI, 151, .inl ((recT B k 0 g).2))), (lk, .inl (cI, 151, .inl flk)), (lv, .inl (cI, 4, .inl x6))] H := hP
              have hD : va_D A [(h, .inr (7, [.int (0), .ref sc, .int (nI (ss)), .int (nI (ps.2)), .int (bI (ps.1 = true)), .int (rb), .int (rl), .ref nw, .ref tr, .ref lk, .ref di, .int (nI (ac9)), .ref kp, .ref ik, .ref lv])), (nw, .inl (cI, 151, .inl f)), (tr, .inl (cI, 151, .inl ((recT B k 0 g).2))), (lk, .inl (cI, 151, .inl flk)), (lv, .inl (cI, 4, .inl x6))] := hD
              refine lv_if_lt (tgt := 70) hx hb dX7_lasts_61 (by decide) (fun c61_7 => ?_) (fun c61_7 => ?_)
              · skip
                rw [if_neg (fun z => z c61_7)] at hl8
                refine lv_iload_n hx hb dX7_lasts_70 rfl (lv_at hl 2 rfl) ?_
                have hR9 : keyR k = 0 := by rw [keyR, if_pos c5_1]
                have hP : va_P D vwCl [(h, .inr (7, [.int (keyR k), .ref sc, .int (nI (ss)), .int (nI (ps.2)), .int (bI (ps.1 = true)), .int (rb), .int (rl), .ref nw, .ref tr, .ref lk, .ref di, .int (nI (ac9)), .ref kp, .ref ik, .ref lv])), (nw, .inl (cI, 151, .inl f)), (tr, .inl (cI, 151, .inl ((recT B k 0 g).2))), (lk, .inl (cI, 151, .inl flk)), (lv, .inl (cI, 4, .inl x6))] H := by
                  rw [show (keyR k : Int32) = 0 from hR9]
                  exact hP
                exact gp_reti hX hr hlocks hS hP ⟨(show nI (j) = nI la from by rw [hl8]).trans (oR0 hR9), _, _, _, rfl⟩ dX7_lasts_71
              · skip
                refine lv_iinc (v := nI (j + 1)) (lv' := [(2, .int (nI (j + 1))), (0, .ref h), (1, .int (k))]) hx hb dX7_lasts_64 hl (k := 2) rfl (nI_add _ 1) (by decide) rfl (fun ls hl => ?_)
                refine lv_goto (tgt := 34) hx hb dX7_lasts_67 (by decide) ?_
                have hl : lv_has ls 3 [(2, .int (nI ((j + 1)))), (0, .ref h), (1, .int (k))] := lv_re hl 0 rfl (show nI (j + 1) = nI ((j + 1)) from rfl)
                exact ih34 n7 ((recT B k 0 g).2) (j + 1) x6 (by omega) (by rw [if_pos c61_7] at hl8; exact hl8) (by omega) _ _ hP hD hS _ (lv_sub hl [1, 2, 0] rfl)
      have hl : lv_has ls 3 [(2, .int (nI (0))), (0, .ref h), (1, .int (k))] := lv_re hl 0 rfl (show 0 = nI (0) from rfl)
      exact LP34 (n2 + 1) n2 (upd f 5 0) 0 fl (by omega) (hls c5_1) (by omega) _ _ hP hD hS _ (lv_sub hl [1, 2, 0] rfl)
    · skip
      exact absurd c16_3 (by decide)
theorem dX7_oldest_0 : decode cX7_oldest 0 = .ok (.aload_n 0, 1) := by decide +kernel
theorem dX7_oldest_1 : decode cX7_oldest 1 = .ok (.iconst 0, 1) := by decide +kernel
theorem dX7_oldest_2 : decode cX7_oldest 2 = .ok (.putfield 39, 3) := by decide +kernel
theorem dX7_oldest_5 : decode cX7_oldest 5 = .ok (.bipush (-9), 2) := by decide +kernel
theorem dX7_oldest_7 : decode cX7_oldest 7 = .ok (.istore_n 1, 1) := by decide +kernel
theorem dX7_oldest_8 : decode cX7_oldest 8 = .ok (.iconst 0, 1) := by decide +kernel
theorem dX7_oldest_9 : decode cX7_oldest 9 = .ok (.istore_n 2, 1) := by decide +kernel
theorem dX7_oldest_10 : decode cX7_oldest 10 = .ok (.iload_n 2, 1) := by decide +kernel
theorem dX7_oldest_11 : decode cX7_oldest 11 = .ok (.bipush 16, 2) := by decide +kernel
theorem dX7_oldest_13 : decode cX7_oldest 13 = .ok (.if_icmp .ge 65, 3) := by decide +kernel
theorem dX7_oldest_16 : decode cX7_oldest 16 = .ok (.aload_n 0, 1) := by decide +kernel
theorem dX7_oldest_17 : decode cX7_oldest 17 = .ok (.getfield 13, 3) := by decide +kernel
theorem dX7_oldest_20 : decode cX7_oldest 20 = .ok (.iload_n 2, 1) := by decide +kernel
theorem dX7_oldest_21 : decode cX7_oldest 21 = .ok (.invokestatic 68, 3) := by decide +kernel
theorem dX7_oldest_24 : decode cX7_oldest 24 = .ok (.bipush (-9), 2) := by decide +kernel
theorem dX7_oldest_26 : decode cX7_oldest 26 = .ok (.if_icmp .eq 46, 3) := by decide +kernel
theorem dX7_oldest_29 : decode cX7_oldest 29 = .ok (.iload_n 1, 1) := by decide +kernel
theorem dX7_oldest_30 : decode cX7_oldest 30 = .ok (.bipush (-9), 2) := by decide +kernel
theorem dX7_oldest_32 : decode cX7_oldest 32 = .ok (.if_icmp .eq 38, 3) := by decide +kernel
theorem dX7_oldest_35 : decode cX7_oldest 35 = .ok (.aload_n 0, 1) := by decide +kernel
theorem dX7_oldest_36 : decode cX7_oldest 36 = .ok (.getfield 13, 3) := by decide +kernel
theorem dX7_oldest_39 : decode cX7_oldest 39 = .ok (.aload_n 0, 1) := by decide +kernel
theorem dX7_oldest_40 : decode cX7_oldest 40 = .ok (.getfield 13, 3) := by decide +kernel
theorem dX7_oldest_43 : decode cX7_oldest 43 = .ok (.iload_n 2, 1) := by decide +kernel
theorem dX7_oldest_44 : decode cX7_oldest 44 = .ok (.invokestatic 64, 3) := by decide +kernel
theorem dX7_oldest_47 : decode cX7_oldest 47 = .ok (.iconst 3, 1) := by decide +kernel
theorem dX7_oldest_48 : decode cX7_oldest 48 = .ok (.invokestatic 52, 3) := by decide +kernel
theorem dX7_oldest_51 : decode cX7_oldest 51 = .ok (.aload_n 0, 1) := by decide +kernel
theorem dX7_oldest_52 : decode cX7_oldest 52 = .ok (.getfield 13, 3) := by decide +kernel
theorem dX7_oldest_55 : decode cX7_oldest 55 = .ok (.aload_n 0, 1) := by decide +kernel
theorem dX7_oldest_56 : decode cX7_oldest 56 = .ok (.getfield 13, 3) := by decide +kernel
theorem dX7_oldest_59 : decode cX7_oldest 59 = .ok (.iload_n 1, 1) := by decide +kernel
theorem dX7_oldest_60 : decode cX7_oldest 60 = .ok (.invokestatic 64, 3) := by decide +kernel
theorem dX7_oldest_63 : decode cX7_oldest 63 = .ok (.iconst 3, 1) := by decide +kernel
theorem dX7_oldest_64 : decode cX7_oldest 64 = .ok (.invokestatic 52, 3) := by decide +kernel
theorem dX7_oldest_67 : decode cX7_oldest 67 = .ok (.if_icmp .ge 5, 3) := by decide +kernel
theorem dX7_oldest_70 : decode cX7_oldest 70 = .ok (.iload_n 2, 1) := by decide +kernel
theorem dX7_oldest_71 : decode cX7_oldest 71 = .ok (.istore_n 1, 1) := by decide +kernel
theorem dX7_oldest_72 : decode cX7_oldest 72 = .ok (.iinc 2 1, 3) := by decide +kernel
theorem dX7_oldest_75 : decode cX7_oldest 75 = .ok (.goto (-65), 3) := by decide +kernel
theorem dX7_oldest_78 : decode cX7_oldest 78 = .ok (.iload_n 1, 1) := by decide +kernel
theorem dX7_oldest_79 : decode cX7_oldest 79 = .ok (.ireturn, 1) := by decide +kernel
set_option maxHeartbeats 4000000 in
set_option maxRecDepth 100000 in
theorem c7_oldest (l : Launch) (D : va_G) (cI cZ : ClassId) (h sc nw tr lk di kp ik lv : Nat) (rf rb rl : Int32) (ac9 : Nat) (ss : Nat) (ps : Bool × Nat) (f : Nat → Int32) (B : Nat) (hW : Wf f B)  : GPi l yX7_oldest cX7_oldest 3 .int W7 4 88 D [(h, .inr (7, [.int (rf), .ref sc, .int (nI (ss)), .int (nI (ps.2)), .int (bI (ps.1 = true)), .int (rb), .int (rl), .ref nw, .ref tr, .ref lk, .ref di, .int (nI (ac9)), .ref kp, .ref ik, .ref lv])), (nw, .inl (cI, 151, .inl f))] [(cI, .int)] [.ref h] (fun (r9 : Int32) (u9 : va_W) => r9 = (oI (old f B 16)) ∧ u9 = [(h, .inr (7, [.int (0), .ref sc, .int (nI (ss)), .int (nI (ps.2)), .int (bI (ps.1 = true)), .int (rb), .int (rl), .ref nw, .ref tr, .ref lk, .ref di, .int (nI (ac9)), .ref kp, .ref ik, .ref lv])), (nw, .inl (cI, 151, .inl f))]) := by
  refine gp_of RX7 (by decide) rfl (Nat.le_of_ble_eq_true rfl) ?_
  intro p e s m below meth c ls H hX hr hlocks hK hP hD hS hl
  generalize gp_A [(h, .inr (7, [.int (rf), .ref sc, .int (nI (ss)), .int (nI (ps.2)), .int (bI (ps.1 = true)), .int (rb), .int (rl), .ref nw, .ref tr, .ref lk, .ref di, .int (nI (ac9)), .ref kp, .ref ik, .ref lv])), (nw, .inl (cI, 151, .inl f))] = A at hD hS ⊢
  have hx := hX.1
  have hb := hX.2.1
  have hown := hX.2.2.2.1
  have hts := hX.2.2.2.2
  have hl : lv_has ls 3 [(0, .ref h)] := hl
  have hB8 := hW.2.1
  refine lv_aload_n hx hb dX7_oldest_0 rfl (lv_at hl 0 rfl) ?_
  refine lv_iconst (v := 0) hx hb dX7_oldest_1 (by decide) ?_
  refine va_put (D := D) (ci := 7) (v := .int (0)) (ty := .int) (C := RX7) (T := TX7) (N := 15) hx hb hts u7 tyX7 tyX7_ok nmX7 hown hK hP hD hS 0 rfl rfl 0 (by decide) (hts _ (m7 17 rfl)) (fun _ h9 => h9) rfl (by decide +kernel) rfl rfl (Nat.le_of_ble_eq_true rfl) dX7_oldest_2 (fun H locs hP hD hS => ?_)
  have hP : va_P D vwCl [(h, .inr (7, [.int (0), .ref sc, .int (nI (ss)), .int (nI (ps.2)), .int (bI (ps.1 = true)), .int (rb), .int (rl), .ref nw, .ref tr, .ref lk, .ref di, .int (nI (ac9)), .ref kp, .ref ik, .ref lv])), (nw, .inl (cI, 151, .inl f))] H := hP
  have hD : va_D A [(h, .inr (7, [.int (0), .ref sc, .int (nI (ss)), .int (nI (ps.2)), .int (bI (ps.1 = true)), .int (rb), .int (rl), .ref nw, .ref tr, .ref lk, .ref di, .int (nI (ac9)), .ref kp, .ref ik, .ref lv])), (nw, .inl (cI, 151, .inl f))] := hD
  refine lv_bipush (v := (-9)) hx hb dX7_oldest_5 (by decide) ?_
  refine lv_istore_n (lv' := [(1, .int ((-9))), (0, .ref h)]) hx hb dX7_oldest_7 rfl hl (by decide) rfl (fun ls hl => ?_)
  refine lv_iconst (v := 0) hx hb dX7_oldest_8 (by decide) ?_
  refine lv_istore_n (lv' := [(2, .int (0)), (1, .int ((-9))), (0, .ref h)]) hx hb dX7_oldest_9 rfl hl (by decide) rfl (fun ls hl => ?_)
  have LP10 : ∀ n9 : Nat, ∀ (j : Nat), (hj : j ≤ 16) → 16 - j < n9 → ∀ (H : Heap) (locs : List Loc), va_P D vwCl [(h, .inr (7, [.int (0), .ref sc, .int (nI (ss)), .int (nI (ps.2)), .int (bI (ps.1 = true)), .int (rb), .int (rl), .ref nw, .ref tr, .ref lk, .ref di, .int (nI (ac9)), .ref kp, .ref ik, .ref lv])), (nw, .inl (cI, 151, .inl f))] H → va_D A [(h, .inr (7, [.int (0), .ref sc, .int (nI (ss)), .int (nI (ps.2)), .int (bI (ps.1 = true)), .int (rb), .int (rl), .ref nw, .ref tr, .ref lk, .ref di, .int (nI (ac9)), .ref kp, .ref ik, .ref lv])), (nw, .inl (cI, 151, .inl f))] → va_S A s.heap H locs → ∀ ls : Array Slot, lv_has ls 3 [(0, .ref h), (1, .int (oI (old f B j))), (2, .int (nI (j)))] → W p l e ({ frames := 4, cells := 0, slots := 0, locals := 88 } : Room) s m ([.ref h] : List Value).toArray below meth c H locs 0 0 (MQ below (va_Qi (fun (r9 : Int32) (u9 : va_W) => r9 = (oI (old f B 16)) ∧ u9 = [(h, .inr (7, [.int (0), .ref sc, .int (nI (ss)), .int (nI (ps.2)), .int (bI (ps.1 = true)), .int (rb), .int (rl), .ref nw, .ref tr, .ref lk, .ref di, .int (nI (ac9)), .ref kp, .ref ik, .ref lv])), (nw, .inl (cI, 151, .inl f))]) (fun u t => va_P D vwCl u t.heap) A) ([.ref h] : List Value).toArray s 0 0 A) (F0 m 10 ls []) := by
    intro n9
    induction n9 with
    | zero => intros; omega
    | succ n9 ih10 =>
      intro j hj hm9 H locs hP hD hS ls hl
      refine lv_iload_n hx hb dX7_oldest_10 rfl (lv_at hl 2 rfl) ?_
      refine lv_bipush (v := 16) hx hb dX7_oldest_11 (by decide) ?_
      refine lv_icmp_ge (tgt := 78) hx hb dX7_oldest_13 (by decide) (fun c13_1 => ?_) (fun c13_1 => ?_)
      · skip
        have c13_1 := cn_le (a := 16) (b := j) (by omega) (by omega) c13_1
        refine lv_iload_n hx hb dX7_oldest_78 rfl (lv_at hl 1 rfl) ?_
        exact gp_reti hX hr hlocks hS hP ⟨by rw [show j = 16 by omega], rfl⟩ dX7_oldest_79
      · skip
        have c13_1 := cn_nle (a := 16) (b := j) (by omega) (by omega) c13_1
        rcases hO2 : old f B j with _ | o2
        · skip
          have hl : lv_has ls 3 [(0, .ref h), (1, .int ((-9))), (2, .int (nI (j)))] := by rw [hO2] at hl; exact hl
          refine lv_aload_n hx hb dX7_oldest_16 rfl (lv_at hl 0 rfl) ?_
          refine va_get (D := D) (ci := 7) (v := .ref nw) (C := RX7) (T := TX7) (N := 15) hx hb hts u7 hown hK hP 0 rfl rfl 7 (by decide) (hts _ (m7 5 rfl)) (fun _ h9 => h9) rfl dX7_oldest_17 ?_
          refine lv_iload_n hx hb dX7_oldest_20 rfl (lv_at hl 2 rfl) ?_
          refine rp_callS hX good7 i7 (c7_valueOf l D cI nw f (nI (j)) B hW.1 hW.2.1) q7_valueOf rfl (m7 35 rfl) (m7 36 rfl) ⟨Nat.le_of_ble_eq_true rfl, Nat.le_of_ble_eq_true rfl⟩ hK [0] rfl hP [1] rfl hS hl.1 rfl (Nat.le_of_ble_eq_true rfl) dX7_oldest_21 ⟨Nat.zero_le _, Nat.zero_le _⟩ (fun H locs hP hS => ?_)
          refine lv_bipush (v := (-9)) hx hb dX7_oldest_24 (by decide) ?_
          refine lv_icmp_eq (tgt := 72) hx hb dX7_oldest_26 (by decide) (fun c26_3 => ?_) (fun c26_3 => ?_)
          · skip
            refine lv_iinc (v := nI (j + 1)) (lv' := [(2, .int (nI (j + 1))), (0, .ref h), (1, .int ((-9)))]) hx hb dX7_oldest_72 hl (k := 2) rfl (nI_add _ 1) (by decide) rfl (fun ls hl => ?_)
            refine lv_goto (tgt := 10) hx hb dX7_oldest_75 (by decide) ?_
            have hl : lv_has ls 3 [(2, .int (nI (j + 1))), (0, .ref h), (1, .int (oI (old f B (j + 1))))] := lv_re hl 2 rfl (show (-9) = oI (old f B (j + 1)) from by rw [old, hO2]; dsimp only; rw [if_neg (fun z => z c26_3)]; rfl)
            have hl : lv_has ls 3 [(2, .int (nI ((j + 1)))), (0, .ref h), (1, .int (oI (old f B (j + 1))))] := lv_re hl 0 rfl (show nI (j + 1) = nI ((j + 1)) from rfl)
            exact ih10 (j + 1) (by omega) (by omega) _ _ hP hD hS _ (lv_sub hl [1, 2, 0] rfl)
          · skip
            refine lv_iload_n hx hb dX7_oldest_29 rfl (lv_at hl 1 rfl) ?_
            refine lv_bipush (v := (-9)) hx hb dX7_oldest_30 (by decide) ?_
            refine lv_icmp_eq (tgt := 70) hx hb dX7_oldest_32 (by decide) (fun c32_4 => ?_) (fun c32_4 => ?_)
            · skip
              refine lv_iload_n hx hb dX7_oldest_70 rfl (lv_at hl 2 rfl) ?_
              refine lv_istore_n (lv' := [(1, .int (nI (j))), (0, .ref h), (2, .int (nI (j)))]) hx hb dX7_oldest_71 rfl hl (by decide) rfl (fun ls hl => ?_)
              refine lv_iinc (v := nI (j + 1)) (lv' := [(2, .int (nI (j + 1))), (1, .int (nI (j))), (0, .ref h)]) hx hb dX7_oldest_72 hl (k := 2) rfl (nI_add _ 1) (by decide) rfl (fun ls hl => ?_)
              refine lv_goto (tgt := 10) hx hb dX7_oldest_75 (by decide) ?_
              have hl : lv_has ls 3 [(2, .int (nI (j + 1))), (1, .int (oI (old f B (j + 1)))), (0, .ref h)] := lv_re hl 1 rfl (show nI (j) = oI (old f B (j + 1)) from by rw [old, hO2]; dsimp only; rw [if_pos c26_3]; rfl)
              have hl : lv_has ls 3 [(2, .int (nI ((j + 1)))), (1, .int (oI (old f B (j + 1)))), (0, .ref h)] := lv_re hl 0 rfl (show nI (j + 1) = nI ((j + 1)) from rfl)
              exact ih10 (j + 1) (by omega) (by omega) _ _ hP hD hS _ (lv_sub hl [2, 1, 0] rfl)
            · skip
              exact absurd c32_4 (by decide)
        · skip
          have hl : lv_has ls 3 [(0, .ref h), (1, .int (nI (o2))), (2, .int (nI (j)))] := by rw [hO2] at hl; exact hl
          have ho2 := old_lt hO2
          have ho := ho2
          have ho2b := ho2.1
          refine lv_aload_n hx hb dX7_oldest_16 rfl (lv_at hl 0 rfl) ?_
          refine va_get (D := D) (ci := 7) (v := .ref nw) (C := RX7) (T := TX7) (N := 15) hx hb hts u7 hown hK hP 0 rfl rfl 7 (by decide) (hts _ (m7 5 rfl)) (fun _ h9 => h9) rfl dX7_oldest_17 ?_
          refine lv_iload_n hx hb dX7_oldest_20 rfl (lv_at hl 2 rfl) ?_
          refine rp_callS hX good7 i7 (c7_valueOf l D cI nw f (nI (j)) B hW.1 hW.2.1) q7_valueOf rfl (m7 35 rfl) (m7 36 rfl) ⟨Nat.le_of_ble_eq_true rfl, Nat.le_of_ble_eq_true rfl⟩ hK [0] rfl hP [1] rfl hS hl.1 rfl (Nat.le_of_ble_eq_true rfl) dX7_oldest_21 ⟨Nat.zero_le _, Nat.zero_le _⟩ (fun H locs hP hS => ?_)
          refine lv_bipush (v := (-9)) hx hb dX7_oldest_24 (by decide) ?_
          refine lv_icmp_eq (tgt := 72) hx hb dX7_oldest_26 (by decide) (fun c26_5 => ?_) (fun c26_5 => ?_)
          · skip
            refine lv_iinc (v := nI (j + 1)) (lv' := [(2, .int (nI (j + 1))), (0, .ref h), (1, .int (nI (o2)))]) hx hb dX7_oldest_72 hl (k := 2) rfl (nI_add _ 1) (by decide) rfl (fun ls hl => ?_)
            refine lv_goto (tgt := 10) hx hb dX7_oldest_75 (by decide) ?_
            have hl : lv_has ls 3 [(2, .int (nI (j + 1))), (0, .ref h), (1, .int (oI (old f B (j + 1))))] := lv_re hl 2 rfl (show nI (o2) = oI (old f B (j + 1)) from by rw [old, hO2]; dsimp only; rw [if_neg (fun z => z.1 c26_5)]; rfl)
            have hl : lv_has ls 3 [(2, .int (nI ((j + 1)))), (0, .ref h), (1, .int (oI (old f B (j + 1))))] := lv_re hl 0 rfl (show nI (j + 1) = nI ((j + 1)) from rfl)
            exact ih10 (j + 1) (by omega) (by omega) _ _ hP hD hS _ (lv_sub hl [1, 2, 0] rfl)
          · skip
            refine lv_iload_n hx hb dX7_oldest_29 rfl (lv_at hl 1 rfl) ?_
            refine lv_bipush (v := (-9)) hx hb dX7_oldest_30 (by decide) ?_
            refine lv_icmp_eq (tgt := 70) hx hb dX7_oldest_32 (by decide) (fun c32_6 => ?_) (fun c32_6 => ?_)
            · skip
              exact absurd c32_6 (oI_ne (by omega))
            · skip
              refine lv_aload_n hx hb dX7_oldest_35 rfl (lv_at hl 0 rfl) ?_
              refine va_get (D := D) (ci := 7) (v := .ref nw) (C := RX7) (T := TX7) (N := 15) hx hb hts u7 hown hK hP 0 rfl rfl 7 (by decide) (hts _ (m7 5 rfl)) (fun _ h9 => h9) rfl dX7_oldest_36 ?_
              refine lv_aload_n hx hb dX7_oldest_39 rfl (lv_at hl 0 rfl) ?_
              refine va_get (D := D) (ci := 7) (v := .ref nw) (C := RX7) (T := TX7) (N := 15) hx hb hts u7 hown hK hP 0 rfl rfl 7 (by decide) (hts _ (m7 5 rfl)) (fun _ h9 => h9) rfl dX7_oldest_40 ?_
              refine lv_iload_n hx hb dX7_oldest_43 rfl (lv_at hl 2 rfl) ?_
              refine rp_callS hX good7 i7 (c7_newestOf l D cI nw f (nI (j)) B hW.1 hW.2.1) q7_newestOf rfl (m7 32 rfl) (m7 33 rfl) ⟨Nat.le_of_ble_eq_true rfl, Nat.le_of_ble_eq_true rfl⟩ hK [0] rfl hP [1] rfl hS hl.1 rfl (Nat.le_of_ble_eq_true rfl) dX7_oldest_44 ⟨Nat.zero_le _, Nat.zero_le _⟩ (fun H locs hP hS => ?_)
              rcases hO7 : nwst f (nI (j)) (4 * B) with _ | o7
              · skip
                obtain ⟨x, hx⟩ := vlu_some c26_5
                rw [hO7] at hx
                cases hx
              · skip
                have hx7 := nwst_lt hO7
                refine lv_iconst (v := 3) hx hb dX7_oldest_47 (by decide) ?_
                refine rp_callS hX good7 i7 (c7_pageOf l D cI nw f o7 3 (by omega) (by omega)) q7_pageOf rfl (m7 23 rfl) (m7 24 rfl) ⟨Nat.le_of_ble_eq_true rfl, Nat.le_of_ble_eq_true rfl⟩ hK [0] rfl hP [1] rfl hS hl.1 rfl (Nat.le_of_ble_eq_true rfl) dX7_oldest_48 ⟨Nat.zero_le _, Nat.zero_le _⟩ (fun H locs hP hS => ?_)
                refine lv_aload_n hx hb dX7_oldest_51 rfl (lv_at hl 0 rfl) ?_
                refine va_get (D := D) (ci := 7) (v := .ref nw) (C := RX7) (T := TX7) (N := 15) hx hb hts u7 hown hK hP 0 rfl rfl 7 (by decide) (hts _ (m7 5 rfl)) (fun _ h9 => h9) rfl dX7_oldest_52 ?_
                refine lv_aload_n hx hb dX7_oldest_55 rfl (lv_at hl 0 rfl) ?_
                refine va_get (D := D) (ci := 7) (v := .ref nw) (C := RX7) (T := TX7) (N := 15) hx hb hts u7 hown hK hP 0 rfl rfl 7 (by decide) (hts _ (m7 5 rfl)) (fun _ h9 => h9) rfl dX7_oldest_56 ?_
                refine lv_iload_n hx hb dX7_oldest_59 rfl (lv_at hl 1 rfl) ?_
                refine rp_callS hX good7 i7 (c7_newestOf l D cI nw f (nI (o2)) B hW.1 hW.2.1) q7_newestOf rfl (m7 32 rfl) (m7 33 rfl) ⟨Nat.le_of_ble_eq_true rfl, Nat.le_of_ble_eq_true rfl⟩ hK [0] rfl hP [1] rfl hS hl.1 rfl (Nat.le_of_ble_eq_true rfl) dX7_oldest_60 ⟨Nat.zero_le _, Nat.zero_le _⟩ (fun H locs hP hS => ?_)
                rcases hO8 : nwst f (nI (o2)) (4 * B) with _ | o8
                · skip
                  obtain ⟨x, hx⟩ := vlu_some ho.2
                  rw [hO8] at hx
                  cases hx
                · skip
                  have hx8 := nwst_lt hO8
                  refine lv_iconst (v := 3) hx hb dX7_oldest_63 (by decide) ?_
                  refine rp_callS hX good7 i7 (c7_pageOf l D cI nw f o8 3 (by omega) (by omega)) q7_pageOf rfl (m7 23 rfl) (m7 24 rfl) ⟨Nat.le_of_ble_eq_true rfl, Nat.le_of_ble_eq_true rfl⟩ hK [0] rfl hP [1] rfl hS hl.1 rfl (Nat.le_of_ble_eq_true rfl) dX7_oldest_64 ⟨Nat.zero_le _, Nat.zero_le _⟩ (fun H locs hP hS => ?_)
                  refine lv_icmp_ge (tgt := 72) hx hb dX7_oldest_67 (by decide) (fun c67_9 => ?_) (fun c67_9 => ?_)
                  · skip
                    have c67_9 := i_nlt c67_9
                    refine lv_iinc (v := nI (j + 1)) (lv' := [(2, .int (nI (j + 1))), (0, .ref h), (1, .int (nI (o2)))]) hx hb dX7_oldest_72 hl (k := 2) rfl (nI_add _ 1) (by decide) rfl (fun ls hl => ?_)
                    refine lv_goto (tgt := 10) hx hb dX7_oldest_75 (by decide) ?_
                    have hl : lv_has ls 3 [(2, .int (nI (j + 1))), (0, .ref h), (1, .int (oI (old f B (j + 1))))] := lv_re hl 2 rfl (show nI (o2) = oI (old f B (j + 1)) from by rw [old, hO2]; dsimp only; rw [if_neg (fun z => c67_9 (by have y := z.2; rw [nmk_of hO7, nmk_of hO8] at y; exact y))]; rfl)
                    have hl : lv_has ls 3 [(2, .int (nI ((j + 1)))), (0, .ref h), (1, .int (oI (old f B (j + 1))))] := lv_re hl 0 rfl (show nI (j + 1) = nI ((j + 1)) from rfl)
                    exact ih10 (j + 1) (by omega) (by omega) _ _ hP hD hS _ (lv_sub hl [1, 2, 0] rfl)
                  · skip
                    have c67_9 := i_lt c67_9
                    refine lv_iload_n hx hb dX7_oldest_70 rfl (lv_at hl 2 rfl) ?_
                    refine lv_istore_n (lv' := [(1, .int (nI (j))), (0, .ref h), (2, .int (nI (j)))]) hx hb dX7_oldest_71 rfl hl (by decide) rfl (fun ls hl => ?_)
                    refine lv_iinc (v := nI (j + 1)) (lv' := [(2, .int (nI (j + 1))), (1, .int (nI (j))), (0, .ref h)]) hx hb dX7_oldest_72 hl (k := 2) rfl (nI_add _ 1) (by decide) rfl (fun ls hl => ?_)
                    refine lv_goto (tgt := 10) hx hb dX7_oldest_75 (by decide) ?_
                    have hl : lv_has ls 3 [(2, .int (nI (j + 1))), (1, .int (oI (old f B (j + 1)))), (0, .ref h)] := lv_re hl 1 rfl (show nI (j) = oI (old f B (j + 1)) from by rw [old, hO2]; dsimp only; rw [if_pos ⟨c26_5, by rw [nmk_of hO7, nmk_of hO8]; exact c67_9⟩]; rfl)
                    have hl : lv_has ls 3 [(2, .int (nI ((j + 1)))), (1, .int (oI (old f B (j + 1)))), (0, .ref h)] := lv_re hl 0 rfl (show nI (j + 1) = nI ((j + 1)) from rfl)
                    exact ih10 (j + 1) (by omega) (by omega) _ _ hP hD hS _ (lv_sub hl [2, 1, 0] rfl)
  have hl : lv_has ls 3 [(2, .int (0)), (1, .int (oI (old f B 0))), (0, .ref h)] := lv_re hl 1 rfl (show (-9) = oI (old f B 0) from rfl)
  have hl : lv_has ls 3 [(2, .int (nI (0))), (1, .int (oI (old f B 0))), (0, .ref h)] := lv_re hl 0 rfl (show 0 = nI (0) from rfl)
  exact LP10 ((16 - 0) + 1) 0 (by omega) (by omega) _ _ hP hD hS _ (lv_sub hl [2, 1, 0] rfl)
theorem dX7_save_0 : decode cX7_save 0 = .ok (.aload_n 0, 1) := by decide +kernel
theorem dX7_save_1 : decode cX7_save 1 = .ok (.iload_n 1, 1) := by decide +kernel
theorem dX7_save_2 : decode cX7_save 2 = .ok (.i2l, 1) := by decide +kernel
theorem dX7_save_3 : decode cX7_save 3 = .ok (.lconst 0, 1) := by decide +kernel
theorem dX7_save_4 : decode cX7_save 4 = .ok (.lconst 1, 1) := by decide +kernel
theorem dX7_save_5 : decode cX7_save 5 = .ok (.invokestatic 147, 3) := by decide +kernel
theorem dX7_save_8 : decode cX7_save 8 = .ok (.ifCond .eq 7, 3) := by decide +kernel
theorem dX7_save_11 : decode cX7_save 11 = .ok (.iconst 0, 1) := by decide +kernel
theorem dX7_save_12 : decode cX7_save 12 = .ok (.goto 4, 3) := by decide +kernel
theorem dX7_save_15 : decode cX7_save 15 = .ok (.iconst 1, 1) := by decide +kernel
theorem dX7_save_16 : decode cX7_save 16 = .ok (.invokevirtual 154, 3) := by decide +kernel
theorem dX7_save_19 : decode cX7_save 19 = .ok (.ifCond .eq 5, 3) := by decide +kernel
theorem dX7_save_22 : decode cX7_save 22 = .ok (.iconst 0, 1) := by decide +kernel
theorem dX7_save_23 : decode cX7_save 23 = .ok (.ireturn, 1) := by decide +kernel
theorem dX7_save_24 : decode cX7_save 24 = .ok (.aload_n 0, 1) := by decide +kernel
theorem dX7_save_25 : decode cX7_save 25 = .ok (.getfield 13, 3) := by decide +kernel
theorem dX7_save_28 : decode cX7_save 28 = .ok (.iconst 0, 1) := by decide +kernel
theorem dX7_save_29 : decode cX7_save 29 = .ok (.aload_n 0, 1) := by decide +kernel
theorem dX7_save_30 : decode cX7_save 30 = .ok (.getfield 25, 3) := by decide +kernel
theorem dX7_save_33 : decode cX7_save 33 = .ok (.sipush 151, 3) := by decide +kernel
theorem dX7_save_36 : decode cX7_save 36 = .ok (.iload_n 1, 1) := by decide +kernel
theorem dX7_save_37 : decode cX7_save 37 = .ok (.imul, 1) := by decide +kernel
theorem dX7_save_38 : decode cX7_save 38 = .ok (.sipush 151, 3) := by decide +kernel
theorem dX7_save_41 : decode cX7_save 41 = .ok (.invokestatic 48, 3) := by decide +kernel
theorem dX7_save_44 : decode cX7_save 44 = .ok (.aload_n 0, 1) := by decide +kernel
theorem dX7_save_45 : decode cX7_save 45 = .ok (.getfield 28, 3) := by decide +kernel
theorem dX7_save_48 : decode cX7_save 48 = .ok (.iload_n 1, 1) := by decide +kernel
theorem dX7_save_49 : decode cX7_save 49 = .ok (.iconst 1, 1) := by decide +kernel
theorem dX7_save_50 : decode cX7_save 50 = .ok (.bastore, 1) := by decide +kernel
theorem dX7_save_51 : decode cX7_save 51 = .ok (.aload_n 0, 1) := by decide +kernel
theorem dX7_save_52 : decode cX7_save 52 = .ok (.getfield 13, 3) := by decide +kernel
theorem dX7_save_55 : decode cX7_save 55 = .ok (.invokestatic 212, 3) := by decide +kernel
theorem dX7_save_58 : decode cX7_save 58 = .ok (.ireturn, 1) := by decide +kernel
set_option maxHeartbeats 4000000 in
set_option maxRecDepth 100000 in
theorem c7_save (l : Launch) (D : va_G) (cI cZ : ClassId) (h sc nw tr lk di kp ik lv : Nat) (rf rb rl : Int32) (ac9 : Nat) (ss : Nat) (ps : Bool × Nat) (f : Nat → Int32) (B : Nat) (fkp fik : Nat → Int32) (hW : Wf f B) (sl : Int32) : GPi l yX7_save cX7_save 2 .int W7 5 110 D [(h, .inr (7, [.int (rf), .ref sc, .int (nI (ss)), .int (nI (ps.2)), .int (bI (ps.1 = true)), .int (rb), .int (rl), .ref nw, .ref tr, .ref lk, .ref di, .int (nI (ac9)), .ref kp, .ref ik, .ref lv])), (nw, .inl (cI, 151, .inl f)), (kp, .inl (cI, 302, .inl fkp)), (ik, .inl (cZ, 2, .inl fik))] [(cI, .int), (cZ, .boolean)] [.ref h, .int (sl)] (fun (r9 : Int32) (u9 : va_W) => r9 = (if rg2R sl 1 = 0 then nI (kys f B 16) else 0) ∧ u9 = [(h, .inr (7, [.int (rg2R sl 1), .ref sc, .int (nI (ss)), .int (nI (ps.2)), .int (bI (ps.1 = true)), .int (rb), .int (rl), .ref nw, .ref tr, .ref lk, .ref di, .int (nI (ac9)), .ref kp, .ref ik, .ref lv])), (nw, .inl (cI, 151, .inl f)), (kp, .inl (cI, 302, .inl (if rg2R sl 1 = 0 then va_cpy f fkp 0 (151 * sl.toNatClampNeg) 151 else fkp))), (ik, .inl (cZ, 2, .inl (if rg2R sl 1 = 0 then upd fik sl.toNatClampNeg 1 else fik)))]) := by
  refine gp_of RX7 (by decide) rfl (Nat.le_of_ble_eq_true rfl) ?_
  intro p e s m below meth c ls H hX hr hlocks hK hP hD hS hl
  generalize gp_A [(h, .inr (7, [.int (rf), .ref sc, .int (nI (ss)), .int (nI (ps.2)), .int (bI (ps.1 = true)), .int (rb), .int (rl), .ref nw, .ref tr, .ref lk, .ref di, .int (nI (ac9)), .ref kp, .ref ik, .ref lv])), (nw, .inl (cI, 151, .inl f)), (kp, .inl (cI, 302, .inl fkp)), (ik, .inl (cZ, 2, .inl fik))] = A at hD hS ⊢
  have hx := hX.1
  have hb := hX.2.1
  have hown := hX.2.2.2.1
  have hts := hX.2.2.2.2
  have hl : lv_has ls 2 [(0, .ref h), (1, .int (sl))] := hl
  have hB8 := hW.2.1
  refine lv_aload_n hx hb dX7_save_0 rfl (lv_at hl 0 rfl) ?_
  refine lv_iload_n hx hb dX7_save_1 rfl (lv_at hl 1 rfl) ?_
  refine lv_i2l (v := (sl : Int32).toInt64) hx hb dX7_save_2 (rfl) ?_
  refine lv_lconst (v := 0) hx hb dX7_save_3 (by decide) ?_
  refine lv_asl (show (0 : Int64) = (0 : Int32).toInt64 from by decide) ?_
  refine lv_lconst (v := 1) hx hb dX7_save_4 (by decide) ?_
  refine lv_asl (show (1 : Int64) = (1 : Int32).toInt64 from by decide) ?_
  refine rp_callS hX good7 i7 (c7_inI l D sl 0 1) q7_in rfl (m7 114 rfl) (m7 115 rfl) ⟨Nat.le_of_ble_eq_true rfl, Nat.le_of_ble_eq_true rfl⟩ hK [] rfl hP [] rfl hS hl.1 rfl (Nat.le_of_ble_eq_true rfl) dX7_save_5 ⟨Nat.zero_le _, Nat.zero_le _⟩ (fun H locs hP hS => ?_)
  refine lv_if_eq (tgt := 15) hx hb dX7_save_8 (by decide) (fun c8_1 => ?_) (fun c8_1 => ?_)
  · skip
    have c8_1 := bI_f c8_1
    refine lv_iconst (v := 1) hx hb dX7_save_15 (by decide) ?_
    refine gp_backi (gp_runV hX good7 i7 (c7_refused l D h rf 1 [.ref sc, .int (nI (ss)), .int (nI (ps.2)), .int (bI (ps.1 = true)), .int (rb), .int (rl), .ref nw, .ref tr, .ref lk, .ref di, .int (nI (ac9)), .ref kp, .ref ik, .ref lv]) q7_refused rfl (m7 117 rfl) (m7 118 rfl) (m7 119 rfl) ⟨Nat.le_of_ble_eq_true rfl, Nat.le_of_ble_eq_true rfl⟩ hK [] rfl hP hD [0] (by decide) rfl (ci := 7) (q0 := 0) rfl rfl rfl hl.1 rfl (Nat.le_of_ble_eq_true rfl) dX7_save_16 ⟨Nat.zero_le _, Nat.zero_le _⟩) hP hD hS [0] rfl (fun r u h => by rw [h.2]; simp only [List.map_cons, List.map_nil]) (fun r9 u H locs hpost hP hD hS => ?_)
    obtain ⟨hr9, rfl⟩ := hpost
    refine lv_as hr9 ?_
    have hP : va_P D vwCl [(h, .inr (7, [.int (1), .ref sc, .int (nI (ss)), .int (nI (ps.2)), .int (bI (ps.1 = true)), .int (rb), .int (rl), .ref nw, .ref tr, .ref lk, .ref di, .int (nI (ac9)), .ref kp, .ref ik, .ref lv])), (nw, .inl (cI, 151, .inl f)), (kp, .inl (cI, 302, .inl fkp)), (ik, .inl (cZ, 2, .inl fik))] H := hP
    have hD : va_D A [(h, .inr (7, [.int (1), .ref sc, .int (nI (ss)), .int (nI (ps.2)), .int (bI (ps.1 = true)), .int (rb), .int (rl), .ref nw, .ref tr, .ref lk, .ref di, .int (nI (ac9)), .ref kp, .ref ik, .ref lv])), (nw, .inl (cI, 151, .inl f)), (kp, .inl (cI, 302, .inl fkp)), (ik, .inl (cZ, 2, .inl fik))] := hD
    refine lv_as (show bI (0 < (1 : Int32)) = 1 from by decide) ?_
    refine lv_if_eq (tgt := 24) hx hb dX7_save_19 (by decide) (fun c19_2 => ?_) (fun c19_2 => ?_)
    · skip
      exact absurd c19_2 (by decide)
    · skip
      refine lv_iconst (v := 0) hx hb dX7_save_22 (by decide) ?_
      have hR9 : rg2R sl 1 = 1 := by rw [rg2R, if_neg c8_1]
      have hP : va_P D vwCl [(h, .inr (7, [.int (rg2R sl 1), .ref sc, .int (nI (ss)), .int (nI (ps.2)), .int (bI (ps.1 = true)), .int (rb), .int (rl), .ref nw, .ref tr, .ref lk, .ref di, .int (nI (ac9)), .ref kp, .ref ik, .ref lv])), (nw, .inl (cI, 151, .inl f)), (kp, .inl (cI, 302, .inl fkp)), (ik, .inl (cZ, 2, .inl fik))] H := by
        rw [show (rg2R sl 1 : Int32) = 1 from hR9]
        exact hP
      have hP : va_P D vwCl [(h, .inr (7, [.int (rg2R sl 1), .ref sc, .int (nI (ss)), .int (nI (ps.2)), .int (bI (ps.1 = true)), .int (rb), .int (rl), .ref nw, .ref tr, .ref lk, .ref di, .int (nI (ac9)), .ref kp, .ref ik, .ref lv])), (nw, .inl (cI, 151, .inl f)), (kp, .inl (cI, 302, .inl (if rg2R sl 1 = 0 then va_cpy f fkp 0 (151 * sl.toNatClampNeg) 151 else fkp))), (ik, .inl (cZ, 2, .inl fik))] H := by
        rw [show (if rg2R sl 1 = 0 then va_cpy f fkp 0 (151 * sl.toNatClampNeg) 151 else fkp : Nat → Int32) = fkp from (if_neg (by rw [hR9]; decide))]
        exact hP
      have hP : va_P D vwCl [(h, .inr (7, [.int (rg2R sl 1), .ref sc, .int (nI (ss)), .int (nI (ps.2)), .int (bI (ps.1 = true)), .int (rb), .int (rl), .ref nw, .ref tr, .ref lk, .ref di, .int (nI (ac9)), .ref kp, .ref ik, .ref lv])), (nw, .inl (cI, 151, .inl f)), (kp, .inl (cI, 302, .inl (if rg2R sl 1 = 0 then va_cpy f fkp 0 (151 * sl.toNatClampNeg) 151 else fkp))), (ik, .inl (cZ, 2, .inl (if rg2R sl 1 = 0 then upd fik sl.toNatClampNeg 1 else fik)))] H := by
        rw [show (if rg2R sl 1 = 0 then upd fik sl.toNatClampNeg 1 else fik : Nat → Int32) = fik from (if_neg (by rw [hR9]; decide))]
        exact hP
      exact gp_reti hX hr hlocks hS hP ⟨oRn hR9 (by decide), rfl⟩ dX7_save_23
  · skip
    have c8_1 := bI_t c8_1
    refine lv_iconst (v := 0) hx hb dX7_save_11 (by decide) ?_
    refine lv_goto (tgt := 16) hx hb dX7_save_12 (by decide) ?_
    refine gp_backi (gp_runV hX good7 i7 (c7_refused l D h rf 0 [.ref sc, .int (nI (ss)), .int (nI (ps.2)), .int (bI (ps.1 = true)), .int (rb), .int (rl), .ref nw, .ref tr, .ref lk, .ref di, .int (nI (ac9)), .ref kp, .ref ik, .ref lv]) q7_refused rfl (m7 117 rfl) (m7 118 rfl) (m7 119 rfl) ⟨Nat.le_of_ble_eq_true rfl, Nat.le_of_ble_eq_true rfl⟩ hK [] rfl hP hD [0] (by decide) rfl (ci := 7) (q0 := 0) rfl rfl rfl hl.1 rfl (Nat.le_of_ble_eq_true rfl) dX7_save_16 ⟨Nat.zero_le _, Nat.zero_le _⟩) hP hD hS [0] rfl (fun r u h => by rw [h.2]; simp only [List.map_cons, List.map_nil]) (fun r9 u H locs hpost hP hD hS => ?_)
    obtain ⟨hr9, rfl⟩ := hpost
    refine lv_as hr9 ?_
    have hP : va_P D vwCl [(h, .inr (7, [.int (0), .ref sc, .int (nI (ss)), .int (nI (ps.2)), .int (bI (ps.1 = true)), .int (rb), .int (rl), .ref nw, .ref tr, .ref lk, .ref di, .int (nI (ac9)), .ref kp, .ref ik, .ref lv])), (nw, .inl (cI, 151, .inl f)), (kp, .inl (cI, 302, .inl fkp)), (ik, .inl (cZ, 2, .inl fik))] H := hP
    have hD : va_D A [(h, .inr (7, [.int (0), .ref sc, .int (nI (ss)), .int (nI (ps.2)), .int (bI (ps.1 = true)), .int (rb), .int (rl), .ref nw, .ref tr, .ref lk, .ref di, .int (nI (ac9)), .ref kp, .ref ik, .ref lv])), (nw, .inl (cI, 151, .inl f)), (kp, .inl (cI, 302, .inl fkp)), (ik, .inl (cZ, 2, .inl fik))] := hD
    refine lv_as (show bI (0 < (0 : Int32)) = 0 from by decide) ?_
    refine lv_if_eq (tgt := 24) hx hb dX7_save_19 (by decide) (fun c19_3 => ?_) (fun c19_3 => ?_)
    · skip
      obtain ⟨j, hj, ej⟩ := rng (n := 1) (by omega) c8_1
      have hl : lv_has ls 2 [(0, .ref h), (1, .int (nI (j)))] := lv_re hl 1 rfl ej
      refine lv_aload_n hx hb dX7_save_24 rfl (lv_at hl 0 rfl) ?_
      refine va_get (D := D) (ci := 7) (v := .ref nw) (C := RX7) (T := TX7) (N := 15) hx hb hts u7 hown hK hP 0 rfl rfl 7 (by decide) (hts _ (m7 5 rfl)) (fun _ h9 => h9) rfl dX7_save_25 ?_
      refine lv_iconst (v := 0) hx hb dX7_save_28 (by decide) ?_
      refine lv_aload_n hx hb dX7_save_29 rfl (lv_at hl 0 rfl) ?_
      refine va_get (D := D) (ci := 7) (v := .ref kp) (C := RX7) (T := TX7) (N := 15) hx hb hts u7 hown hK hP 0 rfl rfl 12 (by decide) (hts _ (m7 9 rfl)) (fun _ h9 => h9) rfl dX7_save_30 ?_
      refine lv_sipush (v := 151) hx hb dX7_save_33 (by decide) ?_
      refine lv_iload_n hx hb dX7_save_36 rfl (lv_at hl 1 rfl) ?_
      refine lv_imul hx hb dX7_save_37 ?_
      refine lv_as (y := nI (151 * j)) (pk_mul (151) (j)) ?_
      refine lv_sipush (v := 151) hx hb dX7_save_38 (by decide) ?_
      refine gp_backv (gp_runS hX good7 i7 (c7_copy l D cI nw kp 151 302 f fkp 0 (151 * j) 151 (by omega) (by omega) (by omega) (by omega)) q7_copy rfl (m7 20 rfl) (m7 21 rfl) ⟨Nat.le_of_ble_eq_true rfl, Nat.le_of_ble_eq_true rfl⟩ hK [0] rfl hP hD [1, 2] (by decide) rfl hl.1 rfl (Nat.le_of_ble_eq_true rfl) dX7_save_41 ⟨Nat.zero_le _, Nat.zero_le _⟩) hP hD hS [1, 2] rfl (fun u h => by rw [h]; simp only [List.map_cons, List.map_nil]) (fun u H locs hpost hP hD hS => ?_)
      subst hpost
      have hP : va_P D vwCl [(h, .inr (7, [.int (0), .ref sc, .int (nI (ss)), .int (nI (ps.2)), .int (bI (ps.1 = true)), .int (rb), .int (rl), .ref nw, .ref tr, .ref lk, .ref di, .int (nI (ac9)), .ref kp, .ref ik, .ref lv])), (nw, .inl (cI, 151, .inl f)), (kp, .inl (cI, 302, .inl (va_cpy f fkp 0 (151 * j) 151))), (ik, .inl (cZ, 2, .inl fik))] H := hP
      have hD : va_D A [(h, .inr (7, [.int (0), .ref sc, .int (nI (ss)), .int (nI (ps.2)), .int (bI (ps.1 = true)), .int (rb), .int (rl), .ref nw, .ref tr, .ref lk, .ref di, .int (nI (ac9)), .ref kp, .ref ik, .ref lv])), (nw, .inl (cI, 151, .inl f)), (kp, .inl (cI, 302, .inl (va_cpy f fkp 0 (151 * j) 151))), (ik, .inl (cZ, 2, .inl fik))] := hD
      refine lv_aload_n hx hb dX7_save_44 rfl (lv_at hl 0 rfl) ?_
      refine va_get (D := D) (ci := 7) (v := .ref ik) (C := RX7) (T := TX7) (N := 15) hx hb hts u7 hown hK hP 0 rfl rfl 13 (by decide) (hts _ (m7 11 rfl)) (fun _ h9 => h9) rfl dX7_save_45 ?_
      refine lv_iload_n hx hb dX7_save_48 rfl (lv_at hl 1 rfl) ?_
      refine lv_iconst (v := 1) hx hb dX7_save_49 (by decide) ?_
      refine ra_zast (i := j) hx hb hK hP hD hS 3 1 rfl rfl (by decide) (by omega) (by decide) dX7_save_50 (fun H locs hP hD hS => ?_)
      have hP : va_P D vwCl [(h, .inr (7, [.int (0), .ref sc, .int (nI (ss)), .int (nI (ps.2)), .int (bI (ps.1 = true)), .int (rb), .int (rl), .ref nw, .ref tr, .ref lk, .ref di, .int (nI (ac9)), .ref kp, .ref ik, .ref lv])), (nw, .inl (cI, 151, .inl f)), (kp, .inl (cI, 302, .inl (va_cpy f fkp 0 (151 * j) 151))), (ik, .inl (cZ, 2, .inl (upd fik j 1)))] H := hP
      have hD : va_D A [(h, .inr (7, [.int (0), .ref sc, .int (nI (ss)), .int (nI (ps.2)), .int (bI (ps.1 = true)), .int (rb), .int (rl), .ref nw, .ref tr, .ref lk, .ref di, .int (nI (ac9)), .ref kp, .ref ik, .ref lv])), (nw, .inl (cI, 151, .inl f)), (kp, .inl (cI, 302, .inl (va_cpy f fkp 0 (151 * j) 151))), (ik, .inl (cZ, 2, .inl (upd fik j 1)))] := hD
      refine lv_aload_n hx hb dX7_save_51 rfl (lv_at hl 0 rfl) ?_
      refine va_get (D := D) (ci := 7) (v := .ref nw) (C := RX7) (T := TX7) (N := 15) hx hb hts u7 hown hK hP 0 rfl rfl 7 (by decide) (hts _ (m7 5 rfl)) (fun _ h9 => h9) rfl dX7_save_52 ?_
      refine rp_callS hX good7 i7 (c7_keysOf l D cI nw f B hW.1 hW.2.1) q7_keysOf rfl (m7 169 rfl) (m7 170 rfl) ⟨Nat.le_of_ble_eq_true rfl, Nat.le_of_ble_eq_true rfl⟩ hK [0] rfl hP [1] rfl hS hl.1 rfl (Nat.le_of_ble_eq_true rfl) dX7_save_55 ⟨Nat.zero_le _, Nat.zero_le _⟩ (fun H locs hP hS => ?_)
      have hR9 : rg2R sl 1 = 0 := by rw [rg2R, if_pos c8_1]
      have hP : va_P D vwCl [(h, .inr (7, [.int (rg2R sl 1), .ref sc, .int (nI (ss)), .int (nI (ps.2)), .int (bI (ps.1 = true)), .int (rb), .int (rl), .ref nw, .ref tr, .ref lk, .ref di, .int (nI (ac9)), .ref kp, .ref ik, .ref lv])), (nw, .inl (cI, 151, .inl f)), (kp, .inl (cI, 302, .inl (va_cpy f fkp 0 (151 * j) 151))), (ik, .inl (cZ, 2, .inl (upd fik j 1)))] H := by
        rw [show (rg2R sl 1 : Int32) = 0 from hR9]
        exact hP
      have hP : va_P D vwCl [(h, .inr (7, [.int (rg2R sl 1), .ref sc, .int (nI (ss)), .int (nI (ps.2)), .int (bI (ps.1 = true)), .int (rb), .int (rl), .ref nw, .ref tr, .ref lk, .ref di, .int (nI (ac9)), .ref kp, .ref ik, .ref lv])), (nw, .inl (cI, 151, .inl f)), (kp, .inl (cI, 302, .inl (if rg2R sl 1 = 0 then va_cpy f fkp 0 (151 * sl.toNatClampNeg) 151 else fkp))), (ik, .inl (cZ, 2, .inl (upd fik j 1)))] H := by
        rw [show (if rg2R sl 1 = 0 then va_cpy f fkp 0 (151 * sl.toNatClampNeg) 151 else fkp : Nat → Int32) = va_cpy f fkp 0 (151 * j) 151 from (if_pos hR9).trans (by rw [ej, nI_clamp (by omega)])]
        exact hP
      have hP : va_P D vwCl [(h, .inr (7, [.int (rg2R sl 1), .ref sc, .int (nI (ss)), .int (nI (ps.2)), .int (bI (ps.1 = true)), .int (rb), .int (rl), .ref nw, .ref tr, .ref lk, .ref di, .int (nI (ac9)), .ref kp, .ref ik, .ref lv])), (nw, .inl (cI, 151, .inl f)), (kp, .inl (cI, 302, .inl (if rg2R sl 1 = 0 then va_cpy f fkp 0 (151 * sl.toNatClampNeg) 151 else fkp))), (ik, .inl (cZ, 2, .inl (if rg2R sl 1 = 0 then upd fik sl.toNatClampNeg 1 else fik)))] H := by
        rw [show (if rg2R sl 1 = 0 then upd fik sl.toNatClampNeg 1 else fik : Nat → Int32) = upd fik j 1 from (if_pos hR9).trans (by rw [ej, nI_clamp (by omega)])]
        exact hP
      exact gp_reti hX hr hlocks hS hP ⟨oR0 hR9, rfl⟩ dX7_save_58
    · skip
      exact absurd c19_3 (by decide)
theorem dX7_restore_0 : decode cX7_restore 0 = .ok (.aload_n 0, 1) := by decide +kernel
theorem dX7_restore_1 : decode cX7_restore 1 = .ok (.iload_n 1, 1) := by decide +kernel
theorem dX7_restore_2 : decode cX7_restore 2 = .ok (.i2l, 1) := by decide +kernel
theorem dX7_restore_3 : decode cX7_restore 3 = .ok (.lconst 0, 1) := by decide +kernel
theorem dX7_restore_4 : decode cX7_restore 4 = .ok (.lconst 1, 1) := by decide +kernel
theorem dX7_restore_5 : decode cX7_restore 5 = .ok (.invokestatic 147, 3) := by decide +kernel
theorem dX7_restore_8 : decode cX7_restore 8 = .ok (.ifCond .ne 7, 3) := by decide +kernel
theorem dX7_restore_11 : decode cX7_restore 11 = .ok (.iconst 1, 1) := by decide +kernel
theorem dX7_restore_12 : decode cX7_restore 12 = .ok (.goto 17, 3) := by decide +kernel
theorem dX7_restore_15 : decode cX7_restore 15 = .ok (.aload_n 0, 1) := by decide +kernel
theorem dX7_restore_16 : decode cX7_restore 16 = .ok (.getfield 28, 3) := by decide +kernel
theorem dX7_restore_19 : decode cX7_restore 19 = .ok (.iload_n 1, 1) := by decide +kernel
theorem dX7_restore_20 : decode cX7_restore 20 = .ok (.baload, 1) := by decide +kernel
theorem dX7_restore_21 : decode cX7_restore 21 = .ok (.ifCond .eq 7, 3) := by decide +kernel
theorem dX7_restore_24 : decode cX7_restore 24 = .ok (.iconst 0, 1) := by decide +kernel
theorem dX7_restore_25 : decode cX7_restore 25 = .ok (.goto 4, 3) := by decide +kernel
theorem dX7_restore_28 : decode cX7_restore 28 = .ok (.iconst 2, 1) := by decide +kernel
theorem dX7_restore_29 : decode cX7_restore 29 = .ok (.invokevirtual 154, 3) := by decide +kernel
theorem dX7_restore_32 : decode cX7_restore 32 = .ok (.ifCond .eq 5, 3) := by decide +kernel
theorem dX7_restore_35 : decode cX7_restore 35 = .ok (.iconst 0, 1) := by decide +kernel
theorem dX7_restore_36 : decode cX7_restore 36 = .ok (.ireturn, 1) := by decide +kernel
theorem dX7_restore_37 : decode cX7_restore 37 = .ok (.aload_n 0, 1) := by decide +kernel
theorem dX7_restore_38 : decode cX7_restore 38 = .ok (.getfield 25, 3) := by decide +kernel
theorem dX7_restore_41 : decode cX7_restore 41 = .ok (.sipush 151, 3) := by decide +kernel
theorem dX7_restore_44 : decode cX7_restore 44 = .ok (.iload_n 1, 1) := by decide +kernel
theorem dX7_restore_45 : decode cX7_restore 45 = .ok (.imul, 1) := by decide +kernel
theorem dX7_restore_46 : decode cX7_restore 46 = .ok (.aload_n 0, 1) := by decide +kernel
theorem dX7_restore_47 : decode cX7_restore 47 = .ok (.getfield 13, 3) := by decide +kernel
theorem dX7_restore_50 : decode cX7_restore 50 = .ok (.iconst 0, 1) := by decide +kernel
theorem dX7_restore_51 : decode cX7_restore 51 = .ok (.sipush 151, 3) := by decide +kernel
theorem dX7_restore_54 : decode cX7_restore 54 = .ok (.invokestatic 48, 3) := by decide +kernel
theorem dX7_restore_57 : decode cX7_restore 57 = .ok (.aload_n 0, 1) := by decide +kernel
theorem dX7_restore_58 : decode cX7_restore 58 = .ok (.iconst 0, 1) := by decide +kernel
theorem dX7_restore_59 : decode cX7_restore 59 = .ok (.putfield 45, 3) := by decide +kernel
theorem dX7_restore_62 : decode cX7_restore 62 = .ok (.aload_n 0, 1) := by decide +kernel
theorem dX7_restore_63 : decode cX7_restore 63 = .ok (.getfield 13, 3) := by decide +kernel
theorem dX7_restore_66 : decode cX7_restore 66 = .ok (.invokestatic 212, 3) := by decide +kernel
theorem dX7_restore_69 : decode cX7_restore 69 = .ok (.ireturn, 1) := by decide +kernel
set_option maxHeartbeats 4000000 in
set_option maxRecDepth 100000 in
theorem c7_restore (l : Launch) (D : va_G) (cI cZ : ClassId) (h sc nw tr lk di kp ik lv : Nat) (rf rb rl : Int32) (ac9 : Nat) (ss : Nat) (ps : Bool × Nat) (f : Nat → Int32) (B : Nat) (fkp fik : Nat → Int32) (hW : Wf f B) (sl : Int32) (hKp : ∀ j, j < 2 → ¬ fik j = 0 → Wf (rowA fkp j) B) : GPi l yX7_restore cX7_restore 2 .int W7 5 110 D [(h, .inr (7, [.int (rf), .ref sc, .int (nI (ss)), .int (nI (ps.2)), .int (bI (ps.1 = true)), .int (rb), .int (rl), .ref nw, .ref tr, .ref lk, .ref di, .int (nI (ac9)), .ref kp, .ref ik, .ref lv])), (nw, .inl (cI, 151, .inl f)), (kp, .inl (cI, 302, .inl fkp)), (ik, .inl (cZ, 2, .inl fik))] [(cI, .int), (cZ, .boolean)] [.ref h, .int (sl)] (fun (r9 : Int32) (u9 : va_W) => r9 = (if rstR fik sl = 0 then nI (kys (rowA fkp sl.toNatClampNeg) B 16) else 0) ∧ u9 = [(h, .inr (7, [.int (rstR fik sl), .ref sc, .int (nI (ss)), .int (nI (ps.2)), .int (bI (ps.1 = true)), .int (rb), .int (rl), .ref nw, .ref tr, .ref lk, .ref di, .int (nI (if rstR fik sl = 0 then 0 else ac9)), .ref kp, .ref ik, .ref lv])), (nw, .inl (cI, 151, .inl (if rstR fik sl = 0 then rowA fkp sl.toNatClampNeg else f))), (kp, .inl (cI, 302, .inl fkp)), (ik, .inl (cZ, 2, .inl fik))]) := by
  refine gp_of RX7 (by decide) rfl (Nat.le_of_ble_eq_true rfl) ?_
  intro p e s m below meth c ls H hX hr hlocks hK hP hD hS hl
  generalize gp_A [(h, .inr (7, [.int (rf), .ref sc, .int (nI (ss)), .int (nI (ps.2)), .int (bI (ps.1 = true)), .int (rb), .int (rl), .ref nw, .ref tr, .ref lk, .ref di, .int (nI (ac9)), .ref kp, .ref ik, .ref lv])), (nw, .inl (cI, 151, .inl f)), (kp, .inl (cI, 302, .inl fkp)), (ik, .inl (cZ, 2, .inl fik))] = A at hD hS ⊢
  have hx := hX.1
  have hb := hX.2.1
  have hown := hX.2.2.2.1
  have hts := hX.2.2.2.2
  have hl : lv_has ls 2 [(0, .ref h), (1, .int (sl))] := hl
  have hB8 := hW.2.1
  refine lv_aload_n hx hb dX7_restore_0 rfl (lv_at hl 0 rfl) ?_
  refine lv_iload_n hx hb dX7_restore_1 rfl (lv_at hl 1 rfl) ?_
  refine lv_i2l (v := (sl : Int32).toInt64) hx hb dX7_restore_2 (rfl) ?_
  refine lv_lconst (v := 0) hx hb dX7_restore_3 (by decide) ?_
  refine lv_asl (show (0 : Int64) = (0 : Int32).toInt64 from by decide) ?_
  refine lv_lconst (v := 1) hx hb dX7_restore_4 (by decide) ?_
  refine lv_asl (show (1 : Int64) = (1 : Int32).toInt64 from by decide) ?_
  refine rp_callS hX good7 i7 (c7_inI l D sl 0 1) q7_in rfl (m7 114 rfl) (m7 115 rfl) ⟨Nat.le_of_ble_eq_true rfl, Nat.le_of_ble_eq_true rfl⟩ hK [] rfl hP [] rfl hS hl.1 rfl (Nat.le_of_ble_eq_true rfl) dX7_restore_5 ⟨Nat.zero_le _, Nat.zero_le _⟩ (fun H locs hP hS => ?_)
  refine lv_if_ne (tgt := 15) hx hb dX7_restore_8 (by decide) (fun c8_1 => ?_) (fun c8_1 => ?_)
  · skip
    have c8_1 := bI_t c8_1
    obtain ⟨j, hj, ej⟩ := rng (n := 1) (by omega) c8_1
    have hl : lv_has ls 2 [(0, .ref h), (1, .int (nI (j)))] := lv_re hl 1 rfl ej
    have h8 := c8_1
    refine lv_aload_n hx hb dX7_restore_15 rfl (lv_at hl 0 rfl) ?_
    refine va_get (D := D) (ci := 7) (v := .ref ik) (C := RX7) (T := TX7) (N := 15) hx hb hts u7 hown hK hP 0 rfl rfl 13 (by decide) (hts _ (m7 11 rfl)) (fun _ h9 => h9) rfl dX7_restore_16 ?_
    refine lv_iload_n hx hb dX7_restore_19 rfl (lv_at hl 1 rfl) ?_
    refine ra_zald (i := j) hx hb hK hP 3 1 rfl rfl (by omega) (by decide) dX7_restore_20 ?_
    refine lv_if_eq (tgt := 28) hx hb dX7_restore_21 (by decide) (fun c21_2 => ?_) (fun c21_2 => ?_)
    · skip
      refine lv_iconst (v := 2) hx hb dX7_restore_28 (by decide) ?_
      refine gp_backi (gp_runV hX good7 i7 (c7_refused l D h rf 2 [.ref sc, .int (nI (ss)), .int (nI (ps.2)), .int (bI (ps.1 = true)), .int (rb), .int (rl), .ref nw, .ref tr, .ref lk, .ref di, .int (nI (ac9)), .ref kp, .ref ik, .ref lv]) q7_refused rfl (m7 117 rfl) (m7 118 rfl) (m7 119 rfl) ⟨Nat.le_of_ble_eq_true rfl, Nat.le_of_ble_eq_true rfl⟩ hK [] rfl hP hD [0] (by decide) rfl (ci := 7) (q0 := 0) rfl rfl rfl hl.1 rfl (Nat.le_of_ble_eq_true rfl) dX7_restore_29 ⟨Nat.zero_le _, Nat.zero_le _⟩) hP hD hS [0] rfl (fun r u h => by rw [h.2]; simp only [List.map_cons, List.map_nil]) (fun r9 u H locs hpost hP hD hS => ?_)
      obtain ⟨hr9, rfl⟩ := hpost
      refine lv_as hr9 ?_
      have hP : va_P D vwCl [(h, .inr (7, [.int (2), .ref sc, .int (nI (ss)), .int (nI (ps.2)), .int (bI (ps.1 = true)), .int (rb), .int (rl), .ref nw, .ref tr, .ref lk, .ref di, .int (nI (ac9)), .ref kp, .ref ik, .ref lv])), (nw, .inl (cI, 151, .inl f)), (kp, .inl (cI, 302, .inl fkp)), (ik, .inl (cZ, 2, .inl fik))] H := hP
      have hD : va_D A [(h, .inr (7, [.int (2), .ref sc, .int (nI (ss)), .int (nI (ps.2)), .int (bI (ps.1 = true)), .int (rb), .int (rl), .ref nw, .ref tr, .ref lk, .ref di, .int (nI (ac9)), .ref kp, .ref ik, .ref lv])), (nw, .inl (cI, 151, .inl f)), (kp, .inl (cI, 302, .inl fkp)), (ik, .inl (cZ, 2, .inl fik))] := hD
      refine lv_as (show bI (0 < (2 : Int32)) = 1 from by decide) ?_
      refine lv_if_eq (tgt := 37) hx hb dX7_restore_32 (by decide) (fun c32_3 => ?_) (fun c32_3 => ?_)
      · skip
        exact absurd c32_3 (by decide)
      · skip
        refine lv_iconst (v := 0) hx hb dX7_restore_35 (by decide) ?_
        have hR9 : rstR fik sl = 2 := by rw [rstR, if_pos h8, if_pos (by rw [ej, nI_clamp (by omega)]; exact c21_2)]
        have hP : va_P D vwCl [(h, .inr (7, [.int (rstR fik sl), .ref sc, .int (nI (ss)), .int (nI (ps.2)), .int (bI (ps.1 = true)), .int (rb), .int (rl), .ref nw, .ref tr, .ref lk, .ref di, .int (nI (if rstR fik sl = 0 then 0 else ac9)), .ref kp, .ref ik, .ref lv])), (nw, .inl (cI, 151, .inl f)), (kp, .inl (cI, 302, .inl fkp)), (ik, .inl (cZ, 2, .inl fik))] H := by
          rw [show (nI (if rstR fik sl = 0 then 0 else ac9) : Int32) = nI (ac9) from (congrArg nI (if_neg (by rw [hR9]; decide)))]
          rw [show (rstR fik sl : Int32) = 2 from hR9]
          exact hP
        have hP : va_P D vwCl [(h, .inr (7, [.int (rstR fik sl), .ref sc, .int (nI (ss)), .int (nI (ps.2)), .int (bI (ps.1 = true)), .int (rb), .int (rl), .ref nw, .ref tr, .ref lk, .ref di, .int (nI (if rstR fik sl = 0 then 0 else ac9)), .ref kp, .ref ik, .ref lv])), (nw, .inl (cI, 151, .inl (if rstR fik sl = 0 then rowA fkp sl.toNatClampNeg else f))), (kp, .inl (cI, 302, .inl fkp)), (ik, .inl (cZ, 2, .inl fik))] H := by
          rw [show (if rstR fik sl = 0 then rowA fkp sl.toNatClampNeg else f : Nat → Int32) = f from (if_neg (by rw [hR9]; decide))]
          exact hP
        exact gp_reti hX hr hlocks hS hP ⟨oRn hR9 (by decide), rfl⟩ dX7_restore_36
    · skip
      refine lv_iconst (v := 0) hx hb dX7_restore_24 (by decide) ?_
      refine lv_goto (tgt := 29) hx hb dX7_restore_25 (by decide) ?_
      refine gp_backi (gp_runV hX good7 i7 (c7_refused l D h rf 0 [.ref sc, .int (nI (ss)), .int (nI (ps.2)), .int (bI (ps.1 = true)), .int (rb), .int (rl), .ref nw, .ref tr, .ref lk, .ref di, .int (nI (ac9)), .ref kp, .ref ik, .ref lv]) q7_refused rfl (m7 117 rfl) (m7 118 rfl) (m7 119 rfl) ⟨Nat.le_of_ble_eq_true rfl, Nat.le_of_ble_eq_true rfl⟩ hK [] rfl hP hD [0] (by decide) rfl (ci := 7) (q0 := 0) rfl rfl rfl hl.1 rfl (Nat.le_of_ble_eq_true rfl) dX7_restore_29 ⟨Nat.zero_le _, Nat.zero_le _⟩) hP hD hS [0] rfl (fun r u h => by rw [h.2]; simp only [List.map_cons, List.map_nil]) (fun r9 u H locs hpost hP hD hS => ?_)
      obtain ⟨hr9, rfl⟩ := hpost
      refine lv_as hr9 ?_
      have hP : va_P D vwCl [(h, .inr (7, [.int (0), .ref sc, .int (nI (ss)), .int (nI (ps.2)), .int (bI (ps.1 = true)), .int (rb), .int (rl), .ref nw, .ref tr, .ref lk, .ref di, .int (nI (ac9)), .ref kp, .ref ik, .ref lv])), (nw, .inl (cI, 151, .inl f)), (kp, .inl (cI, 302, .inl fkp)), (ik, .inl (cZ, 2, .inl fik))] H := hP
      have hD : va_D A [(h, .inr (7, [.int (0), .ref sc, .int (nI (ss)), .int (nI (ps.2)), .int (bI (ps.1 = true)), .int (rb), .int (rl), .ref nw, .ref tr, .ref lk, .ref di, .int (nI (ac9)), .ref kp, .ref ik, .ref lv])), (nw, .inl (cI, 151, .inl f)), (kp, .inl (cI, 302, .inl fkp)), (ik, .inl (cZ, 2, .inl fik))] := hD
      refine lv_as (show bI (0 < (0 : Int32)) = 0 from by decide) ?_
      refine lv_if_eq (tgt := 37) hx hb dX7_restore_32 (by decide) (fun c32_4 => ?_) (fun c32_4 => ?_)
      · skip
        refine lv_aload_n hx hb dX7_restore_37 rfl (lv_at hl 0 rfl) ?_
        refine va_get (D := D) (ci := 7) (v := .ref kp) (C := RX7) (T := TX7) (N := 15) hx hb hts u7 hown hK hP 0 rfl rfl 12 (by decide) (hts _ (m7 9 rfl)) (fun _ h9 => h9) rfl dX7_restore_38 ?_
        refine lv_sipush (v := 151) hx hb dX7_restore_41 (by decide) ?_
        refine lv_iload_n hx hb dX7_restore_44 rfl (lv_at hl 1 rfl) ?_
        refine lv_imul hx hb dX7_restore_45 ?_
        refine lv_as (y := nI (151 * j)) (pk_mul (151) (j)) ?_
        refine lv_aload_n hx hb dX7_restore_46 rfl (lv_at hl 0 rfl) ?_
        refine va_get (D := D) (ci := 7) (v := .ref nw) (C := RX7) (T := TX7) (N := 15) hx hb hts u7 hown hK hP 0 rfl rfl 7 (by decide) (hts _ (m7 5 rfl)) (fun _ h9 => h9) rfl dX7_restore_47 ?_
        refine lv_iconst (v := 0) hx hb dX7_restore_50 (by decide) ?_
        refine lv_sipush (v := 151) hx hb dX7_restore_51 (by decide) ?_
        refine gp_backv (gp_runS hX good7 i7 (c7_copy l D cI kp nw 302 151 fkp f (151 * j) 0 151 (by omega) (by omega) (by omega) (by omega)) q7_copy rfl (m7 20 rfl) (m7 21 rfl) ⟨Nat.le_of_ble_eq_true rfl, Nat.le_of_ble_eq_true rfl⟩ hK [0] rfl hP hD [2, 1] (by decide) rfl hl.1 rfl (Nat.le_of_ble_eq_true rfl) dX7_restore_54 ⟨Nat.zero_le _, Nat.zero_le _⟩) hP hD hS [2, 1] rfl (fun u h => by rw [h]; simp only [List.map_cons, List.map_nil]) (fun u H locs hpost hP hD hS => ?_)
        subst hpost
        have hP : va_P D vwCl [(h, .inr (7, [.int (0), .ref sc, .int (nI (ss)), .int (nI (ps.2)), .int (bI (ps.1 = true)), .int (rb), .int (rl), .ref nw, .ref tr, .ref lk, .ref di, .int (nI (ac9)), .ref kp, .ref ik, .ref lv])), (nw, .inl (cI, 151, .inl (va_cpy fkp f (151 * j) 0 151))), (kp, .inl (cI, 302, .inl fkp)), (ik, .inl (cZ, 2, .inl fik))] H := hP
        have hD : va_D A [(h, .inr (7, [.int (0), .ref sc, .int (nI (ss)), .int (nI (ps.2)), .int (bI (ps.1 = true)), .int (rb), .int (rl), .ref nw, .ref tr, .ref lk, .ref di, .int (nI (ac9)), .ref kp, .ref ik, .ref lv])), (nw, .inl (cI, 151, .inl (va_cpy fkp f (151 * j) 0 151))), (kp, .inl (cI, 302, .inl fkp)), (ik, .inl (cZ, 2, .inl fik))] := hD
        have hP : va_P D vwCl [(h, .inr (7, [.int (0), .ref sc, .int (nI (ss)), .int (nI (ps.2)), .int (bI (ps.1 = true)), .int (rb), .int (rl), .ref nw, .ref tr, .ref lk, .ref di, .int (nI (ac9)), .ref kp, .ref ik, .ref lv])), (nw, .inl (cI, 151, .inl (rowA fkp j))), (kp, .inl (cI, 302, .inl fkp)), (ik, .inl (cZ, 2, .inl fik))] H := gp_cell (A := A) hP 1 rfl (fun k hk => rowA_c hk)
        have hD : va_D A [(h, .inr (7, [.int (0), .ref sc, .int (nI (ss)), .int (nI (ps.2)), .int (bI (ps.1 = true)), .int (rb), .int (rl), .ref nw, .ref tr, .ref lk, .ref di, .int (nI (ac9)), .ref kp, .ref ik, .ref lv])), (nw, .inl (cI, 151, .inl (rowA fkp j))), (kp, .inl (cI, 302, .inl fkp)), (ik, .inl (cZ, 2, .inl fik))] := gp_D hD (by simp only [List.map_cons, List.map_nil])
        refine lv_aload_n hx hb dX7_restore_57 rfl (lv_at hl 0 rfl) ?_
        refine lv_iconst (v := 0) hx hb dX7_restore_58 (by decide) ?_
        refine va_put (D := D) (ci := 7) (v := .int (0)) (ty := .int) (C := RX7) (T := TX7) (N := 15) hx hb hts u7 tyX7 tyX7_ok nmX7 hown hK hP hD hS 0 rfl rfl 11 (by decide) (hts _ (m7 19 rfl)) (fun _ h9 => h9) rfl (by decide +kernel) rfl rfl (Nat.le_of_ble_eq_true rfl) dX7_restore_59 (fun H locs hP hD hS => ?_)
        have hP : va_P D vwCl [(h, .inr (7, [.int (0), .ref sc, .int (nI (ss)), .int (nI (ps.2)), .int (bI (ps.1 = true)), .int (rb), .int (rl), .ref nw, .ref tr, .ref lk, .ref di, .int (0), .ref kp, .ref ik, .ref lv])), (nw, .inl (cI, 151, .inl (rowA fkp j))), (kp, .inl (cI, 302, .inl fkp)), (ik, .inl (cZ, 2, .inl fik))] H := hP
        have hD : va_D A [(h, .inr (7, [.int (0), .ref sc, .int (nI (ss)), .int (nI (ps.2)), .int (bI (ps.1 = true)), .int (rb), .int (rl), .ref nw, .ref tr, .ref lk, .ref di, .int (0), .ref kp, .ref ik, .ref lv])), (nw, .inl (cI, 151, .inl (rowA fkp j))), (kp, .inl (cI, 302, .inl fkp)), (ik, .inl (cZ, 2, .inl fik))] := hD
        refine lv_aload_n hx hb dX7_restore_62 rfl (lv_at hl 0 rfl) ?_
        refine va_get (D := D) (ci := 7) (v := .ref nw) (C := RX7) (T := TX7) (N := 15) hx hb hts u7 hown hK hP 0 rfl rfl 7 (by decide) (hts _ (m7 5 rfl)) (fun _ h9 => h9) rfl dX7_restore_63 ?_
        refine rp_callS hX good7 i7 (c7_keysOf l D cI nw (rowA fkp j) B (hKp j (by omega) c21_2).1 (hKp j (by omega) c21_2).2.1) q7_keysOf rfl (m7 169 rfl) (m7 170 rfl) ⟨Nat.le_of_ble_eq_true rfl, Nat.le_of_ble_eq_true rfl⟩ hK [0] rfl hP [1] rfl hS hl.1 rfl (Nat.le_of_ble_eq_true rfl) dX7_restore_66 ⟨Nat.zero_le _, Nat.zero_le _⟩ (fun H locs hP hS => ?_)
        have hR9 : rstR fik sl = 0 := by rw [rstR, if_pos h8, if_neg (by rw [ej, nI_clamp (by omega)]; exact c21_2)]
        have hP : va_P D vwCl [(h, .inr (7, [.int (rstR fik sl), .ref sc, .int (nI (ss)), .int (nI (ps.2)), .int (bI (ps.1 = true)), .int (rb), .int (rl), .ref nw, .ref tr, .ref lk, .ref di, .int (nI (if rstR fik sl = 0 then 0 else ac9)), .ref kp, .ref ik, .ref lv])), (nw, .inl (cI, 151, .inl (rowA fkp j))), (kp, .inl (cI, 302, .inl fkp)), (ik, .inl (cZ, 2, .inl fik))] H := by
          rw [show (nI (if rstR fik sl = 0 then 0 else ac9) : Int32) = 0 from (congrArg nI (if_pos hR9))]
          rw [show (rstR fik sl : Int32) = 0 from hR9]
          exact hP
        have hP : va_P D vwCl [(h, .inr (7, [.int (rstR fik sl), .ref sc, .int (nI (ss)), .int (nI (ps.2)), .int (bI (ps.1 = true)), .int (rb), .int (rl), .ref nw, .ref tr, .ref lk, .ref di, .int (nI (if rstR fik sl = 0 then 0 else ac9)), .ref kp, .ref ik, .ref lv])), (nw, .inl (cI, 151, .inl (if rstR fik sl = 0 then rowA fkp sl.toNatClampNeg else f))), (kp, .inl (cI, 302, .inl fkp)), (ik, .inl (cZ, 2, .inl fik))] H := by
          rw [show (if rstR fik sl = 0 then rowA fkp sl.toNatClampNeg else f : Nat → Int32) = rowA fkp j from (if_pos hR9).trans (by rw [ej, nI_clamp (by omega)])]
          exact hP
        exact gp_reti hX hr hlocks hS hP ⟨(show nI (kys (rowA fkp j) B 16) = nI (kys (rowA fkp sl.toNatClampNeg) B 16) from by rw [ej, nI_clamp (by omega)]).trans (oR0 hR9), rfl⟩ dX7_restore_69
      · skip
        exact absurd c32_4 (by decide)
  · skip
    have c8_1 := bI_f c8_1
    refine lv_iconst (v := 1) hx hb dX7_restore_11 (by decide) ?_
    refine lv_goto (tgt := 29) hx hb dX7_restore_12 (by decide) ?_
    refine gp_backi (gp_runV hX good7 i7 (c7_refused l D h rf 1 [.ref sc, .int (nI (ss)), .int (nI (ps.2)), .int (bI (ps.1 = true)), .int (rb), .int (rl), .ref nw, .ref tr, .ref lk, .ref di, .int (nI (ac9)), .ref kp, .ref ik, .ref lv]) q7_refused rfl (m7 117 rfl) (m7 118 rfl) (m7 119 rfl) ⟨Nat.le_of_ble_eq_true rfl, Nat.le_of_ble_eq_true rfl⟩ hK [] rfl hP hD [0] (by decide) rfl (ci := 7) (q0 := 0) rfl rfl rfl hl.1 rfl (Nat.le_of_ble_eq_true rfl) dX7_restore_29 ⟨Nat.zero_le _, Nat.zero_le _⟩) hP hD hS [0] rfl (fun r u h => by rw [h.2]; simp only [List.map_cons, List.map_nil]) (fun r9 u H locs hpost hP hD hS => ?_)
    obtain ⟨hr9, rfl⟩ := hpost
    refine lv_as hr9 ?_
    have hP : va_P D vwCl [(h, .inr (7, [.int (1), .ref sc, .int (nI (ss)), .int (nI (ps.2)), .int (bI (ps.1 = true)), .int (rb), .int (rl), .ref nw, .ref tr, .ref lk, .ref di, .int (nI (ac9)), .ref kp, .ref ik, .ref lv])), (nw, .inl (cI, 151, .inl f)), (kp, .inl (cI, 302, .inl fkp)), (ik, .inl (cZ, 2, .inl fik))] H := hP
    have hD : va_D A [(h, .inr (7, [.int (1), .ref sc, .int (nI (ss)), .int (nI (ps.2)), .int (bI (ps.1 = true)), .int (rb), .int (rl), .ref nw, .ref tr, .ref lk, .ref di, .int (nI (ac9)), .ref kp, .ref ik, .ref lv])), (nw, .inl (cI, 151, .inl f)), (kp, .inl (cI, 302, .inl fkp)), (ik, .inl (cZ, 2, .inl fik))] := hD
    refine lv_as (show bI (0 < (1 : Int32)) = 1 from by decide) ?_
    refine lv_if_eq (tgt := 37) hx hb dX7_restore_32 (by decide) (fun c32_5 => ?_) (fun c32_5 => ?_)
    · skip
      exact absurd c32_5 (by decide)
    · skip
      refine lv_iconst (v := 0) hx hb dX7_restore_35 (by decide) ?_
      have hR9 : rstR fik sl = 1 := by rw [rstR, if_neg c8_1]
      have hP : va_P D vwCl [(h, .inr (7, [.int (rstR fik sl), .ref sc, .int (nI (ss)), .int (nI (ps.2)), .int (bI (ps.1 = true)), .int (rb), .int (rl), .ref nw, .ref tr, .ref lk, .ref di, .int (nI (if rstR fik sl = 0 then 0 else ac9)), .ref kp, .ref ik, .ref lv])), (nw, .inl (cI, 151, .inl f)), (kp, .inl (cI, 302, .inl fkp)), (ik, .inl (cZ, 2, .inl fik))] H := by
        rw [show (nI (if rstR fik sl = 0 then 0 else ac9) : Int32) = nI (ac9) from (congrArg nI (if_neg (by rw [hR9]; decide)))]
        rw [show (rstR fik sl : Int32) = 1 from hR9]
        exact hP
      have hP : va_P D vwCl [(h, .inr (7, [.int (rstR fik sl), .ref sc, .int (nI (ss)), .int (nI (ps.2)), .int (bI (ps.1 = true)), .int (rb), .int (rl), .ref nw, .ref tr, .ref lk, .ref di, .int (nI (if rstR fik sl = 0 then 0 else ac9)), .ref kp, .ref ik, .ref lv])), (nw, .inl (cI, 151, .inl (if rstR fik sl = 0 then rowA fkp sl.toNatClampNeg else f))), (kp, .inl (cI, 302, .inl fkp)), (ik, .inl (cZ, 2, .inl fik))] H := by
        rw [show (if rstR fik sl = 0 then rowA fkp sl.toNatClampNeg else f : Nat → Int32) = f from (if_neg (by rw [hR9]; decide))]
        exact hP
      exact gp_reti hX hr hlocks hS hP ⟨oRn hR9 (by decide), rfl⟩ dX7_restore_36
theorem dX7_append_0 : decode cX7_append 0 = .ok (.aload_n 0, 1) := by decide +kernel
theorem dX7_append_1 : decode cX7_append 1 = .ok (.iload_n 1, 1) := by decide +kernel
theorem dX7_append_2 : decode cX7_append 2 = .ok (.i2l, 1) := by decide +kernel
theorem dX7_append_3 : decode cX7_append 3 = .ok (.lconst 0, 1) := by decide +kernel
theorem dX7_append_4 : decode cX7_append 4 = .ok (.ldc2_w 145, 3) := by decide +kernel
theorem dX7_append_7 : decode cX7_append 7 = .ok (.invokestatic 147, 3) := by decide +kernel
theorem dX7_append_10 : decode cX7_append 10 = .ok (.ifCond .ne 7, 3) := by decide +kernel
theorem dX7_append_13 : decode cX7_append 13 = .ok (.iconst 1, 1) := by decide +kernel
theorem dX7_append_14 : decode cX7_append 14 = .ok (.goto 17, 3) := by decide +kernel
theorem dX7_append_17 : decode cX7_append 17 = .ok (.aload_n 0, 1) := by decide +kernel
theorem dX7_append_18 : decode cX7_append 18 = .ok (.getfield 151, 3) := by decide +kernel
theorem dX7_append_21 : decode cX7_append 21 = .ok (.bipush 90, 2) := by decide +kernel
theorem dX7_append_23 : decode cX7_append 23 = .ok (.if_icmp .ne 7, 3) := by decide +kernel
theorem dX7_append_26 : decode cX7_append 26 = .ok (.iconst 2, 1) := by decide +kernel
theorem dX7_append_27 : decode cX7_append 27 = .ok (.goto 4, 3) := by decide +kernel
theorem dX7_append_30 : decode cX7_append 30 = .ok (.iconst 0, 1) := by decide +kernel
theorem dX7_append_31 : decode cX7_append 31 = .ok (.invokevirtual 154, 3) := by decide +kernel
theorem dX7_append_34 : decode cX7_append 34 = .ok (.ifCond .eq 5, 3) := by decide +kernel
theorem dX7_append_37 : decode cX7_append 37 = .ok (.iconst 0, 1) := by decide +kernel
theorem dX7_append_38 : decode cX7_append 38 = .ok (.ireturn, 1) := by decide +kernel
theorem dX7_append_39 : decode cX7_append 39 = .ok (.aload_n 0, 1) := by decide +kernel
theorem dX7_append_40 : decode cX7_append 40 = .ok (.getfield 7, 3) := by decide +kernel
theorem dX7_append_43 : decode cX7_append 43 = .ok (.aload_n 0, 1) := by decide +kernel
theorem dX7_append_44 : decode cX7_append 44 = .ok (.getfield 151, 3) := by decide +kernel
theorem dX7_append_47 : decode cX7_append 47 = .ok (.iload_n 1, 1) := by decide +kernel
theorem dX7_append_48 : decode cX7_append 48 = .ok (.iastore, 1) := by decide +kernel
theorem dX7_append_49 : decode cX7_append 49 = .ok (.aload_n 0, 1) := by decide +kernel
theorem dX7_append_50 : decode cX7_append 50 = .ok (.dup, 1) := by decide +kernel
theorem dX7_append_51 : decode cX7_append 51 = .ok (.getfield 151, 3) := by decide +kernel
theorem dX7_append_54 : decode cX7_append 54 = .ok (.iconst 1, 1) := by decide +kernel
theorem dX7_append_55 : decode cX7_append 55 = .ok (.iadd, 1) := by decide +kernel
theorem dX7_append_56 : decode cX7_append 56 = .ok (.putfield 151, 3) := by decide +kernel
theorem dX7_append_59 : decode cX7_append 59 = .ok (.aload_n 0, 1) := by decide +kernel
theorem dX7_append_60 : decode cX7_append 60 = .ok (.getfield 151, 3) := by decide +kernel
theorem dX7_append_63 : decode cX7_append 63 = .ok (.ireturn, 1) := by decide +kernel
set_option maxHeartbeats 4000000 in
set_option maxRecDepth 100000 in
theorem c7_append (l : Launch) (D : va_G) (cI : ClassId) (h sc nw tr lk di kp ik lv : Nat) (rf rb rl : Int32) (ac9 : Nat) (t : Nat → Int32) (ss : Nat) (hss : ss ≤ 90) (ps : Bool × Nat) (hp : 0 ≤ ps.2) (c0 : Int32) : GPi l yX7_append cX7_append 2 .int W7 1 25 D [(h, .inr (7, [.int (rf), .ref sc, .int (nI (ss)), .int (nI (ps.2)), .int (bI (ps.1 = true)), .int (rb), .int (rl), .ref nw, .ref tr, .ref lk, .ref di, .int (nI (ac9)), .ref kp, .ref ik, .ref lv])), (sc, .inl (cI, 90, .inl t))] [(cI, .int)] [.ref h, .int (c0)] (fun (r9 : Int32) (u9 : va_W) => r9 = (if apR ss c0 = 0 then nI (ss + 1) else 0) ∧ u9 = [(h, .inr (7, [.int (apR ss c0), .ref sc, .int (nI (if apR ss c0 = 0 then ss + 1 else ss)), .int (nI (ps.2)), .int (bI (ps.1 = true)), .int (rb), .int (rl), .ref nw, .ref tr, .ref lk, .ref di, .int (nI (ac9)), .ref kp, .ref ik, .ref lv])), (sc, .inl (cI, 90, .inl (if apR ss c0 = 0 then upd t ss c0 else t)))]) := by
  refine gp_of RX7 (by decide) rfl (Nat.le_of_ble_eq_true rfl) ?_
  intro p e s m below meth c ls H hX hr hlocks hK hP hD hS hl
  generalize gp_A [(h, .inr (7, [.int (rf), .ref sc, .int (nI (ss)), .int (nI (ps.2)), .int (bI (ps.1 = true)), .int (rb), .int (rl), .ref nw, .ref tr, .ref lk, .ref di, .int (nI (ac9)), .ref kp, .ref ik, .ref lv])), (sc, .inl (cI, 90, .inl t))] = A at hD hS ⊢
  have hx := hX.1
  have hb := hX.2.1
  have hown := hX.2.2.2.1
  have hts := hX.2.2.2.2
  have hl : lv_has ls 2 [(0, .ref h), (1, .int (c0))] := hl
  refine lv_aload_n hx hb dX7_append_0 rfl (lv_at hl 0 rfl) ?_
  refine lv_iload_n hx hb dX7_append_1 rfl (lv_at hl 1 rfl) ?_
  refine lv_i2l (v := (c0 : Int32).toInt64) hx hb dX7_append_2 (rfl) ?_
  refine lv_lconst (v := 0) hx hb dX7_append_3 (by decide) ?_
  refine lv_asl (show (0 : Int64) = (0 : Int32).toInt64 from by decide) ?_
  refine lv_ldc2 (v := 255) hx hb hown (hts _ (m7 112 rfl)) dX7_append_4 ?_
  refine lv_asl (show (255 : Int64) = (255 : Int32).toInt64 from by decide) ?_
  refine rp_callS hX good7 i7 (c7_inI l D c0 0 255) q7_in rfl (m7 114 rfl) (m7 115 rfl) ⟨Nat.le_of_ble_eq_true rfl, Nat.le_of_ble_eq_true rfl⟩ hK [] rfl hP [] rfl hS hl.1 rfl (Nat.le_of_ble_eq_true rfl) dX7_append_7 ⟨Nat.zero_le _, Nat.zero_le _⟩ (fun H locs hP hS => ?_)
  refine lv_if_ne (tgt := 17) hx hb dX7_append_10 (by decide) (fun c10_1 => ?_) (fun c10_1 => ?_)
  · skip
    have c10_1 := bI_t c10_1
    refine lv_aload_n hx hb dX7_append_17 rfl (lv_at hl 0 rfl) ?_
    refine va_get (D := D) (ci := 7) (v := .int (nI (ss))) (C := RX7) (T := TX7) (N := 15) hx hb hts u7 hown hK hP 0 rfl rfl 2 (by decide) (hts _ (m7 113 rfl)) (fun _ h9 => h9) rfl dX7_append_18 ?_
    refine lv_bipush (v := 90) hx hb dX7_append_21 (by decide) ?_
    refine lv_icmp_ne (tgt := 30) hx hb dX7_append_23 (by decide) (fun c23_2 => ?_) (fun c23_2 => ?_)
    · skip
      have c23_2 := cn_ne (a := ss) (b := 90) (by omega) (by omega) c23_2
      refine lv_iconst (v := 0) hx hb dX7_append_30 (by decide) ?_
      refine gp_backi (gp_runV hX good7 i7 (c7_refused l D h rf 0 [.ref sc, .int (nI (ss)), .int (nI (ps.2)), .int (bI (ps.1 = true)), .int (rb), .int (rl), .ref nw, .ref tr, .ref lk, .ref di, .int (nI (ac9)), .ref kp, .ref ik, .ref lv]) q7_refused rfl (m7 117 rfl) (m7 118 rfl) (m7 119 rfl) ⟨Nat.le_of_ble_eq_true rfl, Nat.le_of_ble_eq_true rfl⟩ hK [] rfl hP hD [0] (by decide) rfl (ci := 7) (q0 := 0) rfl rfl rfl hl.1 rfl (Nat.le_of_ble_eq_true rfl) dX7_append_31 ⟨Nat.zero_le _, Nat.zero_le _⟩) hP hD hS [0] rfl (fun r u h => by rw [h.2]; simp only [List.map_cons, List.map_nil]) (fun r9 u H locs hpost hP hD hS => ?_)
      obtain ⟨hr9, rfl⟩ := hpost
      refine lv_as hr9 ?_
      have hP : va_P D vwCl [(h, .inr (7, [.int (0), .ref sc, .int (nI (ss)), .int (nI (ps.2)), .int (bI (ps.1 = true)), .int (rb), .int (rl), .ref nw, .ref tr, .ref lk, .ref di, .int (nI (ac9)), .ref kp, .ref ik, .ref lv])), (sc, .inl (cI, 90, .inl t))] H := hP
      have hD : va_D A [(h, .inr (7, [.int (0), .ref sc, .int (nI (ss)), .int (nI (ps.2)), .int (bI (ps.1 = true)), .int (rb), .int (rl), .ref nw, .ref tr, .ref lk, .ref di, .int (nI (ac9)), .ref kp, .ref ik, .ref lv])), (sc, .inl (cI, 90, .inl t))] := hD
      refine lv_as (show bI (0 < (0 : Int32)) = 0 from by decide) ?_
      refine lv_if_eq (tgt := 39) hx hb dX7_append_34 (by decide) (fun c34_3 => ?_) (fun c34_3 => ?_)
      · skip
        refine lv_aload_n hx hb dX7_append_39 rfl (lv_at hl 0 rfl) ?_
        refine va_get (D := D) (ci := 7) (v := .ref sc) (C := RX7) (T := TX7) (N := 15) hx hb hts u7 hown hK hP 0 rfl rfl 1 (by decide) (hts _ (m7 4 rfl)) (fun _ h9 => h9) rfl dX7_append_40 ?_
        refine lv_aload_n hx hb dX7_append_43 rfl (lv_at hl 0 rfl) ?_
        refine va_get (D := D) (ci := 7) (v := .int (nI (ss))) (C := RX7) (T := TX7) (N := 15) hx hb hts u7 hown hK hP 0 rfl rfl 2 (by decide) (hts _ (m7 113 rfl)) (fun _ h9 => h9) rfl dX7_append_44 ?_
        refine lv_iload_n hx hb dX7_append_47 rfl (lv_at hl 1 rfl) ?_
        refine ra_iast (i := ss) hx hb hK hP hD hS 1 0 rfl rfl (by omega) (by decide) dX7_append_48 (fun H locs hP hD hS => ?_)
        have hP : va_P D vwCl [(h, .inr (7, [.int (0), .ref sc, .int (nI (ss)), .int (nI (ps.2)), .int (bI (ps.1 = true)), .int (rb), .int (rl), .ref nw, .ref tr, .ref lk, .ref di, .int (nI (ac9)), .ref kp, .ref ik, .ref lv])), (sc, .inl (cI, 90, .inl (upd t ss c0)))] H := hP
        have hD : va_D A [(h, .inr (7, [.int (0), .ref sc, .int (nI (ss)), .int (nI (ps.2)), .int (bI (ps.1 = true)), .int (rb), .int (rl), .ref nw, .ref tr, .ref lk, .ref di, .int (nI (ac9)), .ref kp, .ref ik, .ref lv])), (sc, .inl (cI, 90, .inl (upd t ss c0)))] := hD
        refine lv_aload_n hx hb dX7_append_49 rfl (lv_at hl 0 rfl) ?_
        refine lv_dup hx hb dX7_append_50 rfl ?_
        refine va_get (D := D) (ci := 7) (v := .int (nI (ss))) (C := RX7) (T := TX7) (N := 15) hx hb hts u7 hown hK hP 0 rfl rfl 2 (by decide) (hts _ (m7 113 rfl)) (fun _ h9 => h9) rfl dX7_append_51 ?_
        refine lv_iconst (v := 1) hx hb dX7_append_54 (by decide) ?_
        refine lv_iadd hx hb dX7_append_55 ?_
        refine lv_as (y := nI (ss + 1)) (nI_add (ss) (1)) ?_
        refine va_put (D := D) (ci := 7) (v := .int (nI (ss + 1))) (ty := .int) (C := RX7) (T := TX7) (N := 15) hx hb hts u7 tyX7 tyX7_ok nmX7 hown hK hP hD hS 0 rfl rfl 2 (by decide) (hts _ (m7 113 rfl)) (fun _ h9 => h9) rfl (by decide +kernel) rfl rfl (Nat.le_of_ble_eq_true rfl) dX7_append_56 (fun H locs hP hD hS => ?_)
        have hP : va_P D vwCl [(h, .inr (7, [.int (0), .ref sc, .int (nI (ss + 1)), .int (nI (ps.2)), .int (bI (ps.1 = true)), .int (rb), .int (rl), .ref nw, .ref tr, .ref lk, .ref di, .int (nI (ac9)), .ref kp, .ref ik, .ref lv])), (sc, .inl (cI, 90, .inl (upd t ss c0)))] H := hP
        have hD : va_D A [(h, .inr (7, [.int (0), .ref sc, .int (nI (ss + 1)), .int (nI (ps.2)), .int (bI (ps.1 = true)), .int (rb), .int (rl), .ref nw, .ref tr, .ref lk, .ref di, .int (nI (ac9)), .ref kp, .ref ik, .ref lv])), (sc, .inl (cI, 90, .inl (upd t ss c0)))] := hD
        refine lv_aload_n hx hb dX7_append_59 rfl (lv_at hl 0 rfl) ?_
        refine va_get (D := D) (ci := 7) (v := .int (nI (ss + 1))) (C := RX7) (T := TX7) (N := 15) hx hb hts u7 hown hK hP 0 rfl rfl 2 (by decide) (hts _ (m7 113 rfl)) (fun _ h9 => h9) rfl dX7_append_60 ?_
        have hR9 : apR ss c0 = 0 := by rw [apR, if_pos c10_1, if_neg c23_2]
        have hP : va_P D vwCl [(h, .inr (7, [.int (apR ss c0), .ref sc, .int (nI (if apR ss c0 = 0 then ss + 1 else ss)), .int (nI (ps.2)), .int (bI (ps.1 = true)), .int (rb), .int (rl), .ref nw, .ref tr, .ref lk, .ref di, .int (nI (ac9)), .ref kp, .ref ik, .ref lv])), (sc, .inl (cI, 90, .inl (upd t ss c0)))] H := by
          rw [show (nI (if apR ss c0 = 0 then ss + 1 else ss) : Int32) = nI (ss + 1) from (congrArg nI (if_pos hR9))]
          rw [show (apR ss c0 : Int32) = 0 from hR9]
          exact hP
        have hP : va_P D vwCl [(h, .inr (7, [.int (apR ss c0), .ref sc, .int (nI (if apR ss c0 = 0 then ss + 1 else ss)), .int (nI (ps.2)), .int (bI (ps.1 = true)), .int (rb), .int (rl), .ref nw, .ref tr, .ref lk, .ref di, .int (nI (ac9)), .ref kp, .ref ik, .ref lv])), (sc, .inl (cI, 90, .inl (if apR ss c0 = 0 then upd t ss c0 else t)))] H := by
          rw [show (if apR ss c0 = 0 then upd t ss c0 else t : Nat → Int32) = upd t ss c0 from (if_pos hR9)]
          exact hP
        exact gp_reti hX hr hlocks hS hP ⟨oR0 hR9, rfl⟩ dX7_append_63
      · skip
        exact absurd c34_3 (by decide)
    · skip
      have c23_2 := cn_eq (a := ss) (b := 90) (by omega) (by omega) c23_2
      refine lv_iconst (v := 2) hx hb dX7_append_26 (by decide) ?_
      refine lv_goto (tgt := 31) hx hb dX7_append_27 (by decide) ?_
      refine gp_backi (gp_runV hX good7 i7 (c7_refused l D h rf 2 [.ref sc, .int (nI (ss)), .int (nI (ps.2)), .int (bI (ps.1 = true)), .int (rb), .int (rl), .ref nw, .ref tr, .ref lk, .ref di, .int (nI (ac9)), .ref kp, .ref ik, .ref lv]) q7_refused rfl (m7 117 rfl) (m7 118 rfl) (m7 119 rfl) ⟨Nat.le_of_ble_eq_true rfl, Nat.le_of_ble_eq_true rfl⟩ hK [] rfl hP hD [0] (by decide) rfl (ci := 7) (q0 := 0) rfl rfl rfl hl.1 rfl (Nat.le_of_ble_eq_true rfl) dX7_append_31 ⟨Nat.zero_le _, Nat.zero_le _⟩) hP hD hS [0] rfl (fun r u h => by rw [h.2]; simp only [List.map_cons, List.map_nil]) (fun r9 u H locs hpost hP hD hS => ?_)
      obtain ⟨hr9, rfl⟩ := hpost
      refine lv_as hr9 ?_
      have hP : va_P D vwCl [(h, .inr (7, [.int (2), .ref sc, .int (nI (ss)), .int (nI (ps.2)), .int (bI (ps.1 = true)), .int (rb), .int (rl), .ref nw, .ref tr, .ref lk, .ref di, .int (nI (ac9)), .ref kp, .ref ik, .ref lv])), (sc, .inl (cI, 90, .inl t))] H := hP
      have hD : va_D A [(h, .inr (7, [.int (2), .ref sc, .int (nI (ss)), .int (nI (ps.2)), .int (bI (ps.1 = true)), .int (rb), .int (rl), .ref nw, .ref tr, .ref lk, .ref di, .int (nI (ac9)), .ref kp, .ref ik, .ref lv])), (sc, .inl (cI, 90, .inl t))] := hD
      refine lv_as (show bI (0 < (2 : Int32)) = 1 from by decide) ?_
      refine lv_if_eq (tgt := 39) hx hb dX7_append_34 (by decide) (fun c34_4 => ?_) (fun c34_4 => ?_)
      · skip
        exact absurd c34_4 (by decide)
      · skip
        refine lv_iconst (v := 0) hx hb dX7_append_37 (by decide) ?_
        have hR9 : apR ss c0 = 2 := by rw [apR, if_pos c10_1, if_pos c23_2]
        have hP : va_P D vwCl [(h, .inr (7, [.int (apR ss c0), .ref sc, .int (nI (if apR ss c0 = 0 then ss + 1 else ss)), .int (nI (ps.2)), .int (bI (ps.1 = true)), .int (rb), .int (rl), .ref nw, .ref tr, .ref lk, .ref di, .int (nI (ac9)), .ref kp, .ref ik, .ref lv])), (sc, .inl (cI, 90, .inl t))] H := by
          rw [show (nI (if apR ss c0 = 0 then ss + 1 else ss) : Int32) = nI (ss) from (congrArg nI (if_neg (by rw [hR9]; decide)))]
          rw [show (apR ss c0 : Int32) = 2 from hR9]
          exact hP
        have hP : va_P D vwCl [(h, .inr (7, [.int (apR ss c0), .ref sc, .int (nI (if apR ss c0 = 0 then ss + 1 else ss)), .int (nI (ps.2)), .int (bI (ps.1 = true)), .int (rb), .int (rl), .ref nw, .ref tr, .ref lk, .ref di, .int (nI (ac9)), .ref kp, .ref ik, .ref lv])), (sc, .inl (cI, 90, .inl (if apR ss c0 = 0 then upd t ss c0 else t)))] H := by
          rw [show (if apR ss c0 = 0 then upd t ss c0 else t : Nat → Int32) = t from (if_neg (by rw [hR9]; decide))]
          exact hP
        exact gp_reti hX hr hlocks hS hP ⟨oRn hR9 (by decide), rfl⟩ dX7_append_38
  · skip
    have c10_1 := bI_f c10_1
    refine lv_iconst (v := 1) hx hb dX7_append_13 (by decide) ?_
    refine lv_goto (tgt := 31) hx hb dX7_append_14 (by decide) ?_
    refine gp_backi (gp_runV hX good7 i7 (c7_refused l D h rf 1 [.ref sc, .int (nI (ss)), .int (nI (ps.2)), .int (bI (ps.1 = true)), .int (rb), .int (rl), .ref nw, .ref tr, .ref lk, .ref di, .int (nI (ac9)), .ref kp, .ref ik, .ref lv]) q7_refused rfl (m7 117 rfl) (m7 118 rfl) (m7 119 rfl) ⟨Nat.le_of_ble_eq_true rfl, Nat.le_of_ble_eq_true rfl⟩ hK [] rfl hP hD [0] (by decide) rfl (ci := 7) (q0 := 0) rfl rfl rfl hl.1 rfl (Nat.le_of_ble_eq_true rfl) dX7_append_31 ⟨Nat.zero_le _, Nat.zero_le _⟩) hP hD hS [0] rfl (fun r u h => by rw [h.2]; simp only [List.map_cons, List.map_nil]) (fun r9 u H locs hpost hP hD hS => ?_)
    obtain ⟨hr9, rfl⟩ := hpost
    refine lv_as hr9 ?_
    have hP : va_P D vwCl [(h, .inr (7, [.int (1), .ref sc, .int (nI (ss)), .int (nI (ps.2)), .int (bI (ps.1 = true)), .int (rb), .int (rl), .ref nw, .ref tr, .ref lk, .ref di, .int (nI (ac9)), .ref kp, .ref ik, .ref lv])), (sc, .inl (cI, 90, .inl t))] H := hP
    have hD : va_D A [(h, .inr (7, [.int (1), .ref sc, .int (nI (ss)), .int (nI (ps.2)), .int (bI (ps.1 = true)), .int (rb), .int (rl), .ref nw, .ref tr, .ref lk, .ref di, .int (nI (ac9)), .ref kp, .ref ik, .ref lv])), (sc, .inl (cI, 90, .inl t))] := hD
    refine lv_as (show bI (0 < (1 : Int32)) = 1 from by decide) ?_
    refine lv_if_eq (tgt := 39) hx hb dX7_append_34 (by decide) (fun c34_5 => ?_) (fun c34_5 => ?_)
    · skip
      exact absurd c34_5 (by decide)
    · skip
      refine lv_iconst (v := 0) hx hb dX7_append_37 (by decide) ?_
      have hR9 : apR ss c0 = 1 := by rw [apR, if_neg c10_1]
      have hP : va_P D vwCl [(h, .inr (7, [.int (apR ss c0), .ref sc, .int (nI (if apR ss c0 = 0 then ss + 1 else ss)), .int (nI (ps.2)), .int (bI (ps.1 = true)), .int (rb), .int (rl), .ref nw, .ref tr, .ref lk, .ref di, .int (nI (ac9)), .ref kp, .ref ik, .ref lv])), (sc, .inl (cI, 90, .inl t))] H := by
        rw [show (nI (if apR ss c0 = 0 then ss + 1 else ss) : Int32) = nI (ss) from (congrArg nI (if_neg (by rw [hR9]; decide)))]
        rw [show (apR ss c0 : Int32) = 1 from hR9]
        exact hP
      have hP : va_P D vwCl [(h, .inr (7, [.int (apR ss c0), .ref sc, .int (nI (if apR ss c0 = 0 then ss + 1 else ss)), .int (nI (ps.2)), .int (bI (ps.1 = true)), .int (rb), .int (rl), .ref nw, .ref tr, .ref lk, .ref di, .int (nI (ac9)), .ref kp, .ref ik, .ref lv])), (sc, .inl (cI, 90, .inl (if apR ss c0 = 0 then upd t ss c0 else t)))] H := by
        rw [show (if apR ss c0 = 0 then upd t ss c0 else t : Nat → Int32) = t from (if_neg (by rw [hR9]; decide))]
        exact hP
      exact gp_reti hX hr hlocks hS hP ⟨oRn hR9 (by decide), rfl⟩ dX7_append_38
theorem dX7_clearText_0 : decode cX7_clearText 0 = .ok (.aload_n 0, 1) := by decide +kernel
theorem dX7_clearText_1 : decode cX7_clearText 1 = .ok (.iconst 0, 1) := by decide +kernel
theorem dX7_clearText_2 : decode cX7_clearText 2 = .ok (.putfield 39, 3) := by decide +kernel
theorem dX7_clearText_5 : decode cX7_clearText 5 = .ok (.aload_n 0, 1) := by decide +kernel
theorem dX7_clearText_6 : decode cX7_clearText 6 = .ok (.getfield 151, 3) := by decide +kernel
theorem dX7_clearText_9 : decode cX7_clearText 9 = .ok (.istore_n 1, 1) := by decide +kernel
theorem dX7_clearText_10 : decode cX7_clearText 10 = .ok (.aload_n 0, 1) := by decide +kernel
theorem dX7_clearText_11 : decode cX7_clearText 11 = .ok (.iconst 0, 1) := by decide +kernel
theorem dX7_clearText_12 : decode cX7_clearText 12 = .ok (.putfield 151, 3) := by decide +kernel
theorem dX7_clearText_15 : decode cX7_clearText 15 = .ok (.iload_n 1, 1) := by decide +kernel
theorem dX7_clearText_16 : decode cX7_clearText 16 = .ok (.ireturn, 1) := by decide +kernel
set_option maxHeartbeats 4000000 in
set_option maxRecDepth 100000 in
theorem c7_clearText (l : Launch) (D : va_G) (cI : ClassId) (h sc nw tr lk di kp ik lv : Nat) (rf rb rl : Int32) (ac9 : Nat) (t : Nat → Int32) (ss : Nat) (hss : ss ≤ 90) (ps : Bool × Nat) (hp : 0 ≤ ps.2)  : GPi l yX7_clearText cX7_clearText 2 .int W7 0 0 D [(h, .inr (7, [.int (rf), .ref sc, .int (nI (ss)), .int (nI (ps.2)), .int (bI (ps.1 = true)), .int (rb), .int (rl), .ref nw, .ref tr, .ref lk, .ref di, .int (nI (ac9)), .ref kp, .ref ik, .ref lv]))] [] [.ref h] (fun (r9 : Int32) (u9 : va_W) => r9 = (nI (ss)) ∧ u9 = [(h, .inr (7, [.int (0), .ref sc, .int (0), .int (nI (ps.2)), .int (bI (ps.1 = true)), .int (rb), .int (rl), .ref nw, .ref tr, .ref lk, .ref di, .int (nI (ac9)), .ref kp, .ref ik, .ref lv]))]) := by
  refine gp_of RX7 (by decide) rfl (Nat.le_of_ble_eq_true rfl) ?_
  intro p e s m below meth c ls H hX hr hlocks hK hP hD hS hl
  generalize gp_A [(h, .inr (7, [.int (rf), .ref sc, .int (nI (ss)), .int (nI (ps.2)), .int (bI (ps.1 = true)), .int (rb), .int (rl), .ref nw, .ref tr, .ref lk, .ref di, .int (nI (ac9)), .ref kp, .ref ik, .ref lv]))] = A at hD hS ⊢
  have hx := hX.1
  have hb := hX.2.1
  have hown := hX.2.2.2.1
  have hts := hX.2.2.2.2
  have hl : lv_has ls 2 [(0, .ref h)] := hl
  refine lv_aload_n hx hb dX7_clearText_0 rfl (lv_at hl 0 rfl) ?_
  refine lv_iconst (v := 0) hx hb dX7_clearText_1 (by decide) ?_
  refine va_put (D := D) (ci := 7) (v := .int (0)) (ty := .int) (C := RX7) (T := TX7) (N := 15) hx hb hts u7 tyX7 tyX7_ok nmX7 hown hK hP hD hS 0 rfl rfl 0 (by decide) (hts _ (m7 17 rfl)) (fun _ h9 => h9) rfl (by decide +kernel) rfl rfl (Nat.le_of_ble_eq_true rfl) dX7_clearText_2 (fun H locs hP hD hS => ?_)
  have hP : va_P D vwCl [(h, .inr (7, [.int (0), .ref sc, .int (nI (ss)), .int (nI (ps.2)), .int (bI (ps.1 = true)), .int (rb), .int (rl), .ref nw, .ref tr, .ref lk, .ref di, .int (nI (ac9)), .ref kp, .ref ik, .ref lv]))] H := hP
  have hD : va_D A [(h, .inr (7, [.int (0), .ref sc, .int (nI (ss)), .int (nI (ps.2)), .int (bI (ps.1 = true)), .int (rb), .int (rl), .ref nw, .ref tr, .ref lk, .ref di, .int (nI (ac9)), .ref kp, .ref ik, .ref lv]))] := hD
  refine lv_aload_n hx hb dX7_clearText_5 rfl (lv_at hl 0 rfl) ?_
  refine va_get (D := D) (ci := 7) (v := .int (nI (ss))) (C := RX7) (T := TX7) (N := 15) hx hb hts u7 hown hK hP 0 rfl rfl 2 (by decide) (hts _ (m7 113 rfl)) (fun _ h9 => h9) rfl dX7_clearText_6 ?_
  refine lv_istore_n (lv' := [(1, .int (nI (ss))), (0, .ref h)]) hx hb dX7_clearText_9 rfl hl (by decide) rfl (fun ls hl => ?_)
  refine lv_aload_n hx hb dX7_clearText_10 rfl (lv_at hl 1 rfl) ?_
  refine lv_iconst (v := 0) hx hb dX7_clearText_11 (by decide) ?_
  refine va_put (D := D) (ci := 7) (v := .int (0)) (ty := .int) (C := RX7) (T := TX7) (N := 15) hx hb hts u7 tyX7 tyX7_ok nmX7 hown hK hP hD hS 0 rfl rfl 2 (by decide) (hts _ (m7 113 rfl)) (fun _ h9 => h9) rfl (by decide +kernel) rfl rfl (Nat.le_of_ble_eq_true rfl) dX7_clearText_12 (fun H locs hP hD hS => ?_)
  have hP : va_P D vwCl [(h, .inr (7, [.int (0), .ref sc, .int (0), .int (nI (ps.2)), .int (bI (ps.1 = true)), .int (rb), .int (rl), .ref nw, .ref tr, .ref lk, .ref di, .int (nI (ac9)), .ref kp, .ref ik, .ref lv]))] H := hP
  have hD : va_D A [(h, .inr (7, [.int (0), .ref sc, .int (0), .int (nI (ps.2)), .int (bI (ps.1 = true)), .int (rb), .int (rl), .ref nw, .ref tr, .ref lk, .ref di, .int (nI (ac9)), .ref kp, .ref ik, .ref lv]))] := hD
  refine lv_iload_n hx hb dX7_clearText_15 rfl (lv_at hl 0 rfl) ?_
  exact gp_reti hX hr hlocks hS hP ⟨rfl, rfl⟩ dX7_clearText_16
theorem dX7_about_0 : decode cX7_about 0 = .ok (.aload_n 0, 1) := by decide +kernel
theorem dX7_about_1 : decode cX7_about 1 = .ok (.iload_n 1, 1) := by decide +kernel
theorem dX7_about_2 : decode cX7_about 2 = .ok (.i2l, 1) := by decide +kernel
theorem dX7_about_3 : decode cX7_about 3 = .ok (.lconst 0, 1) := by decide +kernel
theorem dX7_about_4 : decode cX7_about 4 = .ok (.ldc2_w 210, 3) := by decide +kernel
theorem dX7_about_7 : decode cX7_about 7 = .ok (.invokestatic 147, 3) := by decide +kernel
theorem dX7_about_10 : decode cX7_about 10 = .ok (.ifCond .eq 7, 3) := by decide +kernel
theorem dX7_about_13 : decode cX7_about 13 = .ok (.iconst 0, 1) := by decide +kernel
theorem dX7_about_14 : decode cX7_about 14 = .ok (.goto 4, 3) := by decide +kernel
theorem dX7_about_17 : decode cX7_about 17 = .ok (.iconst 1, 1) := by decide +kernel
theorem dX7_about_18 : decode cX7_about 18 = .ok (.invokevirtual 154, 3) := by decide +kernel
theorem dX7_about_21 : decode cX7_about 21 = .ok (.ifCond .eq 5, 3) := by decide +kernel
theorem dX7_about_24 : decode cX7_about 24 = .ok (.iconst 0, 1) := by decide +kernel
theorem dX7_about_25 : decode cX7_about 25 = .ok (.ireturn, 1) := by decide +kernel
theorem dX7_about_26 : decode cX7_about 26 = .ok (.iload_n 1, 1) := by decide +kernel
theorem dX7_about_27 : decode cX7_about 27 = .ok (.tableswitch 105 4 13 #[53, 61, 69, 69, 69, 69, 69, 82, 89, 97], 53) := by decide +kernel
theorem dX7_about_80 : decode cX7_about 80 = .ok (.aload_n 0, 1) := by decide +kernel
theorem dX7_about_81 : decode cX7_about 81 = .ok (.getfield 13, 3) := by decide +kernel
theorem dX7_about_84 : decode cX7_about 84 = .ok (.invokestatic 89, 3) := by decide +kernel
theorem dX7_about_87 : decode cX7_about 87 = .ok (.ireturn, 1) := by decide +kernel
theorem dX7_about_88 : decode cX7_about 88 = .ok (.aload_n 0, 1) := by decide +kernel
theorem dX7_about_89 : decode cX7_about 89 = .ok (.getfield 13, 3) := by decide +kernel
theorem dX7_about_92 : decode cX7_about 92 = .ok (.invokestatic 212, 3) := by decide +kernel
theorem dX7_about_95 : decode cX7_about 95 = .ok (.ireturn, 1) := by decide +kernel
theorem dX7_about_96 : decode cX7_about 96 = .ok (.aload_n 0, 1) := by decide +kernel
theorem dX7_about_97 : decode cX7_about 97 = .ok (.getfield 13, 3) := by decide +kernel
theorem dX7_about_100 : decode cX7_about 100 = .ok (.bipush 7, 2) := by decide +kernel
theorem dX7_about_102 : decode cX7_about 102 = .ok (.iload_n 1, 1) := by decide +kernel
theorem dX7_about_103 : decode cX7_about 103 = .ok (.iadd, 1) := by decide +kernel
theorem dX7_about_104 : decode cX7_about 104 = .ok (.bipush 6, 2) := by decide +kernel
theorem dX7_about_106 : decode cX7_about 106 = .ok (.isub, 1) := by decide +kernel
theorem dX7_about_107 : decode cX7_about 107 = .ok (.iaload, 1) := by decide +kernel
theorem dX7_about_108 : decode cX7_about 108 = .ok (.ireturn, 1) := by decide +kernel
theorem dX7_about_109 : decode cX7_about 109 = .ok (.aload_n 0, 1) := by decide +kernel
theorem dX7_about_110 : decode cX7_about 110 = .ok (.getfield 13, 3) := by decide +kernel
theorem dX7_about_113 : decode cX7_about 113 = .ok (.iconst 5, 1) := by decide +kernel
theorem dX7_about_114 : decode cX7_about 114 = .ok (.iaload, 1) := by decide +kernel
theorem dX7_about_115 : decode cX7_about 115 = .ok (.ireturn, 1) := by decide +kernel
theorem dX7_about_116 : decode cX7_about 116 = .ok (.aload_n 0, 1) := by decide +kernel
theorem dX7_about_117 : decode cX7_about 117 = .ok (.getfield 13, 3) := by decide +kernel
theorem dX7_about_120 : decode cX7_about 120 = .ok (.bipush 6, 2) := by decide +kernel
theorem dX7_about_122 : decode cX7_about 122 = .ok (.iaload, 1) := by decide +kernel
theorem dX7_about_123 : decode cX7_about 123 = .ok (.ireturn, 1) := by decide +kernel
theorem dX7_about_124 : decode cX7_about 124 = .ok (.aload_n 0, 1) := by decide +kernel
theorem dX7_about_125 : decode cX7_about 125 = .ok (.getfield 13, 3) := by decide +kernel
theorem dX7_about_128 : decode cX7_about 128 = .ok (.invokestatic 215, 3) := by decide +kernel
theorem dX7_about_131 : decode cX7_about 131 = .ok (.ireturn, 1) := by decide +kernel
theorem dX7_about_132 : decode cX7_about 132 = .ok (.aload_n 0, 1) := by decide +kernel
theorem dX7_about_133 : decode cX7_about 133 = .ok (.getfield 13, 3) := by decide +kernel
theorem dX7_about_136 : decode cX7_about 136 = .ok (.iload_n 1, 1) := by decide +kernel
theorem dX7_about_137 : decode cX7_about 137 = .ok (.iaload, 1) := by decide +kernel
theorem dX7_about_138 : decode cX7_about 138 = .ok (.ireturn, 1) := by decide +kernel
set_option maxHeartbeats 4000000 in
set_option maxRecDepth 100000 in
theorem c7_about (l : Launch) (D : va_G) (cI cZ : ClassId) (h sc nw tr lk di kp ik lv : Nat) (rf rb rl : Int32) (ac9 : Nat) (ss : Nat) (ps : Bool × Nat) (f : Nat → Int32) (B : Nat) (hW : Wf f B) (w : Int32) : GPi l yX7_about cX7_about 2 .int W7 5 110 D [(h, .inr (7, [.int (rf), .ref sc, .int (nI (ss)), .int (nI (ps.2)), .int (bI (ps.1 = true)), .int (rb), .int (rl), .ref nw, .ref tr, .ref lk, .ref di, .int (nI (ac9)), .ref kp, .ref ik, .ref lv])), (nw, .inl (cI, 151, .inl f))] [(cI, .int)] [.ref h, .int (w)] (fun (r9 : Int32) (u9 : va_W) => r9 = (if rg2R w 13 = 0 then abV f B w.toNatClampNeg else 0) ∧ u9 = [(h, .inr (7, [.int (rg2R w 13), .ref sc, .int (nI (ss)), .int (nI (ps.2)), .int (bI (ps.1 = true)), .int (rb), .int (rl), .ref nw, .ref tr, .ref lk, .ref di, .int (nI (ac9)), .ref kp, .ref ik, .ref lv])), (nw, .inl (cI, 151, .inl f))]) := by
  refine gp_of RX7 (by decide) rfl (Nat.le_of_ble_eq_true rfl) ?_
  intro p e s m below meth c ls H hX hr hlocks hK hP hD hS hl
  generalize gp_A [(h, .inr (7, [.int (rf), .ref sc, .int (nI (ss)), .int (nI (ps.2)), .int (bI (ps.1 = true)), .int (rb), .int (rl), .ref nw, .ref tr, .ref lk, .ref di, .int (nI (ac9)), .ref kp, .ref ik, .ref lv])), (nw, .inl (cI, 151, .inl f))] = A at hD hS ⊢
  have hx := hX.1
  have hb := hX.2.1
  have hown := hX.2.2.2.1
  have hts := hX.2.2.2.2
  have hl : lv_has ls 2 [(0, .ref h), (1, .int (w))] := hl
  have hB8 := hW.2.1
  refine lv_aload_n hx hb dX7_about_0 rfl (lv_at hl 0 rfl) ?_
  refine lv_iload_n hx hb dX7_about_1 rfl (lv_at hl 1 rfl) ?_
  refine lv_i2l (v := (w : Int32).toInt64) hx hb dX7_about_2 (rfl) ?_
  refine lv_lconst (v := 0) hx hb dX7_about_3 (by decide) ?_
  refine lv_asl (show (0 : Int64) = (0 : Int32).toInt64 from by decide) ?_
  refine lv_ldc2 (v := 13) hx hb hown (hts _ (m7 168 rfl)) dX7_about_4 ?_
  refine lv_asl (show (13 : Int64) = (13 : Int32).toInt64 from by decide) ?_
  refine rp_callS hX good7 i7 (c7_inI l D w 0 13) q7_in rfl (m7 114 rfl) (m7 115 rfl) ⟨Nat.le_of_ble_eq_true rfl, Nat.le_of_ble_eq_true rfl⟩ hK [] rfl hP [] rfl hS hl.1 rfl (Nat.le_of_ble_eq_true rfl) dX7_about_7 ⟨Nat.zero_le _, Nat.zero_le _⟩ (fun H locs hP hS => ?_)
  refine lv_if_eq (tgt := 17) hx hb dX7_about_10 (by decide) (fun c10_1 => ?_) (fun c10_1 => ?_)
  · skip
    have c10_1 := bI_f c10_1
    refine lv_iconst (v := 1) hx hb dX7_about_17 (by decide) ?_
    refine gp_backi (gp_runV hX good7 i7 (c7_refused l D h rf 1 [.ref sc, .int (nI (ss)), .int (nI (ps.2)), .int (bI (ps.1 = true)), .int (rb), .int (rl), .ref nw, .ref tr, .ref lk, .ref di, .int (nI (ac9)), .ref kp, .ref ik, .ref lv]) q7_refused rfl (m7 117 rfl) (m7 118 rfl) (m7 119 rfl) ⟨Nat.le_of_ble_eq_true rfl, Nat.le_of_ble_eq_true rfl⟩ hK [] rfl hP hD [0] (by decide) rfl (ci := 7) (q0 := 0) rfl rfl rfl hl.1 rfl (Nat.le_of_ble_eq_true rfl) dX7_about_18 ⟨Nat.zero_le _, Nat.zero_le _⟩) hP hD hS [0] rfl (fun r u h => by rw [h.2]; simp only [List.map_cons, List.map_nil]) (fun r9 u H locs hpost hP hD hS => ?_)
    obtain ⟨hr9, rfl⟩ := hpost
    refine lv_as hr9 ?_
    have hP : va_P D vwCl [(h, .inr (7, [.int (1), .ref sc, .int (nI (ss)), .int (nI (ps.2)), .int (bI (ps.1 = true)), .int (rb), .int (rl), .ref nw, .ref tr, .ref lk, .ref di, .int (nI (ac9)), .ref kp, .ref ik, .ref lv])), (nw, .inl (cI, 151, .inl f))] H := hP
    have hD : va_D A [(h, .inr (7, [.int (1), .ref sc, .int (nI (ss)), .int (nI (ps.2)), .int (bI (ps.1 = true)), .int (rb), .int (rl), .ref nw, .ref tr, .ref lk, .ref di, .int (nI (ac9)), .ref kp, .ref ik, .ref lv])), (nw, .inl (cI, 151, .inl f))] := hD
    refine lv_as (show bI (0 < (1 : Int32)) = 1 from by decide) ?_
    refine lv_if_eq (tgt := 26) hx hb dX7_about_21 (by decide) (fun c21_2 => ?_) (fun c21_2 => ?_)
    · skip
      exact absurd c21_2 (by decide)
    · skip
      refine lv_iconst (v := 0) hx hb dX7_about_24 (by decide) ?_
      have hR9 : rg2R w 13 = 1 := by rw [rg2R, if_neg c10_1]
      have hP : va_P D vwCl [(h, .inr (7, [.int (rg2R w 13), .ref sc, .int (nI (ss)), .int (nI (ps.2)), .int (bI (ps.1 = true)), .int (rb), .int (rl), .ref nw, .ref tr, .ref lk, .ref di, .int (nI (ac9)), .ref kp, .ref ik, .ref lv])), (nw, .inl (cI, 151, .inl f))] H := by
        rw [show (rg2R w 13 : Int32) = 1 from hR9]
        exact hP
      exact gp_reti hX hr hlocks hS hP ⟨oRn hR9 (by decide), rfl⟩ dX7_about_25
  · skip
    have c10_1 := bI_t c10_1
    refine lv_iconst (v := 0) hx hb dX7_about_13 (by decide) ?_
    refine lv_goto (tgt := 18) hx hb dX7_about_14 (by decide) ?_
    refine gp_backi (gp_runV hX good7 i7 (c7_refused l D h rf 0 [.ref sc, .int (nI (ss)), .int (nI (ps.2)), .int (bI (ps.1 = true)), .int (rb), .int (rl), .ref nw, .ref tr, .ref lk, .ref di, .int (nI (ac9)), .ref kp, .ref ik, .ref lv]) q7_refused rfl (m7 117 rfl) (m7 118 rfl) (m7 119 rfl) ⟨Nat.le_of_ble_eq_true rfl, Nat.le_of_ble_eq_true rfl⟩ hK [] rfl hP hD [0] (by decide) rfl (ci := 7) (q0 := 0) rfl rfl rfl hl.1 rfl (Nat.le_of_ble_eq_true rfl) dX7_about_18 ⟨Nat.zero_le _, Nat.zero_le _⟩) hP hD hS [0] rfl (fun r u h => by rw [h.2]; simp only [List.map_cons, List.map_nil]) (fun r9 u H locs hpost hP hD hS => ?_)
    obtain ⟨hr9, rfl⟩ := hpost
    refine lv_as hr9 ?_
    have hP : va_P D vwCl [(h, .inr (7, [.int (0), .ref sc, .int (nI (ss)), .int (nI (ps.2)), .int (bI (ps.1 = true)), .int (rb), .int (rl), .ref nw, .ref tr, .ref lk, .ref di, .int (nI (ac9)), .ref kp, .ref ik, .ref lv])), (nw, .inl (cI, 151, .inl f))] H := hP
    have hD : va_D A [(h, .inr (7, [.int (0), .ref sc, .int (nI (ss)), .int (nI (ps.2)), .int (bI (ps.1 = true)), .int (rb), .int (rl), .ref nw, .ref tr, .ref lk, .ref di, .int (nI (ac9)), .ref kp, .ref ik, .ref lv])), (nw, .inl (cI, 151, .inl f))] := hD
    refine lv_as (show bI (0 < (0 : Int32)) = 0 from by decide) ?_
    refine lv_if_eq (tgt := 26) hx hb dX7_about_21 (by decide) (fun c21_3 => ?_) (fun c21_3 => ?_)
    · skip
      obtain ⟨j, hj, ej⟩ := rng (n := 13) (by omega) c10_1
      rcases (show j = 0 ∨ j = 1 ∨ j = 2 ∨ j = 3 ∨ j = 4 ∨ j = 5 ∨ j = 6 ∨ j = 7 ∨ j = 8 ∨ j = 9 ∨ j = 10 ∨ j = 11 ∨ j = 12 ∨ j = 13 by omega) with rfl | rfl | rfl | rfl | rfl | rfl | rfl | rfl | rfl | rfl | rfl | rfl | rfl | rfl
      · skip
        have hl : lv_has ls 2 [(0, .ref h), (1, .int (0))] := lv_re hl 1 rfl (show w = 0 from ej)
        refine lv_iload_n hx hb dX7_about_26 rfl (lv_at hl 1 rfl) ?_
        refine lv_tableOut (tgt := 132) hx hb dX7_about_27 (by decide) (by decide) ?_
        refine lv_aload_n hx hb dX7_about_132 rfl (lv_at hl 0 rfl) ?_
        refine va_get (D := D) (ci := 7) (v := .ref nw) (C := RX7) (T := TX7) (N := 15) hx hb hts u7 hown hK hP 0 rfl rfl 7 (by decide) (hts _ (m7 5 rfl)) (fun _ h9 => h9) rfl dX7_about_133 ?_
        refine lv_iload_n hx hb dX7_about_136 rfl (lv_at hl 1 rfl) ?_
        refine ra_iald (i := 0) hx hb hK hP 1 0 rfl rfl (by omega) (by decide) dX7_about_137 ?_
        refine lv_as (show f (0) = nI (B) from hW.1) ?_
        have hR9 : rg2R w 13 = 0 := by rw [rg2R, if_pos c10_1]
        have hP : va_P D vwCl [(h, .inr (7, [.int (rg2R w 13), .ref sc, .int (nI (ss)), .int (nI (ps.2)), .int (bI (ps.1 = true)), .int (rb), .int (rl), .ref nw, .ref tr, .ref lk, .ref di, .int (nI (ac9)), .ref kp, .ref ik, .ref lv])), (nw, .inl (cI, 151, .inl f))] H := by
          rw [show (rg2R w 13 : Int32) = 0 from hR9]
          exact hP
        exact gp_reti hX hr hlocks hS hP ⟨(show nI (B) = abV f B w.toNatClampNeg from by rw [ej, show (nI 0).toNatClampNeg = 0 from nI_clamp (by decide)]; exact hW.1.symm).trans (oR0 hR9), rfl⟩ dX7_about_138
      · skip
        have hl : lv_has ls 2 [(0, .ref h), (1, .int (1))] := lv_re hl 1 rfl (show w = 1 from ej)
        refine lv_iload_n hx hb dX7_about_26 rfl (lv_at hl 1 rfl) ?_
        refine lv_tableOut (tgt := 132) hx hb dX7_about_27 (by decide) (by decide) ?_
        refine lv_aload_n hx hb dX7_about_132 rfl (lv_at hl 0 rfl) ?_
        refine va_get (D := D) (ci := 7) (v := .ref nw) (C := RX7) (T := TX7) (N := 15) hx hb hts u7 hown hK hP 0 rfl rfl 7 (by decide) (hts _ (m7 5 rfl)) (fun _ h9 => h9) rfl dX7_about_133 ?_
        refine lv_iload_n hx hb dX7_about_136 rfl (lv_at hl 1 rfl) ?_
        refine ra_iald (i := 1) hx hb hK hP 1 0 rfl rfl (by omega) (by decide) dX7_about_137 ?_
        have hR9 : rg2R w 13 = 0 := by rw [rg2R, if_pos c10_1]
        have hP : va_P D vwCl [(h, .inr (7, [.int (rg2R w 13), .ref sc, .int (nI (ss)), .int (nI (ps.2)), .int (bI (ps.1 = true)), .int (rb), .int (rl), .ref nw, .ref tr, .ref lk, .ref di, .int (nI (ac9)), .ref kp, .ref ik, .ref lv])), (nw, .inl (cI, 151, .inl f))] H := by
          rw [show (rg2R w 13 : Int32) = 0 from hR9]
          exact hP
        exact gp_reti hX hr hlocks hS hP ⟨(show f (1) = abV f B w.toNatClampNeg from by rw [ej, show (nI 1).toNatClampNeg = 1 from nI_clamp (by decide)]; rfl).trans (oR0 hR9), rfl⟩ dX7_about_138
      · skip
        have hl : lv_has ls 2 [(0, .ref h), (1, .int (2))] := lv_re hl 1 rfl (show w = 2 from ej)
        refine lv_iload_n hx hb dX7_about_26 rfl (lv_at hl 1 rfl) ?_
        refine lv_tableOut (tgt := 132) hx hb dX7_about_27 (by decide) (by decide) ?_
        refine lv_aload_n hx hb dX7_about_132 rfl (lv_at hl 0 rfl) ?_
        refine va_get (D := D) (ci := 7) (v := .ref nw) (C := RX7) (T := TX7) (N := 15) hx hb hts u7 hown hK hP 0 rfl rfl 7 (by decide) (hts _ (m7 5 rfl)) (fun _ h9 => h9) rfl dX7_about_133 ?_
        refine lv_iload_n hx hb dX7_about_136 rfl (lv_at hl 1 rfl) ?_
        refine ra_iald (i := 2) hx hb hK hP 1 0 rfl rfl (by omega) (by decide) dX7_about_137 ?_
        have hR9 : rg2R w 13 = 0 := by rw [rg2R, if_pos c10_1]
        have hP : va_P D vwCl [(h, .inr (7, [.int (rg2R w 13), .ref sc, .int (nI (ss)), .int (nI (ps.2)), .int (bI (ps.1 = true)), .int (rb), .int (rl), .ref nw, .ref tr, .ref lk, .ref di, .int (nI (ac9)), .ref kp, .ref ik, .ref lv])), (nw, .inl (cI, 151, .inl f))] H := by
          rw [show (rg2R w 13 : Int32) = 0 from hR9]
          exact hP
        exact gp_reti hX hr hlocks hS hP ⟨(show f (2) = abV f B w.toNatClampNeg from by rw [ej, show (nI 2).toNatClampNeg = 2 from nI_clamp (by decide)]; rfl).trans (oR0 hR9), rfl⟩ dX7_about_138
      · skip
        have hl : lv_has ls 2 [(0, .ref h), (1, .int (3))] := lv_re hl 1 rfl (show w = 3 from ej)
        refine lv_iload_n hx hb dX7_about_26 rfl (lv_at hl 1 rfl) ?_
        refine lv_tableOut (tgt := 132) hx hb dX7_about_27 (by decide) (by decide) ?_
        refine lv_aload_n hx hb dX7_about_132 rfl (lv_at hl 0 rfl) ?_
        refine va_get (D := D) (ci := 7) (v := .ref nw) (C := RX7) (T := TX7) (N := 15) hx hb hts u7 hown hK hP 0 rfl rfl 7 (by decide) (hts _ (m7 5 rfl)) (fun _ h9 => h9) rfl dX7_about_133 ?_
        refine lv_iload_n hx hb dX7_about_136 rfl (lv_at hl 1 rfl) ?_
        refine ra_iald (i := 3) hx hb hK hP 1 0 rfl rfl (by omega) (by decide) dX7_about_137 ?_
        have hR9 : rg2R w 13 = 0 := by rw [rg2R, if_pos c10_1]
        have hP : va_P D vwCl [(h, .inr (7, [.int (rg2R w 13), .ref sc, .int (nI (ss)), .int (nI (ps.2)), .int (bI (ps.1 = true)), .int (rb), .int (rl), .ref nw, .ref tr, .ref lk, .ref di, .int (nI (ac9)), .ref kp, .ref ik, .ref lv])), (nw, .inl (cI, 151, .inl f))] H := by
          rw [show (rg2R w 13 : Int32) = 0 from hR9]
          exact hP
        exact gp_reti hX hr hlocks hS hP ⟨(show f (3) = abV f B w.toNatClampNeg from by rw [ej, show (nI 3).toNatClampNeg = 3 from nI_clamp (by decide)]; rfl).trans (oR0 hR9), rfl⟩ dX7_about_138
      · skip
        have hl : lv_has ls 2 [(0, .ref h), (1, .int (4))] := lv_re hl 1 rfl (show w = 4 from ej)
        refine lv_iload_n hx hb dX7_about_26 rfl (lv_at hl 1 rfl) ?_
        refine lv_tableIn (off := 53) (tgt := 80) hx hb dX7_about_27 (by decide) (by decide) (by decide) (by decide) ?_
        refine lv_aload_n hx hb dX7_about_80 rfl (lv_at hl 0 rfl) ?_
        refine va_get (D := D) (ci := 7) (v := .ref nw) (C := RX7) (T := TX7) (N := 15) hx hb hts u7 hown hK hP 0 rfl rfl 7 (by decide) (hts _ (m7 5 rfl)) (fun _ h9 => h9) rfl dX7_about_81 ?_
        refine rp_callS hX good7 i7 (c7_cleanBlocks l D cI nw f B hW.1 hW.2.1) q7_cleanBlocks rfl (m7 56 rfl) (m7 57 rfl) ⟨Nat.le_of_ble_eq_true rfl, Nat.le_of_ble_eq_true rfl⟩ hK [0] rfl hP [1] rfl hS hl.1 rfl (Nat.le_of_ble_eq_true rfl) dX7_about_84 ⟨Nat.zero_le _, Nat.zero_le _⟩ (fun H locs hP hS => ?_)
        have hR9 : rg2R w 13 = 0 := by rw [rg2R, if_pos c10_1]
        have hP : va_P D vwCl [(h, .inr (7, [.int (rg2R w 13), .ref sc, .int (nI (ss)), .int (nI (ps.2)), .int (bI (ps.1 = true)), .int (rb), .int (rl), .ref nw, .ref tr, .ref lk, .ref di, .int (nI (ac9)), .ref kp, .ref ik, .ref lv])), (nw, .inl (cI, 151, .inl f))] H := by
          rw [show (rg2R w 13 : Int32) = 0 from hR9]
          exact hP
        exact gp_reti hX hr hlocks hS hP ⟨(show nI (cln f B) = abV f B w.toNatClampNeg from by rw [ej, show (nI 4).toNatClampNeg = 4 from nI_clamp (by decide)]; rfl).trans (oR0 hR9), rfl⟩ dX7_about_87
      · skip
        have hl : lv_has ls 2 [(0, .ref h), (1, .int (5))] := lv_re hl 1 rfl (show w = 5 from ej)
        refine lv_iload_n hx hb dX7_about_26 rfl (lv_at hl 1 rfl) ?_
        refine lv_tableIn (off := 61) (tgt := 88) hx hb dX7_about_27 (by decide) (by decide) (by decide) (by decide) ?_
        refine lv_aload_n hx hb dX7_about_88 rfl (lv_at hl 0 rfl) ?_
        refine va_get (D := D) (ci := 7) (v := .ref nw) (C := RX7) (T := TX7) (N := 15) hx hb hts u7 hown hK hP 0 rfl rfl 7 (by decide) (hts _ (m7 5 rfl)) (fun _ h9 => h9) rfl dX7_about_89 ?_
        refine rp_callS hX good7 i7 (c7_keysOf l D cI nw f B hW.1 hW.2.1) q7_keysOf rfl (m7 169 rfl) (m7 170 rfl) ⟨Nat.le_of_ble_eq_true rfl, Nat.le_of_ble_eq_true rfl⟩ hK [0] rfl hP [1] rfl hS hl.1 rfl (Nat.le_of_ble_eq_true rfl) dX7_about_92 ⟨Nat.zero_le _, Nat.zero_le _⟩ (fun H locs hP hS => ?_)
        have hR9 : rg2R w 13 = 0 := by rw [rg2R, if_pos c10_1]
        have hP : va_P D vwCl [(h, .inr (7, [.int (rg2R w 13), .ref sc, .int (nI (ss)), .int (nI (ps.2)), .int (bI (ps.1 = true)), .int (rb), .int (rl), .ref nw, .ref tr, .ref lk, .ref di, .int (nI (ac9)), .ref kp, .ref ik, .ref lv])), (nw, .inl (cI, 151, .inl f))] H := by
          rw [show (rg2R w 13 : Int32) = 0 from hR9]
          exact hP
        exact gp_reti hX hr hlocks hS hP ⟨(show nI (kys f B 16) = abV f B w.toNatClampNeg from by rw [ej, show (nI 5).toNatClampNeg = 5 from nI_clamp (by decide)]; rfl).trans (oR0 hR9), rfl⟩ dX7_about_95
      · skip
        have hl : lv_has ls 2 [(0, .ref h), (1, .int (6))] := lv_re hl 1 rfl (show w = 6 from ej)
        refine lv_iload_n hx hb dX7_about_26 rfl (lv_at hl 1 rfl) ?_
        refine lv_tableIn (off := 69) (tgt := 96) hx hb dX7_about_27 (by decide) (by decide) (by decide) (by decide) ?_
        refine lv_aload_n hx hb dX7_about_96 rfl (lv_at hl 0 rfl) ?_
        refine va_get (D := D) (ci := 7) (v := .ref nw) (C := RX7) (T := TX7) (N := 15) hx hb hts u7 hown hK hP 0 rfl rfl 7 (by decide) (hts _ (m7 5 rfl)) (fun _ h9 => h9) rfl dX7_about_97 ?_
        refine lv_bipush (v := 7) hx hb dX7_about_100 (by decide) ?_
        refine lv_iload_n hx hb dX7_about_102 rfl (lv_at hl 1 rfl) ?_
        refine lv_iadd hx hb dX7_about_103 ?_
        refine lv_as (y := 13) (by decide) ?_
        refine lv_bipush (v := 6) hx hb dX7_about_104 (by decide) ?_
        refine lv_isub hx hb dX7_about_106 ?_
        refine lv_as (y := 7) (by decide) ?_
        refine ra_iald (i := 7) hx hb hK hP 1 0 rfl rfl (by omega) (by decide) dX7_about_107 ?_
        have hR9 : rg2R w 13 = 0 := by rw [rg2R, if_pos c10_1]
        have hP : va_P D vwCl [(h, .inr (7, [.int (rg2R w 13), .ref sc, .int (nI (ss)), .int (nI (ps.2)), .int (bI (ps.1 = true)), .int (rb), .int (rl), .ref nw, .ref tr, .ref lk, .ref di, .int (nI (ac9)), .ref kp, .ref ik, .ref lv])), (nw, .inl (cI, 151, .inl f))] H := by
          rw [show (rg2R w 13 : Int32) = 0 from hR9]
          exact hP
        exact gp_reti hX hr hlocks hS hP ⟨(show f (7) = abV f B w.toNatClampNeg from by rw [ej, show (nI 6).toNatClampNeg = 6 from nI_clamp (by decide)]; rfl).trans (oR0 hR9), rfl⟩ dX7_about_108
      · skip
        have hl : lv_has ls 2 [(0, .ref h), (1, .int (7))] := lv_re hl 1 rfl (show w = 7 from ej)
        refine lv_iload_n hx hb dX7_about_26 rfl (lv_at hl 1 rfl) ?_
        refine lv_tableIn (off := 69) (tgt := 96) hx hb dX7_about_27 (by decide) (by decide) (by decide) (by decide) ?_
        refine lv_aload_n hx hb dX7_about_96 rfl (lv_at hl 0 rfl) ?_
        refine va_get (D := D) (ci := 7) (v := .ref nw) (C := RX7) (T := TX7) (N := 15) hx hb hts u7 hown hK hP 0 rfl rfl 7 (by decide) (hts _ (m7 5 rfl)) (fun _ h9 => h9) rfl dX7_about_97 ?_
        refine lv_bipush (v := 7) hx hb dX7_about_100 (by decide) ?_
        refine lv_iload_n hx hb dX7_about_102 rfl (lv_at hl 1 rfl) ?_
        refine lv_iadd hx hb dX7_about_103 ?_
        refine lv_as (y := 14) (by decide) ?_
        refine lv_bipush (v := 6) hx hb dX7_about_104 (by decide) ?_
        refine lv_isub hx hb dX7_about_106 ?_
        refine lv_as (y := 8) (by decide) ?_
        refine ra_iald (i := 8) hx hb hK hP 1 0 rfl rfl (by omega) (by decide) dX7_about_107 ?_
        have hR9 : rg2R w 13 = 0 := by rw [rg2R, if_pos c10_1]
        have hP : va_P D vwCl [(h, .inr (7, [.int (rg2R w 13), .ref sc, .int (nI (ss)), .int (nI (ps.2)), .int (bI (ps.1 = true)), .int (rb), .int (rl), .ref nw, .ref tr, .ref lk, .ref di, .int (nI (ac9)), .ref kp, .ref ik, .ref lv])), (nw, .inl (cI, 151, .inl f))] H := by
          rw [show (rg2R w 13 : Int32) = 0 from hR9]
          exact hP
        exact gp_reti hX hr hlocks hS hP ⟨(show f (8) = abV f B w.toNatClampNeg from by rw [ej, show (nI 7).toNatClampNeg = 7 from nI_clamp (by decide)]; rfl).trans (oR0 hR9), rfl⟩ dX7_about_108
      · skip
        have hl : lv_has ls 2 [(0, .ref h), (1, .int (8))] := lv_re hl 1 rfl (show w = 8 from ej)
        refine lv_iload_n hx hb dX7_about_26 rfl (lv_at hl 1 rfl) ?_
        refine lv_tableIn (off := 69) (tgt := 96) hx hb dX7_about_27 (by decide) (by decide) (by decide) (by decide) ?_
        refine lv_aload_n hx hb dX7_about_96 rfl (lv_at hl 0 rfl) ?_
        refine va_get (D := D) (ci := 7) (v := .ref nw) (C := RX7) (T := TX7) (N := 15) hx hb hts u7 hown hK hP 0 rfl rfl 7 (by decide) (hts _ (m7 5 rfl)) (fun _ h9 => h9) rfl dX7_about_97 ?_
        refine lv_bipush (v := 7) hx hb dX7_about_100 (by decide) ?_
        refine lv_iload_n hx hb dX7_about_102 rfl (lv_at hl 1 rfl) ?_
        refine lv_iadd hx hb dX7_about_103 ?_
        refine lv_as (y := 15) (by decide) ?_
        refine lv_bipush (v := 6) hx hb dX7_about_104 (by decide) ?_
        refine lv_isub hx hb dX7_about_106 ?_
        refine lv_as (y := 9) (by decide) ?_
        refine ra_iald (i := 9) hx hb hK hP 1 0 rfl rfl (by omega) (by decide) dX7_about_107 ?_
        have hR9 : rg2R w 13 = 0 := by rw [rg2R, if_pos c10_1]
        have hP : va_P D vwCl [(h, .inr (7, [.int (rg2R w 13), .ref sc, .int (nI (ss)), .int (nI (ps.2)), .int (bI (ps.1 = true)), .int (rb), .int (rl), .ref nw, .ref tr, .ref lk, .ref di, .int (nI (ac9)), .ref kp, .ref ik, .ref lv])), (nw, .inl (cI, 151, .inl f))] H := by
          rw [show (rg2R w 13 : Int32) = 0 from hR9]
          exact hP
        exact gp_reti hX hr hlocks hS hP ⟨(show f (9) = abV f B w.toNatClampNeg from by rw [ej, show (nI 8).toNatClampNeg = 8 from nI_clamp (by decide)]; rfl).trans (oR0 hR9), rfl⟩ dX7_about_108
      · skip
        have hl : lv_has ls 2 [(0, .ref h), (1, .int (9))] := lv_re hl 1 rfl (show w = 9 from ej)
        refine lv_iload_n hx hb dX7_about_26 rfl (lv_at hl 1 rfl) ?_
        refine lv_tableIn (off := 69) (tgt := 96) hx hb dX7_about_27 (by decide) (by decide) (by decide) (by decide) ?_
        refine lv_aload_n hx hb dX7_about_96 rfl (lv_at hl 0 rfl) ?_
        refine va_get (D := D) (ci := 7) (v := .ref nw) (C := RX7) (T := TX7) (N := 15) hx hb hts u7 hown hK hP 0 rfl rfl 7 (by decide) (hts _ (m7 5 rfl)) (fun _ h9 => h9) rfl dX7_about_97 ?_
        refine lv_bipush (v := 7) hx hb dX7_about_100 (by decide) ?_
        refine lv_iload_n hx hb dX7_about_102 rfl (lv_at hl 1 rfl) ?_
        refine lv_iadd hx hb dX7_about_103 ?_
        refine lv_as (y := 16) (by decide) ?_
        refine lv_bipush (v := 6) hx hb dX7_about_104 (by decide) ?_
        refine lv_isub hx hb dX7_about_106 ?_
        refine lv_as (y := 10) (by decide) ?_
        refine ra_iald (i := 10) hx hb hK hP 1 0 rfl rfl (by omega) (by decide) dX7_about_107 ?_
        have hR9 : rg2R w 13 = 0 := by rw [rg2R, if_pos c10_1]
        have hP : va_P D vwCl [(h, .inr (7, [.int (rg2R w 13), .ref sc, .int (nI (ss)), .int (nI (ps.2)), .int (bI (ps.1 = true)), .int (rb), .int (rl), .ref nw, .ref tr, .ref lk, .ref di, .int (nI (ac9)), .ref kp, .ref ik, .ref lv])), (nw, .inl (cI, 151, .inl f))] H := by
          rw [show (rg2R w 13 : Int32) = 0 from hR9]
          exact hP
        exact gp_reti hX hr hlocks hS hP ⟨(show f (10) = abV f B w.toNatClampNeg from by rw [ej, show (nI 9).toNatClampNeg = 9 from nI_clamp (by decide)]; rfl).trans (oR0 hR9), rfl⟩ dX7_about_108
      · skip
        have hl : lv_has ls 2 [(0, .ref h), (1, .int (10))] := lv_re hl 1 rfl (show w = 10 from ej)
        refine lv_iload_n hx hb dX7_about_26 rfl (lv_at hl 1 rfl) ?_
        refine lv_tableIn (off := 69) (tgt := 96) hx hb dX7_about_27 (by decide) (by decide) (by decide) (by decide) ?_
        refine lv_aload_n hx hb dX7_about_96 rfl (lv_at hl 0 rfl) ?_
        refine va_get (D := D) (ci := 7) (v := .ref nw) (C := RX7) (T := TX7) (N := 15) hx hb hts u7 hown hK hP 0 rfl rfl 7 (by decide) (hts _ (m7 5 rfl)) (fun _ h9 => h9) rfl dX7_about_97 ?_
        refine lv_bipush (v := 7) hx hb dX7_about_100 (by decide) ?_
        refine lv_iload_n hx hb dX7_about_102 rfl (lv_at hl 1 rfl) ?_
        refine lv_iadd hx hb dX7_about_103 ?_
        refine lv_as (y := 17) (by decide) ?_
        refine lv_bipush (v := 6) hx hb dX7_about_104 (by decide) ?_
        refine lv_isub hx hb dX7_about_106 ?_
        refine lv_as (y := 11) (by decide) ?_
        refine ra_iald (i := 11) hx hb hK hP 1 0 rfl rfl (by omega) (by decide) dX7_about_107 ?_
        have hR9 : rg2R w 13 = 0 := by rw [rg2R, if_pos c10_1]
        have hP : va_P D vwCl [(h, .inr (7, [.int (rg2R w 13), .ref sc, .int (nI (ss)), .int (nI (ps.2)), .int (bI (ps.1 = true)), .int (rb), .int (rl), .ref nw, .ref tr, .ref lk, .ref di, .int (nI (ac9)), .ref kp, .ref ik, .ref lv])), (nw, .inl (cI, 151, .inl f))] H := by
          rw [show (rg2R w 13 : Int32) = 0 from hR9]
          exact hP
        exact gp_reti hX hr hlocks hS hP ⟨(show f (11) = abV f B w.toNatClampNeg from by rw [ej, show (nI 10).toNatClampNeg = 10 from nI_clamp (by decide)]; rfl).trans (oR0 hR9), rfl⟩ dX7_about_108
      · skip
        have hl : lv_has ls 2 [(0, .ref h), (1, .int (11))] := lv_re hl 1 rfl (show w = 11 from ej)
        refine lv_iload_n hx hb dX7_about_26 rfl (lv_at hl 1 rfl) ?_
        refine lv_tableIn (off := 82) (tgt := 109) hx hb dX7_about_27 (by decide) (by decide) (by decide) (by decide) ?_
        refine lv_aload_n hx hb dX7_about_109 rfl (lv_at hl 0 rfl) ?_
        refine va_get (D := D) (ci := 7) (v := .ref nw) (C := RX7) (T := TX7) (N := 15) hx hb hts u7 hown hK hP 0 rfl rfl 7 (by decide) (hts _ (m7 5 rfl)) (fun _ h9 => h9) rfl dX7_about_110 ?_
        refine lv_iconst (v := 5) hx hb dX7_about_113 (by decide) ?_
        refine ra_iald (i := 5) hx hb hK hP 1 0 rfl rfl (by omega) (by decide) dX7_about_114 ?_
        have hR9 : rg2R w 13 = 0 := by rw [rg2R, if_pos c10_1]
        have hP : va_P D vwCl [(h, .inr (7, [.int (rg2R w 13), .ref sc, .int (nI (ss)), .int (nI (ps.2)), .int (bI (ps.1 = true)), .int (rb), .int (rl), .ref nw, .ref tr, .ref lk, .ref di, .int (nI (ac9)), .ref kp, .ref ik, .ref lv])), (nw, .inl (cI, 151, .inl f))] H := by
          rw [show (rg2R w 13 : Int32) = 0 from hR9]
          exact hP
        exact gp_reti hX hr hlocks hS hP ⟨(show f (5) = abV f B w.toNatClampNeg from by rw [ej, show (nI 11).toNatClampNeg = 11 from nI_clamp (by decide)]; rfl).trans (oR0 hR9), rfl⟩ dX7_about_115
      · skip
        have hl : lv_has ls 2 [(0, .ref h), (1, .int (12))] := lv_re hl 1 rfl (show w = 12 from ej)
        refine lv_iload_n hx hb dX7_about_26 rfl (lv_at hl 1 rfl) ?_
        refine lv_tableIn (off := 89) (tgt := 116) hx hb dX7_about_27 (by decide) (by decide) (by decide) (by decide) ?_
        refine lv_aload_n hx hb dX7_about_116 rfl (lv_at hl 0 rfl) ?_
        refine va_get (D := D) (ci := 7) (v := .ref nw) (C := RX7) (T := TX7) (N := 15) hx hb hts u7 hown hK hP 0 rfl rfl 7 (by decide) (hts _ (m7 5 rfl)) (fun _ h9 => h9) rfl dX7_about_117 ?_
        refine lv_bipush (v := 6) hx hb dX7_about_120 (by decide) ?_
        refine ra_iald (i := 6) hx hb hK hP 1 0 rfl rfl (by omega) (by decide) dX7_about_122 ?_
        have hR9 : rg2R w 13 = 0 := by rw [rg2R, if_pos c10_1]
        have hP : va_P D vwCl [(h, .inr (7, [.int (rg2R w 13), .ref sc, .int (nI (ss)), .int (nI (ps.2)), .int (bI (ps.1 = true)), .int (rb), .int (rl), .ref nw, .ref tr, .ref lk, .ref di, .int (nI (ac9)), .ref kp, .ref ik, .ref lv])), (nw, .inl (cI, 151, .inl f))] H := by
          rw [show (rg2R w 13 : Int32) = 0 from hR9]
          exact hP
        exact gp_reti hX hr hlocks hS hP ⟨(show f (6) = abV f B w.toNatClampNeg from by rw [ej, show (nI 12).toNatClampNeg = 12 from nI_clamp (by decide)]; rfl).trans (oR0 hR9), rfl⟩ dX7_about_123
      · skip
        have hl : lv_has ls 2 [(0, .ref h), (1, .int (13))] := lv_re hl 1 rfl (show w = 13 from ej)
        refine lv_iload_n hx hb dX7_about_26 rfl (lv_at hl 1 rfl) ?_
        refine lv_tableIn (off := 97) (tgt := 124) hx hb dX7_about_27 (by decide) (by decide) (by decide) (by decide) ?_
        refine lv_aload_n hx hb dX7_about_124 rfl (lv_at hl 0 rfl) ?_
        refine va_get (D := D) (ci := 7) (v := .ref nw) (C := RX7) (T := TX7) (N := 15) hx hb hts u7 hown hK hP 0 rfl rfl 7 (by decide) (hts _ (m7 5 rfl)) (fun _ h9 => h9) rfl dX7_about_125 ?_
        refine rp_callS hX good7 i7 (c7_wearApart l D cI nw f B hW.1 hW.2.1) q7_wearApart rfl (m7 172 rfl) (m7 173 rfl) ⟨Nat.le_of_ble_eq_true rfl, Nat.le_of_ble_eq_true rfl⟩ hK [0] rfl hP [1] rfl hS hl.1 rfl (Nat.le_of_ble_eq_true rfl) dX7_about_128 ⟨Nat.zero_le _, Nat.zero_le _⟩ (fun H locs hP hS => ?_)
        have hR9 : rg2R w 13 = 0 := by rw [rg2R, if_pos c10_1]
        have hP : va_P D vwCl [(h, .inr (7, [.int (rg2R w 13), .ref sc, .int (nI (ss)), .int (nI (ps.2)), .int (bI (ps.1 = true)), .int (rb), .int (rl), .ref nw, .ref tr, .ref lk, .ref di, .int (nI (ac9)), .ref kp, .ref ik, .ref lv])), (nw, .inl (cI, 151, .inl f))] H := by
          rw [show (rg2R w 13 : Int32) = 0 from hR9]
          exact hP
        exact gp_reti hX hr hlocks hS hP ⟨(show mxw f (B - 1) - mnw f (B - 1) = abV f B w.toNatClampNeg from by rw [ej, show (nI 13).toNatClampNeg = 13 from nI_clamp (by decide)]; rfl).trans (oR0 hR9), rfl⟩ dX7_about_131
    · skip
      exact absurd c21_3 (by decide)
theorem dX7_page_0 : decode cX7_page 0 = .ok (.aload_n 0, 1) := by decide +kernel
theorem dX7_page_1 : decode cX7_page 1 = .ok (.aload_n 0, 1) := by decide +kernel
theorem dX7_page_2 : decode cX7_page 2 = .ok (.iload_n 1, 1) := by decide +kernel
theorem dX7_page_3 : decode cX7_page 3 = .ok (.invokevirtual 218, 3) := by decide +kernel
theorem dX7_page_6 : decode cX7_page 6 = .ok (.ifCond .ne 7, 3) := by decide +kernel
theorem dX7_page_9 : decode cX7_page 9 = .ok (.iconst 1, 1) := by decide +kernel
theorem dX7_page_10 : decode cX7_page 10 = .ok (.goto 20, 3) := by decide +kernel
theorem dX7_page_13 : decode cX7_page 13 = .ok (.iload_n 2, 1) := by decide +kernel
theorem dX7_page_14 : decode cX7_page 14 = .ok (.i2l, 1) := by decide +kernel
theorem dX7_page_15 : decode cX7_page 15 = .ok (.lconst 0, 1) := by decide +kernel
theorem dX7_page_16 : decode cX7_page 16 = .ok (.ldc2_w 221, 3) := by decide +kernel
theorem dX7_page_19 : decode cX7_page 19 = .ok (.invokestatic 147, 3) := by decide +kernel
theorem dX7_page_22 : decode cX7_page 22 = .ok (.ifCond .eq 7, 3) := by decide +kernel
theorem dX7_page_25 : decode cX7_page 25 = .ok (.iconst 0, 1) := by decide +kernel
theorem dX7_page_26 : decode cX7_page 26 = .ok (.goto 4, 3) := by decide +kernel
theorem dX7_page_29 : decode cX7_page 29 = .ok (.iconst 2, 1) := by decide +kernel
theorem dX7_page_30 : decode cX7_page 30 = .ok (.invokevirtual 154, 3) := by decide +kernel
theorem dX7_page_33 : decode cX7_page 33 = .ok (.ifCond .eq 5, 3) := by decide +kernel
theorem dX7_page_36 : decode cX7_page 36 = .ok (.iconst 0, 1) := by decide +kernel
theorem dX7_page_37 : decode cX7_page 37 = .ok (.ireturn, 1) := by decide +kernel
theorem dX7_page_38 : decode cX7_page 38 = .ok (.iload_n 2, 1) := by decide +kernel
theorem dX7_page_39 : decode cX7_page 39 = .ok (.ifCond .ne 13, 3) := by decide +kernel
theorem dX7_page_42 : decode cX7_page 42 = .ok (.aload_n 0, 1) := by decide +kernel
theorem dX7_page_43 : decode cX7_page 43 = .ok (.getfield 13, 3) := by decide +kernel
theorem dX7_page_46 : decode cX7_page 46 = .ok (.iload_n 1, 1) := by decide +kernel
theorem dX7_page_47 : decode cX7_page 47 = .ok (.iconst 0, 1) := by decide +kernel
theorem dX7_page_48 : decode cX7_page 48 = .ok (.invokestatic 52, 3) := by decide +kernel
theorem dX7_page_51 : decode cX7_page 51 = .ok (.ireturn, 1) := by decide +kernel
theorem dX7_page_52 : decode cX7_page 52 = .ok (.aload_n 0, 1) := by decide +kernel
theorem dX7_page_53 : decode cX7_page 53 = .ok (.getfield 13, 3) := by decide +kernel
theorem dX7_page_56 : decode cX7_page 56 = .ok (.iload_n 1, 1) := by decide +kernel
theorem dX7_page_57 : decode cX7_page 57 = .ok (.invokestatic 60, 3) := by decide +kernel
theorem dX7_page_60 : decode cX7_page 60 = .ok (.ifCond .ne 8, 3) := by decide +kernel
theorem dX7_page_63 : decode cX7_page 63 = .ok (.bipush (-9), 2) := by decide +kernel
theorem dX7_page_65 : decode cX7_page 65 = .ok (.goto 36, 3) := by decide +kernel
theorem dX7_page_68 : decode cX7_page 68 = .ok (.iload_n 2, 1) := by decide +kernel
theorem dX7_page_69 : decode cX7_page 69 = .ok (.iconst 4, 1) := by decide +kernel
theorem dX7_page_70 : decode cX7_page 70 = .ok (.if_icmp .ge 15, 3) := by decide +kernel
theorem dX7_page_73 : decode cX7_page 73 = .ok (.aload_n 0, 1) := by decide +kernel
theorem dX7_page_74 : decode cX7_page 74 = .ok (.getfield 13, 3) := by decide +kernel
theorem dX7_page_77 : decode cX7_page 77 = .ok (.iload_n 1, 1) := by decide +kernel
theorem dX7_page_78 : decode cX7_page 78 = .ok (.iload_n 2, 1) := by decide +kernel
theorem dX7_page_79 : decode cX7_page 79 = .ok (.invokestatic 52, 3) := by decide +kernel
theorem dX7_page_82 : decode cX7_page 82 = .ok (.goto 19, 3) := by decide +kernel
theorem dX7_page_85 : decode cX7_page 85 = .ok (.aload_n 0, 1) := by decide +kernel
theorem dX7_page_86 : decode cX7_page 86 = .ok (.getfield 13, 3) := by decide +kernel
theorem dX7_page_89 : decode cX7_page 89 = .ok (.iload_n 1, 1) := by decide +kernel
theorem dX7_page_90 : decode cX7_page 90 = .ok (.invokestatic 71, 3) := by decide +kernel
theorem dX7_page_93 : decode cX7_page 93 = .ok (.ifCond .eq 7, 3) := by decide +kernel
theorem dX7_page_96 : decode cX7_page 96 = .ok (.iconst 1, 1) := by decide +kernel
theorem dX7_page_97 : decode cX7_page 97 = .ok (.goto 4, 3) := by decide +kernel
theorem dX7_page_100 : decode cX7_page 100 = .ok (.iconst 0, 1) := by decide +kernel
theorem dX7_page_101 : decode cX7_page 101 = .ok (.ireturn, 1) := by decide +kernel
set_option maxHeartbeats 4000000 in
set_option maxRecDepth 100000 in
theorem c7_page (l : Launch) (D : va_G) (cI cZ : ClassId) (h sc nw tr lk di kp ik lv : Nat) (rf rb rl : Int32) (ac9 : Nat) (ss : Nat) (ps : Bool × Nat) (f : Nat → Int32) (B : Nat) (hW : Wf f B) (hB1 : 1 ≤ B) (a w : Int32) : GPi l yX7_page cX7_page 3 .int W7 4 90 D [(h, .inr (7, [.int (rf), .ref sc, .int (nI (ss)), .int (nI (ps.2)), .int (bI (ps.1 = true)), .int (rb), .int (rl), .ref nw, .ref tr, .ref lk, .ref di, .int (nI (ac9)), .ref kp, .ref ik, .ref lv])), (nw, .inl (cI, 151, .inl f))] [(cI, .int)] [.ref h, .int (a), .int (w)] (fun (r9 : Int32) (u9 : va_W) => r9 = (if pgR B a w = 0 then pgV f B a.toNatClampNeg w.toNatClampNeg else 0) ∧ u9 = [(h, .inr (7, [.int (pgR B a w), .ref sc, .int (nI (ss)), .int (nI (ps.2)), .int (bI (ps.1 = true)), .int (rb), .int (rl), .ref nw, .ref tr, .ref lk, .ref di, .int (nI (ac9)), .ref kp, .ref ik, .ref lv])), (nw, .inl (cI, 151, .inl f))]) := by
  refine gp_of RX7 (by decide) rfl (Nat.le_of_ble_eq_true rfl) ?_
  intro p e s m below meth c ls H hX hr hlocks hK hP hD hS hl
  generalize gp_A [(h, .inr (7, [.int (rf), .ref sc, .int (nI (ss)), .int (nI (ps.2)), .int (bI (ps.1 = true)), .int (rb), .int (rl), .ref nw, .ref tr, .ref lk, .ref di, .int (nI (ac9)), .ref kp, .ref ik, .ref lv])), (nw, .inl (cI, 151, .inl f))] = A at hD hS ⊢
  have hx := hX.1
  have hb := hX.2.1
  have hown := hX.2.2.2.1
  have hts := hX.2.2.2.2
  have hl : lv_has ls 3 [(0, .ref h), (1, .int (a)), (2, .int (w))] := hl
  have hB8 := hW.2.1
  refine lv_aload_n hx hb dX7_page_0 rfl (lv_at hl 0 rfl) ?_
  refine lv_aload_n hx hb dX7_page_1 rfl (lv_at hl 0 rfl) ?_
  refine lv_iload_n hx hb dX7_page_2 rfl (lv_at hl 1 rfl) ?_
  refine rp_callV hX good7 i7 (c7_isPage l D cI h nw [.int (rf), .ref sc, .int (nI (ss)), .int (nI (ps.2)), .int (bI (ps.1 = true)), .int (rb), .int (rl), .ref nw, .ref tr, .ref lk, .ref di, .int (nI (ac9)), .ref kp, .ref ik, .ref lv] f B hW hB1 rfl a) q7_isPage rfl (m7 176 rfl) (m7 177 rfl) (m7 178 rfl) ⟨Nat.le_of_ble_eq_true rfl, Nat.le_of_ble_eq_true rfl⟩ hK [0] rfl hP [0, 1] rfl (ci := 7) (q0 := 0) rfl rfl rfl hS hl.1 rfl (Nat.le_of_ble_eq_true rfl) dX7_page_3 ⟨Nat.zero_le _, Nat.zero_le _⟩ (fun H locs hP hS => ?_)
  refine lv_if_ne (tgt := 13) hx hb dX7_page_6 (by decide) (fun c6_1 => ?_) (fun c6_1 => ?_)
  · skip
    have c6_1 := bI_t c6_1
    refine lv_iload_n hx hb dX7_page_13 rfl (lv_at hl 2 rfl) ?_
    refine lv_i2l (v := (w : Int32).toInt64) hx hb dX7_page_14 (rfl) ?_
    refine lv_lconst (v := 0) hx hb dX7_page_15 (by decide) ?_
    refine lv_asl (show (0 : Int64) = (0 : Int32).toInt64 from by decide) ?_
    refine lv_ldc2 (v := 4) hx hb hown (hts _ (m7 175 rfl)) dX7_page_16 ?_
    refine lv_asl (show (4 : Int64) = (4 : Int32).toInt64 from by decide) ?_
    refine rp_callS hX good7 i7 (c7_inI l D w 0 4) q7_in rfl (m7 114 rfl) (m7 115 rfl) ⟨Nat.le_of_ble_eq_true rfl, Nat.le_of_ble_eq_true rfl⟩ hK [] rfl hP [] rfl hS hl.1 rfl (Nat.le_of_ble_eq_true rfl) dX7_page_19 ⟨Nat.zero_le _, Nat.zero_le _⟩ (fun H locs hP hS => ?_)
    refine lv_if_eq (tgt := 29) hx hb dX7_page_22 (by decide) (fun c22_2 => ?_) (fun c22_2 => ?_)
    · skip
      have c22_2 := bI_f c22_2
      refine lv_iconst (v := 2) hx hb dX7_page_29 (by decide) ?_
      refine gp_backi (gp_runV hX good7 i7 (c7_refused l D h rf 2 [.ref sc, .int (nI (ss)), .int (nI (ps.2)), .int (bI (ps.1 = true)), .int (rb), .int (rl), .ref nw, .ref tr, .ref lk, .ref di, .int (nI (ac9)), .ref kp, .ref ik, .ref lv]) q7_refused rfl (m7 117 rfl) (m7 118 rfl) (m7 119 rfl) ⟨Nat.le_of_ble_eq_true rfl, Nat.le_of_ble_eq_true rfl⟩ hK [] rfl hP hD [0] (by decide) rfl (ci := 7) (q0 := 0) rfl rfl rfl hl.1 rfl (Nat.le_of_ble_eq_true rfl) dX7_page_30 ⟨Nat.zero_le _, Nat.zero_le _⟩) hP hD hS [0] rfl (fun r u h => by rw [h.2]; simp only [List.map_cons, List.map_nil]) (fun r9 u H locs hpost hP hD hS => ?_)
      obtain ⟨hr9, rfl⟩ := hpost
      refine lv_as hr9 ?_
      have hP : va_P D vwCl [(h, .inr (7, [.int (2), .ref sc, .int (nI (ss)), .int (nI (ps.2)), .int (bI (ps.1 = true)), .int (rb), .int (rl), .ref nw, .ref tr, .ref lk, .ref di, .int (nI (ac9)), .ref kp, .ref ik, .ref lv])), (nw, .inl (cI, 151, .inl f))] H := hP
      have hD : va_D A [(h, .inr (7, [.int (2), .ref sc, .int (nI (ss)), .int (nI (ps.2)), .int (bI (ps.1 = true)), .int (rb), .int (rl), .ref nw, .ref tr, .ref lk, .ref di, .int (nI (ac9)), .ref kp, .ref ik, .ref lv])), (nw, .inl (cI, 151, .inl f))] := hD
      refine lv_as (show bI (0 < (2 : Int32)) = 1 from by decide) ?_
      refine lv_if_eq (tgt := 38) hx hb dX7_page_33 (by decide) (fun c33_3 => ?_) (fun c33_3 => ?_)
      · skip
        exact absurd c33_3 (by decide)
      · skip
        refine lv_iconst (v := 0) hx hb dX7_page_36 (by decide) ?_
        have hR9 : pgR B a w = 2 := by rw [pgR, if_pos c6_1, if_neg c22_2]
        have hP : va_P D vwCl [(h, .inr (7, [.int (pgR B a w), .ref sc, .int (nI (ss)), .int (nI (ps.2)), .int (bI (ps.1 = true)), .int (rb), .int (rl), .ref nw, .ref tr, .ref lk, .ref di, .int (nI (ac9)), .ref kp, .ref ik, .ref lv])), (nw, .inl (cI, 151, .inl f))] H := by
          rw [show (pgR B a w : Int32) = 2 from hR9]
          exact hP
        exact gp_reti hX hr hlocks hS hP ⟨oRn hR9 (by decide), rfl⟩ dX7_page_37
    · skip
      have c22_2 := bI_t c22_2
      refine lv_iconst (v := 0) hx hb dX7_page_25 (by decide) ?_
      refine lv_goto (tgt := 30) hx hb dX7_page_26 (by decide) ?_
      refine gp_backi (gp_runV hX good7 i7 (c7_refused l D h rf 0 [.ref sc, .int (nI (ss)), .int (nI (ps.2)), .int (bI (ps.1 = true)), .int (rb), .int (rl), .ref nw, .ref tr, .ref lk, .ref di, .int (nI (ac9)), .ref kp, .ref ik, .ref lv]) q7_refused rfl (m7 117 rfl) (m7 118 rfl) (m7 119 rfl) ⟨Nat.le_of_ble_eq_true rfl, Nat.le_of_ble_eq_true rfl⟩ hK [] rfl hP hD [0] (by decide) rfl (ci := 7) (q0 := 0) rfl rfl rfl hl.1 rfl (Nat.le_of_ble_eq_true rfl) dX7_page_30 ⟨Nat.zero_le _, Nat.zero_le _⟩) hP hD hS [0] rfl (fun r u h => by rw [h.2]; simp only [List.map_cons, List.map_nil]) (fun r9 u H locs hpost hP hD hS => ?_)
      obtain ⟨hr9, rfl⟩ := hpost
      refine lv_as hr9 ?_
      have hP : va_P D vwCl [(h, .inr (7, [.int (0), .ref sc, .int (nI (ss)), .int (nI (ps.2)), .int (bI (ps.1 = true)), .int (rb), .int (rl), .ref nw, .ref tr, .ref lk, .ref di, .int (nI (ac9)), .ref kp, .ref ik, .ref lv])), (nw, .inl (cI, 151, .inl f))] H := hP
      have hD : va_D A [(h, .inr (7, [.int (0), .ref sc, .int (nI (ss)), .int (nI (ps.2)), .int (bI (ps.1 = true)), .int (rb), .int (rl), .ref nw, .ref tr, .ref lk, .ref di, .int (nI (ac9)), .ref kp, .ref ik, .ref lv])), (nw, .inl (cI, 151, .inl f))] := hD
      refine lv_as (show bI (0 < (0 : Int32)) = 0 from by decide) ?_
      refine lv_if_eq (tgt := 38) hx hb dX7_page_33 (by decide) (fun c33_4 => ?_) (fun c33_4 => ?_)
      · skip
        obtain ⟨a9, ha9, ea9⟩ := rng (n := 4 * B - 1) (by omega) c6_1
        have hl : lv_has ls 3 [(0, .ref h), (1, .int (nI (a9))), (2, .int (w))] := lv_re hl 1 rfl ea9
        obtain ⟨j, hj, ej⟩ := rng (n := 4) (by omega) c22_2
        rcases (show j = 0 ∨ j = 1 ∨ j = 2 ∨ j = 3 ∨ j = 4 by omega) with rfl | rfl | rfl | rfl | rfl
        · skip
          have hl : lv_has ls 3 [(0, .ref h), (1, .int (nI (a9))), (2, .int (0))] := lv_re hl 2 rfl (show w = 0 from ej)
          refine lv_iload_n hx hb dX7_page_38 rfl (lv_at hl 2 rfl) ?_
          refine lv_if_ne (tgt := 52) hx hb dX7_page_39 (by decide) (fun c39_5 => ?_) (fun c39_5 => ?_)
          · skip
            exact absurd c39_5 (by decide)
          · skip
            refine lv_aload_n hx hb dX7_page_42 rfl (lv_at hl 0 rfl) ?_
            refine va_get (D := D) (ci := 7) (v := .ref nw) (C := RX7) (T := TX7) (N := 15) hx hb hts u7 hown hK hP 0 rfl rfl 7 (by decide) (hts _ (m7 5 rfl)) (fun _ h9 => h9) rfl dX7_page_43 ?_
            refine lv_iload_n hx hb dX7_page_46 rfl (lv_at hl 1 rfl) ?_
            refine lv_iconst (v := 0) hx hb dX7_page_47 (by decide) ?_
            refine rp_callS hX good7 i7 (c7_pageOf l D cI nw f a9 0 (by omega) (by omega)) q7_pageOf rfl (m7 23 rfl) (m7 24 rfl) ⟨Nat.le_of_ble_eq_true rfl, Nat.le_of_ble_eq_true rfl⟩ hK [0] rfl hP [1] rfl hS hl.1 rfl (Nat.le_of_ble_eq_true rfl) dX7_page_48 ⟨Nat.zero_le _, Nat.zero_le _⟩ (fun H locs hP hS => ?_)
            have hR9 : pgR B a w = 0 := by rw [pgR, if_pos c6_1, if_pos c22_2]
            have hP : va_P D vwCl [(h, .inr (7, [.int (pgR B a w), .ref sc, .int (nI (ss)), .int (nI (ps.2)), .int (bI (ps.1 = true)), .int (rb), .int (rl), .ref nw, .ref tr, .ref lk, .ref di, .int (nI (ac9)), .ref kp, .ref ik, .ref lv])), (nw, .inl (cI, 151, .inl f))] H := by
              rw [show (pgR B a w : Int32) = 0 from hR9]
              exact hP
            exact gp_reti hX hr hlocks hS hP ⟨(show pg f a9 0 = pgV f B a.toNatClampNeg w.toNatClampNeg from by rw [ea9, nI_clamp (by omega), ej, show (nI 0).toNatClampNeg = 0 from nI_clamp (by decide)]; rfl).trans (oR0 hR9), rfl⟩ dX7_page_51
        · skip
          have hl : lv_has ls 3 [(0, .ref h), (1, .int (nI (a9))), (2, .int (1))] := lv_re hl 2 rfl (show w = 1 from ej)
          refine lv_iload_n hx hb dX7_page_38 rfl (lv_at hl 2 rfl) ?_
          refine lv_if_ne (tgt := 52) hx hb dX7_page_39 (by decide) (fun c39_6 => ?_) (fun c39_6 => ?_)
          · skip
            refine lv_aload_n hx hb dX7_page_52 rfl (lv_at hl 0 rfl) ?_
            refine va_get (D := D) (ci := 7) (v := .ref nw) (C := RX7) (T := TX7) (N := 15) hx hb hts u7 hown hK hP 0 rfl rfl 7 (by decide) (hts _ (m7 5 rfl)) (fun _ h9 => h9) rfl dX7_page_53 ?_
            refine lv_iload_n hx hb dX7_page_56 rfl (lv_at hl 1 rfl) ?_
            refine rp_callS hX good7 i7 (c7_isWritten l D cI nw f a9 (by omega)) q7_isWritten rfl (m7 29 rfl) (m7 30 rfl) ⟨Nat.le_of_ble_eq_true rfl, Nat.le_of_ble_eq_true rfl⟩ hK [0] rfl hP [1] rfl hS hl.1 rfl (Nat.le_of_ble_eq_true rfl) dX7_page_57 ⟨Nat.zero_le _, Nat.zero_le _⟩ (fun H locs hP hS => ?_)
            refine lv_if_ne (tgt := 68) hx hb dX7_page_60 (by decide) (fun c60_7 => ?_) (fun c60_7 => ?_)
            · skip
              have c60_7 := bI_t c60_7
              refine lv_iload_n hx hb dX7_page_68 rfl (lv_at hl 2 rfl) ?_
              refine lv_iconst (v := 4) hx hb dX7_page_69 (by decide) ?_
              refine lv_icmp_ge (tgt := 85) hx hb dX7_page_70 (by decide) (fun c70_8 => ?_) (fun c70_8 => ?_)
              · skip
                exact absurd c70_8 (by decide)
              · skip
                refine lv_aload_n hx hb dX7_page_73 rfl (lv_at hl 0 rfl) ?_
                refine va_get (D := D) (ci := 7) (v := .ref nw) (C := RX7) (T := TX7) (N := 15) hx hb hts u7 hown hK hP 0 rfl rfl 7 (by decide) (hts _ (m7 5 rfl)) (fun _ h9 => h9) rfl dX7_page_74 ?_
                refine lv_iload_n hx hb dX7_page_77 rfl (lv_at hl 1 rfl) ?_
                refine lv_iload_n hx hb dX7_page_78 rfl (lv_at hl 2 rfl) ?_
                refine rp_callS hX good7 i7 (c7_pageOf l D cI nw f a9 1 (by omega) (by omega)) q7_pageOf rfl (m7 23 rfl) (m7 24 rfl) ⟨Nat.le_of_ble_eq_true rfl, Nat.le_of_ble_eq_true rfl⟩ hK [0] rfl hP [1] rfl hS hl.1 rfl (Nat.le_of_ble_eq_true rfl) dX7_page_79 ⟨Nat.zero_le _, Nat.zero_le _⟩ (fun H locs hP hS => ?_)
                refine lv_goto (tgt := 101) hx hb dX7_page_82 (by decide) ?_
                have hR9 : pgR B a w = 0 := by rw [pgR, if_pos c6_1, if_pos c22_2]
                have hP : va_P D vwCl [(h, .inr (7, [.int (pgR B a w), .ref sc, .int (nI (ss)), .int (nI (ps.2)), .int (bI (ps.1 = true)), .int (rb), .int (rl), .ref nw, .ref tr, .ref lk, .ref di, .int (nI (ac9)), .ref kp, .ref ik, .ref lv])), (nw, .inl (cI, 151, .inl f))] H := by
                  rw [show (pgR B a w : Int32) = 0 from hR9]
                  exact hP
                exact gp_reti hX hr hlocks hS hP ⟨(show pg f a9 1 = pgV f B a.toNatClampNeg w.toNatClampNeg from by rw [ea9, nI_clamp (by omega), ej, show (nI 1).toNatClampNeg = 1 from nI_clamp (by decide)]; rw [pgV, if_neg (by decide), if_pos c60_7, if_pos (by decide)]).trans (oR0 hR9), rfl⟩ dX7_page_101
            · skip
              have c60_7 := bI_f c60_7
              refine lv_bipush (v := (-9)) hx hb dX7_page_63 (by decide) ?_
              refine lv_goto (tgt := 101) hx hb dX7_page_65 (by decide) ?_
              have hR9 : pgR B a w = 0 := by rw [pgR, if_pos c6_1, if_pos c22_2]
              have hP : va_P D vwCl [(h, .inr (7, [.int (pgR B a w), .ref sc, .int (nI (ss)), .int (nI (ps.2)), .int (bI (ps.1 = true)), .int (rb), .int (rl), .ref nw, .ref tr, .ref lk, .ref di, .int (nI (ac9)), .ref kp, .ref ik, .ref lv])), (nw, .inl (cI, 151, .inl f))] H := by
                rw [show (pgR B a w : Int32) = 0 from hR9]
                exact hP
              exact gp_reti hX hr hlocks hS hP ⟨(show ((-9) : Int32) = pgV f B a.toNatClampNeg w.toNatClampNeg from by rw [ea9, nI_clamp (by omega), ej, show (nI 1).toNatClampNeg = 1 from nI_clamp (by decide)]; rw [pgV, if_neg (by decide), if_neg c60_7]).trans (oR0 hR9), rfl⟩ dX7_page_101
          · skip
            exact absurd c39_6 (by decide)
        · skip
          have hl : lv_has ls 3 [(0, .ref h), (1, .int (nI (a9))), (2, .int (2))] := lv_re hl 2 rfl (show w = 2 from ej)
          refine lv_iload_n hx hb dX7_page_38 rfl (lv_at hl 2 rfl) ?_
          refine lv_if_ne (tgt := 52) hx hb dX7_page_39 (by decide) (fun c39_9 => ?_) (fun c39_9 => ?_)
          · skip
            refine lv_aload_n hx hb dX7_page_52 rfl (lv_at hl 0 rfl) ?_
            refine va_get (D := D) (ci := 7) (v := .ref nw) (C := RX7) (T := TX7) (N := 15) hx hb hts u7 hown hK hP 0 rfl rfl 7 (by decide) (hts _ (m7 5 rfl)) (fun _ h9 => h9) rfl dX7_page_53 ?_
            refine lv_iload_n hx hb dX7_page_56 rfl (lv_at hl 1 rfl) ?_
            refine rp_callS hX good7 i7 (c7_isWritten l D cI nw f a9 (by omega)) q7_isWritten rfl (m7 29 rfl) (m7 30 rfl) ⟨Nat.le_of_ble_eq_true rfl, Nat.le_of_ble_eq_true rfl⟩ hK [0] rfl hP [1] rfl hS hl.1 rfl (Nat.le_of_ble_eq_true rfl) dX7_page_57 ⟨Nat.zero_le _, Nat.zero_le _⟩ (fun H locs hP hS => ?_)
            refine lv_if_ne (tgt := 68) hx hb dX7_page_60 (by decide) (fun c60_10 => ?_) (fun c60_10 => ?_)
            · skip
              have c60_10 := bI_t c60_10
              refine lv_iload_n hx hb dX7_page_68 rfl (lv_at hl 2 rfl) ?_
              refine lv_iconst (v := 4) hx hb dX7_page_69 (by decide) ?_
              refine lv_icmp_ge (tgt := 85) hx hb dX7_page_70 (by decide) (fun c70_11 => ?_) (fun c70_11 => ?_)
              · skip
                exact absurd c70_11 (by decide)
              · skip
                refine lv_aload_n hx hb dX7_page_73 rfl (lv_at hl 0 rfl) ?_
                refine va_get (D := D) (ci := 7) (v := .ref nw) (C := RX7) (T := TX7) (N := 15) hx hb hts u7 hown hK hP 0 rfl rfl 7 (by decide) (hts _ (m7 5 rfl)) (fun _ h9 => h9) rfl dX7_page_74 ?_
                refine lv_iload_n hx hb dX7_page_77 rfl (lv_at hl 1 rfl) ?_
                refine lv_iload_n hx hb dX7_page_78 rfl (lv_at hl 2 rfl) ?_
                refine rp_callS hX good7 i7 (c7_pageOf l D cI nw f a9 2 (by omega) (by omega)) q7_pageOf rfl (m7 23 rfl) (m7 24 rfl) ⟨Nat.le_of_ble_eq_true rfl, Nat.le_of_ble_eq_true rfl⟩ hK [0] rfl hP [1] rfl hS hl.1 rfl (Nat.le_of_ble_eq_true rfl) dX7_page_79 ⟨Nat.zero_le _, Nat.zero_le _⟩ (fun H locs hP hS => ?_)
                refine lv_goto (tgt := 101) hx hb dX7_page_82 (by decide) ?_
                have hR9 : pgR B a w = 0 := by rw [pgR, if_pos c6_1, if_pos c22_2]
                have hP : va_P D vwCl [(h, .inr (7, [.int (pgR B a w), .ref sc, .int (nI (ss)), .int (nI (ps.2)), .int (bI (ps.1 = true)), .int (rb), .int (rl), .ref nw, .ref tr, .ref lk, .ref di, .int (nI (ac9)), .ref kp, .ref ik, .ref lv])), (nw, .inl (cI, 151, .inl f))] H := by
                  rw [show (pgR B a w : Int32) = 0 from hR9]
                  exact hP
                exact gp_reti hX hr hlocks hS hP ⟨(show pg f a9 2 = pgV f B a.toNatClampNeg w.toNatClampNeg from by rw [ea9, nI_clamp (by omega), ej, show (nI 2).toNatClampNeg = 2 from nI_clamp (by decide)]; rw [pgV, if_neg (by decide), if_pos c60_10, if_pos (by decide)]).trans (oR0 hR9), rfl⟩ dX7_page_101
            · skip
              have c60_10 := bI_f c60_10
              refine lv_bipush (v := (-9)) hx hb dX7_page_63 (by decide) ?_
              refine lv_goto (tgt := 101) hx hb dX7_page_65 (by decide) ?_
              have hR9 : pgR B a w = 0 := by rw [pgR, if_pos c6_1, if_pos c22_2]
              have hP : va_P D vwCl [(h, .inr (7, [.int (pgR B a w), .ref sc, .int (nI (ss)), .int (nI (ps.2)), .int (bI (ps.1 = true)), .int (rb), .int (rl), .ref nw, .ref tr, .ref lk, .ref di, .int (nI (ac9)), .ref kp, .ref ik, .ref lv])), (nw, .inl (cI, 151, .inl f))] H := by
                rw [show (pgR B a w : Int32) = 0 from hR9]
                exact hP
              exact gp_reti hX hr hlocks hS hP ⟨(show ((-9) : Int32) = pgV f B a.toNatClampNeg w.toNatClampNeg from by rw [ea9, nI_clamp (by omega), ej, show (nI 2).toNatClampNeg = 2 from nI_clamp (by decide)]; rw [pgV, if_neg (by decide), if_neg c60_10]).trans (oR0 hR9), rfl⟩ dX7_page_101
          · skip
            exact absurd c39_9 (by decide)
        · skip
          have hl : lv_has ls 3 [(0, .ref h), (1, .int (nI (a9))), (2, .int (3))] := lv_re hl 2 rfl (show w = 3 from ej)
          refine lv_iload_n hx hb dX7_page_38 rfl (lv_at hl 2 rfl) ?_
          refine lv_if_ne (tgt := 52) hx hb dX7_page_39 (by decide) (fun c39_12 => ?_) (fun c39_12 => ?_)
          · skip
            refine lv_aload_n hx hb dX7_page_52 rfl (lv_at hl 0 rfl) ?_
            refine va_get (D := D) (ci := 7) (v := .ref nw) (C := RX7) (T := TX7) (N := 15) hx hb hts u7 hown hK hP 0 rfl rfl 7 (by decide) (hts _ (m7 5 rfl)) (fun _ h9 => h9) rfl dX7_page_53 ?_
            refine lv_iload_n hx hb dX7_page_56 rfl (lv_at hl 1 rfl) ?_
            refine rp_callS hX good7 i7 (c7_isWritten l D cI nw f a9 (by omega)) q7_isWritten rfl (m7 29 rfl) (m7 30 rfl) ⟨Nat.le_of_ble_eq_true rfl, Nat.le_of_ble_eq_true rfl⟩ hK [0] rfl hP [1] rfl hS hl.1 rfl (Nat.le_of_ble_eq_true rfl) dX7_page_57 ⟨Nat.zero_le _, Nat.zero_le _⟩ (fun H locs hP hS => ?_)
            refine lv_if_ne (tgt := 68) hx hb dX7_page_60 (by decide) (fun c60_13 => ?_) (fun c60_13 => ?_)
            · skip
              have c60_13 := bI_t c60_13
              refine lv_iload_n hx hb dX7_page_68 rfl (lv_at hl 2 rfl) ?_
              refine lv_iconst (v := 4) hx hb dX7_page_69 (by decide) ?_
              refine lv_icmp_ge (tgt := 85) hx hb dX7_page_70 (by decide) (fun c70_14 => ?_) (fun c70_14 => ?_)
              · skip
                exact absurd c70_14 (by decide)
              · skip
                refine lv_aload_n hx hb dX7_page_73 rfl (lv_at hl 0 rfl) ?_
                refine va_get (D := D) (ci := 7) (v := .ref nw) (C := RX7) (T := TX7) (N := 15) hx hb hts u7 hown hK hP 0 rfl rfl 7 (by decide) (hts _ (m7 5 rfl)) (fun _ h9 => h9) rfl dX7_page_74 ?_
                refine lv_iload_n hx hb dX7_page_77 rfl (lv_at hl 1 rfl) ?_
                refine lv_iload_n hx hb dX7_page_78 rfl (lv_at hl 2 rfl) ?_
                refine rp_callS hX good7 i7 (c7_pageOf l D cI nw f a9 3 (by omega) (by omega)) q7_pageOf rfl (m7 23 rfl) (m7 24 rfl) ⟨Nat.le_of_ble_eq_true rfl, Nat.le_of_ble_eq_true rfl⟩ hK [0] rfl hP [1] rfl hS hl.1 rfl (Nat.le_of_ble_eq_true rfl) dX7_page_79 ⟨Nat.zero_le _, Nat.zero_le _⟩ (fun H locs hP hS => ?_)
                refine lv_goto (tgt := 101) hx hb dX7_page_82 (by decide) ?_
                have hR9 : pgR B a w = 0 := by rw [pgR, if_pos c6_1, if_pos c22_2]
                have hP : va_P D vwCl [(h, .inr (7, [.int (pgR B a w), .ref sc, .int (nI (ss)), .int (nI (ps.2)), .int (bI (ps.1 = true)), .int (rb), .int (rl), .ref nw, .ref tr, .ref lk, .ref di, .int (nI (ac9)), .ref kp, .ref ik, .ref lv])), (nw, .inl (cI, 151, .inl f))] H := by
                  rw [show (pgR B a w : Int32) = 0 from hR9]
                  exact hP
                exact gp_reti hX hr hlocks hS hP ⟨(show pg f a9 3 = pgV f B a.toNatClampNeg w.toNatClampNeg from by rw [ea9, nI_clamp (by omega), ej, show (nI 3).toNatClampNeg = 3 from nI_clamp (by decide)]; rw [pgV, if_neg (by decide), if_pos c60_13, if_pos (by decide)]).trans (oR0 hR9), rfl⟩ dX7_page_101
            · skip
              have c60_13 := bI_f c60_13
              refine lv_bipush (v := (-9)) hx hb dX7_page_63 (by decide) ?_
              refine lv_goto (tgt := 101) hx hb dX7_page_65 (by decide) ?_
              have hR9 : pgR B a w = 0 := by rw [pgR, if_pos c6_1, if_pos c22_2]
              have hP : va_P D vwCl [(h, .inr (7, [.int (pgR B a w), .ref sc, .int (nI (ss)), .int (nI (ps.2)), .int (bI (ps.1 = true)), .int (rb), .int (rl), .ref nw, .ref tr, .ref lk, .ref di, .int (nI (ac9)), .ref kp, .ref ik, .ref lv])), (nw, .inl (cI, 151, .inl f))] H := by
                rw [show (pgR B a w : Int32) = 0 from hR9]
                exact hP
              exact gp_reti hX hr hlocks hS hP ⟨(show ((-9) : Int32) = pgV f B a.toNatClampNeg w.toNatClampNeg from by rw [ea9, nI_clamp (by omega), ej, show (nI 3).toNatClampNeg = 3 from nI_clamp (by decide)]; rw [pgV, if_neg (by decide), if_neg c60_13]).trans (oR0 hR9), rfl⟩ dX7_page_101
          · skip
            exact absurd c39_12 (by decide)
        · skip
          have hl : lv_has ls 3 [(0, .ref h), (1, .int (nI (a9))), (2, .int (4))] := lv_re hl 2 rfl (show w = 4 from ej)
          refine lv_iload_n hx hb dX7_page_38 rfl (lv_at hl 2 rfl) ?_
          refine lv_if_ne (tgt := 52) hx hb dX7_page_39 (by decide) (fun c39_15 => ?_) (fun c39_15 => ?_)
          · skip
            refine lv_aload_n hx hb dX7_page_52 rfl (lv_at hl 0 rfl) ?_
            refine va_get (D := D) (ci := 7) (v := .ref nw) (C := RX7) (T := TX7) (N := 15) hx hb hts u7 hown hK hP 0 rfl rfl 7 (by decide) (hts _ (m7 5 rfl)) (fun _ h9 => h9) rfl dX7_page_53 ?_
            refine lv_iload_n hx hb dX7_page_56 rfl (lv_at hl 1 rfl) ?_
            refine rp_callS hX good7 i7 (c7_isWritten l D cI nw f a9 (by omega)) q7_isWritten rfl (m7 29 rfl) (m7 30 rfl) ⟨Nat.le_of_ble_eq_true rfl, Nat.le_of_ble_eq_true rfl⟩ hK [0] rfl hP [1] rfl hS hl.1 rfl (Nat.le_of_ble_eq_true rfl) dX7_page_57 ⟨Nat.zero_le _, Nat.zero_le _⟩ (fun H locs hP hS => ?_)
            refine lv_if_ne (tgt := 68) hx hb dX7_page_60 (by decide) (fun c60_16 => ?_) (fun c60_16 => ?_)
            · skip
              have c60_16 := bI_t c60_16
              refine lv_iload_n hx hb dX7_page_68 rfl (lv_at hl 2 rfl) ?_
              refine lv_iconst (v := 4) hx hb dX7_page_69 (by decide) ?_
              refine lv_icmp_ge (tgt := 85) hx hb dX7_page_70 (by decide) (fun c70_17 => ?_) (fun c70_17 => ?_)
              · skip
                refine lv_aload_n hx hb dX7_page_85 rfl (lv_at hl 0 rfl) ?_
                refine va_get (D := D) (ci := 7) (v := .ref nw) (C := RX7) (T := TX7) (N := 15) hx hb hts u7 hown hK hP 0 rfl rfl 7 (by decide) (hts _ (m7 5 rfl)) (fun _ h9 => h9) rfl dX7_page_86 ?_
                refine lv_iload_n hx hb dX7_page_89 rfl (lv_at hl 1 rfl) ?_
                refine rp_callS hX good7 i7 (c7_isLive l D cI nw f a9 (by omega) B hW.1 hW.2.1) q7_isLive rfl (m7 38 rfl) (m7 39 rfl) ⟨Nat.le_of_ble_eq_true rfl, Nat.le_of_ble_eq_true rfl⟩ hK [0] rfl hP [1] rfl hS hl.1 rfl (Nat.le_of_ble_eq_true rfl) dX7_page_90 ⟨Nat.zero_le _, Nat.zero_le _⟩ (fun H locs hP hS => ?_)
                refine lv_if_eq (tgt := 100) hx hb dX7_page_93 (by decide) (fun c93_18 => ?_) (fun c93_18 => ?_)
                · skip
                  have c93_18 := bI_f c93_18
                  refine lv_iconst (v := 0) hx hb dX7_page_100 (by decide) ?_
                  have hR9 : pgR B a w = 0 := by rw [pgR, if_pos c6_1, if_pos c22_2]
                  have hP : va_P D vwCl [(h, .inr (7, [.int (pgR B a w), .ref sc, .int (nI (ss)), .int (nI (ps.2)), .int (bI (ps.1 = true)), .int (rb), .int (rl), .ref nw, .ref tr, .ref lk, .ref di, .int (nI (ac9)), .ref kp, .ref ik, .ref lv])), (nw, .inl (cI, 151, .inl f))] H := by
                    rw [show (pgR B a w : Int32) = 0 from hR9]
                    exact hP
                  exact gp_reti hX hr hlocks hS hP ⟨(show (0 : Int32) = pgV f B a.toNatClampNeg w.toNatClampNeg from by rw [ea9, nI_clamp (by omega), ej, show (nI 4).toNatClampNeg = 4 from nI_clamp (by decide)]; rw [pgV, if_neg (by decide), if_pos c60_16, if_neg (by decide)]; exact (bI_0 c93_18).symm).trans (oR0 hR9), rfl⟩ dX7_page_101
                · skip
                  have c93_18 := bI_t c93_18
                  refine lv_iconst (v := 1) hx hb dX7_page_96 (by decide) ?_
                  refine lv_goto (tgt := 101) hx hb dX7_page_97 (by decide) ?_
                  have hR9 : pgR B a w = 0 := by rw [pgR, if_pos c6_1, if_pos c22_2]
                  have hP : va_P D vwCl [(h, .inr (7, [.int (pgR B a w), .ref sc, .int (nI (ss)), .int (nI (ps.2)), .int (bI (ps.1 = true)), .int (rb), .int (rl), .ref nw, .ref tr, .ref lk, .ref di, .int (nI (ac9)), .ref kp, .ref ik, .ref lv])), (nw, .inl (cI, 151, .inl f))] H := by
                    rw [show (pgR B a w : Int32) = 0 from hR9]
                    exact hP
                  exact gp_reti hX hr hlocks hS hP ⟨(show (1 : Int32) = pgV f B a.toNatClampNeg w.toNatClampNeg from by rw [ea9, nI_clamp (by omega), ej, show (nI 4).toNatClampNeg = 4 from nI_clamp (by decide)]; rw [pgV, if_neg (by decide), if_pos c60_16, if_neg (by decide)]; exact (bI_1 c93_18).symm).trans (oR0 hR9), rfl⟩ dX7_page_101
              · skip
                exact absurd c70_17 (by decide)
            · skip
              have c60_16 := bI_f c60_16
              refine lv_bipush (v := (-9)) hx hb dX7_page_63 (by decide) ?_
              refine lv_goto (tgt := 101) hx hb dX7_page_65 (by decide) ?_
              have hR9 : pgR B a w = 0 := by rw [pgR, if_pos c6_1, if_pos c22_2]
              have hP : va_P D vwCl [(h, .inr (7, [.int (pgR B a w), .ref sc, .int (nI (ss)), .int (nI (ps.2)), .int (bI (ps.1 = true)), .int (rb), .int (rl), .ref nw, .ref tr, .ref lk, .ref di, .int (nI (ac9)), .ref kp, .ref ik, .ref lv])), (nw, .inl (cI, 151, .inl f))] H := by
                rw [show (pgR B a w : Int32) = 0 from hR9]
                exact hP
              exact gp_reti hX hr hlocks hS hP ⟨(show ((-9) : Int32) = pgV f B a.toNatClampNeg w.toNatClampNeg from by rw [ea9, nI_clamp (by omega), ej, show (nI 4).toNatClampNeg = 4 from nI_clamp (by decide)]; rw [pgV, if_neg (by decide), if_neg c60_16]).trans (oR0 hR9), rfl⟩ dX7_page_101
          · skip
            exact absurd c39_15 (by decide)
      · skip
        exact absurd c33_4 (by decide)
  · skip
    have c6_1 := bI_f c6_1
    refine lv_iconst (v := 1) hx hb dX7_page_9 (by decide) ?_
    refine lv_goto (tgt := 30) hx hb dX7_page_10 (by decide) ?_
    refine gp_backi (gp_runV hX good7 i7 (c7_refused l D h rf 1 [.ref sc, .int (nI (ss)), .int (nI (ps.2)), .int (bI (ps.1 = true)), .int (rb), .int (rl), .ref nw, .ref tr, .ref lk, .ref di, .int (nI (ac9)), .ref kp, .ref ik, .ref lv]) q7_refused rfl (m7 117 rfl) (m7 118 rfl) (m7 119 rfl) ⟨Nat.le_of_ble_eq_true rfl, Nat.le_of_ble_eq_true rfl⟩ hK [] rfl hP hD [0] (by decide) rfl (ci := 7) (q0 := 0) rfl rfl rfl hl.1 rfl (Nat.le_of_ble_eq_true rfl) dX7_page_30 ⟨Nat.zero_le _, Nat.zero_le _⟩) hP hD hS [0] rfl (fun r u h => by rw [h.2]; simp only [List.map_cons, List.map_nil]) (fun r9 u H locs hpost hP hD hS => ?_)
    obtain ⟨hr9, rfl⟩ := hpost
    refine lv_as hr9 ?_
    have hP : va_P D vwCl [(h, .inr (7, [.int (1), .ref sc, .int (nI (ss)), .int (nI (ps.2)), .int (bI (ps.1 = true)), .int (rb), .int (rl), .ref nw, .ref tr, .ref lk, .ref di, .int (nI (ac9)), .ref kp, .ref ik, .ref lv])), (nw, .inl (cI, 151, .inl f))] H := hP
    have hD : va_D A [(h, .inr (7, [.int (1), .ref sc, .int (nI (ss)), .int (nI (ps.2)), .int (bI (ps.1 = true)), .int (rb), .int (rl), .ref nw, .ref tr, .ref lk, .ref di, .int (nI (ac9)), .ref kp, .ref ik, .ref lv])), (nw, .inl (cI, 151, .inl f))] := hD
    refine lv_as (show bI (0 < (1 : Int32)) = 1 from by decide) ?_
    refine lv_if_eq (tgt := 38) hx hb dX7_page_33 (by decide) (fun c33_19 => ?_) (fun c33_19 => ?_)
    · skip
      exact absurd c33_19 (by decide)
    · skip
      refine lv_iconst (v := 0) hx hb dX7_page_36 (by decide) ?_
      have hR9 : pgR B a w = 1 := by rw [pgR, if_neg c6_1]
      have hP : va_P D vwCl [(h, .inr (7, [.int (pgR B a w), .ref sc, .int (nI (ss)), .int (nI (ps.2)), .int (bI (ps.1 = true)), .int (rb), .int (rl), .ref nw, .ref tr, .ref lk, .ref di, .int (nI (ac9)), .ref kp, .ref ik, .ref lv])), (nw, .inl (cI, 151, .inl f))] H := by
        rw [show (pgR B a w : Int32) = 1 from hR9]
        exact hP
      exact gp_reti hX hr hlocks hS hP ⟨oRn hR9 (by decide), rfl⟩ dX7_page_37
theorem dX7_block_0 : decode cX7_block 0 = .ok (.aload_n 0, 1) := by decide +kernel
theorem dX7_block_1 : decode cX7_block 1 = .ok (.aload_n 0, 1) := by decide +kernel
theorem dX7_block_2 : decode cX7_block 2 = .ok (.iload_n 1, 1) := by decide +kernel
theorem dX7_block_3 : decode cX7_block 3 = .ok (.invokevirtual 223, 3) := by decide +kernel
theorem dX7_block_6 : decode cX7_block 6 = .ok (.ifCond .ne 7, 3) := by decide +kernel
theorem dX7_block_9 : decode cX7_block 9 = .ok (.iconst 1, 1) := by decide +kernel
theorem dX7_block_10 : decode cX7_block 10 = .ok (.goto 20, 3) := by decide +kernel
theorem dX7_block_13 : decode cX7_block 13 = .ok (.iload_n 2, 1) := by decide +kernel
theorem dX7_block_14 : decode cX7_block 14 = .ok (.i2l, 1) := by decide +kernel
theorem dX7_block_15 : decode cX7_block 15 = .ok (.lconst 0, 1) := by decide +kernel
theorem dX7_block_16 : decode cX7_block 16 = .ok (.ldc2_w 226, 3) := by decide +kernel
theorem dX7_block_19 : decode cX7_block 19 = .ok (.invokestatic 147, 3) := by decide +kernel
theorem dX7_block_22 : decode cX7_block 22 = .ok (.ifCond .eq 7, 3) := by decide +kernel
theorem dX7_block_25 : decode cX7_block 25 = .ok (.iconst 0, 1) := by decide +kernel
theorem dX7_block_26 : decode cX7_block 26 = .ok (.goto 4, 3) := by decide +kernel
theorem dX7_block_29 : decode cX7_block 29 = .ok (.iconst 2, 1) := by decide +kernel
theorem dX7_block_30 : decode cX7_block 30 = .ok (.invokevirtual 154, 3) := by decide +kernel
theorem dX7_block_33 : decode cX7_block 33 = .ok (.ifCond .eq 5, 3) := by decide +kernel
theorem dX7_block_36 : decode cX7_block 36 = .ok (.iconst 0, 1) := by decide +kernel
theorem dX7_block_37 : decode cX7_block 37 = .ok (.ireturn, 1) := by decide +kernel
theorem dX7_block_38 : decode cX7_block 38 = .ok (.iload_n 2, 1) := by decide +kernel
theorem dX7_block_39 : decode cX7_block 39 = .ok (.tableswitch 96 0 4 #[33, 43, 52, 62, 72], 33) := by decide +kernel
theorem dX7_block_72 : decode cX7_block 72 = .ok (.aload_n 0, 1) := by decide +kernel
theorem dX7_block_73 : decode cX7_block 73 = .ok (.getfield 13, 3) := by decide +kernel
theorem dX7_block_76 : decode cX7_block 76 = .ok (.bipush 15, 2) := by decide +kernel
theorem dX7_block_78 : decode cX7_block 78 = .ok (.iload_n 1, 1) := by decide +kernel
theorem dX7_block_79 : decode cX7_block 79 = .ok (.iadd, 1) := by decide +kernel
theorem dX7_block_80 : decode cX7_block 80 = .ok (.iaload, 1) := by decide +kernel
theorem dX7_block_81 : decode cX7_block 81 = .ok (.ireturn, 1) := by decide +kernel
theorem dX7_block_82 : decode cX7_block 82 = .ok (.aload_n 0, 1) := by decide +kernel
theorem dX7_block_83 : decode cX7_block 83 = .ok (.getfield 13, 3) := by decide +kernel
theorem dX7_block_86 : decode cX7_block 86 = .ok (.iload_n 1, 1) := by decide +kernel
theorem dX7_block_87 : decode cX7_block 87 = .ok (.invokestatic 86, 3) := by decide +kernel
theorem dX7_block_90 : decode cX7_block 90 = .ok (.ireturn, 1) := by decide +kernel
theorem dX7_block_91 : decode cX7_block 91 = .ok (.aload_n 0, 1) := by decide +kernel
theorem dX7_block_92 : decode cX7_block 92 = .ok (.getfield 13, 3) := by decide +kernel
theorem dX7_block_95 : decode cX7_block 95 = .ok (.iload_n 1, 1) := by decide +kernel
theorem dX7_block_96 : decode cX7_block 96 = .ok (.iconst 0, 1) := by decide +kernel
theorem dX7_block_97 : decode cX7_block 97 = .ok (.invokestatic 74, 3) := by decide +kernel
theorem dX7_block_100 : decode cX7_block 100 = .ok (.ireturn, 1) := by decide +kernel
theorem dX7_block_101 : decode cX7_block 101 = .ok (.aload_n 0, 1) := by decide +kernel
theorem dX7_block_102 : decode cX7_block 102 = .ok (.getfield 13, 3) := by decide +kernel
theorem dX7_block_105 : decode cX7_block 105 = .ok (.iload_n 1, 1) := by decide +kernel
theorem dX7_block_106 : decode cX7_block 106 = .ok (.iconst 2, 1) := by decide +kernel
theorem dX7_block_107 : decode cX7_block 107 = .ok (.invokestatic 74, 3) := by decide +kernel
theorem dX7_block_110 : decode cX7_block 110 = .ok (.ireturn, 1) := by decide +kernel
theorem dX7_block_111 : decode cX7_block 111 = .ok (.aload_n 0, 1) := by decide +kernel
theorem dX7_block_112 : decode cX7_block 112 = .ok (.getfield 13, 3) := by decide +kernel
theorem dX7_block_115 : decode cX7_block 115 = .ok (.bipush 15, 2) := by decide +kernel
theorem dX7_block_117 : decode cX7_block 117 = .ok (.iload_n 1, 1) := by decide +kernel
theorem dX7_block_118 : decode cX7_block 118 = .ok (.iadd, 1) := by decide +kernel
theorem dX7_block_119 : decode cX7_block 119 = .ok (.iaload, 1) := by decide +kernel
theorem dX7_block_120 : decode cX7_block 120 = .ok (.aload_n 0, 1) := by decide +kernel
theorem dX7_block_121 : decode cX7_block 121 = .ok (.getfield 13, 3) := by decide +kernel
theorem dX7_block_124 : decode cX7_block 124 = .ok (.iconst 1, 1) := by decide +kernel
theorem dX7_block_125 : decode cX7_block 125 = .ok (.iaload, 1) := by decide +kernel
theorem dX7_block_126 : decode cX7_block 126 = .ok (.if_icmp .lt 7, 3) := by decide +kernel
theorem dX7_block_129 : decode cX7_block 129 = .ok (.iconst 1, 1) := by decide +kernel
theorem dX7_block_130 : decode cX7_block 130 = .ok (.goto 4, 3) := by decide +kernel
theorem dX7_block_133 : decode cX7_block 133 = .ok (.iconst 0, 1) := by decide +kernel
theorem dX7_block_134 : decode cX7_block 134 = .ok (.ireturn, 1) := by decide +kernel
theorem dX7_block_135 : decode cX7_block 135 = .ok (.aload_n 0, 1) := by decide +kernel
theorem dX7_block_136 : decode cX7_block 136 = .ok (.getfield 13, 3) := by decide +kernel
theorem dX7_block_139 : decode cX7_block 139 = .ok (.iconst 2, 1) := by decide +kernel
theorem dX7_block_140 : decode cX7_block 140 = .ok (.iaload, 1) := by decide +kernel
theorem dX7_block_141 : decode cX7_block 141 = .ok (.iconst 1, 1) := by decide +kernel
theorem dX7_block_142 : decode cX7_block 142 = .ok (.if_icmp .ne 18, 3) := by decide +kernel
theorem dX7_block_145 : decode cX7_block 145 = .ok (.aload_n 0, 1) := by decide +kernel
theorem dX7_block_146 : decode cX7_block 146 = .ok (.getfield 13, 3) := by decide +kernel
theorem dX7_block_149 : decode cX7_block 149 = .ok (.iload_n 1, 1) := by decide +kernel
theorem dX7_block_150 : decode cX7_block 150 = .ok (.invokestatic 98, 3) := by decide +kernel
theorem dX7_block_153 : decode cX7_block 153 = .ok (.ifCond .eq 7, 3) := by decide +kernel
theorem dX7_block_156 : decode cX7_block 156 = .ok (.iconst 1, 1) := by decide +kernel
theorem dX7_block_157 : decode cX7_block 157 = .ok (.goto 4, 3) := by decide +kernel
theorem dX7_block_160 : decode cX7_block 160 = .ok (.iconst 0, 1) := by decide +kernel
theorem dX7_block_161 : decode cX7_block 161 = .ok (.ireturn, 1) := by decide +kernel
set_option maxHeartbeats 4000000 in
set_option maxRecDepth 100000 in
theorem c7_block (l : Launch) (D : va_G) (cI cZ : ClassId) (h sc nw tr lk di kp ik lv : Nat) (rf rb rl : Int32) (ac9 : Nat) (ss : Nat) (ps : Bool × Nat) (f : Nat → Int32) (B : Nat) (hW : Wf f B) (hB1 : 1 ≤ B) (a w : Int32) : GPi l yX7_block cX7_block 3 .int W7 7 157 D [(h, .inr (7, [.int (rf), .ref sc, .int (nI (ss)), .int (nI (ps.2)), .int (bI (ps.1 = true)), .int (rb), .int (rl), .ref nw, .ref tr, .ref lk, .ref di, .int (nI (ac9)), .ref kp, .ref ik, .ref lv])), (nw, .inl (cI, 151, .inl f))] [(cI, .int)] [.ref h, .int (a), .int (w)] (fun (r9 : Int32) (u9 : va_W) => r9 = (if blR B a w = 0 then blV f B a.toNatClampNeg w.toNatClampNeg else 0) ∧ u9 = [(h, .inr (7, [.int (blR B a w), .ref sc, .int (nI (ss)), .int (nI (ps.2)), .int (bI (ps.1 = true)), .int (rb), .int (rl), .ref nw, .ref tr, .ref lk, .ref di, .int (nI (ac9)), .ref kp, .ref ik, .ref lv])), (nw, .inl (cI, 151, .inl f))]) := by
  refine gp_of RX7 (by decide) rfl (Nat.le_of_ble_eq_true rfl) ?_
  intro p e s m below meth c ls H hX hr hlocks hK hP hD hS hl
  generalize gp_A [(h, .inr (7, [.int (rf), .ref sc, .int (nI (ss)), .int (nI (ps.2)), .int (bI (ps.1 = true)), .int (rb), .int (rl), .ref nw, .ref tr, .ref lk, .ref di, .int (nI (ac9)), .ref kp, .ref ik, .ref lv])), (nw, .inl (cI, 151, .inl f))] = A at hD hS ⊢
  have hx := hX.1
  have hb := hX.2.1
  have hown := hX.2.2.2.1
  have hts := hX.2.2.2.2
  have hl : lv_has ls 3 [(0, .ref h), (1, .int (a)), (2, .int (w))] := hl
  have hB8 := hW.2.1
  refine lv_aload_n hx hb dX7_block_0 rfl (lv_at hl 0 rfl) ?_
  refine lv_aload_n hx hb dX7_block_1 rfl (lv_at hl 0 rfl) ?_
  refine lv_iload_n hx hb dX7_block_2 rfl (lv_at hl 1 rfl) ?_
  refine rp_callV hX good7 i7 (c7_isBlock l D cI h nw [.int (rf), .ref sc, .int (nI (ss)), .int (nI (ps.2)), .int (bI (ps.1 = true)), .int (rb), .int (rl), .ref nw, .ref tr, .ref lk, .ref di, .int (nI (ac9)), .ref kp, .ref ik, .ref lv] f B hW hB1 rfl a) q7_isBlock rfl (m7 181 rfl) (m7 182 rfl) (m7 183 rfl) ⟨Nat.le_of_ble_eq_true rfl, Nat.le_of_ble_eq_true rfl⟩ hK [0] rfl hP [0, 1] rfl (ci := 7) (q0 := 0) rfl rfl rfl hS hl.1 rfl (Nat.le_of_ble_eq_true rfl) dX7_block_3 ⟨Nat.zero_le _, Nat.zero_le _⟩ (fun H locs hP hS => ?_)
  refine lv_if_ne (tgt := 13) hx hb dX7_block_6 (by decide) (fun c6_1 => ?_) (fun c6_1 => ?_)
  · skip
    have c6_1 := bI_t c6_1
    refine lv_iload_n hx hb dX7_block_13 rfl (lv_at hl 2 rfl) ?_
    refine lv_i2l (v := (w : Int32).toInt64) hx hb dX7_block_14 (rfl) ?_
    refine lv_lconst (v := 0) hx hb dX7_block_15 (by decide) ?_
    refine lv_asl (show (0 : Int64) = (0 : Int32).toInt64 from by decide) ?_
    refine lv_ldc2 (v := 5) hx hb hown (hts _ (m7 180 rfl)) dX7_block_16 ?_
    refine lv_asl (show (5 : Int64) = (5 : Int32).toInt64 from by decide) ?_
    refine rp_callS hX good7 i7 (c7_inI l D w 0 5) q7_in rfl (m7 114 rfl) (m7 115 rfl) ⟨Nat.le_of_ble_eq_true rfl, Nat.le_of_ble_eq_true rfl⟩ hK [] rfl hP [] rfl hS hl.1 rfl (Nat.le_of_ble_eq_true rfl) dX7_block_19 ⟨Nat.zero_le _, Nat.zero_le _⟩ (fun H locs hP hS => ?_)
    refine lv_if_eq (tgt := 29) hx hb dX7_block_22 (by decide) (fun c22_2 => ?_) (fun c22_2 => ?_)
    · skip
      have c22_2 := bI_f c22_2
      refine lv_iconst (v := 2) hx hb dX7_block_29 (by decide) ?_
      refine gp_backi (gp_runV hX good7 i7 (c7_refused l D h rf 2 [.ref sc, .int (nI (ss)), .int (nI (ps.2)), .int (bI (ps.1 = true)), .int (rb), .int (rl), .ref nw, .ref tr, .ref lk, .ref di, .int (nI (ac9)), .ref kp, .ref ik, .ref lv]) q7_refused rfl (m7 117 rfl) (m7 118 rfl) (m7 119 rfl) ⟨Nat.le_of_ble_eq_true rfl, Nat.le_of_ble_eq_true rfl⟩ hK [] rfl hP hD [0] (by decide) rfl (ci := 7) (q0 := 0) rfl rfl rfl hl.1 rfl (Nat.le_of_ble_eq_true rfl) dX7_block_30 ⟨Nat.zero_le _, Nat.zero_le _⟩) hP hD hS [0] rfl (fun r u h => by rw [h.2]; simp only [List.map_cons, List.map_nil]) (fun r9 u H locs hpost hP hD hS => ?_)
      obtain ⟨hr9, rfl⟩ := hpost
      refine lv_as hr9 ?_
      have hP : va_P D vwCl [(h, .inr (7, [.int (2), .ref sc, .int (nI (ss)), .int (nI (ps.2)), .int (bI (ps.1 = true)), .int (rb), .int (rl), .ref nw, .ref tr, .ref lk, .ref di, .int (nI (ac9)), .ref kp, .ref ik, .ref lv])), (nw, .inl (cI, 151, .inl f))] H := hP
      have hD : va_D A [(h, .inr (7, [.int (2), .ref sc, .int (nI (ss)), .int (nI (ps.2)), .int (bI (ps.1 = true)), .int (rb), .int (rl), .ref nw, .ref tr, .ref lk, .ref di, .int (nI (ac9)), .ref kp, .ref ik, .ref lv])), (nw, .inl (cI, 151, .inl f))] := hD
      refine lv_as (show bI (0 < (2 : Int32)) = 1 from by decide) ?_
      refine lv_if_eq (tgt := 38) hx hb dX7_block_33 (by decide) (fun c33_3 => ?_) (fun c33_3 => ?_)
      · skip
        exact absurd c33_3 (by decide)
      · skip
        refine lv_iconst (v := 0) hx hb dX7_block_36 (by decide) ?_
        have hR9 : blR B a w = 2 := by rw [blR, if_pos c6_1, if_neg c22_2]
        have hP : va_P D vwCl [(h, .inr (7, [.int (blR B a w), .ref sc, .int (nI (ss)), .int (nI (ps.2)), .int (bI (ps.1 = true)), .int (rb), .int (rl), .ref nw, .ref tr, .ref lk, .ref di, .int (nI (ac9)), .ref kp, .ref ik, .ref lv])), (nw, .inl (cI, 151, .inl f))] H := by
          rw [show (blR B a w : Int32) = 2 from hR9]
          exact hP
        exact gp_reti hX hr hlocks hS hP ⟨oRn hR9 (by decide), rfl⟩ dX7_block_37
    · skip
      have c22_2 := bI_t c22_2
      refine lv_iconst (v := 0) hx hb dX7_block_25 (by decide) ?_
      refine lv_goto (tgt := 30) hx hb dX7_block_26 (by decide) ?_
      refine gp_backi (gp_runV hX good7 i7 (c7_refused l D h rf 0 [.ref sc, .int (nI (ss)), .int (nI (ps.2)), .int (bI (ps.1 = true)), .int (rb), .int (rl), .ref nw, .ref tr, .ref lk, .ref di, .int (nI (ac9)), .ref kp, .ref ik, .ref lv]) q7_refused rfl (m7 117 rfl) (m7 118 rfl) (m7 119 rfl) ⟨Nat.le_of_ble_eq_true rfl, Nat.le_of_ble_eq_true rfl⟩ hK [] rfl hP hD [0] (by decide) rfl (ci := 7) (q0 := 0) rfl rfl rfl hl.1 rfl (Nat.le_of_ble_eq_true rfl) dX7_block_30 ⟨Nat.zero_le _, Nat.zero_le _⟩) hP hD hS [0] rfl (fun r u h => by rw [h.2]; simp only [List.map_cons, List.map_nil]) (fun r9 u H locs hpost hP hD hS => ?_)
      obtain ⟨hr9, rfl⟩ := hpost
      refine lv_as hr9 ?_
      have hP : va_P D vwCl [(h, .inr (7, [.int (0), .ref sc, .int (nI (ss)), .int (nI (ps.2)), .int (bI (ps.1 = true)), .int (rb), .int (rl), .ref nw, .ref tr, .ref lk, .ref di, .int (nI (ac9)), .ref kp, .ref ik, .ref lv])), (nw, .inl (cI, 151, .inl f))] H := hP
      have hD : va_D A [(h, .inr (7, [.int (0), .ref sc, .int (nI (ss)), .int (nI (ps.2)), .int (bI (ps.1 = true)), .int (rb), .int (rl), .ref nw, .ref tr, .ref lk, .ref di, .int (nI (ac9)), .ref kp, .ref ik, .ref lv])), (nw, .inl (cI, 151, .inl f))] := hD
      refine lv_as (show bI (0 < (0 : Int32)) = 0 from by decide) ?_
      refine lv_if_eq (tgt := 38) hx hb dX7_block_33 (by decide) (fun c33_4 => ?_) (fun c33_4 => ?_)
      · skip
        obtain ⟨a9, ha9, ea9⟩ := rng (n := B - 1) (by omega) c6_1
        have hl : lv_has ls 3 [(0, .ref h), (1, .int (nI (a9))), (2, .int (w))] := lv_re hl 1 rfl ea9
        obtain ⟨j, hj, ej⟩ := rng (n := 5) (by omega) c22_2
        rcases (show j = 0 ∨ j = 1 ∨ j = 2 ∨ j = 3 ∨ j = 4 ∨ j = 5 by omega) with rfl | rfl | rfl | rfl | rfl | rfl
        · skip
          have hl : lv_has ls 3 [(0, .ref h), (1, .int (nI (a9))), (2, .int (0))] := lv_re hl 2 rfl (show w = 0 from ej)
          refine lv_iload_n hx hb dX7_block_38 rfl (lv_at hl 2 rfl) ?_
          refine lv_tableIn (off := 33) (tgt := 72) hx hb dX7_block_39 (by decide) (by decide) (by decide) (by decide) ?_
          refine lv_aload_n hx hb dX7_block_72 rfl (lv_at hl 0 rfl) ?_
          refine va_get (D := D) (ci := 7) (v := .ref nw) (C := RX7) (T := TX7) (N := 15) hx hb hts u7 hown hK hP 0 rfl rfl 7 (by decide) (hts _ (m7 5 rfl)) (fun _ h9 => h9) rfl dX7_block_73 ?_
          refine lv_bipush (v := 15) hx hb dX7_block_76 (by decide) ?_
          refine lv_iload_n hx hb dX7_block_78 rfl (lv_at hl 1 rfl) ?_
          refine lv_iadd hx hb dX7_block_79 ?_
          refine lv_as (y := nI (15 + a9)) (nI_add (15) (a9)) ?_
          refine ra_iald (i := 15 + a9) hx hb hK hP 1 0 rfl rfl (by omega) (by decide) dX7_block_80 ?_
          have hR9 : blR B a w = 0 := by rw [blR, if_pos c6_1, if_pos c22_2]
          have hP : va_P D vwCl [(h, .inr (7, [.int (blR B a w), .ref sc, .int (nI (ss)), .int (nI (ps.2)), .int (bI (ps.1 = true)), .int (rb), .int (rl), .ref nw, .ref tr, .ref lk, .ref di, .int (nI (ac9)), .ref kp, .ref ik, .ref lv])), (nw, .inl (cI, 151, .inl f))] H := by
            rw [show (blR B a w : Int32) = 0 from hR9]
            exact hP
          exact gp_reti hX hr hlocks hS hP ⟨(show f (15 + a9) = blV f B a.toNatClampNeg w.toNatClampNeg from by rw [ea9, nI_clamp (by omega), ej, show (nI 0).toNatClampNeg = 0 from nI_clamp (by decide)]; rfl).trans (oR0 hR9), rfl⟩ dX7_block_81
        · skip
          have hl : lv_has ls 3 [(0, .ref h), (1, .int (nI (a9))), (2, .int (1))] := lv_re hl 2 rfl (show w = 1 from ej)
          refine lv_iload_n hx hb dX7_block_38 rfl (lv_at hl 2 rfl) ?_
          refine lv_tableIn (off := 43) (tgt := 82) hx hb dX7_block_39 (by decide) (by decide) (by decide) (by decide) ?_
          refine lv_aload_n hx hb dX7_block_82 rfl (lv_at hl 0 rfl) ?_
          refine va_get (D := D) (ci := 7) (v := .ref nw) (C := RX7) (T := TX7) (N := 15) hx hb hts u7 hown hK hP 0 rfl rfl 7 (by decide) (hts _ (m7 5 rfl)) (fun _ h9 => h9) rfl dX7_block_83 ?_
          refine lv_iload_n hx hb dX7_block_86 rfl (lv_at hl 1 rfl) ?_
          refine rp_callS hX good7 i7 (c7_liveOf l D cI nw f a9 (by omega) B hW.1 hW.2.1) q7_liveOf rfl (m7 53 rfl) (m7 54 rfl) ⟨Nat.le_of_ble_eq_true rfl, Nat.le_of_ble_eq_true rfl⟩ hK [0] rfl hP [1] rfl hS hl.1 rfl (Nat.le_of_ble_eq_true rfl) dX7_block_87 ⟨Nat.zero_le _, Nat.zero_le _⟩ (fun H locs hP hS => ?_)
          have hR9 : blR B a w = 0 := by rw [blR, if_pos c6_1, if_pos c22_2]
          have hP : va_P D vwCl [(h, .inr (7, [.int (blR B a w), .ref sc, .int (nI (ss)), .int (nI (ps.2)), .int (bI (ps.1 = true)), .int (rb), .int (rl), .ref nw, .ref tr, .ref lk, .ref di, .int (nI (ac9)), .ref kp, .ref ik, .ref lv])), (nw, .inl (cI, 151, .inl f))] H := by
            rw [show (blR B a w : Int32) = 0 from hR9]
            exact hP
          exact gp_reti hX hr hlocks hS hP ⟨(show nI (lvs f B a9 4) = blV f B a.toNatClampNeg w.toNatClampNeg from by rw [ea9, nI_clamp (by omega), ej, show (nI 1).toNatClampNeg = 1 from nI_clamp (by decide)]; rfl).trans (oR0 hR9), rfl⟩ dX7_block_90
        · skip
          have hl : lv_has ls 3 [(0, .ref h), (1, .int (nI (a9))), (2, .int (2))] := lv_re hl 2 rfl (show w = 2 from ej)
          refine lv_iload_n hx hb dX7_block_38 rfl (lv_at hl 2 rfl) ?_
          refine lv_tableIn (off := 52) (tgt := 91) hx hb dX7_block_39 (by decide) (by decide) (by decide) (by decide) ?_
          refine lv_aload_n hx hb dX7_block_91 rfl (lv_at hl 0 rfl) ?_
          refine va_get (D := D) (ci := 7) (v := .ref nw) (C := RX7) (T := TX7) (N := 15) hx hb hts u7 hown hK hP 0 rfl rfl 7 (by decide) (hts _ (m7 5 rfl)) (fun _ h9 => h9) rfl dX7_block_92 ?_
          refine lv_iload_n hx hb dX7_block_95 rfl (lv_at hl 1 rfl) ?_
          refine lv_iconst (v := 0) hx hb dX7_block_96 (by decide) ?_
          refine rp_callS hX good7 i7 (c7_countOf l D cI nw f a9 (by omega) 0) q7_countOf rfl (m7 41 rfl) (m7 42 rfl) ⟨Nat.le_of_ble_eq_true rfl, Nat.le_of_ble_eq_true rfl⟩ hK [0] rfl hP [1] rfl hS hl.1 rfl (Nat.le_of_ble_eq_true rfl) dX7_block_97 ⟨Nat.zero_le _, Nat.zero_le _⟩ (fun H locs hP hS => ?_)
          have hR9 : blR B a w = 0 := by rw [blR, if_pos c6_1, if_pos c22_2]
          have hP : va_P D vwCl [(h, .inr (7, [.int (blR B a w), .ref sc, .int (nI (ss)), .int (nI (ps.2)), .int (bI (ps.1 = true)), .int (rb), .int (rl), .ref nw, .ref tr, .ref lk, .ref di, .int (nI (ac9)), .ref kp, .ref ik, .ref lv])), (nw, .inl (cI, 151, .inl f))] H := by
            rw [show (blR B a w : Int32) = 0 from hR9]
            exact hP
          exact gp_reti hX hr hlocks hS hP ⟨(show nI (cst f a9 0 4) = blV f B a.toNatClampNeg w.toNatClampNeg from by rw [ea9, nI_clamp (by omega), ej, show (nI 2).toNatClampNeg = 2 from nI_clamp (by decide)]; rfl).trans (oR0 hR9), rfl⟩ dX7_block_100
        · skip
          have hl : lv_has ls 3 [(0, .ref h), (1, .int (nI (a9))), (2, .int (3))] := lv_re hl 2 rfl (show w = 3 from ej)
          refine lv_iload_n hx hb dX7_block_38 rfl (lv_at hl 2 rfl) ?_
          refine lv_tableIn (off := 62) (tgt := 101) hx hb dX7_block_39 (by decide) (by decide) (by decide) (by decide) ?_
          refine lv_aload_n hx hb dX7_block_101 rfl (lv_at hl 0 rfl) ?_
          refine va_get (D := D) (ci := 7) (v := .ref nw) (C := RX7) (T := TX7) (N := 15) hx hb hts u7 hown hK hP 0 rfl rfl 7 (by decide) (hts _ (m7 5 rfl)) (fun _ h9 => h9) rfl dX7_block_102 ?_
          refine lv_iload_n hx hb dX7_block_105 rfl (lv_at hl 1 rfl) ?_
          refine lv_iconst (v := 2) hx hb dX7_block_106 (by decide) ?_
          refine rp_callS hX good7 i7 (c7_countOf l D cI nw f a9 (by omega) 2) q7_countOf rfl (m7 41 rfl) (m7 42 rfl) ⟨Nat.le_of_ble_eq_true rfl, Nat.le_of_ble_eq_true rfl⟩ hK [0] rfl hP [1] rfl hS hl.1 rfl (Nat.le_of_ble_eq_true rfl) dX7_block_107 ⟨Nat.zero_le _, Nat.zero_le _⟩ (fun H locs hP hS => ?_)
          have hR9 : blR B a w = 0 := by rw [blR, if_pos c6_1, if_pos c22_2]
          have hP : va_P D vwCl [(h, .inr (7, [.int (blR B a w), .ref sc, .int (nI (ss)), .int (nI (ps.2)), .int (bI (ps.1 = true)), .int (rb), .int (rl), .ref nw, .ref tr, .ref lk, .ref di, .int (nI (ac9)), .ref kp, .ref ik, .ref lv])), (nw, .inl (cI, 151, .inl f))] H := by
            rw [show (blR B a w : Int32) = 0 from hR9]
            exact hP
          exact gp_reti hX hr hlocks hS hP ⟨(show nI (cst f a9 2 4) = blV f B a.toNatClampNeg w.toNatClampNeg from by rw [ea9, nI_clamp (by omega), ej, show (nI 3).toNatClampNeg = 3 from nI_clamp (by decide)]; rfl).trans (oR0 hR9), rfl⟩ dX7_block_110
        · skip
          have hl : lv_has ls 3 [(0, .ref h), (1, .int (nI (a9))), (2, .int (4))] := lv_re hl 2 rfl (show w = 4 from ej)
          refine lv_iload_n hx hb dX7_block_38 rfl (lv_at hl 2 rfl) ?_
          refine lv_tableIn (off := 72) (tgt := 111) hx hb dX7_block_39 (by decide) (by decide) (by decide) (by decide) ?_
          refine lv_aload_n hx hb dX7_block_111 rfl (lv_at hl 0 rfl) ?_
          refine va_get (D := D) (ci := 7) (v := .ref nw) (C := RX7) (T := TX7) (N := 15) hx hb hts u7 hown hK hP 0 rfl rfl 7 (by decide) (hts _ (m7 5 rfl)) (fun _ h9 => h9) rfl dX7_block_112 ?_
          refine lv_bipush (v := 15) hx hb dX7_block_115 (by decide) ?_
          refine lv_iload_n hx hb dX7_block_117 rfl (lv_at hl 1 rfl) ?_
          refine lv_iadd hx hb dX7_block_118 ?_
          refine lv_as (y := nI (15 + a9)) (nI_add (15) (a9)) ?_
          refine ra_iald (i := 15 + a9) hx hb hK hP 1 0 rfl rfl (by omega) (by decide) dX7_block_119 ?_
          refine lv_aload_n hx hb dX7_block_120 rfl (lv_at hl 0 rfl) ?_
          refine va_get (D := D) (ci := 7) (v := .ref nw) (C := RX7) (T := TX7) (N := 15) hx hb hts u7 hown hK hP 0 rfl rfl 7 (by decide) (hts _ (m7 5 rfl)) (fun _ h9 => h9) rfl dX7_block_121 ?_
          refine lv_iconst (v := 1) hx hb dX7_block_124 (by decide) ?_
          refine ra_iald (i := 1) hx hb hK hP 1 0 rfl rfl (by omega) (by decide) dX7_block_125 ?_
          refine lv_icmp_lt (tgt := 133) hx hb dX7_block_126 (by decide) (fun c126_5 => ?_) (fun c126_5 => ?_)
          · skip
            refine lv_iconst (v := 0) hx hb dX7_block_133 (by decide) ?_
            have hR9 : blR B a w = 0 := by rw [blR, if_pos c6_1, if_pos c22_2]
            have hP : va_P D vwCl [(h, .inr (7, [.int (blR B a w), .ref sc, .int (nI (ss)), .int (nI (ps.2)), .int (bI (ps.1 = true)), .int (rb), .int (rl), .ref nw, .ref tr, .ref lk, .ref di, .int (nI (ac9)), .ref kp, .ref ik, .ref lv])), (nw, .inl (cI, 151, .inl f))] H := by
              rw [show (blR B a w : Int32) = 0 from hR9]
              exact hP
            exact gp_reti hX hr hlocks hS hP ⟨(show (0 : Int32) = blV f B a.toNatClampNeg w.toNatClampNeg from by rw [ea9, nI_clamp (by omega), ej, show (nI 4).toNatClampNeg = 4 from nI_clamp (by decide)]; exact (bI_0 (fun z => z c126_5)).symm).trans (oR0 hR9), rfl⟩ dX7_block_134
          · skip
            refine lv_iconst (v := 1) hx hb dX7_block_129 (by decide) ?_
            refine lv_goto (tgt := 134) hx hb dX7_block_130 (by decide) ?_
            have hR9 : blR B a w = 0 := by rw [blR, if_pos c6_1, if_pos c22_2]
            have hP : va_P D vwCl [(h, .inr (7, [.int (blR B a w), .ref sc, .int (nI (ss)), .int (nI (ps.2)), .int (bI (ps.1 = true)), .int (rb), .int (rl), .ref nw, .ref tr, .ref lk, .ref di, .int (nI (ac9)), .ref kp, .ref ik, .ref lv])), (nw, .inl (cI, 151, .inl f))] H := by
              rw [show (blR B a w : Int32) = 0 from hR9]
              exact hP
            exact gp_reti hX hr hlocks hS hP ⟨(show (1 : Int32) = blV f B a.toNatClampNeg w.toNatClampNeg from by rw [ea9, nI_clamp (by omega), ej, show (nI 4).toNatClampNeg = 4 from nI_clamp (by decide)]; exact (bI_1 c126_5).symm).trans (oR0 hR9), rfl⟩ dX7_block_134
        · skip
          have hl : lv_has ls 3 [(0, .ref h), (1, .int (nI (a9))), (2, .int (5))] := lv_re hl 2 rfl (show w = 5 from ej)
          refine lv_iload_n hx hb dX7_block_38 rfl (lv_at hl 2 rfl) ?_
          refine lv_tableOut (tgt := 135) hx hb dX7_block_39 (by decide) (by decide) ?_
          refine lv_aload_n hx hb dX7_block_135 rfl (lv_at hl 0 rfl) ?_
          refine va_get (D := D) (ci := 7) (v := .ref nw) (C := RX7) (T := TX7) (N := 15) hx hb hts u7 hown hK hP 0 rfl rfl 7 (by decide) (hts _ (m7 5 rfl)) (fun _ h9 => h9) rfl dX7_block_136 ?_
          refine lv_iconst (v := 2) hx hb dX7_block_139 (by decide) ?_
          refine ra_iald (i := 2) hx hb hK hP 1 0 rfl rfl (by omega) (by decide) dX7_block_140 ?_
          refine lv_iconst (v := 1) hx hb dX7_block_141 (by decide) ?_
          refine lv_icmp_ne (tgt := 160) hx hb dX7_block_142 (by decide) (fun c142_6 => ?_) (fun c142_6 => ?_)
          · skip
            refine lv_iconst (v := 0) hx hb dX7_block_160 (by decide) ?_
            have hR9 : blR B a w = 0 := by rw [blR, if_pos c6_1, if_pos c22_2]
            have hP : va_P D vwCl [(h, .inr (7, [.int (blR B a w), .ref sc, .int (nI (ss)), .int (nI (ps.2)), .int (bI (ps.1 = true)), .int (rb), .int (rl), .ref nw, .ref tr, .ref lk, .ref di, .int (nI (ac9)), .ref kp, .ref ik, .ref lv])), (nw, .inl (cI, 151, .inl f))] H := by
              rw [show (blR B a w : Int32) = 0 from hR9]
              exact hP
            exact gp_reti hX hr hlocks hS hP ⟨(show (0 : Int32) = blV f B a.toNatClampNeg w.toNatClampNeg from by rw [ea9, nI_clamp (by omega), ej, show (nI 5).toNatClampNeg = 5 from nI_clamp (by decide)]; exact (bI_0 (fun z => c142_6 z.1)).symm).trans (oR0 hR9), rfl⟩ dX7_block_161
          · skip
            refine lv_aload_n hx hb dX7_block_145 rfl (lv_at hl 0 rfl) ?_
            refine va_get (D := D) (ci := 7) (v := .ref nw) (C := RX7) (T := TX7) (N := 15) hx hb hts u7 hown hK hP 0 rfl rfl 7 (by decide) (hts _ (m7 5 rfl)) (fun _ h9 => h9) rfl dX7_block_146 ?_
            refine lv_iload_n hx hb dX7_block_149 rfl (lv_at hl 1 rfl) ?_
            refine rp_callS hX good7 i7 (c7_isVictim l D cI nw f a9 (by omega) B hW.1 hW.2.1 (opn f) hW.2.2.1 hW.2.2.2) q7_isVictim rfl (m7 65 rfl) (m7 66 rfl) ⟨Nat.le_of_ble_eq_true rfl, Nat.le_of_ble_eq_true rfl⟩ hK [0] rfl hP [1] rfl hS hl.1 rfl (Nat.le_of_ble_eq_true rfl) dX7_block_150 ⟨Nat.zero_le _, Nat.zero_le _⟩ (fun H locs hP hS => ?_)
            refine lv_if_eq (tgt := 160) hx hb dX7_block_153 (by decide) (fun c153_7 => ?_) (fun c153_7 => ?_)
            · skip
              have c153_7 := bI_f c153_7
              refine lv_iconst (v := 0) hx hb dX7_block_160 (by decide) ?_
              have hR9 : blR B a w = 0 := by rw [blR, if_pos c6_1, if_pos c22_2]
              have hP : va_P D vwCl [(h, .inr (7, [.int (blR B a w), .ref sc, .int (nI (ss)), .int (nI (ps.2)), .int (bI (ps.1 = true)), .int (rb), .int (rl), .ref nw, .ref tr, .ref lk, .ref di, .int (nI (ac9)), .ref kp, .ref ik, .ref lv])), (nw, .inl (cI, 151, .inl f))] H := by
                rw [show (blR B a w : Int32) = 0 from hR9]
                exact hP
              exact gp_reti hX hr hlocks hS hP ⟨(show (0 : Int32) = blV f B a.toNatClampNeg w.toNatClampNeg from by rw [ea9, nI_clamp (by omega), ej, show (nI 5).toNatClampNeg = 5 from nI_clamp (by decide)]; exact (bI_0 (fun z => c153_7 z.2)).symm).trans (oR0 hR9), rfl⟩ dX7_block_161
            · skip
              have c153_7 := bI_t c153_7
              refine lv_iconst (v := 1) hx hb dX7_block_156 (by decide) ?_
              refine lv_goto (tgt := 161) hx hb dX7_block_157 (by decide) ?_
              have hR9 : blR B a w = 0 := by rw [blR, if_pos c6_1, if_pos c22_2]
              have hP : va_P D vwCl [(h, .inr (7, [.int (blR B a w), .ref sc, .int (nI (ss)), .int (nI (ps.2)), .int (bI (ps.1 = true)), .int (rb), .int (rl), .ref nw, .ref tr, .ref lk, .ref di, .int (nI (ac9)), .ref kp, .ref ik, .ref lv])), (nw, .inl (cI, 151, .inl f))] H := by
                rw [show (blR B a w : Int32) = 0 from hR9]
                exact hP
              exact gp_reti hX hr hlocks hS hP ⟨(show (1 : Int32) = blV f B a.toNatClampNeg w.toNatClampNeg from by rw [ea9, nI_clamp (by omega), ej, show (nI 5).toNatClampNeg = 5 from nI_clamp (by decide)]; exact (bI_1 ⟨c142_6, c153_7⟩).symm).trans (oR0 hR9), rfl⟩ dX7_block_161
      · skip
        exact absurd c33_4 (by decide)
  · skip
    have c6_1 := bI_f c6_1
    refine lv_iconst (v := 1) hx hb dX7_block_9 (by decide) ?_
    refine lv_goto (tgt := 30) hx hb dX7_block_10 (by decide) ?_
    refine gp_backi (gp_runV hX good7 i7 (c7_refused l D h rf 1 [.ref sc, .int (nI (ss)), .int (nI (ps.2)), .int (bI (ps.1 = true)), .int (rb), .int (rl), .ref nw, .ref tr, .ref lk, .ref di, .int (nI (ac9)), .ref kp, .ref ik, .ref lv]) q7_refused rfl (m7 117 rfl) (m7 118 rfl) (m7 119 rfl) ⟨Nat.le_of_ble_eq_true rfl, Nat.le_of_ble_eq_true rfl⟩ hK [] rfl hP hD [0] (by decide) rfl (ci := 7) (q0 := 0) rfl rfl rfl hl.1 rfl (Nat.le_of_ble_eq_true rfl) dX7_block_30 ⟨Nat.zero_le _, Nat.zero_le _⟩) hP hD hS [0] rfl (fun r u h => by rw [h.2]; simp only [List.map_cons, List.map_nil]) (fun r9 u H locs hpost hP hD hS => ?_)
    obtain ⟨hr9, rfl⟩ := hpost
    refine lv_as hr9 ?_
    have hP : va_P D vwCl [(h, .inr (7, [.int (1), .ref sc, .int (nI (ss)), .int (nI (ps.2)), .int (bI (ps.1 = true)), .int (rb), .int (rl), .ref nw, .ref tr, .ref lk, .ref di, .int (nI (ac9)), .ref kp, .ref ik, .ref lv])), (nw, .inl (cI, 151, .inl f))] H := hP
    have hD : va_D A [(h, .inr (7, [.int (1), .ref sc, .int (nI (ss)), .int (nI (ps.2)), .int (bI (ps.1 = true)), .int (rb), .int (rl), .ref nw, .ref tr, .ref lk, .ref di, .int (nI (ac9)), .ref kp, .ref ik, .ref lv])), (nw, .inl (cI, 151, .inl f))] := hD
    refine lv_as (show bI (0 < (1 : Int32)) = 1 from by decide) ?_
    refine lv_if_eq (tgt := 38) hx hb dX7_block_33 (by decide) (fun c33_8 => ?_) (fun c33_8 => ?_)
    · skip
      exact absurd c33_8 (by decide)
    · skip
      refine lv_iconst (v := 0) hx hb dX7_block_36 (by decide) ?_
      have hR9 : blR B a w = 1 := by rw [blR, if_neg c6_1]
      have hP : va_P D vwCl [(h, .inr (7, [.int (blR B a w), .ref sc, .int (nI (ss)), .int (nI (ps.2)), .int (bI (ps.1 = true)), .int (rb), .int (rl), .ref nw, .ref tr, .ref lk, .ref di, .int (nI (ac9)), .ref kp, .ref ik, .ref lv])), (nw, .inl (cI, 151, .inl f))] H := by
        rw [show (blR B a w : Int32) = 1 from hR9]
        exact hP
      exact gp_reti hX hr hlocks hS hP ⟨oRn hR9 (by decide), rfl⟩ dX7_block_37
