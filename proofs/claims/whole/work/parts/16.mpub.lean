theorem dX7_get_0 : decode cX7_get 0 = .ok (.aload_n 0, 1) := by decide +kernel
theorem dX7_get_1 : decode cX7_get 1 = .ok (.iload_n 1, 1) := by decide +kernel
theorem dX7_get_2 : decode cX7_get 2 = .ok (.invokestatic 230, 3) := by decide +kernel
theorem dX7_get_5 : decode cX7_get 5 = .ok (.ifCond .ne 7, 3) := by decide +kernel
theorem dX7_get_8 : decode cX7_get 8 = .ok (.iconst 1, 1) := by decide +kernel
theorem dX7_get_9 : decode cX7_get 9 = .ok (.goto 17, 3) := by decide +kernel
theorem dX7_get_12 : decode cX7_get 12 = .ok (.aload_n 0, 1) := by decide +kernel
theorem dX7_get_13 : decode cX7_get 13 = .ok (.getfield 13, 3) := by decide +kernel
theorem dX7_get_16 : decode cX7_get 16 = .ok (.iconst 2, 1) := by decide +kernel
theorem dX7_get_17 : decode cX7_get 17 = .ok (.iaload, 1) := by decide +kernel
theorem dX7_get_18 : decode cX7_get 18 = .ok (.ifCond .ne 7, 3) := by decide +kernel
theorem dX7_get_21 : decode cX7_get 21 = .ok (.iconst 2, 1) := by decide +kernel
theorem dX7_get_22 : decode cX7_get 22 = .ok (.goto 4, 3) := by decide +kernel
theorem dX7_get_25 : decode cX7_get 25 = .ok (.iconst 0, 1) := by decide +kernel
theorem dX7_get_26 : decode cX7_get 26 = .ok (.invokevirtual 154, 3) := by decide +kernel
theorem dX7_get_29 : decode cX7_get 29 = .ok (.ifCond .eq 7, 3) := by decide +kernel
theorem dX7_get_32 : decode cX7_get 32 = .ok (.iconst 0, 1) := by decide +kernel
theorem dX7_get_33 : decode cX7_get 33 = .ok (.goto 11, 3) := by decide +kernel
theorem dX7_get_36 : decode cX7_get 36 = .ok (.aload_n 0, 1) := by decide +kernel
theorem dX7_get_37 : decode cX7_get 37 = .ok (.getfield 13, 3) := by decide +kernel
theorem dX7_get_40 : decode cX7_get 40 = .ok (.iload_n 1, 1) := by decide +kernel
theorem dX7_get_41 : decode cX7_get 41 = .ok (.invokestatic 68, 3) := by decide +kernel
theorem dX7_get_44 : decode cX7_get 44 = .ok (.ireturn, 1) := by decide +kernel
set_option maxHeartbeats 4000000 in
set_option maxRecDepth 100000 in
theorem c7_get (l : Launch) (D : va_G) (cI cZ : ClassId) (h sc nw tr lk di kp ik lv : Nat) (rf rb rl : Int32) (ac9 : Nat) (ss : Nat) (ps : Bool × Nat) (f : Nat → Int32) (B : Nat) (hW : Wf f B) (k : Int32) : GPi l yX7_get cX7_get 2 .int W7 4 88 D [(h, .inr (7, [.int (rf), .ref sc, .int (nI (ss)), .int (nI (ps.2)), .int (bI (ps.1 = true)), .int (rb), .int (rl), .ref nw, .ref tr, .ref lk, .ref di, .int (nI (ac9)), .ref kp, .ref ik, .ref lv])), (nw, .inl (cI, 151, .inl f))] [(cI, .int)] [.ref h, .int (k)] (fun (r9 : Int32) (u9 : va_W) => r9 = (if getR f k = 0 then vlu f k B else 0) ∧ u9 = [(h, .inr (7, [.int (getR f k), .ref sc, .int (nI (ss)), .int (nI (ps.2)), .int (bI (ps.1 = true)), .int (rb), .int (rl), .ref nw, .ref tr, .ref lk, .ref di, .int (nI (ac9)), .ref kp, .ref ik, .ref lv])), (nw, .inl (cI, 151, .inl f))]) := by
  refine gp_of RX7 (by decide) rfl (Nat.le_of_ble_eq_true rfl) ?_
  intro p e s m below meth c ls H hX hr hlocks hK hP hD hS hl
  generalize gp_A [(h, .inr (7, [.int (rf), .ref sc, .int (nI (ss)), .int (nI (ps.2)), .int (bI (ps.1 = true)), .int (rb), .int (rl), .ref nw, .ref tr, .ref lk, .ref di, .int (nI (ac9)), .ref kp, .ref ik, .ref lv])), (nw, .inl (cI, 151, .inl f))] = A at hD hS ⊢
  have hx := hX.1
  have hb := hX.2.1
  have hown := hX.2.2.2.1
  have hts := hX.2.2.2.2
  have hl : lv_has ls 2 [(0, .ref h), (1, .int (k))] := hl
  have hB8 := hW.2.1
  refine lv_aload_n hx hb dX7_get_0 rfl (lv_at hl 0 rfl) ?_
  refine lv_iload_n hx hb dX7_get_1 rfl (lv_at hl 1 rfl) ?_
  refine rp_callS hX good7 i7 (c7_isKey l D k) q7_isKey rfl (m7 186 rfl) (m7 187 rfl) ⟨Nat.le_of_ble_eq_true rfl, Nat.le_of_ble_eq_true rfl⟩ hK [] rfl hP [] rfl hS hl.1 rfl (Nat.le_of_ble_eq_true rfl) dX7_get_2 ⟨Nat.zero_le _, Nat.zero_le _⟩ (fun H locs hP hS => ?_)
  refine lv_if_ne (tgt := 12) hx hb dX7_get_5 (by decide) (fun c5_1 => ?_) (fun c5_1 => ?_)
  · skip
    have c5_1 := bI_t c5_1
    refine lv_aload_n hx hb dX7_get_12 rfl (lv_at hl 0 rfl) ?_
    refine va_get (D := D) (ci := 7) (v := .ref nw) (C := RX7) (T := TX7) (N := 15) hx hb hts u7 hown hK hP 0 rfl rfl 7 (by decide) (hts _ (m7 5 rfl)) (fun _ h9 => h9) rfl dX7_get_13 ?_
    refine lv_iconst (v := 2) hx hb dX7_get_16 (by decide) ?_
    refine ra_iald (i := 2) hx hb hK hP 1 0 rfl rfl (by omega) (by decide) dX7_get_17 ?_
    refine lv_if_ne (tgt := 25) hx hb dX7_get_18 (by decide) (fun c18_2 => ?_) (fun c18_2 => ?_)
    · skip
      refine lv_iconst (v := 0) hx hb dX7_get_25 (by decide) ?_
      refine gp_backi (gp_runV hX good7 i7 (c7_refused l D h rf 0 [.ref sc, .int (nI (ss)), .int (nI (ps.2)), .int (bI (ps.1 = true)), .int (rb), .int (rl), .ref nw, .ref tr, .ref lk, .ref di, .int (nI (ac9)), .ref kp, .ref ik, .ref lv]) q7_refused rfl (m7 117 rfl) (m7 118 rfl) (m7 119 rfl) ⟨Nat.le_of_ble_eq_true rfl, Nat.le_of_ble_eq_true rfl⟩ hK [] rfl hP hD [0] (by decide) rfl (ci := 7) (q0 := 0) rfl rfl rfl hl.1 rfl (Nat.le_of_ble_eq_true rfl) dX7_get_26 ⟨Nat.zero_le _, Nat.zero_le _⟩) hP hD hS [0] rfl (fun r u h => by rw [h.2]; simp only [List.map_cons, List.map_nil]) (fun r9 u H locs hpost hP hD hS => ?_)
      obtain ⟨hr9, rfl⟩ := hpost
      refine lv_as hr9 ?_
      have hP : va_P D vwCl [(h, .inr (7, [.int (0), .ref sc, .int (nI (ss)), .int (nI (ps.2)), .int (bI (ps.1 = true)), .int (rb), .int (rl), .ref nw, .ref tr, .ref lk, .ref di, .int (nI (ac9)), .ref kp, .ref ik, .ref lv])), (nw, .inl (cI, 151, .inl f))] H := hP
      have hD : va_D A [(h, .inr (7, [.int (0), .ref sc, .int (nI (ss)), .int (nI (ps.2)), .int (bI (ps.1 = true)), .int (rb), .int (rl), .ref nw, .ref tr, .ref lk, .ref di, .int (nI (ac9)), .ref kp, .ref ik, .ref lv])), (nw, .inl (cI, 151, .inl f))] := hD
      refine lv_as (show bI (0 < (0 : Int32)) = 0 from by decide) ?_
      refine lv_if_eq (tgt := 36) hx hb dX7_get_29 (by decide) (fun c29_3 => ?_) (fun c29_3 => ?_)
      · skip
        refine lv_aload_n hx hb dX7_get_36 rfl (lv_at hl 0 rfl) ?_
        refine va_get (D := D) (ci := 7) (v := .ref nw) (C := RX7) (T := TX7) (N := 15) hx hb hts u7 hown hK hP 0 rfl rfl 7 (by decide) (hts _ (m7 5 rfl)) (fun _ h9 => h9) rfl dX7_get_37 ?_
        refine lv_iload_n hx hb dX7_get_40 rfl (lv_at hl 1 rfl) ?_
        refine rp_callS hX good7 i7 (c7_valueOf l D cI nw f k B hW.1 hW.2.1) q7_valueOf rfl (m7 35 rfl) (m7 36 rfl) ⟨Nat.le_of_ble_eq_true rfl, Nat.le_of_ble_eq_true rfl⟩ hK [0] rfl hP [1] rfl hS hl.1 rfl (Nat.le_of_ble_eq_true rfl) dX7_get_41 ⟨Nat.zero_le _, Nat.zero_le _⟩ (fun H locs hP hS => ?_)
        have hR9 : getR f k = 0 := by rw [getR, if_pos c5_1, if_neg c18_2]
        have hP : va_P D vwCl [(h, .inr (7, [.int (getR f k), .ref sc, .int (nI (ss)), .int (nI (ps.2)), .int (bI (ps.1 = true)), .int (rb), .int (rl), .ref nw, .ref tr, .ref lk, .ref di, .int (nI (ac9)), .ref kp, .ref ik, .ref lv])), (nw, .inl (cI, 151, .inl f))] H := by
          rw [show (getR f k : Int32) = 0 from hR9]
          exact hP
        exact gp_reti hX hr hlocks hS hP ⟨oR0 hR9, rfl⟩ dX7_get_44
      · skip
        exact absurd c29_3 (by decide)
    · skip
      refine lv_iconst (v := 2) hx hb dX7_get_21 (by decide) ?_
      refine lv_goto (tgt := 26) hx hb dX7_get_22 (by decide) ?_
      refine gp_backi (gp_runV hX good7 i7 (c7_refused l D h rf 2 [.ref sc, .int (nI (ss)), .int (nI (ps.2)), .int (bI (ps.1 = true)), .int (rb), .int (rl), .ref nw, .ref tr, .ref lk, .ref di, .int (nI (ac9)), .ref kp, .ref ik, .ref lv]) q7_refused rfl (m7 117 rfl) (m7 118 rfl) (m7 119 rfl) ⟨Nat.le_of_ble_eq_true rfl, Nat.le_of_ble_eq_true rfl⟩ hK [] rfl hP hD [0] (by decide) rfl (ci := 7) (q0 := 0) rfl rfl rfl hl.1 rfl (Nat.le_of_ble_eq_true rfl) dX7_get_26 ⟨Nat.zero_le _, Nat.zero_le _⟩) hP hD hS [0] rfl (fun r u h => by rw [h.2]; simp only [List.map_cons, List.map_nil]) (fun r9 u H locs hpost hP hD hS => ?_)
      obtain ⟨hr9, rfl⟩ := hpost
      refine lv_as hr9 ?_
      have hP : va_P D vwCl [(h, .inr (7, [.int (2), .ref sc, .int (nI (ss)), .int (nI (ps.2)), .int (bI (ps.1 = true)), .int (rb), .int (rl), .ref nw, .ref tr, .ref lk, .ref di, .int (nI (ac9)), .ref kp, .ref ik, .ref lv])), (nw, .inl (cI, 151, .inl f))] H := hP
      have hD : va_D A [(h, .inr (7, [.int (2), .ref sc, .int (nI (ss)), .int (nI (ps.2)), .int (bI (ps.1 = true)), .int (rb), .int (rl), .ref nw, .ref tr, .ref lk, .ref di, .int (nI (ac9)), .ref kp, .ref ik, .ref lv])), (nw, .inl (cI, 151, .inl f))] := hD
      refine lv_as (show bI (0 < (2 : Int32)) = 1 from by decide) ?_
      refine lv_if_eq (tgt := 36) hx hb dX7_get_29 (by decide) (fun c29_4 => ?_) (fun c29_4 => ?_)
      · skip
        exact absurd c29_4 (by decide)
      · skip
        refine lv_iconst (v := 0) hx hb dX7_get_32 (by decide) ?_
        refine lv_goto (tgt := 44) hx hb dX7_get_33 (by decide) ?_
        have hR9 : getR f k = 2 := by rw [getR, if_pos c5_1, if_pos c18_2]
        have hP : va_P D vwCl [(h, .inr (7, [.int (getR f k), .ref sc, .int (nI (ss)), .int (nI (ps.2)), .int (bI (ps.1 = true)), .int (rb), .int (rl), .ref nw, .ref tr, .ref lk, .ref di, .int (nI (ac9)), .ref kp, .ref ik, .ref lv])), (nw, .inl (cI, 151, .inl f))] H := by
          rw [show (getR f k : Int32) = 2 from hR9]
          exact hP
        exact gp_reti hX hr hlocks hS hP ⟨oRn hR9 (by decide), rfl⟩ dX7_get_44
  · skip
    have c5_1 := bI_f c5_1
    refine lv_iconst (v := 1) hx hb dX7_get_8 (by decide) ?_
    refine lv_goto (tgt := 26) hx hb dX7_get_9 (by decide) ?_
    refine gp_backi (gp_runV hX good7 i7 (c7_refused l D h rf 1 [.ref sc, .int (nI (ss)), .int (nI (ps.2)), .int (bI (ps.1 = true)), .int (rb), .int (rl), .ref nw, .ref tr, .ref lk, .ref di, .int (nI (ac9)), .ref kp, .ref ik, .ref lv]) q7_refused rfl (m7 117 rfl) (m7 118 rfl) (m7 119 rfl) ⟨Nat.le_of_ble_eq_true rfl, Nat.le_of_ble_eq_true rfl⟩ hK [] rfl hP hD [0] (by decide) rfl (ci := 7) (q0 := 0) rfl rfl rfl hl.1 rfl (Nat.le_of_ble_eq_true rfl) dX7_get_26 ⟨Nat.zero_le _, Nat.zero_le _⟩) hP hD hS [0] rfl (fun r u h => by rw [h.2]; simp only [List.map_cons, List.map_nil]) (fun r9 u H locs hpost hP hD hS => ?_)
    obtain ⟨hr9, rfl⟩ := hpost
    refine lv_as hr9 ?_
    have hP : va_P D vwCl [(h, .inr (7, [.int (1), .ref sc, .int (nI (ss)), .int (nI (ps.2)), .int (bI (ps.1 = true)), .int (rb), .int (rl), .ref nw, .ref tr, .ref lk, .ref di, .int (nI (ac9)), .ref kp, .ref ik, .ref lv])), (nw, .inl (cI, 151, .inl f))] H := hP
    have hD : va_D A [(h, .inr (7, [.int (1), .ref sc, .int (nI (ss)), .int (nI (ps.2)), .int (bI (ps.1 = true)), .int (rb), .int (rl), .ref nw, .ref tr, .ref lk, .ref di, .int (nI (ac9)), .ref kp, .ref ik, .ref lv])), (nw, .inl (cI, 151, .inl f))] := hD
    refine lv_as (show bI (0 < (1 : Int32)) = 1 from by decide) ?_
    refine lv_if_eq (tgt := 36) hx hb dX7_get_29 (by decide) (fun c29_5 => ?_) (fun c29_5 => ?_)
    · skip
      exact absurd c29_5 (by decide)
    · skip
      refine lv_iconst (v := 0) hx hb dX7_get_32 (by decide) ?_
      refine lv_goto (tgt := 44) hx hb dX7_get_33 (by decide) ?_
      have hR9 : getR f k = 1 := by rw [getR, if_neg c5_1]
      have hP : va_P D vwCl [(h, .inr (7, [.int (getR f k), .ref sc, .int (nI (ss)), .int (nI (ps.2)), .int (bI (ps.1 = true)), .int (rb), .int (rl), .ref nw, .ref tr, .ref lk, .ref di, .int (nI (ac9)), .ref kp, .ref ik, .ref lv])), (nw, .inl (cI, 151, .inl f))] H := by
        rw [show (getR f k : Int32) = 1 from hR9]
        exact hP
      exact gp_reti hX hr hlocks hS hP ⟨oRn hR9 (by decide), rfl⟩ dX7_get_44
theorem dX7_newest_0 : decode cX7_newest 0 = .ok (.aload_n 0, 1) := by decide +kernel
theorem dX7_newest_1 : decode cX7_newest 1 = .ok (.iload_n 1, 1) := by decide +kernel
theorem dX7_newest_2 : decode cX7_newest 2 = .ok (.invokestatic 230, 3) := by decide +kernel
theorem dX7_newest_5 : decode cX7_newest 5 = .ok (.ifCond .eq 7, 3) := by decide +kernel
theorem dX7_newest_8 : decode cX7_newest 8 = .ok (.iconst 0, 1) := by decide +kernel
theorem dX7_newest_9 : decode cX7_newest 9 = .ok (.goto 4, 3) := by decide +kernel
theorem dX7_newest_12 : decode cX7_newest 12 = .ok (.iconst 1, 1) := by decide +kernel
theorem dX7_newest_13 : decode cX7_newest 13 = .ok (.invokevirtual 154, 3) := by decide +kernel
theorem dX7_newest_16 : decode cX7_newest 16 = .ok (.ifCond .eq 7, 3) := by decide +kernel
theorem dX7_newest_19 : decode cX7_newest 19 = .ok (.iconst 0, 1) := by decide +kernel
theorem dX7_newest_20 : decode cX7_newest 20 = .ok (.goto 11, 3) := by decide +kernel
theorem dX7_newest_23 : decode cX7_newest 23 = .ok (.aload_n 0, 1) := by decide +kernel
theorem dX7_newest_24 : decode cX7_newest 24 = .ok (.getfield 13, 3) := by decide +kernel
theorem dX7_newest_27 : decode cX7_newest 27 = .ok (.iload_n 1, 1) := by decide +kernel
theorem dX7_newest_28 : decode cX7_newest 28 = .ok (.invokestatic 64, 3) := by decide +kernel
theorem dX7_newest_31 : decode cX7_newest 31 = .ok (.ireturn, 1) := by decide +kernel
set_option maxHeartbeats 4000000 in
set_option maxRecDepth 100000 in
theorem c7_newest (l : Launch) (D : va_G) (cI cZ : ClassId) (h sc nw tr lk di kp ik lv : Nat) (rf rb rl : Int32) (ac9 : Nat) (ss : Nat) (ps : Bool × Nat) (f : Nat → Int32) (B : Nat) (hW : Wf f B) (k : Int32) : GPi l yX7_newest cX7_newest 2 .int W7 3 66 D [(h, .inr (7, [.int (rf), .ref sc, .int (nI (ss)), .int (nI (ps.2)), .int (bI (ps.1 = true)), .int (rb), .int (rl), .ref nw, .ref tr, .ref lk, .ref di, .int (nI (ac9)), .ref kp, .ref ik, .ref lv])), (nw, .inl (cI, 151, .inl f))] [(cI, .int)] [.ref h, .int (k)] (fun (r9 : Int32) (u9 : va_W) => r9 = (if keyR k = 0 then oI (nwst f k (4 * B)) else 0) ∧ u9 = [(h, .inr (7, [.int (keyR k), .ref sc, .int (nI (ss)), .int (nI (ps.2)), .int (bI (ps.1 = true)), .int (rb), .int (rl), .ref nw, .ref tr, .ref lk, .ref di, .int (nI (ac9)), .ref kp, .ref ik, .ref lv])), (nw, .inl (cI, 151, .inl f))]) := by
  refine gp_of RX7 (by decide) rfl (Nat.le_of_ble_eq_true rfl) ?_
  intro p e s m below meth c ls H hX hr hlocks hK hP hD hS hl
  generalize gp_A [(h, .inr (7, [.int (rf), .ref sc, .int (nI (ss)), .int (nI (ps.2)), .int (bI (ps.1 = true)), .int (rb), .int (rl), .ref nw, .ref tr, .ref lk, .ref di, .int (nI (ac9)), .ref kp, .ref ik, .ref lv])), (nw, .inl (cI, 151, .inl f))] = A at hD hS ⊢
  have hx := hX.1
  have hb := hX.2.1
  have hown := hX.2.2.2.1
  have hts := hX.2.2.2.2
  have hl : lv_has ls 2 [(0, .ref h), (1, .int (k))] := hl
  have hB8 := hW.2.1
  refine lv_aload_n hx hb dX7_newest_0 rfl (lv_at hl 0 rfl) ?_
  refine lv_iload_n hx hb dX7_newest_1 rfl (lv_at hl 1 rfl) ?_
  refine rp_callS hX good7 i7 (c7_isKey l D k) q7_isKey rfl (m7 186 rfl) (m7 187 rfl) ⟨Nat.le_of_ble_eq_true rfl, Nat.le_of_ble_eq_true rfl⟩ hK [] rfl hP [] rfl hS hl.1 rfl (Nat.le_of_ble_eq_true rfl) dX7_newest_2 ⟨Nat.zero_le _, Nat.zero_le _⟩ (fun H locs hP hS => ?_)
  refine lv_if_eq (tgt := 12) hx hb dX7_newest_5 (by decide) (fun c5_1 => ?_) (fun c5_1 => ?_)
  · skip
    have c5_1 := bI_f c5_1
    refine lv_iconst (v := 1) hx hb dX7_newest_12 (by decide) ?_
    refine gp_backi (gp_runV hX good7 i7 (c7_refused l D h rf 1 [.ref sc, .int (nI (ss)), .int (nI (ps.2)), .int (bI (ps.1 = true)), .int (rb), .int (rl), .ref nw, .ref tr, .ref lk, .ref di, .int (nI (ac9)), .ref kp, .ref ik, .ref lv]) q7_refused rfl (m7 117 rfl) (m7 118 rfl) (m7 119 rfl) ⟨Nat.le_of_ble_eq_true rfl, Nat.le_of_ble_eq_true rfl⟩ hK [] rfl hP hD [0] (by decide) rfl (ci := 7) (q0 := 0) rfl rfl rfl hl.1 rfl (Nat.le_of_ble_eq_true rfl) dX7_newest_13 ⟨Nat.zero_le _, Nat.zero_le _⟩) hP hD hS [0] rfl (fun r u h => by rw [h.2]; simp only [List.map_cons, List.map_nil]) (fun r9 u H locs hpost hP hD hS => ?_)
    obtain ⟨hr9, rfl⟩ := hpost
    refine lv_as hr9 ?_
    have hP : va_P D vwCl [(h, .inr (7, [.int (1), .ref sc, .int (nI (ss)), .int (nI (ps.2)), .int (bI (ps.1 = true)), .int (rb), .int (rl), .ref nw, .ref tr, .ref lk, .ref di, .int (nI (ac9)), .ref kp, .ref ik, .ref lv])), (nw, .inl (cI, 151, .inl f))] H := hP
    have hD : va_D A [(h, .inr (7, [.int (1), .ref sc, .int (nI (ss)), .int (nI (ps.2)), .int (bI (ps.1 = true)), .int (rb), .int (rl), .ref nw, .ref tr, .ref lk, .ref di, .int (nI (ac9)), .ref kp, .ref ik, .ref lv])), (nw, .inl (cI, 151, .inl f))] := hD
    refine lv_as (show bI (0 < (1 : Int32)) = 1 from by decide) ?_
    refine lv_if_eq (tgt := 23) hx hb dX7_newest_16 (by decide) (fun c16_2 => ?_) (fun c16_2 => ?_)
    · skip
      exact absurd c16_2 (by decide)
    · skip
      refine lv_iconst (v := 0) hx hb dX7_newest_19 (by decide) ?_
      refine lv_goto (tgt := 31) hx hb dX7_newest_20 (by decide) ?_
      have hR9 : keyR k = 1 := by rw [keyR, if_neg c5_1]
      have hP : va_P D vwCl [(h, .inr (7, [.int (keyR k), .ref sc, .int (nI (ss)), .int (nI (ps.2)), .int (bI (ps.1 = true)), .int (rb), .int (rl), .ref nw, .ref tr, .ref lk, .ref di, .int (nI (ac9)), .ref kp, .ref ik, .ref lv])), (nw, .inl (cI, 151, .inl f))] H := by
        rw [show (keyR k : Int32) = 1 from hR9]
        exact hP
      exact gp_reti hX hr hlocks hS hP ⟨oRn hR9 (by decide), rfl⟩ dX7_newest_31
  · skip
    have c5_1 := bI_t c5_1
    refine lv_iconst (v := 0) hx hb dX7_newest_8 (by decide) ?_
    refine lv_goto (tgt := 13) hx hb dX7_newest_9 (by decide) ?_
    refine gp_backi (gp_runV hX good7 i7 (c7_refused l D h rf 0 [.ref sc, .int (nI (ss)), .int (nI (ps.2)), .int (bI (ps.1 = true)), .int (rb), .int (rl), .ref nw, .ref tr, .ref lk, .ref di, .int (nI (ac9)), .ref kp, .ref ik, .ref lv]) q7_refused rfl (m7 117 rfl) (m7 118 rfl) (m7 119 rfl) ⟨Nat.le_of_ble_eq_true rfl, Nat.le_of_ble_eq_true rfl⟩ hK [] rfl hP hD [0] (by decide) rfl (ci := 7) (q0 := 0) rfl rfl rfl hl.1 rfl (Nat.le_of_ble_eq_true rfl) dX7_newest_13 ⟨Nat.zero_le _, Nat.zero_le _⟩) hP hD hS [0] rfl (fun r u h => by rw [h.2]; simp only [List.map_cons, List.map_nil]) (fun r9 u H locs hpost hP hD hS => ?_)
    obtain ⟨hr9, rfl⟩ := hpost
    refine lv_as hr9 ?_
    have hP : va_P D vwCl [(h, .inr (7, [.int (0), .ref sc, .int (nI (ss)), .int (nI (ps.2)), .int (bI (ps.1 = true)), .int (rb), .int (rl), .ref nw, .ref tr, .ref lk, .ref di, .int (nI (ac9)), .ref kp, .ref ik, .ref lv])), (nw, .inl (cI, 151, .inl f))] H := hP
    have hD : va_D A [(h, .inr (7, [.int (0), .ref sc, .int (nI (ss)), .int (nI (ps.2)), .int (bI (ps.1 = true)), .int (rb), .int (rl), .ref nw, .ref tr, .ref lk, .ref di, .int (nI (ac9)), .ref kp, .ref ik, .ref lv])), (nw, .inl (cI, 151, .inl f))] := hD
    refine lv_as (show bI (0 < (0 : Int32)) = 0 from by decide) ?_
    refine lv_if_eq (tgt := 23) hx hb dX7_newest_16 (by decide) (fun c16_3 => ?_) (fun c16_3 => ?_)
    · skip
      refine lv_aload_n hx hb dX7_newest_23 rfl (lv_at hl 0 rfl) ?_
      refine va_get (D := D) (ci := 7) (v := .ref nw) (C := RX7) (T := TX7) (N := 15) hx hb hts u7 hown hK hP 0 rfl rfl 7 (by decide) (hts _ (m7 5 rfl)) (fun _ h9 => h9) rfl dX7_newest_24 ?_
      refine lv_iload_n hx hb dX7_newest_27 rfl (lv_at hl 1 rfl) ?_
      refine rp_callS hX good7 i7 (c7_newestOf l D cI nw f k B hW.1 hW.2.1) q7_newestOf rfl (m7 32 rfl) (m7 33 rfl) ⟨Nat.le_of_ble_eq_true rfl, Nat.le_of_ble_eq_true rfl⟩ hK [0] rfl hP [1] rfl hS hl.1 rfl (Nat.le_of_ble_eq_true rfl) dX7_newest_28 ⟨Nat.zero_le _, Nat.zero_le _⟩ (fun H locs hP hS => ?_)
      have hR9 : keyR k = 0 := by rw [keyR, if_pos c5_1]
      have hP : va_P D vwCl [(h, .inr (7, [.int (keyR k), .ref sc, .int (nI (ss)), .int (nI (ps.2)), .int (bI (ps.1 = true)), .int (rb), .int (rl), .ref nw, .ref tr, .ref lk, .ref di, .int (nI (ac9)), .ref kp, .ref ik, .ref lv])), (nw, .inl (cI, 151, .inl f))] H := by
        rw [show (keyR k : Int32) = 0 from hR9]
        exact hP
      exact gp_reti hX hr hlocks hS hP ⟨oR0 hR9, rfl⟩ dX7_newest_31
    · skip
      exact absurd c16_3 (by decide)
theorem dX7_lastCut_0 : decode cX7_lastCut 0 = .ok (.aload_n 0, 1) := by decide +kernel
theorem dX7_lastCut_1 : decode cX7_lastCut 1 = .ok (.iload_n 1, 1) := by decide +kernel
theorem dX7_lastCut_2 : decode cX7_lastCut 2 = .ok (.i2l, 1) := by decide +kernel
theorem dX7_lastCut_3 : decode cX7_lastCut 3 = .ok (.lconst 0, 1) := by decide +kernel
theorem dX7_lastCut_4 : decode cX7_lastCut 4 = .ok (.ldc2_w 233, 3) := by decide +kernel
theorem dX7_lastCut_7 : decode cX7_lastCut 7 = .ok (.invokestatic 147, 3) := by decide +kernel
theorem dX7_lastCut_10 : decode cX7_lastCut 10 = .ok (.ifCond .eq 7, 3) := by decide +kernel
theorem dX7_lastCut_13 : decode cX7_lastCut 13 = .ok (.iconst 0, 1) := by decide +kernel
theorem dX7_lastCut_14 : decode cX7_lastCut 14 = .ok (.goto 4, 3) := by decide +kernel
theorem dX7_lastCut_17 : decode cX7_lastCut 17 = .ok (.iconst 1, 1) := by decide +kernel
theorem dX7_lastCut_18 : decode cX7_lastCut 18 = .ok (.invokevirtual 154, 3) := by decide +kernel
theorem dX7_lastCut_21 : decode cX7_lastCut 21 = .ok (.ifCond .eq 7, 3) := by decide +kernel
theorem dX7_lastCut_24 : decode cX7_lastCut 24 = .ok (.iconst 0, 1) := by decide +kernel
theorem dX7_lastCut_25 : decode cX7_lastCut 25 = .ok (.goto 12, 3) := by decide +kernel
theorem dX7_lastCut_28 : decode cX7_lastCut 28 = .ok (.aload_n 0, 1) := by decide +kernel
theorem dX7_lastCut_29 : decode cX7_lastCut 29 = .ok (.getfield 13, 3) := by decide +kernel
theorem dX7_lastCut_32 : decode cX7_lastCut 32 = .ok (.bipush 12, 2) := by decide +kernel
theorem dX7_lastCut_34 : decode cX7_lastCut 34 = .ok (.iload_n 1, 1) := by decide +kernel
theorem dX7_lastCut_35 : decode cX7_lastCut 35 = .ok (.iadd, 1) := by decide +kernel
theorem dX7_lastCut_36 : decode cX7_lastCut 36 = .ok (.iaload, 1) := by decide +kernel
theorem dX7_lastCut_37 : decode cX7_lastCut 37 = .ok (.ireturn, 1) := by decide +kernel
set_option maxHeartbeats 4000000 in
set_option maxRecDepth 100000 in
theorem c7_lastCut (l : Launch) (D : va_G) (cI cZ : ClassId) (h sc nw tr lk di kp ik lv : Nat) (rf rb rl : Int32) (ac9 : Nat) (ss : Nat) (ps : Bool × Nat) (f : Nat → Int32) (B : Nat) (hW : Wf f B) (w : Int32) : GPi l yX7_lastCut cX7_lastCut 2 .int W7 1 25 D [(h, .inr (7, [.int (rf), .ref sc, .int (nI (ss)), .int (nI (ps.2)), .int (bI (ps.1 = true)), .int (rb), .int (rl), .ref nw, .ref tr, .ref lk, .ref di, .int (nI (ac9)), .ref kp, .ref ik, .ref lv])), (nw, .inl (cI, 151, .inl f))] [(cI, .int)] [.ref h, .int (w)] (fun (r9 : Int32) (u9 : va_W) => r9 = (if rg2R w 2 = 0 then f (12 + w.toNatClampNeg) else 0) ∧ u9 = [(h, .inr (7, [.int (rg2R w 2), .ref sc, .int (nI (ss)), .int (nI (ps.2)), .int (bI (ps.1 = true)), .int (rb), .int (rl), .ref nw, .ref tr, .ref lk, .ref di, .int (nI (ac9)), .ref kp, .ref ik, .ref lv])), (nw, .inl (cI, 151, .inl f))]) := by
  refine gp_of RX7 (by decide) rfl (Nat.le_of_ble_eq_true rfl) ?_
  intro p e s m below meth c ls H hX hr hlocks hK hP hD hS hl
  generalize gp_A [(h, .inr (7, [.int (rf), .ref sc, .int (nI (ss)), .int (nI (ps.2)), .int (bI (ps.1 = true)), .int (rb), .int (rl), .ref nw, .ref tr, .ref lk, .ref di, .int (nI (ac9)), .ref kp, .ref ik, .ref lv])), (nw, .inl (cI, 151, .inl f))] = A at hD hS ⊢
  have hx := hX.1
  have hb := hX.2.1
  have hown := hX.2.2.2.1
  have hts := hX.2.2.2.2
  have hl : lv_has ls 2 [(0, .ref h), (1, .int (w))] := hl
  have hB8 := hW.2.1
  refine lv_aload_n hx hb dX7_lastCut_0 rfl (lv_at hl 0 rfl) ?_
  refine lv_iload_n hx hb dX7_lastCut_1 rfl (lv_at hl 1 rfl) ?_
  refine lv_i2l (v := (w : Int32).toInt64) hx hb dX7_lastCut_2 (rfl) ?_
  refine lv_lconst (v := 0) hx hb dX7_lastCut_3 (by decide) ?_
  refine lv_asl (show (0 : Int64) = (0 : Int32).toInt64 from by decide) ?_
  refine lv_ldc2 (v := 2) hx hb hown (hts _ (m7 189 rfl)) dX7_lastCut_4 ?_
  refine lv_asl (show (2 : Int64) = (2 : Int32).toInt64 from by decide) ?_
  refine rp_callS hX good7 i7 (c7_inI l D w 0 2) q7_in rfl (m7 114 rfl) (m7 115 rfl) ⟨Nat.le_of_ble_eq_true rfl, Nat.le_of_ble_eq_true rfl⟩ hK [] rfl hP [] rfl hS hl.1 rfl (Nat.le_of_ble_eq_true rfl) dX7_lastCut_7 ⟨Nat.zero_le _, Nat.zero_le _⟩ (fun H locs hP hS => ?_)
  refine lv_if_eq (tgt := 17) hx hb dX7_lastCut_10 (by decide) (fun c10_1 => ?_) (fun c10_1 => ?_)
  · skip
    have c10_1 := bI_f c10_1
    refine lv_iconst (v := 1) hx hb dX7_lastCut_17 (by decide) ?_
    refine gp_backi (gp_runV hX good7 i7 (c7_refused l D h rf 1 [.ref sc, .int (nI (ss)), .int (nI (ps.2)), .int (bI (ps.1 = true)), .int (rb), .int (rl), .ref nw, .ref tr, .ref lk, .ref di, .int (nI (ac9)), .ref kp, .ref ik, .ref lv]) q7_refused rfl (m7 117 rfl) (m7 118 rfl) (m7 119 rfl) ⟨Nat.le_of_ble_eq_true rfl, Nat.le_of_ble_eq_true rfl⟩ hK [] rfl hP hD [0] (by decide) rfl (ci := 7) (q0 := 0) rfl rfl rfl hl.1 rfl (Nat.le_of_ble_eq_true rfl) dX7_lastCut_18 ⟨Nat.zero_le _, Nat.zero_le _⟩) hP hD hS [0] rfl (fun r u h => by rw [h.2]; simp only [List.map_cons, List.map_nil]) (fun r9 u H locs hpost hP hD hS => ?_)
    obtain ⟨hr9, rfl⟩ := hpost
    refine lv_as hr9 ?_
    have hP : va_P D vwCl [(h, .inr (7, [.int (1), .ref sc, .int (nI (ss)), .int (nI (ps.2)), .int (bI (ps.1 = true)), .int (rb), .int (rl), .ref nw, .ref tr, .ref lk, .ref di, .int (nI (ac9)), .ref kp, .ref ik, .ref lv])), (nw, .inl (cI, 151, .inl f))] H := hP
    have hD : va_D A [(h, .inr (7, [.int (1), .ref sc, .int (nI (ss)), .int (nI (ps.2)), .int (bI (ps.1 = true)), .int (rb), .int (rl), .ref nw, .ref tr, .ref lk, .ref di, .int (nI (ac9)), .ref kp, .ref ik, .ref lv])), (nw, .inl (cI, 151, .inl f))] := hD
    refine lv_as (show bI (0 < (1 : Int32)) = 1 from by decide) ?_
    refine lv_if_eq (tgt := 28) hx hb dX7_lastCut_21 (by decide) (fun c21_2 => ?_) (fun c21_2 => ?_)
    · skip
      exact absurd c21_2 (by decide)
    · skip
      refine lv_iconst (v := 0) hx hb dX7_lastCut_24 (by decide) ?_
      refine lv_goto (tgt := 37) hx hb dX7_lastCut_25 (by decide) ?_
      have hR9 : rg2R w 2 = 1 := by rw [rg2R, if_neg c10_1]
      have hP : va_P D vwCl [(h, .inr (7, [.int (rg2R w 2), .ref sc, .int (nI (ss)), .int (nI (ps.2)), .int (bI (ps.1 = true)), .int (rb), .int (rl), .ref nw, .ref tr, .ref lk, .ref di, .int (nI (ac9)), .ref kp, .ref ik, .ref lv])), (nw, .inl (cI, 151, .inl f))] H := by
        rw [show (rg2R w 2 : Int32) = 1 from hR9]
        exact hP
      exact gp_reti hX hr hlocks hS hP ⟨oRn hR9 (by decide), rfl⟩ dX7_lastCut_37
  · skip
    have c10_1 := bI_t c10_1
    refine lv_iconst (v := 0) hx hb dX7_lastCut_13 (by decide) ?_
    refine lv_goto (tgt := 18) hx hb dX7_lastCut_14 (by decide) ?_
    refine gp_backi (gp_runV hX good7 i7 (c7_refused l D h rf 0 [.ref sc, .int (nI (ss)), .int (nI (ps.2)), .int (bI (ps.1 = true)), .int (rb), .int (rl), .ref nw, .ref tr, .ref lk, .ref di, .int (nI (ac9)), .ref kp, .ref ik, .ref lv]) q7_refused rfl (m7 117 rfl) (m7 118 rfl) (m7 119 rfl) ⟨Nat.le_of_ble_eq_true rfl, Nat.le_of_ble_eq_true rfl⟩ hK [] rfl hP hD [0] (by decide) rfl (ci := 7) (q0 := 0) rfl rfl rfl hl.1 rfl (Nat.le_of_ble_eq_true rfl) dX7_lastCut_18 ⟨Nat.zero_le _, Nat.zero_le _⟩) hP hD hS [0] rfl (fun r u h => by rw [h.2]; simp only [List.map_cons, List.map_nil]) (fun r9 u H locs hpost hP hD hS => ?_)
    obtain ⟨hr9, rfl⟩ := hpost
    refine lv_as hr9 ?_
    have hP : va_P D vwCl [(h, .inr (7, [.int (0), .ref sc, .int (nI (ss)), .int (nI (ps.2)), .int (bI (ps.1 = true)), .int (rb), .int (rl), .ref nw, .ref tr, .ref lk, .ref di, .int (nI (ac9)), .ref kp, .ref ik, .ref lv])), (nw, .inl (cI, 151, .inl f))] H := hP
    have hD : va_D A [(h, .inr (7, [.int (0), .ref sc, .int (nI (ss)), .int (nI (ps.2)), .int (bI (ps.1 = true)), .int (rb), .int (rl), .ref nw, .ref tr, .ref lk, .ref di, .int (nI (ac9)), .ref kp, .ref ik, .ref lv])), (nw, .inl (cI, 151, .inl f))] := hD
    refine lv_as (show bI (0 < (0 : Int32)) = 0 from by decide) ?_
    refine lv_if_eq (tgt := 28) hx hb dX7_lastCut_21 (by decide) (fun c21_3 => ?_) (fun c21_3 => ?_)
    · skip
      obtain ⟨j, hj, ej⟩ := rng (n := 2) (by decide) c10_1
      have hl : lv_has ls 2 [(0, .ref h), (1, .int (nI (j)))] := lv_re hl 1 rfl ej
      refine lv_aload_n hx hb dX7_lastCut_28 rfl (lv_at hl 0 rfl) ?_
      refine va_get (D := D) (ci := 7) (v := .ref nw) (C := RX7) (T := TX7) (N := 15) hx hb hts u7 hown hK hP 0 rfl rfl 7 (by decide) (hts _ (m7 5 rfl)) (fun _ h9 => h9) rfl dX7_lastCut_29 ?_
      refine lv_bipush (v := 12) hx hb dX7_lastCut_32 (by decide) ?_
      refine lv_iload_n hx hb dX7_lastCut_34 rfl (lv_at hl 1 rfl) ?_
      refine lv_iadd hx hb dX7_lastCut_35 ?_
      refine lv_as (y := nI (12 + j)) (nI_add (12) (j)) ?_
      refine ra_iald (i := 12 + j) hx hb hK hP 1 0 rfl rfl (by omega) (by decide) dX7_lastCut_36 ?_
      have hR9 : rg2R w 2 = 0 := by rw [rg2R, if_pos c10_1]
      have hP : va_P D vwCl [(h, .inr (7, [.int (rg2R w 2), .ref sc, .int (nI (ss)), .int (nI (ps.2)), .int (bI (ps.1 = true)), .int (rb), .int (rl), .ref nw, .ref tr, .ref lk, .ref di, .int (nI (ac9)), .ref kp, .ref ik, .ref lv])), (nw, .inl (cI, 151, .inl f))] H := by
        rw [show (rg2R w 2 : Int32) = 0 from hR9]
        exact hP
      exact gp_reti hX hr hlocks hS hP ⟨(show f (12 + j) = f (12 + w.toNatClampNeg) from by rw [ej, nI_clamp (by omega)]).trans (oR0 hR9), rfl⟩ dX7_lastCut_37
    · skip
      exact absurd c21_3 (by decide)
theorem dX7_keyAt_0 : decode cX7_keyAt 0 = .ok (.aload_n 0, 1) := by decide +kernel
theorem dX7_keyAt_1 : decode cX7_keyAt 1 = .ok (.iload_n 1, 1) := by decide +kernel
theorem dX7_keyAt_2 : decode cX7_keyAt 2 = .ok (.ifCond .ge 7, 3) := by decide +kernel
theorem dX7_keyAt_5 : decode cX7_keyAt 5 = .ok (.iconst 1, 1) := by decide +kernel
theorem dX7_keyAt_6 : decode cX7_keyAt 6 = .ok (.goto 4, 3) := by decide +kernel
theorem dX7_keyAt_9 : decode cX7_keyAt 9 = .ok (.iconst 0, 1) := by decide +kernel
theorem dX7_keyAt_10 : decode cX7_keyAt 10 = .ok (.invokevirtual 154, 3) := by decide +kernel
theorem dX7_keyAt_13 : decode cX7_keyAt 13 = .ok (.ifCond .eq 5, 3) := by decide +kernel
theorem dX7_keyAt_16 : decode cX7_keyAt 16 = .ok (.iconst 0, 1) := by decide +kernel
theorem dX7_keyAt_17 : decode cX7_keyAt 17 = .ok (.ireturn, 1) := by decide +kernel
theorem dX7_keyAt_18 : decode cX7_keyAt 18 = .ok (.iconst 0, 1) := by decide +kernel
theorem dX7_keyAt_19 : decode cX7_keyAt 19 = .ok (.istore_n 2, 1) := by decide +kernel
theorem dX7_keyAt_20 : decode cX7_keyAt 20 = .ok (.iconst 0, 1) := by decide +kernel
theorem dX7_keyAt_21 : decode cX7_keyAt 21 = .ok (.istore_n 3, 1) := by decide +kernel
theorem dX7_keyAt_22 : decode cX7_keyAt 22 = .ok (.iload_n 3, 1) := by decide +kernel
theorem dX7_keyAt_23 : decode cX7_keyAt 23 = .ok (.bipush 16, 2) := by decide +kernel
theorem dX7_keyAt_25 : decode cX7_keyAt 25 = .ok (.if_icmp .ge 32, 3) := by decide +kernel
theorem dX7_keyAt_28 : decode cX7_keyAt 28 = .ok (.aload_n 0, 1) := by decide +kernel
theorem dX7_keyAt_29 : decode cX7_keyAt 29 = .ok (.getfield 13, 3) := by decide +kernel
theorem dX7_keyAt_32 : decode cX7_keyAt 32 = .ok (.iload_n 3, 1) := by decide +kernel
theorem dX7_keyAt_33 : decode cX7_keyAt 33 = .ok (.invokestatic 68, 3) := by decide +kernel
theorem dX7_keyAt_36 : decode cX7_keyAt 36 = .ok (.bipush (-9), 2) := by decide +kernel
theorem dX7_keyAt_38 : decode cX7_keyAt 38 = .ok (.if_icmp .eq 13, 3) := by decide +kernel
theorem dX7_keyAt_41 : decode cX7_keyAt 41 = .ok (.iload_n 2, 1) := by decide +kernel
theorem dX7_keyAt_42 : decode cX7_keyAt 42 = .ok (.iload_n 1, 1) := by decide +kernel
theorem dX7_keyAt_43 : decode cX7_keyAt 43 = .ok (.if_icmp .ne 5, 3) := by decide +kernel
theorem dX7_keyAt_46 : decode cX7_keyAt 46 = .ok (.iload_n 3, 1) := by decide +kernel
theorem dX7_keyAt_47 : decode cX7_keyAt 47 = .ok (.ireturn, 1) := by decide +kernel
theorem dX7_keyAt_48 : decode cX7_keyAt 48 = .ok (.iinc 2 1, 3) := by decide +kernel
theorem dX7_keyAt_51 : decode cX7_keyAt 51 = .ok (.iinc 3 1, 3) := by decide +kernel
theorem dX7_keyAt_54 : decode cX7_keyAt 54 = .ok (.goto (-32), 3) := by decide +kernel
theorem dX7_keyAt_57 : decode cX7_keyAt 57 = .ok (.bipush (-9), 2) := by decide +kernel
theorem dX7_keyAt_59 : decode cX7_keyAt 59 = .ok (.ireturn, 1) := by decide +kernel
set_option maxHeartbeats 4000000 in
set_option maxRecDepth 100000 in
theorem c7_keyAt (l : Launch) (D : va_G) (cI cZ : ClassId) (h sc nw tr lk di kp ik lv : Nat) (rf rb rl : Int32) (ac9 : Nat) (ss : Nat) (ps : Bool × Nat) (f : Nat → Int32) (B : Nat) (hW : Wf f B) (i : Int32) : GPi l yX7_keyAt cX7_keyAt 4 .int W7 4 88 D [(h, .inr (7, [.int (rf), .ref sc, .int (nI (ss)), .int (nI (ps.2)), .int (bI (ps.1 = true)), .int (rb), .int (rl), .ref nw, .ref tr, .ref lk, .ref di, .int (nI (ac9)), .ref kp, .ref ik, .ref lv])), (nw, .inl (cI, 151, .inl f))] [(cI, .int)] [.ref h, .int (i)] (fun (r9 : Int32) (u9 : va_W) => r9 = (if katR i = 0 then oI (kat f B i 16) else 0) ∧ u9 = [(h, .inr (7, [.int (katR i), .ref sc, .int (nI (ss)), .int (nI (ps.2)), .int (bI (ps.1 = true)), .int (rb), .int (rl), .ref nw, .ref tr, .ref lk, .ref di, .int (nI (ac9)), .ref kp, .ref ik, .ref lv])), (nw, .inl (cI, 151, .inl f))]) := by
  refine gp_of RX7 (by decide) rfl (Nat.le_of_ble_eq_true rfl) ?_
  intro p e s m below meth c ls H hX hr hlocks hK hP hD hS hl
  generalize gp_A [(h, .inr (7, [.int (rf), .ref sc, .int (nI (ss)), .int (nI (ps.2)), .int (bI (ps.1 = true)), .int (rb), .int (rl), .ref nw, .ref tr, .ref lk, .ref di, .int (nI (ac9)), .ref kp, .ref ik, .ref lv])), (nw, .inl (cI, 151, .inl f))] = A at hD hS ⊢
  have hx := hX.1
  have hb := hX.2.1
  have hown := hX.2.2.2.1
  have hts := hX.2.2.2.2
  have hl : lv_has ls 4 [(0, .ref h), (1, .int (i))] := hl
  have hB8 := hW.2.1
  refine lv_aload_n hx hb dX7_keyAt_0 rfl (lv_at hl 0 rfl) ?_
  refine lv_iload_n hx hb dX7_keyAt_1 rfl (lv_at hl 1 rfl) ?_
  refine lv_if_ge (tgt := 9) hx hb dX7_keyAt_2 (by decide) (fun c2_1 => ?_) (fun c2_1 => ?_)
  · skip
    have c2_1 := i_nlt c2_1
    refine lv_iconst (v := 0) hx hb dX7_keyAt_9 (by decide) ?_
    refine gp_backi (gp_runV hX good7 i7 (c7_refused l D h rf 0 [.ref sc, .int (nI (ss)), .int (nI (ps.2)), .int (bI (ps.1 = true)), .int (rb), .int (rl), .ref nw, .ref tr, .ref lk, .ref di, .int (nI (ac9)), .ref kp, .ref ik, .ref lv]) q7_refused rfl (m7 117 rfl) (m7 118 rfl) (m7 119 rfl) ⟨Nat.le_of_ble_eq_true rfl, Nat.le_of_ble_eq_true rfl⟩ hK [] rfl hP hD [0] (by decide) rfl (ci := 7) (q0 := 0) rfl rfl rfl hl.1 rfl (Nat.le_of_ble_eq_true rfl) dX7_keyAt_10 ⟨Nat.zero_le _, Nat.zero_le _⟩) hP hD hS [0] rfl (fun r u h => by rw [h.2]; simp only [List.map_cons, List.map_nil]) (fun r9 u H locs hpost hP hD hS => ?_)
    obtain ⟨hr9, rfl⟩ := hpost
    refine lv_as hr9 ?_
    have hP : va_P D vwCl [(h, .inr (7, [.int (0), .ref sc, .int (nI (ss)), .int (nI (ps.2)), .int (bI (ps.1 = true)), .int (rb), .int (rl), .ref nw, .ref tr, .ref lk, .ref di, .int (nI (ac9)), .ref kp, .ref ik, .ref lv])), (nw, .inl (cI, 151, .inl f))] H := hP
    have hD : va_D A [(h, .inr (7, [.int (0), .ref sc, .int (nI (ss)), .int (nI (ps.2)), .int (bI (ps.1 = true)), .int (rb), .int (rl), .ref nw, .ref tr, .ref lk, .ref di, .int (nI (ac9)), .ref kp, .ref ik, .ref lv])), (nw, .inl (cI, 151, .inl f))] := hD
    refine lv_as (show bI (0 < (0 : Int32)) = 0 from by decide) ?_
    refine lv_if_eq (tgt := 18) hx hb dX7_keyAt_13 (by decide) (fun c13_2 => ?_) (fun c13_2 => ?_)
    · skip
      refine lv_iconst (v := 0) hx hb dX7_keyAt_18 (by decide) ?_
      refine lv_istore_n (lv' := [(2, .int (0)), (0, .ref h), (1, .int (i))]) hx hb dX7_keyAt_19 rfl hl (by decide) rfl (fun ls hl => ?_)
      refine lv_iconst (v := 0) hx hb dX7_keyAt_20 (by decide) ?_
      refine lv_istore_n (lv' := [(3, .int (0)), (2, .int (0)), (0, .ref h), (1, .int (i))]) hx hb dX7_keyAt_21 rfl hl (by decide) rfl (fun ls hl => ?_)
      have LP22 : ∀ n9 : Nat, ∀ (j : Nat), (hj : j ≤ 16) → (hk : kat f B i j = none) → 16 - j < n9 → ∀ (H : Heap) (locs : List Loc), va_P D vwCl [(h, .inr (7, [.int (0), .ref sc, .int (nI (ss)), .int (nI (ps.2)), .int (bI (ps.1 = true)), .int (rb), .int (rl), .ref nw, .ref tr, .ref lk, .ref di, .int (nI (ac9)), .ref kp, .ref ik, .ref lv])), (nw, .inl (cI, 151, .inl f))] H → va_D A [(h, .inr (7, [.int (0), .ref sc, .int (nI (ss)), .int (nI (ps.2)), .int (bI (ps.1 = true)), .int (rb), .int (rl), .ref nw, .ref tr, .ref lk, .ref di, .int (nI (ac9)), .ref kp, .ref ik, .ref lv])), (nw, .inl (cI, 151, .inl f))] → va_S A s.heap H locs → ∀ ls : Array Slot, lv_has ls 4 [(0, .ref h), (1, .int (i)), (2, .int (nI (kys f B j))), (3, .int (nI (j)))] → W p l e ({ frames := 4, cells := 0, slots := 0, locals := 88 } : Room) s m ([.ref h, .int (i)] : List Value).toArray below meth c H locs 0 0 (MQ below (va_Qi (fun (r9 : Int32) (u9 : va_W) => r9 = (if katR i = 0 then oI (kat f B i 16) else 0) ∧ u9 = [(h, .inr (7, [.int (katR i), .ref sc, .int (nI (ss)), .int (nI (ps.2)), .int (bI (ps.1 = true)), .int (rb), .int (rl), .ref nw, .ref tr, .ref lk, .ref di, .int (nI (ac9)), .ref kp, .ref ik, .ref lv])), (nw, .inl (cI, 151, .inl f))]) (fun u t => va_P D vwCl u t.heap) A) ([.ref h, .int (i)] : List Value).toArray s 0 0 A) (F0 m 22 ls []) := by
        intro n9
        induction n9 with
        | zero => intros; omega
        | succ n9 ih22 =>
          intro j hj hk hm9 H locs hP hD hS ls hl
          refine lv_iload_n hx hb dX7_keyAt_22 rfl (lv_at hl 3 rfl) ?_
          refine lv_bipush (v := 16) hx hb dX7_keyAt_23 (by decide) ?_
          refine lv_icmp_ge (tgt := 57) hx hb dX7_keyAt_25 (by decide) (fun c25_3 => ?_) (fun c25_3 => ?_)
          · skip
            have c25_3 := cn_le (a := 16) (b := j) (by omega) (by omega) c25_3
            refine lv_bipush (v := (-9)) hx hb dX7_keyAt_57 (by decide) ?_
            have hR9 : katR i = 0 := by rw [katR, if_neg c2_1]
            have hP : va_P D vwCl [(h, .inr (7, [.int (katR i), .ref sc, .int (nI (ss)), .int (nI (ps.2)), .int (bI (ps.1 = true)), .int (rb), .int (rl), .ref nw, .ref tr, .ref lk, .ref di, .int (nI (ac9)), .ref kp, .ref ik, .ref lv])), (nw, .inl (cI, 151, .inl f))] H := by
              rw [show (katR i : Int32) = 0 from hR9]
              exact hP
            exact gp_reti hX hr hlocks hS hP ⟨(show ((-9) : Int32) = oI (kat f B i 16) from by rw [← show j = 16 by omega, hk]; rfl).trans (oR0 hR9), rfl⟩ dX7_keyAt_59
          · skip
            have c25_3 := cn_nle (a := 16) (b := j) (by omega) (by omega) c25_3
            refine lv_aload_n hx hb dX7_keyAt_28 rfl (lv_at hl 0 rfl) ?_
            refine va_get (D := D) (ci := 7) (v := .ref nw) (C := RX7) (T := TX7) (N := 15) hx hb hts u7 hown hK hP 0 rfl rfl 7 (by decide) (hts _ (m7 5 rfl)) (fun _ h9 => h9) rfl dX7_keyAt_29 ?_
            refine lv_iload_n hx hb dX7_keyAt_32 rfl (lv_at hl 3 rfl) ?_
            refine rp_callS hX good7 i7 (c7_valueOf l D cI nw f (nI (j)) B hW.1 hW.2.1) q7_valueOf rfl (m7 35 rfl) (m7 36 rfl) ⟨Nat.le_of_ble_eq_true rfl, Nat.le_of_ble_eq_true rfl⟩ hK [0] rfl hP [1] rfl hS hl.1 rfl (Nat.le_of_ble_eq_true rfl) dX7_keyAt_33 ⟨Nat.zero_le _, Nat.zero_le _⟩ (fun H locs hP hS => ?_)
            refine lv_bipush (v := (-9)) hx hb dX7_keyAt_36 (by decide) ?_
            refine lv_icmp_eq (tgt := 51) hx hb dX7_keyAt_38 (by decide) (fun c38_4 => ?_) (fun c38_4 => ?_)
            · skip
              refine lv_iinc (v := nI (j + 1)) (lv' := [(3, .int (nI (j + 1))), (0, .ref h), (1, .int (i)), (2, .int (nI (kys f B j)))]) hx hb dX7_keyAt_51 hl (k := 3) rfl (nI_add _ 1) (by decide) rfl (fun ls hl => ?_)
              refine lv_goto (tgt := 22) hx hb dX7_keyAt_54 (by decide) ?_
              have hl : lv_has ls 4 [(3, .int (nI (j + 1))), (0, .ref h), (1, .int (i)), (2, .int (nI (kys f B (j + 1))))] := lv_re hl 3 rfl (show nI (kys f B j) = nI (kys f B (j + 1)) from by rw [kys, if_pos c38_4]; rfl)
              have hl : lv_has ls 4 [(3, .int (nI ((j + 1)))), (0, .ref h), (1, .int (i)), (2, .int (nI (kys f B (j + 1))))] := lv_re hl 0 rfl (show nI (j + 1) = nI ((j + 1)) from rfl)
              exact ih22 (j + 1) (by omega) (by rw [kat, hk]; exact if_neg (fun z => z.1 c38_4)) (by omega) _ _ hP hD hS _ (lv_sub hl [1, 2, 3, 0] rfl)
            · skip
              refine lv_iload_n hx hb dX7_keyAt_41 rfl (lv_at hl 2 rfl) ?_
              refine lv_iload_n hx hb dX7_keyAt_42 rfl (lv_at hl 1 rfl) ?_
              refine lv_icmp_ne (tgt := 48) hx hb dX7_keyAt_43 (by decide) (fun c43_5 => ?_) (fun c43_5 => ?_)
              · skip
                refine lv_iinc (v := nI (kys f B j + 1)) (lv' := [(2, .int (nI (kys f B j + 1))), (0, .ref h), (1, .int (i)), (3, .int (nI (j)))]) hx hb dX7_keyAt_48 hl (k := 2) rfl (nI_add _ 1) (by decide) rfl (fun ls hl => ?_)
                refine lv_iinc (v := nI (j + 1)) (lv' := [(3, .int (nI (j + 1))), (2, .int (nI (kys f B j + 1))), (0, .ref h), (1, .int (i))]) hx hb dX7_keyAt_51 hl (k := 3) rfl (nI_add _ 1) (by decide) rfl (fun ls hl => ?_)
                refine lv_goto (tgt := 22) hx hb dX7_keyAt_54 (by decide) ?_
                have hl : lv_has ls 4 [(3, .int (nI (j + 1))), (2, .int (nI (kys f B (j + 1)))), (0, .ref h), (1, .int (i))] := lv_re hl 1 rfl (show nI (kys f B j + 1) = nI (kys f B (j + 1)) from by rw [kys, if_neg c38_4])
                have hl : lv_has ls 4 [(3, .int (nI ((j + 1)))), (2, .int (nI (kys f B (j + 1)))), (0, .ref h), (1, .int (i))] := lv_re hl 0 rfl (show nI (j + 1) = nI ((j + 1)) from rfl)
                exact ih22 (j + 1) (by omega) (by rw [kat, hk]; exact if_neg (fun z => c43_5 z.2)) (by omega) _ _ hP hD hS _ (lv_sub hl [2, 3, 1, 0] rfl)
              · skip
                refine lv_iload_n hx hb dX7_keyAt_46 rfl (lv_at hl 3 rfl) ?_
                have hR9 : katR i = 0 := by rw [katR, if_neg c2_1]
                have hP : va_P D vwCl [(h, .inr (7, [.int (katR i), .ref sc, .int (nI (ss)), .int (nI (ps.2)), .int (bI (ps.1 = true)), .int (rb), .int (rl), .ref nw, .ref tr, .ref lk, .ref di, .int (nI (ac9)), .ref kp, .ref ik, .ref lv])), (nw, .inl (cI, 151, .inl f))] H := by
                  rw [show (katR i : Int32) = 0 from hR9]
                  exact hP
                exact gp_reti hX hr hlocks hS hP ⟨(show nI (j) = oI (kat f B i 16) from (congrArg oI (kat_at c25_3 hk c38_4 c43_5)).symm).trans (oR0 hR9), rfl⟩ dX7_keyAt_47
      have hl : lv_has ls 4 [(3, .int (0)), (2, .int (nI (kys f B 0))), (0, .ref h), (1, .int (i))] := lv_re hl 1 rfl (show 0 = nI (kys f B 0) from rfl)
      have hl : lv_has ls 4 [(3, .int (nI (0))), (2, .int (nI (kys f B 0))), (0, .ref h), (1, .int (i))] := lv_re hl 0 rfl (show 0 = nI (0) from rfl)
      exact LP22 ((16 - 0) + 1) 0 (by omega) (rfl) (by omega) _ _ hP hD hS _ (lv_sub hl [2, 3, 1, 0] rfl)
    · skip
      exact absurd c13_2 (by decide)
  · skip
    have c2_1 := i_lt c2_1
    refine lv_iconst (v := 1) hx hb dX7_keyAt_5 (by decide) ?_
    refine lv_goto (tgt := 10) hx hb dX7_keyAt_6 (by decide) ?_
    refine gp_backi (gp_runV hX good7 i7 (c7_refused l D h rf 1 [.ref sc, .int (nI (ss)), .int (nI (ps.2)), .int (bI (ps.1 = true)), .int (rb), .int (rl), .ref nw, .ref tr, .ref lk, .ref di, .int (nI (ac9)), .ref kp, .ref ik, .ref lv]) q7_refused rfl (m7 117 rfl) (m7 118 rfl) (m7 119 rfl) ⟨Nat.le_of_ble_eq_true rfl, Nat.le_of_ble_eq_true rfl⟩ hK [] rfl hP hD [0] (by decide) rfl (ci := 7) (q0 := 0) rfl rfl rfl hl.1 rfl (Nat.le_of_ble_eq_true rfl) dX7_keyAt_10 ⟨Nat.zero_le _, Nat.zero_le _⟩) hP hD hS [0] rfl (fun r u h => by rw [h.2]; simp only [List.map_cons, List.map_nil]) (fun r9 u H locs hpost hP hD hS => ?_)
    obtain ⟨hr9, rfl⟩ := hpost
    refine lv_as hr9 ?_
    have hP : va_P D vwCl [(h, .inr (7, [.int (1), .ref sc, .int (nI (ss)), .int (nI (ps.2)), .int (bI (ps.1 = true)), .int (rb), .int (rl), .ref nw, .ref tr, .ref lk, .ref di, .int (nI (ac9)), .ref kp, .ref ik, .ref lv])), (nw, .inl (cI, 151, .inl f))] H := hP
    have hD : va_D A [(h, .inr (7, [.int (1), .ref sc, .int (nI (ss)), .int (nI (ps.2)), .int (bI (ps.1 = true)), .int (rb), .int (rl), .ref nw, .ref tr, .ref lk, .ref di, .int (nI (ac9)), .ref kp, .ref ik, .ref lv])), (nw, .inl (cI, 151, .inl f))] := hD
    refine lv_as (show bI (0 < (1 : Int32)) = 1 from by decide) ?_
    refine lv_if_eq (tgt := 18) hx hb dX7_keyAt_13 (by decide) (fun c13_6 => ?_) (fun c13_6 => ?_)
    · skip
      exact absurd c13_6 (by decide)
    · skip
      refine lv_iconst (v := 0) hx hb dX7_keyAt_16 (by decide) ?_
      have hR9 : katR i = 1 := by rw [katR, if_pos c2_1]
      have hP : va_P D vwCl [(h, .inr (7, [.int (katR i), .ref sc, .int (nI (ss)), .int (nI (ps.2)), .int (bI (ps.1 = true)), .int (rb), .int (rl), .ref nw, .ref tr, .ref lk, .ref di, .int (nI (ac9)), .ref kp, .ref ik, .ref lv])), (nw, .inl (cI, 151, .inl f))] H := by
        rw [show (katR i : Int32) = 1 from hR9]
        exact hP
      exact gp_reti hX hr hlocks hS hP ⟨oRn hR9 (by decide), rfl⟩ dX7_keyAt_17
set_option maxHeartbeats 4000000 in
set_option maxRecDepth 100000 in
theorem c7_copyS (l : Launch) (D : va_G) (cI : ClassId) (r1 n1 : Nat) (f1 : Nat → Int32) (fa ta k : Nat) (h1 : fa + k ≤ n1) (h2 : ta + k ≤ n1) (h3 : n1 < 100000) (h4 : ta ≤ fa) : GPv l yX7_copy cX7_copy 6 W7 0 0 D [(r1, .inl (cI, n1, .inl f1))] [(cI, .int)] [.ref r1, .int (nI (fa)), .ref r1, .int (nI (ta)), .int (nI (k))] (fun u9 : va_W => u9 = [(r1, .inl (cI, n1, .inl (va_cpy f1 f1 fa ta k)))]) := by
  refine gp_of RX7 (by decide) rfl (Nat.le_of_ble_eq_true rfl) ?_
  intro p e s m below meth c ls H hX hr hlocks hK hP hD hS hl
  generalize gp_A [(r1, .inl (cI, n1, .inl f1))] = A at hD hS ⊢
  have hx := hX.1
  have hb := hX.2.1
  have hown := hX.2.2.2.1
  have hts := hX.2.2.2.2
  have hl : lv_has ls 6 [(0, .ref r1), (1, .int (nI (fa))), (2, .ref r1), (3, .int (nI (ta))), (4, .int (nI (k)))] := hl
  refine lv_iconst (v := 0) hx hb dX7_copy_0 (by decide) ?_
  refine lv_istore (lv' := [(5, .int (0)), (0, .ref r1), (1, .int (nI (fa))), (2, .ref r1), (3, .int (nI (ta))), (4, .int (nI (k)))]) hx hb dX7_copy_1 hl (by decide) rfl (fun ls hl => ?_)
  have LP3 : ∀ n9 : Nat, ∀ (j : Nat), (hj : j ≤ k) → k - j < n9 → ∀ (H : Heap) (locs : List Loc), va_P D vwCl [(r1, .inl (cI, n1, .inl (va_cpy f1 f1 fa ta j)))] H → va_D A [(r1, .inl (cI, n1, .inl (va_cpy f1 f1 fa ta j)))] → va_S A s.heap H locs → ∀ ls : Array Slot, lv_has ls 6 [(0, .ref r1), (1, .int (nI (fa))), (2, .ref r1), (3, .int (nI (ta))), (4, .int (nI (k))), (5, .int (nI (j)))] → W p l e ({ frames := 0, cells := 0, slots := 0, locals := 0 } : Room) s m ([.ref r1, .int (nI (fa)), .ref r1, .int (nI (ta)), .int (nI (k))] : List Value).toArray below meth c H locs 0 0 (MQ below (va_Qv (fun u9 : va_W => u9 = [(r1, .inl (cI, n1, .inl (va_cpy f1 f1 fa ta k)))]) (fun u t => va_P D vwCl u t.heap) A) ([.ref r1, .int (nI (fa)), .ref r1, .int (nI (ta)), .int (nI (k))] : List Value).toArray s 0 0 A) (F0 m 3 ls []) := by
    intro n9
    induction n9 with
    | zero => intros; omega
    | succ n9 ih3 =>
      intro j hj hm9 H locs hP hD hS ls hl
      refine lv_iload hx hb dX7_copy_3 (lv_at hl 5 rfl) ?_
      refine lv_iload hx hb dX7_copy_5 (lv_at hl 4 rfl) ?_
      refine lv_icmp_ge (tgt := 28) hx hb dX7_copy_7 (by decide) (fun c7_1 => ?_) (fun c7_1 => ?_)
      · skip
        have c7_1 := cn_le (a := k) (b := j) (by omega) (by omega) c7_1
        have hP : va_P D vwCl [(r1, .inl (cI, n1, .inl (va_cpy f1 f1 fa ta k)))] H := by
          rw [show (va_cpy f1 f1 fa ta k : Nat → Int32) = va_cpy f1 f1 fa ta j from by rw [show j = k by omega]]
          exact hP
        exact gp_retv hX hr hlocks hS hP rfl dX7_copy_28
      · skip
        have c7_1 := cn_nle (a := k) (b := j) (by omega) (by omega) c7_1
        refine lv_aload_n hx hb dX7_copy_10 rfl (lv_at hl 2 rfl) ?_
        refine lv_iload_n hx hb dX7_copy_11 rfl (lv_at hl 3 rfl) ?_
        refine lv_iload hx hb dX7_copy_12 (lv_at hl 5 rfl) ?_
        refine lv_iadd hx hb dX7_copy_14 ?_
        refine lv_as (y := nI (ta + j)) (nI_add (ta) (j)) ?_
        refine lv_aload_n hx hb dX7_copy_15 rfl (lv_at hl 0 rfl) ?_
        refine lv_iload_n hx hb dX7_copy_16 rfl (lv_at hl 1 rfl) ?_
        refine lv_iload hx hb dX7_copy_17 (lv_at hl 5 rfl) ?_
        refine lv_iadd hx hb dX7_copy_19 ?_
        refine lv_as (y := nI (fa + j)) (nI_add (fa) (j)) ?_
        refine ra_iald (i := fa + j) hx hb hK hP 0 0 rfl rfl (by omega) (by omega) dX7_copy_20 ?_
        refine lv_as (show (va_cpy f1 f1 fa ta j) (fa + j) = f1 (fa + j) from cpy_S h4) ?_
        refine ra_iast (i := ta + j) hx hb hK hP hD hS 0 0 rfl rfl (by omega) (by omega) dX7_copy_21 (fun H locs hP hD hS => ?_)
        have hP : va_P D vwCl [(r1, .inl (cI, n1, .inl (upd (va_cpy f1 f1 fa ta j) (ta + j) (f1 (fa + j)))))] H := hP
        have hD : va_D A [(r1, .inl (cI, n1, .inl (upd (va_cpy f1 f1 fa ta j) (ta + j) (f1 (fa + j)))))] := hD
        refine lv_iinc (v := nI (j + 1)) (lv' := [(5, .int (nI (j + 1))), (0, .ref r1), (1, .int (nI (fa))), (2, .ref r1), (3, .int (nI (ta))), (4, .int (nI (k)))]) hx hb dX7_copy_22 hl (k := 5) rfl (nI_add _ 1) (by decide) rfl (fun ls hl => ?_)
        refine lv_goto (tgt := 3) hx hb dX7_copy_25 (by decide) ?_
        have hl : lv_has ls 6 [(5, .int (nI ((j + 1)))), (0, .ref r1), (1, .int (nI (fa))), (2, .ref r1), (3, .int (nI (ta))), (4, .int (nI (k)))] := lv_re hl 0 rfl (show nI (j + 1) = nI ((j + 1)) from rfl)
        have hP : va_P D vwCl [(r1, .inl (cI, n1, .inl (va_cpy f1 f1 fa ta (j + 1))))] H := by
          rw [show (va_cpy f1 f1 fa ta (j + 1) : Nat → Int32) = upd (va_cpy f1 f1 fa ta j) (ta + j) (f1 (fa + j)) from cpy_s _ _ _ _ _]
          exact hP
        have hD : va_D A [(r1, .inl (cI, n1, .inl (va_cpy f1 f1 fa ta (j + 1))))] := by
          rw [show (va_cpy f1 f1 fa ta (j + 1) : Nat → Int32) = upd (va_cpy f1 f1 fa ta j) (ta + j) (f1 (fa + j)) from cpy_s _ _ _ _ _]
          exact hD
        have hP : va_P D vwCl [(r1, .inl (cI, n1, .inl (va_cpy f1 f1 fa ta (j + 1))))] H := hP
        have hD : va_D A [(r1, .inl (cI, n1, .inl (va_cpy f1 f1 fa ta (j + 1))))] := hD
        exact ih3 (j + 1) (by omega) (by omega) _ _ hP hD hS _ (lv_sub hl [1, 2, 3, 4, 5, 0] rfl)
  have hl : lv_has ls 6 [(5, .int (nI (0))), (0, .ref r1), (1, .int (nI (fa))), (2, .ref r1), (3, .int (nI (ta))), (4, .int (nI (k)))] := lv_re hl 0 rfl (show 0 = nI (0) from rfl)
  have hP : va_P D vwCl [(r1, .inl (cI, n1, .inl (va_cpy f1 f1 fa ta 0)))] H := by
    rw [show (va_cpy f1 f1 fa ta 0 : Nat → Int32) = f1 from cpy_0 _ _ _ _]
    exact hP
  have hD : va_D A [(r1, .inl (cI, n1, .inl (va_cpy f1 f1 fa ta 0)))] := by
    rw [show (va_cpy f1 f1 fa ta 0 : Nat → Int32) = f1 from cpy_0 _ _ _ _]
    exact hD
  have hP : va_P D vwCl [(r1, .inl (cI, n1, .inl (va_cpy f1 f1 fa ta 0)))] H := hP
  have hD : va_D A [(r1, .inl (cI, n1, .inl (va_cpy f1 f1 fa ta 0)))] := hD
  exact LP3 ((k - 0) + 1) 0 (by omega) (by omega) _ _ hP hD hS _ (lv_sub hl [1, 2, 3, 4, 5, 0] rfl)
theorem dX7_note_0 : decode cX7_note 0 = .ok (.aload_n 0, 1) := by decide +kernel
theorem dX7_note_1 : decode cX7_note 1 = .ok (.getfield 45, 3) := by decide +kernel
theorem dX7_note_4 : decode cX7_note 4 = .ok (.bipush 14, 2) := by decide +kernel
theorem dX7_note_6 : decode cX7_note 6 = .ok (.if_icmp .ne 31, 3) := by decide +kernel
theorem dX7_note_9 : decode cX7_note 9 = .ok (.aload_n 0, 1) := by decide +kernel
theorem dX7_note_10 : decode cX7_note 10 = .ok (.getfield 22, 3) := by decide +kernel
theorem dX7_note_13 : decode cX7_note 13 = .ok (.sipush 151, 3) := by decide +kernel
theorem dX7_note_16 : decode cX7_note 16 = .ok (.aload_n 0, 1) := by decide +kernel
theorem dX7_note_17 : decode cX7_note 17 = .ok (.getfield 22, 3) := by decide +kernel
theorem dX7_note_20 : decode cX7_note 20 = .ok (.iconst 0, 1) := by decide +kernel
theorem dX7_note_21 : decode cX7_note 21 = .ok (.sipush 1963, 3) := by decide +kernel
theorem dX7_note_24 : decode cX7_note 24 = .ok (.invokestatic 48, 3) := by decide +kernel
theorem dX7_note_27 : decode cX7_note 27 = .ok (.aload_n 0, 1) := by decide +kernel
theorem dX7_note_28 : decode cX7_note 28 = .ok (.dup, 1) := by decide +kernel
theorem dX7_note_29 : decode cX7_note 29 = .ok (.getfield 45, 3) := by decide +kernel
theorem dX7_note_32 : decode cX7_note 32 = .ok (.iconst 1, 1) := by decide +kernel
theorem dX7_note_33 : decode cX7_note 33 = .ok (.isub, 1) := by decide +kernel
theorem dX7_note_34 : decode cX7_note 34 = .ok (.putfield 45, 3) := by decide +kernel
theorem dX7_note_37 : decode cX7_note 37 = .ok (.aload_n 0, 1) := by decide +kernel
theorem dX7_note_38 : decode cX7_note 38 = .ok (.getfield 13, 3) := by decide +kernel
theorem dX7_note_41 : decode cX7_note 41 = .ok (.iconst 0, 1) := by decide +kernel
theorem dX7_note_42 : decode cX7_note 42 = .ok (.aload_n 0, 1) := by decide +kernel
theorem dX7_note_43 : decode cX7_note 43 = .ok (.getfield 22, 3) := by decide +kernel
theorem dX7_note_46 : decode cX7_note 46 = .ok (.sipush 151, 3) := by decide +kernel
theorem dX7_note_49 : decode cX7_note 49 = .ok (.aload_n 0, 1) := by decide +kernel
theorem dX7_note_50 : decode cX7_note 50 = .ok (.getfield 45, 3) := by decide +kernel
theorem dX7_note_53 : decode cX7_note 53 = .ok (.imul, 1) := by decide +kernel
theorem dX7_note_54 : decode cX7_note 54 = .ok (.sipush 151, 3) := by decide +kernel
theorem dX7_note_57 : decode cX7_note 57 = .ok (.invokestatic 48, 3) := by decide +kernel
theorem dX7_note_60 : decode cX7_note 60 = .ok (.aload_n 0, 1) := by decide +kernel
theorem dX7_note_61 : decode cX7_note 61 = .ok (.dup, 1) := by decide +kernel
theorem dX7_note_62 : decode cX7_note 62 = .ok (.getfield 45, 3) := by decide +kernel
theorem dX7_note_65 : decode cX7_note 65 = .ok (.iconst 1, 1) := by decide +kernel
theorem dX7_note_66 : decode cX7_note 66 = .ok (.iadd, 1) := by decide +kernel
theorem dX7_note_67 : decode cX7_note 67 = .ok (.putfield 45, 3) := by decide +kernel
theorem dX7_note_70 : decode cX7_note 70 = .ok (.return_, 1) := by decide +kernel
theorem q7_note : CQ W7 yX7_note cX7_note 1 none 0 := ⟨(m7 194 rfl), by decide, by decide, by decide +kernel⟩
set_option maxHeartbeats 4000000 in
set_option maxRecDepth 100000 in
theorem c7_note (l : Launch) (D : va_G) (cI cZ : ClassId) (h sc nw tr lk di kp ik lv : Nat) (rf rb rl : Int32) (ac9 : Nat) (ss : Nat) (ps : Bool × Nat) (f : Nat → Int32) (fd : Nat → Int32) (hac : ac9 ≤ 14)  : GPv l yX7_note cX7_note 1 W7 1 25 D [(h, .inr (7, [.int (rf), .ref sc, .int (nI (ss)), .int (nI (ps.2)), .int (bI (ps.1 = true)), .int (rb), .int (rl), .ref nw, .ref tr, .ref lk, .ref di, .int (nI (ac9)), .ref kp, .ref ik, .ref lv])), (nw, .inl (cI, 151, .inl f)), (di, .inl (cI, 2114, .inl fd))] [(cI, .int)] [.ref h] (fun u9 : va_W => u9 = [(h, .inr (7, [.int (rf), .ref sc, .int (nI (ss)), .int (nI (ps.2)), .int (bI (ps.1 = true)), .int (rb), .int (rl), .ref nw, .ref tr, .ref lk, .ref di, .int (nI (acN ac9)), .ref kp, .ref ik, .ref lv])), (nw, .inl (cI, 151, .inl f)), (di, .inl (cI, 2114, .inl (diN fd f ac9)))]) := by
  refine gp_of RX7 (by decide) rfl (Nat.le_of_ble_eq_true rfl) ?_
  intro p e s m below meth c ls H hX hr hlocks hK hP hD hS hl
  generalize gp_A [(h, .inr (7, [.int (rf), .ref sc, .int (nI (ss)), .int (nI (ps.2)), .int (bI (ps.1 = true)), .int (rb), .int (rl), .ref nw, .ref tr, .ref lk, .ref di, .int (nI (ac9)), .ref kp, .ref ik, .ref lv])), (nw, .inl (cI, 151, .inl f)), (di, .inl (cI, 2114, .inl fd))] = A at hD hS ⊢
  have hx := hX.1
  have hb := hX.2.1
  have hown := hX.2.2.2.1
  have hts := hX.2.2.2.2
  have hl : lv_has ls 1 [(0, .ref h)] := hl
  refine lv_aload_n hx hb dX7_note_0 rfl (lv_at hl 0 rfl) ?_
  refine va_get (D := D) (ci := 7) (v := .int (nI (ac9))) (C := RX7) (T := TX7) (N := 15) hx hb hts u7 hown hK hP 0 rfl rfl 11 (by decide) (hts _ (m7 19 rfl)) (fun _ h9 => h9) rfl dX7_note_1 ?_
  refine lv_bipush (v := 14) hx hb dX7_note_4 (by decide) ?_
  refine lv_icmp_ne (tgt := 37) hx hb dX7_note_6 (by decide) (fun c6_1 => ?_) (fun c6_1 => ?_)
  · skip
    have c6_1 := cn_ne (a := ac9) (b := 14) (by omega) (by omega) c6_1
    refine lv_aload_n hx hb dX7_note_37 rfl (lv_at hl 0 rfl) ?_
    refine va_get (D := D) (ci := 7) (v := .ref nw) (C := RX7) (T := TX7) (N := 15) hx hb hts u7 hown hK hP 0 rfl rfl 7 (by decide) (hts _ (m7 5 rfl)) (fun _ h9 => h9) rfl dX7_note_38 ?_
    refine lv_iconst (v := 0) hx hb dX7_note_41 (by decide) ?_
    refine lv_aload_n hx hb dX7_note_42 rfl (lv_at hl 0 rfl) ?_
    refine va_get (D := D) (ci := 7) (v := .ref di) (C := RX7) (T := TX7) (N := 15) hx hb hts u7 hown hK hP 0 rfl rfl 10 (by decide) (hts _ (m7 8 rfl)) (fun _ h9 => h9) rfl dX7_note_43 ?_
    refine lv_sipush (v := 151) hx hb dX7_note_46 (by decide) ?_
    refine lv_aload_n hx hb dX7_note_49 rfl (lv_at hl 0 rfl) ?_
    refine va_get (D := D) (ci := 7) (v := .int (nI (ac9))) (C := RX7) (T := TX7) (N := 15) hx hb hts u7 hown hK hP 0 rfl rfl 11 (by decide) (hts _ (m7 19 rfl)) (fun _ h9 => h9) rfl dX7_note_50 ?_
    refine lv_imul hx hb dX7_note_53 ?_
    refine lv_as (y := nI (151 * ac9)) (pk_mul (151) (ac9)) ?_
    refine lv_sipush (v := 151) hx hb dX7_note_54 (by decide) ?_
    refine gp_backv (gp_runS hX good7 i7 (c7_copy l D cI nw di 151 2114 f fd 0 (151 * ac9) 151 (by omega) (by omega) (by omega) (by omega)) q7_copy rfl (m7 20 rfl) (m7 21 rfl) ⟨Nat.le_of_ble_eq_true rfl, Nat.le_of_ble_eq_true rfl⟩ hK [0] rfl hP hD [1, 2] (by decide) rfl hl.1 rfl (Nat.le_of_ble_eq_true rfl) dX7_note_57 ⟨Nat.zero_le _, Nat.zero_le _⟩) hP hD hS [1, 2] rfl (fun u h => by rw [h]; simp only [List.map_cons, List.map_nil]) (fun u H locs hpost hP hD hS => ?_)
    subst hpost
    have hP : va_P D vwCl [(h, .inr (7, [.int (rf), .ref sc, .int (nI (ss)), .int (nI (ps.2)), .int (bI (ps.1 = true)), .int (rb), .int (rl), .ref nw, .ref tr, .ref lk, .ref di, .int (nI (ac9)), .ref kp, .ref ik, .ref lv])), (nw, .inl (cI, 151, .inl f)), (di, .inl (cI, 2114, .inl (va_cpy f fd 0 (151 * ac9) 151)))] H := hP
    have hD : va_D A [(h, .inr (7, [.int (rf), .ref sc, .int (nI (ss)), .int (nI (ps.2)), .int (bI (ps.1 = true)), .int (rb), .int (rl), .ref nw, .ref tr, .ref lk, .ref di, .int (nI (ac9)), .ref kp, .ref ik, .ref lv])), (nw, .inl (cI, 151, .inl f)), (di, .inl (cI, 2114, .inl (va_cpy f fd 0 (151 * ac9) 151)))] := hD
    refine lv_aload_n hx hb dX7_note_60 rfl (lv_at hl 0 rfl) ?_
    refine lv_dup hx hb dX7_note_61 rfl ?_
    refine va_get (D := D) (ci := 7) (v := .int (nI (ac9))) (C := RX7) (T := TX7) (N := 15) hx hb hts u7 hown hK hP 0 rfl rfl 11 (by decide) (hts _ (m7 19 rfl)) (fun _ h9 => h9) rfl dX7_note_62 ?_
    refine lv_iconst (v := 1) hx hb dX7_note_65 (by decide) ?_
    refine lv_iadd hx hb dX7_note_66 ?_
    refine lv_as (y := nI (ac9 + 1)) (nI_add (ac9) (1)) ?_
    refine va_put (D := D) (ci := 7) (v := .int (nI (ac9 + 1))) (ty := .int) (C := RX7) (T := TX7) (N := 15) hx hb hts u7 tyX7 tyX7_ok nmX7 hown hK hP hD hS 0 rfl rfl 11 (by decide) (hts _ (m7 19 rfl)) (fun _ h9 => h9) rfl (by decide +kernel) rfl rfl (Nat.le_of_ble_eq_true rfl) dX7_note_67 (fun H locs hP hD hS => ?_)
    have hP : va_P D vwCl [(h, .inr (7, [.int (rf), .ref sc, .int (nI (ss)), .int (nI (ps.2)), .int (bI (ps.1 = true)), .int (rb), .int (rl), .ref nw, .ref tr, .ref lk, .ref di, .int (nI (ac9 + 1)), .ref kp, .ref ik, .ref lv])), (nw, .inl (cI, 151, .inl f)), (di, .inl (cI, 2114, .inl (va_cpy f fd 0 (151 * ac9) 151)))] H := hP
    have hD : va_D A [(h, .inr (7, [.int (rf), .ref sc, .int (nI (ss)), .int (nI (ps.2)), .int (bI (ps.1 = true)), .int (rb), .int (rl), .ref nw, .ref tr, .ref lk, .ref di, .int (nI (ac9 + 1)), .ref kp, .ref ik, .ref lv])), (nw, .inl (cI, 151, .inl f)), (di, .inl (cI, 2114, .inl (va_cpy f fd 0 (151 * ac9) 151)))] := hD
    have hP : va_P D vwCl [(h, .inr (7, [.int (rf), .ref sc, .int (nI (ss)), .int (nI (ps.2)), .int (bI (ps.1 = true)), .int (rb), .int (rl), .ref nw, .ref tr, .ref lk, .ref di, .int (nI (acN ac9)), .ref kp, .ref ik, .ref lv])), (nw, .inl (cI, 151, .inl f)), (di, .inl (cI, 2114, .inl (va_cpy f fd 0 (151 * ac9) 151)))] H := by
      rw [show (nI (acN ac9) : Int32) = nI (ac9 + 1) from by rw [acN, if_neg c6_1]]
      exact hP
    have hP : va_P D vwCl [(h, .inr (7, [.int (rf), .ref sc, .int (nI (ss)), .int (nI (ps.2)), .int (bI (ps.1 = true)), .int (rb), .int (rl), .ref nw, .ref tr, .ref lk, .ref di, .int (nI (acN ac9)), .ref kp, .ref ik, .ref lv])), (nw, .inl (cI, 151, .inl f)), (di, .inl (cI, 2114, .inl (diN fd f ac9)))] H := by
      rw [show (diN fd f ac9 : Nat → Int32) = va_cpy f fd 0 (151 * ac9) 151 from by rw [diN, if_neg c6_1]]
      exact hP
    exact gp_retv hX hr hlocks hS hP rfl dX7_note_70
  · skip
    have c6_1 := cn_eq (a := ac9) (b := 14) (by omega) (by omega) c6_1
    refine lv_aload_n hx hb dX7_note_9 rfl (lv_at hl 0 rfl) ?_
    refine va_get (D := D) (ci := 7) (v := .ref di) (C := RX7) (T := TX7) (N := 15) hx hb hts u7 hown hK hP 0 rfl rfl 10 (by decide) (hts _ (m7 8 rfl)) (fun _ h9 => h9) rfl dX7_note_10 ?_
    refine lv_sipush (v := 151) hx hb dX7_note_13 (by decide) ?_
    refine lv_aload_n hx hb dX7_note_16 rfl (lv_at hl 0 rfl) ?_
    refine va_get (D := D) (ci := 7) (v := .ref di) (C := RX7) (T := TX7) (N := 15) hx hb hts u7 hown hK hP 0 rfl rfl 10 (by decide) (hts _ (m7 8 rfl)) (fun _ h9 => h9) rfl dX7_note_17 ?_
    refine lv_iconst (v := 0) hx hb dX7_note_20 (by decide) ?_
    refine lv_sipush (v := 1963) hx hb dX7_note_21 (by decide) ?_
    refine gp_backv (gp_runS hX good7 i7 (c7_copyS l D cI di 2114 fd 151 0 1963 (by omega) (by omega) (by omega) (by omega)) q7_copy rfl (m7 20 rfl) (m7 21 rfl) ⟨Nat.le_of_ble_eq_true rfl, Nat.le_of_ble_eq_true rfl⟩ hK [0] rfl hP hD [2] (by decide) rfl hl.1 rfl (Nat.le_of_ble_eq_true rfl) dX7_note_24 ⟨Nat.zero_le _, Nat.zero_le _⟩) hP hD hS [2] rfl (fun u h => by rw [h]; simp only [List.map_cons, List.map_nil]) (fun u H locs hpost hP hD hS => ?_)
    subst hpost
    have hP : va_P D vwCl [(h, .inr (7, [.int (rf), .ref sc, .int (nI (ss)), .int (nI (ps.2)), .int (bI (ps.1 = true)), .int (rb), .int (rl), .ref nw, .ref tr, .ref lk, .ref di, .int (nI (ac9)), .ref kp, .ref ik, .ref lv])), (nw, .inl (cI, 151, .inl f)), (di, .inl (cI, 2114, .inl (va_cpy fd fd 151 0 1963)))] H := hP
    have hD : va_D A [(h, .inr (7, [.int (rf), .ref sc, .int (nI (ss)), .int (nI (ps.2)), .int (bI (ps.1 = true)), .int (rb), .int (rl), .ref nw, .ref tr, .ref lk, .ref di, .int (nI (ac9)), .ref kp, .ref ik, .ref lv])), (nw, .inl (cI, 151, .inl f)), (di, .inl (cI, 2114, .inl (va_cpy fd fd 151 0 1963)))] := hD
    refine lv_aload_n hx hb dX7_note_27 rfl (lv_at hl 0 rfl) ?_
    refine lv_dup hx hb dX7_note_28 rfl ?_
    refine va_get (D := D) (ci := 7) (v := .int (nI (ac9))) (C := RX7) (T := TX7) (N := 15) hx hb hts u7 hown hK hP 0 rfl rfl 11 (by decide) (hts _ (m7 19 rfl)) (fun _ h9 => h9) rfl dX7_note_29 ?_
    refine lv_iconst (v := 1) hx hb dX7_note_32 (by decide) ?_
    refine lv_isub hx hb dX7_note_33 ?_
    refine lv_as (y := nI (ac9 - 1)) (pk_sub (a := ac9) (b := 1) (by omega)) ?_
    refine va_put (D := D) (ci := 7) (v := .int (nI (ac9 - 1))) (ty := .int) (C := RX7) (T := TX7) (N := 15) hx hb hts u7 tyX7 tyX7_ok nmX7 hown hK hP hD hS 0 rfl rfl 11 (by decide) (hts _ (m7 19 rfl)) (fun _ h9 => h9) rfl (by decide +kernel) rfl rfl (Nat.le_of_ble_eq_true rfl) dX7_note_34 (fun H locs hP hD hS => ?_)
    have hP : va_P D vwCl [(h, .inr (7, [.int (rf), .ref sc, .int (nI (ss)), .int (nI (ps.2)), .int (bI (ps.1 = true)), .int (rb), .int (rl), .ref nw, .ref tr, .ref lk, .ref di, .int (nI (ac9 - 1)), .ref kp, .ref ik, .ref lv])), (nw, .inl (cI, 151, .inl f)), (di, .inl (cI, 2114, .inl (va_cpy fd fd 151 0 1963)))] H := hP
    have hD : va_D A [(h, .inr (7, [.int (rf), .ref sc, .int (nI (ss)), .int (nI (ps.2)), .int (bI (ps.1 = true)), .int (rb), .int (rl), .ref nw, .ref tr, .ref lk, .ref di, .int (nI (ac9 - 1)), .ref kp, .ref ik, .ref lv])), (nw, .inl (cI, 151, .inl f)), (di, .inl (cI, 2114, .inl (va_cpy fd fd 151 0 1963)))] := hD
    refine lv_aload_n hx hb dX7_note_37 rfl (lv_at hl 0 rfl) ?_
    refine va_get (D := D) (ci := 7) (v := .ref nw) (C := RX7) (T := TX7) (N := 15) hx hb hts u7 hown hK hP 0 rfl rfl 7 (by decide) (hts _ (m7 5 rfl)) (fun _ h9 => h9) rfl dX7_note_38 ?_
    refine lv_iconst (v := 0) hx hb dX7_note_41 (by decide) ?_
    refine lv_aload_n hx hb dX7_note_42 rfl (lv_at hl 0 rfl) ?_
    refine va_get (D := D) (ci := 7) (v := .ref di) (C := RX7) (T := TX7) (N := 15) hx hb hts u7 hown hK hP 0 rfl rfl 10 (by decide) (hts _ (m7 8 rfl)) (fun _ h9 => h9) rfl dX7_note_43 ?_
    refine lv_sipush (v := 151) hx hb dX7_note_46 (by decide) ?_
    refine lv_aload_n hx hb dX7_note_49 rfl (lv_at hl 0 rfl) ?_
    refine va_get (D := D) (ci := 7) (v := .int (nI (ac9 - 1))) (C := RX7) (T := TX7) (N := 15) hx hb hts u7 hown hK hP 0 rfl rfl 11 (by decide) (hts _ (m7 19 rfl)) (fun _ h9 => h9) rfl dX7_note_50 ?_
    refine lv_imul hx hb dX7_note_53 ?_
    refine lv_as (y := nI (151 * (ac9 - 1))) (pk_mul (151) (ac9 - 1)) ?_
    refine lv_sipush (v := 151) hx hb dX7_note_54 (by decide) ?_
    refine gp_backv (gp_runS hX good7 i7 (c7_copy l D cI nw di 151 2114 f (va_cpy fd fd 151 0 1963) 0 (151 * (ac9 - 1)) 151 (by omega) (by omega) (by omega) (by omega)) q7_copy rfl (m7 20 rfl) (m7 21 rfl) ⟨Nat.le_of_ble_eq_true rfl, Nat.le_of_ble_eq_true rfl⟩ hK [0] rfl hP hD [1, 2] (by decide) rfl hl.1 rfl (Nat.le_of_ble_eq_true rfl) dX7_note_57 ⟨Nat.zero_le _, Nat.zero_le _⟩) hP hD hS [1, 2] rfl (fun u h => by rw [h]; simp only [List.map_cons, List.map_nil]) (fun u H locs hpost hP hD hS => ?_)
    subst hpost
    have hP : va_P D vwCl [(h, .inr (7, [.int (rf), .ref sc, .int (nI (ss)), .int (nI (ps.2)), .int (bI (ps.1 = true)), .int (rb), .int (rl), .ref nw, .ref tr, .ref lk, .ref di, .int (nI (ac9 - 1)), .ref kp, .ref ik, .ref lv])), (nw, .inl (cI, 151, .inl f)), (di, .inl (cI, 2114, .inl (va_cpy f (va_cpy fd fd 151 0 1963) 0 (151 * (ac9 - 1)) 151)))] H := hP
    have hD : va_D A [(h, .inr (7, [.int (rf), .ref sc, .int (nI (ss)), .int (nI (ps.2)), .int (bI (ps.1 = true)), .int (rb), .int (rl), .ref nw, .ref tr, .ref lk, .ref di, .int (nI (ac9 - 1)), .ref kp, .ref ik, .ref lv])), (nw, .inl (cI, 151, .inl f)), (di, .inl (cI, 2114, .inl (va_cpy f (va_cpy fd fd 151 0 1963) 0 (151 * (ac9 - 1)) 151)))] := hD
    refine lv_aload_n hx hb dX7_note_60 rfl (lv_at hl 0 rfl) ?_
    refine lv_dup hx hb dX7_note_61 rfl ?_
    refine va_get (D := D) (ci := 7) (v := .int (nI (ac9 - 1))) (C := RX7) (T := TX7) (N := 15) hx hb hts u7 hown hK hP 0 rfl rfl 11 (by decide) (hts _ (m7 19 rfl)) (fun _ h9 => h9) rfl dX7_note_62 ?_
    refine lv_iconst (v := 1) hx hb dX7_note_65 (by decide) ?_
    refine lv_iadd hx hb dX7_note_66 ?_
    refine lv_as (y := nI (ac9 - 1 + 1)) (nI_add (ac9 - 1) (1)) ?_
    refine va_put (D := D) (ci := 7) (v := .int (nI (ac9 - 1 + 1))) (ty := .int) (C := RX7) (T := TX7) (N := 15) hx hb hts u7 tyX7 tyX7_ok nmX7 hown hK hP hD hS 0 rfl rfl 11 (by decide) (hts _ (m7 19 rfl)) (fun _ h9 => h9) rfl (by decide +kernel) rfl rfl (Nat.le_of_ble_eq_true rfl) dX7_note_67 (fun H locs hP hD hS => ?_)
    have hP : va_P D vwCl [(h, .inr (7, [.int (rf), .ref sc, .int (nI (ss)), .int (nI (ps.2)), .int (bI (ps.1 = true)), .int (rb), .int (rl), .ref nw, .ref tr, .ref lk, .ref di, .int (nI (ac9 - 1 + 1)), .ref kp, .ref ik, .ref lv])), (nw, .inl (cI, 151, .inl f)), (di, .inl (cI, 2114, .inl (va_cpy f (va_cpy fd fd 151 0 1963) 0 (151 * (ac9 - 1)) 151)))] H := hP
    have hD : va_D A [(h, .inr (7, [.int (rf), .ref sc, .int (nI (ss)), .int (nI (ps.2)), .int (bI (ps.1 = true)), .int (rb), .int (rl), .ref nw, .ref tr, .ref lk, .ref di, .int (nI (ac9 - 1 + 1)), .ref kp, .ref ik, .ref lv])), (nw, .inl (cI, 151, .inl f)), (di, .inl (cI, 2114, .inl (va_cpy f (va_cpy fd fd 151 0 1963) 0 (151 * (ac9 - 1)) 151)))] := hD
    have hP : va_P D vwCl [(h, .inr (7, [.int (rf), .ref sc, .int (nI (ss)), .int (nI (ps.2)), .int (bI (ps.1 = true)), .int (rb), .int (rl), .ref nw, .ref tr, .ref lk, .ref di, .int (nI (acN ac9)), .ref kp, .ref ik, .ref lv])), (nw, .inl (cI, 151, .inl f)), (di, .inl (cI, 2114, .inl (va_cpy f (va_cpy fd fd 151 0 1963) 0 (151 * (ac9 - 1)) 151)))] H := by
      rw [show (nI (acN ac9) : Int32) = nI (ac9 - 1 + 1) from by rw [acN, if_pos c6_1, show ac9 - 1 + 1 = 14 by omega]]
      exact hP
    have hP : va_P D vwCl [(h, .inr (7, [.int (rf), .ref sc, .int (nI (ss)), .int (nI (ps.2)), .int (bI (ps.1 = true)), .int (rb), .int (rl), .ref nw, .ref tr, .ref lk, .ref di, .int (nI (acN ac9)), .ref kp, .ref ik, .ref lv])), (nw, .inl (cI, 151, .inl f)), (di, .inl (cI, 2114, .inl (diN fd f ac9)))] H := by
      rw [show (diN fd f ac9 : Nat → Int32) = va_cpy f (va_cpy fd fd 151 0 1963) 0 (151 * (ac9 - 1)) 151 from by rw [diN, if_pos c6_1, show ac9 - 1 = 13 by omega]]
      exact hP
    exact gp_retv hX hr hlocks hS hP rfl dX7_note_70
theorem dX7_put_0 : decode cX7_put 0 = .ok (.iload_n 1, 1) := by decide +kernel
theorem dX7_put_1 : decode cX7_put 1 = .ok (.invokestatic 230, 3) := by decide +kernel
theorem dX7_put_4 : decode cX7_put 4 = .ok (.ifCond .eq 19, 3) := by decide +kernel
theorem dX7_put_7 : decode cX7_put 7 = .ok (.iload_n 2, 1) := by decide +kernel
theorem dX7_put_8 : decode cX7_put 8 = .ok (.i2l, 1) := by decide +kernel
theorem dX7_put_9 : decode cX7_put 9 = .ok (.lconst 0, 1) := by decide +kernel
theorem dX7_put_10 : decode cX7_put 10 = .ok (.ldc2_w 235, 3) := by decide +kernel
theorem dX7_put_13 : decode cX7_put 13 = .ok (.invokestatic 147, 3) := by decide +kernel
theorem dX7_put_16 : decode cX7_put 16 = .ok (.ifCond .eq 7, 3) := by decide +kernel
theorem dX7_put_19 : decode cX7_put 19 = .ok (.iconst 1, 1) := by decide +kernel
theorem dX7_put_20 : decode cX7_put 20 = .ok (.goto 4, 3) := by decide +kernel
theorem dX7_put_23 : decode cX7_put 23 = .ok (.iconst 0, 1) := by decide +kernel
theorem dX7_put_24 : decode cX7_put 24 = .ok (.istore_n 3, 1) := by decide +kernel
theorem dX7_put_25 : decode cX7_put 25 = .ok (.aload_n 0, 1) := by decide +kernel
theorem dX7_put_26 : decode cX7_put 26 = .ok (.iload_n 3, 1) := by decide +kernel
theorem dX7_put_27 : decode cX7_put 27 = .ok (.ifCond .ne 7, 3) := by decide +kernel
theorem dX7_put_30 : decode cX7_put 30 = .ok (.iconst 1, 1) := by decide +kernel
theorem dX7_put_31 : decode cX7_put 31 = .ok (.goto 19, 3) := by decide +kernel
theorem dX7_put_34 : decode cX7_put 34 = .ok (.aload_n 0, 1) := by decide +kernel
theorem dX7_put_35 : decode cX7_put 35 = .ok (.aload_n 0, 1) := by decide +kernel
theorem dX7_put_36 : decode cX7_put 36 = .ok (.getfield 13, 3) := by decide +kernel
theorem dX7_put_39 : decode cX7_put 39 = .ok (.invokevirtual 134, 3) := by decide +kernel
theorem dX7_put_42 : decode cX7_put 42 = .ok (.ifCond .eq 7, 3) := by decide +kernel
theorem dX7_put_45 : decode cX7_put 45 = .ok (.iconst 0, 1) := by decide +kernel
theorem dX7_put_46 : decode cX7_put 46 = .ok (.goto 4, 3) := by decide +kernel
theorem dX7_put_49 : decode cX7_put 49 = .ok (.iconst 2, 1) := by decide +kernel
theorem dX7_put_50 : decode cX7_put 50 = .ok (.invokevirtual 154, 3) := by decide +kernel
theorem dX7_put_53 : decode cX7_put 53 = .ok (.ifCond .eq 5, 3) := by decide +kernel
theorem dX7_put_56 : decode cX7_put 56 = .ok (.iconst 0, 1) := by decide +kernel
theorem dX7_put_57 : decode cX7_put 57 = .ok (.ireturn, 1) := by decide +kernel
theorem dX7_put_58 : decode cX7_put 58 = .ok (.aload_n 0, 1) := by decide +kernel
theorem dX7_put_59 : decode cX7_put 59 = .ok (.invokevirtual 237, 3) := by decide +kernel
theorem dX7_put_62 : decode cX7_put 62 = .ok (.aload_n 0, 1) := by decide +kernel
theorem dX7_put_63 : decode cX7_put 63 = .ok (.aload_n 0, 1) := by decide +kernel
theorem dX7_put_64 : decode cX7_put 64 = .ok (.getfield 13, 3) := by decide +kernel
theorem dX7_put_67 : decode cX7_put 67 = .ok (.iload_n 1, 1) := by decide +kernel
theorem dX7_put_68 : decode cX7_put 68 = .ok (.iload_n 2, 1) := by decide +kernel
theorem dX7_put_69 : decode cX7_put 69 = .ok (.invokevirtual 128, 3) := by decide +kernel
theorem dX7_put_72 : decode cX7_put 72 = .ok (.ireturn, 1) := by decide +kernel
set_option maxHeartbeats 4000000 in
set_option maxRecDepth 100000 in
theorem c7_put (l : Launch) (D : va_G) (cI cZ : ClassId) (h sc nw tr lk di kp ik lv : Nat) (rf rb rl : Int32) (ac9 : Nat) (ss : Nat) (ps : Bool × Nat) (f : Nat → Int32) (B : Nat) (flk fl fd : Nat → Int32) (hac : ac9 ≤ 14) (hO : Ok f B) (k v : Int32) : GPi l yX7_put cX7_put 4 .int W7 12 269 D [(h, .inr (7, [.int (rf), .ref sc, .int (nI (ss)), .int (nI (ps.2)), .int (bI (ps.1 = true)), .int (rb), .int (rl), .ref nw, .ref tr, .ref lk, .ref di, .int (nI (ac9)), .ref kp, .ref ik, .ref lv])), (nw, .inl (cI, 151, .inl f)), (lk, .inl (cI, 151, .inl flk)), (lv, .inl (cI, 4, .inl fl)), (di, .inl (cI, 2114, .inl fd))] [(cI, .int)] [.ref h, .int (k), .int (v)] (fun (r9 : Int32) (u9 : va_W) => r9 = (if putR f B k v = 0 then (recT B k v f).1 else 0) ∧ ∃ fl9 : Nat → Int32, ∃ lk9 : Nat → Int32, u9 = [(h, .inr (7, [.int (putR f B k v), .ref sc, .int (nI (ss)), .int (nI (ps.2)), .int (bI (ps.1 = true)), .int (rb), .int (rl), .ref nw, .ref tr, .ref lk, .ref di, .int (nI (if putR f B k v = 0 then acN ac9 else ac9)), .ref kp, .ref ik, .ref lv])), (nw, .inl (cI, 151, .inl (if putR f B k v = 0 then (recT B k v f).2 else f))), (lk, .inl (cI, 151, .inl lk9)), (lv, .inl (cI, 4, .inl fl9)), (di, .inl (cI, 2114, .inl (if putR f B k v = 0 then diN fd f ac9 else fd)))]) := by
  refine gp_of RX7 (by decide) rfl (Nat.le_of_ble_eq_true rfl) ?_
  intro p e s m below meth c ls H hX hr hlocks hK hP hD hS hl
  generalize gp_A [(h, .inr (7, [.int (rf), .ref sc, .int (nI (ss)), .int (nI (ps.2)), .int (bI (ps.1 = true)), .int (rb), .int (rl), .ref nw, .ref tr, .ref lk, .ref di, .int (nI (ac9)), .ref kp, .ref ik, .ref lv])), (nw, .inl (cI, 151, .inl f)), (lk, .inl (cI, 151, .inl flk)), (lv, .inl (cI, 4, .inl fl)), (di, .inl (cI, 2114, .inl fd))] = A at hD hS ⊢
  have hx := hX.1
  have hb := hX.2.1
  have hown := hX.2.2.2.1
  have hts := hX.2.2.2.2
  have hl : lv_has ls 4 [(0, .ref h), (1, .int (k)), (2, .int (v))] := hl
  have hB8 := hO.1.2.1
  refine lv_iload_n hx hb dX7_put_0 rfl (lv_at hl 1 rfl) ?_
  refine rp_callS hX good7 i7 (c7_isKey l D k) q7_isKey rfl (m7 186 rfl) (m7 187 rfl) ⟨Nat.le_of_ble_eq_true rfl, Nat.le_of_ble_eq_true rfl⟩ hK [] rfl hP [] rfl hS hl.1 rfl (Nat.le_of_ble_eq_true rfl) dX7_put_1 ⟨Nat.zero_le _, Nat.zero_le _⟩ (fun H locs hP hS => ?_)
  refine lv_if_eq (tgt := 23) hx hb dX7_put_4 (by decide) (fun c4_1 => ?_) (fun c4_1 => ?_)
  · skip
    have c4_1 := bI_f c4_1
    refine lv_iconst (v := 0) hx hb dX7_put_23 (by decide) ?_
    refine lv_istore_n (lv' := [(3, .int (0)), (0, .ref h), (1, .int (k)), (2, .int (v))]) hx hb dX7_put_24 rfl hl (by decide) rfl (fun ls hl => ?_)
    refine lv_aload_n hx hb dX7_put_25 rfl (lv_at hl 1 rfl) ?_
    refine lv_iload_n hx hb dX7_put_26 rfl (lv_at hl 0 rfl) ?_
    refine lv_if_ne (tgt := 34) hx hb dX7_put_27 (by decide) (fun c27_2 => ?_) (fun c27_2 => ?_)
    · skip
      exact absurd c27_2 (by decide)
    · skip
      refine lv_iconst (v := 1) hx hb dX7_put_30 (by decide) ?_
      refine lv_goto (tgt := 50) hx hb dX7_put_31 (by decide) ?_
      refine gp_backi (gp_runV hX good7 i7 (c7_refused l D h rf 1 [.ref sc, .int (nI (ss)), .int (nI (ps.2)), .int (bI (ps.1 = true)), .int (rb), .int (rl), .ref nw, .ref tr, .ref lk, .ref di, .int (nI (ac9)), .ref kp, .ref ik, .ref lv]) q7_refused rfl (m7 117 rfl) (m7 118 rfl) (m7 119 rfl) ⟨Nat.le_of_ble_eq_true rfl, Nat.le_of_ble_eq_true rfl⟩ hK [] rfl hP hD [0] (by decide) rfl (ci := 7) (q0 := 0) rfl rfl rfl hl.1 rfl (Nat.le_of_ble_eq_true rfl) dX7_put_50 ⟨Nat.zero_le _, Nat.zero_le _⟩) hP hD hS [0] rfl (fun r u h => by rw [h.2]; simp only [List.map_cons, List.map_nil]) (fun r9 u H locs hpost hP hD hS => ?_)
      obtain ⟨hr9, rfl⟩ := hpost
      refine lv_as hr9 ?_
      have hP : va_P D vwCl [(h, .inr (7, [.int (1), .ref sc, .int (nI (ss)), .int (nI (ps.2)), .int (bI (ps.1 = true)), .int (rb), .int (rl), .ref nw, .ref tr, .ref lk, .ref di, .int (nI (ac9)), .ref kp, .ref ik, .ref lv])), (nw, .inl (cI, 151, .inl f)), (lk, .inl (cI, 151, .inl flk)), (lv, .inl (cI, 4, .inl fl)), (di, .inl (cI, 2114, .inl fd))] H := hP
      have hD : va_D A [(h, .inr (7, [.int (1), .ref sc, .int (nI (ss)), .int (nI (ps.2)), .int (bI (ps.1 = true)), .int (rb), .int (rl), .ref nw, .ref tr, .ref lk, .ref di, .int (nI (ac9)), .ref kp, .ref ik, .ref lv])), (nw, .inl (cI, 151, .inl f)), (lk, .inl (cI, 151, .inl flk)), (lv, .inl (cI, 4, .inl fl)), (di, .inl (cI, 2114, .inl fd))] := hD
      refine lv_as (show bI (0 < (1 : Int32)) = 1 from by decide) ?_
      refine lv_if_eq (tgt := 58) hx hb dX7_put_53 (by decide) (fun c53_3 => ?_) (fun c53_3 => ?_)
      · skip
        exact absurd c53_3 (by decide)
      · skip
        refine lv_iconst (v := 0) hx hb dX7_put_56 (by decide) ?_
        have hR9 : putR f B k v = 1 := by rw [putR, if_neg (fun z => c4_1 z.1)]
        have hP : va_P D vwCl [(h, .inr (7, [.int (putR f B k v), .ref sc, .int (nI (ss)), .int (nI (ps.2)), .int (bI (ps.1 = true)), .int (rb), .int (rl), .ref nw, .ref tr, .ref lk, .ref di, .int (nI (if putR f B k v = 0 then acN ac9 else ac9)), .ref kp, .ref ik, .ref lv])), (nw, .inl (cI, 151, .inl f)), (lk, .inl (cI, 151, .inl flk)), (lv, .inl (cI, 4, .inl fl)), (di, .inl (cI, 2114, .inl fd))] H := by
          rw [show (nI (if putR f B k v = 0 then acN ac9 else ac9) : Int32) = nI (ac9) from (congrArg nI (if_neg (by rw [hR9]; decide)))]
          rw [show (putR f B k v : Int32) = 1 from hR9]
          exact hP
        have hP : va_P D vwCl [(h, .inr (7, [.int (putR f B k v), .ref sc, .int (nI (ss)), .int (nI (ps.2)), .int (bI (ps.1 = true)), .int (rb), .int (rl), .ref nw, .ref tr, .ref lk, .ref di, .int (nI (if putR f B k v = 0 then acN ac9 else ac9)), .ref kp, .ref ik, .ref lv])), (nw, .inl (cI, 151, .inl (if putR f B k v = 0 then (recT B k v f).2 else f))), (lk, .inl (cI, 151, .inl flk)), (lv, .inl (cI, 4, .inl fl)), (di, .inl (cI, 2114, .inl fd))] H := by
          rw [show (if putR f B k v = 0 then (recT B k v f).2 else f : Nat → Int32) = f from (if_neg (by rw [hR9]; decide))]
          exact hP
        have hP : va_P D vwCl [(h, .inr (7, [.int (putR f B k v), .ref sc, .int (nI (ss)), .int (nI (ps.2)), .int (bI (ps.1 = true)), .int (rb), .int (rl), .ref nw, .ref tr, .ref lk, .ref di, .int (nI (if putR f B k v = 0 then acN ac9 else ac9)), .ref kp, .ref ik, .ref lv])), (nw, .inl (cI, 151, .inl (if putR f B k v = 0 then (recT B k v f).2 else f))), (lk, .inl (cI, 151, .inl flk)), (lv, .inl (cI, 4, .inl fl)), (di, .inl (cI, 2114, .inl (if putR f B k v = 0 then diN fd f ac9 else fd)))] H := by
          rw [show (if putR f B k v = 0 then diN fd f ac9 else fd : Nat → Int32) = fd from (if_neg (by rw [hR9]; decide))]
          exact hP
        exact gp_reti hX hr hlocks hS hP ⟨oRn hR9 (by decide), _, _, rfl⟩ dX7_put_57
  · skip
    have c4_1 := bI_t c4_1
    refine lv_iload_n hx hb dX7_put_7 rfl (lv_at hl 2 rfl) ?_
    refine lv_i2l (v := (v : Int32).toInt64) hx hb dX7_put_8 (rfl) ?_
    refine lv_lconst (v := 0) hx hb dX7_put_9 (by decide) ?_
    refine lv_asl (show (0 : Int64) = (0 : Int32).toInt64 from by decide) ?_
    refine lv_ldc2 (v := 999) hx hb hown (hts _ (m7 190 rfl)) dX7_put_10 ?_
    refine lv_asl (show (999 : Int64) = (999 : Int32).toInt64 from by decide) ?_
    refine rp_callS hX good7 i7 (c7_inI l D v 0 999) q7_in rfl (m7 114 rfl) (m7 115 rfl) ⟨Nat.le_of_ble_eq_true rfl, Nat.le_of_ble_eq_true rfl⟩ hK [] rfl hP [] rfl hS hl.1 rfl (Nat.le_of_ble_eq_true rfl) dX7_put_13 ⟨Nat.zero_le _, Nat.zero_le _⟩ (fun H locs hP hS => ?_)
    refine lv_if_eq (tgt := 23) hx hb dX7_put_16 (by decide) (fun c16_4 => ?_) (fun c16_4 => ?_)
    · skip
      have c16_4 := bI_f c16_4
      refine lv_iconst (v := 0) hx hb dX7_put_23 (by decide) ?_
      refine lv_istore_n (lv' := [(3, .int (0)), (0, .ref h), (1, .int (k)), (2, .int (v))]) hx hb dX7_put_24 rfl hl (by decide) rfl (fun ls hl => ?_)
      refine lv_aload_n hx hb dX7_put_25 rfl (lv_at hl 1 rfl) ?_
      refine lv_iload_n hx hb dX7_put_26 rfl (lv_at hl 0 rfl) ?_
      refine lv_if_ne (tgt := 34) hx hb dX7_put_27 (by decide) (fun c27_5 => ?_) (fun c27_5 => ?_)
      · skip
        exact absurd c27_5 (by decide)
      · skip
        refine lv_iconst (v := 1) hx hb dX7_put_30 (by decide) ?_
        refine lv_goto (tgt := 50) hx hb dX7_put_31 (by decide) ?_
        refine gp_backi (gp_runV hX good7 i7 (c7_refused l D h rf 1 [.ref sc, .int (nI (ss)), .int (nI (ps.2)), .int (bI (ps.1 = true)), .int (rb), .int (rl), .ref nw, .ref tr, .ref lk, .ref di, .int (nI (ac9)), .ref kp, .ref ik, .ref lv]) q7_refused rfl (m7 117 rfl) (m7 118 rfl) (m7 119 rfl) ⟨Nat.le_of_ble_eq_true rfl, Nat.le_of_ble_eq_true rfl⟩ hK [] rfl hP hD [0] (by decide) rfl (ci := 7) (q0 := 0) rfl rfl rfl hl.1 rfl (Nat.le_of_ble_eq_true rfl) dX7_put_50 ⟨Nat.zero_le _, Nat.zero_le _⟩) hP hD hS [0] rfl (fun r u h => by rw [h.2]; simp only [List.map_cons, List.map_nil]) (fun r9 u H locs hpost hP hD hS => ?_)
        obtain ⟨hr9, rfl⟩ := hpost
        refine lv_as hr9 ?_
        have hP : va_P D vwCl [(h, .inr (7, [.int (1), .ref sc, .int (nI (ss)), .int (nI (ps.2)), .int (bI (ps.1 = true)), .int (rb), .int (rl), .ref nw, .ref tr, .ref lk, .ref di, .int (nI (ac9)), .ref kp, .ref ik, .ref lv])), (nw, .inl (cI, 151, .inl f)), (lk, .inl (cI, 151, .inl flk)), (lv, .inl (cI, 4, .inl fl)), (di, .inl (cI, 2114, .inl fd))] H := hP
        have hD : va_D A [(h, .inr (7, [.int (1), .ref sc, .int (nI (ss)), .int (nI (ps.2)), .int (bI (ps.1 = true)), .int (rb), .int (rl), .ref nw, .ref tr, .ref lk, .ref di, .int (nI (ac9)), .ref kp, .ref ik, .ref lv])), (nw, .inl (cI, 151, .inl f)), (lk, .inl (cI, 151, .inl flk)), (lv, .inl (cI, 4, .inl fl)), (di, .inl (cI, 2114, .inl fd))] := hD
        refine lv_as (show bI (0 < (1 : Int32)) = 1 from by decide) ?_
        refine lv_if_eq (tgt := 58) hx hb dX7_put_53 (by decide) (fun c53_6 => ?_) (fun c53_6 => ?_)
        · skip
          exact absurd c53_6 (by decide)
        · skip
          refine lv_iconst (v := 0) hx hb dX7_put_56 (by decide) ?_
          have hR9 : putR f B k v = 1 := by rw [putR, if_neg (fun z => c16_4 z.2)]
          have hP : va_P D vwCl [(h, .inr (7, [.int (putR f B k v), .ref sc, .int (nI (ss)), .int (nI (ps.2)), .int (bI (ps.1 = true)), .int (rb), .int (rl), .ref nw, .ref tr, .ref lk, .ref di, .int (nI (if putR f B k v = 0 then acN ac9 else ac9)), .ref kp, .ref ik, .ref lv])), (nw, .inl (cI, 151, .inl f)), (lk, .inl (cI, 151, .inl flk)), (lv, .inl (cI, 4, .inl fl)), (di, .inl (cI, 2114, .inl fd))] H := by
            rw [show (nI (if putR f B k v = 0 then acN ac9 else ac9) : Int32) = nI (ac9) from (congrArg nI (if_neg (by rw [hR9]; decide)))]
            rw [show (putR f B k v : Int32) = 1 from hR9]
            exact hP
          have hP : va_P D vwCl [(h, .inr (7, [.int (putR f B k v), .ref sc, .int (nI (ss)), .int (nI (ps.2)), .int (bI (ps.1 = true)), .int (rb), .int (rl), .ref nw, .ref tr, .ref lk, .ref di, .int (nI (if putR f B k v = 0 then acN ac9 else ac9)), .ref kp, .ref ik, .ref lv])), (nw, .inl (cI, 151, .inl (if putR f B k v = 0 then (recT B k v f).2 else f))), (lk, .inl (cI, 151, .inl flk)), (lv, .inl (cI, 4, .inl fl)), (di, .inl (cI, 2114, .inl fd))] H := by
            rw [show (if putR f B k v = 0 then (recT B k v f).2 else f : Nat → Int32) = f from (if_neg (by rw [hR9]; decide))]
            exact hP
          have hP : va_P D vwCl [(h, .inr (7, [.int (putR f B k v), .ref sc, .int (nI (ss)), .int (nI (ps.2)), .int (bI (ps.1 = true)), .int (rb), .int (rl), .ref nw, .ref tr, .ref lk, .ref di, .int (nI (if putR f B k v = 0 then acN ac9 else ac9)), .ref kp, .ref ik, .ref lv])), (nw, .inl (cI, 151, .inl (if putR f B k v = 0 then (recT B k v f).2 else f))), (lk, .inl (cI, 151, .inl flk)), (lv, .inl (cI, 4, .inl fl)), (di, .inl (cI, 2114, .inl (if putR f B k v = 0 then diN fd f ac9 else fd)))] H := by
            rw [show (if putR f B k v = 0 then diN fd f ac9 else fd : Nat → Int32) = fd from (if_neg (by rw [hR9]; decide))]
            exact hP
          exact gp_reti hX hr hlocks hS hP ⟨oRn hR9 (by decide), _, _, rfl⟩ dX7_put_57
    · skip
      have c16_4 := bI_t c16_4
      refine lv_iconst (v := 1) hx hb dX7_put_19 (by decide) ?_
      refine lv_goto (tgt := 24) hx hb dX7_put_20 (by decide) ?_
      refine lv_istore_n (lv' := [(3, .int (1)), (0, .ref h), (1, .int (k)), (2, .int (v))]) hx hb dX7_put_24 rfl hl (by decide) rfl (fun ls hl => ?_)
      refine lv_aload_n hx hb dX7_put_25 rfl (lv_at hl 1 rfl) ?_
      refine lv_iload_n hx hb dX7_put_26 rfl (lv_at hl 0 rfl) ?_
      refine lv_if_ne (tgt := 34) hx hb dX7_put_27 (by decide) (fun c27_7 => ?_) (fun c27_7 => ?_)
      · skip
        refine lv_aload_n hx hb dX7_put_34 rfl (lv_at hl 1 rfl) ?_
        refine lv_aload_n hx hb dX7_put_35 rfl (lv_at hl 1 rfl) ?_
        refine va_get (D := D) (ci := 7) (v := .ref nw) (C := RX7) (T := TX7) (N := 15) hx hb hts u7 hown hK hP 0 rfl rfl 7 (by decide) (hts _ (m7 5 rfl)) (fun _ h9 => h9) rfl dX7_put_36 ?_
        refine gp_backi (gp_runV hX good7 i7 (c7_hasRoom l D cI h lv lk nw [.int (rf), .ref sc, .int (nI (ss)), .int (nI (ps.2)), .int (bI (ps.1 = true)), .int (rb), .int (rl), .ref nw, .ref tr, .ref lk, .ref di, .int (nI (ac9)), .ref kp, .ref ik, .ref lv] fl flk f B hO.1 rfl rfl 5000 (lookT B f).1 (lookT B f).2 (ok_look hO)) q7_hasRoom rfl (m7 101 rfl) (m7 102 rfl) (m7 103 rfl) ⟨Nat.le_of_ble_eq_true rfl, Nat.le_of_ble_eq_true rfl⟩ hK [0] rfl hP hD [0, 3, 2, 1] (by decide) rfl (ci := 7) (q0 := 0) rfl rfl rfl hl.1 rfl (Nat.le_of_ble_eq_true rfl) dX7_put_39 ⟨Nat.zero_le _, Nat.zero_le _⟩) hP hD hS [0, 3, 2, 1] rfl (fun r u h => by obtain ⟨-, x8, rfl⟩ := h; simp only [List.map_cons, List.map_nil]) (fun r9 u H locs hpost hP hD hS => ?_)
        obtain ⟨hr9, x8, rfl⟩ := hpost
        refine lv_as hr9 ?_
        have hP : va_P D vwCl [(h, .inr (7, [.int (rf), .ref sc, .int (nI (ss)), .int (nI (ps.2)), .int (bI (ps.1 = true)), .int (rb), .int (rl), .ref nw, .ref tr, .ref lk, .ref di, .int (nI (ac9)), .ref kp, .ref ik, .ref lv])), (nw, .inl (cI, 151, .inl f)), (lk, .inl (cI, 151, .inl (if f 2 = 1 then ((lookT B f).2) else flk))), (lv, .inl (cI, 4, .inl x8)), (di, .inl (cI, 2114, .inl fd))] H := hP
        have hD : va_D A [(h, .inr (7, [.int (rf), .ref sc, .int (nI (ss)), .int (nI (ps.2)), .int (bI (ps.1 = true)), .int (rb), .int (rl), .ref nw, .ref tr, .ref lk, .ref di, .int (nI (ac9)), .ref kp, .ref ik, .ref lv])), (nw, .inl (cI, 151, .inl f)), (lk, .inl (cI, 151, .inl (if f 2 = 1 then ((lookT B f).2) else flk))), (lv, .inl (cI, 4, .inl x8)), (di, .inl (cI, 2114, .inl fd))] := hD
        refine lv_if_eq (tgt := 49) hx hb dX7_put_42 (by decide) (fun c42_9 => ?_) (fun c42_9 => ?_)
        · skip
          have c42_9 := bI_f c42_9
          refine lv_iconst (v := 2) hx hb dX7_put_49 (by decide) ?_
          refine gp_backi (gp_runV hX good7 i7 (c7_refused l D h rf 2 [.ref sc, .int (nI (ss)), .int (nI (ps.2)), .int (bI (ps.1 = true)), .int (rb), .int (rl), .ref nw, .ref tr, .ref lk, .ref di, .int (nI (ac9)), .ref kp, .ref ik, .ref lv]) q7_refused rfl (m7 117 rfl) (m7 118 rfl) (m7 119 rfl) ⟨Nat.le_of_ble_eq_true rfl, Nat.le_of_ble_eq_true rfl⟩ hK [] rfl hP hD [0] (by decide) rfl (ci := 7) (q0 := 0) rfl rfl rfl hl.1 rfl (Nat.le_of_ble_eq_true rfl) dX7_put_50 ⟨Nat.zero_le _, Nat.zero_le _⟩) hP hD hS [0] rfl (fun r u h => by rw [h.2]; simp only [List.map_cons, List.map_nil]) (fun r9 u H locs hpost hP hD hS => ?_)
          obtain ⟨hr9, rfl⟩ := hpost
          refine lv_as hr9 ?_
          have hP : va_P D vwCl [(h, .inr (7, [.int (2), .ref sc, .int (nI (ss)), .int (nI (ps.2)), .int (bI (ps.1 = true)), .int (rb), .int (rl), .ref nw, .ref tr, .ref lk, .ref di, .int (nI (ac9)), .ref kp, .ref ik, .ref lv])), (nw, .inl (cI, 151, .inl f)), (lk, .inl (cI, 151, .inl (if f 2 = 1 then ((lookT B f).2) else flk))), (lv, .inl (cI, 4, .inl x8)), (di, .inl (cI, 2114, .inl fd))] H := hP
          have hD : va_D A [(h, .inr (7, [.int (2), .ref sc, .int (nI (ss)), .int (nI (ps.2)), .int (bI (ps.1 = true)), .int (rb), .int (rl), .ref nw, .ref tr, .ref lk, .ref di, .int (nI (ac9)), .ref kp, .ref ik, .ref lv])), (nw, .inl (cI, 151, .inl f)), (lk, .inl (cI, 151, .inl (if f 2 = 1 then ((lookT B f).2) else flk))), (lv, .inl (cI, 4, .inl x8)), (di, .inl (cI, 2114, .inl fd))] := hD
          refine lv_as (show bI (0 < (2 : Int32)) = 1 from by decide) ?_
          refine lv_if_eq (tgt := 58) hx hb dX7_put_53 (by decide) (fun c53_10 => ?_) (fun c53_10 => ?_)
          · skip
            exact absurd c53_10 (by decide)
          · skip
            refine lv_iconst (v := 0) hx hb dX7_put_56 (by decide) ?_
            have hR9 : putR f B k v = 2 := by rw [putR, if_pos ⟨c4_1, c16_4⟩, if_neg c42_9]
            have hP : va_P D vwCl [(h, .inr (7, [.int (putR f B k v), .ref sc, .int (nI (ss)), .int (nI (ps.2)), .int (bI (ps.1 = true)), .int (rb), .int (rl), .ref nw, .ref tr, .ref lk, .ref di, .int (nI (if putR f B k v = 0 then acN ac9 else ac9)), .ref kp, .ref ik, .ref lv])), (nw, .inl (cI, 151, .inl f)), (lk, .inl (cI, 151, .inl (if f 2 = 1 then ((lookT B f).2) else flk))), (lv, .inl (cI, 4, .inl x8)), (di, .inl (cI, 2114, .inl fd))] H := by
              rw [show (nI (if putR f B k v = 0 then acN ac9 else ac9) : Int32) = nI (ac9) from (congrArg nI (if_neg (by rw [hR9]; decide)))]
              rw [show (putR f B k v : Int32) = 2 from hR9]
              exact hP
            have hP : va_P D vwCl [(h, .inr (7, [.int (putR f B k v), .ref sc, .int (nI (ss)), .int (nI (ps.2)), .int (bI (ps.1 = true)), .int (rb), .int (rl), .ref nw, .ref tr, .ref lk, .ref di, .int (nI (if putR f B k v = 0 then acN ac9 else ac9)), .ref kp, .ref ik, .ref lv])), (nw, .inl (cI, 151, .inl (if putR f B k v = 0 then (recT B k v f).2 else f))), (lk, .inl (cI, 151, .inl (if f 2 = 1 then ((lookT B f).2) else flk))), (lv, .inl (cI, 4, .inl x8)), (di, .inl (cI, 2114, .inl fd))] H := by
              rw [show (if putR f B k v = 0 then (recT B k v f).2 else f : Nat → Int32) = f from (if_neg (by rw [hR9]; decide))]
              exact hP
            have hP : va_P D vwCl [(h, .inr (7, [.int (putR f B k v), .ref sc, .int (nI (ss)), .int (nI (ps.2)), .int (bI (ps.1 = true)), .int (rb), .int (rl), .ref nw, .ref tr, .ref lk, .ref di, .int (nI (if putR f B k v = 0 then acN ac9 else ac9)), .ref kp, .ref ik, .ref lv])), (nw, .inl (cI, 151, .inl (if putR f B k v = 0 then (recT B k v f).2 else f))), (lk, .inl (cI, 151, .inl (if f 2 = 1 then ((lookT B f).2) else flk))), (lv, .inl (cI, 4, .inl x8)), (di, .inl (cI, 2114, .inl (if putR f B k v = 0 then diN fd f ac9 else fd)))] H := by
              rw [show (if putR f B k v = 0 then diN fd f ac9 else fd : Nat → Int32) = fd from (if_neg (by rw [hR9]; decide))]
              exact hP
            exact gp_reti hX hr hlocks hS hP ⟨oRn hR9 (by decide), _, _, rfl⟩ dX7_put_57
        · skip
          have c42_9 := bI_t c42_9
          refine lv_iconst (v := 0) hx hb dX7_put_45 (by decide) ?_
          refine lv_goto (tgt := 50) hx hb dX7_put_46 (by decide) ?_
          refine gp_backi (gp_runV hX good7 i7 (c7_refused l D h rf 0 [.ref sc, .int (nI (ss)), .int (nI (ps.2)), .int (bI (ps.1 = true)), .int (rb), .int (rl), .ref nw, .ref tr, .ref lk, .ref di, .int (nI (ac9)), .ref kp, .ref ik, .ref lv]) q7_refused rfl (m7 117 rfl) (m7 118 rfl) (m7 119 rfl) ⟨Nat.le_of_ble_eq_true rfl, Nat.le_of_ble_eq_true rfl⟩ hK [] rfl hP hD [0] (by decide) rfl (ci := 7) (q0 := 0) rfl rfl rfl hl.1 rfl (Nat.le_of_ble_eq_true rfl) dX7_put_50 ⟨Nat.zero_le _, Nat.zero_le _⟩) hP hD hS [0] rfl (fun r u h => by rw [h.2]; simp only [List.map_cons, List.map_nil]) (fun r9 u H locs hpost hP hD hS => ?_)
          obtain ⟨hr9, rfl⟩ := hpost
          refine lv_as hr9 ?_
          have hP : va_P D vwCl [(h, .inr (7, [.int (0), .ref sc, .int (nI (ss)), .int (nI (ps.2)), .int (bI (ps.1 = true)), .int (rb), .int (rl), .ref nw, .ref tr, .ref lk, .ref di, .int (nI (ac9)), .ref kp, .ref ik, .ref lv])), (nw, .inl (cI, 151, .inl f)), (lk, .inl (cI, 151, .inl (if f 2 = 1 then ((lookT B f).2) else flk))), (lv, .inl (cI, 4, .inl x8)), (di, .inl (cI, 2114, .inl fd))] H := hP
          have hD : va_D A [(h, .inr (7, [.int (0), .ref sc, .int (nI (ss)), .int (nI (ps.2)), .int (bI (ps.1 = true)), .int (rb), .int (rl), .ref nw, .ref tr, .ref lk, .ref di, .int (nI (ac9)), .ref kp, .ref ik, .ref lv])), (nw, .inl (cI, 151, .inl f)), (lk, .inl (cI, 151, .inl (if f 2 = 1 then ((lookT B f).2) else flk))), (lv, .inl (cI, 4, .inl x8)), (di, .inl (cI, 2114, .inl fd))] := hD
          refine lv_as (show bI (0 < (0 : Int32)) = 0 from by decide) ?_
          refine lv_if_eq (tgt := 58) hx hb dX7_put_53 (by decide) (fun c53_11 => ?_) (fun c53_11 => ?_)
          · skip
            refine lv_aload_n hx hb dX7_put_58 rfl (lv_at hl 1 rfl) ?_
            refine gp_backv (gp_runV hX good7 i7 (c7_note l D cI cZ h sc nw tr lk di kp ik lv 0 rb rl ac9 ss ps f fd (by omega)) q7_note rfl (m7 191 rfl) (m7 192 rfl) (m7 193 rfl) ⟨Nat.le_of_ble_eq_true rfl, Nat.le_of_ble_eq_true rfl⟩ hK [0] rfl hP hD [0, 1, 4] (by decide) rfl (ci := 7) (q0 := 0) rfl rfl rfl hl.1 rfl (Nat.le_of_ble_eq_true rfl) dX7_put_59 ⟨Nat.zero_le _, Nat.zero_le _⟩) hP hD hS [0, 1, 4] rfl (fun u h => by rw [h]; simp only [List.map_cons, List.map_nil]) (fun u H locs hpost hP hD hS => ?_)
            subst hpost
            have hP : va_P D vwCl [(h, .inr (7, [.int (0), .ref sc, .int (nI (ss)), .int (nI (ps.2)), .int (bI (ps.1 = true)), .int (rb), .int (rl), .ref nw, .ref tr, .ref lk, .ref di, .int (nI (acN ac9)), .ref kp, .ref ik, .ref lv])), (nw, .inl (cI, 151, .inl f)), (lk, .inl (cI, 151, .inl (if f 2 = 1 then ((lookT B f).2) else flk))), (lv, .inl (cI, 4, .inl x8)), (di, .inl (cI, 2114, .inl (diN fd f ac9)))] H := hP
            have hD : va_D A [(h, .inr (7, [.int (0), .ref sc, .int (nI (ss)), .int (nI (ps.2)), .int (bI (ps.1 = true)), .int (rb), .int (rl), .ref nw, .ref tr, .ref lk, .ref di, .int (nI (acN ac9)), .ref kp, .ref ik, .ref lv])), (nw, .inl (cI, 151, .inl f)), (lk, .inl (cI, 151, .inl (if f 2 = 1 then ((lookT B f).2) else flk))), (lv, .inl (cI, 4, .inl x8)), (di, .inl (cI, 2114, .inl (diN fd f ac9)))] := hD
            refine lv_aload_n hx hb dX7_put_62 rfl (lv_at hl 1 rfl) ?_
            refine lv_aload_n hx hb dX7_put_63 rfl (lv_at hl 1 rfl) ?_
            refine va_get (D := D) (ci := 7) (v := .ref nw) (C := RX7) (T := TX7) (N := 15) hx hb hts u7 hown hK hP 0 rfl rfl 7 (by decide) (hts _ (m7 5 rfl)) (fun _ h9 => h9) rfl dX7_put_64 ?_
            refine lv_iload_n hx hb dX7_put_67 rfl (lv_at hl 2 rfl) ?_
            refine lv_iload_n hx hb dX7_put_68 rfl (lv_at hl 3 rfl) ?_
            refine gp_backi (gp_runV hX good7 i7 (c7_record l D cI h lv nw [.int (0), .ref sc, .int (nI (ss)), .int (nI (ps.2)), .int (bI (ps.1 = true)), .int (rb), .int (rl), .ref nw, .ref tr, .ref lk, .ref di, .int (nI (acN ac9)), .ref kp, .ref ik, .ref lv] x8 f B hO.1 rfl k v 5000 (recT B k v f).1 (recT B k v f).2 (ok_rec hO _ _)) q7_record rfl (m7 93 rfl) (m7 94 rfl) (m7 95 rfl) ⟨Nat.le_of_ble_eq_true rfl, Nat.le_of_ble_eq_true rfl⟩ hK [0] rfl hP hD [0, 3, 1] (by decide) rfl (ci := 7) (q0 := 0) rfl rfl rfl hl.1 rfl (Nat.le_of_ble_eq_true rfl) dX7_put_69 ⟨Nat.zero_le _, Nat.zero_le _⟩) hP hD hS [0, 3, 1] rfl (fun r u h => by obtain ⟨-, x12, rfl⟩ := h; simp only [List.map_cons, List.map_nil]) (fun r9 u H locs hpost hP hD hS => ?_)
            obtain ⟨hr9, x12, rfl⟩ := hpost
            refine lv_as hr9 ?_
            have hP : va_P D vwCl [(h, .inr (7, [.int (0), .ref sc, .int (nI (ss)), .int (nI (ps.2)), .int (bI (ps.1 = true)), .int (rb), .int (rl), .ref nw, .ref tr, .ref lk, .ref di, .int (nI (acN ac9)), .ref kp, .ref ik, .ref lv])), (nw, .inl (cI, 151, .inl ((recT B k v f).2))), (lk, .inl (cI, 151, .inl (if f 2 = 1 then ((lookT B f).2) else flk))), (lv, .inl (cI, 4, .inl x12)), (di, .inl (cI, 2114, .inl (diN fd f ac9)))] H := hP
            have hD : va_D A [(h, .inr (7, [.int (0), .ref sc, .int (nI (ss)), .int (nI (ps.2)), .int (bI (ps.1 = true)), .int (rb), .int (rl), .ref nw, .ref tr, .ref lk, .ref di, .int (nI (acN ac9)), .ref kp, .ref ik, .ref lv])), (nw, .inl (cI, 151, .inl ((recT B k v f).2))), (lk, .inl (cI, 151, .inl (if f 2 = 1 then ((lookT B f).2) else flk))), (lv, .inl (cI, 4, .inl x12)), (di, .inl (cI, 2114, .inl (diN fd f ac9)))] := hD
            have hR9 : putR f B k v = 0 := by rw [putR, if_pos ⟨c4_1, c16_4⟩, if_pos c42_9]
            have hP : va_P D vwCl [(h, .inr (7, [.int (putR f B k v), .ref sc, .int (nI (ss)), .int (nI (ps.2)), .int (bI (ps.1 = true)), .int (rb), .int (rl), .ref nw, .ref tr, .ref lk, .ref di, .int (nI (if putR f B k v = 0 then acN ac9 else ac9)), .ref kp, .ref ik, .ref lv])), (nw, .inl (cI, 151, .inl ((recT B k v f).2))), (lk, .inl (cI, 151, .inl (if f 2 = 1 then ((lookT B f).2) else flk))), (lv, .inl (cI, 4, .inl x12)), (di, .inl (cI, 2114, .inl (diN fd f ac9)))] H := by
              rw [show (nI (if putR f B k v = 0 then acN ac9 else ac9) : Int32) = nI (acN ac9) from (congrArg nI (if_pos hR9))]
              rw [show (putR f B k v : Int32) = 0 from hR9]
              exact hP
            have hP : va_P D vwCl [(h, .inr (7, [.int (putR f B k v), .ref sc, .int (nI (ss)), .int (nI (ps.2)), .int (bI (ps.1 = true)), .int (rb), .int (rl), .ref nw, .ref tr, .ref lk, .ref di, .int (nI (if putR f B k v = 0 then acN ac9 else ac9)), .ref kp, .ref ik, .ref lv])), (nw, .inl (cI, 151, .inl (if putR f B k v = 0 then (recT B k v f).2 else f))), (lk, .inl (cI, 151, .inl (if f 2 = 1 then ((lookT B f).2) else flk))), (lv, .inl (cI, 4, .inl x12)), (di, .inl (cI, 2114, .inl (diN fd f ac9)))] H := by
              rw [show (if putR f B k v = 0 then (recT B k v f).2 else f : Nat → Int32) = (recT B k v f).2 from (if_pos hR9)]
              exact hP
            have hP : va_P D vwCl [(h, .inr (7, [.int (putR f B k v), .ref sc, .int (nI (ss)), .int (nI (ps.2)), .int (bI (ps.1 = true)), .int (rb), .int (rl), .ref nw, .ref tr, .ref lk, .ref di, .int (nI (if putR f B k v = 0 then acN ac9 else ac9)), .ref kp, .ref ik, .ref lv])), (nw, .inl (cI, 151, .inl (if putR f B k v = 0 then (recT B k v f).2 else f))), (lk, .inl (cI, 151, .inl (if f 2 = 1 then ((lookT B f).2) else flk))), (lv, .inl (cI, 4, .inl x12)), (di, .inl (cI, 2114, .inl (if putR f B k v = 0 then diN fd f ac9 else fd)))] H := by
              rw [show (if putR f B k v = 0 then diN fd f ac9 else fd : Nat → Int32) = diN fd f ac9 from (if_pos hR9)]
              exact hP
            exact gp_reti hX hr hlocks hS hP ⟨oR0 hR9, _, _, rfl⟩ dX7_put_72
          · skip
            exact absurd c53_11 (by decide)
      · skip
        exact absurd c27_7 (by decide)
theorem dX7_remove_0 : decode cX7_remove 0 = .ok (.aload_n 0, 1) := by decide +kernel
theorem dX7_remove_1 : decode cX7_remove 1 = .ok (.iload_n 1, 1) := by decide +kernel
theorem dX7_remove_2 : decode cX7_remove 2 = .ok (.invokestatic 230, 3) := by decide +kernel
theorem dX7_remove_5 : decode cX7_remove 5 = .ok (.ifCond .ne 7, 3) := by decide +kernel
theorem dX7_remove_8 : decode cX7_remove 8 = .ok (.iconst 1, 1) := by decide +kernel
theorem dX7_remove_9 : decode cX7_remove 9 = .ok (.goto 32, 3) := by decide +kernel
theorem dX7_remove_12 : decode cX7_remove 12 = .ok (.aload_n 0, 1) := by decide +kernel
theorem dX7_remove_13 : decode cX7_remove 13 = .ok (.aload_n 0, 1) := by decide +kernel
theorem dX7_remove_14 : decode cX7_remove 14 = .ok (.getfield 13, 3) := by decide +kernel
theorem dX7_remove_17 : decode cX7_remove 17 = .ok (.invokevirtual 134, 3) := by decide +kernel
theorem dX7_remove_20 : decode cX7_remove 20 = .ok (.ifCond .eq 20, 3) := by decide +kernel
theorem dX7_remove_23 : decode cX7_remove 23 = .ok (.aload_n 0, 1) := by decide +kernel
theorem dX7_remove_24 : decode cX7_remove 24 = .ok (.getfield 13, 3) := by decide +kernel
theorem dX7_remove_27 : decode cX7_remove 27 = .ok (.iload_n 1, 1) := by decide +kernel
theorem dX7_remove_28 : decode cX7_remove 28 = .ok (.invokestatic 68, 3) := by decide +kernel
theorem dX7_remove_31 : decode cX7_remove 31 = .ok (.bipush (-9), 2) := by decide +kernel
theorem dX7_remove_33 : decode cX7_remove 33 = .ok (.if_icmp .eq 7, 3) := by decide +kernel
theorem dX7_remove_36 : decode cX7_remove 36 = .ok (.iconst 0, 1) := by decide +kernel
theorem dX7_remove_37 : decode cX7_remove 37 = .ok (.goto 4, 3) := by decide +kernel
theorem dX7_remove_40 : decode cX7_remove 40 = .ok (.iconst 2, 1) := by decide +kernel
theorem dX7_remove_41 : decode cX7_remove 41 = .ok (.invokevirtual 154, 3) := by decide +kernel
theorem dX7_remove_44 : decode cX7_remove 44 = .ok (.ifCond .eq 5, 3) := by decide +kernel
theorem dX7_remove_47 : decode cX7_remove 47 = .ok (.iconst 0, 1) := by decide +kernel
theorem dX7_remove_48 : decode cX7_remove 48 = .ok (.ireturn, 1) := by decide +kernel
theorem dX7_remove_49 : decode cX7_remove 49 = .ok (.aload_n 0, 1) := by decide +kernel
theorem dX7_remove_50 : decode cX7_remove 50 = .ok (.invokevirtual 237, 3) := by decide +kernel
theorem dX7_remove_53 : decode cX7_remove 53 = .ok (.aload_n 0, 1) := by decide +kernel
theorem dX7_remove_54 : decode cX7_remove 54 = .ok (.aload_n 0, 1) := by decide +kernel
theorem dX7_remove_55 : decode cX7_remove 55 = .ok (.getfield 13, 3) := by decide +kernel
theorem dX7_remove_58 : decode cX7_remove 58 = .ok (.iload_n 1, 1) := by decide +kernel
theorem dX7_remove_59 : decode cX7_remove 59 = .ok (.bipush (-9), 2) := by decide +kernel
theorem dX7_remove_61 : decode cX7_remove 61 = .ok (.invokevirtual 128, 3) := by decide +kernel
theorem dX7_remove_64 : decode cX7_remove 64 = .ok (.ireturn, 1) := by decide +kernel
set_option maxHeartbeats 4000000 in
set_option maxRecDepth 100000 in
theorem c7_remove (l : Launch) (D : va_G) (cI cZ : ClassId) (h sc nw tr lk di kp ik lv : Nat) (rf rb rl : Int32) (ac9 : Nat) (ss : Nat) (ps : Bool × Nat) (f : Nat → Int32) (B : Nat) (flk fl fd : Nat → Int32) (hac : ac9 ≤ 14) (hO : Ok f B) (k : Int32) : GPi l yX7_remove cX7_remove 2 .int W7 12 269 D [(h, .inr (7, [.int (rf), .ref sc, .int (nI (ss)), .int (nI (ps.2)), .int (bI (ps.1 = true)), .int (rb), .int (rl), .ref nw, .ref tr, .ref lk, .ref di, .int (nI (ac9)), .ref kp, .ref ik, .ref lv])), (nw, .inl (cI, 151, .inl f)), (lk, .inl (cI, 151, .inl flk)), (lv, .inl (cI, 4, .inl fl)), (di, .inl (cI, 2114, .inl fd))] [(cI, .int)] [.ref h, .int (k)] (fun (r9 : Int32) (u9 : va_W) => r9 = (if remR f B k = 0 then (recT B k (-9) f).1 else 0) ∧ ∃ fl9 : Nat → Int32, ∃ lk9 : Nat → Int32, u9 = [(h, .inr (7, [.int (remR f B k), .ref sc, .int (nI (ss)), .int (nI (ps.2)), .int (bI (ps.1 = true)), .int (rb), .int (rl), .ref nw, .ref tr, .ref lk, .ref di, .int (nI (if remR f B k = 0 then acN ac9 else ac9)), .ref kp, .ref ik, .ref lv])), (nw, .inl (cI, 151, .inl (if remR f B k = 0 then (recT B k (-9) f).2 else f))), (lk, .inl (cI, 151, .inl lk9)), (lv, .inl (cI, 4, .inl fl9)), (di, .inl (cI, 2114, .inl (if remR f B k = 0 then diN fd f ac9 else fd)))]) := by
  refine gp_of RX7 (by decide) rfl (Nat.le_of_ble_eq_true rfl) ?_
  intro p e s m below meth c ls H hX hr hlocks hK hP hD hS hl
  generalize gp_A [(h, .inr (7, [.int (rf), .ref sc, .int (nI (ss)), .int (nI (ps.2)), .int (bI (ps.1 = true)), .int (rb), .int (rl), .ref nw, .ref tr, .ref lk, .ref di, .int (nI (ac9)), .ref kp, .ref ik, .ref lv])), (nw, .inl (cI, 151, .inl f)), (lk, .inl (cI, 151, .inl flk)), (lv, .inl (cI, 4, .inl fl)), (di, .inl (cI, 2114, .inl fd))] = A at hD hS ⊢
  have hx := hX.1
  have hb := hX.2.1
  have hown := hX.2.2.2.1
  have hts := hX.2.2.2.2
  have hl : lv_has ls 2 [(0, .ref h), (1, .int (k))] := hl
  have hB8 := hO.1.2.1
  refine lv_aload_n hx hb dX7_remove_0 rfl (lv_at hl 0 rfl) ?_
  refine lv_iload_n hx hb dX7_remove_1 rfl (lv_at hl 1 rfl) ?_
  refine rp_callS hX good7 i7 (c7_isKey l D k) q7_isKey rfl (m7 186 rfl) (m7 187 rfl) ⟨Nat.le_of_ble_eq_true rfl, Nat.le_of_ble_eq_true rfl⟩ hK [] rfl hP [] rfl hS hl.1 rfl (Nat.le_of_ble_eq_true rfl) dX7_remove_2 ⟨Nat.zero_le _, Nat.zero_le _⟩ (fun H locs hP hS => ?_)
  refine lv_if_ne (tgt := 12) hx hb dX7_remove_5 (by decide) (fun c5_1 => ?_) (fun c5_1 => ?_)
  · skip
    have c5_1 := bI_t c5_1
    refine lv_aload_n hx hb dX7_remove_12 rfl (lv_at hl 0 rfl) ?_
    refine lv_aload_n hx hb dX7_remove_13 rfl (lv_at hl 0 rfl) ?_
    refine va_get (D := D) (ci := 7) (v := .ref nw) (C := RX7) (T := TX7) (N := 15) hx hb hts u7 hown hK hP 0 rfl rfl 7 (by decide) (hts _ (m7 5 rfl)) (fun _ h9 => h9) rfl dX7_remove_14 ?_
    refine gp_backi (gp_runV hX good7 i7 (c7_hasRoom l D cI h lv lk nw [.int (rf), .ref sc, .int (nI (ss)), .int (nI (ps.2)), .int (bI (ps.1 = true)), .int (rb), .int (rl), .ref nw, .ref tr, .ref lk, .ref di, .int (nI (ac9)), .ref kp, .ref ik, .ref lv] fl flk f B hO.1 rfl rfl 5000 (lookT B f).1 (lookT B f).2 (ok_look hO)) q7_hasRoom rfl (m7 101 rfl) (m7 102 rfl) (m7 103 rfl) ⟨Nat.le_of_ble_eq_true rfl, Nat.le_of_ble_eq_true rfl⟩ hK [0] rfl hP hD [0, 3, 2, 1] (by decide) rfl (ci := 7) (q0 := 0) rfl rfl rfl hl.1 rfl (Nat.le_of_ble_eq_true rfl) dX7_remove_17 ⟨Nat.zero_le _, Nat.zero_le _⟩) hP hD hS [0, 3, 2, 1] rfl (fun r u h => by obtain ⟨-, x2, rfl⟩ := h; simp only [List.map_cons, List.map_nil]) (fun r9 u H locs hpost hP hD hS => ?_)
    obtain ⟨hr9, x2, rfl⟩ := hpost
    refine lv_as hr9 ?_
    have hP : va_P D vwCl [(h, .inr (7, [.int (rf), .ref sc, .int (nI (ss)), .int (nI (ps.2)), .int (bI (ps.1 = true)), .int (rb), .int (rl), .ref nw, .ref tr, .ref lk, .ref di, .int (nI (ac9)), .ref kp, .ref ik, .ref lv])), (nw, .inl (cI, 151, .inl f)), (lk, .inl (cI, 151, .inl (if f 2 = 1 then ((lookT B f).2) else flk))), (lv, .inl (cI, 4, .inl x2)), (di, .inl (cI, 2114, .inl fd))] H := hP
    have hD : va_D A [(h, .inr (7, [.int (rf), .ref sc, .int (nI (ss)), .int (nI (ps.2)), .int (bI (ps.1 = true)), .int (rb), .int (rl), .ref nw, .ref tr, .ref lk, .ref di, .int (nI (ac9)), .ref kp, .ref ik, .ref lv])), (nw, .inl (cI, 151, .inl f)), (lk, .inl (cI, 151, .inl (if f 2 = 1 then ((lookT B f).2) else flk))), (lv, .inl (cI, 4, .inl x2)), (di, .inl (cI, 2114, .inl fd))] := hD
    refine lv_if_eq (tgt := 40) hx hb dX7_remove_20 (by decide) (fun c20_3 => ?_) (fun c20_3 => ?_)
    · skip
      have c20_3 := bI_f c20_3
      refine lv_iconst (v := 2) hx hb dX7_remove_40 (by decide) ?_
      refine gp_backi (gp_runV hX good7 i7 (c7_refused l D h rf 2 [.ref sc, .int (nI (ss)), .int (nI (ps.2)), .int (bI (ps.1 = true)), .int (rb), .int (rl), .ref nw, .ref tr, .ref lk, .ref di, .int (nI (ac9)), .ref kp, .ref ik, .ref lv]) q7_refused rfl (m7 117 rfl) (m7 118 rfl) (m7 119 rfl) ⟨Nat.le_of_ble_eq_true rfl, Nat.le_of_ble_eq_true rfl⟩ hK [] rfl hP hD [0] (by decide) rfl (ci := 7) (q0 := 0) rfl rfl rfl hl.1 rfl (Nat.le_of_ble_eq_true rfl) dX7_remove_41 ⟨Nat.zero_le _, Nat.zero_le _⟩) hP hD hS [0] rfl (fun r u h => by rw [h.2]; simp only [List.map_cons, List.map_nil]) (fun r9 u H locs hpost hP hD hS => ?_)
      obtain ⟨hr9, rfl⟩ := hpost
      refine lv_as hr9 ?_
      have hP : va_P D vwCl [(h, .inr (7, [.int (2), .ref sc, .int (nI (ss)), .int (nI (ps.2)), .int (bI (ps.1 = true)), .int (rb), .int (rl), .ref nw, .ref tr, .ref lk, .ref di, .int (nI (ac9)), .ref kp, .ref ik, .ref lv])), (nw, .inl (cI, 151, .inl f)), (lk, .inl (cI, 151, .inl (if f 2 = 1 then ((lookT B f).2) else flk))), (lv, .inl (cI, 4, .inl x2)), (di, .inl (cI, 2114, .inl fd))] H := hP
      have hD : va_D A [(h, .inr (7, [.int (2), .ref sc, .int (nI (ss)), .int (nI (ps.2)), .int (bI (ps.1 = true)), .int (rb), .int (rl), .ref nw, .ref tr, .ref lk, .ref di, .int (nI (ac9)), .ref kp, .ref ik, .ref lv])), (nw, .inl (cI, 151, .inl f)), (lk, .inl (cI, 151, .inl (if f 2 = 1 then ((lookT B f).2) else flk))), (lv, .inl (cI, 4, .inl x2)), (di, .inl (cI, 2114, .inl fd))] := hD
      refine lv_as (show bI (0 < (2 : Int32)) = 1 from by decide) ?_
      refine lv_if_eq (tgt := 49) hx hb dX7_remove_44 (by decide) (fun c44_4 => ?_) (fun c44_4 => ?_)
      · skip
        exact absurd c44_4 (by decide)
      · skip
        refine lv_iconst (v := 0) hx hb dX7_remove_47 (by decide) ?_
        have hR9 : remR f B k = 2 := by rw [remR, if_pos c5_1, if_neg (fun z => c20_3 z.1)]
        have hP : va_P D vwCl [(h, .inr (7, [.int (remR f B k), .ref sc, .int (nI (ss)), .int (nI (ps.2)), .int (bI (ps.1 = true)), .int (rb), .int (rl), .ref nw, .ref tr, .ref lk, .ref di, .int (nI (if remR f B k = 0 then acN ac9 else ac9)), .ref kp, .ref ik, .ref lv])), (nw, .inl (cI, 151, .inl f)), (lk, .inl (cI, 151, .inl (if f 2 = 1 then ((lookT B f).2) else flk))), (lv, .inl (cI, 4, .inl x2)), (di, .inl (cI, 2114, .inl fd))] H := by
          rw [show (nI (if remR f B k = 0 then acN ac9 else ac9) : Int32) = nI (ac9) from (congrArg nI (if_neg (by rw [hR9]; decide)))]
          rw [show (remR f B k : Int32) = 2 from hR9]
          exact hP
        have hP : va_P D vwCl [(h, .inr (7, [.int (remR f B k), .ref sc, .int (nI (ss)), .int (nI (ps.2)), .int (bI (ps.1 = true)), .int (rb), .int (rl), .ref nw, .ref tr, .ref lk, .ref di, .int (nI (if remR f B k = 0 then acN ac9 else ac9)), .ref kp, .ref ik, .ref lv])), (nw, .inl (cI, 151, .inl (if remR f B k = 0 then (recT B k (-9) f).2 else f))), (lk, .inl (cI, 151, .inl (if f 2 = 1 then ((lookT B f).2) else flk))), (lv, .inl (cI, 4, .inl x2)), (di, .inl (cI, 2114, .inl fd))] H := by
          rw [show (if remR f B k = 0 then (recT B k (-9) f).2 else f : Nat → Int32) = f from (if_neg (by rw [hR9]; decide))]
          exact hP
        have hP : va_P D vwCl [(h, .inr (7, [.int (remR f B k), .ref sc, .int (nI (ss)), .int (nI (ps.2)), .int (bI (ps.1 = true)), .int (rb), .int (rl), .ref nw, .ref tr, .ref lk, .ref di, .int (nI (if remR f B k = 0 then acN ac9 else ac9)), .ref kp, .ref ik, .ref lv])), (nw, .inl (cI, 151, .inl (if remR f B k = 0 then (recT B k (-9) f).2 else f))), (lk, .inl (cI, 151, .inl (if f 2 = 1 then ((lookT B f).2) else flk))), (lv, .inl (cI, 4, .inl x2)), (di, .inl (cI, 2114, .inl (if remR f B k = 0 then diN fd f ac9 else fd)))] H := by
          rw [show (if remR f B k = 0 then diN fd f ac9 else fd : Nat → Int32) = fd from (if_neg (by rw [hR9]; decide))]
          exact hP
        exact gp_reti hX hr hlocks hS hP ⟨oRn hR9 (by decide), _, _, rfl⟩ dX7_remove_48
    · skip
      have c20_3 := bI_t c20_3
      refine lv_aload_n hx hb dX7_remove_23 rfl (lv_at hl 0 rfl) ?_
      refine va_get (D := D) (ci := 7) (v := .ref nw) (C := RX7) (T := TX7) (N := 15) hx hb hts u7 hown hK hP 0 rfl rfl 7 (by decide) (hts _ (m7 5 rfl)) (fun _ h9 => h9) rfl dX7_remove_24 ?_
      refine lv_iload_n hx hb dX7_remove_27 rfl (lv_at hl 1 rfl) ?_
      refine rp_callS hX good7 i7 (c7_valueOf l D cI nw f k B hO.1.1 hO.1.2.1) q7_valueOf rfl (m7 35 rfl) (m7 36 rfl) ⟨Nat.le_of_ble_eq_true rfl, Nat.le_of_ble_eq_true rfl⟩ hK [0] rfl hP [1] rfl hS hl.1 rfl (Nat.le_of_ble_eq_true rfl) dX7_remove_28 ⟨Nat.zero_le _, Nat.zero_le _⟩ (fun H locs hP hS => ?_)
      refine lv_bipush (v := (-9)) hx hb dX7_remove_31 (by decide) ?_
      refine lv_icmp_eq (tgt := 40) hx hb dX7_remove_33 (by decide) (fun c33_5 => ?_) (fun c33_5 => ?_)
      · skip
        refine lv_iconst (v := 2) hx hb dX7_remove_40 (by decide) ?_
        refine gp_backi (gp_runV hX good7 i7 (c7_refused l D h rf 2 [.ref sc, .int (nI (ss)), .int (nI (ps.2)), .int (bI (ps.1 = true)), .int (rb), .int (rl), .ref nw, .ref tr, .ref lk, .ref di, .int (nI (ac9)), .ref kp, .ref ik, .ref lv]) q7_refused rfl (m7 117 rfl) (m7 118 rfl) (m7 119 rfl) ⟨Nat.le_of_ble_eq_true rfl, Nat.le_of_ble_eq_true rfl⟩ hK [] rfl hP hD [0] (by decide) rfl (ci := 7) (q0 := 0) rfl rfl rfl hl.1 rfl (Nat.le_of_ble_eq_true rfl) dX7_remove_41 ⟨Nat.zero_le _, Nat.zero_le _⟩) hP hD hS [0] rfl (fun r u h => by rw [h.2]; simp only [List.map_cons, List.map_nil]) (fun r9 u H locs hpost hP hD hS => ?_)
        obtain ⟨hr9, rfl⟩ := hpost
        refine lv_as hr9 ?_
        have hP : va_P D vwCl [(h, .inr (7, [.int (2), .ref sc, .int (nI (ss)), .int (nI (ps.2)), .int (bI (ps.1 = true)), .int (rb), .int (rl), .ref nw, .ref tr, .ref lk, .ref di, .int (nI (ac9)), .ref kp, .ref ik, .ref lv])), (nw, .inl (cI, 151, .inl f)), (lk, .inl (cI, 151, .inl (if f 2 = 1 then ((lookT B f).2) else flk))), (lv, .inl (cI, 4, .inl x2)), (di, .inl (cI, 2114, .inl fd))] H := hP
        have hD : va_D A [(h, .inr (7, [.int (2), .ref sc, .int (nI (ss)), .int (nI (ps.2)), .int (bI (ps.1 = true)), .int (rb), .int (rl), .ref nw, .ref tr, .ref lk, .ref di, .int (nI (ac9)), .ref kp, .ref ik, .ref lv])), (nw, .inl (cI, 151, .inl f)), (lk, .inl (cI, 151, .inl (if f 2 = 1 then ((lookT B f).2) else flk))), (lv, .inl (cI, 4, .inl x2)), (di, .inl (cI, 2114, .inl fd))] := hD
        refine lv_as (show bI (0 < (2 : Int32)) = 1 from by decide) ?_
        refine lv_if_eq (tgt := 49) hx hb dX7_remove_44 (by decide) (fun c44_6 => ?_) (fun c44_6 => ?_)
        · skip
          exact absurd c44_6 (by decide)
        · skip
          refine lv_iconst (v := 0) hx hb dX7_remove_47 (by decide) ?_
          have hR9 : remR f B k = 2 := by rw [remR, if_pos c5_1, if_neg (fun z => z.2 c33_5)]
          have hP : va_P D vwCl [(h, .inr (7, [.int (remR f B k), .ref sc, .int (nI (ss)), .int (nI (ps.2)), .int (bI (ps.1 = true)), .int (rb), .int (rl), .ref nw, .ref tr, .ref lk, .ref di, .int (nI (if remR f B k = 0 then acN ac9 else ac9)), .ref kp, .ref ik, .ref lv])), (nw, .inl (cI, 151, .inl f)), (lk, .inl (cI, 151, .inl (if f 2 = 1 then ((lookT B f).2) else flk))), (lv, .inl (cI, 4, .inl x2)), (di, .inl (cI, 2114, .inl fd))] H := by
            rw [show (nI (if remR f B k = 0 then acN ac9 else ac9) : Int32) = nI (ac9) from (congrArg nI (if_neg (by rw [hR9]; decide)))]
            rw [show (remR f B k : Int32) = 2 from hR9]
            exact hP
          have hP : va_P D vwCl [(h, .inr (7, [.int (remR f B k), .ref sc, .int (nI (ss)), .int (nI (ps.2)), .int (bI (ps.1 = true)), .int (rb), .int (rl), .ref nw, .ref tr, .ref lk, .ref di, .int (nI (if remR f B k = 0 then acN ac9 else ac9)), .ref kp, .ref ik, .ref lv])), (nw, .inl (cI, 151, .inl (if remR f B k = 0 then (recT B k (-9) f).2 else f))), (lk, .inl (cI, 151, .inl (if f 2 = 1 then ((lookT B f).2) else flk))), (lv, .inl (cI, 4, .inl x2)), (di, .inl (cI, 2114, .inl fd))] H := by
            rw [show (if remR f B k = 0 then (recT B k (-9) f).2 else f : Nat → Int32) = f from (if_neg (by rw [hR9]; decide))]
            exact hP
          have hP : va_P D vwCl [(h, .inr (7, [.int (remR f B k), .ref sc, .int (nI (ss)), .int (nI (ps.2)), .int (bI (ps.1 = true)), .int (rb), .int (rl), .ref nw, .ref tr, .ref lk, .ref di, .int (nI (if remR f B k = 0 then acN ac9 else ac9)), .ref kp, .ref ik, .ref lv])), (nw, .inl (cI, 151, .inl (if remR f B k = 0 then (recT B k (-9) f).2 else f))), (lk, .inl (cI, 151, .inl (if f 2 = 1 then ((lookT B f).2) else flk))), (lv, .inl (cI, 4, .inl x2)), (di, .inl (cI, 2114, .inl (if remR f B k = 0 then diN fd f ac9 else fd)))] H := by
            rw [show (if remR f B k = 0 then diN fd f ac9 else fd : Nat → Int32) = fd from (if_neg (by rw [hR9]; decide))]
            exact hP
          exact gp_reti hX hr hlocks hS hP ⟨oRn hR9 (by decide), _, _, rfl⟩ dX7_remove_48
      · skip
        refine lv_iconst (v := 0) hx hb dX7_remove_36 (by decide) ?_
        refine lv_goto (tgt := 41) hx hb dX7_remove_37 (by decide) ?_
        refine gp_backi (gp_runV hX good7 i7 (c7_refused l D h rf 0 [.ref sc, .int (nI (ss)), .int (nI (ps.2)), .int (bI (ps.1 = true)), .int (rb), .int (rl), .ref nw, .ref tr, .ref lk, .ref di, .int (nI (ac9)), .ref kp, .ref ik, .ref lv]) q7_refused rfl (m7 117 rfl) (m7 118 rfl) (m7 119 rfl) ⟨Nat.le_of_ble_eq_true rfl, Nat.le_of_ble_eq_true rfl⟩ hK [] rfl hP hD [0] (by decide) rfl (ci := 7) (q0 := 0) rfl rfl rfl hl.1 rfl (Nat.le_of_ble_eq_true rfl) dX7_remove_41 ⟨Nat.zero_le _, Nat.zero_le _⟩) hP hD hS [0] rfl (fun r u h => by rw [h.2]; simp only [List.map_cons, List.map_nil]) (fun r9 u H locs hpost hP hD hS => ?_)
        obtain ⟨hr9, rfl⟩ := hpost
        refine lv_as hr9 ?_
        have hP : va_P D vwCl [(h, .inr (7, [.int (0), .ref sc, .int (nI (ss)), .int (nI (ps.2)), .int (bI (ps.1 = true)), .int (rb), .int (rl), .ref nw, .ref tr, .ref lk, .ref di, .int (nI (ac9)), .ref kp, .ref ik, .ref lv])), (nw, .inl (cI, 151, .inl f)), (lk, .inl (cI, 151, .inl (if f 2 = 1 then ((lookT B f).2) else flk))), (lv, .inl (cI, 4, .inl x2)), (di, .inl (cI, 2114, .inl fd))] H := hP
        have hD : va_D A [(h, .inr (7, [.int (0), .ref sc, .int (nI (ss)), .int (nI (ps.2)), .int (bI (ps.1 = true)), .int (rb), .int (rl), .ref nw, .ref tr, .ref lk, .ref di, .int (nI (ac9)), .ref kp, .ref ik, .ref lv])), (nw, .inl (cI, 151, .inl f)), (lk, .inl (cI, 151, .inl (if f 2 = 1 then ((lookT B f).2) else flk))), (lv, .inl (cI, 4, .inl x2)), (di, .inl (cI, 2114, .inl fd))] := hD
        refine lv_as (show bI (0 < (0 : Int32)) = 0 from by decide) ?_
        refine lv_if_eq (tgt := 49) hx hb dX7_remove_44 (by decide) (fun c44_7 => ?_) (fun c44_7 => ?_)
        · skip
          refine lv_aload_n hx hb dX7_remove_49 rfl (lv_at hl 0 rfl) ?_
          refine gp_backv (gp_runV hX good7 i7 (c7_note l D cI cZ h sc nw tr lk di kp ik lv 0 rb rl ac9 ss ps f fd (by omega)) q7_note rfl (m7 191 rfl) (m7 192 rfl) (m7 193 rfl) ⟨Nat.le_of_ble_eq_true rfl, Nat.le_of_ble_eq_true rfl⟩ hK [0] rfl hP hD [0, 1, 4] (by decide) rfl (ci := 7) (q0 := 0) rfl rfl rfl hl.1 rfl (Nat.le_of_ble_eq_true rfl) dX7_remove_50 ⟨Nat.zero_le _, Nat.zero_le _⟩) hP hD hS [0, 1, 4] rfl (fun u h => by rw [h]; simp only [List.map_cons, List.map_nil]) (fun u H locs hpost hP hD hS => ?_)
          subst hpost
          have hP : va_P D vwCl [(h, .inr (7, [.int (0), .ref sc, .int (nI (ss)), .int (nI (ps.2)), .int (bI (ps.1 = true)), .int (rb), .int (rl), .ref nw, .ref tr, .ref lk, .ref di, .int (nI (acN ac9)), .ref kp, .ref ik, .ref lv])), (nw, .inl (cI, 151, .inl f)), (lk, .inl (cI, 151, .inl (if f 2 = 1 then ((lookT B f).2) else flk))), (lv, .inl (cI, 4, .inl x2)), (di, .inl (cI, 2114, .inl (diN fd f ac9)))] H := hP
          have hD : va_D A [(h, .inr (7, [.int (0), .ref sc, .int (nI (ss)), .int (nI (ps.2)), .int (bI (ps.1 = true)), .int (rb), .int (rl), .ref nw, .ref tr, .ref lk, .ref di, .int (nI (acN ac9)), .ref kp, .ref ik, .ref lv])), (nw, .inl (cI, 151, .inl f)), (lk, .inl (cI, 151, .inl (if f 2 = 1 then ((lookT B f).2) else flk))), (lv, .inl (cI, 4, .inl x2)), (di, .inl (cI, 2114, .inl (diN fd f ac9)))] := hD
          refine lv_aload_n hx hb dX7_remove_53 rfl (lv_at hl 0 rfl) ?_
          refine lv_aload_n hx hb dX7_remove_54 rfl (lv_at hl 0 rfl) ?_
          refine va_get (D := D) (ci := 7) (v := .ref nw) (C := RX7) (T := TX7) (N := 15) hx hb hts u7 hown hK hP 0 rfl rfl 7 (by decide) (hts _ (m7 5 rfl)) (fun _ h9 => h9) rfl dX7_remove_55 ?_
          refine lv_iload_n hx hb dX7_remove_58 rfl (lv_at hl 1 rfl) ?_
          refine lv_bipush (v := (-9)) hx hb dX7_remove_59 (by decide) ?_
          refine gp_backi (gp_runV hX good7 i7 (c7_record l D cI h lv nw [.int (0), .ref sc, .int (nI (ss)), .int (nI (ps.2)), .int (bI (ps.1 = true)), .int (rb), .int (rl), .ref nw, .ref tr, .ref lk, .ref di, .int (nI (acN ac9)), .ref kp, .ref ik, .ref lv] x2 f B hO.1 rfl k (-9) 5000 (recT B k (-9) f).1 (recT B k (-9) f).2 (ok_rec hO _ _)) q7_record rfl (m7 93 rfl) (m7 94 rfl) (m7 95 rfl) ⟨Nat.le_of_ble_eq_true rfl, Nat.le_of_ble_eq_true rfl⟩ hK [0] rfl hP hD [0, 3, 1] (by decide) rfl (ci := 7) (q0 := 0) rfl rfl rfl hl.1 rfl (Nat.le_of_ble_eq_true rfl) dX7_remove_61 ⟨Nat.zero_le _, Nat.zero_le _⟩) hP hD hS [0, 3, 1] rfl (fun r u h => by obtain ⟨-, x8, rfl⟩ := h; simp only [List.map_cons, List.map_nil]) (fun r9 u H locs hpost hP hD hS => ?_)
          obtain ⟨hr9, x8, rfl⟩ := hpost
          refine lv_as hr9 ?_
          have hP : va_P D vwCl [(h, .inr (7, [.int (0), .ref sc, .int (nI (ss)), .int (nI (ps.2)), .int (bI (ps.1 = true)), .int (rb), .int (rl), .ref nw, .ref tr, .ref lk, .ref di, .int (nI (acN ac9)), .ref kp, .ref ik, .ref lv])), (nw, .inl (cI, 151, .inl ((recT B k (-9) f).2))), (lk, .inl (cI, 151, .inl (if f 2 = 1 then ((lookT B f).2) else flk))), (lv, .inl (cI, 4, .inl x8)), (di, .inl (cI, 2114, .inl (diN fd f ac9)))] H := hP
          have hD : va_D A [(h, .inr (7, [.int (0), .ref sc, .int (nI (ss)), .int (nI (ps.2)), .int (bI (ps.1 = true)), .int (rb), .int (rl), .ref nw, .ref tr, .ref lk, .ref di, .int (nI (acN ac9)), .ref kp, .ref ik, .ref lv])), (nw, .inl (cI, 151, .inl ((recT B k (-9) f).2))), (lk, .inl (cI, 151, .inl (if f 2 = 1 then ((lookT B f).2) else flk))), (lv, .inl (cI, 4, .inl x8)), (di, .inl (cI, 2114, .inl (diN fd f ac9)))] := hD
          have hR9 : remR f B k = 0 := by rw [remR, if_pos c5_1, if_pos ⟨c20_3, c33_5⟩]
          have hP : va_P D vwCl [(h, .inr (7, [.int (remR f B k), .ref sc, .int (nI (ss)), .int (nI (ps.2)), .int (bI (ps.1 = true)), .int (rb), .int (rl), .ref nw, .ref tr, .ref lk, .ref di, .int (nI (if remR f B k = 0 then acN ac9 else ac9)), .ref kp, .ref ik, .ref lv])), (nw, .inl (cI, 151, .inl ((recT B k (-9) f).2))), (lk, .inl (cI, 151, .inl (if f 2 = 1 then ((lookT B f).2) else flk))), (lv, .inl (cI, 4, .inl x8)), (di, .inl (cI, 2114, .inl (diN fd f ac9)))] H := by
            rw [show (nI (if remR f B k = 0 then acN ac9 else ac9) : Int32) = nI (acN ac9) from (congrArg nI (if_pos hR9))]
            rw [show (remR f B k : Int32) = 0 from hR9]
            exact hP
          have hP : va_P D vwCl [(h, .inr (7, [.int (remR f B k), .ref sc, .int (nI (ss)), .int (nI (ps.2)), .int (bI (ps.1 = true)), .int (rb), .int (rl), .ref nw, .ref tr, .ref lk, .ref di, .int (nI (if remR f B k = 0 then acN ac9 else ac9)), .ref kp, .ref ik, .ref lv])), (nw, .inl (cI, 151, .inl (if remR f B k = 0 then (recT B k (-9) f).2 else f))), (lk, .inl (cI, 151, .inl (if f 2 = 1 then ((lookT B f).2) else flk))), (lv, .inl (cI, 4, .inl x8)), (di, .inl (cI, 2114, .inl (diN fd f ac9)))] H := by
            rw [show (if remR f B k = 0 then (recT B k (-9) f).2 else f : Nat → Int32) = (recT B k (-9) f).2 from (if_pos hR9)]
            exact hP
          have hP : va_P D vwCl [(h, .inr (7, [.int (remR f B k), .ref sc, .int (nI (ss)), .int (nI (ps.2)), .int (bI (ps.1 = true)), .int (rb), .int (rl), .ref nw, .ref tr, .ref lk, .ref di, .int (nI (if remR f B k = 0 then acN ac9 else ac9)), .ref kp, .ref ik, .ref lv])), (nw, .inl (cI, 151, .inl (if remR f B k = 0 then (recT B k (-9) f).2 else f))), (lk, .inl (cI, 151, .inl (if f 2 = 1 then ((lookT B f).2) else flk))), (lv, .inl (cI, 4, .inl x8)), (di, .inl (cI, 2114, .inl (if remR f B k = 0 then diN fd f ac9 else fd)))] H := by
            rw [show (if remR f B k = 0 then diN fd f ac9 else fd : Nat → Int32) = diN fd f ac9 from (if_pos hR9)]
            exact hP
          exact gp_reti hX hr hlocks hS hP ⟨oR0 hR9, _, _, rfl⟩ dX7_remove_64
        · skip
          exact absurd c44_7 (by decide)
  · skip
    have c5_1 := bI_f c5_1
    refine lv_iconst (v := 1) hx hb dX7_remove_8 (by decide) ?_
    refine lv_goto (tgt := 41) hx hb dX7_remove_9 (by decide) ?_
    refine gp_backi (gp_runV hX good7 i7 (c7_refused l D h rf 1 [.ref sc, .int (nI (ss)), .int (nI (ps.2)), .int (bI (ps.1 = true)), .int (rb), .int (rl), .ref nw, .ref tr, .ref lk, .ref di, .int (nI (ac9)), .ref kp, .ref ik, .ref lv]) q7_refused rfl (m7 117 rfl) (m7 118 rfl) (m7 119 rfl) ⟨Nat.le_of_ble_eq_true rfl, Nat.le_of_ble_eq_true rfl⟩ hK [] rfl hP hD [0] (by decide) rfl (ci := 7) (q0 := 0) rfl rfl rfl hl.1 rfl (Nat.le_of_ble_eq_true rfl) dX7_remove_41 ⟨Nat.zero_le _, Nat.zero_le _⟩) hP hD hS [0] rfl (fun r u h => by rw [h.2]; simp only [List.map_cons, List.map_nil]) (fun r9 u H locs hpost hP hD hS => ?_)
    obtain ⟨hr9, rfl⟩ := hpost
    refine lv_as hr9 ?_
    have hP : va_P D vwCl [(h, .inr (7, [.int (1), .ref sc, .int (nI (ss)), .int (nI (ps.2)), .int (bI (ps.1 = true)), .int (rb), .int (rl), .ref nw, .ref tr, .ref lk, .ref di, .int (nI (ac9)), .ref kp, .ref ik, .ref lv])), (nw, .inl (cI, 151, .inl f)), (lk, .inl (cI, 151, .inl flk)), (lv, .inl (cI, 4, .inl fl)), (di, .inl (cI, 2114, .inl fd))] H := hP
    have hD : va_D A [(h, .inr (7, [.int (1), .ref sc, .int (nI (ss)), .int (nI (ps.2)), .int (bI (ps.1 = true)), .int (rb), .int (rl), .ref nw, .ref tr, .ref lk, .ref di, .int (nI (ac9)), .ref kp, .ref ik, .ref lv])), (nw, .inl (cI, 151, .inl f)), (lk, .inl (cI, 151, .inl flk)), (lv, .inl (cI, 4, .inl fl)), (di, .inl (cI, 2114, .inl fd))] := hD
    refine lv_as (show bI (0 < (1 : Int32)) = 1 from by decide) ?_
    refine lv_if_eq (tgt := 49) hx hb dX7_remove_44 (by decide) (fun c44_9 => ?_) (fun c44_9 => ?_)
    · skip
      exact absurd c44_9 (by decide)
    · skip
      refine lv_iconst (v := 0) hx hb dX7_remove_47 (by decide) ?_
      have hR9 : remR f B k = 1 := by rw [remR, if_neg c5_1]
      have hP : va_P D vwCl [(h, .inr (7, [.int (remR f B k), .ref sc, .int (nI (ss)), .int (nI (ps.2)), .int (bI (ps.1 = true)), .int (rb), .int (rl), .ref nw, .ref tr, .ref lk, .ref di, .int (nI (if remR f B k = 0 then acN ac9 else ac9)), .ref kp, .ref ik, .ref lv])), (nw, .inl (cI, 151, .inl f)), (lk, .inl (cI, 151, .inl flk)), (lv, .inl (cI, 4, .inl fl)), (di, .inl (cI, 2114, .inl fd))] H := by
        rw [show (nI (if remR f B k = 0 then acN ac9 else ac9) : Int32) = nI (ac9) from (congrArg nI (if_neg (by rw [hR9]; decide)))]
        rw [show (remR f B k : Int32) = 1 from hR9]
        exact hP
      have hP : va_P D vwCl [(h, .inr (7, [.int (remR f B k), .ref sc, .int (nI (ss)), .int (nI (ps.2)), .int (bI (ps.1 = true)), .int (rb), .int (rl), .ref nw, .ref tr, .ref lk, .ref di, .int (nI (if remR f B k = 0 then acN ac9 else ac9)), .ref kp, .ref ik, .ref lv])), (nw, .inl (cI, 151, .inl (if remR f B k = 0 then (recT B k (-9) f).2 else f))), (lk, .inl (cI, 151, .inl flk)), (lv, .inl (cI, 4, .inl fl)), (di, .inl (cI, 2114, .inl fd))] H := by
        rw [show (if remR f B k = 0 then (recT B k (-9) f).2 else f : Nat → Int32) = f from (if_neg (by rw [hR9]; decide))]
        exact hP
      have hP : va_P D vwCl [(h, .inr (7, [.int (remR f B k), .ref sc, .int (nI (ss)), .int (nI (ps.2)), .int (bI (ps.1 = true)), .int (rb), .int (rl), .ref nw, .ref tr, .ref lk, .ref di, .int (nI (if remR f B k = 0 then acN ac9 else ac9)), .ref kp, .ref ik, .ref lv])), (nw, .inl (cI, 151, .inl (if remR f B k = 0 then (recT B k (-9) f).2 else f))), (lk, .inl (cI, 151, .inl flk)), (lv, .inl (cI, 4, .inl fl)), (di, .inl (cI, 2114, .inl (if remR f B k = 0 then diN fd f ac9 else fd)))] H := by
        rw [show (if remR f B k = 0 then diN fd f ac9 else fd : Nat → Int32) = fd from (if_neg (by rw [hR9]; decide))]
        exact hP
      exact gp_reti hX hr hlocks hS hP ⟨oRn hR9 (by decide), _, _, rfl⟩ dX7_remove_48
theorem dX7_sweep_0 : decode cX7_sweep 0 = .ok (.aload_n 0, 1) := by decide +kernel
theorem dX7_sweep_1 : decode cX7_sweep 1 = .ok (.aload_n 0, 1) := by decide +kernel
theorem dX7_sweep_2 : decode cX7_sweep 2 = .ok (.getfield 13, 3) := by decide +kernel
theorem dX7_sweep_5 : decode cX7_sweep 5 = .ok (.invokestatic 109, 3) := by decide +kernel
theorem dX7_sweep_8 : decode cX7_sweep 8 = .ok (.bipush (-9), 2) := by decide +kernel
theorem dX7_sweep_10 : decode cX7_sweep 10 = .ok (.if_icmp .ne 7, 3) := by decide +kernel
theorem dX7_sweep_13 : decode cX7_sweep 13 = .ok (.iconst 1, 1) := by decide +kernel
theorem dX7_sweep_14 : decode cX7_sweep 14 = .ok (.goto 4, 3) := by decide +kernel
theorem dX7_sweep_17 : decode cX7_sweep 17 = .ok (.iconst 0, 1) := by decide +kernel
theorem dX7_sweep_18 : decode cX7_sweep 18 = .ok (.invokevirtual 154, 3) := by decide +kernel
theorem dX7_sweep_21 : decode cX7_sweep 21 = .ok (.ifCond .eq 5, 3) := by decide +kernel
theorem dX7_sweep_24 : decode cX7_sweep 24 = .ok (.iconst 0, 1) := by decide +kernel
theorem dX7_sweep_25 : decode cX7_sweep 25 = .ok (.ireturn, 1) := by decide +kernel
theorem dX7_sweep_26 : decode cX7_sweep 26 = .ok (.aload_n 0, 1) := by decide +kernel
theorem dX7_sweep_27 : decode cX7_sweep 27 = .ok (.invokevirtual 237, 3) := by decide +kernel
theorem dX7_sweep_30 : decode cX7_sweep 30 = .ok (.aload_n 0, 1) := by decide +kernel
theorem dX7_sweep_31 : decode cX7_sweep 31 = .ok (.aload_n 0, 1) := by decide +kernel
theorem dX7_sweep_32 : decode cX7_sweep 32 = .ok (.getfield 13, 3) := by decide +kernel
theorem dX7_sweep_35 : decode cX7_sweep 35 = .ok (.invokevirtual 125, 3) := by decide +kernel
theorem dX7_sweep_38 : decode cX7_sweep 38 = .ok (.ireturn, 1) := by decide +kernel
set_option maxHeartbeats 4000000 in
set_option maxRecDepth 100000 in
theorem c7_sweep (l : Launch) (D : va_G) (cI cZ : ClassId) (h sc nw tr lk di kp ik lv : Nat) (rf rb rl : Int32) (ac9 : Nat) (ss : Nat) (ps : Bool × Nat) (f : Nat → Int32) (B : Nat) (flk fl fd : Nat → Int32) (hac : ac9 ≤ 14) (hO : Ok f B)  : GPi l yX7_sweep cX7_sweep 1 .int W7 9 203 D [(h, .inr (7, [.int (rf), .ref sc, .int (nI (ss)), .int (nI (ps.2)), .int (bI (ps.1 = true)), .int (rb), .int (rl), .ref nw, .ref tr, .ref lk, .ref di, .int (nI (ac9)), .ref kp, .ref ik, .ref lv])), (nw, .inl (cI, 151, .inl f)), (lk, .inl (cI, 151, .inl flk)), (lv, .inl (cI, 4, .inl fl)), (di, .inl (cI, 2114, .inl fd))] [(cI, .int)] [.ref h] (fun (r9 : Int32) (u9 : va_W) => r9 = (if swpR f B = 0 then (swpT f B).1 else 0) ∧ ∃ fl9 : Nat → Int32, ∃ lk9 : Nat → Int32, u9 = [(h, .inr (7, [.int (swpR f B), .ref sc, .int (nI (ss)), .int (nI (ps.2)), .int (bI (ps.1 = true)), .int (rb), .int (rl), .ref nw, .ref tr, .ref lk, .ref di, .int (nI (if swpR f B = 0 then acN ac9 else ac9)), .ref kp, .ref ik, .ref lv])), (nw, .inl (cI, 151, .inl (if swpR f B = 0 then (swpT f B).2 else f))), (lk, .inl (cI, 151, .inl lk9)), (lv, .inl (cI, 4, .inl fl9)), (di, .inl (cI, 2114, .inl (if swpR f B = 0 then diN fd f ac9 else fd)))]) := by
  refine gp_of RX7 (by decide) rfl (Nat.le_of_ble_eq_true rfl) ?_
  intro p e s m below meth c ls H hX hr hlocks hK hP hD hS hl
  generalize gp_A [(h, .inr (7, [.int (rf), .ref sc, .int (nI (ss)), .int (nI (ps.2)), .int (bI (ps.1 = true)), .int (rb), .int (rl), .ref nw, .ref tr, .ref lk, .ref di, .int (nI (ac9)), .ref kp, .ref ik, .ref lv])), (nw, .inl (cI, 151, .inl f)), (lk, .inl (cI, 151, .inl flk)), (lv, .inl (cI, 4, .inl fl)), (di, .inl (cI, 2114, .inl fd))] = A at hD hS ⊢
  have hx := hX.1
  have hb := hX.2.1
  have hown := hX.2.2.2.1
  have hts := hX.2.2.2.2
  have hl : lv_has ls 1 [(0, .ref h)] := hl
  have hB8 := hO.1.2.1
  refine lv_aload_n hx hb dX7_sweep_0 rfl (lv_at hl 0 rfl) ?_
  refine lv_aload_n hx hb dX7_sweep_1 rfl (lv_at hl 0 rfl) ?_
  refine va_get (D := D) (ci := 7) (v := .ref nw) (C := RX7) (T := TX7) (N := 15) hx hb hts u7 hown hK hP 0 rfl rfl 7 (by decide) (hts _ (m7 5 rfl)) (fun _ h9 => h9) rfl dX7_sweep_2 ?_
  refine rp_callS hX good7 i7 (c7_victimOf l D cI nw f B hO.1.1 hO.1.2.1 (opn f) hO.1.2.2.1 hO.1.2.2.2) q7_victimOf rfl (m7 74 rfl) (m7 75 rfl) ⟨Nat.le_of_ble_eq_true rfl, Nat.le_of_ble_eq_true rfl⟩ hK [0] rfl hP [1] rfl hS hl.1 rfl (Nat.le_of_ble_eq_true rfl) dX7_sweep_5 ⟨Nat.zero_le _, Nat.zero_le _⟩ (fun H locs hP hS => ?_)
  rcases hO1 : vcm f B (opn f) with _ | o1
  · skip
    refine lv_bipush (v := (-9)) hx hb dX7_sweep_8 (by decide) ?_
    refine lv_icmp_ne (tgt := 17) hx hb dX7_sweep_10 (by decide) (fun c10_2 => ?_) (fun c10_2 => ?_)
    · skip
      exact absurd c10_2 (by decide)
    · skip
      refine lv_iconst (v := 1) hx hb dX7_sweep_13 (by decide) ?_
      refine lv_goto (tgt := 18) hx hb dX7_sweep_14 (by decide) ?_
      refine gp_backi (gp_runV hX good7 i7 (c7_refused l D h rf 1 [.ref sc, .int (nI (ss)), .int (nI (ps.2)), .int (bI (ps.1 = true)), .int (rb), .int (rl), .ref nw, .ref tr, .ref lk, .ref di, .int (nI (ac9)), .ref kp, .ref ik, .ref lv]) q7_refused rfl (m7 117 rfl) (m7 118 rfl) (m7 119 rfl) ⟨Nat.le_of_ble_eq_true rfl, Nat.le_of_ble_eq_true rfl⟩ hK [] rfl hP hD [0] (by decide) rfl (ci := 7) (q0 := 0) rfl rfl rfl hl.1 rfl (Nat.le_of_ble_eq_true rfl) dX7_sweep_18 ⟨Nat.zero_le _, Nat.zero_le _⟩) hP hD hS [0] rfl (fun r u h => by rw [h.2]; simp only [List.map_cons, List.map_nil]) (fun r9 u H locs hpost hP hD hS => ?_)
      obtain ⟨hr9, rfl⟩ := hpost
      refine lv_as hr9 ?_
      have hP : va_P D vwCl [(h, .inr (7, [.int (1), .ref sc, .int (nI (ss)), .int (nI (ps.2)), .int (bI (ps.1 = true)), .int (rb), .int (rl), .ref nw, .ref tr, .ref lk, .ref di, .int (nI (ac9)), .ref kp, .ref ik, .ref lv])), (nw, .inl (cI, 151, .inl f)), (lk, .inl (cI, 151, .inl flk)), (lv, .inl (cI, 4, .inl fl)), (di, .inl (cI, 2114, .inl fd))] H := hP
      have hD : va_D A [(h, .inr (7, [.int (1), .ref sc, .int (nI (ss)), .int (nI (ps.2)), .int (bI (ps.1 = true)), .int (rb), .int (rl), .ref nw, .ref tr, .ref lk, .ref di, .int (nI (ac9)), .ref kp, .ref ik, .ref lv])), (nw, .inl (cI, 151, .inl f)), (lk, .inl (cI, 151, .inl flk)), (lv, .inl (cI, 4, .inl fl)), (di, .inl (cI, 2114, .inl fd))] := hD
      refine lv_as (show bI (0 < (1 : Int32)) = 1 from by decide) ?_
      refine lv_if_eq (tgt := 26) hx hb dX7_sweep_21 (by decide) (fun c21_3 => ?_) (fun c21_3 => ?_)
      · skip
        exact absurd c21_3 (by decide)
      · skip
        refine lv_iconst (v := 0) hx hb dX7_sweep_24 (by decide) ?_
        have hR9 : swpR f B = 1 := by rw [swpR, if_pos hO1]
        have hP : va_P D vwCl [(h, .inr (7, [.int (swpR f B), .ref sc, .int (nI (ss)), .int (nI (ps.2)), .int (bI (ps.1 = true)), .int (rb), .int (rl), .ref nw, .ref tr, .ref lk, .ref di, .int (nI (if swpR f B = 0 then acN ac9 else ac9)), .ref kp, .ref ik, .ref lv])), (nw, .inl (cI, 151, .inl f)), (lk, .inl (cI, 151, .inl flk)), (lv, .inl (cI, 4, .inl fl)), (di, .inl (cI, 2114, .inl fd))] H := by
          rw [show (nI (if swpR f B = 0 then acN ac9 else ac9) : Int32) = nI (ac9) from (congrArg nI (if_neg (by rw [hR9]; decide)))]
          rw [show (swpR f B : Int32) = 1 from hR9]
          exact hP
        have hP : va_P D vwCl [(h, .inr (7, [.int (swpR f B), .ref sc, .int (nI (ss)), .int (nI (ps.2)), .int (bI (ps.1 = true)), .int (rb), .int (rl), .ref nw, .ref tr, .ref lk, .ref di, .int (nI (if swpR f B = 0 then acN ac9 else ac9)), .ref kp, .ref ik, .ref lv])), (nw, .inl (cI, 151, .inl (if swpR f B = 0 then (swpT f B).2 else f))), (lk, .inl (cI, 151, .inl flk)), (lv, .inl (cI, 4, .inl fl)), (di, .inl (cI, 2114, .inl fd))] H := by
          rw [show (if swpR f B = 0 then (swpT f B).2 else f : Nat → Int32) = f from (if_neg (by rw [hR9]; decide))]
          exact hP
        have hP : va_P D vwCl [(h, .inr (7, [.int (swpR f B), .ref sc, .int (nI (ss)), .int (nI (ps.2)), .int (bI (ps.1 = true)), .int (rb), .int (rl), .ref nw, .ref tr, .ref lk, .ref di, .int (nI (if swpR f B = 0 then acN ac9 else ac9)), .ref kp, .ref ik, .ref lv])), (nw, .inl (cI, 151, .inl (if swpR f B = 0 then (swpT f B).2 else f))), (lk, .inl (cI, 151, .inl flk)), (lv, .inl (cI, 4, .inl fl)), (di, .inl (cI, 2114, .inl (if swpR f B = 0 then diN fd f ac9 else fd)))] H := by
          rw [show (if swpR f B = 0 then diN fd f ac9 else fd : Nat → Int32) = fd from (if_neg (by rw [hR9]; decide))]
          exact hP
        exact gp_reti hX hr hlocks hS hP ⟨oRn hR9 (by decide), _, _, rfl⟩ dX7_sweep_25
  · skip
    have ho1 := vcm_lt hO1
    refine lv_bipush (v := (-9)) hx hb dX7_sweep_8 (by decide) ?_
    refine lv_icmp_ne (tgt := 17) hx hb dX7_sweep_10 (by decide) (fun c10_4 => ?_) (fun c10_4 => ?_)
    · skip
      refine lv_iconst (v := 0) hx hb dX7_sweep_17 (by decide) ?_
      refine gp_backi (gp_runV hX good7 i7 (c7_refused l D h rf 0 [.ref sc, .int (nI (ss)), .int (nI (ps.2)), .int (bI (ps.1 = true)), .int (rb), .int (rl), .ref nw, .ref tr, .ref lk, .ref di, .int (nI (ac9)), .ref kp, .ref ik, .ref lv]) q7_refused rfl (m7 117 rfl) (m7 118 rfl) (m7 119 rfl) ⟨Nat.le_of_ble_eq_true rfl, Nat.le_of_ble_eq_true rfl⟩ hK [] rfl hP hD [0] (by decide) rfl (ci := 7) (q0 := 0) rfl rfl rfl hl.1 rfl (Nat.le_of_ble_eq_true rfl) dX7_sweep_18 ⟨Nat.zero_le _, Nat.zero_le _⟩) hP hD hS [0] rfl (fun r u h => by rw [h.2]; simp only [List.map_cons, List.map_nil]) (fun r9 u H locs hpost hP hD hS => ?_)
      obtain ⟨hr9, rfl⟩ := hpost
      refine lv_as hr9 ?_
      have hP : va_P D vwCl [(h, .inr (7, [.int (0), .ref sc, .int (nI (ss)), .int (nI (ps.2)), .int (bI (ps.1 = true)), .int (rb), .int (rl), .ref nw, .ref tr, .ref lk, .ref di, .int (nI (ac9)), .ref kp, .ref ik, .ref lv])), (nw, .inl (cI, 151, .inl f)), (lk, .inl (cI, 151, .inl flk)), (lv, .inl (cI, 4, .inl fl)), (di, .inl (cI, 2114, .inl fd))] H := hP
      have hD : va_D A [(h, .inr (7, [.int (0), .ref sc, .int (nI (ss)), .int (nI (ps.2)), .int (bI (ps.1 = true)), .int (rb), .int (rl), .ref nw, .ref tr, .ref lk, .ref di, .int (nI (ac9)), .ref kp, .ref ik, .ref lv])), (nw, .inl (cI, 151, .inl f)), (lk, .inl (cI, 151, .inl flk)), (lv, .inl (cI, 4, .inl fl)), (di, .inl (cI, 2114, .inl fd))] := hD
      refine lv_as (show bI (0 < (0 : Int32)) = 0 from by decide) ?_
      refine lv_if_eq (tgt := 26) hx hb dX7_sweep_21 (by decide) (fun c21_5 => ?_) (fun c21_5 => ?_)
      · skip
        refine lv_aload_n hx hb dX7_sweep_26 rfl (lv_at hl 0 rfl) ?_
        refine gp_backv (gp_runV hX good7 i7 (c7_note l D cI cZ h sc nw tr lk di kp ik lv 0 rb rl ac9 ss ps f fd (by omega)) q7_note rfl (m7 191 rfl) (m7 192 rfl) (m7 193 rfl) ⟨Nat.le_of_ble_eq_true rfl, Nat.le_of_ble_eq_true rfl⟩ hK [0] rfl hP hD [0, 1, 4] (by decide) rfl (ci := 7) (q0 := 0) rfl rfl rfl hl.1 rfl (Nat.le_of_ble_eq_true rfl) dX7_sweep_27 ⟨Nat.zero_le _, Nat.zero_le _⟩) hP hD hS [0, 1, 4] rfl (fun u h => by rw [h]; simp only [List.map_cons, List.map_nil]) (fun u H locs hpost hP hD hS => ?_)
        subst hpost
        have hP : va_P D vwCl [(h, .inr (7, [.int (0), .ref sc, .int (nI (ss)), .int (nI (ps.2)), .int (bI (ps.1 = true)), .int (rb), .int (rl), .ref nw, .ref tr, .ref lk, .ref di, .int (nI (acN ac9)), .ref kp, .ref ik, .ref lv])), (nw, .inl (cI, 151, .inl f)), (lk, .inl (cI, 151, .inl flk)), (lv, .inl (cI, 4, .inl fl)), (di, .inl (cI, 2114, .inl (diN fd f ac9)))] H := hP
        have hD : va_D A [(h, .inr (7, [.int (0), .ref sc, .int (nI (ss)), .int (nI (ps.2)), .int (bI (ps.1 = true)), .int (rb), .int (rl), .ref nw, .ref tr, .ref lk, .ref di, .int (nI (acN ac9)), .ref kp, .ref ik, .ref lv])), (nw, .inl (cI, 151, .inl f)), (lk, .inl (cI, 151, .inl flk)), (lv, .inl (cI, 4, .inl fl)), (di, .inl (cI, 2114, .inl (diN fd f ac9)))] := hD
        refine lv_aload_n hx hb dX7_sweep_30 rfl (lv_at hl 0 rfl) ?_
        refine lv_aload_n hx hb dX7_sweep_31 rfl (lv_at hl 0 rfl) ?_
        refine va_get (D := D) (ci := 7) (v := .ref nw) (C := RX7) (T := TX7) (N := 15) hx hb hts u7 hown hK hP 0 rfl rfl 7 (by decide) (hts _ (m7 5 rfl)) (fun _ h9 => h9) rfl dX7_sweep_32 ?_
        refine gp_backi (gp_runV hX good7 i7 (c7_sweepOnce l D cI h lv nw [.int (0), .ref sc, .int (nI (ss)), .int (nI (ps.2)), .int (bI (ps.1 = true)), .int (rb), .int (rl), .ref nw, .ref tr, .ref lk, .ref di, .int (nI (acN ac9)), .ref kp, .ref ik, .ref lv] fl f B hO.1 rfl (swpT f B).1 (swpT f B).2 (ok_swp hO)) q7_sweepOnce rfl (m7 89 rfl) (m7 90 rfl) (m7 91 rfl) ⟨Nat.le_of_ble_eq_true rfl, Nat.le_of_ble_eq_true rfl⟩ hK [0] rfl hP hD [0, 3, 1] (by decide) rfl (ci := 7) (q0 := 0) rfl rfl rfl hl.1 rfl (Nat.le_of_ble_eq_true rfl) dX7_sweep_35 ⟨Nat.zero_le _, Nat.zero_le _⟩) hP hD hS [0, 3, 1] rfl (fun r u h => by obtain ⟨-, x6, rfl⟩ := h; simp only [List.map_cons, List.map_nil]) (fun r9 u H locs hpost hP hD hS => ?_)
        obtain ⟨hr9, x6, rfl⟩ := hpost
        refine lv_as hr9 ?_
        have hP : va_P D vwCl [(h, .inr (7, [.int (0), .ref sc, .int (nI (ss)), .int (nI (ps.2)), .int (bI (ps.1 = true)), .int (rb), .int (rl), .ref nw, .ref tr, .ref lk, .ref di, .int (nI (acN ac9)), .ref kp, .ref ik, .ref lv])), (nw, .inl (cI, 151, .inl ((swpT f B).2))), (lk, .inl (cI, 151, .inl flk)), (lv, .inl (cI, 4, .inl x6)), (di, .inl (cI, 2114, .inl (diN fd f ac9)))] H := hP
        have hD : va_D A [(h, .inr (7, [.int (0), .ref sc, .int (nI (ss)), .int (nI (ps.2)), .int (bI (ps.1 = true)), .int (rb), .int (rl), .ref nw, .ref tr, .ref lk, .ref di, .int (nI (acN ac9)), .ref kp, .ref ik, .ref lv])), (nw, .inl (cI, 151, .inl ((swpT f B).2))), (lk, .inl (cI, 151, .inl flk)), (lv, .inl (cI, 4, .inl x6)), (di, .inl (cI, 2114, .inl (diN fd f ac9)))] := hD
        have hR9 : swpR f B = 0 := by rw [swpR, if_neg (fun z => by rw [hO1] at z; cases z)]
        have hP : va_P D vwCl [(h, .inr (7, [.int (swpR f B), .ref sc, .int (nI (ss)), .int (nI (ps.2)), .int (bI (ps.1 = true)), .int (rb), .int (rl), .ref nw, .ref tr, .ref lk, .ref di, .int (nI (if swpR f B = 0 then acN ac9 else ac9)), .ref kp, .ref ik, .ref lv])), (nw, .inl (cI, 151, .inl ((swpT f B).2))), (lk, .inl (cI, 151, .inl flk)), (lv, .inl (cI, 4, .inl x6)), (di, .inl (cI, 2114, .inl (diN fd f ac9)))] H := by
          rw [show (nI (if swpR f B = 0 then acN ac9 else ac9) : Int32) = nI (acN ac9) from (congrArg nI (if_pos hR9))]
          rw [show (swpR f B : Int32) = 0 from hR9]
          exact hP
        have hP : va_P D vwCl [(h, .inr (7, [.int (swpR f B), .ref sc, .int (nI (ss)), .int (nI (ps.2)), .int (bI (ps.1 = true)), .int (rb), .int (rl), .ref nw, .ref tr, .ref lk, .ref di, .int (nI (if swpR f B = 0 then acN ac9 else ac9)), .ref kp, .ref ik, .ref lv])), (nw, .inl (cI, 151, .inl (if swpR f B = 0 then (swpT f B).2 else f))), (lk, .inl (cI, 151, .inl flk)), (lv, .inl (cI, 4, .inl x6)), (di, .inl (cI, 2114, .inl (diN fd f ac9)))] H := by
          rw [show (if swpR f B = 0 then (swpT f B).2 else f : Nat → Int32) = (swpT f B).2 from (if_pos hR9)]
          exact hP
        have hP : va_P D vwCl [(h, .inr (7, [.int (swpR f B), .ref sc, .int (nI (ss)), .int (nI (ps.2)), .int (bI (ps.1 = true)), .int (rb), .int (rl), .ref nw, .ref tr, .ref lk, .ref di, .int (nI (if swpR f B = 0 then acN ac9 else ac9)), .ref kp, .ref ik, .ref lv])), (nw, .inl (cI, 151, .inl (if swpR f B = 0 then (swpT f B).2 else f))), (lk, .inl (cI, 151, .inl flk)), (lv, .inl (cI, 4, .inl x6)), (di, .inl (cI, 2114, .inl (if swpR f B = 0 then diN fd f ac9 else fd)))] H := by
          rw [show (if swpR f B = 0 then diN fd f ac9 else fd : Nat → Int32) = diN fd f ac9 from (if_pos hR9)]
          exact hP
        exact gp_reti hX hr hlocks hS hP ⟨oR0 hR9, _, _, rfl⟩ dX7_sweep_38
      · skip
        exact absurd c21_5 (by decide)
    · skip
      exact absurd c10_4 (oI_ne (by omega))
theorem dX7_cut_0 : decode cX7_cut 0 = .ok (.aload_n 0, 1) := by decide +kernel
theorem dX7_cut_1 : decode cX7_cut 1 = .ok (.iload_n 1, 1) := by decide +kernel
theorem dX7_cut_2 : decode cX7_cut 2 = .ok (.i2l, 1) := by decide +kernel
theorem dX7_cut_3 : decode cX7_cut 3 = .ok (.lconst 0, 1) := by decide +kernel
theorem dX7_cut_4 : decode cX7_cut 4 = .ok (.ldc2_w 240, 3) := by decide +kernel
theorem dX7_cut_7 : decode cX7_cut 7 = .ok (.invokestatic 147, 3) := by decide +kernel
theorem dX7_cut_10 : decode cX7_cut 10 = .ok (.ifCond .ne 7, 3) := by decide +kernel
theorem dX7_cut_13 : decode cX7_cut 13 = .ok (.iconst 1, 1) := by decide +kernel
theorem dX7_cut_14 : decode cX7_cut 14 = .ok (.goto 17, 3) := by decide +kernel
theorem dX7_cut_17 : decode cX7_cut 17 = .ok (.aload_n 0, 1) := by decide +kernel
theorem dX7_cut_18 : decode cX7_cut 18 = .ok (.getfield 13, 3) := by decide +kernel
theorem dX7_cut_21 : decode cX7_cut 21 = .ok (.iconst 2, 1) := by decide +kernel
theorem dX7_cut_22 : decode cX7_cut 22 = .ok (.iaload, 1) := by decide +kernel
theorem dX7_cut_23 : decode cX7_cut 23 = .ok (.ifCond .ne 7, 3) := by decide +kernel
theorem dX7_cut_26 : decode cX7_cut 26 = .ok (.iconst 2, 1) := by decide +kernel
theorem dX7_cut_27 : decode cX7_cut 27 = .ok (.goto 4, 3) := by decide +kernel
theorem dX7_cut_30 : decode cX7_cut 30 = .ok (.iconst 0, 1) := by decide +kernel
theorem dX7_cut_31 : decode cX7_cut 31 = .ok (.invokevirtual 154, 3) := by decide +kernel
theorem dX7_cut_34 : decode cX7_cut 34 = .ok (.ifCond .eq 5, 3) := by decide +kernel
theorem dX7_cut_37 : decode cX7_cut 37 = .ok (.iconst 0, 1) := by decide +kernel
theorem dX7_cut_38 : decode cX7_cut 38 = .ok (.ireturn, 1) := by decide +kernel
theorem dX7_cut_39 : decode cX7_cut 39 = .ok (.aload_n 0, 1) := by decide +kernel
theorem dX7_cut_40 : decode cX7_cut 40 = .ok (.invokevirtual 237, 3) := by decide +kernel
theorem dX7_cut_43 : decode cX7_cut 43 = .ok (.aload_n 0, 1) := by decide +kernel
theorem dX7_cut_44 : decode cX7_cut 44 = .ok (.getfield 13, 3) := by decide +kernel
theorem dX7_cut_47 : decode cX7_cut 47 = .ok (.iconst 5, 1) := by decide +kernel
theorem dX7_cut_48 : decode cX7_cut 48 = .ok (.iaload, 1) := by decide +kernel
theorem dX7_cut_49 : decode cX7_cut 49 = .ok (.istore_n 2, 1) := by decide +kernel
theorem dX7_cut_50 : decode cX7_cut 50 = .ok (.aload_n 0, 1) := by decide +kernel
theorem dX7_cut_51 : decode cX7_cut 51 = .ok (.getfield 13, 3) := by decide +kernel
theorem dX7_cut_54 : decode cX7_cut 54 = .ok (.iconst 5, 1) := by decide +kernel
theorem dX7_cut_55 : decode cX7_cut 55 = .ok (.iload_n 1, 1) := by decide +kernel
theorem dX7_cut_56 : decode cX7_cut 56 = .ok (.iastore, 1) := by decide +kernel
theorem dX7_cut_57 : decode cX7_cut 57 = .ok (.iload_n 2, 1) := by decide +kernel
theorem dX7_cut_58 : decode cX7_cut 58 = .ok (.ireturn, 1) := by decide +kernel
set_option maxHeartbeats 4000000 in
set_option maxRecDepth 100000 in
theorem c7_cut (l : Launch) (D : va_G) (cI cZ : ClassId) (h sc nw tr lk di kp ik lv : Nat) (rf rb rl : Int32) (ac9 : Nat) (ss : Nat) (ps : Bool × Nat) (f : Nat → Int32) (B : Nat) (flk fl fd : Nat → Int32) (hac : ac9 ≤ 14) (hO : Ok f B) (n : Int32) : GPi l yX7_cut cX7_cut 3 .int W7 2 45 D [(h, .inr (7, [.int (rf), .ref sc, .int (nI (ss)), .int (nI (ps.2)), .int (bI (ps.1 = true)), .int (rb), .int (rl), .ref nw, .ref tr, .ref lk, .ref di, .int (nI (ac9)), .ref kp, .ref ik, .ref lv])), (nw, .inl (cI, 151, .inl f)), (lk, .inl (cI, 151, .inl flk)), (lv, .inl (cI, 4, .inl fl)), (di, .inl (cI, 2114, .inl fd))] [(cI, .int)] [.ref h, .int (n)] (fun (r9 : Int32) (u9 : va_W) => r9 = (if cutRf f n = 0 then f 5 else 0) ∧ ∃ fl9 : Nat → Int32, ∃ lk9 : Nat → Int32, u9 = [(h, .inr (7, [.int (cutRf f n), .ref sc, .int (nI (ss)), .int (nI (ps.2)), .int (bI (ps.1 = true)), .int (rb), .int (rl), .ref nw, .ref tr, .ref lk, .ref di, .int (nI (if cutRf f n = 0 then acN ac9 else ac9)), .ref kp, .ref ik, .ref lv])), (nw, .inl (cI, 151, .inl (if cutRf f n = 0 then upd f 5 n else f))), (lk, .inl (cI, 151, .inl lk9)), (lv, .inl (cI, 4, .inl fl9)), (di, .inl (cI, 2114, .inl (if cutRf f n = 0 then diN fd f ac9 else fd)))]) := by
  refine gp_of RX7 (by decide) rfl (Nat.le_of_ble_eq_true rfl) ?_
  intro p e s m below meth c ls H hX hr hlocks hK hP hD hS hl
  generalize gp_A [(h, .inr (7, [.int (rf), .ref sc, .int (nI (ss)), .int (nI (ps.2)), .int (bI (ps.1 = true)), .int (rb), .int (rl), .ref nw, .ref tr, .ref lk, .ref di, .int (nI (ac9)), .ref kp, .ref ik, .ref lv])), (nw, .inl (cI, 151, .inl f)), (lk, .inl (cI, 151, .inl flk)), (lv, .inl (cI, 4, .inl fl)), (di, .inl (cI, 2114, .inl fd))] = A at hD hS ⊢
  have hx := hX.1
  have hb := hX.2.1
  have hown := hX.2.2.2.1
  have hts := hX.2.2.2.2
  have hl : lv_has ls 3 [(0, .ref h), (1, .int (n))] := hl
  have hB8 := hO.1.2.1
  refine lv_aload_n hx hb dX7_cut_0 rfl (lv_at hl 0 rfl) ?_
  refine lv_iload_n hx hb dX7_cut_1 rfl (lv_at hl 1 rfl) ?_
  refine lv_i2l (v := (n : Int32).toInt64) hx hb dX7_cut_2 (rfl) ?_
  refine lv_lconst (v := 0) hx hb dX7_cut_3 (by decide) ?_
  refine lv_asl (show (0 : Int64) = (0 : Int32).toInt64 from by decide) ?_
  refine lv_ldc2 (v := 99) hx hb hown (hts _ (m7 195 rfl)) dX7_cut_4 ?_
  refine lv_asl (show (99 : Int64) = (99 : Int32).toInt64 from by decide) ?_
  refine rp_callS hX good7 i7 (c7_inI l D n 0 99) q7_in rfl (m7 114 rfl) (m7 115 rfl) ⟨Nat.le_of_ble_eq_true rfl, Nat.le_of_ble_eq_true rfl⟩ hK [] rfl hP [] rfl hS hl.1 rfl (Nat.le_of_ble_eq_true rfl) dX7_cut_7 ⟨Nat.zero_le _, Nat.zero_le _⟩ (fun H locs hP hS => ?_)
  refine lv_if_ne (tgt := 17) hx hb dX7_cut_10 (by decide) (fun c10_1 => ?_) (fun c10_1 => ?_)
  · skip
    have c10_1 := bI_t c10_1
    refine lv_aload_n hx hb dX7_cut_17 rfl (lv_at hl 0 rfl) ?_
    refine va_get (D := D) (ci := 7) (v := .ref nw) (C := RX7) (T := TX7) (N := 15) hx hb hts u7 hown hK hP 0 rfl rfl 7 (by decide) (hts _ (m7 5 rfl)) (fun _ h9 => h9) rfl dX7_cut_18 ?_
    refine lv_iconst (v := 2) hx hb dX7_cut_21 (by decide) ?_
    refine ra_iald (i := 2) hx hb hK hP 1 0 rfl rfl (by omega) (by decide) dX7_cut_22 ?_
    refine lv_if_ne (tgt := 30) hx hb dX7_cut_23 (by decide) (fun c23_2 => ?_) (fun c23_2 => ?_)
    · skip
      refine lv_iconst (v := 0) hx hb dX7_cut_30 (by decide) ?_
      refine gp_backi (gp_runV hX good7 i7 (c7_refused l D h rf 0 [.ref sc, .int (nI (ss)), .int (nI (ps.2)), .int (bI (ps.1 = true)), .int (rb), .int (rl), .ref nw, .ref tr, .ref lk, .ref di, .int (nI (ac9)), .ref kp, .ref ik, .ref lv]) q7_refused rfl (m7 117 rfl) (m7 118 rfl) (m7 119 rfl) ⟨Nat.le_of_ble_eq_true rfl, Nat.le_of_ble_eq_true rfl⟩ hK [] rfl hP hD [0] (by decide) rfl (ci := 7) (q0 := 0) rfl rfl rfl hl.1 rfl (Nat.le_of_ble_eq_true rfl) dX7_cut_31 ⟨Nat.zero_le _, Nat.zero_le _⟩) hP hD hS [0] rfl (fun r u h => by rw [h.2]; simp only [List.map_cons, List.map_nil]) (fun r9 u H locs hpost hP hD hS => ?_)
      obtain ⟨hr9, rfl⟩ := hpost
      refine lv_as hr9 ?_
      have hP : va_P D vwCl [(h, .inr (7, [.int (0), .ref sc, .int (nI (ss)), .int (nI (ps.2)), .int (bI (ps.1 = true)), .int (rb), .int (rl), .ref nw, .ref tr, .ref lk, .ref di, .int (nI (ac9)), .ref kp, .ref ik, .ref lv])), (nw, .inl (cI, 151, .inl f)), (lk, .inl (cI, 151, .inl flk)), (lv, .inl (cI, 4, .inl fl)), (di, .inl (cI, 2114, .inl fd))] H := hP
      have hD : va_D A [(h, .inr (7, [.int (0), .ref sc, .int (nI (ss)), .int (nI (ps.2)), .int (bI (ps.1 = true)), .int (rb), .int (rl), .ref nw, .ref tr, .ref lk, .ref di, .int (nI (ac9)), .ref kp, .ref ik, .ref lv])), (nw, .inl (cI, 151, .inl f)), (lk, .inl (cI, 151, .inl flk)), (lv, .inl (cI, 4, .inl fl)), (di, .inl (cI, 2114, .inl fd))] := hD
      refine lv_as (show bI (0 < (0 : Int32)) = 0 from by decide) ?_
      refine lv_if_eq (tgt := 39) hx hb dX7_cut_34 (by decide) (fun c34_3 => ?_) (fun c34_3 => ?_)
      · skip
        refine lv_aload_n hx hb dX7_cut_39 rfl (lv_at hl 0 rfl) ?_
        refine gp_backv (gp_runV hX good7 i7 (c7_note l D cI cZ h sc nw tr lk di kp ik lv 0 rb rl ac9 ss ps f fd (by omega)) q7_note rfl (m7 191 rfl) (m7 192 rfl) (m7 193 rfl) ⟨Nat.le_of_ble_eq_true rfl, Nat.le_of_ble_eq_true rfl⟩ hK [0] rfl hP hD [0, 1, 4] (by decide) rfl (ci := 7) (q0 := 0) rfl rfl rfl hl.1 rfl (Nat.le_of_ble_eq_true rfl) dX7_cut_40 ⟨Nat.zero_le _, Nat.zero_le _⟩) hP hD hS [0, 1, 4] rfl (fun u h => by rw [h]; simp only [List.map_cons, List.map_nil]) (fun u H locs hpost hP hD hS => ?_)
        subst hpost
        have hP : va_P D vwCl [(h, .inr (7, [.int (0), .ref sc, .int (nI (ss)), .int (nI (ps.2)), .int (bI (ps.1 = true)), .int (rb), .int (rl), .ref nw, .ref tr, .ref lk, .ref di, .int (nI (acN ac9)), .ref kp, .ref ik, .ref lv])), (nw, .inl (cI, 151, .inl f)), (lk, .inl (cI, 151, .inl flk)), (lv, .inl (cI, 4, .inl fl)), (di, .inl (cI, 2114, .inl (diN fd f ac9)))] H := hP
        have hD : va_D A [(h, .inr (7, [.int (0), .ref sc, .int (nI (ss)), .int (nI (ps.2)), .int (bI (ps.1 = true)), .int (rb), .int (rl), .ref nw, .ref tr, .ref lk, .ref di, .int (nI (acN ac9)), .ref kp, .ref ik, .ref lv])), (nw, .inl (cI, 151, .inl f)), (lk, .inl (cI, 151, .inl flk)), (lv, .inl (cI, 4, .inl fl)), (di, .inl (cI, 2114, .inl (diN fd f ac9)))] := hD
        refine lv_aload_n hx hb dX7_cut_43 rfl (lv_at hl 0 rfl) ?_
        refine va_get (D := D) (ci := 7) (v := .ref nw) (C := RX7) (T := TX7) (N := 15) hx hb hts u7 hown hK hP 0 rfl rfl 7 (by decide) (hts _ (m7 5 rfl)) (fun _ h9 => h9) rfl dX7_cut_44 ?_
        refine lv_iconst (v := 5) hx hb dX7_cut_47 (by decide) ?_
        refine ra_iald (i := 5) hx hb hK hP 1 0 rfl rfl (by omega) (by decide) dX7_cut_48 ?_
        refine lv_istore_n (lv' := [(2, .int (f (5))), (0, .ref h), (1, .int (n))]) hx hb dX7_cut_49 rfl hl (by decide) rfl (fun ls hl => ?_)
        refine lv_aload_n hx hb dX7_cut_50 rfl (lv_at hl 1 rfl) ?_
        refine va_get (D := D) (ci := 7) (v := .ref nw) (C := RX7) (T := TX7) (N := 15) hx hb hts u7 hown hK hP 0 rfl rfl 7 (by decide) (hts _ (m7 5 rfl)) (fun _ h9 => h9) rfl dX7_cut_51 ?_
        refine lv_iconst (v := 5) hx hb dX7_cut_54 (by decide) ?_
        refine lv_iload_n hx hb dX7_cut_55 rfl (lv_at hl 2 rfl) ?_
        refine ra_iast (i := 5) hx hb hK hP hD hS 1 0 rfl rfl (by omega) (by decide) dX7_cut_56 (fun H locs hP hD hS => ?_)
        have hP : va_P D vwCl [(h, .inr (7, [.int (0), .ref sc, .int (nI (ss)), .int (nI (ps.2)), .int (bI (ps.1 = true)), .int (rb), .int (rl), .ref nw, .ref tr, .ref lk, .ref di, .int (nI (acN ac9)), .ref kp, .ref ik, .ref lv])), (nw, .inl (cI, 151, .inl (upd f 5 n))), (lk, .inl (cI, 151, .inl flk)), (lv, .inl (cI, 4, .inl fl)), (di, .inl (cI, 2114, .inl (diN fd f ac9)))] H := hP
        have hD : va_D A [(h, .inr (7, [.int (0), .ref sc, .int (nI (ss)), .int (nI (ps.2)), .int (bI (ps.1 = true)), .int (rb), .int (rl), .ref nw, .ref tr, .ref lk, .ref di, .int (nI (acN ac9)), .ref kp, .ref ik, .ref lv])), (nw, .inl (cI, 151, .inl (upd f 5 n))), (lk, .inl (cI, 151, .inl flk)), (lv, .inl (cI, 4, .inl fl)), (di, .inl (cI, 2114, .inl (diN fd f ac9)))] := hD
        refine lv_iload_n hx hb dX7_cut_57 rfl (lv_at hl 0 rfl) ?_
        have hR9 : cutRf f n = 0 := by rw [cutRf, if_pos c10_1, if_neg c23_2]
        have hP : va_P D vwCl [(h, .inr (7, [.int (cutRf f n), .ref sc, .int (nI (ss)), .int (nI (ps.2)), .int (bI (ps.1 = true)), .int (rb), .int (rl), .ref nw, .ref tr, .ref lk, .ref di, .int (nI (if cutRf f n = 0 then acN ac9 else ac9)), .ref kp, .ref ik, .ref lv])), (nw, .inl (cI, 151, .inl (upd f 5 n))), (lk, .inl (cI, 151, .inl flk)), (lv, .inl (cI, 4, .inl fl)), (di, .inl (cI, 2114, .inl (diN fd f ac9)))] H := by
          rw [show (nI (if cutRf f n = 0 then acN ac9 else ac9) : Int32) = nI (acN ac9) from (congrArg nI (if_pos hR9))]
          rw [show (cutRf f n : Int32) = 0 from hR9]
          exact hP
        have hP : va_P D vwCl [(h, .inr (7, [.int (cutRf f n), .ref sc, .int (nI (ss)), .int (nI (ps.2)), .int (bI (ps.1 = true)), .int (rb), .int (rl), .ref nw, .ref tr, .ref lk, .ref di, .int (nI (if cutRf f n = 0 then acN ac9 else ac9)), .ref kp, .ref ik, .ref lv])), (nw, .inl (cI, 151, .inl (if cutRf f n = 0 then upd f 5 n else f))), (lk, .inl (cI, 151, .inl flk)), (lv, .inl (cI, 4, .inl fl)), (di, .inl (cI, 2114, .inl (diN fd f ac9)))] H := by
          rw [show (if cutRf f n = 0 then upd f 5 n else f : Nat → Int32) = upd f 5 n from (if_pos hR9)]
          exact hP
        have hP : va_P D vwCl [(h, .inr (7, [.int (cutRf f n), .ref sc, .int (nI (ss)), .int (nI (ps.2)), .int (bI (ps.1 = true)), .int (rb), .int (rl), .ref nw, .ref tr, .ref lk, .ref di, .int (nI (if cutRf f n = 0 then acN ac9 else ac9)), .ref kp, .ref ik, .ref lv])), (nw, .inl (cI, 151, .inl (if cutRf f n = 0 then upd f 5 n else f))), (lk, .inl (cI, 151, .inl flk)), (lv, .inl (cI, 4, .inl fl)), (di, .inl (cI, 2114, .inl (if cutRf f n = 0 then diN fd f ac9 else fd)))] H := by
          rw [show (if cutRf f n = 0 then diN fd f ac9 else fd : Nat → Int32) = diN fd f ac9 from (if_pos hR9)]
          exact hP
        exact gp_reti hX hr hlocks hS hP ⟨oR0 hR9, _, _, rfl⟩ dX7_cut_58
      · skip
        exact absurd c34_3 (by decide)
    · skip
      refine lv_iconst (v := 2) hx hb dX7_cut_26 (by decide) ?_
      refine lv_goto (tgt := 31) hx hb dX7_cut_27 (by decide) ?_
      refine gp_backi (gp_runV hX good7 i7 (c7_refused l D h rf 2 [.ref sc, .int (nI (ss)), .int (nI (ps.2)), .int (bI (ps.1 = true)), .int (rb), .int (rl), .ref nw, .ref tr, .ref lk, .ref di, .int (nI (ac9)), .ref kp, .ref ik, .ref lv]) q7_refused rfl (m7 117 rfl) (m7 118 rfl) (m7 119 rfl) ⟨Nat.le_of_ble_eq_true rfl, Nat.le_of_ble_eq_true rfl⟩ hK [] rfl hP hD [0] (by decide) rfl (ci := 7) (q0 := 0) rfl rfl rfl hl.1 rfl (Nat.le_of_ble_eq_true rfl) dX7_cut_31 ⟨Nat.zero_le _, Nat.zero_le _⟩) hP hD hS [0] rfl (fun r u h => by rw [h.2]; simp only [List.map_cons, List.map_nil]) (fun r9 u H locs hpost hP hD hS => ?_)
      obtain ⟨hr9, rfl⟩ := hpost
      refine lv_as hr9 ?_
      have hP : va_P D vwCl [(h, .inr (7, [.int (2), .ref sc, .int (nI (ss)), .int (nI (ps.2)), .int (bI (ps.1 = true)), .int (rb), .int (rl), .ref nw, .ref tr, .ref lk, .ref di, .int (nI (ac9)), .ref kp, .ref ik, .ref lv])), (nw, .inl (cI, 151, .inl f)), (lk, .inl (cI, 151, .inl flk)), (lv, .inl (cI, 4, .inl fl)), (di, .inl (cI, 2114, .inl fd))] H := hP
      have hD : va_D A [(h, .inr (7, [.int (2), .ref sc, .int (nI (ss)), .int (nI (ps.2)), .int (bI (ps.1 = true)), .int (rb), .int (rl), .ref nw, .ref tr, .ref lk, .ref di, .int (nI (ac9)), .ref kp, .ref ik, .ref lv])), (nw, .inl (cI, 151, .inl f)), (lk, .inl (cI, 151, .inl flk)), (lv, .inl (cI, 4, .inl fl)), (di, .inl (cI, 2114, .inl fd))] := hD
      refine lv_as (show bI (0 < (2 : Int32)) = 1 from by decide) ?_
      refine lv_if_eq (tgt := 39) hx hb dX7_cut_34 (by decide) (fun c34_4 => ?_) (fun c34_4 => ?_)
      · skip
        exact absurd c34_4 (by decide)
      · skip
        refine lv_iconst (v := 0) hx hb dX7_cut_37 (by decide) ?_
        have hR9 : cutRf f n = 2 := by rw [cutRf, if_pos c10_1, if_pos c23_2]
        have hP : va_P D vwCl [(h, .inr (7, [.int (cutRf f n), .ref sc, .int (nI (ss)), .int (nI (ps.2)), .int (bI (ps.1 = true)), .int (rb), .int (rl), .ref nw, .ref tr, .ref lk, .ref di, .int (nI (if cutRf f n = 0 then acN ac9 else ac9)), .ref kp, .ref ik, .ref lv])), (nw, .inl (cI, 151, .inl f)), (lk, .inl (cI, 151, .inl flk)), (lv, .inl (cI, 4, .inl fl)), (di, .inl (cI, 2114, .inl fd))] H := by
          rw [show (nI (if cutRf f n = 0 then acN ac9 else ac9) : Int32) = nI (ac9) from (congrArg nI (if_neg (by rw [hR9]; decide)))]
          rw [show (cutRf f n : Int32) = 2 from hR9]
          exact hP
        have hP : va_P D vwCl [(h, .inr (7, [.int (cutRf f n), .ref sc, .int (nI (ss)), .int (nI (ps.2)), .int (bI (ps.1 = true)), .int (rb), .int (rl), .ref nw, .ref tr, .ref lk, .ref di, .int (nI (if cutRf f n = 0 then acN ac9 else ac9)), .ref kp, .ref ik, .ref lv])), (nw, .inl (cI, 151, .inl (if cutRf f n = 0 then upd f 5 n else f))), (lk, .inl (cI, 151, .inl flk)), (lv, .inl (cI, 4, .inl fl)), (di, .inl (cI, 2114, .inl fd))] H := by
          rw [show (if cutRf f n = 0 then upd f 5 n else f : Nat → Int32) = f from (if_neg (by rw [hR9]; decide))]
          exact hP
        have hP : va_P D vwCl [(h, .inr (7, [.int (cutRf f n), .ref sc, .int (nI (ss)), .int (nI (ps.2)), .int (bI (ps.1 = true)), .int (rb), .int (rl), .ref nw, .ref tr, .ref lk, .ref di, .int (nI (if cutRf f n = 0 then acN ac9 else ac9)), .ref kp, .ref ik, .ref lv])), (nw, .inl (cI, 151, .inl (if cutRf f n = 0 then upd f 5 n else f))), (lk, .inl (cI, 151, .inl flk)), (lv, .inl (cI, 4, .inl fl)), (di, .inl (cI, 2114, .inl (if cutRf f n = 0 then diN fd f ac9 else fd)))] H := by
          rw [show (if cutRf f n = 0 then diN fd f ac9 else fd : Nat → Int32) = fd from (if_neg (by rw [hR9]; decide))]
          exact hP
        exact gp_reti hX hr hlocks hS hP ⟨oRn hR9 (by decide), _, _, rfl⟩ dX7_cut_38
  · skip
    have c10_1 := bI_f c10_1
    refine lv_iconst (v := 1) hx hb dX7_cut_13 (by decide) ?_
    refine lv_goto (tgt := 31) hx hb dX7_cut_14 (by decide) ?_
    refine gp_backi (gp_runV hX good7 i7 (c7_refused l D h rf 1 [.ref sc, .int (nI (ss)), .int (nI (ps.2)), .int (bI (ps.1 = true)), .int (rb), .int (rl), .ref nw, .ref tr, .ref lk, .ref di, .int (nI (ac9)), .ref kp, .ref ik, .ref lv]) q7_refused rfl (m7 117 rfl) (m7 118 rfl) (m7 119 rfl) ⟨Nat.le_of_ble_eq_true rfl, Nat.le_of_ble_eq_true rfl⟩ hK [] rfl hP hD [0] (by decide) rfl (ci := 7) (q0 := 0) rfl rfl rfl hl.1 rfl (Nat.le_of_ble_eq_true rfl) dX7_cut_31 ⟨Nat.zero_le _, Nat.zero_le _⟩) hP hD hS [0] rfl (fun r u h => by rw [h.2]; simp only [List.map_cons, List.map_nil]) (fun r9 u H locs hpost hP hD hS => ?_)
    obtain ⟨hr9, rfl⟩ := hpost
    refine lv_as hr9 ?_
    have hP : va_P D vwCl [(h, .inr (7, [.int (1), .ref sc, .int (nI (ss)), .int (nI (ps.2)), .int (bI (ps.1 = true)), .int (rb), .int (rl), .ref nw, .ref tr, .ref lk, .ref di, .int (nI (ac9)), .ref kp, .ref ik, .ref lv])), (nw, .inl (cI, 151, .inl f)), (lk, .inl (cI, 151, .inl flk)), (lv, .inl (cI, 4, .inl fl)), (di, .inl (cI, 2114, .inl fd))] H := hP
    have hD : va_D A [(h, .inr (7, [.int (1), .ref sc, .int (nI (ss)), .int (nI (ps.2)), .int (bI (ps.1 = true)), .int (rb), .int (rl), .ref nw, .ref tr, .ref lk, .ref di, .int (nI (ac9)), .ref kp, .ref ik, .ref lv])), (nw, .inl (cI, 151, .inl f)), (lk, .inl (cI, 151, .inl flk)), (lv, .inl (cI, 4, .inl fl)), (di, .inl (cI, 2114, .inl fd))] := hD
    refine lv_as (show bI (0 < (1 : Int32)) = 1 from by decide) ?_
    refine lv_if_eq (tgt := 39) hx hb dX7_cut_34 (by decide) (fun c34_5 => ?_) (fun c34_5 => ?_)
    · skip
      exact absurd c34_5 (by decide)
    · skip
      refine lv_iconst (v := 0) hx hb dX7_cut_37 (by decide) ?_
      have hR9 : cutRf f n = 1 := by rw [cutRf, if_neg c10_1]
      have hP : va_P D vwCl [(h, .inr (7, [.int (cutRf f n), .ref sc, .int (nI (ss)), .int (nI (ps.2)), .int (bI (ps.1 = true)), .int (rb), .int (rl), .ref nw, .ref tr, .ref lk, .ref di, .int (nI (if cutRf f n = 0 then acN ac9 else ac9)), .ref kp, .ref ik, .ref lv])), (nw, .inl (cI, 151, .inl f)), (lk, .inl (cI, 151, .inl flk)), (lv, .inl (cI, 4, .inl fl)), (di, .inl (cI, 2114, .inl fd))] H := by
        rw [show (nI (if cutRf f n = 0 then acN ac9 else ac9) : Int32) = nI (ac9) from (congrArg nI (if_neg (by rw [hR9]; decide)))]
        rw [show (cutRf f n : Int32) = 1 from hR9]
        exact hP
      have hP : va_P D vwCl [(h, .inr (7, [.int (cutRf f n), .ref sc, .int (nI (ss)), .int (nI (ps.2)), .int (bI (ps.1 = true)), .int (rb), .int (rl), .ref nw, .ref tr, .ref lk, .ref di, .int (nI (if cutRf f n = 0 then acN ac9 else ac9)), .ref kp, .ref ik, .ref lv])), (nw, .inl (cI, 151, .inl (if cutRf f n = 0 then upd f 5 n else f))), (lk, .inl (cI, 151, .inl flk)), (lv, .inl (cI, 4, .inl fl)), (di, .inl (cI, 2114, .inl fd))] H := by
        rw [show (if cutRf f n = 0 then upd f 5 n else f : Nat → Int32) = f from (if_neg (by rw [hR9]; decide))]
        exact hP
      have hP : va_P D vwCl [(h, .inr (7, [.int (cutRf f n), .ref sc, .int (nI (ss)), .int (nI (ps.2)), .int (bI (ps.1 = true)), .int (rb), .int (rl), .ref nw, .ref tr, .ref lk, .ref di, .int (nI (if cutRf f n = 0 then acN ac9 else ac9)), .ref kp, .ref ik, .ref lv])), (nw, .inl (cI, 151, .inl (if cutRf f n = 0 then upd f 5 n else f))), (lk, .inl (cI, 151, .inl flk)), (lv, .inl (cI, 4, .inl fl)), (di, .inl (cI, 2114, .inl (if cutRf f n = 0 then diN fd f ac9 else fd)))] H := by
        rw [show (if cutRf f n = 0 then diN fd f ac9 else fd : Nat → Int32) = fd from (if_neg (by rw [hR9]; decide))]
        exact hP
      exact gp_reti hX hr hlocks hS hP ⟨oRn hR9 (by decide), _, _, rfl⟩ dX7_cut_38
theorem dX7_start_0 : decode cX7_start 0 = .ok (.aload_n 0, 1) := by decide +kernel
theorem dX7_start_1 : decode cX7_start 1 = .ok (.aload_n 0, 1) := by decide +kernel
theorem dX7_start_2 : decode cX7_start 2 = .ok (.getfield 13, 3) := by decide +kernel
theorem dX7_start_5 : decode cX7_start 5 = .ok (.iconst 2, 1) := by decide +kernel
theorem dX7_start_6 : decode cX7_start 6 = .ok (.iaload, 1) := by decide +kernel
theorem dX7_start_7 : decode cX7_start 7 = .ok (.iconst 1, 1) := by decide +kernel
theorem dX7_start_8 : decode cX7_start 8 = .ok (.if_icmp .ne 7, 3) := by decide +kernel
theorem dX7_start_11 : decode cX7_start 11 = .ok (.iconst 1, 1) := by decide +kernel
theorem dX7_start_12 : decode cX7_start 12 = .ok (.goto 4, 3) := by decide +kernel
theorem dX7_start_15 : decode cX7_start 15 = .ok (.iconst 0, 1) := by decide +kernel
theorem dX7_start_16 : decode cX7_start 16 = .ok (.invokevirtual 154, 3) := by decide +kernel
theorem dX7_start_19 : decode cX7_start 19 = .ok (.ifCond .eq 5, 3) := by decide +kernel
theorem dX7_start_22 : decode cX7_start 22 = .ok (.iconst 0, 1) := by decide +kernel
theorem dX7_start_23 : decode cX7_start 23 = .ok (.ireturn, 1) := by decide +kernel
theorem dX7_start_24 : decode cX7_start 24 = .ok (.aload_n 0, 1) := by decide +kernel
theorem dX7_start_25 : decode cX7_start 25 = .ok (.invokevirtual 237, 3) := by decide +kernel
theorem dX7_start_28 : decode cX7_start 28 = .ok (.aload_n 0, 1) := by decide +kernel
theorem dX7_start_29 : decode cX7_start 29 = .ok (.getfield 13, 3) := by decide +kernel
theorem dX7_start_32 : decode cX7_start 32 = .ok (.invokestatic 141, 3) := by decide +kernel
theorem dX7_start_35 : decode cX7_start 35 = .ok (.aload_n 0, 1) := by decide +kernel
theorem dX7_start_36 : decode cX7_start 36 = .ok (.getfield 13, 3) := by decide +kernel
theorem dX7_start_39 : decode cX7_start 39 = .ok (.invokestatic 212, 3) := by decide +kernel
theorem dX7_start_42 : decode cX7_start 42 = .ok (.ireturn, 1) := by decide +kernel
set_option maxHeartbeats 4000000 in
set_option maxRecDepth 100000 in
theorem c7_start (l : Launch) (D : va_G) (cI cZ : ClassId) (h sc nw tr lk di kp ik lv : Nat) (rf rb rl : Int32) (ac9 : Nat) (ss : Nat) (ps : Bool × Nat) (f : Nat → Int32) (B : Nat) (flk fl fd : Nat → Int32) (hac : ac9 ≤ 14) (hO : Ok f B)  : GPi l yX7_start cX7_start 1 .int W7 5 110 D [(h, .inr (7, [.int (rf), .ref sc, .int (nI (ss)), .int (nI (ps.2)), .int (bI (ps.1 = true)), .int (rb), .int (rl), .ref nw, .ref tr, .ref lk, .ref di, .int (nI (ac9)), .ref kp, .ref ik, .ref lv])), (nw, .inl (cI, 151, .inl f)), (lk, .inl (cI, 151, .inl flk)), (lv, .inl (cI, 4, .inl fl)), (di, .inl (cI, 2114, .inl fd))] [(cI, .int)] [.ref h] (fun (r9 : Int32) (u9 : va_W) => r9 = (if staR f = 0 then nI (kys (puR f B) B 16) else 0) ∧ ∃ fl9 : Nat → Int32, ∃ lk9 : Nat → Int32, u9 = [(h, .inr (7, [.int (staR f), .ref sc, .int (nI (ss)), .int (nI (ps.2)), .int (bI (ps.1 = true)), .int (rb), .int (rl), .ref nw, .ref tr, .ref lk, .ref di, .int (nI (if staR f = 0 then acN ac9 else ac9)), .ref kp, .ref ik, .ref lv])), (nw, .inl (cI, 151, .inl (if staR f = 0 then puR f B else f))), (lk, .inl (cI, 151, .inl lk9)), (lv, .inl (cI, 4, .inl fl9)), (di, .inl (cI, 2114, .inl (if staR f = 0 then diN fd f ac9 else fd)))]) := by
  refine gp_of RX7 (by decide) rfl (Nat.le_of_ble_eq_true rfl) ?_
  intro p e s m below meth c ls H hX hr hlocks hK hP hD hS hl
  generalize gp_A [(h, .inr (7, [.int (rf), .ref sc, .int (nI (ss)), .int (nI (ps.2)), .int (bI (ps.1 = true)), .int (rb), .int (rl), .ref nw, .ref tr, .ref lk, .ref di, .int (nI (ac9)), .ref kp, .ref ik, .ref lv])), (nw, .inl (cI, 151, .inl f)), (lk, .inl (cI, 151, .inl flk)), (lv, .inl (cI, 4, .inl fl)), (di, .inl (cI, 2114, .inl fd))] = A at hD hS ⊢
  have hx := hX.1
  have hb := hX.2.1
  have hown := hX.2.2.2.1
  have hts := hX.2.2.2.2
  have hl : lv_has ls 1 [(0, .ref h)] := hl
  have hB8 := hO.1.2.1
  refine lv_aload_n hx hb dX7_start_0 rfl (lv_at hl 0 rfl) ?_
  refine lv_aload_n hx hb dX7_start_1 rfl (lv_at hl 0 rfl) ?_
  refine va_get (D := D) (ci := 7) (v := .ref nw) (C := RX7) (T := TX7) (N := 15) hx hb hts u7 hown hK hP 0 rfl rfl 7 (by decide) (hts _ (m7 5 rfl)) (fun _ h9 => h9) rfl dX7_start_2 ?_
  refine lv_iconst (v := 2) hx hb dX7_start_5 (by decide) ?_
  refine ra_iald (i := 2) hx hb hK hP 1 0 rfl rfl (by omega) (by decide) dX7_start_6 ?_
  refine lv_iconst (v := 1) hx hb dX7_start_7 (by decide) ?_
  refine lv_icmp_ne (tgt := 15) hx hb dX7_start_8 (by decide) (fun c8_1 => ?_) (fun c8_1 => ?_)
  · skip
    refine lv_iconst (v := 0) hx hb dX7_start_15 (by decide) ?_
    refine gp_backi (gp_runV hX good7 i7 (c7_refused l D h rf 0 [.ref sc, .int (nI (ss)), .int (nI (ps.2)), .int (bI (ps.1 = true)), .int (rb), .int (rl), .ref nw, .ref tr, .ref lk, .ref di, .int (nI (ac9)), .ref kp, .ref ik, .ref lv]) q7_refused rfl (m7 117 rfl) (m7 118 rfl) (m7 119 rfl) ⟨Nat.le_of_ble_eq_true rfl, Nat.le_of_ble_eq_true rfl⟩ hK [] rfl hP hD [0] (by decide) rfl (ci := 7) (q0 := 0) rfl rfl rfl hl.1 rfl (Nat.le_of_ble_eq_true rfl) dX7_start_16 ⟨Nat.zero_le _, Nat.zero_le _⟩) hP hD hS [0] rfl (fun r u h => by rw [h.2]; simp only [List.map_cons, List.map_nil]) (fun r9 u H locs hpost hP hD hS => ?_)
    obtain ⟨hr9, rfl⟩ := hpost
    refine lv_as hr9 ?_
    have hP : va_P D vwCl [(h, .inr (7, [.int (0), .ref sc, .int (nI (ss)), .int (nI (ps.2)), .int (bI (ps.1 = true)), .int (rb), .int (rl), .ref nw, .ref tr, .ref lk, .ref di, .int (nI (ac9)), .ref kp, .ref ik, .ref lv])), (nw, .inl (cI, 151, .inl f)), (lk, .inl (cI, 151, .inl flk)), (lv, .inl (cI, 4, .inl fl)), (di, .inl (cI, 2114, .inl fd))] H := hP
    have hD : va_D A [(h, .inr (7, [.int (0), .ref sc, .int (nI (ss)), .int (nI (ps.2)), .int (bI (ps.1 = true)), .int (rb), .int (rl), .ref nw, .ref tr, .ref lk, .ref di, .int (nI (ac9)), .ref kp, .ref ik, .ref lv])), (nw, .inl (cI, 151, .inl f)), (lk, .inl (cI, 151, .inl flk)), (lv, .inl (cI, 4, .inl fl)), (di, .inl (cI, 2114, .inl fd))] := hD
    refine lv_as (show bI (0 < (0 : Int32)) = 0 from by decide) ?_
    refine lv_if_eq (tgt := 24) hx hb dX7_start_19 (by decide) (fun c19_2 => ?_) (fun c19_2 => ?_)
    · skip
      refine lv_aload_n hx hb dX7_start_24 rfl (lv_at hl 0 rfl) ?_
      refine gp_backv (gp_runV hX good7 i7 (c7_note l D cI cZ h sc nw tr lk di kp ik lv 0 rb rl ac9 ss ps f fd (by omega)) q7_note rfl (m7 191 rfl) (m7 192 rfl) (m7 193 rfl) ⟨Nat.le_of_ble_eq_true rfl, Nat.le_of_ble_eq_true rfl⟩ hK [0] rfl hP hD [0, 1, 4] (by decide) rfl (ci := 7) (q0 := 0) rfl rfl rfl hl.1 rfl (Nat.le_of_ble_eq_true rfl) dX7_start_25 ⟨Nat.zero_le _, Nat.zero_le _⟩) hP hD hS [0, 1, 4] rfl (fun u h => by rw [h]; simp only [List.map_cons, List.map_nil]) (fun u H locs hpost hP hD hS => ?_)
      subst hpost
      have hP : va_P D vwCl [(h, .inr (7, [.int (0), .ref sc, .int (nI (ss)), .int (nI (ps.2)), .int (bI (ps.1 = true)), .int (rb), .int (rl), .ref nw, .ref tr, .ref lk, .ref di, .int (nI (acN ac9)), .ref kp, .ref ik, .ref lv])), (nw, .inl (cI, 151, .inl f)), (lk, .inl (cI, 151, .inl flk)), (lv, .inl (cI, 4, .inl fl)), (di, .inl (cI, 2114, .inl (diN fd f ac9)))] H := hP
      have hD : va_D A [(h, .inr (7, [.int (0), .ref sc, .int (nI (ss)), .int (nI (ps.2)), .int (bI (ps.1 = true)), .int (rb), .int (rl), .ref nw, .ref tr, .ref lk, .ref di, .int (nI (acN ac9)), .ref kp, .ref ik, .ref lv])), (nw, .inl (cI, 151, .inl f)), (lk, .inl (cI, 151, .inl flk)), (lv, .inl (cI, 4, .inl fl)), (di, .inl (cI, 2114, .inl (diN fd f ac9)))] := hD
      refine lv_aload_n hx hb dX7_start_28 rfl (lv_at hl 0 rfl) ?_
      refine va_get (D := D) (ci := 7) (v := .ref nw) (C := RX7) (T := TX7) (N := 15) hx hb hts u7 hown hK hP 0 rfl rfl 7 (by decide) (hts _ (m7 5 rfl)) (fun _ h9 => h9) rfl dX7_start_29 ?_
      refine gp_backv (gp_runS hX good7 i7 (c7_powerUp l D cI nw f B hO.1.1 hO.1.2.1) q7_powerUp rfl (m7 109 rfl) (m7 110 rfl) ⟨Nat.le_of_ble_eq_true rfl, Nat.le_of_ble_eq_true rfl⟩ hK [0] rfl hP hD [1] (by decide) rfl hl.1 rfl (Nat.le_of_ble_eq_true rfl) dX7_start_32 ⟨Nat.zero_le _, Nat.zero_le _⟩) hP hD hS [1] rfl (fun u h => by rw [h]; simp only [List.map_cons, List.map_nil]) (fun u H locs hpost hP hD hS => ?_)
      subst hpost
      have hP : va_P D vwCl [(h, .inr (7, [.int (0), .ref sc, .int (nI (ss)), .int (nI (ps.2)), .int (bI (ps.1 = true)), .int (rb), .int (rl), .ref nw, .ref tr, .ref lk, .ref di, .int (nI (acN ac9)), .ref kp, .ref ik, .ref lv])), (nw, .inl (cI, 151, .inl (puR f B))), (lk, .inl (cI, 151, .inl flk)), (lv, .inl (cI, 4, .inl fl)), (di, .inl (cI, 2114, .inl (diN fd f ac9)))] H := hP
      have hD : va_D A [(h, .inr (7, [.int (0), .ref sc, .int (nI (ss)), .int (nI (ps.2)), .int (bI (ps.1 = true)), .int (rb), .int (rl), .ref nw, .ref tr, .ref lk, .ref di, .int (nI (acN ac9)), .ref kp, .ref ik, .ref lv])), (nw, .inl (cI, 151, .inl (puR f B))), (lk, .inl (cI, 151, .inl flk)), (lv, .inl (cI, 4, .inl fl)), (di, .inl (cI, 2114, .inl (diN fd f ac9)))] := hD
      refine lv_aload_n hx hb dX7_start_35 rfl (lv_at hl 0 rfl) ?_
      refine va_get (D := D) (ci := 7) (v := .ref nw) (C := RX7) (T := TX7) (N := 15) hx hb hts u7 hown hK hP 0 rfl rfl 7 (by decide) (hts _ (m7 5 rfl)) (fun _ h9 => h9) rfl dX7_start_36 ?_
      refine rp_callS hX good7 i7 (c7_keysOf l D cI nw (puR f B) B (Wf_pu hO.1).1 (Wf_pu hO.1).2.1) q7_keysOf rfl (m7 169 rfl) (m7 170 rfl) ⟨Nat.le_of_ble_eq_true rfl, Nat.le_of_ble_eq_true rfl⟩ hK [0] rfl hP [1] rfl hS hl.1 rfl (Nat.le_of_ble_eq_true rfl) dX7_start_39 ⟨Nat.zero_le _, Nat.zero_le _⟩ (fun H locs hP hS => ?_)
      have hR9 : staR f = 0 := by rw [staR, if_neg c8_1]
      have hP : va_P D vwCl [(h, .inr (7, [.int (staR f), .ref sc, .int (nI (ss)), .int (nI (ps.2)), .int (bI (ps.1 = true)), .int (rb), .int (rl), .ref nw, .ref tr, .ref lk, .ref di, .int (nI (if staR f = 0 then acN ac9 else ac9)), .ref kp, .ref ik, .ref lv])), (nw, .inl (cI, 151, .inl (puR f B))), (lk, .inl (cI, 151, .inl flk)), (lv, .inl (cI, 4, .inl fl)), (di, .inl (cI, 2114, .inl (diN fd f ac9)))] H := by
        rw [show (nI (if staR f = 0 then acN ac9 else ac9) : Int32) = nI (acN ac9) from (congrArg nI (if_pos hR9))]
        rw [show (staR f : Int32) = 0 from hR9]
        exact hP
      have hP : va_P D vwCl [(h, .inr (7, [.int (staR f), .ref sc, .int (nI (ss)), .int (nI (ps.2)), .int (bI (ps.1 = true)), .int (rb), .int (rl), .ref nw, .ref tr, .ref lk, .ref di, .int (nI (if staR f = 0 then acN ac9 else ac9)), .ref kp, .ref ik, .ref lv])), (nw, .inl (cI, 151, .inl (if staR f = 0 then puR f B else f))), (lk, .inl (cI, 151, .inl flk)), (lv, .inl (cI, 4, .inl fl)), (di, .inl (cI, 2114, .inl (diN fd f ac9)))] H := by
        rw [show (if staR f = 0 then puR f B else f : Nat → Int32) = puR f B from (if_pos hR9)]
        exact hP
      have hP : va_P D vwCl [(h, .inr (7, [.int (staR f), .ref sc, .int (nI (ss)), .int (nI (ps.2)), .int (bI (ps.1 = true)), .int (rb), .int (rl), .ref nw, .ref tr, .ref lk, .ref di, .int (nI (if staR f = 0 then acN ac9 else ac9)), .ref kp, .ref ik, .ref lv])), (nw, .inl (cI, 151, .inl (if staR f = 0 then puR f B else f))), (lk, .inl (cI, 151, .inl flk)), (lv, .inl (cI, 4, .inl fl)), (di, .inl (cI, 2114, .inl (if staR f = 0 then diN fd f ac9 else fd)))] H := by
        rw [show (if staR f = 0 then diN fd f ac9 else fd : Nat → Int32) = diN fd f ac9 from (if_pos hR9)]
        exact hP
      exact gp_reti hX hr hlocks hS hP ⟨oR0 hR9, _, _, rfl⟩ dX7_start_42
    · skip
      exact absurd c19_2 (by decide)
  · skip
    refine lv_iconst (v := 1) hx hb dX7_start_11 (by decide) ?_
    refine lv_goto (tgt := 16) hx hb dX7_start_12 (by decide) ?_
    refine gp_backi (gp_runV hX good7 i7 (c7_refused l D h rf 1 [.ref sc, .int (nI (ss)), .int (nI (ps.2)), .int (bI (ps.1 = true)), .int (rb), .int (rl), .ref nw, .ref tr, .ref lk, .ref di, .int (nI (ac9)), .ref kp, .ref ik, .ref lv]) q7_refused rfl (m7 117 rfl) (m7 118 rfl) (m7 119 rfl) ⟨Nat.le_of_ble_eq_true rfl, Nat.le_of_ble_eq_true rfl⟩ hK [] rfl hP hD [0] (by decide) rfl (ci := 7) (q0 := 0) rfl rfl rfl hl.1 rfl (Nat.le_of_ble_eq_true rfl) dX7_start_16 ⟨Nat.zero_le _, Nat.zero_le _⟩) hP hD hS [0] rfl (fun r u h => by rw [h.2]; simp only [List.map_cons, List.map_nil]) (fun r9 u H locs hpost hP hD hS => ?_)
    obtain ⟨hr9, rfl⟩ := hpost
    refine lv_as hr9 ?_
    have hP : va_P D vwCl [(h, .inr (7, [.int (1), .ref sc, .int (nI (ss)), .int (nI (ps.2)), .int (bI (ps.1 = true)), .int (rb), .int (rl), .ref nw, .ref tr, .ref lk, .ref di, .int (nI (ac9)), .ref kp, .ref ik, .ref lv])), (nw, .inl (cI, 151, .inl f)), (lk, .inl (cI, 151, .inl flk)), (lv, .inl (cI, 4, .inl fl)), (di, .inl (cI, 2114, .inl fd))] H := hP
    have hD : va_D A [(h, .inr (7, [.int (1), .ref sc, .int (nI (ss)), .int (nI (ps.2)), .int (bI (ps.1 = true)), .int (rb), .int (rl), .ref nw, .ref tr, .ref lk, .ref di, .int (nI (ac9)), .ref kp, .ref ik, .ref lv])), (nw, .inl (cI, 151, .inl f)), (lk, .inl (cI, 151, .inl flk)), (lv, .inl (cI, 4, .inl fl)), (di, .inl (cI, 2114, .inl fd))] := hD
    refine lv_as (show bI (0 < (1 : Int32)) = 1 from by decide) ?_
    refine lv_if_eq (tgt := 24) hx hb dX7_start_19 (by decide) (fun c19_3 => ?_) (fun c19_3 => ?_)
    · skip
      exact absurd c19_3 (by decide)
    · skip
      refine lv_iconst (v := 0) hx hb dX7_start_22 (by decide) ?_
      have hR9 : staR f = 1 := by rw [staR, if_pos c8_1]
      have hP : va_P D vwCl [(h, .inr (7, [.int (staR f), .ref sc, .int (nI (ss)), .int (nI (ps.2)), .int (bI (ps.1 = true)), .int (rb), .int (rl), .ref nw, .ref tr, .ref lk, .ref di, .int (nI (if staR f = 0 then acN ac9 else ac9)), .ref kp, .ref ik, .ref lv])), (nw, .inl (cI, 151, .inl f)), (lk, .inl (cI, 151, .inl flk)), (lv, .inl (cI, 4, .inl fl)), (di, .inl (cI, 2114, .inl fd))] H := by
        rw [show (nI (if staR f = 0 then acN ac9 else ac9) : Int32) = nI (ac9) from (congrArg nI (if_neg (by rw [hR9]; decide)))]
        rw [show (staR f : Int32) = 1 from hR9]
        exact hP
      have hP : va_P D vwCl [(h, .inr (7, [.int (staR f), .ref sc, .int (nI (ss)), .int (nI (ps.2)), .int (bI (ps.1 = true)), .int (rb), .int (rl), .ref nw, .ref tr, .ref lk, .ref di, .int (nI (if staR f = 0 then acN ac9 else ac9)), .ref kp, .ref ik, .ref lv])), (nw, .inl (cI, 151, .inl (if staR f = 0 then puR f B else f))), (lk, .inl (cI, 151, .inl flk)), (lv, .inl (cI, 4, .inl fl)), (di, .inl (cI, 2114, .inl fd))] H := by
        rw [show (if staR f = 0 then puR f B else f : Nat → Int32) = f from (if_neg (by rw [hR9]; decide))]
        exact hP
      have hP : va_P D vwCl [(h, .inr (7, [.int (staR f), .ref sc, .int (nI (ss)), .int (nI (ps.2)), .int (bI (ps.1 = true)), .int (rb), .int (rl), .ref nw, .ref tr, .ref lk, .ref di, .int (nI (if staR f = 0 then acN ac9 else ac9)), .ref kp, .ref ik, .ref lv])), (nw, .inl (cI, 151, .inl (if staR f = 0 then puR f B else f))), (lk, .inl (cI, 151, .inl flk)), (lv, .inl (cI, 4, .inl fl)), (di, .inl (cI, 2114, .inl (if staR f = 0 then diN fd f ac9 else fd)))] H := by
        rw [show (if staR f = 0 then diN fd f ac9 else fd : Nat → Int32) = fd from (if_neg (by rw [hR9]; decide))]
        exact hP
      exact gp_reti hX hr hlocks hS hP ⟨oRn hR9 (by decide), _, _, rfl⟩ dX7_start_23
theorem dX7_setPolicy_0 : decode cX7_setPolicy 0 = .ok (.aload_n 0, 1) := by decide +kernel
theorem dX7_setPolicy_1 : decode cX7_setPolicy 1 = .ok (.iload_n 1, 1) := by decide +kernel
theorem dX7_setPolicy_2 : decode cX7_setPolicy 2 = .ok (.i2l, 1) := by decide +kernel
theorem dX7_setPolicy_3 : decode cX7_setPolicy 3 = .ok (.lconst 0, 1) := by decide +kernel
theorem dX7_setPolicy_4 : decode cX7_setPolicy 4 = .ok (.ldc2_w 233, 3) := by decide +kernel
theorem dX7_setPolicy_7 : decode cX7_setPolicy 7 = .ok (.invokestatic 147, 3) := by decide +kernel
theorem dX7_setPolicy_10 : decode cX7_setPolicy 10 = .ok (.ifCond .eq 7, 3) := by decide +kernel
theorem dX7_setPolicy_13 : decode cX7_setPolicy 13 = .ok (.iconst 0, 1) := by decide +kernel
theorem dX7_setPolicy_14 : decode cX7_setPolicy 14 = .ok (.goto 4, 3) := by decide +kernel
theorem dX7_setPolicy_17 : decode cX7_setPolicy 17 = .ok (.iconst 1, 1) := by decide +kernel
theorem dX7_setPolicy_18 : decode cX7_setPolicy 18 = .ok (.invokevirtual 154, 3) := by decide +kernel
theorem dX7_setPolicy_21 : decode cX7_setPolicy 21 = .ok (.ifCond .eq 5, 3) := by decide +kernel
theorem dX7_setPolicy_24 : decode cX7_setPolicy 24 = .ok (.iconst 0, 1) := by decide +kernel
theorem dX7_setPolicy_25 : decode cX7_setPolicy 25 = .ok (.ireturn, 1) := by decide +kernel
theorem dX7_setPolicy_26 : decode cX7_setPolicy 26 = .ok (.aload_n 0, 1) := by decide +kernel
theorem dX7_setPolicy_27 : decode cX7_setPolicy 27 = .ok (.invokevirtual 237, 3) := by decide +kernel
theorem dX7_setPolicy_30 : decode cX7_setPolicy 30 = .ok (.aload_n 0, 1) := by decide +kernel
theorem dX7_setPolicy_31 : decode cX7_setPolicy 31 = .ok (.getfield 13, 3) := by decide +kernel
theorem dX7_setPolicy_34 : decode cX7_setPolicy 34 = .ok (.bipush 6, 2) := by decide +kernel
theorem dX7_setPolicy_36 : decode cX7_setPolicy 36 = .ok (.iaload, 1) := by decide +kernel
theorem dX7_setPolicy_37 : decode cX7_setPolicy 37 = .ok (.istore_n 2, 1) := by decide +kernel
theorem dX7_setPolicy_38 : decode cX7_setPolicy 38 = .ok (.aload_n 0, 1) := by decide +kernel
theorem dX7_setPolicy_39 : decode cX7_setPolicy 39 = .ok (.getfield 13, 3) := by decide +kernel
theorem dX7_setPolicy_42 : decode cX7_setPolicy 42 = .ok (.bipush 6, 2) := by decide +kernel
theorem dX7_setPolicy_44 : decode cX7_setPolicy 44 = .ok (.iload_n 1, 1) := by decide +kernel
theorem dX7_setPolicy_45 : decode cX7_setPolicy 45 = .ok (.iastore, 1) := by decide +kernel
theorem dX7_setPolicy_46 : decode cX7_setPolicy 46 = .ok (.iload_n 2, 1) := by decide +kernel
theorem dX7_setPolicy_47 : decode cX7_setPolicy 47 = .ok (.ireturn, 1) := by decide +kernel
set_option maxHeartbeats 4000000 in
set_option maxRecDepth 100000 in
theorem c7_setPolicy (l : Launch) (D : va_G) (cI cZ : ClassId) (h sc nw tr lk di kp ik lv : Nat) (rf rb rl : Int32) (ac9 : Nat) (ss : Nat) (ps : Bool × Nat) (f : Nat → Int32) (B : Nat) (flk fl fd : Nat → Int32) (hac : ac9 ≤ 14) (hO : Ok f B) (n : Int32) : GPi l yX7_setPolicy cX7_setPolicy 3 .int W7 2 45 D [(h, .inr (7, [.int (rf), .ref sc, .int (nI (ss)), .int (nI (ps.2)), .int (bI (ps.1 = true)), .int (rb), .int (rl), .ref nw, .ref tr, .ref lk, .ref di, .int (nI (ac9)), .ref kp, .ref ik, .ref lv])), (nw, .inl (cI, 151, .inl f)), (lk, .inl (cI, 151, .inl flk)), (lv, .inl (cI, 4, .inl fl)), (di, .inl (cI, 2114, .inl fd))] [(cI, .int)] [.ref h, .int (n)] (fun (r9 : Int32) (u9 : va_W) => r9 = (if rg2R n 2 = 0 then f 6 else 0) ∧ ∃ fl9 : Nat → Int32, ∃ lk9 : Nat → Int32, u9 = [(h, .inr (7, [.int (rg2R n 2), .ref sc, .int (nI (ss)), .int (nI (ps.2)), .int (bI (ps.1 = true)), .int (rb), .int (rl), .ref nw, .ref tr, .ref lk, .ref di, .int (nI (if rg2R n 2 = 0 then acN ac9 else ac9)), .ref kp, .ref ik, .ref lv])), (nw, .inl (cI, 151, .inl (if rg2R n 2 = 0 then upd f 6 n else f))), (lk, .inl (cI, 151, .inl lk9)), (lv, .inl (cI, 4, .inl fl9)), (di, .inl (cI, 2114, .inl (if rg2R n 2 = 0 then diN fd f ac9 else fd)))]) := by
  refine gp_of RX7 (by decide) rfl (Nat.le_of_ble_eq_true rfl) ?_
  intro p e s m below meth c ls H hX hr hlocks hK hP hD hS hl
  generalize gp_A [(h, .inr (7, [.int (rf), .ref sc, .int (nI (ss)), .int (nI (ps.2)), .int (bI (ps.1 = true)), .int (rb), .int (rl), .ref nw, .ref tr, .ref lk, .ref di, .int (nI (ac9)), .ref kp, .ref ik, .ref lv])), (nw, .inl (cI, 151, .inl f)), (lk, .inl (cI, 151, .inl flk)), (lv, .inl (cI, 4, .inl fl)), (di, .inl (cI, 2114, .inl fd))] = A at hD hS ⊢
  have hx := hX.1
  have hb := hX.2.1
  have hown := hX.2.2.2.1
  have hts := hX.2.2.2.2
  have hl : lv_has ls 3 [(0, .ref h), (1, .int (n))] := hl
  have hB8 := hO.1.2.1
  refine lv_aload_n hx hb dX7_setPolicy_0 rfl (lv_at hl 0 rfl) ?_
  refine lv_iload_n hx hb dX7_setPolicy_1 rfl (lv_at hl 1 rfl) ?_
  refine lv_i2l (v := (n : Int32).toInt64) hx hb dX7_setPolicy_2 (rfl) ?_
  refine lv_lconst (v := 0) hx hb dX7_setPolicy_3 (by decide) ?_
  refine lv_asl (show (0 : Int64) = (0 : Int32).toInt64 from by decide) ?_
  refine lv_ldc2 (v := 2) hx hb hown (hts _ (m7 189 rfl)) dX7_setPolicy_4 ?_
  refine lv_asl (show (2 : Int64) = (2 : Int32).toInt64 from by decide) ?_
  refine rp_callS hX good7 i7 (c7_inI l D n 0 2) q7_in rfl (m7 114 rfl) (m7 115 rfl) ⟨Nat.le_of_ble_eq_true rfl, Nat.le_of_ble_eq_true rfl⟩ hK [] rfl hP [] rfl hS hl.1 rfl (Nat.le_of_ble_eq_true rfl) dX7_setPolicy_7 ⟨Nat.zero_le _, Nat.zero_le _⟩ (fun H locs hP hS => ?_)
  refine lv_if_eq (tgt := 17) hx hb dX7_setPolicy_10 (by decide) (fun c10_1 => ?_) (fun c10_1 => ?_)
  · skip
    have c10_1 := bI_f c10_1
    refine lv_iconst (v := 1) hx hb dX7_setPolicy_17 (by decide) ?_
    refine gp_backi (gp_runV hX good7 i7 (c7_refused l D h rf 1 [.ref sc, .int (nI (ss)), .int (nI (ps.2)), .int (bI (ps.1 = true)), .int (rb), .int (rl), .ref nw, .ref tr, .ref lk, .ref di, .int (nI (ac9)), .ref kp, .ref ik, .ref lv]) q7_refused rfl (m7 117 rfl) (m7 118 rfl) (m7 119 rfl) ⟨Nat.le_of_ble_eq_true rfl, Nat.le_of_ble_eq_true rfl⟩ hK [] rfl hP hD [0] (by decide) rfl (ci := 7) (q0 := 0) rfl rfl rfl hl.1 rfl (Nat.le_of_ble_eq_true rfl) dX7_setPolicy_18 ⟨Nat.zero_le _, Nat.zero_le _⟩) hP hD hS [0] rfl (fun r u h => by rw [h.2]; simp only [List.map_cons, List.map_nil]) (fun r9 u H locs hpost hP hD hS => ?_)
    obtain ⟨hr9, rfl⟩ := hpost
    refine lv_as hr9 ?_
    have hP : va_P D vwCl [(h, .inr (7, [.int (1), .ref sc, .int (nI (ss)), .int (nI (ps.2)), .int (bI (ps.1 = true)), .int (rb), .int (rl), .ref nw, .ref tr, .ref lk, .ref di, .int (nI (ac9)), .ref kp, .ref ik, .ref lv])), (nw, .inl (cI, 151, .inl f)), (lk, .inl (cI, 151, .inl flk)), (lv, .inl (cI, 4, .inl fl)), (di, .inl (cI, 2114, .inl fd))] H := hP
    have hD : va_D A [(h, .inr (7, [.int (1), .ref sc, .int (nI (ss)), .int (nI (ps.2)), .int (bI (ps.1 = true)), .int (rb), .int (rl), .ref nw, .ref tr, .ref lk, .ref di, .int (nI (ac9)), .ref kp, .ref ik, .ref lv])), (nw, .inl (cI, 151, .inl f)), (lk, .inl (cI, 151, .inl flk)), (lv, .inl (cI, 4, .inl fl)), (di, .inl (cI, 2114, .inl fd))] := hD
    refine lv_as (show bI (0 < (1 : Int32)) = 1 from by decide) ?_
    refine lv_if_eq (tgt := 26) hx hb dX7_setPolicy_21 (by decide) (fun c21_2 => ?_) (fun c21_2 => ?_)
    · skip
      exact absurd c21_2 (by decide)
    · skip
      refine lv_iconst (v := 0) hx hb dX7_setPolicy_24 (by decide) ?_
      have hR9 : rg2R n 2 = 1 := by rw [rg2R, if_neg c10_1]
      have hP : va_P D vwCl [(h, .inr (7, [.int (rg2R n 2), .ref sc, .int (nI (ss)), .int (nI (ps.2)), .int (bI (ps.1 = true)), .int (rb), .int (rl), .ref nw, .ref tr, .ref lk, .ref di, .int (nI (if rg2R n 2 = 0 then acN ac9 else ac9)), .ref kp, .ref ik, .ref lv])), (nw, .inl (cI, 151, .inl f)), (lk, .inl (cI, 151, .inl flk)), (lv, .inl (cI, 4, .inl fl)), (di, .inl (cI, 2114, .inl fd))] H := by
        rw [show (nI (if rg2R n 2 = 0 then acN ac9 else ac9) : Int32) = nI (ac9) from (congrArg nI (if_neg (by rw [hR9]; decide)))]
        rw [show (rg2R n 2 : Int32) = 1 from hR9]
        exact hP
      have hP : va_P D vwCl [(h, .inr (7, [.int (rg2R n 2), .ref sc, .int (nI (ss)), .int (nI (ps.2)), .int (bI (ps.1 = true)), .int (rb), .int (rl), .ref nw, .ref tr, .ref lk, .ref di, .int (nI (if rg2R n 2 = 0 then acN ac9 else ac9)), .ref kp, .ref ik, .ref lv])), (nw, .inl (cI, 151, .inl (if rg2R n 2 = 0 then upd f 6 n else f))), (lk, .inl (cI, 151, .inl flk)), (lv, .inl (cI, 4, .inl fl)), (di, .inl (cI, 2114, .inl fd))] H := by
        rw [show (if rg2R n 2 = 0 then upd f 6 n else f : Nat → Int32) = f from (if_neg (by rw [hR9]; decide))]
        exact hP
      have hP : va_P D vwCl [(h, .inr (7, [.int (rg2R n 2), .ref sc, .int (nI (ss)), .int (nI (ps.2)), .int (bI (ps.1 = true)), .int (rb), .int (rl), .ref nw, .ref tr, .ref lk, .ref di, .int (nI (if rg2R n 2 = 0 then acN ac9 else ac9)), .ref kp, .ref ik, .ref lv])), (nw, .inl (cI, 151, .inl (if rg2R n 2 = 0 then upd f 6 n else f))), (lk, .inl (cI, 151, .inl flk)), (lv, .inl (cI, 4, .inl fl)), (di, .inl (cI, 2114, .inl (if rg2R n 2 = 0 then diN fd f ac9 else fd)))] H := by
        rw [show (if rg2R n 2 = 0 then diN fd f ac9 else fd : Nat → Int32) = fd from (if_neg (by rw [hR9]; decide))]
        exact hP
      exact gp_reti hX hr hlocks hS hP ⟨oRn hR9 (by decide), _, _, rfl⟩ dX7_setPolicy_25
  · skip
    have c10_1 := bI_t c10_1
    refine lv_iconst (v := 0) hx hb dX7_setPolicy_13 (by decide) ?_
    refine lv_goto (tgt := 18) hx hb dX7_setPolicy_14 (by decide) ?_
    refine gp_backi (gp_runV hX good7 i7 (c7_refused l D h rf 0 [.ref sc, .int (nI (ss)), .int (nI (ps.2)), .int (bI (ps.1 = true)), .int (rb), .int (rl), .ref nw, .ref tr, .ref lk, .ref di, .int (nI (ac9)), .ref kp, .ref ik, .ref lv]) q7_refused rfl (m7 117 rfl) (m7 118 rfl) (m7 119 rfl) ⟨Nat.le_of_ble_eq_true rfl, Nat.le_of_ble_eq_true rfl⟩ hK [] rfl hP hD [0] (by decide) rfl (ci := 7) (q0 := 0) rfl rfl rfl hl.1 rfl (Nat.le_of_ble_eq_true rfl) dX7_setPolicy_18 ⟨Nat.zero_le _, Nat.zero_le _⟩) hP hD hS [0] rfl (fun r u h => by rw [h.2]; simp only [List.map_cons, List.map_nil]) (fun r9 u H locs hpost hP hD hS => ?_)
    obtain ⟨hr9, rfl⟩ := hpost
    refine lv_as hr9 ?_
    have hP : va_P D vwCl [(h, .inr (7, [.int (0), .ref sc, .int (nI (ss)), .int (nI (ps.2)), .int (bI (ps.1 = true)), .int (rb), .int (rl), .ref nw, .ref tr, .ref lk, .ref di, .int (nI (ac9)), .ref kp, .ref ik, .ref lv])), (nw, .inl (cI, 151, .inl f)), (lk, .inl (cI, 151, .inl flk)), (lv, .inl (cI, 4, .inl fl)), (di, .inl (cI, 2114, .inl fd))] H := hP
    have hD : va_D A [(h, .inr (7, [.int (0), .ref sc, .int (nI (ss)), .int (nI (ps.2)), .int (bI (ps.1 = true)), .int (rb), .int (rl), .ref nw, .ref tr, .ref lk, .ref di, .int (nI (ac9)), .ref kp, .ref ik, .ref lv])), (nw, .inl (cI, 151, .inl f)), (lk, .inl (cI, 151, .inl flk)), (lv, .inl (cI, 4, .inl fl)), (di, .inl (cI, 2114, .inl fd))] := hD
    refine lv_as (show bI (0 < (0 : Int32)) = 0 from by decide) ?_
    refine lv_if_eq (tgt := 26) hx hb dX7_setPolicy_21 (by decide) (fun c21_3 => ?_) (fun c21_3 => ?_)
    · skip
      refine lv_aload_n hx hb dX7_setPolicy_26 rfl (lv_at hl 0 rfl) ?_
      refine gp_backv (gp_runV hX good7 i7 (c7_note l D cI cZ h sc nw tr lk di kp ik lv 0 rb rl ac9 ss ps f fd (by omega)) q7_note rfl (m7 191 rfl) (m7 192 rfl) (m7 193 rfl) ⟨Nat.le_of_ble_eq_true rfl, Nat.le_of_ble_eq_true rfl⟩ hK [0] rfl hP hD [0, 1, 4] (by decide) rfl (ci := 7) (q0 := 0) rfl rfl rfl hl.1 rfl (Nat.le_of_ble_eq_true rfl) dX7_setPolicy_27 ⟨Nat.zero_le _, Nat.zero_le _⟩) hP hD hS [0, 1, 4] rfl (fun u h => by rw [h]; simp only [List.map_cons, List.map_nil]) (fun u H locs hpost hP hD hS => ?_)
      subst hpost
      have hP : va_P D vwCl [(h, .inr (7, [.int (0), .ref sc, .int (nI (ss)), .int (nI (ps.2)), .int (bI (ps.1 = true)), .int (rb), .int (rl), .ref nw, .ref tr, .ref lk, .ref di, .int (nI (acN ac9)), .ref kp, .ref ik, .ref lv])), (nw, .inl (cI, 151, .inl f)), (lk, .inl (cI, 151, .inl flk)), (lv, .inl (cI, 4, .inl fl)), (di, .inl (cI, 2114, .inl (diN fd f ac9)))] H := hP
      have hD : va_D A [(h, .inr (7, [.int (0), .ref sc, .int (nI (ss)), .int (nI (ps.2)), .int (bI (ps.1 = true)), .int (rb), .int (rl), .ref nw, .ref tr, .ref lk, .ref di, .int (nI (acN ac9)), .ref kp, .ref ik, .ref lv])), (nw, .inl (cI, 151, .inl f)), (lk, .inl (cI, 151, .inl flk)), (lv, .inl (cI, 4, .inl fl)), (di, .inl (cI, 2114, .inl (diN fd f ac9)))] := hD
      refine lv_aload_n hx hb dX7_setPolicy_30 rfl (lv_at hl 0 rfl) ?_
      refine va_get (D := D) (ci := 7) (v := .ref nw) (C := RX7) (T := TX7) (N := 15) hx hb hts u7 hown hK hP 0 rfl rfl 7 (by decide) (hts _ (m7 5 rfl)) (fun _ h9 => h9) rfl dX7_setPolicy_31 ?_
      refine lv_bipush (v := 6) hx hb dX7_setPolicy_34 (by decide) ?_
      refine ra_iald (i := 6) hx hb hK hP 1 0 rfl rfl (by omega) (by decide) dX7_setPolicy_36 ?_
      refine lv_istore_n (lv' := [(2, .int (f (6))), (0, .ref h), (1, .int (n))]) hx hb dX7_setPolicy_37 rfl hl (by decide) rfl (fun ls hl => ?_)
      refine lv_aload_n hx hb dX7_setPolicy_38 rfl (lv_at hl 1 rfl) ?_
      refine va_get (D := D) (ci := 7) (v := .ref nw) (C := RX7) (T := TX7) (N := 15) hx hb hts u7 hown hK hP 0 rfl rfl 7 (by decide) (hts _ (m7 5 rfl)) (fun _ h9 => h9) rfl dX7_setPolicy_39 ?_
      refine lv_bipush (v := 6) hx hb dX7_setPolicy_42 (by decide) ?_
      refine lv_iload_n hx hb dX7_setPolicy_44 rfl (lv_at hl 2 rfl) ?_
      refine ra_iast (i := 6) hx hb hK hP hD hS 1 0 rfl rfl (by omega) (by decide) dX7_setPolicy_45 (fun H locs hP hD hS => ?_)
      have hP : va_P D vwCl [(h, .inr (7, [.int (0), .ref sc, .int (nI (ss)), .int (nI (ps.2)), .int (bI (ps.1 = true)), .int (rb), .int (rl), .ref nw, .ref tr, .ref lk, .ref di, .int (nI (acN ac9)), .ref kp, .ref ik, .ref lv])), (nw, .inl (cI, 151, .inl (upd f 6 n))), (lk, .inl (cI, 151, .inl flk)), (lv, .inl (cI, 4, .inl fl)), (di, .inl (cI, 2114, .inl (diN fd f ac9)))] H := hP
      have hD : va_D A [(h, .inr (7, [.int (0), .ref sc, .int (nI (ss)), .int (nI (ps.2)), .int (bI (ps.1 = true)), .int (rb), .int (rl), .ref nw, .ref tr, .ref lk, .ref di, .int (nI (acN ac9)), .ref kp, .ref ik, .ref lv])), (nw, .inl (cI, 151, .inl (upd f 6 n))), (lk, .inl (cI, 151, .inl flk)), (lv, .inl (cI, 4, .inl fl)), (di, .inl (cI, 2114, .inl (diN fd f ac9)))] := hD
      refine lv_iload_n hx hb dX7_setPolicy_46 rfl (lv_at hl 0 rfl) ?_
      have hR9 : rg2R n 2 = 0 := by rw [rg2R, if_pos c10_1]
      have hP : va_P D vwCl [(h, .inr (7, [.int (rg2R n 2), .ref sc, .int (nI (ss)), .int (nI (ps.2)), .int (bI (ps.1 = true)), .int (rb), .int (rl), .ref nw, .ref tr, .ref lk, .ref di, .int (nI (if rg2R n 2 = 0 then acN ac9 else ac9)), .ref kp, .ref ik, .ref lv])), (nw, .inl (cI, 151, .inl (upd f 6 n))), (lk, .inl (cI, 151, .inl flk)), (lv, .inl (cI, 4, .inl fl)), (di, .inl (cI, 2114, .inl (diN fd f ac9)))] H := by
        rw [show (nI (if rg2R n 2 = 0 then acN ac9 else ac9) : Int32) = nI (acN ac9) from (congrArg nI (if_pos hR9))]
        rw [show (rg2R n 2 : Int32) = 0 from hR9]
        exact hP
      have hP : va_P D vwCl [(h, .inr (7, [.int (rg2R n 2), .ref sc, .int (nI (ss)), .int (nI (ps.2)), .int (bI (ps.1 = true)), .int (rb), .int (rl), .ref nw, .ref tr, .ref lk, .ref di, .int (nI (if rg2R n 2 = 0 then acN ac9 else ac9)), .ref kp, .ref ik, .ref lv])), (nw, .inl (cI, 151, .inl (if rg2R n 2 = 0 then upd f 6 n else f))), (lk, .inl (cI, 151, .inl flk)), (lv, .inl (cI, 4, .inl fl)), (di, .inl (cI, 2114, .inl (diN fd f ac9)))] H := by
        rw [show (if rg2R n 2 = 0 then upd f 6 n else f : Nat → Int32) = upd f 6 n from (if_pos hR9)]
        exact hP
      have hP : va_P D vwCl [(h, .inr (7, [.int (rg2R n 2), .ref sc, .int (nI (ss)), .int (nI (ps.2)), .int (bI (ps.1 = true)), .int (rb), .int (rl), .ref nw, .ref tr, .ref lk, .ref di, .int (nI (if rg2R n 2 = 0 then acN ac9 else ac9)), .ref kp, .ref ik, .ref lv])), (nw, .inl (cI, 151, .inl (if rg2R n 2 = 0 then upd f 6 n else f))), (lk, .inl (cI, 151, .inl flk)), (lv, .inl (cI, 4, .inl fl)), (di, .inl (cI, 2114, .inl (if rg2R n 2 = 0 then diN fd f ac9 else fd)))] H := by
        rw [show (if rg2R n 2 = 0 then diN fd f ac9 else fd : Nat → Int32) = diN fd f ac9 from (if_pos hR9)]
        exact hP
      exact gp_reti hX hr hlocks hS hP ⟨oR0 hR9, _, _, rfl⟩ dX7_setPolicy_47
    · skip
      exact absurd c21_3 (by decide)
theorem dX7_undo_0 : decode cX7_undo 0 = .ok (.aload_n 0, 1) := by decide +kernel
theorem dX7_undo_1 : decode cX7_undo 1 = .ok (.aload_n 0, 1) := by decide +kernel
theorem dX7_undo_2 : decode cX7_undo 2 = .ok (.getfield 45, 3) := by decide +kernel
theorem dX7_undo_5 : decode cX7_undo 5 = .ok (.ifCond .ne 7, 3) := by decide +kernel
theorem dX7_undo_8 : decode cX7_undo 8 = .ok (.iconst 1, 1) := by decide +kernel
theorem dX7_undo_9 : decode cX7_undo 9 = .ok (.goto 4, 3) := by decide +kernel
theorem dX7_undo_12 : decode cX7_undo 12 = .ok (.iconst 0, 1) := by decide +kernel
theorem dX7_undo_13 : decode cX7_undo 13 = .ok (.invokevirtual 154, 3) := by decide +kernel
theorem dX7_undo_16 : decode cX7_undo 16 = .ok (.ifCond .eq 5, 3) := by decide +kernel
theorem dX7_undo_19 : decode cX7_undo 19 = .ok (.iconst 0, 1) := by decide +kernel
theorem dX7_undo_20 : decode cX7_undo 20 = .ok (.ireturn, 1) := by decide +kernel
theorem dX7_undo_21 : decode cX7_undo 21 = .ok (.aload_n 0, 1) := by decide +kernel
theorem dX7_undo_22 : decode cX7_undo 22 = .ok (.dup, 1) := by decide +kernel
theorem dX7_undo_23 : decode cX7_undo 23 = .ok (.getfield 45, 3) := by decide +kernel
theorem dX7_undo_26 : decode cX7_undo 26 = .ok (.iconst 1, 1) := by decide +kernel
theorem dX7_undo_27 : decode cX7_undo 27 = .ok (.isub, 1) := by decide +kernel
theorem dX7_undo_28 : decode cX7_undo 28 = .ok (.putfield 45, 3) := by decide +kernel
theorem dX7_undo_31 : decode cX7_undo 31 = .ok (.aload_n 0, 1) := by decide +kernel
theorem dX7_undo_32 : decode cX7_undo 32 = .ok (.getfield 22, 3) := by decide +kernel
theorem dX7_undo_35 : decode cX7_undo 35 = .ok (.sipush 151, 3) := by decide +kernel
theorem dX7_undo_38 : decode cX7_undo 38 = .ok (.aload_n 0, 1) := by decide +kernel
theorem dX7_undo_39 : decode cX7_undo 39 = .ok (.getfield 45, 3) := by decide +kernel
theorem dX7_undo_42 : decode cX7_undo 42 = .ok (.imul, 1) := by decide +kernel
theorem dX7_undo_43 : decode cX7_undo 43 = .ok (.aload_n 0, 1) := by decide +kernel
theorem dX7_undo_44 : decode cX7_undo 44 = .ok (.getfield 13, 3) := by decide +kernel
theorem dX7_undo_47 : decode cX7_undo 47 = .ok (.iconst 0, 1) := by decide +kernel
theorem dX7_undo_48 : decode cX7_undo 48 = .ok (.sipush 151, 3) := by decide +kernel
theorem dX7_undo_51 : decode cX7_undo 51 = .ok (.invokestatic 48, 3) := by decide +kernel
theorem dX7_undo_54 : decode cX7_undo 54 = .ok (.aload_n 0, 1) := by decide +kernel
theorem dX7_undo_55 : decode cX7_undo 55 = .ok (.getfield 45, 3) := by decide +kernel
theorem dX7_undo_58 : decode cX7_undo 58 = .ok (.ireturn, 1) := by decide +kernel
set_option maxHeartbeats 4000000 in
set_option maxRecDepth 100000 in
theorem c7_undo (l : Launch) (D : va_G) (cI cZ : ClassId) (h sc nw tr lk di kp ik lv : Nat) (rf rb rl : Int32) (ac9 : Nat) (ss : Nat) (ps : Bool × Nat) (f : Nat → Int32) (fd : Nat → Int32) (hac : ac9 ≤ 14)  : GPi l yX7_undo cX7_undo 1 .int W7 1 25 D [(h, .inr (7, [.int (rf), .ref sc, .int (nI (ss)), .int (nI (ps.2)), .int (bI (ps.1 = true)), .int (rb), .int (rl), .ref nw, .ref tr, .ref lk, .ref di, .int (nI (ac9)), .ref kp, .ref ik, .ref lv])), (nw, .inl (cI, 151, .inl f)), (di, .inl (cI, 2114, .inl fd))] [(cI, .int)] [.ref h] (fun (r9 : Int32) (u9 : va_W) => r9 = (if undR ac9 = 0 then nI (ac9 - 1) else 0) ∧ u9 = [(h, .inr (7, [.int (undR ac9), .ref sc, .int (nI (ss)), .int (nI (ps.2)), .int (bI (ps.1 = true)), .int (rb), .int (rl), .ref nw, .ref tr, .ref lk, .ref di, .int (nI (if undR ac9 = 0 then ac9 - 1 else ac9)), .ref kp, .ref ik, .ref lv])), (nw, .inl (cI, 151, .inl (if undR ac9 = 0 then rowA fd (ac9 - 1) else f))), (di, .inl (cI, 2114, .inl fd))]) := by
  refine gp_of RX7 (by decide) rfl (Nat.le_of_ble_eq_true rfl) ?_
  intro p e s m below meth c ls H hX hr hlocks hK hP hD hS hl
  generalize gp_A [(h, .inr (7, [.int (rf), .ref sc, .int (nI (ss)), .int (nI (ps.2)), .int (bI (ps.1 = true)), .int (rb), .int (rl), .ref nw, .ref tr, .ref lk, .ref di, .int (nI (ac9)), .ref kp, .ref ik, .ref lv])), (nw, .inl (cI, 151, .inl f)), (di, .inl (cI, 2114, .inl fd))] = A at hD hS ⊢
  have hx := hX.1
  have hb := hX.2.1
  have hown := hX.2.2.2.1
  have hts := hX.2.2.2.2
  have hl : lv_has ls 1 [(0, .ref h)] := hl
  refine lv_aload_n hx hb dX7_undo_0 rfl (lv_at hl 0 rfl) ?_
  refine lv_aload_n hx hb dX7_undo_1 rfl (lv_at hl 0 rfl) ?_
  refine va_get (D := D) (ci := 7) (v := .int (nI (ac9))) (C := RX7) (T := TX7) (N := 15) hx hb hts u7 hown hK hP 0 rfl rfl 11 (by decide) (hts _ (m7 19 rfl)) (fun _ h9 => h9) rfl dX7_undo_2 ?_
  refine lv_if_ne (tgt := 12) hx hb dX7_undo_5 (by decide) (fun c5_1 => ?_) (fun c5_1 => ?_)
  · skip
    have c5_1 := cn_ne (a := ac9) (b := 0) (by omega) (by omega) c5_1
    refine lv_iconst (v := 0) hx hb dX7_undo_12 (by decide) ?_
    refine gp_backi (gp_runV hX good7 i7 (c7_refused l D h rf 0 [.ref sc, .int (nI (ss)), .int (nI (ps.2)), .int (bI (ps.1 = true)), .int (rb), .int (rl), .ref nw, .ref tr, .ref lk, .ref di, .int (nI (ac9)), .ref kp, .ref ik, .ref lv]) q7_refused rfl (m7 117 rfl) (m7 118 rfl) (m7 119 rfl) ⟨Nat.le_of_ble_eq_true rfl, Nat.le_of_ble_eq_true rfl⟩ hK [] rfl hP hD [0] (by decide) rfl (ci := 7) (q0 := 0) rfl rfl rfl hl.1 rfl (Nat.le_of_ble_eq_true rfl) dX7_undo_13 ⟨Nat.zero_le _, Nat.zero_le _⟩) hP hD hS [0] rfl (fun r u h => by rw [h.2]; simp only [List.map_cons, List.map_nil]) (fun r9 u H locs hpost hP hD hS => ?_)
    obtain ⟨hr9, rfl⟩ := hpost
    refine lv_as hr9 ?_
    have hP : va_P D vwCl [(h, .inr (7, [.int (0), .ref sc, .int (nI (ss)), .int (nI (ps.2)), .int (bI (ps.1 = true)), .int (rb), .int (rl), .ref nw, .ref tr, .ref lk, .ref di, .int (nI (ac9)), .ref kp, .ref ik, .ref lv])), (nw, .inl (cI, 151, .inl f)), (di, .inl (cI, 2114, .inl fd))] H := hP
    have hD : va_D A [(h, .inr (7, [.int (0), .ref sc, .int (nI (ss)), .int (nI (ps.2)), .int (bI (ps.1 = true)), .int (rb), .int (rl), .ref nw, .ref tr, .ref lk, .ref di, .int (nI (ac9)), .ref kp, .ref ik, .ref lv])), (nw, .inl (cI, 151, .inl f)), (di, .inl (cI, 2114, .inl fd))] := hD
    refine lv_as (show bI (0 < (0 : Int32)) = 0 from by decide) ?_
    refine lv_if_eq (tgt := 21) hx hb dX7_undo_16 (by decide) (fun c16_2 => ?_) (fun c16_2 => ?_)
    · skip
      refine lv_aload_n hx hb dX7_undo_21 rfl (lv_at hl 0 rfl) ?_
      refine lv_dup hx hb dX7_undo_22 rfl ?_
      refine va_get (D := D) (ci := 7) (v := .int (nI (ac9))) (C := RX7) (T := TX7) (N := 15) hx hb hts u7 hown hK hP 0 rfl rfl 11 (by decide) (hts _ (m7 19 rfl)) (fun _ h9 => h9) rfl dX7_undo_23 ?_
      refine lv_iconst (v := 1) hx hb dX7_undo_26 (by decide) ?_
      refine lv_isub hx hb dX7_undo_27 ?_
      refine lv_as (y := nI (ac9 - 1)) (pk_sub (a := ac9) (b := 1) (by omega)) ?_
      refine va_put (D := D) (ci := 7) (v := .int (nI (ac9 - 1))) (ty := .int) (C := RX7) (T := TX7) (N := 15) hx hb hts u7 tyX7 tyX7_ok nmX7 hown hK hP hD hS 0 rfl rfl 11 (by decide) (hts _ (m7 19 rfl)) (fun _ h9 => h9) rfl (by decide +kernel) rfl rfl (Nat.le_of_ble_eq_true rfl) dX7_undo_28 (fun H locs hP hD hS => ?_)
      have hP : va_P D vwCl [(h, .inr (7, [.int (0), .ref sc, .int (nI (ss)), .int (nI (ps.2)), .int (bI (ps.1 = true)), .int (rb), .int (rl), .ref nw, .ref tr, .ref lk, .ref di, .int (nI (ac9 - 1)), .ref kp, .ref ik, .ref lv])), (nw, .inl (cI, 151, .inl f)), (di, .inl (cI, 2114, .inl fd))] H := hP
      have hD : va_D A [(h, .inr (7, [.int (0), .ref sc, .int (nI (ss)), .int (nI (ps.2)), .int (bI (ps.1 = true)), .int (rb), .int (rl), .ref nw, .ref tr, .ref lk, .ref di, .int (nI (ac9 - 1)), .ref kp, .ref ik, .ref lv])), (nw, .inl (cI, 151, .inl f)), (di, .inl (cI, 2114, .inl fd))] := hD
      refine lv_aload_n hx hb dX7_undo_31 rfl (lv_at hl 0 rfl) ?_
      refine va_get (D := D) (ci := 7) (v := .ref di) (C := RX7) (T := TX7) (N := 15) hx hb hts u7 hown hK hP 0 rfl rfl 10 (by decide) (hts _ (m7 8 rfl)) (fun _ h9 => h9) rfl dX7_undo_32 ?_
      refine lv_sipush (v := 151) hx hb dX7_undo_35 (by decide) ?_
      refine lv_aload_n hx hb dX7_undo_38 rfl (lv_at hl 0 rfl) ?_
      refine va_get (D := D) (ci := 7) (v := .int (nI (ac9 - 1))) (C := RX7) (T := TX7) (N := 15) hx hb hts u7 hown hK hP 0 rfl rfl 11 (by decide) (hts _ (m7 19 rfl)) (fun _ h9 => h9) rfl dX7_undo_39 ?_
      refine lv_imul hx hb dX7_undo_42 ?_
      refine lv_as (y := nI (151 * (ac9 - 1))) (pk_mul (151) (ac9 - 1)) ?_
      refine lv_aload_n hx hb dX7_undo_43 rfl (lv_at hl 0 rfl) ?_
      refine va_get (D := D) (ci := 7) (v := .ref nw) (C := RX7) (T := TX7) (N := 15) hx hb hts u7 hown hK hP 0 rfl rfl 7 (by decide) (hts _ (m7 5 rfl)) (fun _ h9 => h9) rfl dX7_undo_44 ?_
      refine lv_iconst (v := 0) hx hb dX7_undo_47 (by decide) ?_
      refine lv_sipush (v := 151) hx hb dX7_undo_48 (by decide) ?_
      refine gp_backv (gp_runS hX good7 i7 (c7_copy l D cI di nw 2114 151 fd f (151 * (ac9 - 1)) 0 151 (by omega) (by omega) (by omega) (by omega)) q7_copy rfl (m7 20 rfl) (m7 21 rfl) ⟨Nat.le_of_ble_eq_true rfl, Nat.le_of_ble_eq_true rfl⟩ hK [0] rfl hP hD [2, 1] (by decide) rfl hl.1 rfl (Nat.le_of_ble_eq_true rfl) dX7_undo_51 ⟨Nat.zero_le _, Nat.zero_le _⟩) hP hD hS [2, 1] rfl (fun u h => by rw [h]; simp only [List.map_cons, List.map_nil]) (fun u H locs hpost hP hD hS => ?_)
      subst hpost
      have hP : va_P D vwCl [(h, .inr (7, [.int (0), .ref sc, .int (nI (ss)), .int (nI (ps.2)), .int (bI (ps.1 = true)), .int (rb), .int (rl), .ref nw, .ref tr, .ref lk, .ref di, .int (nI (ac9 - 1)), .ref kp, .ref ik, .ref lv])), (nw, .inl (cI, 151, .inl (va_cpy fd f (151 * (ac9 - 1)) 0 151))), (di, .inl (cI, 2114, .inl fd))] H := hP
      have hD : va_D A [(h, .inr (7, [.int (0), .ref sc, .int (nI (ss)), .int (nI (ps.2)), .int (bI (ps.1 = true)), .int (rb), .int (rl), .ref nw, .ref tr, .ref lk, .ref di, .int (nI (ac9 - 1)), .ref kp, .ref ik, .ref lv])), (nw, .inl (cI, 151, .inl (va_cpy fd f (151 * (ac9 - 1)) 0 151))), (di, .inl (cI, 2114, .inl fd))] := hD
      have hP : va_P D vwCl [(h, .inr (7, [.int (0), .ref sc, .int (nI (ss)), .int (nI (ps.2)), .int (bI (ps.1 = true)), .int (rb), .int (rl), .ref nw, .ref tr, .ref lk, .ref di, .int (nI (ac9 - 1)), .ref kp, .ref ik, .ref lv])), (nw, .inl (cI, 151, .inl (rowA fd (ac9 - 1)))), (di, .inl (cI, 2114, .inl fd))] H := gp_cell (A := A) hP 1 rfl (fun k hk => rowA_c hk)
      have hD : va_D A [(h, .inr (7, [.int (0), .ref sc, .int (nI (ss)), .int (nI (ps.2)), .int (bI (ps.1 = true)), .int (rb), .int (rl), .ref nw, .ref tr, .ref lk, .ref di, .int (nI (ac9 - 1)), .ref kp, .ref ik, .ref lv])), (nw, .inl (cI, 151, .inl (rowA fd (ac9 - 1)))), (di, .inl (cI, 2114, .inl fd))] := gp_D hD (by simp only [List.map_cons, List.map_nil])
      refine lv_aload_n hx hb dX7_undo_54 rfl (lv_at hl 0 rfl) ?_
      refine va_get (D := D) (ci := 7) (v := .int (nI (ac9 - 1))) (C := RX7) (T := TX7) (N := 15) hx hb hts u7 hown hK hP 0 rfl rfl 11 (by decide) (hts _ (m7 19 rfl)) (fun _ h9 => h9) rfl dX7_undo_55 ?_
      have hR9 : undR ac9 = 0 := by rw [undR, if_neg c5_1]
      have hP : va_P D vwCl [(h, .inr (7, [.int (undR ac9), .ref sc, .int (nI (ss)), .int (nI (ps.2)), .int (bI (ps.1 = true)), .int (rb), .int (rl), .ref nw, .ref tr, .ref lk, .ref di, .int (nI (if undR ac9 = 0 then ac9 - 1 else ac9)), .ref kp, .ref ik, .ref lv])), (nw, .inl (cI, 151, .inl (rowA fd (ac9 - 1)))), (di, .inl (cI, 2114, .inl fd))] H := by
        rw [show (nI (if undR ac9 = 0 then ac9 - 1 else ac9) : Int32) = nI (ac9 - 1) from (congrArg nI (if_pos hR9))]
        rw [show (undR ac9 : Int32) = 0 from hR9]
        exact hP
      have hP : va_P D vwCl [(h, .inr (7, [.int (undR ac9), .ref sc, .int (nI (ss)), .int (nI (ps.2)), .int (bI (ps.1 = true)), .int (rb), .int (rl), .ref nw, .ref tr, .ref lk, .ref di, .int (nI (if undR ac9 = 0 then ac9 - 1 else ac9)), .ref kp, .ref ik, .ref lv])), (nw, .inl (cI, 151, .inl (if undR ac9 = 0 then rowA fd (ac9 - 1) else f))), (di, .inl (cI, 2114, .inl fd))] H := by
        rw [show (if undR ac9 = 0 then rowA fd (ac9 - 1) else f : Nat → Int32) = rowA fd (ac9 - 1) from (if_pos hR9)]
        exact hP
      exact gp_reti hX hr hlocks hS hP ⟨oR0 hR9, rfl⟩ dX7_undo_58
    · skip
      exact absurd c16_2 (by decide)
  · skip
    have c5_1 := cn_eq (a := ac9) (b := 0) (by omega) (by omega) c5_1
    refine lv_iconst (v := 1) hx hb dX7_undo_8 (by decide) ?_
    refine lv_goto (tgt := 13) hx hb dX7_undo_9 (by decide) ?_
    refine gp_backi (gp_runV hX good7 i7 (c7_refused l D h rf 1 [.ref sc, .int (nI (ss)), .int (nI (ps.2)), .int (bI (ps.1 = true)), .int (rb), .int (rl), .ref nw, .ref tr, .ref lk, .ref di, .int (nI (ac9)), .ref kp, .ref ik, .ref lv]) q7_refused rfl (m7 117 rfl) (m7 118 rfl) (m7 119 rfl) ⟨Nat.le_of_ble_eq_true rfl, Nat.le_of_ble_eq_true rfl⟩ hK [] rfl hP hD [0] (by decide) rfl (ci := 7) (q0 := 0) rfl rfl rfl hl.1 rfl (Nat.le_of_ble_eq_true rfl) dX7_undo_13 ⟨Nat.zero_le _, Nat.zero_le _⟩) hP hD hS [0] rfl (fun r u h => by rw [h.2]; simp only [List.map_cons, List.map_nil]) (fun r9 u H locs hpost hP hD hS => ?_)
    obtain ⟨hr9, rfl⟩ := hpost
    refine lv_as hr9 ?_
    have hP : va_P D vwCl [(h, .inr (7, [.int (1), .ref sc, .int (nI (ss)), .int (nI (ps.2)), .int (bI (ps.1 = true)), .int (rb), .int (rl), .ref nw, .ref tr, .ref lk, .ref di, .int (nI (ac9)), .ref kp, .ref ik, .ref lv])), (nw, .inl (cI, 151, .inl f)), (di, .inl (cI, 2114, .inl fd))] H := hP
    have hD : va_D A [(h, .inr (7, [.int (1), .ref sc, .int (nI (ss)), .int (nI (ps.2)), .int (bI (ps.1 = true)), .int (rb), .int (rl), .ref nw, .ref tr, .ref lk, .ref di, .int (nI (ac9)), .ref kp, .ref ik, .ref lv])), (nw, .inl (cI, 151, .inl f)), (di, .inl (cI, 2114, .inl fd))] := hD
    refine lv_as (show bI (0 < (1 : Int32)) = 1 from by decide) ?_
    refine lv_if_eq (tgt := 21) hx hb dX7_undo_16 (by decide) (fun c16_3 => ?_) (fun c16_3 => ?_)
    · skip
      exact absurd c16_3 (by decide)
    · skip
      refine lv_iconst (v := 0) hx hb dX7_undo_19 (by decide) ?_
      have hR9 : undR ac9 = 1 := by rw [undR, if_pos c5_1]
      have hP : va_P D vwCl [(h, .inr (7, [.int (undR ac9), .ref sc, .int (nI (ss)), .int (nI (ps.2)), .int (bI (ps.1 = true)), .int (rb), .int (rl), .ref nw, .ref tr, .ref lk, .ref di, .int (nI (if undR ac9 = 0 then ac9 - 1 else ac9)), .ref kp, .ref ik, .ref lv])), (nw, .inl (cI, 151, .inl f)), (di, .inl (cI, 2114, .inl fd))] H := by
        rw [show (nI (if undR ac9 = 0 then ac9 - 1 else ac9) : Int32) = nI (ac9) from (congrArg nI (if_neg (by rw [hR9]; decide)))]
        rw [show (undR ac9 : Int32) = 1 from hR9]
        exact hP
      have hP : va_P D vwCl [(h, .inr (7, [.int (undR ac9), .ref sc, .int (nI (ss)), .int (nI (ps.2)), .int (bI (ps.1 = true)), .int (rb), .int (rl), .ref nw, .ref tr, .ref lk, .ref di, .int (nI (if undR ac9 = 0 then ac9 - 1 else ac9)), .ref kp, .ref ik, .ref lv])), (nw, .inl (cI, 151, .inl (if undR ac9 = 0 then rowA fd (ac9 - 1) else f))), (di, .inl (cI, 2114, .inl fd))] H := by
        rw [show (if undR ac9 = 0 then rowA fd (ac9 - 1) else f : Nat → Int32) = f from (if_neg (by rw [hR9]; decide))]
        exact hP
      exact gp_reti hX hr hlocks hS hP ⟨oRn hR9 (by decide), rfl⟩ dX7_undo_20
theorem dX7_victim_0 : decode cX7_victim 0 = .ok (.aload_n 0, 1) := by decide +kernel
theorem dX7_victim_1 : decode cX7_victim 1 = .ok (.iconst 0, 1) := by decide +kernel
theorem dX7_victim_2 : decode cX7_victim 2 = .ok (.putfield 39, 3) := by decide +kernel
theorem dX7_victim_5 : decode cX7_victim 5 = .ok (.aload_n 0, 1) := by decide +kernel
theorem dX7_victim_6 : decode cX7_victim 6 = .ok (.getfield 13, 3) := by decide +kernel
theorem dX7_victim_9 : decode cX7_victim 9 = .ok (.invokestatic 109, 3) := by decide +kernel
theorem dX7_victim_12 : decode cX7_victim 12 = .ok (.ireturn, 1) := by decide +kernel
set_option maxHeartbeats 4000000 in
set_option maxRecDepth 100000 in
theorem c7_victim (l : Launch) (D : va_G) (cI cZ : ClassId) (h sc nw tr lk di kp ik lv : Nat) (rf rb rl : Int32) (ac9 : Nat) (ss : Nat) (ps : Bool × Nat) (f : Nat → Int32) (B : Nat) (hW : Wf f B)  : GPi l yX7_victim cX7_victim 1 .int W7 8 179 D [(h, .inr (7, [.int (rf), .ref sc, .int (nI (ss)), .int (nI (ps.2)), .int (bI (ps.1 = true)), .int (rb), .int (rl), .ref nw, .ref tr, .ref lk, .ref di, .int (nI (ac9)), .ref kp, .ref ik, .ref lv])), (nw, .inl (cI, 151, .inl f))] [(cI, .int)] [.ref h] (fun (r9 : Int32) (u9 : va_W) => r9 = (oI (vcm f B (opn f))) ∧ u9 = [(h, .inr (7, [.int (0), .ref sc, .int (nI (ss)), .int (nI (ps.2)), .int (bI (ps.1 = true)), .int (rb), .int (rl), .ref nw, .ref tr, .ref lk, .ref di, .int (nI (ac9)), .ref kp, .ref ik, .ref lv])), (nw, .inl (cI, 151, .inl f))]) := by
  refine gp_of RX7 (by decide) rfl (Nat.le_of_ble_eq_true rfl) ?_
  intro p e s m below meth c ls H hX hr hlocks hK hP hD hS hl
  generalize gp_A [(h, .inr (7, [.int (rf), .ref sc, .int (nI (ss)), .int (nI (ps.2)), .int (bI (ps.1 = true)), .int (rb), .int (rl), .ref nw, .ref tr, .ref lk, .ref di, .int (nI (ac9)), .ref kp, .ref ik, .ref lv])), (nw, .inl (cI, 151, .inl f))] = A at hD hS ⊢
  have hx := hX.1
  have hb := hX.2.1
  have hown := hX.2.2.2.1
  have hts := hX.2.2.2.2
  have hl : lv_has ls 1 [(0, .ref h)] := hl
  refine lv_aload_n hx hb dX7_victim_0 rfl (lv_at hl 0 rfl) ?_
  refine lv_iconst (v := 0) hx hb dX7_victim_1 (by decide) ?_
  refine va_put (D := D) (ci := 7) (v := .int (0)) (ty := .int) (C := RX7) (T := TX7) (N := 15) hx hb hts u7 tyX7 tyX7_ok nmX7 hown hK hP hD hS 0 rfl rfl 0 (by decide) (hts _ (m7 17 rfl)) (fun _ h9 => h9) rfl (by decide +kernel) rfl rfl (Nat.le_of_ble_eq_true rfl) dX7_victim_2 (fun H locs hP hD hS => ?_)
  have hP : va_P D vwCl [(h, .inr (7, [.int (0), .ref sc, .int (nI (ss)), .int (nI (ps.2)), .int (bI (ps.1 = true)), .int (rb), .int (rl), .ref nw, .ref tr, .ref lk, .ref di, .int (nI (ac9)), .ref kp, .ref ik, .ref lv])), (nw, .inl (cI, 151, .inl f))] H := hP
  have hD : va_D A [(h, .inr (7, [.int (0), .ref sc, .int (nI (ss)), .int (nI (ps.2)), .int (bI (ps.1 = true)), .int (rb), .int (rl), .ref nw, .ref tr, .ref lk, .ref di, .int (nI (ac9)), .ref kp, .ref ik, .ref lv])), (nw, .inl (cI, 151, .inl f))] := hD
  refine lv_aload_n hx hb dX7_victim_5 rfl (lv_at hl 0 rfl) ?_
  refine va_get (D := D) (ci := 7) (v := .ref nw) (C := RX7) (T := TX7) (N := 15) hx hb hts u7 hown hK hP 0 rfl rfl 7 (by decide) (hts _ (m7 5 rfl)) (fun _ h9 => h9) rfl dX7_victim_6 ?_
  refine rp_callS hX good7 i7 (c7_victimOf l D cI nw f B hW.1 hW.2.1 (opn f) hW.2.2.1 hW.2.2.2) q7_victimOf rfl (m7 74 rfl) (m7 75 rfl) ⟨Nat.le_of_ble_eq_true rfl, Nat.le_of_ble_eq_true rfl⟩ hK [0] rfl hP [1] rfl hS hl.1 rfl (Nat.le_of_ble_eq_true rfl) dX7_victim_9 ⟨Nat.zero_le _, Nat.zero_le _⟩ (fun H locs hP hS => ?_)
  exact gp_reti hX hr hlocks hS hP ⟨rfl, rfl⟩ dX7_victim_12
theorem dX7_whyNoRoom_0 : decode cX7_whyNoRoom 0 = .ok (.aload_n 0, 1) := by decide +kernel
theorem dX7_whyNoRoom_1 : decode cX7_whyNoRoom 1 = .ok (.iconst 0, 1) := by decide +kernel
theorem dX7_whyNoRoom_2 : decode cX7_whyNoRoom 2 = .ok (.putfield 39, 3) := by decide +kernel
theorem dX7_whyNoRoom_5 : decode cX7_whyNoRoom 5 = .ok (.aload_n 0, 1) := by decide +kernel
theorem dX7_whyNoRoom_6 : decode cX7_whyNoRoom 6 = .ok (.invokevirtual 242, 3) := by decide +kernel
theorem dX7_whyNoRoom_9 : decode cX7_whyNoRoom 9 = .ok (.ireturn, 1) := by decide +kernel
set_option maxHeartbeats 4000000 in
set_option maxRecDepth 100000 in
theorem c7_whyNoRoom (l : Launch) (D : va_G) (cI cZ : ClassId) (h sc nw tr lk di kp ik lv : Nat) (rf rb rl : Int32) (ac9 : Nat) (ss : Nat) (ps : Bool × Nat) (f : Nat → Int32) (B : Nat) (flk fl : Nat → Int32) (hO : Ok f B)  : GPi l yX7_whyNoRoom cX7_whyNoRoom 1 .int W7 12 269 D [(h, .inr (7, [.int (rf), .ref sc, .int (nI (ss)), .int (nI (ps.2)), .int (bI (ps.1 = true)), .int (rb), .int (rl), .ref nw, .ref tr, .ref lk, .ref di, .int (nI (ac9)), .ref kp, .ref ik, .ref lv])), (nw, .inl (cI, 151, .inl f)), (lk, .inl (cI, 151, .inl flk)), (lv, .inl (cI, 4, .inl fl))] [(cI, .int)] [.ref h] (fun (r9 : Int32) (u9 : va_W) => r9 = (rsn f B (lookT B f).1) ∧ ∃ fl9 : Nat → Int32, ∃ lk9 : Nat → Int32, u9 = [(h, .inr (7, [.int (0), .ref sc, .int (nI (ss)), .int (nI (ps.2)), .int (bI (ps.1 = true)), .int (rb), .int (rl), .ref nw, .ref tr, .ref lk, .ref di, .int (nI (ac9)), .ref kp, .ref ik, .ref lv])), (nw, .inl (cI, 151, .inl f)), (lk, .inl (cI, 151, .inl lk9)), (lv, .inl (cI, 4, .inl fl9))]) := by
  refine gp_of RX7 (by decide) rfl (Nat.le_of_ble_eq_true rfl) ?_
  intro p e s m below meth c ls H hX hr hlocks hK hP hD hS hl
  generalize gp_A [(h, .inr (7, [.int (rf), .ref sc, .int (nI (ss)), .int (nI (ps.2)), .int (bI (ps.1 = true)), .int (rb), .int (rl), .ref nw, .ref tr, .ref lk, .ref di, .int (nI (ac9)), .ref kp, .ref ik, .ref lv])), (nw, .inl (cI, 151, .inl f)), (lk, .inl (cI, 151, .inl flk)), (lv, .inl (cI, 4, .inl fl))] = A at hD hS ⊢
  have hx := hX.1
  have hb := hX.2.1
  have hown := hX.2.2.2.1
  have hts := hX.2.2.2.2
  have hl : lv_has ls 1 [(0, .ref h)] := hl
  have hB8 := hO.1.2.1
  refine lv_aload_n hx hb dX7_whyNoRoom_0 rfl (lv_at hl 0 rfl) ?_
  refine lv_iconst (v := 0) hx hb dX7_whyNoRoom_1 (by decide) ?_
  refine va_put (D := D) (ci := 7) (v := .int (0)) (ty := .int) (C := RX7) (T := TX7) (N := 15) hx hb hts u7 tyX7 tyX7_ok nmX7 hown hK hP hD hS 0 rfl rfl 0 (by decide) (hts _ (m7 17 rfl)) (fun _ h9 => h9) rfl (by decide +kernel) rfl rfl (Nat.le_of_ble_eq_true rfl) dX7_whyNoRoom_2 (fun H locs hP hD hS => ?_)
  have hP : va_P D vwCl [(h, .inr (7, [.int (0), .ref sc, .int (nI (ss)), .int (nI (ps.2)), .int (bI (ps.1 = true)), .int (rb), .int (rl), .ref nw, .ref tr, .ref lk, .ref di, .int (nI (ac9)), .ref kp, .ref ik, .ref lv])), (nw, .inl (cI, 151, .inl f)), (lk, .inl (cI, 151, .inl flk)), (lv, .inl (cI, 4, .inl fl))] H := hP
  have hD : va_D A [(h, .inr (7, [.int (0), .ref sc, .int (nI (ss)), .int (nI (ps.2)), .int (bI (ps.1 = true)), .int (rb), .int (rl), .ref nw, .ref tr, .ref lk, .ref di, .int (nI (ac9)), .ref kp, .ref ik, .ref lv])), (nw, .inl (cI, 151, .inl f)), (lk, .inl (cI, 151, .inl flk)), (lv, .inl (cI, 4, .inl fl))] := hD
  refine lv_aload_n hx hb dX7_whyNoRoom_5 rfl (lv_at hl 0 rfl) ?_
  refine gp_backi (gp_runV hX good7 i7 (c7_reason l D cI h lv lk nw [.int (0), .ref sc, .int (nI (ss)), .int (nI (ps.2)), .int (bI (ps.1 = true)), .int (rb), .int (rl), .ref nw, .ref tr, .ref lk, .ref di, .int (nI (ac9)), .ref kp, .ref ik, .ref lv] fl flk f B hO.1 rfl rfl 5000 (lookT B f).1 (lookT B f).2 (ok_look hO) rfl) q7_reason rfl (m7 196 rfl) (m7 197 rfl) (m7 198 rfl) ⟨Nat.le_of_ble_eq_true rfl, Nat.le_of_ble_eq_true rfl⟩ hK [0] rfl hP hD [0, 3, 2, 1] (by decide) rfl (ci := 7) (q0 := 0) rfl rfl rfl hl.1 rfl (Nat.le_of_ble_eq_true rfl) dX7_whyNoRoom_6 ⟨Nat.zero_le _, Nat.zero_le _⟩) hP hD hS [0, 3, 2, 1] rfl (fun r u h => by obtain ⟨-, x1, x2, rfl⟩ := h; simp only [List.map_cons, List.map_nil]) (fun r9 u H locs hpost hP hD hS => ?_)
  obtain ⟨hr9, x1, x2, rfl⟩ := hpost
  refine lv_as hr9 ?_
  have hP : va_P D vwCl [(h, .inr (7, [.int (0), .ref sc, .int (nI (ss)), .int (nI (ps.2)), .int (bI (ps.1 = true)), .int (rb), .int (rl), .ref nw, .ref tr, .ref lk, .ref di, .int (nI (ac9)), .ref kp, .ref ik, .ref lv])), (nw, .inl (cI, 151, .inl f)), (lk, .inl (cI, 151, .inl x2)), (lv, .inl (cI, 4, .inl x1))] H := hP
  have hD : va_D A [(h, .inr (7, [.int (0), .ref sc, .int (nI (ss)), .int (nI (ps.2)), .int (bI (ps.1 = true)), .int (rb), .int (rl), .ref nw, .ref tr, .ref lk, .ref di, .int (nI (ac9)), .ref kp, .ref ik, .ref lv])), (nw, .inl (cI, 151, .inl f)), (lk, .inl (cI, 151, .inl x2)), (lv, .inl (cI, 4, .inl x1))] := hD
  exact gp_reti hX hr hlocks hS hP ⟨rfl, _, _, rfl⟩ dX7_whyNoRoom_9
theorem dX7_operations_0 : decode cX7_operations 0 = .ok (.aload_n 0, 1) := by decide +kernel
theorem dX7_operations_1 : decode cX7_operations 1 = .ok (.aload_n 0, 1) := by decide +kernel
theorem dX7_operations_2 : decode cX7_operations 2 = .ok (.aload_n 0, 1) := by decide +kernel
theorem dX7_operations_3 : decode cX7_operations 3 = .ok (.getfield 13, 3) := by decide +kernel
theorem dX7_operations_6 : decode cX7_operations 6 = .ok (.invokevirtual 134, 3) := by decide +kernel
theorem dX7_operations_9 : decode cX7_operations 9 = .ok (.ifCond .eq 7, 3) := by decide +kernel
theorem dX7_operations_12 : decode cX7_operations 12 = .ok (.iconst 0, 1) := by decide +kernel
theorem dX7_operations_13 : decode cX7_operations 13 = .ok (.goto 4, 3) := by decide +kernel
theorem dX7_operations_16 : decode cX7_operations 16 = .ok (.iconst 1, 1) := by decide +kernel
theorem dX7_operations_17 : decode cX7_operations 17 = .ok (.invokevirtual 154, 3) := by decide +kernel
theorem dX7_operations_20 : decode cX7_operations 20 = .ok (.ifCond .eq 5, 3) := by decide +kernel
theorem dX7_operations_23 : decode cX7_operations 23 = .ok (.iconst 0, 1) := by decide +kernel
theorem dX7_operations_24 : decode cX7_operations 24 = .ok (.ireturn, 1) := by decide +kernel
theorem dX7_operations_25 : decode cX7_operations 25 = .ok (.aload_n 0, 1) := by decide +kernel
theorem dX7_operations_26 : decode cX7_operations 26 = .ok (.getfield 19, 3) := by decide +kernel
theorem dX7_operations_29 : decode cX7_operations 29 = .ok (.bipush 7, 2) := by decide +kernel
theorem dX7_operations_31 : decode cX7_operations 31 = .ok (.iaload, 1) := by decide +kernel
theorem dX7_operations_32 : decode cX7_operations 32 = .ok (.aload_n 0, 1) := by decide +kernel
theorem dX7_operations_33 : decode cX7_operations 33 = .ok (.getfield 13, 3) := by decide +kernel
theorem dX7_operations_36 : decode cX7_operations 36 = .ok (.bipush 7, 2) := by decide +kernel
theorem dX7_operations_38 : decode cX7_operations 38 = .ok (.iaload, 1) := by decide +kernel
theorem dX7_operations_39 : decode cX7_operations 39 = .ok (.isub, 1) := by decide +kernel
theorem dX7_operations_40 : decode cX7_operations 40 = .ok (.ireturn, 1) := by decide +kernel
set_option maxHeartbeats 4000000 in
set_option maxRecDepth 100000 in
theorem c7_operations (l : Launch) (D : va_G) (cI cZ : ClassId) (h sc nw tr lk di kp ik lv : Nat) (rf rb rl : Int32) (ac9 : Nat) (ss : Nat) (ps : Bool × Nat) (f : Nat → Int32) (B : Nat) (flk fl : Nat → Int32) (hO : Ok f B)  : GPi l yX7_operations cX7_operations 1 .int W7 12 269 D [(h, .inr (7, [.int (rf), .ref sc, .int (nI (ss)), .int (nI (ps.2)), .int (bI (ps.1 = true)), .int (rb), .int (rl), .ref nw, .ref tr, .ref lk, .ref di, .int (nI (ac9)), .ref kp, .ref ik, .ref lv])), (nw, .inl (cI, 151, .inl f)), (lk, .inl (cI, 151, .inl flk)), (lv, .inl (cI, 4, .inl fl))] [(cI, .int)] [.ref h] (fun (r9 : Int32) (u9 : va_W) => r9 = (if opsR f B = 0 then (lookT B f).2 7 - f 7 else 0) ∧ ∃ fl9 : Nat → Int32, ∃ lk9 : Nat → Int32, u9 = [(h, .inr (7, [.int (opsR f B), .ref sc, .int (nI (ss)), .int (nI (ps.2)), .int (bI (ps.1 = true)), .int (rb), .int (rl), .ref nw, .ref tr, .ref lk, .ref di, .int (nI (ac9)), .ref kp, .ref ik, .ref lv])), (nw, .inl (cI, 151, .inl f)), (lk, .inl (cI, 151, .inl lk9)), (lv, .inl (cI, 4, .inl fl9))]) := by
  refine gp_of RX7 (by decide) rfl (Nat.le_of_ble_eq_true rfl) ?_
  intro p e s m below meth c ls H hX hr hlocks hK hP hD hS hl
  generalize gp_A [(h, .inr (7, [.int (rf), .ref sc, .int (nI (ss)), .int (nI (ps.2)), .int (bI (ps.1 = true)), .int (rb), .int (rl), .ref nw, .ref tr, .ref lk, .ref di, .int (nI (ac9)), .ref kp, .ref ik, .ref lv])), (nw, .inl (cI, 151, .inl f)), (lk, .inl (cI, 151, .inl flk)), (lv, .inl (cI, 4, .inl fl))] = A at hD hS ⊢
  have hx := hX.1
  have hb := hX.2.1
  have hown := hX.2.2.2.1
  have hts := hX.2.2.2.2
  have hl : lv_has ls 1 [(0, .ref h)] := hl
  have hB8 := hO.1.2.1
  refine lv_aload_n hx hb dX7_operations_0 rfl (lv_at hl 0 rfl) ?_
  refine lv_aload_n hx hb dX7_operations_1 rfl (lv_at hl 0 rfl) ?_
  refine lv_aload_n hx hb dX7_operations_2 rfl (lv_at hl 0 rfl) ?_
  refine va_get (D := D) (ci := 7) (v := .ref nw) (C := RX7) (T := TX7) (N := 15) hx hb hts u7 hown hK hP 0 rfl rfl 7 (by decide) (hts _ (m7 5 rfl)) (fun _ h9 => h9) rfl dX7_operations_3 ?_
  refine gp_backi (gp_runV hX good7 i7 (c7_hasRoom l D cI h lv lk nw [.int (rf), .ref sc, .int (nI (ss)), .int (nI (ps.2)), .int (bI (ps.1 = true)), .int (rb), .int (rl), .ref nw, .ref tr, .ref lk, .ref di, .int (nI (ac9)), .ref kp, .ref ik, .ref lv] fl flk f B hO.1 rfl rfl 5000 (lookT B f).1 (lookT B f).2 (ok_look hO)) q7_hasRoom rfl (m7 101 rfl) (m7 102 rfl) (m7 103 rfl) ⟨Nat.le_of_ble_eq_true rfl, Nat.le_of_ble_eq_true rfl⟩ hK [0] rfl hP hD [0, 3, 2, 1] (by decide) rfl (ci := 7) (q0 := 0) rfl rfl rfl hl.1 rfl (Nat.le_of_ble_eq_true rfl) dX7_operations_6 ⟨Nat.zero_le _, Nat.zero_le _⟩) hP hD hS [0, 3, 2, 1] rfl (fun r u h => by obtain ⟨-, x1, rfl⟩ := h; simp only [List.map_cons, List.map_nil]) (fun r9 u H locs hpost hP hD hS => ?_)
  obtain ⟨hr9, x1, rfl⟩ := hpost
  refine lv_as hr9 ?_
  have hP : va_P D vwCl [(h, .inr (7, [.int (rf), .ref sc, .int (nI (ss)), .int (nI (ps.2)), .int (bI (ps.1 = true)), .int (rb), .int (rl), .ref nw, .ref tr, .ref lk, .ref di, .int (nI (ac9)), .ref kp, .ref ik, .ref lv])), (nw, .inl (cI, 151, .inl f)), (lk, .inl (cI, 151, .inl (if f 2 = 1 then ((lookT B f).2) else flk))), (lv, .inl (cI, 4, .inl x1))] H := hP
  have hD : va_D A [(h, .inr (7, [.int (rf), .ref sc, .int (nI (ss)), .int (nI (ps.2)), .int (bI (ps.1 = true)), .int (rb), .int (rl), .ref nw, .ref tr, .ref lk, .ref di, .int (nI (ac9)), .ref kp, .ref ik, .ref lv])), (nw, .inl (cI, 151, .inl f)), (lk, .inl (cI, 151, .inl (if f 2 = 1 then ((lookT B f).2) else flk))), (lv, .inl (cI, 4, .inl x1))] := hD
  refine lv_if_eq (tgt := 16) hx hb dX7_operations_9 (by decide) (fun c9_2 => ?_) (fun c9_2 => ?_)
  · skip
    have c9_2 := bI_f c9_2
    refine lv_iconst (v := 1) hx hb dX7_operations_16 (by decide) ?_
    refine gp_backi (gp_runV hX good7 i7 (c7_refused l D h rf 1 [.ref sc, .int (nI (ss)), .int (nI (ps.2)), .int (bI (ps.1 = true)), .int (rb), .int (rl), .ref nw, .ref tr, .ref lk, .ref di, .int (nI (ac9)), .ref kp, .ref ik, .ref lv]) q7_refused rfl (m7 117 rfl) (m7 118 rfl) (m7 119 rfl) ⟨Nat.le_of_ble_eq_true rfl, Nat.le_of_ble_eq_true rfl⟩ hK [] rfl hP hD [0] (by decide) rfl (ci := 7) (q0 := 0) rfl rfl rfl hl.1 rfl (Nat.le_of_ble_eq_true rfl) dX7_operations_17 ⟨Nat.zero_le _, Nat.zero_le _⟩) hP hD hS [0] rfl (fun r u h => by rw [h.2]; simp only [List.map_cons, List.map_nil]) (fun r9 u H locs hpost hP hD hS => ?_)
    obtain ⟨hr9, rfl⟩ := hpost
    refine lv_as hr9 ?_
    have hP : va_P D vwCl [(h, .inr (7, [.int (1), .ref sc, .int (nI (ss)), .int (nI (ps.2)), .int (bI (ps.1 = true)), .int (rb), .int (rl), .ref nw, .ref tr, .ref lk, .ref di, .int (nI (ac9)), .ref kp, .ref ik, .ref lv])), (nw, .inl (cI, 151, .inl f)), (lk, .inl (cI, 151, .inl (if f 2 = 1 then ((lookT B f).2) else flk))), (lv, .inl (cI, 4, .inl x1))] H := hP
    have hD : va_D A [(h, .inr (7, [.int (1), .ref sc, .int (nI (ss)), .int (nI (ps.2)), .int (bI (ps.1 = true)), .int (rb), .int (rl), .ref nw, .ref tr, .ref lk, .ref di, .int (nI (ac9)), .ref kp, .ref ik, .ref lv])), (nw, .inl (cI, 151, .inl f)), (lk, .inl (cI, 151, .inl (if f 2 = 1 then ((lookT B f).2) else flk))), (lv, .inl (cI, 4, .inl x1))] := hD
    refine lv_as (show bI (0 < (1 : Int32)) = 1 from by decide) ?_
    refine lv_if_eq (tgt := 25) hx hb dX7_operations_20 (by decide) (fun c20_3 => ?_) (fun c20_3 => ?_)
    · skip
      exact absurd c20_3 (by decide)
    · skip
      refine lv_iconst (v := 0) hx hb dX7_operations_23 (by decide) ?_
      have hR9 : opsR f B = 1 := by rw [opsR, if_neg c9_2]
      have hP : va_P D vwCl [(h, .inr (7, [.int (opsR f B), .ref sc, .int (nI (ss)), .int (nI (ps.2)), .int (bI (ps.1 = true)), .int (rb), .int (rl), .ref nw, .ref tr, .ref lk, .ref di, .int (nI (ac9)), .ref kp, .ref ik, .ref lv])), (nw, .inl (cI, 151, .inl f)), (lk, .inl (cI, 151, .inl (if f 2 = 1 then ((lookT B f).2) else flk))), (lv, .inl (cI, 4, .inl x1))] H := by
        rw [show (opsR f B : Int32) = 1 from hR9]
        exact hP
      exact gp_reti hX hr hlocks hS hP ⟨oRn hR9 (by decide), _, _, rfl⟩ dX7_operations_24
  · skip
    have c9_2 := bI_t c9_2
    refine lv_iconst (v := 0) hx hb dX7_operations_12 (by decide) ?_
    refine lv_goto (tgt := 17) hx hb dX7_operations_13 (by decide) ?_
    refine gp_backi (gp_runV hX good7 i7 (c7_refused l D h rf 0 [.ref sc, .int (nI (ss)), .int (nI (ps.2)), .int (bI (ps.1 = true)), .int (rb), .int (rl), .ref nw, .ref tr, .ref lk, .ref di, .int (nI (ac9)), .ref kp, .ref ik, .ref lv]) q7_refused rfl (m7 117 rfl) (m7 118 rfl) (m7 119 rfl) ⟨Nat.le_of_ble_eq_true rfl, Nat.le_of_ble_eq_true rfl⟩ hK [] rfl hP hD [0] (by decide) rfl (ci := 7) (q0 := 0) rfl rfl rfl hl.1 rfl (Nat.le_of_ble_eq_true rfl) dX7_operations_17 ⟨Nat.zero_le _, Nat.zero_le _⟩) hP hD hS [0] rfl (fun r u h => by rw [h.2]; simp only [List.map_cons, List.map_nil]) (fun r9 u H locs hpost hP hD hS => ?_)
    obtain ⟨hr9, rfl⟩ := hpost
    refine lv_as hr9 ?_
    have hP : va_P D vwCl [(h, .inr (7, [.int (0), .ref sc, .int (nI (ss)), .int (nI (ps.2)), .int (bI (ps.1 = true)), .int (rb), .int (rl), .ref nw, .ref tr, .ref lk, .ref di, .int (nI (ac9)), .ref kp, .ref ik, .ref lv])), (nw, .inl (cI, 151, .inl f)), (lk, .inl (cI, 151, .inl (if f 2 = 1 then ((lookT B f).2) else flk))), (lv, .inl (cI, 4, .inl x1))] H := hP
    have hD : va_D A [(h, .inr (7, [.int (0), .ref sc, .int (nI (ss)), .int (nI (ps.2)), .int (bI (ps.1 = true)), .int (rb), .int (rl), .ref nw, .ref tr, .ref lk, .ref di, .int (nI (ac9)), .ref kp, .ref ik, .ref lv])), (nw, .inl (cI, 151, .inl f)), (lk, .inl (cI, 151, .inl (if f 2 = 1 then ((lookT B f).2) else flk))), (lv, .inl (cI, 4, .inl x1))] := hD
    refine lv_as (show bI (0 < (0 : Int32)) = 0 from by decide) ?_
    refine lv_if_eq (tgt := 25) hx hb dX7_operations_20 (by decide) (fun c20_4 => ?_) (fun c20_4 => ?_)
    · skip
      refine lv_aload_n hx hb dX7_operations_25 rfl (lv_at hl 0 rfl) ?_
      refine va_get (D := D) (ci := 7) (v := .ref lk) (C := RX7) (T := TX7) (N := 15) hx hb hts u7 hown hK hP 0 rfl rfl 9 (by decide) (hts _ (m7 7 rfl)) (fun _ h9 => h9) rfl dX7_operations_26 ?_
      refine lv_bipush (v := 7) hx hb dX7_operations_29 (by decide) ?_
      refine ra_iald (i := 7) hx hb hK hP 2 0 rfl rfl (by omega) (by decide) dX7_operations_31 ?_
      refine lv_as (show (if f 2 = 1 then ((lookT B f).2) else flk) (7) = (lookT B f).2 7 from by rw [if_pos c9_2.1]) ?_
      refine lv_aload_n hx hb dX7_operations_32 rfl (lv_at hl 0 rfl) ?_
      refine va_get (D := D) (ci := 7) (v := .ref nw) (C := RX7) (T := TX7) (N := 15) hx hb hts u7 hown hK hP 0 rfl rfl 7 (by decide) (hts _ (m7 5 rfl)) (fun _ h9 => h9) rfl dX7_operations_33 ?_
      refine lv_bipush (v := 7) hx hb dX7_operations_36 (by decide) ?_
      refine ra_iald (i := 7) hx hb hK hP 1 0 rfl rfl (by omega) (by decide) dX7_operations_38 ?_
      refine lv_isub hx hb dX7_operations_39 ?_
      have hR9 : opsR f B = 0 := by rw [opsR, if_pos c9_2]
      have hP : va_P D vwCl [(h, .inr (7, [.int (opsR f B), .ref sc, .int (nI (ss)), .int (nI (ps.2)), .int (bI (ps.1 = true)), .int (rb), .int (rl), .ref nw, .ref tr, .ref lk, .ref di, .int (nI (ac9)), .ref kp, .ref ik, .ref lv])), (nw, .inl (cI, 151, .inl f)), (lk, .inl (cI, 151, .inl (if f 2 = 1 then ((lookT B f).2) else flk))), (lv, .inl (cI, 4, .inl x1))] H := by
        rw [show (opsR f B : Int32) = 0 from hR9]
        exact hP
      exact gp_reti hX hr hlocks hS hP ⟨oR0 hR9, _, _, rfl⟩ dX7_operations_40
    · skip
      exact absurd c20_4 (by decide)
