theorem dX7_isNext_0 : decode cX7_isNext 0 = .ok (.aload_n 0, 1) := by decide +kernel
theorem dX7_isNext_1 : decode cX7_isNext 1 = .ok (.getfield 158, 3) := by decide +kernel
theorem dX7_isNext_4 : decode cX7_isNext 4 = .ok (.aload_n 0, 1) := by decide +kernel
theorem dX7_isNext_5 : decode cX7_isNext 5 = .ok (.getfield 151, 3) := by decide +kernel
theorem dX7_isNext_8 : decode cX7_isNext 8 = .ok (.if_icmp .ge 20, 3) := by decide +kernel
theorem dX7_isNext_11 : decode cX7_isNext 11 = .ok (.aload_n 0, 1) := by decide +kernel
theorem dX7_isNext_12 : decode cX7_isNext 12 = .ok (.getfield 7, 3) := by decide +kernel
theorem dX7_isNext_15 : decode cX7_isNext 15 = .ok (.aload_n 0, 1) := by decide +kernel
theorem dX7_isNext_16 : decode cX7_isNext 16 = .ok (.getfield 158, 3) := by decide +kernel
theorem dX7_isNext_19 : decode cX7_isNext 19 = .ok (.iaload, 1) := by decide +kernel
theorem dX7_isNext_20 : decode cX7_isNext 20 = .ok (.iload_n 1, 1) := by decide +kernel
theorem dX7_isNext_21 : decode cX7_isNext 21 = .ok (.if_icmp .ne 7, 3) := by decide +kernel
theorem dX7_isNext_24 : decode cX7_isNext 24 = .ok (.iconst 1, 1) := by decide +kernel
theorem dX7_isNext_25 : decode cX7_isNext 25 = .ok (.goto 4, 3) := by decide +kernel
theorem dX7_isNext_28 : decode cX7_isNext 28 = .ok (.iconst 0, 1) := by decide +kernel
theorem dX7_isNext_29 : decode cX7_isNext 29 = .ok (.ireturn, 1) := by decide +kernel
theorem q7_isNext : CQ W7 yX7_isNext cX7_isNext 2 (some .boolean) 1 := ⟨(m7 135 rfl), by decide, by decide, by decide +kernel⟩
set_option maxHeartbeats 4000000 in
set_option maxRecDepth 100000 in
theorem c7_isNext (l : Launch) (D : va_G) (cI : ClassId) (h sc nw tr lk di kp ik lv : Nat) (rf rb rl : Int32) (ac9 : Nat) (t : Nat → Int32) (ss : Nat) (hss : ss ≤ 90) (ps : Bool × Nat) (hp : ps.2 ≤ ss) (c0 : Int32) : RP l yX7_isNext cX7_isNext 2 .boolean W7 0 0 D [(h, .inr (7, [.int (rf), .ref sc, .int (nI (ss)), .int (nI (ps.2)), .int (bI (ps.1 = true)), .int (rb), .int (rl), .ref nw, .ref tr, .ref lk, .ref di, .int (nI (ac9)), .ref kp, .ref ik, .ref lv])), (sc, .inl (cI, 90, .inl t))] [(cI, .int)] [.ref h, .int (c0)] (bI (nxtP t ss ps.2 c0)) := by
  refine rp_of RX7 (by decide) rfl (Nat.le_of_ble_eq_true rfl) ?_
  intro p e s m below meth c ls hX hr hlocks hK hP hS hl
  have hx := hX.1
  have hb := hX.2.1
  have hown := hX.2.2.2.1
  have hts := hX.2.2.2.2
  have hl : lv_has ls 2 [(0, .ref h), (1, .int (c0))] := hl
  refine lv_aload_n hx hb dX7_isNext_0 rfl (lv_at hl 0 rfl) ?_
  refine va_get (D := D) (ci := 7) (v := .int (nI (ps.2))) (C := RX7) (T := TX7) (N := 15) hx hb hts u7 hown hK hP 0 rfl rfl 3 (by decide) (hts _ (m7 121 rfl)) (fun _ h9 => h9) rfl dX7_isNext_1 ?_
  refine lv_aload_n hx hb dX7_isNext_4 rfl (lv_at hl 0 rfl) ?_
  refine va_get (D := D) (ci := 7) (v := .int (nI (ss))) (C := RX7) (T := TX7) (N := 15) hx hb hts u7 hown hK hP 0 rfl rfl 2 (by decide) (hts _ (m7 113 rfl)) (fun _ h9 => h9) rfl dX7_isNext_5 ?_
  refine lv_icmp_ge (tgt := 28) hx hb dX7_isNext_8 (by decide) (fun c8_1 => ?_) (fun c8_1 => ?_)
  · skip
    have c8_1 := cn_le (a := ss) (b := ps.2) (by omega) (by omega) c8_1
    refine lv_iconst (v := 0) hx hb dX7_isNext_28 (by decide) ?_
    exact rp_retz hX hr hlocks hS ((bI_0 (fun z => absurd z.1 (by omega))).symm) dX7_isNext_29
  · skip
    have c8_1 := cn_nle (a := ss) (b := ps.2) (by omega) (by omega) c8_1
    refine lv_aload_n hx hb dX7_isNext_11 rfl (lv_at hl 0 rfl) ?_
    refine va_get (D := D) (ci := 7) (v := .ref sc) (C := RX7) (T := TX7) (N := 15) hx hb hts u7 hown hK hP 0 rfl rfl 1 (by decide) (hts _ (m7 4 rfl)) (fun _ h9 => h9) rfl dX7_isNext_12 ?_
    refine lv_aload_n hx hb dX7_isNext_15 rfl (lv_at hl 0 rfl) ?_
    refine va_get (D := D) (ci := 7) (v := .int (nI (ps.2))) (C := RX7) (T := TX7) (N := 15) hx hb hts u7 hown hK hP 0 rfl rfl 3 (by decide) (hts _ (m7 121 rfl)) (fun _ h9 => h9) rfl dX7_isNext_16 ?_
    refine ra_iald (i := ps.2) hx hb hK hP 1 0 rfl rfl (by omega) (by decide) dX7_isNext_19 ?_
    refine lv_iload_n hx hb dX7_isNext_20 rfl (lv_at hl 1 rfl) ?_
    refine lv_icmp_ne (tgt := 28) hx hb dX7_isNext_21 (by decide) (fun c21_2 => ?_) (fun c21_2 => ?_)
    · skip
      refine lv_iconst (v := 0) hx hb dX7_isNext_28 (by decide) ?_
      exact rp_retz hX hr hlocks hS ((bI_0 (fun z => c21_2 z.2)).symm) dX7_isNext_29
    · skip
      refine lv_iconst (v := 1) hx hb dX7_isNext_24 (by decide) ?_
      refine lv_goto (tgt := 29) hx hb dX7_isNext_25 (by decide) ?_
      exact rp_retz hX hr hlocks hS ((bI_1 ⟨c8_1, c21_2⟩).symm) dX7_isNext_29
theorem dX7_accept_0 : decode cX7_accept 0 = .ok (.aload_n 0, 1) := by decide +kernel
theorem dX7_accept_1 : decode cX7_accept 1 = .ok (.aload_n 0, 1) := by decide +kernel
theorem dX7_accept_2 : decode cX7_accept 2 = .ok (.getfield 161, 3) := by decide +kernel
theorem dX7_accept_5 : decode cX7_accept 5 = .ok (.ifCond .eq 11, 3) := by decide +kernel
theorem dX7_accept_8 : decode cX7_accept 8 = .ok (.iload_n 1, 1) := by decide +kernel
theorem dX7_accept_9 : decode cX7_accept 9 = .ok (.ifCond .eq 7, 3) := by decide +kernel
theorem dX7_accept_12 : decode cX7_accept 12 = .ok (.iconst 1, 1) := by decide +kernel
theorem dX7_accept_13 : decode cX7_accept 13 = .ok (.goto 4, 3) := by decide +kernel
theorem dX7_accept_16 : decode cX7_accept 16 = .ok (.iconst 0, 1) := by decide +kernel
theorem dX7_accept_17 : decode cX7_accept 17 = .ok (.putfield 161, 3) := by decide +kernel
theorem dX7_accept_20 : decode cX7_accept 20 = .ok (.aload_n 0, 1) := by decide +kernel
theorem dX7_accept_21 : decode cX7_accept 21 = .ok (.dup, 1) := by decide +kernel
theorem dX7_accept_22 : decode cX7_accept 22 = .ok (.getfield 158, 3) := by decide +kernel
theorem dX7_accept_25 : decode cX7_accept 25 = .ok (.aload_n 0, 1) := by decide +kernel
theorem dX7_accept_26 : decode cX7_accept 26 = .ok (.getfield 161, 3) := by decide +kernel
theorem dX7_accept_29 : decode cX7_accept 29 = .ok (.ifCond .eq 7, 3) := by decide +kernel
theorem dX7_accept_32 : decode cX7_accept 32 = .ok (.iconst 1, 1) := by decide +kernel
theorem dX7_accept_33 : decode cX7_accept 33 = .ok (.goto 4, 3) := by decide +kernel
theorem dX7_accept_36 : decode cX7_accept 36 = .ok (.iconst 0, 1) := by decide +kernel
theorem dX7_accept_37 : decode cX7_accept 37 = .ok (.iadd, 1) := by decide +kernel
theorem dX7_accept_38 : decode cX7_accept 38 = .ok (.putfield 158, 3) := by decide +kernel
theorem dX7_accept_41 : decode cX7_accept 41 = .ok (.return_, 1) := by decide +kernel
theorem q7_accept : CQ W7 yX7_accept cX7_accept 2 none 1 := ⟨(m7 127 rfl), by decide, by decide, by decide +kernel⟩
set_option maxHeartbeats 4000000 in
set_option maxRecDepth 100000 in
theorem c7_accept (l : Launch) (D : va_G) (cI : ClassId) (h sc nw tr lk di kp ik lv : Nat) (rf rb rl : Int32) (ac9 : Nat) (t : Nat → Int32) (ss : Nat) (hss : ss ≤ 90) (ps : Bool × Nat) (hp : ps.2 ≤ ss) (is : Bool) : GPv l yX7_accept cX7_accept 2 W7 0 0 D [(h, .inr (7, [.int (rf), .ref sc, .int (nI (ss)), .int (nI (ps.2)), .int (bI (ps.1 = true)), .int (rb), .int (rl), .ref nw, .ref tr, .ref lk, .ref di, .int (nI (ac9)), .ref kp, .ref ik, .ref lv])), (sc, .inl (cI, 90, .inl t))] [(cI, .int)] [.ref h, .int (bI (is = true))] (fun u9 : va_W => u9 = [(h, .inr (7, [.int (rf), .ref sc, .int (nI (ss)), .int (nI ((ac ps is).2)), .int (bI ((ac ps is).1 = true)), .int (rb), .int (rl), .ref nw, .ref tr, .ref lk, .ref di, .int (nI (ac9)), .ref kp, .ref ik, .ref lv])), (sc, .inl (cI, 90, .inl t))]) := by
  refine gp_of RX7 (by decide) rfl (Nat.le_of_ble_eq_true rfl) ?_
  intro p e s m below meth c ls H hX hr hlocks hK hP hD hS hl
  generalize gp_A [(h, .inr (7, [.int (rf), .ref sc, .int (nI (ss)), .int (nI (ps.2)), .int (bI (ps.1 = true)), .int (rb), .int (rl), .ref nw, .ref tr, .ref lk, .ref di, .int (nI (ac9)), .ref kp, .ref ik, .ref lv])), (sc, .inl (cI, 90, .inl t))] = A at hD hS ⊢
  have hx := hX.1
  have hb := hX.2.1
  have hown := hX.2.2.2.1
  have hts := hX.2.2.2.2
  have hl : lv_has ls 2 [(0, .ref h), (1, .int (bI (is = true)))] := hl
  refine lv_aload_n hx hb dX7_accept_0 rfl (lv_at hl 0 rfl) ?_
  refine lv_aload_n hx hb dX7_accept_1 rfl (lv_at hl 0 rfl) ?_
  refine va_get (D := D) (ci := 7) (v := .int (bI (ps.1 = true))) (C := RX7) (T := TX7) (N := 15) hx hb hts u7 hown hK hP 0 rfl rfl 4 (by decide) (hts _ (m7 122 rfl)) (fun _ h9 => h9) rfl dX7_accept_2 ?_
  refine lv_if_eq (tgt := 16) hx hb dX7_accept_5 (by decide) (fun c5_1 => ?_) (fun c5_1 => ?_)
  · skip
    have c5_1 := bI_f c5_1
    refine lv_iconst (v := 0) hx hb dX7_accept_16 (by decide) ?_
    refine va_put (D := D) (ci := 7) (v := .int (0)) (ty := .boolean) (C := RX7) (T := TX7) (N := 15) hx hb hts u7 tyX7 tyX7_ok nmX7 hown hK hP hD hS 0 rfl rfl 4 (by decide) (hts _ (m7 122 rfl)) (fun _ h9 => h9) rfl (by decide +kernel) rfl rfl (Nat.le_of_ble_eq_true rfl) dX7_accept_17 (fun H locs hP hD hS => ?_)
    have hP : va_P D vwCl [(h, .inr (7, [.int (rf), .ref sc, .int (nI (ss)), .int (nI (ps.2)), .int (0), .int (rb), .int (rl), .ref nw, .ref tr, .ref lk, .ref di, .int (nI (ac9)), .ref kp, .ref ik, .ref lv])), (sc, .inl (cI, 90, .inl t))] H := hP
    have hD : va_D A [(h, .inr (7, [.int (rf), .ref sc, .int (nI (ss)), .int (nI (ps.2)), .int (0), .int (rb), .int (rl), .ref nw, .ref tr, .ref lk, .ref di, .int (nI (ac9)), .ref kp, .ref ik, .ref lv])), (sc, .inl (cI, 90, .inl t))] := hD
    refine lv_aload_n hx hb dX7_accept_20 rfl (lv_at hl 0 rfl) ?_
    refine lv_dup hx hb dX7_accept_21 rfl ?_
    refine va_get (D := D) (ci := 7) (v := .int (nI (ps.2))) (C := RX7) (T := TX7) (N := 15) hx hb hts u7 hown hK hP 0 rfl rfl 3 (by decide) (hts _ (m7 121 rfl)) (fun _ h9 => h9) rfl dX7_accept_22 ?_
    refine lv_aload_n hx hb dX7_accept_25 rfl (lv_at hl 0 rfl) ?_
    refine va_get (D := D) (ci := 7) (v := .int (0)) (C := RX7) (T := TX7) (N := 15) hx hb hts u7 hown hK hP 0 rfl rfl 4 (by decide) (hts _ (m7 122 rfl)) (fun _ h9 => h9) rfl dX7_accept_26 ?_
    refine lv_if_eq (tgt := 36) hx hb dX7_accept_29 (by decide) (fun c29_2 => ?_) (fun c29_2 => ?_)
    · skip
      refine lv_iconst (v := 0) hx hb dX7_accept_36 (by decide) ?_
      refine lv_iadd hx hb dX7_accept_37 ?_
      refine lv_as (y := nI (ps.2 + 0)) (nI_add (ps.2) (0)) ?_
      refine va_put (D := D) (ci := 7) (v := .int (nI (ps.2 + 0))) (ty := .int) (C := RX7) (T := TX7) (N := 15) hx hb hts u7 tyX7 tyX7_ok nmX7 hown hK hP hD hS 0 rfl rfl 3 (by decide) (hts _ (m7 121 rfl)) (fun _ h9 => h9) rfl (by decide +kernel) rfl rfl (Nat.le_of_ble_eq_true rfl) dX7_accept_38 (fun H locs hP hD hS => ?_)
      have hP : va_P D vwCl [(h, .inr (7, [.int (rf), .ref sc, .int (nI (ss)), .int (nI (ps.2 + 0)), .int (0), .int (rb), .int (rl), .ref nw, .ref tr, .ref lk, .ref di, .int (nI (ac9)), .ref kp, .ref ik, .ref lv])), (sc, .inl (cI, 90, .inl t))] H := hP
      have hD : va_D A [(h, .inr (7, [.int (rf), .ref sc, .int (nI (ss)), .int (nI (ps.2 + 0)), .int (0), .int (rb), .int (rl), .ref nw, .ref tr, .ref lk, .ref di, .int (nI (ac9)), .ref kp, .ref ik, .ref lv])), (sc, .inl (cI, 90, .inl t))] := hD
      have hP : va_P D vwCl [(h, .inr (7, [.int (rf), .ref sc, .int (nI (ss)), .int (nI ((ac ps is).2)), .int (bI ((ac ps is).1 = true)), .int (rb), .int (rl), .ref nw, .ref tr, .ref lk, .ref di, .int (nI (ac9)), .ref kp, .ref ik, .ref lv])), (sc, .inl (cI, 90, .inl t))] H := by
        rw [show (nI ((ac ps is).2) : Int32) = nI (ps.2 + 0) from by simp [ac, c5_1]]
        rw [show (bI ((ac ps is).1 = true) : Int32) = 0 from bI_0 (by simp [ac, c5_1])]
        exact hP
      exact gp_retv hX hr hlocks hS hP rfl dX7_accept_41
    · skip
      exact absurd c29_2 (by decide)
  · skip
    have c5_1 := bI_t c5_1
    refine lv_iload_n hx hb dX7_accept_8 rfl (lv_at hl 1 rfl) ?_
    refine lv_if_eq (tgt := 16) hx hb dX7_accept_9 (by decide) (fun c9_3 => ?_) (fun c9_3 => ?_)
    · skip
      have c9_3 := bI_f c9_3
      refine lv_iconst (v := 0) hx hb dX7_accept_16 (by decide) ?_
      refine va_put (D := D) (ci := 7) (v := .int (0)) (ty := .boolean) (C := RX7) (T := TX7) (N := 15) hx hb hts u7 tyX7 tyX7_ok nmX7 hown hK hP hD hS 0 rfl rfl 4 (by decide) (hts _ (m7 122 rfl)) (fun _ h9 => h9) rfl (by decide +kernel) rfl rfl (Nat.le_of_ble_eq_true rfl) dX7_accept_17 (fun H locs hP hD hS => ?_)
      have hP : va_P D vwCl [(h, .inr (7, [.int (rf), .ref sc, .int (nI (ss)), .int (nI (ps.2)), .int (0), .int (rb), .int (rl), .ref nw, .ref tr, .ref lk, .ref di, .int (nI (ac9)), .ref kp, .ref ik, .ref lv])), (sc, .inl (cI, 90, .inl t))] H := hP
      have hD : va_D A [(h, .inr (7, [.int (rf), .ref sc, .int (nI (ss)), .int (nI (ps.2)), .int (0), .int (rb), .int (rl), .ref nw, .ref tr, .ref lk, .ref di, .int (nI (ac9)), .ref kp, .ref ik, .ref lv])), (sc, .inl (cI, 90, .inl t))] := hD
      refine lv_aload_n hx hb dX7_accept_20 rfl (lv_at hl 0 rfl) ?_
      refine lv_dup hx hb dX7_accept_21 rfl ?_
      refine va_get (D := D) (ci := 7) (v := .int (nI (ps.2))) (C := RX7) (T := TX7) (N := 15) hx hb hts u7 hown hK hP 0 rfl rfl 3 (by decide) (hts _ (m7 121 rfl)) (fun _ h9 => h9) rfl dX7_accept_22 ?_
      refine lv_aload_n hx hb dX7_accept_25 rfl (lv_at hl 0 rfl) ?_
      refine va_get (D := D) (ci := 7) (v := .int (0)) (C := RX7) (T := TX7) (N := 15) hx hb hts u7 hown hK hP 0 rfl rfl 4 (by decide) (hts _ (m7 122 rfl)) (fun _ h9 => h9) rfl dX7_accept_26 ?_
      refine lv_if_eq (tgt := 36) hx hb dX7_accept_29 (by decide) (fun c29_4 => ?_) (fun c29_4 => ?_)
      · skip
        refine lv_iconst (v := 0) hx hb dX7_accept_36 (by decide) ?_
        refine lv_iadd hx hb dX7_accept_37 ?_
        refine lv_as (y := nI (ps.2 + 0)) (nI_add (ps.2) (0)) ?_
        refine va_put (D := D) (ci := 7) (v := .int (nI (ps.2 + 0))) (ty := .int) (C := RX7) (T := TX7) (N := 15) hx hb hts u7 tyX7 tyX7_ok nmX7 hown hK hP hD hS 0 rfl rfl 3 (by decide) (hts _ (m7 121 rfl)) (fun _ h9 => h9) rfl (by decide +kernel) rfl rfl (Nat.le_of_ble_eq_true rfl) dX7_accept_38 (fun H locs hP hD hS => ?_)
        have hP : va_P D vwCl [(h, .inr (7, [.int (rf), .ref sc, .int (nI (ss)), .int (nI (ps.2 + 0)), .int (0), .int (rb), .int (rl), .ref nw, .ref tr, .ref lk, .ref di, .int (nI (ac9)), .ref kp, .ref ik, .ref lv])), (sc, .inl (cI, 90, .inl t))] H := hP
        have hD : va_D A [(h, .inr (7, [.int (rf), .ref sc, .int (nI (ss)), .int (nI (ps.2 + 0)), .int (0), .int (rb), .int (rl), .ref nw, .ref tr, .ref lk, .ref di, .int (nI (ac9)), .ref kp, .ref ik, .ref lv])), (sc, .inl (cI, 90, .inl t))] := hD
        have hP : va_P D vwCl [(h, .inr (7, [.int (rf), .ref sc, .int (nI (ss)), .int (nI ((ac ps is).2)), .int (bI ((ac ps is).1 = true)), .int (rb), .int (rl), .ref nw, .ref tr, .ref lk, .ref di, .int (nI (ac9)), .ref kp, .ref ik, .ref lv])), (sc, .inl (cI, 90, .inl t))] H := by
          rw [show (nI ((ac ps is).2) : Int32) = nI (ps.2 + 0) from by simp [ac, c5_1, c9_3]]
          rw [show (bI ((ac ps is).1 = true) : Int32) = 0 from bI_0 (by simp [ac, c5_1, c9_3])]
          exact hP
        exact gp_retv hX hr hlocks hS hP rfl dX7_accept_41
      · skip
        exact absurd c29_4 (by decide)
    · skip
      have c9_3 := bI_t c9_3
      refine lv_iconst (v := 1) hx hb dX7_accept_12 (by decide) ?_
      refine lv_goto (tgt := 17) hx hb dX7_accept_13 (by decide) ?_
      refine va_put (D := D) (ci := 7) (v := .int (1)) (ty := .boolean) (C := RX7) (T := TX7) (N := 15) hx hb hts u7 tyX7 tyX7_ok nmX7 hown hK hP hD hS 0 rfl rfl 4 (by decide) (hts _ (m7 122 rfl)) (fun _ h9 => h9) rfl (by decide +kernel) rfl rfl (Nat.le_of_ble_eq_true rfl) dX7_accept_17 (fun H locs hP hD hS => ?_)
      have hP : va_P D vwCl [(h, .inr (7, [.int (rf), .ref sc, .int (nI (ss)), .int (nI (ps.2)), .int (1), .int (rb), .int (rl), .ref nw, .ref tr, .ref lk, .ref di, .int (nI (ac9)), .ref kp, .ref ik, .ref lv])), (sc, .inl (cI, 90, .inl t))] H := hP
      have hD : va_D A [(h, .inr (7, [.int (rf), .ref sc, .int (nI (ss)), .int (nI (ps.2)), .int (1), .int (rb), .int (rl), .ref nw, .ref tr, .ref lk, .ref di, .int (nI (ac9)), .ref kp, .ref ik, .ref lv])), (sc, .inl (cI, 90, .inl t))] := hD
      refine lv_aload_n hx hb dX7_accept_20 rfl (lv_at hl 0 rfl) ?_
      refine lv_dup hx hb dX7_accept_21 rfl ?_
      refine va_get (D := D) (ci := 7) (v := .int (nI (ps.2))) (C := RX7) (T := TX7) (N := 15) hx hb hts u7 hown hK hP 0 rfl rfl 3 (by decide) (hts _ (m7 121 rfl)) (fun _ h9 => h9) rfl dX7_accept_22 ?_
      refine lv_aload_n hx hb dX7_accept_25 rfl (lv_at hl 0 rfl) ?_
      refine va_get (D := D) (ci := 7) (v := .int (1)) (C := RX7) (T := TX7) (N := 15) hx hb hts u7 hown hK hP 0 rfl rfl 4 (by decide) (hts _ (m7 122 rfl)) (fun _ h9 => h9) rfl dX7_accept_26 ?_
      refine lv_if_eq (tgt := 36) hx hb dX7_accept_29 (by decide) (fun c29_5 => ?_) (fun c29_5 => ?_)
      · skip
        exact absurd c29_5 (by decide)
      · skip
        refine lv_iconst (v := 1) hx hb dX7_accept_32 (by decide) ?_
        refine lv_goto (tgt := 37) hx hb dX7_accept_33 (by decide) ?_
        refine lv_iadd hx hb dX7_accept_37 ?_
        refine lv_as (y := nI (ps.2 + 1)) (nI_add (ps.2) (1)) ?_
        refine va_put (D := D) (ci := 7) (v := .int (nI (ps.2 + 1))) (ty := .int) (C := RX7) (T := TX7) (N := 15) hx hb hts u7 tyX7 tyX7_ok nmX7 hown hK hP hD hS 0 rfl rfl 3 (by decide) (hts _ (m7 121 rfl)) (fun _ h9 => h9) rfl (by decide +kernel) rfl rfl (Nat.le_of_ble_eq_true rfl) dX7_accept_38 (fun H locs hP hD hS => ?_)
        have hP : va_P D vwCl [(h, .inr (7, [.int (rf), .ref sc, .int (nI (ss)), .int (nI (ps.2 + 1)), .int (1), .int (rb), .int (rl), .ref nw, .ref tr, .ref lk, .ref di, .int (nI (ac9)), .ref kp, .ref ik, .ref lv])), (sc, .inl (cI, 90, .inl t))] H := hP
        have hD : va_D A [(h, .inr (7, [.int (rf), .ref sc, .int (nI (ss)), .int (nI (ps.2 + 1)), .int (1), .int (rb), .int (rl), .ref nw, .ref tr, .ref lk, .ref di, .int (nI (ac9)), .ref kp, .ref ik, .ref lv])), (sc, .inl (cI, 90, .inl t))] := hD
        have hP : va_P D vwCl [(h, .inr (7, [.int (rf), .ref sc, .int (nI (ss)), .int (nI ((ac ps is).2)), .int (bI ((ac ps is).1 = true)), .int (rb), .int (rl), .ref nw, .ref tr, .ref lk, .ref di, .int (nI (ac9)), .ref kp, .ref ik, .ref lv])), (sc, .inl (cI, 90, .inl t))] H := by
          rw [show (nI ((ac ps is).2) : Int32) = nI (ps.2 + 1) from by simp [ac, c5_1, c9_3]]
          rw [show (bI ((ac ps is).1 = true) : Int32) = 1 from bI_1 (by simp [ac, c5_1, c9_3])]
          exact hP
        exact gp_retv hX hr hlocks hS hP rfl dX7_accept_41
theorem dX7_digit_0 : decode cX7_digit 0 = .ok (.aload_n 0, 1) := by decide +kernel
theorem dX7_digit_1 : decode cX7_digit 1 = .ok (.getfield 158, 3) := by decide +kernel
theorem dX7_digit_4 : decode cX7_digit 4 = .ok (.aload_n 0, 1) := by decide +kernel
theorem dX7_digit_5 : decode cX7_digit 5 = .ok (.getfield 151, 3) := by decide +kernel
theorem dX7_digit_8 : decode cX7_digit 8 = .ok (.if_icmp .ge 18, 3) := by decide +kernel
theorem dX7_digit_11 : decode cX7_digit 11 = .ok (.aload_n 0, 1) := by decide +kernel
theorem dX7_digit_12 : decode cX7_digit 12 = .ok (.getfield 7, 3) := by decide +kernel
theorem dX7_digit_15 : decode cX7_digit 15 = .ok (.aload_n 0, 1) := by decide +kernel
theorem dX7_digit_16 : decode cX7_digit 16 = .ok (.getfield 158, 3) := by decide +kernel
theorem dX7_digit_19 : decode cX7_digit 19 = .ok (.iaload, 1) := by decide +kernel
theorem dX7_digit_20 : decode cX7_digit 20 = .ok (.bipush 48, 2) := by decide +kernel
theorem dX7_digit_22 : decode cX7_digit 22 = .ok (.isub, 1) := by decide +kernel
theorem dX7_digit_23 : decode cX7_digit 23 = .ok (.goto 5, 3) := by decide +kernel
theorem dX7_digit_26 : decode cX7_digit 26 = .ok (.bipush (-9), 2) := by decide +kernel
theorem dX7_digit_28 : decode cX7_digit 28 = .ok (.istore_n 3, 1) := by decide +kernel
theorem dX7_digit_29 : decode cX7_digit 29 = .ok (.aload_n 0, 1) := by decide +kernel
theorem dX7_digit_30 : decode cX7_digit 30 = .ok (.iload_n 3, 1) := by decide +kernel
theorem dX7_digit_31 : decode cX7_digit 31 = .ok (.i2l, 1) := by decide +kernel
theorem dX7_digit_32 : decode cX7_digit 32 = .ok (.lconst 0, 1) := by decide +kernel
theorem dX7_digit_33 : decode cX7_digit 33 = .ok (.ldc2_w 165, 3) := by decide +kernel
theorem dX7_digit_36 : decode cX7_digit 36 = .ok (.invokestatic 147, 3) := by decide +kernel
theorem dX7_digit_39 : decode cX7_digit 39 = .ok (.ifCond .eq 19, 3) := by decide +kernel
theorem dX7_digit_42 : decode cX7_digit 42 = .ok (.iload_n 3, 1) := by decide +kernel
theorem dX7_digit_43 : decode cX7_digit 43 = .ok (.i2l, 1) := by decide +kernel
theorem dX7_digit_44 : decode cX7_digit 44 = .ok (.iload_n 1, 1) := by decide +kernel
theorem dX7_digit_45 : decode cX7_digit 45 = .ok (.i2l, 1) := by decide +kernel
theorem dX7_digit_46 : decode cX7_digit 46 = .ok (.iload_n 2, 1) := by decide +kernel
theorem dX7_digit_47 : decode cX7_digit 47 = .ok (.i2l, 1) := by decide +kernel
theorem dX7_digit_48 : decode cX7_digit 48 = .ok (.invokestatic 147, 3) := by decide +kernel
theorem dX7_digit_51 : decode cX7_digit 51 = .ok (.ifCond .eq 7, 3) := by decide +kernel
theorem dX7_digit_54 : decode cX7_digit 54 = .ok (.iconst 1, 1) := by decide +kernel
theorem dX7_digit_55 : decode cX7_digit 55 = .ok (.goto 4, 3) := by decide +kernel
theorem dX7_digit_58 : decode cX7_digit 58 = .ok (.iconst 0, 1) := by decide +kernel
theorem dX7_digit_59 : decode cX7_digit 59 = .ok (.invokevirtual 167, 3) := by decide +kernel
theorem dX7_digit_62 : decode cX7_digit 62 = .ok (.aload_n 0, 1) := by decide +kernel
theorem dX7_digit_63 : decode cX7_digit 63 = .ok (.getfield 161, 3) := by decide +kernel
theorem dX7_digit_66 : decode cX7_digit 66 = .ok (.ifCond .eq 7, 3) := by decide +kernel
theorem dX7_digit_69 : decode cX7_digit 69 = .ok (.iload_n 3, 1) := by decide +kernel
theorem dX7_digit_70 : decode cX7_digit 70 = .ok (.goto 4, 3) := by decide +kernel
theorem dX7_digit_73 : decode cX7_digit 73 = .ok (.iload_n 1, 1) := by decide +kernel
theorem dX7_digit_74 : decode cX7_digit 74 = .ok (.ireturn, 1) := by decide +kernel
theorem q7_digit : CQ W7 yX7_digit cX7_digit 4 (some .int) 2 := ⟨(m7 131 rfl), by decide, by decide, by decide +kernel⟩
set_option maxHeartbeats 4000000 in
set_option maxRecDepth 100000 in
theorem c7_digit (l : Launch) (D : va_G) (cI : ClassId) (h sc nw tr lk di kp ik lv : Nat) (rf rb rl : Int32) (ac9 : Nat) (t : Nat → Int32) (ss : Nat) (hss : ss ≤ 90) (ps : Bool × Nat) (hp : ps.2 ≤ ss) (a b : Int32) : GPi l yX7_digit cX7_digit 4 .int W7 1 25 D [(h, .inr (7, [.int (rf), .ref sc, .int (nI (ss)), .int (nI (ps.2)), .int (bI (ps.1 = true)), .int (rb), .int (rl), .ref nw, .ref tr, .ref lk, .ref di, .int (nI (ac9)), .ref kp, .ref ik, .ref lv])), (sc, .inl (cI, 90, .inl t))] [(cI, .int)] [.ref h, .int (a), .int (b)] (fun (r9 : Int32) (u9 : va_W) => r9 = (dv t ss ps a b) ∧ u9 = [(h, .inr (7, [.int (rf), .ref sc, .int (nI (ss)), .int (nI ((dg t ss ps a b).2)), .int (bI ((dg t ss ps a b).1 = true)), .int (rb), .int (rl), .ref nw, .ref tr, .ref lk, .ref di, .int (nI (ac9)), .ref kp, .ref ik, .ref lv])), (sc, .inl (cI, 90, .inl t))]) := by
  refine gp_of RX7 (by decide) rfl (Nat.le_of_ble_eq_true rfl) ?_
  intro p e s m below meth c ls H hX hr hlocks hK hP hD hS hl
  generalize gp_A [(h, .inr (7, [.int (rf), .ref sc, .int (nI (ss)), .int (nI (ps.2)), .int (bI (ps.1 = true)), .int (rb), .int (rl), .ref nw, .ref tr, .ref lk, .ref di, .int (nI (ac9)), .ref kp, .ref ik, .ref lv])), (sc, .inl (cI, 90, .inl t))] = A at hD hS ⊢
  have hx := hX.1
  have hb := hX.2.1
  have hown := hX.2.2.2.1
  have hts := hX.2.2.2.2
  have hl : lv_has ls 4 [(0, .ref h), (1, .int (a)), (2, .int (b))] := hl
  refine lv_aload_n hx hb dX7_digit_0 rfl (lv_at hl 0 rfl) ?_
  refine va_get (D := D) (ci := 7) (v := .int (nI (ps.2))) (C := RX7) (T := TX7) (N := 15) hx hb hts u7 hown hK hP 0 rfl rfl 3 (by decide) (hts _ (m7 121 rfl)) (fun _ h9 => h9) rfl dX7_digit_1 ?_
  refine lv_aload_n hx hb dX7_digit_4 rfl (lv_at hl 0 rfl) ?_
  refine va_get (D := D) (ci := 7) (v := .int (nI (ss))) (C := RX7) (T := TX7) (N := 15) hx hb hts u7 hown hK hP 0 rfl rfl 2 (by decide) (hts _ (m7 113 rfl)) (fun _ h9 => h9) rfl dX7_digit_5 ?_
  refine lv_icmp_ge (tgt := 26) hx hb dX7_digit_8 (by decide) (fun c8_1 => ?_) (fun c8_1 => ?_)
  · skip
    have c8_1 := cn_le (a := ss) (b := ps.2) (by omega) (by omega) c8_1
    refine lv_bipush (v := (-9)) hx hb dX7_digit_26 (by decide) ?_
    refine lv_as (show (-9 : Int32) = chv t ss ps.2 from (if_neg (by omega)).symm) ?_
    refine lv_istore_n (lv' := [(3, .int (chv t ss ps.2)), (0, .ref h), (1, .int (a)), (2, .int (b))]) hx hb dX7_digit_28 rfl hl (by decide) rfl (fun ls hl => ?_)
    refine lv_aload_n hx hb dX7_digit_29 rfl (lv_at hl 1 rfl) ?_
    refine lv_iload_n hx hb dX7_digit_30 rfl (lv_at hl 0 rfl) ?_
    refine lv_i2l (v := (chv t ss ps.2 : Int32).toInt64) hx hb dX7_digit_31 (rfl) ?_
    refine lv_lconst (v := 0) hx hb dX7_digit_32 (by decide) ?_
    refine lv_asl (show (0 : Int64) = (0 : Int32).toInt64 from by decide) ?_
    refine lv_ldc2 (v := 9) hx hb hown (hts _ (m7 123 rfl)) dX7_digit_33 ?_
    refine lv_asl (show (9 : Int64) = (9 : Int32).toInt64 from by decide) ?_
    refine rp_callS hX good7 i7 (c7_inI l D (chv t ss ps.2) 0 9) q7_in rfl (m7 114 rfl) (m7 115 rfl) ⟨Nat.le_of_ble_eq_true rfl, Nat.le_of_ble_eq_true rfl⟩ hK [] rfl hP [] rfl hS hl.1 rfl (Nat.le_of_ble_eq_true rfl) dX7_digit_36 ⟨Nat.zero_le _, Nat.zero_le _⟩ (fun H locs hP hS => ?_)
    refine lv_if_eq (tgt := 58) hx hb dX7_digit_39 (by decide) (fun c39_2 => ?_) (fun c39_2 => ?_)
    · skip
      have c39_2 := bI_f c39_2
      refine lv_iconst (v := 0) hx hb dX7_digit_58 (by decide) ?_
      refine lv_as (show (0 : Int32) = bI (decide (dgP t ss ps.2 a b) = true) from (bI_0 (fun z => c39_2 (of_decide_eq_true z).1)).symm) ?_
      refine gp_backv (gp_runV hX good7 i7 (c7_accept l D cI h sc nw tr lk di kp ik lv rf rb rl ac9 t ss hss ps (by omega) (decide (dgP t ss ps.2 a b))) q7_accept rfl (m7 124 rfl) (m7 125 rfl) (m7 126 rfl) ⟨Nat.le_of_ble_eq_true rfl, Nat.le_of_ble_eq_true rfl⟩ hK [0] rfl hP hD [0, 1] (by decide) rfl (ci := 7) (q0 := 0) rfl rfl rfl hl.1 rfl (Nat.le_of_ble_eq_true rfl) dX7_digit_59 ⟨Nat.zero_le _, Nat.zero_le _⟩) hP hD hS [0, 1] rfl (fun u h => by rw [h]; simp only [List.map_cons, List.map_nil]) (fun u H locs hpost hP hD hS => ?_)
      subst hpost
      have hP : va_P D vwCl [(h, .inr (7, [.int (rf), .ref sc, .int (nI (ss)), .int (nI ((ac ps (decide (dgP t ss ps.2 a b))).2)), .int (bI ((ac ps (decide (dgP t ss ps.2 a b))).1 = true)), .int (rb), .int (rl), .ref nw, .ref tr, .ref lk, .ref di, .int (nI (ac9)), .ref kp, .ref ik, .ref lv])), (sc, .inl (cI, 90, .inl t))] H := hP
      have hD : va_D A [(h, .inr (7, [.int (rf), .ref sc, .int (nI (ss)), .int (nI ((ac ps (decide (dgP t ss ps.2 a b))).2)), .int (bI ((ac ps (decide (dgP t ss ps.2 a b))).1 = true)), .int (rb), .int (rl), .ref nw, .ref tr, .ref lk, .ref di, .int (nI (ac9)), .ref kp, .ref ik, .ref lv])), (sc, .inl (cI, 90, .inl t))] := hD
      refine lv_aload_n hx hb dX7_digit_62 rfl (lv_at hl 1 rfl) ?_
      refine va_get (D := D) (ci := 7) (v := .int (bI ((ac ps (decide (dgP t ss ps.2 a b))).1 = true))) (C := RX7) (T := TX7) (N := 15) hx hb hts u7 hown hK hP 0 rfl rfl 4 (by decide) (hts _ (m7 122 rfl)) (fun _ h9 => h9) rfl dX7_digit_63 ?_
      refine lv_if_eq (tgt := 73) hx hb dX7_digit_66 (by decide) (fun c66_3 => ?_) (fun c66_3 => ?_)
      · skip
        have c66_3 := bI_f c66_3
        refine lv_iload_n hx hb dX7_digit_73 rfl (lv_at hl 2 rfl) ?_
        have hP : va_P D vwCl [(h, .inr (7, [.int (rf), .ref sc, .int (nI (ss)), .int (nI ((dg t ss ps a b).2)), .int (bI ((dg t ss ps a b).1 = true)), .int (rb), .int (rl), .ref nw, .ref tr, .ref lk, .ref di, .int (nI (ac9)), .ref kp, .ref ik, .ref lv])), (sc, .inl (cI, 90, .inl t))] H := by
          exact hP
        exact gp_reti hX hr hlocks hS hP ⟨(if_neg c66_3).symm, rfl⟩ dX7_digit_74
      · skip
        have c66_3 := bI_t c66_3
        refine lv_iload_n hx hb dX7_digit_69 rfl (lv_at hl 0 rfl) ?_
        refine lv_goto (tgt := 74) hx hb dX7_digit_70 (by decide) ?_
        have hP : va_P D vwCl [(h, .inr (7, [.int (rf), .ref sc, .int (nI (ss)), .int (nI ((dg t ss ps a b).2)), .int (bI ((dg t ss ps a b).1 = true)), .int (rb), .int (rl), .ref nw, .ref tr, .ref lk, .ref di, .int (nI (ac9)), .ref kp, .ref ik, .ref lv])), (sc, .inl (cI, 90, .inl t))] H := by
          exact hP
        exact gp_reti hX hr hlocks hS hP ⟨(if_pos c66_3).symm, rfl⟩ dX7_digit_74
    · skip
      have c39_2 := bI_t c39_2
      refine lv_iload_n hx hb dX7_digit_42 rfl (lv_at hl 0 rfl) ?_
      refine lv_i2l (v := (chv t ss ps.2 : Int32).toInt64) hx hb dX7_digit_43 (rfl) ?_
      refine lv_iload_n hx hb dX7_digit_44 rfl (lv_at hl 2 rfl) ?_
      refine lv_i2l (v := (a : Int32).toInt64) hx hb dX7_digit_45 (rfl) ?_
      refine lv_iload_n hx hb dX7_digit_46 rfl (lv_at hl 3 rfl) ?_
      refine lv_i2l (v := (b : Int32).toInt64) hx hb dX7_digit_47 (rfl) ?_
      refine rp_callS hX good7 i7 (c7_inI l D (chv t ss ps.2) a b) q7_in rfl (m7 114 rfl) (m7 115 rfl) ⟨Nat.le_of_ble_eq_true rfl, Nat.le_of_ble_eq_true rfl⟩ hK [] rfl hP [] rfl hS hl.1 rfl (Nat.le_of_ble_eq_true rfl) dX7_digit_48 ⟨Nat.zero_le _, Nat.zero_le _⟩ (fun H locs hP hS => ?_)
      refine lv_if_eq (tgt := 58) hx hb dX7_digit_51 (by decide) (fun c51_4 => ?_) (fun c51_4 => ?_)
      · skip
        have c51_4 := bI_f c51_4
        refine lv_iconst (v := 0) hx hb dX7_digit_58 (by decide) ?_
        refine lv_as (show (0 : Int32) = bI (decide (dgP t ss ps.2 a b) = true) from (bI_0 (fun z => c51_4 (of_decide_eq_true z).2)).symm) ?_
        refine gp_backv (gp_runV hX good7 i7 (c7_accept l D cI h sc nw tr lk di kp ik lv rf rb rl ac9 t ss hss ps (by omega) (decide (dgP t ss ps.2 a b))) q7_accept rfl (m7 124 rfl) (m7 125 rfl) (m7 126 rfl) ⟨Nat.le_of_ble_eq_true rfl, Nat.le_of_ble_eq_true rfl⟩ hK [0] rfl hP hD [0, 1] (by decide) rfl (ci := 7) (q0 := 0) rfl rfl rfl hl.1 rfl (Nat.le_of_ble_eq_true rfl) dX7_digit_59 ⟨Nat.zero_le _, Nat.zero_le _⟩) hP hD hS [0, 1] rfl (fun u h => by rw [h]; simp only [List.map_cons, List.map_nil]) (fun u H locs hpost hP hD hS => ?_)
        subst hpost
        have hP : va_P D vwCl [(h, .inr (7, [.int (rf), .ref sc, .int (nI (ss)), .int (nI ((ac ps (decide (dgP t ss ps.2 a b))).2)), .int (bI ((ac ps (decide (dgP t ss ps.2 a b))).1 = true)), .int (rb), .int (rl), .ref nw, .ref tr, .ref lk, .ref di, .int (nI (ac9)), .ref kp, .ref ik, .ref lv])), (sc, .inl (cI, 90, .inl t))] H := hP
        have hD : va_D A [(h, .inr (7, [.int (rf), .ref sc, .int (nI (ss)), .int (nI ((ac ps (decide (dgP t ss ps.2 a b))).2)), .int (bI ((ac ps (decide (dgP t ss ps.2 a b))).1 = true)), .int (rb), .int (rl), .ref nw, .ref tr, .ref lk, .ref di, .int (nI (ac9)), .ref kp, .ref ik, .ref lv])), (sc, .inl (cI, 90, .inl t))] := hD
        refine lv_aload_n hx hb dX7_digit_62 rfl (lv_at hl 1 rfl) ?_
        refine va_get (D := D) (ci := 7) (v := .int (bI ((ac ps (decide (dgP t ss ps.2 a b))).1 = true))) (C := RX7) (T := TX7) (N := 15) hx hb hts u7 hown hK hP 0 rfl rfl 4 (by decide) (hts _ (m7 122 rfl)) (fun _ h9 => h9) rfl dX7_digit_63 ?_
        refine lv_if_eq (tgt := 73) hx hb dX7_digit_66 (by decide) (fun c66_5 => ?_) (fun c66_5 => ?_)
        · skip
          have c66_5 := bI_f c66_5
          refine lv_iload_n hx hb dX7_digit_73 rfl (lv_at hl 2 rfl) ?_
          have hP : va_P D vwCl [(h, .inr (7, [.int (rf), .ref sc, .int (nI (ss)), .int (nI ((dg t ss ps a b).2)), .int (bI ((dg t ss ps a b).1 = true)), .int (rb), .int (rl), .ref nw, .ref tr, .ref lk, .ref di, .int (nI (ac9)), .ref kp, .ref ik, .ref lv])), (sc, .inl (cI, 90, .inl t))] H := by
            exact hP
          exact gp_reti hX hr hlocks hS hP ⟨(if_neg c66_5).symm, rfl⟩ dX7_digit_74
        · skip
          have c66_5 := bI_t c66_5
          refine lv_iload_n hx hb dX7_digit_69 rfl (lv_at hl 0 rfl) ?_
          refine lv_goto (tgt := 74) hx hb dX7_digit_70 (by decide) ?_
          have hP : va_P D vwCl [(h, .inr (7, [.int (rf), .ref sc, .int (nI (ss)), .int (nI ((dg t ss ps a b).2)), .int (bI ((dg t ss ps a b).1 = true)), .int (rb), .int (rl), .ref nw, .ref tr, .ref lk, .ref di, .int (nI (ac9)), .ref kp, .ref ik, .ref lv])), (sc, .inl (cI, 90, .inl t))] H := by
            exact hP
          exact gp_reti hX hr hlocks hS hP ⟨(if_pos c66_5).symm, rfl⟩ dX7_digit_74
      · skip
        have c51_4 := bI_t c51_4
        refine lv_iconst (v := 1) hx hb dX7_digit_54 (by decide) ?_
        refine lv_goto (tgt := 59) hx hb dX7_digit_55 (by decide) ?_
        refine lv_as (show (1 : Int32) = bI (decide (dgP t ss ps.2 a b) = true) from (bI_1 (decide_eq_true (⟨c39_2, c51_4⟩ : dgP t ss ps.2 a b))).symm) ?_
        refine gp_backv (gp_runV hX good7 i7 (c7_accept l D cI h sc nw tr lk di kp ik lv rf rb rl ac9 t ss hss ps (by omega) (decide (dgP t ss ps.2 a b))) q7_accept rfl (m7 124 rfl) (m7 125 rfl) (m7 126 rfl) ⟨Nat.le_of_ble_eq_true rfl, Nat.le_of_ble_eq_true rfl⟩ hK [0] rfl hP hD [0, 1] (by decide) rfl (ci := 7) (q0 := 0) rfl rfl rfl hl.1 rfl (Nat.le_of_ble_eq_true rfl) dX7_digit_59 ⟨Nat.zero_le _, Nat.zero_le _⟩) hP hD hS [0, 1] rfl (fun u h => by rw [h]; simp only [List.map_cons, List.map_nil]) (fun u H locs hpost hP hD hS => ?_)
        subst hpost
        have hP : va_P D vwCl [(h, .inr (7, [.int (rf), .ref sc, .int (nI (ss)), .int (nI ((ac ps (decide (dgP t ss ps.2 a b))).2)), .int (bI ((ac ps (decide (dgP t ss ps.2 a b))).1 = true)), .int (rb), .int (rl), .ref nw, .ref tr, .ref lk, .ref di, .int (nI (ac9)), .ref kp, .ref ik, .ref lv])), (sc, .inl (cI, 90, .inl t))] H := hP
        have hD : va_D A [(h, .inr (7, [.int (rf), .ref sc, .int (nI (ss)), .int (nI ((ac ps (decide (dgP t ss ps.2 a b))).2)), .int (bI ((ac ps (decide (dgP t ss ps.2 a b))).1 = true)), .int (rb), .int (rl), .ref nw, .ref tr, .ref lk, .ref di, .int (nI (ac9)), .ref kp, .ref ik, .ref lv])), (sc, .inl (cI, 90, .inl t))] := hD
        refine lv_aload_n hx hb dX7_digit_62 rfl (lv_at hl 1 rfl) ?_
        refine va_get (D := D) (ci := 7) (v := .int (bI ((ac ps (decide (dgP t ss ps.2 a b))).1 = true))) (C := RX7) (T := TX7) (N := 15) hx hb hts u7 hown hK hP 0 rfl rfl 4 (by decide) (hts _ (m7 122 rfl)) (fun _ h9 => h9) rfl dX7_digit_63 ?_
        refine lv_if_eq (tgt := 73) hx hb dX7_digit_66 (by decide) (fun c66_6 => ?_) (fun c66_6 => ?_)
        · skip
          have c66_6 := bI_f c66_6
          refine lv_iload_n hx hb dX7_digit_73 rfl (lv_at hl 2 rfl) ?_
          have hP : va_P D vwCl [(h, .inr (7, [.int (rf), .ref sc, .int (nI (ss)), .int (nI ((dg t ss ps a b).2)), .int (bI ((dg t ss ps a b).1 = true)), .int (rb), .int (rl), .ref nw, .ref tr, .ref lk, .ref di, .int (nI (ac9)), .ref kp, .ref ik, .ref lv])), (sc, .inl (cI, 90, .inl t))] H := by
            exact hP
          exact gp_reti hX hr hlocks hS hP ⟨(if_neg c66_6).symm, rfl⟩ dX7_digit_74
        · skip
          have c66_6 := bI_t c66_6
          refine lv_iload_n hx hb dX7_digit_69 rfl (lv_at hl 0 rfl) ?_
          refine lv_goto (tgt := 74) hx hb dX7_digit_70 (by decide) ?_
          have hP : va_P D vwCl [(h, .inr (7, [.int (rf), .ref sc, .int (nI (ss)), .int (nI ((dg t ss ps a b).2)), .int (bI ((dg t ss ps a b).1 = true)), .int (rb), .int (rl), .ref nw, .ref tr, .ref lk, .ref di, .int (nI (ac9)), .ref kp, .ref ik, .ref lv])), (sc, .inl (cI, 90, .inl t))] H := by
            exact hP
          exact gp_reti hX hr hlocks hS hP ⟨(if_pos c66_6).symm, rfl⟩ dX7_digit_74
  · skip
    have c8_1 := cn_nle (a := ss) (b := ps.2) (by omega) (by omega) c8_1
    refine lv_aload_n hx hb dX7_digit_11 rfl (lv_at hl 0 rfl) ?_
    refine va_get (D := D) (ci := 7) (v := .ref sc) (C := RX7) (T := TX7) (N := 15) hx hb hts u7 hown hK hP 0 rfl rfl 1 (by decide) (hts _ (m7 4 rfl)) (fun _ h9 => h9) rfl dX7_digit_12 ?_
    refine lv_aload_n hx hb dX7_digit_15 rfl (lv_at hl 0 rfl) ?_
    refine va_get (D := D) (ci := 7) (v := .int (nI (ps.2))) (C := RX7) (T := TX7) (N := 15) hx hb hts u7 hown hK hP 0 rfl rfl 3 (by decide) (hts _ (m7 121 rfl)) (fun _ h9 => h9) rfl dX7_digit_16 ?_
    refine ra_iald (i := ps.2) hx hb hK hP 1 0 rfl rfl (by omega) (by decide) dX7_digit_19 ?_
    refine lv_bipush (v := 48) hx hb dX7_digit_20 (by decide) ?_
    refine lv_isub hx hb dX7_digit_22 ?_
    refine lv_as (show (t (ps.2)) - 48 = chv t ss ps.2 from (if_pos c8_1).symm) ?_
    refine lv_goto (tgt := 28) hx hb dX7_digit_23 (by decide) ?_
    refine lv_istore_n (lv' := [(3, .int (chv t ss ps.2)), (0, .ref h), (1, .int (a)), (2, .int (b))]) hx hb dX7_digit_28 rfl hl (by decide) rfl (fun ls hl => ?_)
    refine lv_aload_n hx hb dX7_digit_29 rfl (lv_at hl 1 rfl) ?_
    refine lv_iload_n hx hb dX7_digit_30 rfl (lv_at hl 0 rfl) ?_
    refine lv_i2l (v := (chv t ss ps.2 : Int32).toInt64) hx hb dX7_digit_31 (rfl) ?_
    refine lv_lconst (v := 0) hx hb dX7_digit_32 (by decide) ?_
    refine lv_asl (show (0 : Int64) = (0 : Int32).toInt64 from by decide) ?_
    refine lv_ldc2 (v := 9) hx hb hown (hts _ (m7 123 rfl)) dX7_digit_33 ?_
    refine lv_asl (show (9 : Int64) = (9 : Int32).toInt64 from by decide) ?_
    refine rp_callS hX good7 i7 (c7_inI l D (chv t ss ps.2) 0 9) q7_in rfl (m7 114 rfl) (m7 115 rfl) ⟨Nat.le_of_ble_eq_true rfl, Nat.le_of_ble_eq_true rfl⟩ hK [] rfl hP [] rfl hS hl.1 rfl (Nat.le_of_ble_eq_true rfl) dX7_digit_36 ⟨Nat.zero_le _, Nat.zero_le _⟩ (fun H locs hP hS => ?_)
    refine lv_if_eq (tgt := 58) hx hb dX7_digit_39 (by decide) (fun c39_7 => ?_) (fun c39_7 => ?_)
    · skip
      have c39_7 := bI_f c39_7
      refine lv_iconst (v := 0) hx hb dX7_digit_58 (by decide) ?_
      refine lv_as (show (0 : Int32) = bI (decide (dgP t ss ps.2 a b) = true) from (bI_0 (fun z => c39_7 (of_decide_eq_true z).1)).symm) ?_
      refine gp_backv (gp_runV hX good7 i7 (c7_accept l D cI h sc nw tr lk di kp ik lv rf rb rl ac9 t ss hss ps (by omega) (decide (dgP t ss ps.2 a b))) q7_accept rfl (m7 124 rfl) (m7 125 rfl) (m7 126 rfl) ⟨Nat.le_of_ble_eq_true rfl, Nat.le_of_ble_eq_true rfl⟩ hK [0] rfl hP hD [0, 1] (by decide) rfl (ci := 7) (q0 := 0) rfl rfl rfl hl.1 rfl (Nat.le_of_ble_eq_true rfl) dX7_digit_59 ⟨Nat.zero_le _, Nat.zero_le _⟩) hP hD hS [0, 1] rfl (fun u h => by rw [h]; simp only [List.map_cons, List.map_nil]) (fun u H locs hpost hP hD hS => ?_)
      subst hpost
      have hP : va_P D vwCl [(h, .inr (7, [.int (rf), .ref sc, .int (nI (ss)), .int (nI ((ac ps (decide (dgP t ss ps.2 a b))).2)), .int (bI ((ac ps (decide (dgP t ss ps.2 a b))).1 = true)), .int (rb), .int (rl), .ref nw, .ref tr, .ref lk, .ref di, .int (nI (ac9)), .ref kp, .ref ik, .ref lv])), (sc, .inl (cI, 90, .inl t))] H := hP
      have hD : va_D A [(h, .inr (7, [.int (rf), .ref sc, .int (nI (ss)), .int (nI ((ac ps (decide (dgP t ss ps.2 a b))).2)), .int (bI ((ac ps (decide (dgP t ss ps.2 a b))).1 = true)), .int (rb), .int (rl), .ref nw, .ref tr, .ref lk, .ref di, .int (nI (ac9)), .ref kp, .ref ik, .ref lv])), (sc, .inl (cI, 90, .inl t))] := hD
      refine lv_aload_n hx hb dX7_digit_62 rfl (lv_at hl 1 rfl) ?_
      refine va_get (D := D) (ci := 7) (v := .int (bI ((ac ps (decide (dgP t ss ps.2 a b))).1 = true))) (C := RX7) (T := TX7) (N := 15) hx hb hts u7 hown hK hP 0 rfl rfl 4 (by decide) (hts _ (m7 122 rfl)) (fun _ h9 => h9) rfl dX7_digit_63 ?_
      refine lv_if_eq (tgt := 73) hx hb dX7_digit_66 (by decide) (fun c66_8 => ?_) (fun c66_8 => ?_)
      · skip
        have c66_8 := bI_f c66_8
        refine lv_iload_n hx hb dX7_digit_73 rfl (lv_at hl 2 rfl) ?_
        have hP : va_P D vwCl [(h, .inr (7, [.int (rf), .ref sc, .int (nI (ss)), .int (nI ((dg t ss ps a b).2)), .int (bI ((dg t ss ps a b).1 = true)), .int (rb), .int (rl), .ref nw, .ref tr, .ref lk, .ref di, .int (nI (ac9)), .ref kp, .ref ik, .ref lv])), (sc, .inl (cI, 90, .inl t))] H := by
          exact hP
        exact gp_reti hX hr hlocks hS hP ⟨(if_neg c66_8).symm, rfl⟩ dX7_digit_74
      · skip
        have c66_8 := bI_t c66_8
        refine lv_iload_n hx hb dX7_digit_69 rfl (lv_at hl 0 rfl) ?_
        refine lv_goto (tgt := 74) hx hb dX7_digit_70 (by decide) ?_
        have hP : va_P D vwCl [(h, .inr (7, [.int (rf), .ref sc, .int (nI (ss)), .int (nI ((dg t ss ps a b).2)), .int (bI ((dg t ss ps a b).1 = true)), .int (rb), .int (rl), .ref nw, .ref tr, .ref lk, .ref di, .int (nI (ac9)), .ref kp, .ref ik, .ref lv])), (sc, .inl (cI, 90, .inl t))] H := by
          exact hP
        exact gp_reti hX hr hlocks hS hP ⟨(if_pos c66_8).symm, rfl⟩ dX7_digit_74
    · skip
      have c39_7 := bI_t c39_7
      refine lv_iload_n hx hb dX7_digit_42 rfl (lv_at hl 0 rfl) ?_
      refine lv_i2l (v := (chv t ss ps.2 : Int32).toInt64) hx hb dX7_digit_43 (rfl) ?_
      refine lv_iload_n hx hb dX7_digit_44 rfl (lv_at hl 2 rfl) ?_
      refine lv_i2l (v := (a : Int32).toInt64) hx hb dX7_digit_45 (rfl) ?_
      refine lv_iload_n hx hb dX7_digit_46 rfl (lv_at hl 3 rfl) ?_
      refine lv_i2l (v := (b : Int32).toInt64) hx hb dX7_digit_47 (rfl) ?_
      refine rp_callS hX good7 i7 (c7_inI l D (chv t ss ps.2) a b) q7_in rfl (m7 114 rfl) (m7 115 rfl) ⟨Nat.le_of_ble_eq_true rfl, Nat.le_of_ble_eq_true rfl⟩ hK [] rfl hP [] rfl hS hl.1 rfl (Nat.le_of_ble_eq_true rfl) dX7_digit_48 ⟨Nat.zero_le _, Nat.zero_le _⟩ (fun H locs hP hS => ?_)
      refine lv_if_eq (tgt := 58) hx hb dX7_digit_51 (by decide) (fun c51_9 => ?_) (fun c51_9 => ?_)
      · skip
        have c51_9 := bI_f c51_9
        refine lv_iconst (v := 0) hx hb dX7_digit_58 (by decide) ?_
        refine lv_as (show (0 : Int32) = bI (decide (dgP t ss ps.2 a b) = true) from (bI_0 (fun z => c51_9 (of_decide_eq_true z).2)).symm) ?_
        refine gp_backv (gp_runV hX good7 i7 (c7_accept l D cI h sc nw tr lk di kp ik lv rf rb rl ac9 t ss hss ps (by omega) (decide (dgP t ss ps.2 a b))) q7_accept rfl (m7 124 rfl) (m7 125 rfl) (m7 126 rfl) ⟨Nat.le_of_ble_eq_true rfl, Nat.le_of_ble_eq_true rfl⟩ hK [0] rfl hP hD [0, 1] (by decide) rfl (ci := 7) (q0 := 0) rfl rfl rfl hl.1 rfl (Nat.le_of_ble_eq_true rfl) dX7_digit_59 ⟨Nat.zero_le _, Nat.zero_le _⟩) hP hD hS [0, 1] rfl (fun u h => by rw [h]; simp only [List.map_cons, List.map_nil]) (fun u H locs hpost hP hD hS => ?_)
        subst hpost
        have hP : va_P D vwCl [(h, .inr (7, [.int (rf), .ref sc, .int (nI (ss)), .int (nI ((ac ps (decide (dgP t ss ps.2 a b))).2)), .int (bI ((ac ps (decide (dgP t ss ps.2 a b))).1 = true)), .int (rb), .int (rl), .ref nw, .ref tr, .ref lk, .ref di, .int (nI (ac9)), .ref kp, .ref ik, .ref lv])), (sc, .inl (cI, 90, .inl t))] H := hP
        have hD : va_D A [(h, .inr (7, [.int (rf), .ref sc, .int (nI (ss)), .int (nI ((ac ps (decide (dgP t ss ps.2 a b))).2)), .int (bI ((ac ps (decide (dgP t ss ps.2 a b))).1 = true)), .int (rb), .int (rl), .ref nw, .ref tr, .ref lk, .ref di, .int (nI (ac9)), .ref kp, .ref ik, .ref lv])), (sc, .inl (cI, 90, .inl t))] := hD
        refine lv_aload_n hx hb dX7_digit_62 rfl (lv_at hl 1 rfl) ?_
        refine va_get (D := D) (ci := 7) (v := .int (bI ((ac ps (decide (dgP t ss ps.2 a b))).1 = true))) (C := RX7) (T := TX7) (N := 15) hx hb hts u7 hown hK hP 0 rfl rfl 4 (by decide) (hts _ (m7 122 rfl)) (fun _ h9 => h9) rfl dX7_digit_63 ?_
        refine lv_if_eq (tgt := 73) hx hb dX7_digit_66 (by decide) (fun c66_10 => ?_) (fun c66_10 => ?_)
        · skip
          have c66_10 := bI_f c66_10
          refine lv_iload_n hx hb dX7_digit_73 rfl (lv_at hl 2 rfl) ?_
          have hP : va_P D vwCl [(h, .inr (7, [.int (rf), .ref sc, .int (nI (ss)), .int (nI ((dg t ss ps a b).2)), .int (bI ((dg t ss ps a b).1 = true)), .int (rb), .int (rl), .ref nw, .ref tr, .ref lk, .ref di, .int (nI (ac9)), .ref kp, .ref ik, .ref lv])), (sc, .inl (cI, 90, .inl t))] H := by
            exact hP
          exact gp_reti hX hr hlocks hS hP ⟨(if_neg c66_10).symm, rfl⟩ dX7_digit_74
        · skip
          have c66_10 := bI_t c66_10
          refine lv_iload_n hx hb dX7_digit_69 rfl (lv_at hl 0 rfl) ?_
          refine lv_goto (tgt := 74) hx hb dX7_digit_70 (by decide) ?_
          have hP : va_P D vwCl [(h, .inr (7, [.int (rf), .ref sc, .int (nI (ss)), .int (nI ((dg t ss ps a b).2)), .int (bI ((dg t ss ps a b).1 = true)), .int (rb), .int (rl), .ref nw, .ref tr, .ref lk, .ref di, .int (nI (ac9)), .ref kp, .ref ik, .ref lv])), (sc, .inl (cI, 90, .inl t))] H := by
            exact hP
          exact gp_reti hX hr hlocks hS hP ⟨(if_pos c66_10).symm, rfl⟩ dX7_digit_74
      · skip
        have c51_9 := bI_t c51_9
        refine lv_iconst (v := 1) hx hb dX7_digit_54 (by decide) ?_
        refine lv_goto (tgt := 59) hx hb dX7_digit_55 (by decide) ?_
        refine lv_as (show (1 : Int32) = bI (decide (dgP t ss ps.2 a b) = true) from (bI_1 (decide_eq_true (⟨c39_7, c51_9⟩ : dgP t ss ps.2 a b))).symm) ?_
        refine gp_backv (gp_runV hX good7 i7 (c7_accept l D cI h sc nw tr lk di kp ik lv rf rb rl ac9 t ss hss ps (by omega) (decide (dgP t ss ps.2 a b))) q7_accept rfl (m7 124 rfl) (m7 125 rfl) (m7 126 rfl) ⟨Nat.le_of_ble_eq_true rfl, Nat.le_of_ble_eq_true rfl⟩ hK [0] rfl hP hD [0, 1] (by decide) rfl (ci := 7) (q0 := 0) rfl rfl rfl hl.1 rfl (Nat.le_of_ble_eq_true rfl) dX7_digit_59 ⟨Nat.zero_le _, Nat.zero_le _⟩) hP hD hS [0, 1] rfl (fun u h => by rw [h]; simp only [List.map_cons, List.map_nil]) (fun u H locs hpost hP hD hS => ?_)
        subst hpost
        have hP : va_P D vwCl [(h, .inr (7, [.int (rf), .ref sc, .int (nI (ss)), .int (nI ((ac ps (decide (dgP t ss ps.2 a b))).2)), .int (bI ((ac ps (decide (dgP t ss ps.2 a b))).1 = true)), .int (rb), .int (rl), .ref nw, .ref tr, .ref lk, .ref di, .int (nI (ac9)), .ref kp, .ref ik, .ref lv])), (sc, .inl (cI, 90, .inl t))] H := hP
        have hD : va_D A [(h, .inr (7, [.int (rf), .ref sc, .int (nI (ss)), .int (nI ((ac ps (decide (dgP t ss ps.2 a b))).2)), .int (bI ((ac ps (decide (dgP t ss ps.2 a b))).1 = true)), .int (rb), .int (rl), .ref nw, .ref tr, .ref lk, .ref di, .int (nI (ac9)), .ref kp, .ref ik, .ref lv])), (sc, .inl (cI, 90, .inl t))] := hD
        refine lv_aload_n hx hb dX7_digit_62 rfl (lv_at hl 1 rfl) ?_
        refine va_get (D := D) (ci := 7) (v := .int (bI ((ac ps (decide (dgP t ss ps.2 a b))).1 = true))) (C := RX7) (T := TX7) (N := 15) hx hb hts u7 hown hK hP 0 rfl rfl 4 (by decide) (hts _ (m7 122 rfl)) (fun _ h9 => h9) rfl dX7_digit_63 ?_
        refine lv_if_eq (tgt := 73) hx hb dX7_digit_66 (by decide) (fun c66_11 => ?_) (fun c66_11 => ?_)
        · skip
          have c66_11 := bI_f c66_11
          refine lv_iload_n hx hb dX7_digit_73 rfl (lv_at hl 2 rfl) ?_
          have hP : va_P D vwCl [(h, .inr (7, [.int (rf), .ref sc, .int (nI (ss)), .int (nI ((dg t ss ps a b).2)), .int (bI ((dg t ss ps a b).1 = true)), .int (rb), .int (rl), .ref nw, .ref tr, .ref lk, .ref di, .int (nI (ac9)), .ref kp, .ref ik, .ref lv])), (sc, .inl (cI, 90, .inl t))] H := by
            exact hP
          exact gp_reti hX hr hlocks hS hP ⟨(if_neg c66_11).symm, rfl⟩ dX7_digit_74
        · skip
          have c66_11 := bI_t c66_11
          refine lv_iload_n hx hb dX7_digit_69 rfl (lv_at hl 0 rfl) ?_
          refine lv_goto (tgt := 74) hx hb dX7_digit_70 (by decide) ?_
          have hP : va_P D vwCl [(h, .inr (7, [.int (rf), .ref sc, .int (nI (ss)), .int (nI ((dg t ss ps a b).2)), .int (bI ((dg t ss ps a b).1 = true)), .int (rb), .int (rl), .ref nw, .ref tr, .ref lk, .ref di, .int (nI (ac9)), .ref kp, .ref ik, .ref lv])), (sc, .inl (cI, 90, .inl t))] H := by
            exact hP
          exact gp_reti hX hr hlocks hS hP ⟨(if_pos c66_11).symm, rfl⟩ dX7_digit_74
theorem dX7_two_0 : decode cX7_two 0 = .ok (.aload_n 0, 1) := by decide +kernel
theorem dX7_two_1 : decode cX7_two 1 = .ok (.iload_n 1, 1) := by decide +kernel
theorem dX7_two_2 : decode cX7_two 2 = .ok (.bipush 10, 2) := by decide +kernel
theorem dX7_two_4 : decode cX7_two 4 = .ok (.idiv, 1) := by decide +kernel
theorem dX7_two_5 : decode cX7_two 5 = .ok (.iload_n 2, 1) := by decide +kernel
theorem dX7_two_6 : decode cX7_two 6 = .ok (.bipush 10, 2) := by decide +kernel
theorem dX7_two_8 : decode cX7_two 8 = .ok (.idiv, 1) := by decide +kernel
theorem dX7_two_9 : decode cX7_two 9 = .ok (.invokevirtual 171, 3) := by decide +kernel
theorem dX7_two_12 : decode cX7_two 12 = .ok (.istore_n 3, 1) := by decide +kernel
theorem dX7_two_13 : decode cX7_two 13 = .ok (.iload_n 1, 1) := by decide +kernel
theorem dX7_two_14 : decode cX7_two 14 = .ok (.bipush 10, 2) := by decide +kernel
theorem dX7_two_16 : decode cX7_two 16 = .ok (.iload_n 3, 1) := by decide +kernel
theorem dX7_two_17 : decode cX7_two 17 = .ok (.imul, 1) := by decide +kernel
theorem dX7_two_18 : decode cX7_two 18 = .ok (.isub, 1) := by decide +kernel
theorem dX7_two_19 : decode cX7_two 19 = .ok (.istore 4, 2) := by decide +kernel
theorem dX7_two_21 : decode cX7_two 21 = .ok (.iload_n 2, 1) := by decide +kernel
theorem dX7_two_22 : decode cX7_two 22 = .ok (.bipush 10, 2) := by decide +kernel
theorem dX7_two_24 : decode cX7_two 24 = .ok (.iload_n 3, 1) := by decide +kernel
theorem dX7_two_25 : decode cX7_two 25 = .ok (.imul, 1) := by decide +kernel
theorem dX7_two_26 : decode cX7_two 26 = .ok (.isub, 1) := by decide +kernel
theorem dX7_two_27 : decode cX7_two 27 = .ok (.istore 5, 2) := by decide +kernel
theorem dX7_two_29 : decode cX7_two 29 = .ok (.bipush 10, 2) := by decide +kernel
theorem dX7_two_31 : decode cX7_two 31 = .ok (.iload_n 3, 1) := by decide +kernel
theorem dX7_two_32 : decode cX7_two 32 = .ok (.imul, 1) := by decide +kernel
theorem dX7_two_33 : decode cX7_two 33 = .ok (.aload_n 0, 1) := by decide +kernel
theorem dX7_two_34 : decode cX7_two 34 = .ok (.iload 4, 2) := by decide +kernel
theorem dX7_two_36 : decode cX7_two 36 = .ok (.ifCond .ge 7, 3) := by decide +kernel
theorem dX7_two_39 : decode cX7_two 39 = .ok (.iconst 0, 1) := by decide +kernel
theorem dX7_two_40 : decode cX7_two 40 = .ok (.goto 5, 3) := by decide +kernel
theorem dX7_two_43 : decode cX7_two 43 = .ok (.iload 4, 2) := by decide +kernel
theorem dX7_two_45 : decode cX7_two 45 = .ok (.iload 5, 2) := by decide +kernel
theorem dX7_two_47 : decode cX7_two 47 = .ok (.bipush 9, 2) := by decide +kernel
theorem dX7_two_49 : decode cX7_two 49 = .ok (.if_icmp .le 8, 3) := by decide +kernel
theorem dX7_two_52 : decode cX7_two 52 = .ok (.bipush 9, 2) := by decide +kernel
theorem dX7_two_54 : decode cX7_two 54 = .ok (.goto 5, 3) := by decide +kernel
theorem dX7_two_57 : decode cX7_two 57 = .ok (.iload 5, 2) := by decide +kernel
theorem dX7_two_59 : decode cX7_two 59 = .ok (.invokevirtual 171, 3) := by decide +kernel
theorem dX7_two_62 : decode cX7_two 62 = .ok (.iadd, 1) := by decide +kernel
theorem dX7_two_63 : decode cX7_two 63 = .ok (.ireturn, 1) := by decide +kernel
theorem q7_two : CQ W7 yX7_two cX7_two 6 (some .int) 2 := ⟨(m7 139 rfl), by decide, by decide, by decide +kernel⟩
set_option maxHeartbeats 4000000 in
set_option maxRecDepth 100000 in
theorem c7_two (l : Launch) (D : va_G) (cI : ClassId) (h sc nw tr lk di kp ik lv : Nat) (rf rb rl : Int32) (ac9 : Nat) (t : Nat → Int32) (ss : Nat) (hss : ss ≤ 90) (ps : Bool × Nat) (hp : ps.2 ≤ ss) (a b : Int32) : GPi l yX7_two cX7_two 6 .int W7 2 48 D [(h, .inr (7, [.int (rf), .ref sc, .int (nI (ss)), .int (nI (ps.2)), .int (bI (ps.1 = true)), .int (rb), .int (rl), .ref nw, .ref tr, .ref lk, .ref di, .int (nI (ac9)), .ref kp, .ref ik, .ref lv])), (sc, .inl (cI, 90, .inl t))] [(cI, .int)] [.ref h, .int (a), .int (b)] (fun (r9 : Int32) (u9 : va_W) => r9 = (tv t ss ps a b) ∧ u9 = [(h, .inr (7, [.int (rf), .ref sc, .int (nI (ss)), .int (nI ((tw t ss ps a b).2)), .int (bI ((tw t ss ps a b).1 = true)), .int (rb), .int (rl), .ref nw, .ref tr, .ref lk, .ref di, .int (nI (ac9)), .ref kp, .ref ik, .ref lv])), (sc, .inl (cI, 90, .inl t))]) := by
  refine gp_of RX7 (by decide) rfl (Nat.le_of_ble_eq_true rfl) ?_
  intro p e s m below meth c ls H hX hr hlocks hK hP hD hS hl
  generalize gp_A [(h, .inr (7, [.int (rf), .ref sc, .int (nI (ss)), .int (nI (ps.2)), .int (bI (ps.1 = true)), .int (rb), .int (rl), .ref nw, .ref tr, .ref lk, .ref di, .int (nI (ac9)), .ref kp, .ref ik, .ref lv])), (sc, .inl (cI, 90, .inl t))] = A at hD hS ⊢
  have hx := hX.1
  have hb := hX.2.1
  have hown := hX.2.2.2.1
  have hts := hX.2.2.2.2
  have hl : lv_has ls 6 [(0, .ref h), (1, .int (a)), (2, .int (b))] := hl
  refine lv_aload_n hx hb dX7_two_0 rfl (lv_at hl 0 rfl) ?_
  refine lv_iload_n hx hb dX7_two_1 rfl (lv_at hl 1 rfl) ?_
  refine lv_bipush (v := 10) hx hb dX7_two_2 (by decide) ?_
  refine lv_idiv hx hb dX7_two_4 (by decide) ?_
  refine lv_iload_n hx hb dX7_two_5 rfl (lv_at hl 2 rfl) ?_
  refine lv_bipush (v := 10) hx hb dX7_two_6 (by decide) ?_
  refine lv_idiv hx hb dX7_two_8 (by decide) ?_
  refine gp_backi (gp_runV hX good7 i7 (c7_digit l D cI h sc nw tr lk di kp ik lv rf rb rl ac9 t ss hss ps (by omega) (a / 10) (b / 10)) q7_digit rfl (m7 128 rfl) (m7 129 rfl) (m7 130 rfl) ⟨Nat.le_of_ble_eq_true rfl, Nat.le_of_ble_eq_true rfl⟩ hK [0] rfl hP hD [0, 1] (by decide) rfl (ci := 7) (q0 := 0) rfl rfl rfl hl.1 rfl (Nat.le_of_ble_eq_true rfl) dX7_two_9 ⟨Nat.zero_le _, Nat.zero_le _⟩) hP hD hS [0, 1] rfl (fun r u h => by rw [h.2]; simp only [List.map_cons, List.map_nil]) (fun r9 u H locs hpost hP hD hS => ?_)
  obtain ⟨hr9, rfl⟩ := hpost
  refine lv_as hr9 ?_
  have hP : va_P D vwCl [(h, .inr (7, [.int (rf), .ref sc, .int (nI (ss)), .int (nI ((dg t ss ps (a / 10) (b / 10)).2)), .int (bI ((dg t ss ps (a / 10) (b / 10)).1 = true)), .int (rb), .int (rl), .ref nw, .ref tr, .ref lk, .ref di, .int (nI (ac9)), .ref kp, .ref ik, .ref lv])), (sc, .inl (cI, 90, .inl t))] H := hP
  have hD : va_D A [(h, .inr (7, [.int (rf), .ref sc, .int (nI (ss)), .int (nI ((dg t ss ps (a / 10) (b / 10)).2)), .int (bI ((dg t ss ps (a / 10) (b / 10)).1 = true)), .int (rb), .int (rl), .ref nw, .ref tr, .ref lk, .ref di, .int (nI (ac9)), .ref kp, .ref ik, .ref lv])), (sc, .inl (cI, 90, .inl t))] := hD
  refine lv_istore_n (lv' := [(3, .int (dv t ss ps (a / 10) (b / 10))), (0, .ref h), (1, .int (a)), (2, .int (b))]) hx hb dX7_two_12 rfl hl (by decide) rfl (fun ls hl => ?_)
  refine lv_iload_n hx hb dX7_two_13 rfl (lv_at hl 2 rfl) ?_
  refine lv_bipush (v := 10) hx hb dX7_two_14 (by decide) ?_
  refine lv_iload_n hx hb dX7_two_16 rfl (lv_at hl 0 rfl) ?_
  refine lv_imul hx hb dX7_two_17 ?_
  refine lv_isub hx hb dX7_two_18 ?_
  refine lv_istore (lv' := [(4, .int (a - (10 * (dv t ss ps (a / 10) (b / 10))))), (3, .int (dv t ss ps (a / 10) (b / 10))), (0, .ref h), (1, .int (a)), (2, .int (b))]) hx hb dX7_two_19 hl (by decide) rfl (fun ls hl => ?_)
  refine lv_iload_n hx hb dX7_two_21 rfl (lv_at hl 4 rfl) ?_
  refine lv_bipush (v := 10) hx hb dX7_two_22 (by decide) ?_
  refine lv_iload_n hx hb dX7_two_24 rfl (lv_at hl 1 rfl) ?_
  refine lv_imul hx hb dX7_two_25 ?_
  refine lv_isub hx hb dX7_two_26 ?_
  refine lv_istore (lv' := [(5, .int (b - (10 * (dv t ss ps (a / 10) (b / 10))))), (4, .int (a - (10 * (dv t ss ps (a / 10) (b / 10))))), (3, .int (dv t ss ps (a / 10) (b / 10))), (0, .ref h), (1, .int (a)), (2, .int (b))]) hx hb dX7_two_27 hl (by decide) rfl (fun ls hl => ?_)
  refine lv_bipush (v := 10) hx hb dX7_two_29 (by decide) ?_
  refine lv_iload_n hx hb dX7_two_31 rfl (lv_at hl 2 rfl) ?_
  refine lv_imul hx hb dX7_two_32 ?_
  refine lv_aload_n hx hb dX7_two_33 rfl (lv_at hl 3 rfl) ?_
  refine lv_iload hx hb dX7_two_34 (lv_at hl 1 rfl) ?_
  refine lv_if_ge (tgt := 43) hx hb dX7_two_36 (by decide) (fun c36_1 => ?_) (fun c36_1 => ?_)
  · skip
    have c36_1 := i_nlt c36_1
    refine lv_iload hx hb dX7_two_43 (lv_at hl 1 rfl) ?_
    refine lv_as (show a - (10 * (dv t ss ps (a / 10) (b / 10))) = twL (dv t ss ps (a / 10) (b / 10)) a from twL_n c36_1) ?_
    refine lv_iload hx hb dX7_two_45 (lv_at hl 0 rfl) ?_
    refine lv_bipush (v := 9) hx hb dX7_two_47 (by decide) ?_
    refine lv_icmp_le (tgt := 57) hx hb dX7_two_49 (by decide) (fun c49_2 => ?_) (fun c49_2 => ?_)
    · skip
      have c49_2 := i_nlt c49_2
      refine lv_iload hx hb dX7_two_57 (lv_at hl 0 rfl) ?_
      have hq9 := dg_le (t := t) (a := a / 10) (b := b / 10) hp
      refine lv_as (show b - (10 * (dv t ss ps (a / 10) (b / 10))) = twH (dv t ss ps (a / 10) (b / 10)) b from twH_n c49_2) ?_
      refine gp_backi (gp_runV hX good7 i7 (c7_digit l D cI h sc nw tr lk di kp ik lv rf rb rl ac9 t ss hss (dg t ss ps (a / 10) (b / 10)) (by omega) (twL (dv t ss ps (a / 10) (b / 10)) a) (twH (dv t ss ps (a / 10) (b / 10)) b)) q7_digit rfl (m7 128 rfl) (m7 129 rfl) (m7 130 rfl) ⟨Nat.le_of_ble_eq_true rfl, Nat.le_of_ble_eq_true rfl⟩ hK [0] rfl hP hD [0, 1] (by decide) rfl (ci := 7) (q0 := 0) rfl rfl rfl hl.1 rfl (Nat.le_of_ble_eq_true rfl) dX7_two_59 ⟨Nat.zero_le _, Nat.zero_le _⟩) hP hD hS [0, 1] rfl (fun r u h => by rw [h.2]; simp only [List.map_cons, List.map_nil]) (fun r9 u H locs hpost hP hD hS => ?_)
      obtain ⟨hr9, rfl⟩ := hpost
      refine lv_as hr9 ?_
      have hP : va_P D vwCl [(h, .inr (7, [.int (rf), .ref sc, .int (nI (ss)), .int (nI ((dg t ss (dg t ss ps (a / 10) (b / 10)) (twL (dv t ss ps (a / 10) (b / 10)) a) (twH (dv t ss ps (a / 10) (b / 10)) b)).2)), .int (bI ((dg t ss (dg t ss ps (a / 10) (b / 10)) (twL (dv t ss ps (a / 10) (b / 10)) a) (twH (dv t ss ps (a / 10) (b / 10)) b)).1 = true)), .int (rb), .int (rl), .ref nw, .ref tr, .ref lk, .ref di, .int (nI (ac9)), .ref kp, .ref ik, .ref lv])), (sc, .inl (cI, 90, .inl t))] H := hP
      have hD : va_D A [(h, .inr (7, [.int (rf), .ref sc, .int (nI (ss)), .int (nI ((dg t ss (dg t ss ps (a / 10) (b / 10)) (twL (dv t ss ps (a / 10) (b / 10)) a) (twH (dv t ss ps (a / 10) (b / 10)) b)).2)), .int (bI ((dg t ss (dg t ss ps (a / 10) (b / 10)) (twL (dv t ss ps (a / 10) (b / 10)) a) (twH (dv t ss ps (a / 10) (b / 10)) b)).1 = true)), .int (rb), .int (rl), .ref nw, .ref tr, .ref lk, .ref di, .int (nI (ac9)), .ref kp, .ref ik, .ref lv])), (sc, .inl (cI, 90, .inl t))] := hD
      refine lv_iadd hx hb dX7_two_62 ?_
      have hP : va_P D vwCl [(h, .inr (7, [.int (rf), .ref sc, .int (nI (ss)), .int (nI ((tw t ss ps a b).2)), .int (bI ((tw t ss ps a b).1 = true)), .int (rb), .int (rl), .ref nw, .ref tr, .ref lk, .ref di, .int (nI (ac9)), .ref kp, .ref ik, .ref lv])), (sc, .inl (cI, 90, .inl t))] H := by
        rw [show (nI ((tw t ss ps a b).2) : Int32) = nI ((dg t ss (dg t ss ps (a / 10) (b / 10)) (twL (dv t ss ps (a / 10) (b / 10)) a) (twH (dv t ss ps (a / 10) (b / 10)) b)).2) from by rw [tw]]
        rw [show (bI ((tw t ss ps a b).1 = true) : Int32) = bI ((dg t ss (dg t ss ps (a / 10) (b / 10)) (twL (dv t ss ps (a / 10) (b / 10)) a) (twH (dv t ss ps (a / 10) (b / 10)) b)).1 = true) from by rw [tw]]
        exact hP
      exact gp_reti hX hr hlocks hS hP ⟨by rw [tv], rfl⟩ dX7_two_63
    · skip
      have c49_2 := i_lt c49_2
      refine lv_bipush (v := 9) hx hb dX7_two_52 (by decide) ?_
      refine lv_goto (tgt := 59) hx hb dX7_two_54 (by decide) ?_
      have hq9 := dg_le (t := t) (a := a / 10) (b := b / 10) hp
      refine lv_as (show (9 : Int32) = twH (dv t ss ps (a / 10) (b / 10)) b from twH_p c49_2) ?_
      refine gp_backi (gp_runV hX good7 i7 (c7_digit l D cI h sc nw tr lk di kp ik lv rf rb rl ac9 t ss hss (dg t ss ps (a / 10) (b / 10)) (by omega) (twL (dv t ss ps (a / 10) (b / 10)) a) (twH (dv t ss ps (a / 10) (b / 10)) b)) q7_digit rfl (m7 128 rfl) (m7 129 rfl) (m7 130 rfl) ⟨Nat.le_of_ble_eq_true rfl, Nat.le_of_ble_eq_true rfl⟩ hK [0] rfl hP hD [0, 1] (by decide) rfl (ci := 7) (q0 := 0) rfl rfl rfl hl.1 rfl (Nat.le_of_ble_eq_true rfl) dX7_two_59 ⟨Nat.zero_le _, Nat.zero_le _⟩) hP hD hS [0, 1] rfl (fun r u h => by rw [h.2]; simp only [List.map_cons, List.map_nil]) (fun r9 u H locs hpost hP hD hS => ?_)
      obtain ⟨hr9, rfl⟩ := hpost
      refine lv_as hr9 ?_
      have hP : va_P D vwCl [(h, .inr (7, [.int (rf), .ref sc, .int (nI (ss)), .int (nI ((dg t ss (dg t ss ps (a / 10) (b / 10)) (twL (dv t ss ps (a / 10) (b / 10)) a) (twH (dv t ss ps (a / 10) (b / 10)) b)).2)), .int (bI ((dg t ss (dg t ss ps (a / 10) (b / 10)) (twL (dv t ss ps (a / 10) (b / 10)) a) (twH (dv t ss ps (a / 10) (b / 10)) b)).1 = true)), .int (rb), .int (rl), .ref nw, .ref tr, .ref lk, .ref di, .int (nI (ac9)), .ref kp, .ref ik, .ref lv])), (sc, .inl (cI, 90, .inl t))] H := hP
      have hD : va_D A [(h, .inr (7, [.int (rf), .ref sc, .int (nI (ss)), .int (nI ((dg t ss (dg t ss ps (a / 10) (b / 10)) (twL (dv t ss ps (a / 10) (b / 10)) a) (twH (dv t ss ps (a / 10) (b / 10)) b)).2)), .int (bI ((dg t ss (dg t ss ps (a / 10) (b / 10)) (twL (dv t ss ps (a / 10) (b / 10)) a) (twH (dv t ss ps (a / 10) (b / 10)) b)).1 = true)), .int (rb), .int (rl), .ref nw, .ref tr, .ref lk, .ref di, .int (nI (ac9)), .ref kp, .ref ik, .ref lv])), (sc, .inl (cI, 90, .inl t))] := hD
      refine lv_iadd hx hb dX7_two_62 ?_
      have hP : va_P D vwCl [(h, .inr (7, [.int (rf), .ref sc, .int (nI (ss)), .int (nI ((tw t ss ps a b).2)), .int (bI ((tw t ss ps a b).1 = true)), .int (rb), .int (rl), .ref nw, .ref tr, .ref lk, .ref di, .int (nI (ac9)), .ref kp, .ref ik, .ref lv])), (sc, .inl (cI, 90, .inl t))] H := by
        rw [show (nI ((tw t ss ps a b).2) : Int32) = nI ((dg t ss (dg t ss ps (a / 10) (b / 10)) (twL (dv t ss ps (a / 10) (b / 10)) a) (twH (dv t ss ps (a / 10) (b / 10)) b)).2) from by rw [tw]]
        rw [show (bI ((tw t ss ps a b).1 = true) : Int32) = bI ((dg t ss (dg t ss ps (a / 10) (b / 10)) (twL (dv t ss ps (a / 10) (b / 10)) a) (twH (dv t ss ps (a / 10) (b / 10)) b)).1 = true) from by rw [tw]]
        exact hP
      exact gp_reti hX hr hlocks hS hP ⟨by rw [tv], rfl⟩ dX7_two_63
  · skip
    have c36_1 := i_lt c36_1
    refine lv_iconst (v := 0) hx hb dX7_two_39 (by decide) ?_
    refine lv_goto (tgt := 45) hx hb dX7_two_40 (by decide) ?_
    refine lv_as (show (0 : Int32) = twL (dv t ss ps (a / 10) (b / 10)) a from twL_p c36_1) ?_
    refine lv_iload hx hb dX7_two_45 (lv_at hl 0 rfl) ?_
    refine lv_bipush (v := 9) hx hb dX7_two_47 (by decide) ?_
    refine lv_icmp_le (tgt := 57) hx hb dX7_two_49 (by decide) (fun c49_3 => ?_) (fun c49_3 => ?_)
    · skip
      have c49_3 := i_nlt c49_3
      refine lv_iload hx hb dX7_two_57 (lv_at hl 0 rfl) ?_
      have hq9 := dg_le (t := t) (a := a / 10) (b := b / 10) hp
      refine lv_as (show b - (10 * (dv t ss ps (a / 10) (b / 10))) = twH (dv t ss ps (a / 10) (b / 10)) b from twH_n c49_3) ?_
      refine gp_backi (gp_runV hX good7 i7 (c7_digit l D cI h sc nw tr lk di kp ik lv rf rb rl ac9 t ss hss (dg t ss ps (a / 10) (b / 10)) (by omega) (twL (dv t ss ps (a / 10) (b / 10)) a) (twH (dv t ss ps (a / 10) (b / 10)) b)) q7_digit rfl (m7 128 rfl) (m7 129 rfl) (m7 130 rfl) ⟨Nat.le_of_ble_eq_true rfl, Nat.le_of_ble_eq_true rfl⟩ hK [0] rfl hP hD [0, 1] (by decide) rfl (ci := 7) (q0 := 0) rfl rfl rfl hl.1 rfl (Nat.le_of_ble_eq_true rfl) dX7_two_59 ⟨Nat.zero_le _, Nat.zero_le _⟩) hP hD hS [0, 1] rfl (fun r u h => by rw [h.2]; simp only [List.map_cons, List.map_nil]) (fun r9 u H locs hpost hP hD hS => ?_)
      obtain ⟨hr9, rfl⟩ := hpost
      refine lv_as hr9 ?_
      have hP : va_P D vwCl [(h, .inr (7, [.int (rf), .ref sc, .int (nI (ss)), .int (nI ((dg t ss (dg t ss ps (a / 10) (b / 10)) (twL (dv t ss ps (a / 10) (b / 10)) a) (twH (dv t ss ps (a / 10) (b / 10)) b)).2)), .int (bI ((dg t ss (dg t ss ps (a / 10) (b / 10)) (twL (dv t ss ps (a / 10) (b / 10)) a) (twH (dv t ss ps (a / 10) (b / 10)) b)).1 = true)), .int (rb), .int (rl), .ref nw, .ref tr, .ref lk, .ref di, .int (nI (ac9)), .ref kp, .ref ik, .ref lv])), (sc, .inl (cI, 90, .inl t))] H := hP
      have hD : va_D A [(h, .inr (7, [.int (rf), .ref sc, .int (nI (ss)), .int (nI ((dg t ss (dg t ss ps (a / 10) (b / 10)) (twL (dv t ss ps (a / 10) (b / 10)) a) (twH (dv t ss ps (a / 10) (b / 10)) b)).2)), .int (bI ((dg t ss (dg t ss ps (a / 10) (b / 10)) (twL (dv t ss ps (a / 10) (b / 10)) a) (twH (dv t ss ps (a / 10) (b / 10)) b)).1 = true)), .int (rb), .int (rl), .ref nw, .ref tr, .ref lk, .ref di, .int (nI (ac9)), .ref kp, .ref ik, .ref lv])), (sc, .inl (cI, 90, .inl t))] := hD
      refine lv_iadd hx hb dX7_two_62 ?_
      have hP : va_P D vwCl [(h, .inr (7, [.int (rf), .ref sc, .int (nI (ss)), .int (nI ((tw t ss ps a b).2)), .int (bI ((tw t ss ps a b).1 = true)), .int (rb), .int (rl), .ref nw, .ref tr, .ref lk, .ref di, .int (nI (ac9)), .ref kp, .ref ik, .ref lv])), (sc, .inl (cI, 90, .inl t))] H := by
        rw [show (nI ((tw t ss ps a b).2) : Int32) = nI ((dg t ss (dg t ss ps (a / 10) (b / 10)) (twL (dv t ss ps (a / 10) (b / 10)) a) (twH (dv t ss ps (a / 10) (b / 10)) b)).2) from by rw [tw]]
        rw [show (bI ((tw t ss ps a b).1 = true) : Int32) = bI ((dg t ss (dg t ss ps (a / 10) (b / 10)) (twL (dv t ss ps (a / 10) (b / 10)) a) (twH (dv t ss ps (a / 10) (b / 10)) b)).1 = true) from by rw [tw]]
        exact hP
      exact gp_reti hX hr hlocks hS hP ⟨by rw [tv], rfl⟩ dX7_two_63
    · skip
      have c49_3 := i_lt c49_3
      refine lv_bipush (v := 9) hx hb dX7_two_52 (by decide) ?_
      refine lv_goto (tgt := 59) hx hb dX7_two_54 (by decide) ?_
      have hq9 := dg_le (t := t) (a := a / 10) (b := b / 10) hp
      refine lv_as (show (9 : Int32) = twH (dv t ss ps (a / 10) (b / 10)) b from twH_p c49_3) ?_
      refine gp_backi (gp_runV hX good7 i7 (c7_digit l D cI h sc nw tr lk di kp ik lv rf rb rl ac9 t ss hss (dg t ss ps (a / 10) (b / 10)) (by omega) (twL (dv t ss ps (a / 10) (b / 10)) a) (twH (dv t ss ps (a / 10) (b / 10)) b)) q7_digit rfl (m7 128 rfl) (m7 129 rfl) (m7 130 rfl) ⟨Nat.le_of_ble_eq_true rfl, Nat.le_of_ble_eq_true rfl⟩ hK [0] rfl hP hD [0, 1] (by decide) rfl (ci := 7) (q0 := 0) rfl rfl rfl hl.1 rfl (Nat.le_of_ble_eq_true rfl) dX7_two_59 ⟨Nat.zero_le _, Nat.zero_le _⟩) hP hD hS [0, 1] rfl (fun r u h => by rw [h.2]; simp only [List.map_cons, List.map_nil]) (fun r9 u H locs hpost hP hD hS => ?_)
      obtain ⟨hr9, rfl⟩ := hpost
      refine lv_as hr9 ?_
      have hP : va_P D vwCl [(h, .inr (7, [.int (rf), .ref sc, .int (nI (ss)), .int (nI ((dg t ss (dg t ss ps (a / 10) (b / 10)) (twL (dv t ss ps (a / 10) (b / 10)) a) (twH (dv t ss ps (a / 10) (b / 10)) b)).2)), .int (bI ((dg t ss (dg t ss ps (a / 10) (b / 10)) (twL (dv t ss ps (a / 10) (b / 10)) a) (twH (dv t ss ps (a / 10) (b / 10)) b)).1 = true)), .int (rb), .int (rl), .ref nw, .ref tr, .ref lk, .ref di, .int (nI (ac9)), .ref kp, .ref ik, .ref lv])), (sc, .inl (cI, 90, .inl t))] H := hP
      have hD : va_D A [(h, .inr (7, [.int (rf), .ref sc, .int (nI (ss)), .int (nI ((dg t ss (dg t ss ps (a / 10) (b / 10)) (twL (dv t ss ps (a / 10) (b / 10)) a) (twH (dv t ss ps (a / 10) (b / 10)) b)).2)), .int (bI ((dg t ss (dg t ss ps (a / 10) (b / 10)) (twL (dv t ss ps (a / 10) (b / 10)) a) (twH (dv t ss ps (a / 10) (b / 10)) b)).1 = true)), .int (rb), .int (rl), .ref nw, .ref tr, .ref lk, .ref di, .int (nI (ac9)), .ref kp, .ref ik, .ref lv])), (sc, .inl (cI, 90, .inl t))] := hD
      refine lv_iadd hx hb dX7_two_62 ?_
      have hP : va_P D vwCl [(h, .inr (7, [.int (rf), .ref sc, .int (nI (ss)), .int (nI ((tw t ss ps a b).2)), .int (bI ((tw t ss ps a b).1 = true)), .int (rb), .int (rl), .ref nw, .ref tr, .ref lk, .ref di, .int (nI (ac9)), .ref kp, .ref ik, .ref lv])), (sc, .inl (cI, 90, .inl t))] H := by
        rw [show (nI ((tw t ss ps a b).2) : Int32) = nI ((dg t ss (dg t ss ps (a / 10) (b / 10)) (twL (dv t ss ps (a / 10) (b / 10)) a) (twH (dv t ss ps (a / 10) (b / 10)) b)).2) from by rw [tw]]
        rw [show (bI ((tw t ss ps a b).1 = true) : Int32) = bI ((dg t ss (dg t ss ps (a / 10) (b / 10)) (twL (dv t ss ps (a / 10) (b / 10)) a) (twH (dv t ss ps (a / 10) (b / 10)) b)).1 = true) from by rw [tw]]
        exact hP
      exact gp_reti hX hr hlocks hS hP ⟨by rw [tv], rfl⟩ dX7_two_63
