theorem dX7_head_0 : decode cX7_head 0 = .ok (.aload_n 0, 1) := by decide +kernel
theorem dX7_head_1 : decode cX7_head 1 = .ok (.iconst 0, 1) := by decide +kernel
theorem dX7_head_2 : decode cX7_head 2 = .ok (.putfield 158, 3) := by decide +kernel
theorem dX7_head_5 : decode cX7_head 5 = .ok (.aload_n 0, 1) := by decide +kernel
theorem dX7_head_6 : decode cX7_head 6 = .ok (.iconst 1, 1) := by decide +kernel
theorem dX7_head_7 : decode cX7_head 7 = .ok (.putfield 161, 3) := by decide +kernel
theorem dX7_head_10 : decode cX7_head 10 = .ok (.aload_n 0, 1) := by decide +kernel
theorem dX7_head_11 : decode cX7_head 11 = .ok (.aload_n 0, 1) := by decide +kernel
theorem dX7_head_12 : decode cX7_head 12 = .ok (.bipush 70, 2) := by decide +kernel
theorem dX7_head_14 : decode cX7_head 14 = .ok (.invokevirtual 175, 3) := by decide +kernel
theorem dX7_head_17 : decode cX7_head 17 = .ok (.invokevirtual 167, 3) := by decide +kernel
theorem dX7_head_20 : decode cX7_head 20 = .ok (.aload_n 0, 1) := by decide +kernel
theorem dX7_head_21 : decode cX7_head 21 = .ok (.aload_n 0, 1) := by decide +kernel
theorem dX7_head_22 : decode cX7_head 22 = .ok (.iconst 3, 1) := by decide +kernel
theorem dX7_head_23 : decode cX7_head 23 = .ok (.bipush 8, 2) := by decide +kernel
theorem dX7_head_25 : decode cX7_head 25 = .ok (.invokevirtual 171, 3) := by decide +kernel
theorem dX7_head_28 : decode cX7_head 28 = .ok (.putfield 193, 3) := by decide +kernel
theorem dX7_head_31 : decode cX7_head 31 = .ok (.aload_n 0, 1) := by decide +kernel
theorem dX7_head_32 : decode cX7_head 32 = .ok (.aload_n 0, 1) := by decide +kernel
theorem dX7_head_33 : decode cX7_head 33 = .ok (.iconst 1, 1) := by decide +kernel
theorem dX7_head_34 : decode cX7_head 34 = .ok (.bipush 99, 2) := by decide +kernel
theorem dX7_head_36 : decode cX7_head 36 = .ok (.invokevirtual 178, 3) := by decide +kernel
theorem dX7_head_39 : decode cX7_head 39 = .ok (.putfield 196, 3) := by decide +kernel
theorem dX7_head_42 : decode cX7_head 42 = .ok (.return_, 1) := by decide +kernel
theorem q7_head : CQ W7 yX7_head cX7_head 1 none 0 := ⟨(m7 159 rfl), by decide, by decide, by decide +kernel⟩
set_option maxHeartbeats 4000000 in
set_option maxRecDepth 100000 in
theorem c7_head (l : Launch) (D : va_G) (cI : ClassId) (h sc nw tr lk di kp ik lv : Nat) (rf rb rl : Int32) (ac9 : Nat) (t : Nat → Int32) (ss : Nat) (hss : ss ≤ 90) (ps : Bool × Nat) (hp : 0 ≤ ps.2)  : GPv l yX7_head cX7_head 1 W7 3 73 D [(h, .inr (7, [.int (rf), .ref sc, .int (nI (ss)), .int (nI (ps.2)), .int (bI (ps.1 = true)), .int (rb), .int (rl), .ref nw, .ref tr, .ref lk, .ref di, .int (nI (ac9)), .ref kp, .ref ik, .ref lv])), (sc, .inl (cI, 90, .inl t))] [(cI, .int)] [.ref h] (fun u9 : va_W => u9 = [(h, .inr (7, [.int (rf), .ref sc, .int (nI (ss)), .int (nI ((hd2 t ss).2)), .int (bI ((hd2 t ss).1 = true)), .int (hdB t ss), .int (hdL t ss), .ref nw, .ref tr, .ref lk, .ref di, .int (nI (ac9)), .ref kp, .ref ik, .ref lv])), (sc, .inl (cI, 90, .inl t))]) := by
  refine gp_of RX7 (by decide) rfl (Nat.le_of_ble_eq_true rfl) ?_
  intro p e s m below meth c ls H hX hr hlocks hK hP hD hS hl
  generalize gp_A [(h, .inr (7, [.int (rf), .ref sc, .int (nI (ss)), .int (nI (ps.2)), .int (bI (ps.1 = true)), .int (rb), .int (rl), .ref nw, .ref tr, .ref lk, .ref di, .int (nI (ac9)), .ref kp, .ref ik, .ref lv])), (sc, .inl (cI, 90, .inl t))] = A at hD hS ⊢
  have hx := hX.1
  have hb := hX.2.1
  have hown := hX.2.2.2.1
  have hts := hX.2.2.2.2
  have hl : lv_has ls 1 [(0, .ref h)] := hl
  refine lv_aload_n hx hb dX7_head_0 rfl (lv_at hl 0 rfl) ?_
  refine lv_iconst (v := 0) hx hb dX7_head_1 (by decide) ?_
  refine va_put (D := D) (ci := 7) (v := .int (0)) (ty := .int) (C := RX7) (T := TX7) (N := 15) hx hb hts u7 tyX7 tyX7_ok nmX7 hown hK hP hD hS 0 rfl rfl 3 (by decide) (hts _ (m7 121 rfl)) (fun _ h9 => h9) rfl (by decide +kernel) rfl rfl (Nat.le_of_ble_eq_true rfl) dX7_head_2 (fun H locs hP hD hS => ?_)
  have hP : va_P D vwCl [(h, .inr (7, [.int (rf), .ref sc, .int (nI (ss)), .int (0), .int (bI (ps.1 = true)), .int (rb), .int (rl), .ref nw, .ref tr, .ref lk, .ref di, .int (nI (ac9)), .ref kp, .ref ik, .ref lv])), (sc, .inl (cI, 90, .inl t))] H := hP
  have hD : va_D A [(h, .inr (7, [.int (rf), .ref sc, .int (nI (ss)), .int (0), .int (bI (ps.1 = true)), .int (rb), .int (rl), .ref nw, .ref tr, .ref lk, .ref di, .int (nI (ac9)), .ref kp, .ref ik, .ref lv])), (sc, .inl (cI, 90, .inl t))] := hD
  refine lv_aload_n hx hb dX7_head_5 rfl (lv_at hl 0 rfl) ?_
  refine lv_iconst (v := 1) hx hb dX7_head_6 (by decide) ?_
  refine va_put (D := D) (ci := 7) (v := .int (1)) (ty := .boolean) (C := RX7) (T := TX7) (N := 15) hx hb hts u7 tyX7 tyX7_ok nmX7 hown hK hP hD hS 0 rfl rfl 4 (by decide) (hts _ (m7 122 rfl)) (fun _ h9 => h9) rfl (by decide +kernel) rfl rfl (Nat.le_of_ble_eq_true rfl) dX7_head_7 (fun H locs hP hD hS => ?_)
  have hP : va_P D vwCl [(h, .inr (7, [.int (rf), .ref sc, .int (nI (ss)), .int (0), .int (1), .int (rb), .int (rl), .ref nw, .ref tr, .ref lk, .ref di, .int (nI (ac9)), .ref kp, .ref ik, .ref lv])), (sc, .inl (cI, 90, .inl t))] H := hP
  have hD : va_D A [(h, .inr (7, [.int (rf), .ref sc, .int (nI (ss)), .int (0), .int (1), .int (rb), .int (rl), .ref nw, .ref tr, .ref lk, .ref di, .int (nI (ac9)), .ref kp, .ref ik, .ref lv])), (sc, .inl (cI, 90, .inl t))] := hD
  have hP : va_P D vwCl [(h, .inr (7, [.int (rf), .ref sc, .int (nI (ss)), .int (nI (((true, 0) : Bool × Nat).2)), .int (bI (((true, 0) : Bool × Nat).1 = true)), .int (rb), .int (rl), .ref nw, .ref tr, .ref lk, .ref di, .int (nI (ac9)), .ref kp, .ref ik, .ref lv])), (sc, .inl (cI, 90, .inl t))] H := by skip; exact hP
  have hD : va_D A [(h, .inr (7, [.int (rf), .ref sc, .int (nI (ss)), .int (nI (((true, 0) : Bool × Nat).2)), .int (bI (((true, 0) : Bool × Nat).1 = true)), .int (rb), .int (rl), .ref nw, .ref tr, .ref lk, .ref di, .int (nI (ac9)), .ref kp, .ref ik, .ref lv])), (sc, .inl (cI, 90, .inl t))] := gp_D hD (by simp only [List.map_cons, List.map_nil])
  refine lv_aload_n hx hb dX7_head_10 rfl (lv_at hl 0 rfl) ?_
  refine lv_aload_n hx hb dX7_head_11 rfl (lv_at hl 0 rfl) ?_
  refine lv_bipush (v := 70) hx hb dX7_head_12 (by decide) ?_
  refine rp_callV hX good7 i7 (c7_isNext l D cI h sc nw tr lk di kp ik lv rf rb rl ac9 t ss hss ((true, 0) : Bool × Nat) (Nat.zero_le _) 70) q7_isNext rfl (m7 132 rfl) (m7 133 rfl) (m7 134 rfl) ⟨Nat.le_of_ble_eq_true rfl, Nat.le_of_ble_eq_true rfl⟩ hK [0] rfl hP [0, 1] rfl (ci := 7) (q0 := 0) rfl rfl rfl hS hl.1 rfl (Nat.le_of_ble_eq_true rfl) dX7_head_14 ⟨Nat.zero_le _, Nat.zero_le _⟩ (fun H locs hP hS => ?_)
  refine lv_as (show bI (nxtP t ss ((true, 0) : Bool × Nat).2 70) = bI (decide (nxtP t ss ((true, 0) : Bool × Nat).2 70) = true) from bI_congr decide_eq_true_iff.symm) ?_
  refine gp_backv (gp_runV hX good7 i7 (c7_accept l D cI h sc nw tr lk di kp ik lv rf rb rl ac9 t ss hss ((true, 0) : Bool × Nat) (Nat.zero_le _) (decide (nxtP t ss ((true, 0) : Bool × Nat).2 70))) q7_accept rfl (m7 124 rfl) (m7 125 rfl) (m7 126 rfl) ⟨Nat.le_of_ble_eq_true rfl, Nat.le_of_ble_eq_true rfl⟩ hK [0] rfl hP hD [0, 1] (by decide) rfl (ci := 7) (q0 := 0) rfl rfl rfl hl.1 rfl (Nat.le_of_ble_eq_true rfl) dX7_head_17 ⟨Nat.zero_le _, Nat.zero_le _⟩) hP hD hS [0, 1] rfl (fun u h => by rw [h]; simp only [List.map_cons, List.map_nil]) (fun u H locs hpost hP hD hS => ?_)
  subst hpost
  have hP : va_P D vwCl [(h, .inr (7, [.int (rf), .ref sc, .int (nI (ss)), .int (nI ((ac ((true, 0) : Bool × Nat) (decide (nxtP t ss ((true, 0) : Bool × Nat).2 70))).2)), .int (bI ((ac ((true, 0) : Bool × Nat) (decide (nxtP t ss ((true, 0) : Bool × Nat).2 70))).1 = true)), .int (rb), .int (rl), .ref nw, .ref tr, .ref lk, .ref di, .int (nI (ac9)), .ref kp, .ref ik, .ref lv])), (sc, .inl (cI, 90, .inl t))] H := hP
  have hD : va_D A [(h, .inr (7, [.int (rf), .ref sc, .int (nI (ss)), .int (nI ((ac ((true, 0) : Bool × Nat) (decide (nxtP t ss ((true, 0) : Bool × Nat).2 70))).2)), .int (bI ((ac ((true, 0) : Bool × Nat) (decide (nxtP t ss ((true, 0) : Bool × Nat).2 70))).1 = true)), .int (rb), .int (rl), .ref nw, .ref tr, .ref lk, .ref di, .int (nI (ac9)), .ref kp, .ref ik, .ref lv])), (sc, .inl (cI, 90, .inl t))] := hD
  have hP : va_P D vwCl [(h, .inr (7, [.int (rf), .ref sc, .int (nI (ss)), .int (nI ((hd0 t ss).2)), .int (bI ((hd0 t ss).1 = true)), .int (rb), .int (rl), .ref nw, .ref tr, .ref lk, .ref di, .int (nI (ac9)), .ref kp, .ref ik, .ref lv])), (sc, .inl (cI, 90, .inl t))] H := by rw [hd0]; exact hP
  have hD : va_D A [(h, .inr (7, [.int (rf), .ref sc, .int (nI (ss)), .int (nI ((hd0 t ss).2)), .int (bI ((hd0 t ss).1 = true)), .int (rb), .int (rl), .ref nw, .ref tr, .ref lk, .ref di, .int (nI (ac9)), .ref kp, .ref ik, .ref lv])), (sc, .inl (cI, 90, .inl t))] := gp_D hD (by simp only [List.map_cons, List.map_nil])
  refine lv_aload_n hx hb dX7_head_20 rfl (lv_at hl 0 rfl) ?_
  refine lv_aload_n hx hb dX7_head_21 rfl (lv_at hl 0 rfl) ?_
  refine lv_iconst (v := 3) hx hb dX7_head_22 (by decide) ?_
  refine lv_bipush (v := 8) hx hb dX7_head_23 (by decide) ?_
  refine gp_backi (gp_runV hX good7 i7 (c7_digit l D cI h sc nw tr lk di kp ik lv rf rb rl ac9 t ss hss (hd0 t ss) (hd0_le) 3 8) q7_digit rfl (m7 128 rfl) (m7 129 rfl) (m7 130 rfl) ⟨Nat.le_of_ble_eq_true rfl, Nat.le_of_ble_eq_true rfl⟩ hK [0] rfl hP hD [0, 1] (by decide) rfl (ci := 7) (q0 := 0) rfl rfl rfl hl.1 rfl (Nat.le_of_ble_eq_true rfl) dX7_head_25 ⟨Nat.zero_le _, Nat.zero_le _⟩) hP hD hS [0, 1] rfl (fun r u h => by rw [h.2]; simp only [List.map_cons, List.map_nil]) (fun r9 u H locs hpost hP hD hS => ?_)
  obtain ⟨hr9, rfl⟩ := hpost
  refine lv_as hr9 ?_
  have hP : va_P D vwCl [(h, .inr (7, [.int (rf), .ref sc, .int (nI (ss)), .int (nI ((dg t ss (hd0 t ss) 3 8).2)), .int (bI ((dg t ss (hd0 t ss) 3 8).1 = true)), .int (rb), .int (rl), .ref nw, .ref tr, .ref lk, .ref di, .int (nI (ac9)), .ref kp, .ref ik, .ref lv])), (sc, .inl (cI, 90, .inl t))] H := hP
  have hD : va_D A [(h, .inr (7, [.int (rf), .ref sc, .int (nI (ss)), .int (nI ((dg t ss (hd0 t ss) 3 8).2)), .int (bI ((dg t ss (hd0 t ss) 3 8).1 = true)), .int (rb), .int (rl), .ref nw, .ref tr, .ref lk, .ref di, .int (nI (ac9)), .ref kp, .ref ik, .ref lv])), (sc, .inl (cI, 90, .inl t))] := hD
  refine va_put (D := D) (ci := 7) (v := .int (dv t ss (hd0 t ss) 3 8)) (ty := .int) (C := RX7) (T := TX7) (N := 15) hx hb hts u7 tyX7 tyX7_ok nmX7 hown hK hP hD hS 0 rfl rfl 5 (by decide) (hts _ (m7 154 rfl)) (fun _ h9 => h9) rfl (by decide +kernel) rfl rfl (Nat.le_of_ble_eq_true rfl) dX7_head_28 (fun H locs hP hD hS => ?_)
  have hP : va_P D vwCl [(h, .inr (7, [.int (rf), .ref sc, .int (nI (ss)), .int (nI ((dg t ss (hd0 t ss) 3 8).2)), .int (bI ((dg t ss (hd0 t ss) 3 8).1 = true)), .int (dv t ss (hd0 t ss) 3 8), .int (rl), .ref nw, .ref tr, .ref lk, .ref di, .int (nI (ac9)), .ref kp, .ref ik, .ref lv])), (sc, .inl (cI, 90, .inl t))] H := hP
  have hD : va_D A [(h, .inr (7, [.int (rf), .ref sc, .int (nI (ss)), .int (nI ((dg t ss (hd0 t ss) 3 8).2)), .int (bI ((dg t ss (hd0 t ss) 3 8).1 = true)), .int (dv t ss (hd0 t ss) 3 8), .int (rl), .ref nw, .ref tr, .ref lk, .ref di, .int (nI (ac9)), .ref kp, .ref ik, .ref lv])), (sc, .inl (cI, 90, .inl t))] := hD
  have hP : va_P D vwCl [(h, .inr (7, [.int (rf), .ref sc, .int (nI (ss)), .int (nI ((hd1 t ss).2)), .int (bI ((hd1 t ss).1 = true)), .int (dv t ss (hd0 t ss) 3 8), .int (rl), .ref nw, .ref tr, .ref lk, .ref di, .int (nI (ac9)), .ref kp, .ref ik, .ref lv])), (sc, .inl (cI, 90, .inl t))] H := by rw [hd1]; exact hP
  have hD : va_D A [(h, .inr (7, [.int (rf), .ref sc, .int (nI (ss)), .int (nI ((hd1 t ss).2)), .int (bI ((hd1 t ss).1 = true)), .int (dv t ss (hd0 t ss) 3 8), .int (rl), .ref nw, .ref tr, .ref lk, .ref di, .int (nI (ac9)), .ref kp, .ref ik, .ref lv])), (sc, .inl (cI, 90, .inl t))] := gp_D hD (by simp only [List.map_cons, List.map_nil])
  refine lv_aload_n hx hb dX7_head_31 rfl (lv_at hl 0 rfl) ?_
  refine lv_aload_n hx hb dX7_head_32 rfl (lv_at hl 0 rfl) ?_
  refine lv_iconst (v := 1) hx hb dX7_head_33 (by decide) ?_
  refine lv_bipush (v := 99) hx hb dX7_head_34 (by decide) ?_
  refine gp_backi (gp_runV hX good7 i7 (c7_two l D cI h sc nw tr lk di kp ik lv rf (dv t ss (hd0 t ss) 3 8) rl ac9 t ss hss (hd1 t ss) (hd1_le) 1 99) q7_two rfl (m7 136 rfl) (m7 137 rfl) (m7 138 rfl) ⟨Nat.le_of_ble_eq_true rfl, Nat.le_of_ble_eq_true rfl⟩ hK [0] rfl hP hD [0, 1] (by decide) rfl (ci := 7) (q0 := 0) rfl rfl rfl hl.1 rfl (Nat.le_of_ble_eq_true rfl) dX7_head_36 ⟨Nat.zero_le _, Nat.zero_le _⟩) hP hD hS [0, 1] rfl (fun r u h => by rw [h.2]; simp only [List.map_cons, List.map_nil]) (fun r9 u H locs hpost hP hD hS => ?_)
  obtain ⟨hr9, rfl⟩ := hpost
  refine lv_as hr9 ?_
  have hP : va_P D vwCl [(h, .inr (7, [.int (rf), .ref sc, .int (nI (ss)), .int (nI ((tw t ss (hd1 t ss) 1 99).2)), .int (bI ((tw t ss (hd1 t ss) 1 99).1 = true)), .int (dv t ss (hd0 t ss) 3 8), .int (rl), .ref nw, .ref tr, .ref lk, .ref di, .int (nI (ac9)), .ref kp, .ref ik, .ref lv])), (sc, .inl (cI, 90, .inl t))] H := hP
  have hD : va_D A [(h, .inr (7, [.int (rf), .ref sc, .int (nI (ss)), .int (nI ((tw t ss (hd1 t ss) 1 99).2)), .int (bI ((tw t ss (hd1 t ss) 1 99).1 = true)), .int (dv t ss (hd0 t ss) 3 8), .int (rl), .ref nw, .ref tr, .ref lk, .ref di, .int (nI (ac9)), .ref kp, .ref ik, .ref lv])), (sc, .inl (cI, 90, .inl t))] := hD
  refine va_put (D := D) (ci := 7) (v := .int (tv t ss (hd1 t ss) 1 99)) (ty := .int) (C := RX7) (T := TX7) (N := 15) hx hb hts u7 tyX7 tyX7_ok nmX7 hown hK hP hD hS 0 rfl rfl 6 (by decide) (hts _ (m7 155 rfl)) (fun _ h9 => h9) rfl (by decide +kernel) rfl rfl (Nat.le_of_ble_eq_true rfl) dX7_head_39 (fun H locs hP hD hS => ?_)
  have hP : va_P D vwCl [(h, .inr (7, [.int (rf), .ref sc, .int (nI (ss)), .int (nI ((tw t ss (hd1 t ss) 1 99).2)), .int (bI ((tw t ss (hd1 t ss) 1 99).1 = true)), .int (dv t ss (hd0 t ss) 3 8), .int (tv t ss (hd1 t ss) 1 99), .ref nw, .ref tr, .ref lk, .ref di, .int (nI (ac9)), .ref kp, .ref ik, .ref lv])), (sc, .inl (cI, 90, .inl t))] H := hP
  have hD : va_D A [(h, .inr (7, [.int (rf), .ref sc, .int (nI (ss)), .int (nI ((tw t ss (hd1 t ss) 1 99).2)), .int (bI ((tw t ss (hd1 t ss) 1 99).1 = true)), .int (dv t ss (hd0 t ss) 3 8), .int (tv t ss (hd1 t ss) 1 99), .ref nw, .ref tr, .ref lk, .ref di, .int (nI (ac9)), .ref kp, .ref ik, .ref lv])), (sc, .inl (cI, 90, .inl t))] := hD
  have hP : va_P D vwCl [(h, .inr (7, [.int (rf), .ref sc, .int (nI (ss)), .int (nI ((hd2 t ss).2)), .int (bI ((hd2 t ss).1 = true)), .int (hdB t ss), .int (hdL t ss), .ref nw, .ref tr, .ref lk, .ref di, .int (nI (ac9)), .ref kp, .ref ik, .ref lv])), (sc, .inl (cI, 90, .inl t))] H := by
    rw [show (nI ((hd2 t ss).2) : Int32) = nI ((tw t ss (hd1 t ss) 1 99).2) from by rw [hd2]]
    rw [show (bI ((hd2 t ss).1 = true) : Int32) = bI ((tw t ss (hd1 t ss) 1 99).1 = true) from by rw [hd2]]
    rw [show (hdB t ss : Int32) = dv t ss (hd0 t ss) 3 8 from by rw [hdB]]
    rw [show (hdL t ss : Int32) = tv t ss (hd1 t ss) 1 99 from by rw [hdL]]
    exact hP
  exact gp_retv hX hr hlocks hS hP rfl dX7_head_42
theorem dX7_command_0 : decode cX7_command 0 = .ok (.aload_n 0, 1) := by decide +kernel
theorem dX7_command_1 : decode cX7_command 1 = .ok (.bipush 112, 2) := by decide +kernel
theorem dX7_command_3 : decode cX7_command 3 = .ok (.invokevirtual 175, 3) := by decide +kernel
theorem dX7_command_6 : decode cX7_command 6 = .ok (.ifCond .eq 58, 3) := by decide +kernel
theorem dX7_command_9 : decode cX7_command 9 = .ok (.aload_n 0, 1) := by decide +kernel
theorem dX7_command_10 : decode cX7_command 10 = .ok (.iconst 1, 1) := by decide +kernel
theorem dX7_command_11 : decode cX7_command 11 = .ok (.invokevirtual 167, 3) := by decide +kernel
theorem dX7_command_14 : decode cX7_command 14 = .ok (.aload_n 0, 1) := by decide +kernel
theorem dX7_command_15 : decode cX7_command 15 = .ok (.iconst 0, 1) := by decide +kernel
theorem dX7_command_16 : decode cX7_command 16 = .ok (.bipush 15, 2) := by decide +kernel
theorem dX7_command_18 : decode cX7_command 18 = .ok (.invokevirtual 178, 3) := by decide +kernel
theorem dX7_command_21 : decode cX7_command 21 = .ok (.istore_n 2, 1) := by decide +kernel
theorem dX7_command_22 : decode cX7_command 22 = .ok (.bipush 10, 2) := by decide +kernel
theorem dX7_command_24 : decode cX7_command 24 = .ok (.aload_n 0, 1) := by decide +kernel
theorem dX7_command_25 : decode cX7_command 25 = .ok (.iconst 0, 1) := by decide +kernel
theorem dX7_command_26 : decode cX7_command 26 = .ok (.bipush 99, 2) := by decide +kernel
theorem dX7_command_28 : decode cX7_command 28 = .ok (.invokevirtual 178, 3) := by decide +kernel
theorem dX7_command_31 : decode cX7_command 31 = .ok (.imul, 1) := by decide +kernel
theorem dX7_command_32 : decode cX7_command 32 = .ok (.aload_n 0, 1) := by decide +kernel
theorem dX7_command_33 : decode cX7_command 33 = .ok (.iconst 0, 1) := by decide +kernel
theorem dX7_command_34 : decode cX7_command 34 = .ok (.bipush 9, 2) := by decide +kernel
theorem dX7_command_36 : decode cX7_command 36 = .ok (.invokevirtual 171, 3) := by decide +kernel
theorem dX7_command_39 : decode cX7_command 39 = .ok (.iadd, 1) := by decide +kernel
theorem dX7_command_40 : decode cX7_command 40 = .ok (.istore_n 3, 1) := by decide +kernel
theorem dX7_command_41 : decode cX7_command 41 = .ok (.iload_n 1, 1) := by decide +kernel
theorem dX7_command_42 : decode cX7_command 42 = .ok (.ifCond .eq 20, 3) := by decide +kernel
theorem dX7_command_62 : decode cX7_command 62 = .ok (.iconst 0, 1) := by decide +kernel
theorem dX7_command_63 : decode cX7_command 63 = .ok (.ireturn, 1) := by decide +kernel
theorem dX7_command_64 : decode cX7_command 64 = .ok (.aload_n 0, 1) := by decide +kernel
theorem dX7_command_65 : decode cX7_command 65 = .ok (.bipush 100, 2) := by decide +kernel
theorem dX7_command_67 : decode cX7_command 67 = .ok (.invokevirtual 175, 3) := by decide +kernel
theorem dX7_command_70 : decode cX7_command 70 = .ok (.ifCond .eq 38, 3) := by decide +kernel
theorem dX7_command_73 : decode cX7_command 73 = .ok (.aload_n 0, 1) := by decide +kernel
theorem dX7_command_74 : decode cX7_command 74 = .ok (.iconst 1, 1) := by decide +kernel
theorem dX7_command_75 : decode cX7_command 75 = .ok (.invokevirtual 167, 3) := by decide +kernel
theorem dX7_command_78 : decode cX7_command 78 = .ok (.aload_n 0, 1) := by decide +kernel
theorem dX7_command_79 : decode cX7_command 79 = .ok (.iconst 0, 1) := by decide +kernel
theorem dX7_command_80 : decode cX7_command 80 = .ok (.bipush 15, 2) := by decide +kernel
theorem dX7_command_82 : decode cX7_command 82 = .ok (.invokevirtual 178, 3) := by decide +kernel
theorem dX7_command_85 : decode cX7_command 85 = .ok (.istore_n 2, 1) := by decide +kernel
theorem dX7_command_86 : decode cX7_command 86 = .ok (.iload_n 1, 1) := by decide +kernel
theorem dX7_command_87 : decode cX7_command 87 = .ok (.ifCond .eq 19, 3) := by decide +kernel
theorem dX7_command_106 : decode cX7_command 106 = .ok (.iconst 0, 1) := by decide +kernel
theorem dX7_command_107 : decode cX7_command 107 = .ok (.ireturn, 1) := by decide +kernel
theorem dX7_command_108 : decode cX7_command 108 = .ok (.aload_n 0, 1) := by decide +kernel
theorem dX7_command_109 : decode cX7_command 109 = .ok (.bipush 99, 2) := by decide +kernel
theorem dX7_command_111 : decode cX7_command 111 = .ok (.invokevirtual 175, 3) := by decide +kernel
theorem dX7_command_114 : decode cX7_command 114 = .ok (.ifCond .eq 37, 3) := by decide +kernel
theorem dX7_command_117 : decode cX7_command 117 = .ok (.aload_n 0, 1) := by decide +kernel
theorem dX7_command_118 : decode cX7_command 118 = .ok (.iconst 1, 1) := by decide +kernel
theorem dX7_command_119 : decode cX7_command 119 = .ok (.invokevirtual 167, 3) := by decide +kernel
theorem dX7_command_122 : decode cX7_command 122 = .ok (.aload_n 0, 1) := by decide +kernel
theorem dX7_command_123 : decode cX7_command 123 = .ok (.iconst 0, 1) := by decide +kernel
theorem dX7_command_124 : decode cX7_command 124 = .ok (.bipush 99, 2) := by decide +kernel
theorem dX7_command_126 : decode cX7_command 126 = .ok (.invokevirtual 178, 3) := by decide +kernel
theorem dX7_command_129 : decode cX7_command 129 = .ok (.istore_n 2, 1) := by decide +kernel
theorem dX7_command_130 : decode cX7_command 130 = .ok (.iload_n 1, 1) := by decide +kernel
theorem dX7_command_131 : decode cX7_command 131 = .ok (.ifCond .eq 18, 3) := by decide +kernel
theorem dX7_command_149 : decode cX7_command 149 = .ok (.iconst 0, 1) := by decide +kernel
theorem dX7_command_150 : decode cX7_command 150 = .ok (.ireturn, 1) := by decide +kernel
theorem dX7_command_151 : decode cX7_command 151 = .ok (.aload_n 0, 1) := by decide +kernel
theorem dX7_command_152 : decode cX7_command 152 = .ok (.bipush 113, 2) := by decide +kernel
theorem dX7_command_154 : decode cX7_command 154 = .ok (.invokevirtual 175, 3) := by decide +kernel
theorem dX7_command_157 : decode cX7_command 157 = .ok (.ifCond .eq 39, 3) := by decide +kernel
theorem dX7_command_160 : decode cX7_command 160 = .ok (.aload_n 0, 1) := by decide +kernel
theorem dX7_command_161 : decode cX7_command 161 = .ok (.iconst 1, 1) := by decide +kernel
theorem dX7_command_162 : decode cX7_command 162 = .ok (.invokevirtual 167, 3) := by decide +kernel
theorem dX7_command_165 : decode cX7_command 165 = .ok (.aload_n 0, 1) := by decide +kernel
theorem dX7_command_166 : decode cX7_command 166 = .ok (.iconst 0, 1) := by decide +kernel
theorem dX7_command_167 : decode cX7_command 167 = .ok (.iconst 2, 1) := by decide +kernel
theorem dX7_command_168 : decode cX7_command 168 = .ok (.invokevirtual 171, 3) := by decide +kernel
theorem dX7_command_171 : decode cX7_command 171 = .ok (.istore_n 2, 1) := by decide +kernel
theorem dX7_command_172 : decode cX7_command 172 = .ok (.aload_n 0, 1) := by decide +kernel
theorem dX7_command_173 : decode cX7_command 173 = .ok (.getfield 13, 3) := by decide +kernel
theorem dX7_command_176 : decode cX7_command 176 = .ok (.bipush 6, 2) := by decide +kernel
theorem dX7_command_178 : decode cX7_command 178 = .ok (.iload_n 1, 1) := by decide +kernel
theorem dX7_command_179 : decode cX7_command 179 = .ok (.ifCond .eq 7, 3) := by decide +kernel
theorem dX7_command_186 : decode cX7_command 186 = .ok (.aload_n 0, 1) := by decide +kernel
theorem dX7_command_187 : decode cX7_command 187 = .ok (.getfield 13, 3) := by decide +kernel
theorem dX7_command_190 : decode cX7_command 190 = .ok (.bipush 6, 2) := by decide +kernel
theorem dX7_command_192 : decode cX7_command 192 = .ok (.iaload, 1) := by decide +kernel
theorem dX7_command_193 : decode cX7_command 193 = .ok (.iastore, 1) := by decide +kernel
theorem dX7_command_194 : decode cX7_command 194 = .ok (.iconst 0, 1) := by decide +kernel
theorem dX7_command_195 : decode cX7_command 195 = .ok (.ireturn, 1) := by decide +kernel
theorem dX7_command_196 : decode cX7_command 196 = .ok (.aload_n 0, 1) := by decide +kernel
theorem dX7_command_197 : decode cX7_command 197 = .ok (.bipush 119, 2) := by decide +kernel
theorem dX7_command_199 : decode cX7_command 199 = .ok (.invokevirtual 175, 3) := by decide +kernel
theorem dX7_command_202 : decode cX7_command 202 = .ok (.istore_n 2, 1) := by decide +kernel
theorem dX7_command_203 : decode cX7_command 203 = .ok (.aload_n 0, 1) := by decide +kernel
theorem dX7_command_204 : decode cX7_command 204 = .ok (.iload_n 2, 1) := by decide +kernel
theorem dX7_command_205 : decode cX7_command 205 = .ok (.ifCond .ne 12, 3) := by decide +kernel
theorem dX7_command_208 : decode cX7_command 208 = .ok (.aload_n 0, 1) := by decide +kernel
theorem dX7_command_209 : decode cX7_command 209 = .ok (.bipush 115, 2) := by decide +kernel
theorem dX7_command_211 : decode cX7_command 211 = .ok (.invokevirtual 175, 3) := by decide +kernel
theorem dX7_command_214 : decode cX7_command 214 = .ok (.ifCond .eq 7, 3) := by decide +kernel
theorem dX7_command_217 : decode cX7_command 217 = .ok (.iconst 1, 1) := by decide +kernel
theorem dX7_command_218 : decode cX7_command 218 = .ok (.goto 4, 3) := by decide +kernel
theorem dX7_command_221 : decode cX7_command 221 = .ok (.iconst 0, 1) := by decide +kernel
theorem dX7_command_222 : decode cX7_command 222 = .ok (.invokevirtual 167, 3) := by decide +kernel
theorem dX7_command_225 : decode cX7_command 225 = .ok (.iload_n 1, 1) := by decide +kernel
theorem dX7_command_226 : decode cX7_command 226 = .ok (.ifCond .eq 35, 3) := by decide +kernel
theorem dX7_command_261 : decode cX7_command 261 = .ok (.iconst 0, 1) := by decide +kernel
theorem dX7_command_262 : decode cX7_command 262 = .ok (.ireturn, 1) := by decide +kernel
theorem q7_command : CQ W7 yX7_command cX7_command 4 (some .boolean) 1 := ⟨(m7 163 rfl), by decide, by decide, by decide +kernel⟩
set_option maxHeartbeats 4000000 in
set_option maxRecDepth 100000 in
theorem c7_commandF (l : Launch) (D : va_G) (cI : ClassId) (h sc nw tr lk di kp ik lv : Nat) (rf rb rl : Int32) (ac9 : Nat) (t : Nat → Int32) (ss : Nat) (hss : ss ≤ 90) (ps : Bool × Nat) (hp : ps.2 ≤ ss) (f : Nat → Int32) : GPi l yX7_command cX7_command 4 .boolean W7 14 314 D [(h, .inr (7, [.int (rf), .ref sc, .int (nI (ss)), .int (nI (ps.2)), .int (bI (ps.1 = true)), .int (rb), .int (rl), .ref nw, .ref tr, .ref lk, .ref di, .int (nI (ac9)), .ref kp, .ref ik, .ref lv])), (sc, .inl (cI, 90, .inl t)), (nw, .inl (cI, 151, .inl f))] [(cI, .int)] [.ref h, .int (0)] (fun (r9 : Int32) (u9 : va_W) => r9 = (bI (False)) ∧ u9 = [(h, .inr (7, [.int (rf), .ref sc, .int (nI (ss)), .int (nI ((cm t ss ps).2)), .int (bI ((cm t ss ps).1 = true)), .int (rb), .int (rl), .ref nw, .ref tr, .ref lk, .ref di, .int (nI (ac9)), .ref kp, .ref ik, .ref lv])), (sc, .inl (cI, 90, .inl t)), (nw, .inl (cI, 151, .inl f))]) := by
  refine gp_of RX7 (by decide) rfl (Nat.le_of_ble_eq_true rfl) ?_
  intro p e s m below meth c ls H hX hr hlocks hK hP hD hS hl
  generalize gp_A [(h, .inr (7, [.int (rf), .ref sc, .int (nI (ss)), .int (nI (ps.2)), .int (bI (ps.1 = true)), .int (rb), .int (rl), .ref nw, .ref tr, .ref lk, .ref di, .int (nI (ac9)), .ref kp, .ref ik, .ref lv])), (sc, .inl (cI, 90, .inl t)), (nw, .inl (cI, 151, .inl f))] = A at hD hS ⊢
  have hx := hX.1
  have hb := hX.2.1
  have hown := hX.2.2.2.1
  have hts := hX.2.2.2.2
  have hl : lv_has ls 4 [(0, .ref h), (1, .int (0))] := hl
  refine lv_aload_n hx hb dX7_command_0 rfl (lv_at hl 0 rfl) ?_
  refine lv_bipush (v := 112) hx hb dX7_command_1 (by decide) ?_
  refine rp_callV hX good7 i7 (c7_isNext l D cI h sc nw tr lk di kp ik lv rf rb rl ac9 t ss hss ps (hp) 112) q7_isNext rfl (m7 132 rfl) (m7 133 rfl) (m7 134 rfl) ⟨Nat.le_of_ble_eq_true rfl, Nat.le_of_ble_eq_true rfl⟩ hK [0] rfl hP [0, 1] rfl (ci := 7) (q0 := 0) rfl rfl rfl hS hl.1 rfl (Nat.le_of_ble_eq_true rfl) dX7_command_3 ⟨Nat.zero_le _, Nat.zero_le _⟩ (fun H locs hP hS => ?_)
  refine lv_if_eq (tgt := 64) hx hb dX7_command_6 (by decide) (fun c6_1 => ?_) (fun c6_1 => ?_)
  · skip
    have c6_1 := bI_f c6_1
    refine lv_aload_n hx hb dX7_command_64 rfl (lv_at hl 0 rfl) ?_
    refine lv_bipush (v := 100) hx hb dX7_command_65 (by decide) ?_
    refine rp_callV hX good7 i7 (c7_isNext l D cI h sc nw tr lk di kp ik lv rf rb rl ac9 t ss hss ps (by omega) 100) q7_isNext rfl (m7 132 rfl) (m7 133 rfl) (m7 134 rfl) ⟨Nat.le_of_ble_eq_true rfl, Nat.le_of_ble_eq_true rfl⟩ hK [0] rfl hP [0, 1] rfl (ci := 7) (q0 := 0) rfl rfl rfl hS hl.1 rfl (Nat.le_of_ble_eq_true rfl) dX7_command_67 ⟨Nat.zero_le _, Nat.zero_le _⟩ (fun H locs hP hS => ?_)
    refine lv_if_eq (tgt := 108) hx hb dX7_command_70 (by decide) (fun c70_2 => ?_) (fun c70_2 => ?_)
    · skip
      have c70_2 := bI_f c70_2
      refine lv_aload_n hx hb dX7_command_108 rfl (lv_at hl 0 rfl) ?_
      refine lv_bipush (v := 99) hx hb dX7_command_109 (by decide) ?_
      refine rp_callV hX good7 i7 (c7_isNext l D cI h sc nw tr lk di kp ik lv rf rb rl ac9 t ss hss ps (by omega) 99) q7_isNext rfl (m7 132 rfl) (m7 133 rfl) (m7 134 rfl) ⟨Nat.le_of_ble_eq_true rfl, Nat.le_of_ble_eq_true rfl⟩ hK [0] rfl hP [0, 1] rfl (ci := 7) (q0 := 0) rfl rfl rfl hS hl.1 rfl (Nat.le_of_ble_eq_true rfl) dX7_command_111 ⟨Nat.zero_le _, Nat.zero_le _⟩ (fun H locs hP hS => ?_)
      refine lv_if_eq (tgt := 151) hx hb dX7_command_114 (by decide) (fun c114_3 => ?_) (fun c114_3 => ?_)
      · skip
        have c114_3 := bI_f c114_3
        refine lv_aload_n hx hb dX7_command_151 rfl (lv_at hl 0 rfl) ?_
        refine lv_bipush (v := 113) hx hb dX7_command_152 (by decide) ?_
        refine rp_callV hX good7 i7 (c7_isNext l D cI h sc nw tr lk di kp ik lv rf rb rl ac9 t ss hss ps (by omega) 113) q7_isNext rfl (m7 132 rfl) (m7 133 rfl) (m7 134 rfl) ⟨Nat.le_of_ble_eq_true rfl, Nat.le_of_ble_eq_true rfl⟩ hK [0] rfl hP [0, 1] rfl (ci := 7) (q0 := 0) rfl rfl rfl hS hl.1 rfl (Nat.le_of_ble_eq_true rfl) dX7_command_154 ⟨Nat.zero_le _, Nat.zero_le _⟩ (fun H locs hP hS => ?_)
        refine lv_if_eq (tgt := 196) hx hb dX7_command_157 (by decide) (fun c157_4 => ?_) (fun c157_4 => ?_)
        · skip
          have c157_4 := bI_f c157_4
          refine lv_aload_n hx hb dX7_command_196 rfl (lv_at hl 0 rfl) ?_
          refine lv_bipush (v := 119) hx hb dX7_command_197 (by decide) ?_
          refine rp_callV hX good7 i7 (c7_isNext l D cI h sc nw tr lk di kp ik lv rf rb rl ac9 t ss hss ps (by omega) 119) q7_isNext rfl (m7 132 rfl) (m7 133 rfl) (m7 134 rfl) ⟨Nat.le_of_ble_eq_true rfl, Nat.le_of_ble_eq_true rfl⟩ hK [0] rfl hP [0, 1] rfl (ci := 7) (q0 := 0) rfl rfl rfl hS hl.1 rfl (Nat.le_of_ble_eq_true rfl) dX7_command_199 ⟨Nat.zero_le _, Nat.zero_le _⟩ (fun H locs hP hS => ?_)
          refine lv_istore_n (lv' := [(2, .int (bI (nxtP t ss ps.2 119))), (0, .ref h), (1, .int (0))]) hx hb dX7_command_202 rfl hl (by decide) rfl (fun ls hl => ?_)
          refine lv_aload_n hx hb dX7_command_203 rfl (lv_at hl 1 rfl) ?_
          refine lv_iload_n hx hb dX7_command_204 rfl (lv_at hl 0 rfl) ?_
          refine lv_if_ne (tgt := 217) hx hb dX7_command_205 (by decide) (fun c205_5 => ?_) (fun c205_5 => ?_)
          · skip
            have c205_5 := bI_t c205_5
            refine lv_iconst (v := 1) hx hb dX7_command_217 (by decide) ?_
            refine lv_goto (tgt := 222) hx hb dX7_command_218 (by decide) ?_
            refine lv_as (show (1 : Int32) = bI ((decide (nxtP t ss ps.2 119) || decide (nxtP t ss ps.2 115)) = true) from (bI_1 ((Bool.or_eq_true _ _).mpr (Or.inl (decide_eq_true c205_5)))).symm) ?_
            refine gp_backv (gp_runV hX good7 i7 (c7_accept l D cI h sc nw tr lk di kp ik lv rf rb rl ac9 t ss hss ps (by omega) (decide (nxtP t ss ps.2 119) || decide (nxtP t ss ps.2 115))) q7_accept rfl (m7 124 rfl) (m7 125 rfl) (m7 126 rfl) ⟨Nat.le_of_ble_eq_true rfl, Nat.le_of_ble_eq_true rfl⟩ hK [0] rfl hP hD [0, 1] (by decide) rfl (ci := 7) (q0 := 0) rfl rfl rfl hl.1 rfl (Nat.le_of_ble_eq_true rfl) dX7_command_222 ⟨Nat.zero_le _, Nat.zero_le _⟩) hP hD hS [0, 1] rfl (fun u h => by rw [h]; simp only [List.map_cons, List.map_nil]) (fun u H locs hpost hP hD hS => ?_)
            subst hpost
            have hP : va_P D vwCl [(h, .inr (7, [.int (rf), .ref sc, .int (nI (ss)), .int (nI ((ac ps (decide (nxtP t ss ps.2 119) || decide (nxtP t ss ps.2 115))).2)), .int (bI ((ac ps (decide (nxtP t ss ps.2 119) || decide (nxtP t ss ps.2 115))).1 = true)), .int (rb), .int (rl), .ref nw, .ref tr, .ref lk, .ref di, .int (nI (ac9)), .ref kp, .ref ik, .ref lv])), (sc, .inl (cI, 90, .inl t)), (nw, .inl (cI, 151, .inl f))] H := hP
            have hD : va_D A [(h, .inr (7, [.int (rf), .ref sc, .int (nI (ss)), .int (nI ((ac ps (decide (nxtP t ss ps.2 119) || decide (nxtP t ss ps.2 115))).2)), .int (bI ((ac ps (decide (nxtP t ss ps.2 119) || decide (nxtP t ss ps.2 115))).1 = true)), .int (rb), .int (rl), .ref nw, .ref tr, .ref lk, .ref di, .int (nI (ac9)), .ref kp, .ref ik, .ref lv])), (sc, .inl (cI, 90, .inl t)), (nw, .inl (cI, 151, .inl f))] := hD
            refine lv_iload_n hx hb dX7_command_225 rfl (lv_at hl 2 rfl) ?_
            refine lv_if_eq (tgt := 261) hx hb dX7_command_226 (by decide) (fun c226_6 => ?_) (fun c226_6 => ?_)
            · skip
              refine lv_iconst (v := 0) hx hb dX7_command_261 (by decide) ?_
              have hP : va_P D vwCl [(h, .inr (7, [.int (rf), .ref sc, .int (nI (ss)), .int (nI ((cm t ss ps).2)), .int (bI ((cm t ss ps).1 = true)), .int (rb), .int (rl), .ref nw, .ref tr, .ref lk, .ref di, .int (nI (ac9)), .ref kp, .ref ik, .ref lv])), (sc, .inl (cI, 90, .inl t)), (nw, .inl (cI, 151, .inl f))] H := by
                rw [show (nI ((cm t ss ps).2) : Int32) = nI ((ac ps (decide (nxtP t ss ps.2 119) || decide (nxtP t ss ps.2 115))).2) from by rw [cm_w c6_1 c70_2 c114_3 c157_4]]
                rw [show (bI ((cm t ss ps).1 = true) : Int32) = bI ((ac ps (decide (nxtP t ss ps.2 119) || decide (nxtP t ss ps.2 115))).1 = true) from by rw [cm_w c6_1 c70_2 c114_3 c157_4]]
                exact hP
              exact gp_retz hX hr hlocks hS hP (P := False) ((bI_0 (fun z => z)).symm) ⟨(bI_0 (fun z => z)).symm, rfl⟩ dX7_command_262
            · skip
              exact absurd c226_6 (by decide)
          · skip
            have c205_5 := bI_f c205_5
            refine lv_aload_n hx hb dX7_command_208 rfl (lv_at hl 1 rfl) ?_
            refine lv_bipush (v := 115) hx hb dX7_command_209 (by decide) ?_
            refine rp_callV hX good7 i7 (c7_isNext l D cI h sc nw tr lk di kp ik lv rf rb rl ac9 t ss hss ps (by omega) 115) q7_isNext rfl (m7 132 rfl) (m7 133 rfl) (m7 134 rfl) ⟨Nat.le_of_ble_eq_true rfl, Nat.le_of_ble_eq_true rfl⟩ hK [0] rfl hP [0, 1] rfl (ci := 7) (q0 := 0) rfl rfl rfl hS hl.1 rfl (Nat.le_of_ble_eq_true rfl) dX7_command_211 ⟨Nat.zero_le _, Nat.zero_le _⟩ (fun H locs hP hS => ?_)
            refine lv_if_eq (tgt := 221) hx hb dX7_command_214 (by decide) (fun c214_7 => ?_) (fun c214_7 => ?_)
            · skip
              have c214_7 := bI_f c214_7
              refine lv_iconst (v := 0) hx hb dX7_command_221 (by decide) ?_
              refine lv_as (show (0 : Int32) = bI ((decide (nxtP t ss ps.2 119) || decide (nxtP t ss ps.2 115)) = true) from (bI_0 (fun z => ((Bool.or_eq_true _ _).mp z).elim (fun y => c205_5 (of_decide_eq_true y)) (fun y => c214_7 (of_decide_eq_true y)))).symm) ?_
              refine gp_backv (gp_runV hX good7 i7 (c7_accept l D cI h sc nw tr lk di kp ik lv rf rb rl ac9 t ss hss ps (by omega) (decide (nxtP t ss ps.2 119) || decide (nxtP t ss ps.2 115))) q7_accept rfl (m7 124 rfl) (m7 125 rfl) (m7 126 rfl) ⟨Nat.le_of_ble_eq_true rfl, Nat.le_of_ble_eq_true rfl⟩ hK [0] rfl hP hD [0, 1] (by decide) rfl (ci := 7) (q0 := 0) rfl rfl rfl hl.1 rfl (Nat.le_of_ble_eq_true rfl) dX7_command_222 ⟨Nat.zero_le _, Nat.zero_le _⟩) hP hD hS [0, 1] rfl (fun u h => by rw [h]; simp only [List.map_cons, List.map_nil]) (fun u H locs hpost hP hD hS => ?_)
              subst hpost
              have hP : va_P D vwCl [(h, .inr (7, [.int (rf), .ref sc, .int (nI (ss)), .int (nI ((ac ps (decide (nxtP t ss ps.2 119) || decide (nxtP t ss ps.2 115))).2)), .int (bI ((ac ps (decide (nxtP t ss ps.2 119) || decide (nxtP t ss ps.2 115))).1 = true)), .int (rb), .int (rl), .ref nw, .ref tr, .ref lk, .ref di, .int (nI (ac9)), .ref kp, .ref ik, .ref lv])), (sc, .inl (cI, 90, .inl t)), (nw, .inl (cI, 151, .inl f))] H := hP
              have hD : va_D A [(h, .inr (7, [.int (rf), .ref sc, .int (nI (ss)), .int (nI ((ac ps (decide (nxtP t ss ps.2 119) || decide (nxtP t ss ps.2 115))).2)), .int (bI ((ac ps (decide (nxtP t ss ps.2 119) || decide (nxtP t ss ps.2 115))).1 = true)), .int (rb), .int (rl), .ref nw, .ref tr, .ref lk, .ref di, .int (nI (ac9)), .ref kp, .ref ik, .ref lv])), (sc, .inl (cI, 90, .inl t)), (nw, .inl (cI, 151, .inl f))] := hD
              refine lv_iload_n hx hb dX7_command_225 rfl (lv_at hl 2 rfl) ?_
              refine lv_if_eq (tgt := 261) hx hb dX7_command_226 (by decide) (fun c226_8 => ?_) (fun c226_8 => ?_)
              · skip
                refine lv_iconst (v := 0) hx hb dX7_command_261 (by decide) ?_
                have hP : va_P D vwCl [(h, .inr (7, [.int (rf), .ref sc, .int (nI (ss)), .int (nI ((cm t ss ps).2)), .int (bI ((cm t ss ps).1 = true)), .int (rb), .int (rl), .ref nw, .ref tr, .ref lk, .ref di, .int (nI (ac9)), .ref kp, .ref ik, .ref lv])), (sc, .inl (cI, 90, .inl t)), (nw, .inl (cI, 151, .inl f))] H := by
                  rw [show (nI ((cm t ss ps).2) : Int32) = nI ((ac ps (decide (nxtP t ss ps.2 119) || decide (nxtP t ss ps.2 115))).2) from by rw [cm_w c6_1 c70_2 c114_3 c157_4]]
                  rw [show (bI ((cm t ss ps).1 = true) : Int32) = bI ((ac ps (decide (nxtP t ss ps.2 119) || decide (nxtP t ss ps.2 115))).1 = true) from by rw [cm_w c6_1 c70_2 c114_3 c157_4]]
                  exact hP
                exact gp_retz hX hr hlocks hS hP (P := False) ((bI_0 (fun z => z)).symm) ⟨(bI_0 (fun z => z)).symm, rfl⟩ dX7_command_262
              · skip
                exact absurd c226_8 (by decide)
            · skip
              have c214_7 := bI_t c214_7
              refine lv_iconst (v := 1) hx hb dX7_command_217 (by decide) ?_
              refine lv_goto (tgt := 222) hx hb dX7_command_218 (by decide) ?_
              refine lv_as (show (1 : Int32) = bI ((decide (nxtP t ss ps.2 119) || decide (nxtP t ss ps.2 115)) = true) from (bI_1 ((Bool.or_eq_true _ _).mpr (Or.inr (decide_eq_true c214_7)))).symm) ?_
              refine gp_backv (gp_runV hX good7 i7 (c7_accept l D cI h sc nw tr lk di kp ik lv rf rb rl ac9 t ss hss ps (by omega) (decide (nxtP t ss ps.2 119) || decide (nxtP t ss ps.2 115))) q7_accept rfl (m7 124 rfl) (m7 125 rfl) (m7 126 rfl) ⟨Nat.le_of_ble_eq_true rfl, Nat.le_of_ble_eq_true rfl⟩ hK [0] rfl hP hD [0, 1] (by decide) rfl (ci := 7) (q0 := 0) rfl rfl rfl hl.1 rfl (Nat.le_of_ble_eq_true rfl) dX7_command_222 ⟨Nat.zero_le _, Nat.zero_le _⟩) hP hD hS [0, 1] rfl (fun u h => by rw [h]; simp only [List.map_cons, List.map_nil]) (fun u H locs hpost hP hD hS => ?_)
              subst hpost
              have hP : va_P D vwCl [(h, .inr (7, [.int (rf), .ref sc, .int (nI (ss)), .int (nI ((ac ps (decide (nxtP t ss ps.2 119) || decide (nxtP t ss ps.2 115))).2)), .int (bI ((ac ps (decide (nxtP t ss ps.2 119) || decide (nxtP t ss ps.2 115))).1 = true)), .int (rb), .int (rl), .ref nw, .ref tr, .ref lk, .ref di, .int (nI (ac9)), .ref kp, .ref ik, .ref lv])), (sc, .inl (cI, 90, .inl t)), (nw, .inl (cI, 151, .inl f))] H := hP
              have hD : va_D A [(h, .inr (7, [.int (rf), .ref sc, .int (nI (ss)), .int (nI ((ac ps (decide (nxtP t ss ps.2 119) || decide (nxtP t ss ps.2 115))).2)), .int (bI ((ac ps (decide (nxtP t ss ps.2 119) || decide (nxtP t ss ps.2 115))).1 = true)), .int (rb), .int (rl), .ref nw, .ref tr, .ref lk, .ref di, .int (nI (ac9)), .ref kp, .ref ik, .ref lv])), (sc, .inl (cI, 90, .inl t)), (nw, .inl (cI, 151, .inl f))] := hD
              refine lv_iload_n hx hb dX7_command_225 rfl (lv_at hl 2 rfl) ?_
              refine lv_if_eq (tgt := 261) hx hb dX7_command_226 (by decide) (fun c226_9 => ?_) (fun c226_9 => ?_)
              · skip
                refine lv_iconst (v := 0) hx hb dX7_command_261 (by decide) ?_
                have hP : va_P D vwCl [(h, .inr (7, [.int (rf), .ref sc, .int (nI (ss)), .int (nI ((cm t ss ps).2)), .int (bI ((cm t ss ps).1 = true)), .int (rb), .int (rl), .ref nw, .ref tr, .ref lk, .ref di, .int (nI (ac9)), .ref kp, .ref ik, .ref lv])), (sc, .inl (cI, 90, .inl t)), (nw, .inl (cI, 151, .inl f))] H := by
                  rw [show (nI ((cm t ss ps).2) : Int32) = nI ((ac ps (decide (nxtP t ss ps.2 119) || decide (nxtP t ss ps.2 115))).2) from by rw [cm_w c6_1 c70_2 c114_3 c157_4]]
                  rw [show (bI ((cm t ss ps).1 = true) : Int32) = bI ((ac ps (decide (nxtP t ss ps.2 119) || decide (nxtP t ss ps.2 115))).1 = true) from by rw [cm_w c6_1 c70_2 c114_3 c157_4]]
                  exact hP
                exact gp_retz hX hr hlocks hS hP (P := False) ((bI_0 (fun z => z)).symm) ⟨(bI_0 (fun z => z)).symm, rfl⟩ dX7_command_262
              · skip
                exact absurd c226_9 (by decide)
        · skip
          have c157_4 := bI_t c157_4
          have hac : (ac ps true).2 ≤ ss := ac_tr hp c157_4
          refine lv_aload_n hx hb dX7_command_160 rfl (lv_at hl 0 rfl) ?_
          refine lv_iconst (v := 1) hx hb dX7_command_161 (by decide) ?_
          refine gp_backv (gp_runV hX good7 i7 (c7_accept l D cI h sc nw tr lk di kp ik lv rf rb rl ac9 t ss hss ps (hp) true) q7_accept rfl (m7 124 rfl) (m7 125 rfl) (m7 126 rfl) ⟨Nat.le_of_ble_eq_true rfl, Nat.le_of_ble_eq_true rfl⟩ hK [0] rfl hP hD [0, 1] (by decide) rfl (ci := 7) (q0 := 0) rfl rfl rfl hl.1 rfl (Nat.le_of_ble_eq_true rfl) dX7_command_162 ⟨Nat.zero_le _, Nat.zero_le _⟩) hP hD hS [0, 1] rfl (fun u h => by rw [h]; simp only [List.map_cons, List.map_nil]) (fun u H locs hpost hP hD hS => ?_)
          subst hpost
          have hP : va_P D vwCl [(h, .inr (7, [.int (rf), .ref sc, .int (nI (ss)), .int (nI ((ac ps true).2)), .int (bI ((ac ps true).1 = true)), .int (rb), .int (rl), .ref nw, .ref tr, .ref lk, .ref di, .int (nI (ac9)), .ref kp, .ref ik, .ref lv])), (sc, .inl (cI, 90, .inl t)), (nw, .inl (cI, 151, .inl f))] H := hP
          have hD : va_D A [(h, .inr (7, [.int (rf), .ref sc, .int (nI (ss)), .int (nI ((ac ps true).2)), .int (bI ((ac ps true).1 = true)), .int (rb), .int (rl), .ref nw, .ref tr, .ref lk, .ref di, .int (nI (ac9)), .ref kp, .ref ik, .ref lv])), (sc, .inl (cI, 90, .inl t)), (nw, .inl (cI, 151, .inl f))] := hD
          refine lv_aload_n hx hb dX7_command_165 rfl (lv_at hl 0 rfl) ?_
          refine lv_iconst (v := 0) hx hb dX7_command_166 (by decide) ?_
          refine lv_iconst (v := 2) hx hb dX7_command_167 (by decide) ?_
          refine gp_backi (gp_runV hX good7 i7 (c7_digit l D cI h sc nw tr lk di kp ik lv rf rb rl ac9 t ss hss (ac ps true) (hac) 0 2) q7_digit rfl (m7 128 rfl) (m7 129 rfl) (m7 130 rfl) ⟨Nat.le_of_ble_eq_true rfl, Nat.le_of_ble_eq_true rfl⟩ hK [0] rfl hP hD [0, 1] (by decide) rfl (ci := 7) (q0 := 0) rfl rfl rfl hl.1 rfl (Nat.le_of_ble_eq_true rfl) dX7_command_168 ⟨Nat.zero_le _, Nat.zero_le _⟩) hP hD hS [0, 1] rfl (fun r u h => by rw [h.2]; simp only [List.map_cons, List.map_nil]) (fun r9 u H locs hpost hP hD hS => ?_)
          obtain ⟨hr9, rfl⟩ := hpost
          refine lv_as hr9 ?_
          have hP : va_P D vwCl [(h, .inr (7, [.int (rf), .ref sc, .int (nI (ss)), .int (nI ((dg t ss (ac ps true) 0 2).2)), .int (bI ((dg t ss (ac ps true) 0 2).1 = true)), .int (rb), .int (rl), .ref nw, .ref tr, .ref lk, .ref di, .int (nI (ac9)), .ref kp, .ref ik, .ref lv])), (sc, .inl (cI, 90, .inl t)), (nw, .inl (cI, 151, .inl f))] H := hP
          have hD : va_D A [(h, .inr (7, [.int (rf), .ref sc, .int (nI (ss)), .int (nI ((dg t ss (ac ps true) 0 2).2)), .int (bI ((dg t ss (ac ps true) 0 2).1 = true)), .int (rb), .int (rl), .ref nw, .ref tr, .ref lk, .ref di, .int (nI (ac9)), .ref kp, .ref ik, .ref lv])), (sc, .inl (cI, 90, .inl t)), (nw, .inl (cI, 151, .inl f))] := hD
          refine lv_istore_n (lv' := [(2, .int (dv t ss (ac ps true) 0 2)), (0, .ref h), (1, .int (0))]) hx hb dX7_command_171 rfl hl (by decide) rfl (fun ls hl => ?_)
          refine lv_aload_n hx hb dX7_command_172 rfl (lv_at hl 1 rfl) ?_
          refine va_get (D := D) (ci := 7) (v := .ref nw) (C := RX7) (T := TX7) (N := 15) hx hb hts u7 hown hK hP 0 rfl rfl 7 (by decide) (hts _ (m7 5 rfl)) (fun _ h9 => h9) rfl dX7_command_173 ?_
          refine lv_bipush (v := 6) hx hb dX7_command_176 (by decide) ?_
          refine lv_iload_n hx hb dX7_command_178 rfl (lv_at hl 2 rfl) ?_
          refine lv_if_eq (tgt := 186) hx hb dX7_command_179 (by decide) (fun c179_10 => ?_) (fun c179_10 => ?_)
          · skip
            refine lv_aload_n hx hb dX7_command_186 rfl (lv_at hl 1 rfl) ?_
            refine va_get (D := D) (ci := 7) (v := .ref nw) (C := RX7) (T := TX7) (N := 15) hx hb hts u7 hown hK hP 0 rfl rfl 7 (by decide) (hts _ (m7 5 rfl)) (fun _ h9 => h9) rfl dX7_command_187 ?_
            refine lv_bipush (v := 6) hx hb dX7_command_190 (by decide) ?_
            refine ra_iald (i := 6) hx hb hK hP 2 0 rfl rfl (by omega) (by decide) dX7_command_192 ?_
            refine ra_iast (i := 6) hx hb hK hP hD hS 2 0 rfl rfl (by omega) (by decide) dX7_command_193 (fun H locs hP hD hS => ?_)
            have hP : va_P D vwCl [(h, .inr (7, [.int (rf), .ref sc, .int (nI (ss)), .int (nI ((dg t ss (ac ps true) 0 2).2)), .int (bI ((dg t ss (ac ps true) 0 2).1 = true)), .int (rb), .int (rl), .ref nw, .ref tr, .ref lk, .ref di, .int (nI (ac9)), .ref kp, .ref ik, .ref lv])), (sc, .inl (cI, 90, .inl t)), (nw, .inl (cI, 151, .inl (upd f 6 (f (6)))))] H := hP
            have hD : va_D A [(h, .inr (7, [.int (rf), .ref sc, .int (nI (ss)), .int (nI ((dg t ss (ac ps true) 0 2).2)), .int (bI ((dg t ss (ac ps true) 0 2).1 = true)), .int (rb), .int (rl), .ref nw, .ref tr, .ref lk, .ref di, .int (nI (ac9)), .ref kp, .ref ik, .ref lv])), (sc, .inl (cI, 90, .inl t)), (nw, .inl (cI, 151, .inl (upd f 6 (f (6)))))] := hD
            refine lv_iconst (v := 0) hx hb dX7_command_194 (by decide) ?_
            have hP : va_P D vwCl [(h, .inr (7, [.int (rf), .ref sc, .int (nI (ss)), .int (nI ((cm t ss ps).2)), .int (bI ((cm t ss ps).1 = true)), .int (rb), .int (rl), .ref nw, .ref tr, .ref lk, .ref di, .int (nI (ac9)), .ref kp, .ref ik, .ref lv])), (sc, .inl (cI, 90, .inl t)), (nw, .inl (cI, 151, .inl (upd f 6 (f (6)))))] H := by
              rw [show (nI ((cm t ss ps).2) : Int32) = nI ((dg t ss (ac ps true) 0 2).2) from by rw [cm_q c6_1 c70_2 c114_3 c157_4]]
              rw [show (bI ((cm t ss ps).1 = true) : Int32) = bI ((dg t ss (ac ps true) 0 2).1 = true) from by rw [cm_q c6_1 c70_2 c114_3 c157_4]]
              exact hP
            have hP : va_P D vwCl [(h, .inr (7, [.int (rf), .ref sc, .int (nI (ss)), .int (nI ((cm t ss ps).2)), .int (bI ((cm t ss ps).1 = true)), .int (rb), .int (rl), .ref nw, .ref tr, .ref lk, .ref di, .int (nI (ac9)), .ref kp, .ref ik, .ref lv])), (sc, .inl (cI, 90, .inl t)), (nw, .inl (cI, 151, .inl f))] H := by
              rw [show (f : Nat → Int32) = upd f 6 (f (6)) from (upd_self f 6).symm]
              exact hP
            exact gp_retz hX hr hlocks hS hP (P := False) ((bI_0 (fun z => z)).symm) ⟨(bI_0 (fun z => z)).symm, rfl⟩ dX7_command_195
          · skip
            exact absurd c179_10 (by decide)
      · skip
        have c114_3 := bI_t c114_3
        have hac : (ac ps true).2 ≤ ss := ac_tr hp c114_3
        refine lv_aload_n hx hb dX7_command_117 rfl (lv_at hl 0 rfl) ?_
        refine lv_iconst (v := 1) hx hb dX7_command_118 (by decide) ?_
        refine gp_backv (gp_runV hX good7 i7 (c7_accept l D cI h sc nw tr lk di kp ik lv rf rb rl ac9 t ss hss ps (hp) true) q7_accept rfl (m7 124 rfl) (m7 125 rfl) (m7 126 rfl) ⟨Nat.le_of_ble_eq_true rfl, Nat.le_of_ble_eq_true rfl⟩ hK [0] rfl hP hD [0, 1] (by decide) rfl (ci := 7) (q0 := 0) rfl rfl rfl hl.1 rfl (Nat.le_of_ble_eq_true rfl) dX7_command_119 ⟨Nat.zero_le _, Nat.zero_le _⟩) hP hD hS [0, 1] rfl (fun u h => by rw [h]; simp only [List.map_cons, List.map_nil]) (fun u H locs hpost hP hD hS => ?_)
        subst hpost
        have hP : va_P D vwCl [(h, .inr (7, [.int (rf), .ref sc, .int (nI (ss)), .int (nI ((ac ps true).2)), .int (bI ((ac ps true).1 = true)), .int (rb), .int (rl), .ref nw, .ref tr, .ref lk, .ref di, .int (nI (ac9)), .ref kp, .ref ik, .ref lv])), (sc, .inl (cI, 90, .inl t)), (nw, .inl (cI, 151, .inl f))] H := hP
        have hD : va_D A [(h, .inr (7, [.int (rf), .ref sc, .int (nI (ss)), .int (nI ((ac ps true).2)), .int (bI ((ac ps true).1 = true)), .int (rb), .int (rl), .ref nw, .ref tr, .ref lk, .ref di, .int (nI (ac9)), .ref kp, .ref ik, .ref lv])), (sc, .inl (cI, 90, .inl t)), (nw, .inl (cI, 151, .inl f))] := hD
        refine lv_aload_n hx hb dX7_command_122 rfl (lv_at hl 0 rfl) ?_
        refine lv_iconst (v := 0) hx hb dX7_command_123 (by decide) ?_
        refine lv_bipush (v := 99) hx hb dX7_command_124 (by decide) ?_
        refine gp_backi (gp_runV hX good7 i7 (c7_two l D cI h sc nw tr lk di kp ik lv rf rb rl ac9 t ss hss (ac ps true) (hac) 0 99) q7_two rfl (m7 136 rfl) (m7 137 rfl) (m7 138 rfl) ⟨Nat.le_of_ble_eq_true rfl, Nat.le_of_ble_eq_true rfl⟩ hK [0] rfl hP hD [0, 1] (by decide) rfl (ci := 7) (q0 := 0) rfl rfl rfl hl.1 rfl (Nat.le_of_ble_eq_true rfl) dX7_command_126 ⟨Nat.zero_le _, Nat.zero_le _⟩) hP hD hS [0, 1] rfl (fun r u h => by rw [h.2]; simp only [List.map_cons, List.map_nil]) (fun r9 u H locs hpost hP hD hS => ?_)
        obtain ⟨hr9, rfl⟩ := hpost
        refine lv_as hr9 ?_
        have hP : va_P D vwCl [(h, .inr (7, [.int (rf), .ref sc, .int (nI (ss)), .int (nI ((tw t ss (ac ps true) 0 99).2)), .int (bI ((tw t ss (ac ps true) 0 99).1 = true)), .int (rb), .int (rl), .ref nw, .ref tr, .ref lk, .ref di, .int (nI (ac9)), .ref kp, .ref ik, .ref lv])), (sc, .inl (cI, 90, .inl t)), (nw, .inl (cI, 151, .inl f))] H := hP
        have hD : va_D A [(h, .inr (7, [.int (rf), .ref sc, .int (nI (ss)), .int (nI ((tw t ss (ac ps true) 0 99).2)), .int (bI ((tw t ss (ac ps true) 0 99).1 = true)), .int (rb), .int (rl), .ref nw, .ref tr, .ref lk, .ref di, .int (nI (ac9)), .ref kp, .ref ik, .ref lv])), (sc, .inl (cI, 90, .inl t)), (nw, .inl (cI, 151, .inl f))] := hD
        refine lv_istore_n (lv' := [(2, .int (tv t ss (ac ps true) 0 99)), (0, .ref h), (1, .int (0))]) hx hb dX7_command_129 rfl hl (by decide) rfl (fun ls hl => ?_)
        refine lv_iload_n hx hb dX7_command_130 rfl (lv_at hl 2 rfl) ?_
        refine lv_if_eq (tgt := 149) hx hb dX7_command_131 (by decide) (fun c131_11 => ?_) (fun c131_11 => ?_)
        · skip
          refine lv_iconst (v := 0) hx hb dX7_command_149 (by decide) ?_
          have hP : va_P D vwCl [(h, .inr (7, [.int (rf), .ref sc, .int (nI (ss)), .int (nI ((cm t ss ps).2)), .int (bI ((cm t ss ps).1 = true)), .int (rb), .int (rl), .ref nw, .ref tr, .ref lk, .ref di, .int (nI (ac9)), .ref kp, .ref ik, .ref lv])), (sc, .inl (cI, 90, .inl t)), (nw, .inl (cI, 151, .inl f))] H := by
            rw [show (nI ((cm t ss ps).2) : Int32) = nI ((tw t ss (ac ps true) 0 99).2) from by rw [cm_c c6_1 c70_2 c114_3]]
            rw [show (bI ((cm t ss ps).1 = true) : Int32) = bI ((tw t ss (ac ps true) 0 99).1 = true) from by rw [cm_c c6_1 c70_2 c114_3]]
            exact hP
          exact gp_retz hX hr hlocks hS hP (P := False) ((bI_0 (fun z => z)).symm) ⟨(bI_0 (fun z => z)).symm, rfl⟩ dX7_command_150
        · skip
          exact absurd c131_11 (by decide)
    · skip
      have c70_2 := bI_t c70_2
      have hac : (ac ps true).2 ≤ ss := ac_tr hp c70_2
      refine lv_aload_n hx hb dX7_command_73 rfl (lv_at hl 0 rfl) ?_
      refine lv_iconst (v := 1) hx hb dX7_command_74 (by decide) ?_
      refine gp_backv (gp_runV hX good7 i7 (c7_accept l D cI h sc nw tr lk di kp ik lv rf rb rl ac9 t ss hss ps (hp) true) q7_accept rfl (m7 124 rfl) (m7 125 rfl) (m7 126 rfl) ⟨Nat.le_of_ble_eq_true rfl, Nat.le_of_ble_eq_true rfl⟩ hK [0] rfl hP hD [0, 1] (by decide) rfl (ci := 7) (q0 := 0) rfl rfl rfl hl.1 rfl (Nat.le_of_ble_eq_true rfl) dX7_command_75 ⟨Nat.zero_le _, Nat.zero_le _⟩) hP hD hS [0, 1] rfl (fun u h => by rw [h]; simp only [List.map_cons, List.map_nil]) (fun u H locs hpost hP hD hS => ?_)
      subst hpost
      have hP : va_P D vwCl [(h, .inr (7, [.int (rf), .ref sc, .int (nI (ss)), .int (nI ((ac ps true).2)), .int (bI ((ac ps true).1 = true)), .int (rb), .int (rl), .ref nw, .ref tr, .ref lk, .ref di, .int (nI (ac9)), .ref kp, .ref ik, .ref lv])), (sc, .inl (cI, 90, .inl t)), (nw, .inl (cI, 151, .inl f))] H := hP
      have hD : va_D A [(h, .inr (7, [.int (rf), .ref sc, .int (nI (ss)), .int (nI ((ac ps true).2)), .int (bI ((ac ps true).1 = true)), .int (rb), .int (rl), .ref nw, .ref tr, .ref lk, .ref di, .int (nI (ac9)), .ref kp, .ref ik, .ref lv])), (sc, .inl (cI, 90, .inl t)), (nw, .inl (cI, 151, .inl f))] := hD
      refine lv_aload_n hx hb dX7_command_78 rfl (lv_at hl 0 rfl) ?_
      refine lv_iconst (v := 0) hx hb dX7_command_79 (by decide) ?_
      refine lv_bipush (v := 15) hx hb dX7_command_80 (by decide) ?_
      refine gp_backi (gp_runV hX good7 i7 (c7_two l D cI h sc nw tr lk di kp ik lv rf rb rl ac9 t ss hss (ac ps true) (hac) 0 15) q7_two rfl (m7 136 rfl) (m7 137 rfl) (m7 138 rfl) ⟨Nat.le_of_ble_eq_true rfl, Nat.le_of_ble_eq_true rfl⟩ hK [0] rfl hP hD [0, 1] (by decide) rfl (ci := 7) (q0 := 0) rfl rfl rfl hl.1 rfl (Nat.le_of_ble_eq_true rfl) dX7_command_82 ⟨Nat.zero_le _, Nat.zero_le _⟩) hP hD hS [0, 1] rfl (fun r u h => by rw [h.2]; simp only [List.map_cons, List.map_nil]) (fun r9 u H locs hpost hP hD hS => ?_)
      obtain ⟨hr9, rfl⟩ := hpost
      refine lv_as hr9 ?_
      have hP : va_P D vwCl [(h, .inr (7, [.int (rf), .ref sc, .int (nI (ss)), .int (nI ((tw t ss (ac ps true) 0 15).2)), .int (bI ((tw t ss (ac ps true) 0 15).1 = true)), .int (rb), .int (rl), .ref nw, .ref tr, .ref lk, .ref di, .int (nI (ac9)), .ref kp, .ref ik, .ref lv])), (sc, .inl (cI, 90, .inl t)), (nw, .inl (cI, 151, .inl f))] H := hP
      have hD : va_D A [(h, .inr (7, [.int (rf), .ref sc, .int (nI (ss)), .int (nI ((tw t ss (ac ps true) 0 15).2)), .int (bI ((tw t ss (ac ps true) 0 15).1 = true)), .int (rb), .int (rl), .ref nw, .ref tr, .ref lk, .ref di, .int (nI (ac9)), .ref kp, .ref ik, .ref lv])), (sc, .inl (cI, 90, .inl t)), (nw, .inl (cI, 151, .inl f))] := hD
      refine lv_istore_n (lv' := [(2, .int (tv t ss (ac ps true) 0 15)), (0, .ref h), (1, .int (0))]) hx hb dX7_command_85 rfl hl (by decide) rfl (fun ls hl => ?_)
      refine lv_iload_n hx hb dX7_command_86 rfl (lv_at hl 2 rfl) ?_
      refine lv_if_eq (tgt := 106) hx hb dX7_command_87 (by decide) (fun c87_12 => ?_) (fun c87_12 => ?_)
      · skip
        refine lv_iconst (v := 0) hx hb dX7_command_106 (by decide) ?_
        have hP : va_P D vwCl [(h, .inr (7, [.int (rf), .ref sc, .int (nI (ss)), .int (nI ((cm t ss ps).2)), .int (bI ((cm t ss ps).1 = true)), .int (rb), .int (rl), .ref nw, .ref tr, .ref lk, .ref di, .int (nI (ac9)), .ref kp, .ref ik, .ref lv])), (sc, .inl (cI, 90, .inl t)), (nw, .inl (cI, 151, .inl f))] H := by
          rw [show (nI ((cm t ss ps).2) : Int32) = nI ((tw t ss (ac ps true) 0 15).2) from by rw [cm_d c6_1 c70_2]]
          rw [show (bI ((cm t ss ps).1 = true) : Int32) = bI ((tw t ss (ac ps true) 0 15).1 = true) from by rw [cm_d c6_1 c70_2]]
          exact hP
        exact gp_retz hX hr hlocks hS hP (P := False) ((bI_0 (fun z => z)).symm) ⟨(bI_0 (fun z => z)).symm, rfl⟩ dX7_command_107
      · skip
        exact absurd c87_12 (by decide)
  · skip
    have c6_1 := bI_t c6_1
    have hac : (ac ps true).2 ≤ ss := ac_tr hp c6_1
    refine lv_aload_n hx hb dX7_command_9 rfl (lv_at hl 0 rfl) ?_
    refine lv_iconst (v := 1) hx hb dX7_command_10 (by decide) ?_
    refine gp_backv (gp_runV hX good7 i7 (c7_accept l D cI h sc nw tr lk di kp ik lv rf rb rl ac9 t ss hss ps (hp) true) q7_accept rfl (m7 124 rfl) (m7 125 rfl) (m7 126 rfl) ⟨Nat.le_of_ble_eq_true rfl, Nat.le_of_ble_eq_true rfl⟩ hK [0] rfl hP hD [0, 1] (by decide) rfl (ci := 7) (q0 := 0) rfl rfl rfl hl.1 rfl (Nat.le_of_ble_eq_true rfl) dX7_command_11 ⟨Nat.zero_le _, Nat.zero_le _⟩) hP hD hS [0, 1] rfl (fun u h => by rw [h]; simp only [List.map_cons, List.map_nil]) (fun u H locs hpost hP hD hS => ?_)
    subst hpost
    have hP : va_P D vwCl [(h, .inr (7, [.int (rf), .ref sc, .int (nI (ss)), .int (nI ((ac ps true).2)), .int (bI ((ac ps true).1 = true)), .int (rb), .int (rl), .ref nw, .ref tr, .ref lk, .ref di, .int (nI (ac9)), .ref kp, .ref ik, .ref lv])), (sc, .inl (cI, 90, .inl t)), (nw, .inl (cI, 151, .inl f))] H := hP
    have hD : va_D A [(h, .inr (7, [.int (rf), .ref sc, .int (nI (ss)), .int (nI ((ac ps true).2)), .int (bI ((ac ps true).1 = true)), .int (rb), .int (rl), .ref nw, .ref tr, .ref lk, .ref di, .int (nI (ac9)), .ref kp, .ref ik, .ref lv])), (sc, .inl (cI, 90, .inl t)), (nw, .inl (cI, 151, .inl f))] := hD
    refine lv_aload_n hx hb dX7_command_14 rfl (lv_at hl 0 rfl) ?_
    refine lv_iconst (v := 0) hx hb dX7_command_15 (by decide) ?_
    refine lv_bipush (v := 15) hx hb dX7_command_16 (by decide) ?_
    refine gp_backi (gp_runV hX good7 i7 (c7_two l D cI h sc nw tr lk di kp ik lv rf rb rl ac9 t ss hss (ac ps true) (hac) 0 15) q7_two rfl (m7 136 rfl) (m7 137 rfl) (m7 138 rfl) ⟨Nat.le_of_ble_eq_true rfl, Nat.le_of_ble_eq_true rfl⟩ hK [0] rfl hP hD [0, 1] (by decide) rfl (ci := 7) (q0 := 0) rfl rfl rfl hl.1 rfl (Nat.le_of_ble_eq_true rfl) dX7_command_18 ⟨Nat.zero_le _, Nat.zero_le _⟩) hP hD hS [0, 1] rfl (fun r u h => by rw [h.2]; simp only [List.map_cons, List.map_nil]) (fun r9 u H locs hpost hP hD hS => ?_)
    obtain ⟨hr9, rfl⟩ := hpost
    refine lv_as hr9 ?_
    have hP : va_P D vwCl [(h, .inr (7, [.int (rf), .ref sc, .int (nI (ss)), .int (nI ((tw t ss (ac ps true) 0 15).2)), .int (bI ((tw t ss (ac ps true) 0 15).1 = true)), .int (rb), .int (rl), .ref nw, .ref tr, .ref lk, .ref di, .int (nI (ac9)), .ref kp, .ref ik, .ref lv])), (sc, .inl (cI, 90, .inl t)), (nw, .inl (cI, 151, .inl f))] H := hP
    have hD : va_D A [(h, .inr (7, [.int (rf), .ref sc, .int (nI (ss)), .int (nI ((tw t ss (ac ps true) 0 15).2)), .int (bI ((tw t ss (ac ps true) 0 15).1 = true)), .int (rb), .int (rl), .ref nw, .ref tr, .ref lk, .ref di, .int (nI (ac9)), .ref kp, .ref ik, .ref lv])), (sc, .inl (cI, 90, .inl t)), (nw, .inl (cI, 151, .inl f))] := hD
    refine lv_istore_n (lv' := [(2, .int (tv t ss (ac ps true) 0 15)), (0, .ref h), (1, .int (0))]) hx hb dX7_command_21 rfl hl (by decide) rfl (fun ls hl => ?_)
    refine lv_bipush (v := 10) hx hb dX7_command_22 (by decide) ?_
    refine lv_aload_n hx hb dX7_command_24 rfl (lv_at hl 1 rfl) ?_
    refine lv_iconst (v := 0) hx hb dX7_command_25 (by decide) ?_
    refine lv_bipush (v := 99) hx hb dX7_command_26 (by decide) ?_
    refine gp_backi (gp_runV hX good7 i7 (c7_two l D cI h sc nw tr lk di kp ik lv rf rb rl ac9 t ss hss (tw t ss (ac ps true) 0 15) (tw_le hac) 0 99) q7_two rfl (m7 136 rfl) (m7 137 rfl) (m7 138 rfl) ⟨Nat.le_of_ble_eq_true rfl, Nat.le_of_ble_eq_true rfl⟩ hK [0] rfl hP hD [0, 1] (by decide) rfl (ci := 7) (q0 := 0) rfl rfl rfl hl.1 rfl (Nat.le_of_ble_eq_true rfl) dX7_command_28 ⟨Nat.zero_le _, Nat.zero_le _⟩) hP hD hS [0, 1] rfl (fun r u h => by rw [h.2]; simp only [List.map_cons, List.map_nil]) (fun r9 u H locs hpost hP hD hS => ?_)
    obtain ⟨hr9, rfl⟩ := hpost
    refine lv_as hr9 ?_
    have hP : va_P D vwCl [(h, .inr (7, [.int (rf), .ref sc, .int (nI (ss)), .int (nI ((tw t ss (tw t ss (ac ps true) 0 15) 0 99).2)), .int (bI ((tw t ss (tw t ss (ac ps true) 0 15) 0 99).1 = true)), .int (rb), .int (rl), .ref nw, .ref tr, .ref lk, .ref di, .int (nI (ac9)), .ref kp, .ref ik, .ref lv])), (sc, .inl (cI, 90, .inl t)), (nw, .inl (cI, 151, .inl f))] H := hP
    have hD : va_D A [(h, .inr (7, [.int (rf), .ref sc, .int (nI (ss)), .int (nI ((tw t ss (tw t ss (ac ps true) 0 15) 0 99).2)), .int (bI ((tw t ss (tw t ss (ac ps true) 0 15) 0 99).1 = true)), .int (rb), .int (rl), .ref nw, .ref tr, .ref lk, .ref di, .int (nI (ac9)), .ref kp, .ref ik, .ref lv])), (sc, .inl (cI, 90, .inl t)), (nw, .inl (cI, 151, .inl f))] := hD
    refine lv_imul hx hb dX7_command_31 ?_
    refine lv_aload_n hx hb dX7_command_32 rfl (lv_at hl 1 rfl) ?_
    refine lv_iconst (v := 0) hx hb dX7_command_33 (by decide) ?_
    refine lv_bipush (v := 9) hx hb dX7_command_34 (by decide) ?_
    refine gp_backi (gp_runV hX good7 i7 (c7_digit l D cI h sc nw tr lk di kp ik lv rf rb rl ac9 t ss hss (tw t ss (tw t ss (ac ps true) 0 15) 0 99) (tw_le (tw_le hac)) 0 9) q7_digit rfl (m7 128 rfl) (m7 129 rfl) (m7 130 rfl) ⟨Nat.le_of_ble_eq_true rfl, Nat.le_of_ble_eq_true rfl⟩ hK [0] rfl hP hD [0, 1] (by decide) rfl (ci := 7) (q0 := 0) rfl rfl rfl hl.1 rfl (Nat.le_of_ble_eq_true rfl) dX7_command_36 ⟨Nat.zero_le _, Nat.zero_le _⟩) hP hD hS [0, 1] rfl (fun r u h => by rw [h.2]; simp only [List.map_cons, List.map_nil]) (fun r9 u H locs hpost hP hD hS => ?_)
    obtain ⟨hr9, rfl⟩ := hpost
    refine lv_as hr9 ?_
    have hP : va_P D vwCl [(h, .inr (7, [.int (rf), .ref sc, .int (nI (ss)), .int (nI ((dg t ss (tw t ss (tw t ss (ac ps true) 0 15) 0 99) 0 9).2)), .int (bI ((dg t ss (tw t ss (tw t ss (ac ps true) 0 15) 0 99) 0 9).1 = true)), .int (rb), .int (rl), .ref nw, .ref tr, .ref lk, .ref di, .int (nI (ac9)), .ref kp, .ref ik, .ref lv])), (sc, .inl (cI, 90, .inl t)), (nw, .inl (cI, 151, .inl f))] H := hP
    have hD : va_D A [(h, .inr (7, [.int (rf), .ref sc, .int (nI (ss)), .int (nI ((dg t ss (tw t ss (tw t ss (ac ps true) 0 15) 0 99) 0 9).2)), .int (bI ((dg t ss (tw t ss (tw t ss (ac ps true) 0 15) 0 99) 0 9).1 = true)), .int (rb), .int (rl), .ref nw, .ref tr, .ref lk, .ref di, .int (nI (ac9)), .ref kp, .ref ik, .ref lv])), (sc, .inl (cI, 90, .inl t)), (nw, .inl (cI, 151, .inl f))] := hD
    refine lv_iadd hx hb dX7_command_39 ?_
    refine lv_istore_n (lv' := [(3, .int ((10 * (tv t ss (tw t ss (ac ps true) 0 15) 0 99)) + (dv t ss (tw t ss (tw t ss (ac ps true) 0 15) 0 99) 0 9))), (2, .int (tv t ss (ac ps true) 0 15)), (0, .ref h), (1, .int (0))]) hx hb dX7_command_40 rfl hl (by decide) rfl (fun ls hl => ?_)
    refine lv_iload_n hx hb dX7_command_41 rfl (lv_at hl 3 rfl) ?_
    refine lv_if_eq (tgt := 62) hx hb dX7_command_42 (by decide) (fun c42_13 => ?_) (fun c42_13 => ?_)
    · skip
      refine lv_iconst (v := 0) hx hb dX7_command_62 (by decide) ?_
      have hP : va_P D vwCl [(h, .inr (7, [.int (rf), .ref sc, .int (nI (ss)), .int (nI ((cm t ss ps).2)), .int (bI ((cm t ss ps).1 = true)), .int (rb), .int (rl), .ref nw, .ref tr, .ref lk, .ref di, .int (nI (ac9)), .ref kp, .ref ik, .ref lv])), (sc, .inl (cI, 90, .inl t)), (nw, .inl (cI, 151, .inl f))] H := by
        rw [show (nI ((cm t ss ps).2) : Int32) = nI ((dg t ss (tw t ss (tw t ss (ac ps true) 0 15) 0 99) 0 9).2) from by rw [cm_p c6_1]]
        rw [show (bI ((cm t ss ps).1 = true) : Int32) = bI ((dg t ss (tw t ss (tw t ss (ac ps true) 0 15) 0 99) 0 9).1 = true) from by rw [cm_p c6_1]]
        exact hP
      exact gp_retz hX hr hlocks hS hP (P := False) ((bI_0 (fun z => z)).symm) ⟨(bI_0 (fun z => z)).symm, rfl⟩ dX7_command_63
    · skip
      exact absurd c42_13 (by decide)
theorem dX7_readText_0 : decode cX7_readText 0 = .ok (.aload_n 0, 1) := by decide +kernel
theorem dX7_readText_1 : decode cX7_readText 1 = .ok (.invokevirtual 199, 3) := by decide +kernel
theorem dX7_readText_4 : decode cX7_readText 4 = .ok (.aload_n 0, 1) := by decide +kernel
theorem dX7_readText_5 : decode cX7_readText 5 = .ok (.getfield 161, 3) := by decide +kernel
theorem dX7_readText_8 : decode cX7_readText 8 = .ok (.ifCond .eq 23, 3) := by decide +kernel
theorem dX7_readText_11 : decode cX7_readText 11 = .ok (.aload_n 0, 1) := by decide +kernel
theorem dX7_readText_12 : decode cX7_readText 12 = .ok (.getfield 158, 3) := by decide +kernel
theorem dX7_readText_15 : decode cX7_readText 15 = .ok (.aload_n 0, 1) := by decide +kernel
theorem dX7_readText_16 : decode cX7_readText 16 = .ok (.getfield 151, 3) := by decide +kernel
theorem dX7_readText_19 : decode cX7_readText 19 = .ok (.if_icmp .ge 12, 3) := by decide +kernel
theorem dX7_readText_22 : decode cX7_readText 22 = .ok (.aload_n 0, 1) := by decide +kernel
theorem dX7_readText_23 : decode cX7_readText 23 = .ok (.iconst 0, 1) := by decide +kernel
theorem dX7_readText_24 : decode cX7_readText 24 = .ok (.invokevirtual 202, 3) := by decide +kernel
theorem dX7_readText_27 : decode cX7_readText 27 = .ok (.pop, 1) := by decide +kernel
theorem dX7_readText_28 : decode cX7_readText 28 = .ok (.goto (-24), 3) := by decide +kernel
theorem dX7_readText_31 : decode cX7_readText 31 = .ok (.aload_n 0, 1) := by decide +kernel
theorem dX7_readText_32 : decode cX7_readText 32 = .ok (.getfield 161, 3) := by decide +kernel
theorem dX7_readText_35 : decode cX7_readText 35 = .ok (.ifCond .eq 8, 3) := by decide +kernel
theorem dX7_readText_38 : decode cX7_readText 38 = .ok (.bipush (-9), 2) := by decide +kernel
theorem dX7_readText_40 : decode cX7_readText 40 = .ok (.goto 7, 3) := by decide +kernel
theorem dX7_readText_43 : decode cX7_readText 43 = .ok (.aload_n 0, 1) := by decide +kernel
theorem dX7_readText_44 : decode cX7_readText 44 = .ok (.getfield 158, 3) := by decide +kernel
theorem dX7_readText_47 : decode cX7_readText 47 = .ok (.ireturn, 1) := by decide +kernel
theorem q7_readText : CQ W7 yX7_readText cX7_readText 1 (some .int) 0 := ⟨(m7 167 rfl), by decide, by decide, by decide +kernel⟩
set_option maxHeartbeats 4000000 in
set_option maxRecDepth 100000 in
theorem c7_readText (l : Launch) (D : va_G) (cI : ClassId) (h sc nw tr lk di kp ik lv : Nat) (rf rb rl : Int32) (ac9 : Nat) (t : Nat → Int32) (ss : Nat) (hss : ss ≤ 90) (ps : Bool × Nat) (hp : 0 ≤ ps.2) (f : Nat → Int32) (n : Nat) (q : Bool × Nat) (hrt : rt t ss n (hd2 t ss) = some q) : GPi l yX7_readText cX7_readText 1 .int W7 15 337 D [(h, .inr (7, [.int (rf), .ref sc, .int (nI (ss)), .int (nI (ps.2)), .int (bI (ps.1 = true)), .int (rb), .int (rl), .ref nw, .ref tr, .ref lk, .ref di, .int (nI (ac9)), .ref kp, .ref ik, .ref lv])), (sc, .inl (cI, 90, .inl t)), (nw, .inl (cI, 151, .inl f))] [(cI, .int)] [.ref h] (fun (r9 : Int32) (u9 : va_W) => r9 = (rtV q) ∧ u9 = [(h, .inr (7, [.int (rf), .ref sc, .int (nI (ss)), .int (nI (q.2)), .int (bI (q.1 = true)), .int (hdB t ss), .int (hdL t ss), .ref nw, .ref tr, .ref lk, .ref di, .int (nI (ac9)), .ref kp, .ref ik, .ref lv])), (sc, .inl (cI, 90, .inl t)), (nw, .inl (cI, 151, .inl f))]) := by
  refine gp_of RX7 (by decide) rfl (Nat.le_of_ble_eq_true rfl) ?_
  intro p e s m below meth c ls H hX hr hlocks hK hP hD hS hl
  generalize gp_A [(h, .inr (7, [.int (rf), .ref sc, .int (nI (ss)), .int (nI (ps.2)), .int (bI (ps.1 = true)), .int (rb), .int (rl), .ref nw, .ref tr, .ref lk, .ref di, .int (nI (ac9)), .ref kp, .ref ik, .ref lv])), (sc, .inl (cI, 90, .inl t)), (nw, .inl (cI, 151, .inl f))] = A at hD hS ⊢
  have hx := hX.1
  have hb := hX.2.1
  have hown := hX.2.2.2.1
  have hts := hX.2.2.2.2
  have hl : lv_has ls 1 [(0, .ref h)] := hl
  refine lv_aload_n hx hb dX7_readText_0 rfl (lv_at hl 0 rfl) ?_
  refine gp_backv (gp_runV hX good7 i7 (c7_head l D cI h sc nw tr lk di kp ik lv rf rb rl ac9 t ss hss ps (by omega) ) q7_head rfl (m7 156 rfl) (m7 157 rfl) (m7 158 rfl) ⟨Nat.le_of_ble_eq_true rfl, Nat.le_of_ble_eq_true rfl⟩ hK [0] rfl hP hD [0, 1] (by decide) rfl (ci := 7) (q0 := 0) rfl rfl rfl hl.1 rfl (Nat.le_of_ble_eq_true rfl) dX7_readText_1 ⟨Nat.zero_le _, Nat.zero_le _⟩) hP hD hS [0, 1] rfl (fun u h => by rw [h]; simp only [List.map_cons, List.map_nil]) (fun u H locs hpost hP hD hS => ?_)
  subst hpost
  have hP : va_P D vwCl [(h, .inr (7, [.int (rf), .ref sc, .int (nI (ss)), .int (nI ((hd2 t ss).2)), .int (bI ((hd2 t ss).1 = true)), .int (hdB t ss), .int (hdL t ss), .ref nw, .ref tr, .ref lk, .ref di, .int (nI (ac9)), .ref kp, .ref ik, .ref lv])), (sc, .inl (cI, 90, .inl t)), (nw, .inl (cI, 151, .inl f))] H := hP
  have hD : va_D A [(h, .inr (7, [.int (rf), .ref sc, .int (nI (ss)), .int (nI ((hd2 t ss).2)), .int (bI ((hd2 t ss).1 = true)), .int (hdB t ss), .int (hdL t ss), .ref nw, .ref tr, .ref lk, .ref di, .int (nI (ac9)), .ref kp, .ref ik, .ref lv])), (sc, .inl (cI, 90, .inl t)), (nw, .inl (cI, 151, .inl f))] := hD
  have LP4 : ∀ n9 : Nat, ∀ (n8 : Nat) (q8 : Bool × Nat), (hq8 : q8.2 ≤ ss) → (hr8 : rt t ss n8 q8 = some q) → n8 < n9 → ∀ (H : Heap) (locs : List Loc), va_P D vwCl [(h, .inr (7, [.int (rf), .ref sc, .int (nI (ss)), .int (nI (q8.2)), .int (bI (q8.1 = true)), .int (hdB t ss), .int (hdL t ss), .ref nw, .ref tr, .ref lk, .ref di, .int (nI (ac9)), .ref kp, .ref ik, .ref lv])), (sc, .inl (cI, 90, .inl t)), (nw, .inl (cI, 151, .inl f))] H → va_D A [(h, .inr (7, [.int (rf), .ref sc, .int (nI (ss)), .int (nI (q8.2)), .int (bI (q8.1 = true)), .int (hdB t ss), .int (hdL t ss), .ref nw, .ref tr, .ref lk, .ref di, .int (nI (ac9)), .ref kp, .ref ik, .ref lv])), (sc, .inl (cI, 90, .inl t)), (nw, .inl (cI, 151, .inl f))] → va_S A s.heap H locs → ∀ ls : Array Slot, lv_has ls 1 [(0, .ref h)] → W p l e ({ frames := 15, cells := 0, slots := 0, locals := 337 } : Room) s m ([.ref h] : List Value).toArray below meth c H locs 0 0 (MQ below (va_Qi (fun (r9 : Int32) (u9 : va_W) => r9 = (rtV q) ∧ u9 = [(h, .inr (7, [.int (rf), .ref sc, .int (nI (ss)), .int (nI (q.2)), .int (bI (q.1 = true)), .int (hdB t ss), .int (hdL t ss), .ref nw, .ref tr, .ref lk, .ref di, .int (nI (ac9)), .ref kp, .ref ik, .ref lv])), (sc, .inl (cI, 90, .inl t)), (nw, .inl (cI, 151, .inl f))]) (fun u t => va_P D vwCl u t.heap) A) ([.ref h] : List Value).toArray s 0 0 A) (F0 m 4 ls []) := by
    intro n9
    induction n9 with
    | zero => intros; omega
    | succ n9 ih4 =>
      intro n8 q8 hq8 hr8 hm9 H locs hP hD hS ls hl
      obtain ⟨n7, rfl⟩ : ∃ n7, n8 = n7 + 1 := by cases n8 with | zero => cases hr8 | succ n => exact ⟨n, rfl⟩
      rw [rt] at hr8
      refine lv_aload_n hx hb dX7_readText_4 rfl (lv_at hl 0 rfl) ?_
      refine va_get (D := D) (ci := 7) (v := .int (bI (q8.1 = true))) (C := RX7) (T := TX7) (N := 15) hx hb hts u7 hown hK hP 0 rfl rfl 4 (by decide) (hts _ (m7 122 rfl)) (fun _ h9 => h9) rfl dX7_readText_5 ?_
      refine lv_if_eq (tgt := 31) hx hb dX7_readText_8 (by decide) (fun c8_1 => ?_) (fun c8_1 => ?_)
      · skip
        have c8_1 := bI_f c8_1
        rw [if_neg (fun z => c8_1 z.1)] at hr8
        have e9 : q8 = q := Option.some.inj hr8
        refine lv_aload_n hx hb dX7_readText_31 rfl (lv_at hl 0 rfl) ?_
        refine va_get (D := D) (ci := 7) (v := .int (bI (q8.1 = true))) (C := RX7) (T := TX7) (N := 15) hx hb hts u7 hown hK hP 0 rfl rfl 4 (by decide) (hts _ (m7 122 rfl)) (fun _ h9 => h9) rfl dX7_readText_32 ?_
        refine lv_if_eq (tgt := 43) hx hb dX7_readText_35 (by decide) (fun c35_2 => ?_) (fun c35_2 => ?_)
        · skip
          have c35_2 := bI_f c35_2
          refine lv_aload_n hx hb dX7_readText_43 rfl (lv_at hl 0 rfl) ?_
          refine va_get (D := D) (ci := 7) (v := .int (nI (q8.2))) (C := RX7) (T := TX7) (N := 15) hx hb hts u7 hown hK hP 0 rfl rfl 3 (by decide) (hts _ (m7 121 rfl)) (fun _ h9 => h9) rfl dX7_readText_44 ?_
          have hP : va_P D vwCl [(h, .inr (7, [.int (rf), .ref sc, .int (nI (ss)), .int (nI (q.2)), .int (bI (q.1 = true)), .int (hdB t ss), .int (hdL t ss), .ref nw, .ref tr, .ref lk, .ref di, .int (nI (ac9)), .ref kp, .ref ik, .ref lv])), (sc, .inl (cI, 90, .inl t)), (nw, .inl (cI, 151, .inl f))] H := by
            rw [show (nI (q.2) : Int32) = nI (q8.2) from by rw [e9]]
            rw [show (bI (q.1 = true) : Int32) = bI (q8.1 = true) from by rw [e9]]
            exact hP
          exact gp_reti hX hr hlocks hS hP ⟨by rw [rtV, ← e9, if_neg c35_2], rfl⟩ dX7_readText_47
        · skip
          have c35_2 := bI_t c35_2
          exact absurd c35_2 c8_1
      · skip
        have c8_1 := bI_t c8_1
        refine lv_aload_n hx hb dX7_readText_11 rfl (lv_at hl 0 rfl) ?_
        refine va_get (D := D) (ci := 7) (v := .int (nI (q8.2))) (C := RX7) (T := TX7) (N := 15) hx hb hts u7 hown hK hP 0 rfl rfl 3 (by decide) (hts _ (m7 121 rfl)) (fun _ h9 => h9) rfl dX7_readText_12 ?_
        refine lv_aload_n hx hb dX7_readText_15 rfl (lv_at hl 0 rfl) ?_
        refine va_get (D := D) (ci := 7) (v := .int (nI (ss))) (C := RX7) (T := TX7) (N := 15) hx hb hts u7 hown hK hP 0 rfl rfl 2 (by decide) (hts _ (m7 113 rfl)) (fun _ h9 => h9) rfl dX7_readText_16 ?_
        refine lv_icmp_ge (tgt := 31) hx hb dX7_readText_19 (by decide) (fun c19_3 => ?_) (fun c19_3 => ?_)
        · skip
          have c19_3 := cn_le (a := ss) (b := q8.2) (by omega) (by omega) c19_3
          rw [if_neg (fun z => absurd z.2 (by omega))] at hr8
          have e9 : q8 = q := Option.some.inj hr8
          refine lv_aload_n hx hb dX7_readText_31 rfl (lv_at hl 0 rfl) ?_
          refine va_get (D := D) (ci := 7) (v := .int (bI (q8.1 = true))) (C := RX7) (T := TX7) (N := 15) hx hb hts u7 hown hK hP 0 rfl rfl 4 (by decide) (hts _ (m7 122 rfl)) (fun _ h9 => h9) rfl dX7_readText_32 ?_
          refine lv_if_eq (tgt := 43) hx hb dX7_readText_35 (by decide) (fun c35_4 => ?_) (fun c35_4 => ?_)
          · skip
            have c35_4 := bI_f c35_4
            exact absurd c8_1 c35_4
          · skip
            have c35_4 := bI_t c35_4
            refine lv_bipush (v := (-9)) hx hb dX7_readText_38 (by decide) ?_
            refine lv_goto (tgt := 47) hx hb dX7_readText_40 (by decide) ?_
            have hP : va_P D vwCl [(h, .inr (7, [.int (rf), .ref sc, .int (nI (ss)), .int (nI (q.2)), .int (bI (q.1 = true)), .int (hdB t ss), .int (hdL t ss), .ref nw, .ref tr, .ref lk, .ref di, .int (nI (ac9)), .ref kp, .ref ik, .ref lv])), (sc, .inl (cI, 90, .inl t)), (nw, .inl (cI, 151, .inl f))] H := by
              rw [show (nI (q.2) : Int32) = nI (q8.2) from by rw [e9]]
              rw [show (bI (q.1 = true) : Int32) = bI (q8.1 = true) from by rw [e9]]
              exact hP
            exact gp_reti hX hr hlocks hS hP ⟨by rw [rtV, ← e9, if_pos c35_4], rfl⟩ dX7_readText_47
        · skip
          have c19_3 := cn_nle (a := ss) (b := q8.2) (by omega) (by omega) c19_3
          refine lv_aload_n hx hb dX7_readText_22 rfl (lv_at hl 0 rfl) ?_
          refine lv_iconst (v := 0) hx hb dX7_readText_23 (by decide) ?_
          refine gp_backi (gp_runV hX good7 i7 (c7_commandF l D cI h sc nw tr lk di kp ik lv rf (hdB t ss) (hdL t ss) ac9 t ss hss q8 (by omega) f) q7_command rfl (m7 160 rfl) (m7 161 rfl) (m7 162 rfl) ⟨Nat.le_of_ble_eq_true rfl, Nat.le_of_ble_eq_true rfl⟩ hK [0] rfl hP hD [0, 1, 2] (by decide) rfl (ci := 7) (q0 := 0) rfl rfl rfl hl.1 rfl (Nat.le_of_ble_eq_true rfl) dX7_readText_24 ⟨Nat.zero_le _, Nat.zero_le _⟩) hP hD hS [0, 1, 2] rfl (fun r u h => by rw [h.2]; simp only [List.map_cons, List.map_nil]) (fun r9 u H locs hpost hP hD hS => ?_)
          obtain ⟨hr9, rfl⟩ := hpost
          refine lv_as hr9 ?_
          have hP : va_P D vwCl [(h, .inr (7, [.int (rf), .ref sc, .int (nI (ss)), .int (nI ((cm t ss q8).2)), .int (bI ((cm t ss q8).1 = true)), .int (hdB t ss), .int (hdL t ss), .ref nw, .ref tr, .ref lk, .ref di, .int (nI (ac9)), .ref kp, .ref ik, .ref lv])), (sc, .inl (cI, 90, .inl t)), (nw, .inl (cI, 151, .inl f))] H := hP
          have hD : va_D A [(h, .inr (7, [.int (rf), .ref sc, .int (nI (ss)), .int (nI ((cm t ss q8).2)), .int (bI ((cm t ss q8).1 = true)), .int (hdB t ss), .int (hdL t ss), .ref nw, .ref tr, .ref lk, .ref di, .int (nI (ac9)), .ref kp, .ref ik, .ref lv])), (sc, .inl (cI, 90, .inl t)), (nw, .inl (cI, 151, .inl f))] := hD
          refine lv_pop hx hb dX7_readText_27 rfl ?_
          refine lv_goto (tgt := 4) hx hb dX7_readText_28 (by decide) ?_
          exact ih4 n7 (cm t ss q8) (cm_le hq8) (by rw [if_pos ⟨c8_1, c19_3⟩] at hr8; exact hr8) (by omega) _ _ hP hD hS _ (lv_sub hl [0] rfl)
  exact LP4 (n + 1) n (hd2 t ss) (hd2_le) (hrt) (by omega) _ _ hP hD hS _ (lv_sub hl [0] rfl)
theorem dX7_errorPosition_0 : decode cX7_errorPosition 0 = .ok (.aload_n 0, 1) := by decide +kernel
theorem dX7_errorPosition_1 : decode cX7_errorPosition 1 = .ok (.iconst 0, 1) := by decide +kernel
theorem dX7_errorPosition_2 : decode cX7_errorPosition 2 = .ok (.putfield 39, 3) := by decide +kernel
theorem dX7_errorPosition_5 : decode cX7_errorPosition 5 = .ok (.aload_n 0, 1) := by decide +kernel
theorem dX7_errorPosition_6 : decode cX7_errorPosition 6 = .ok (.invokevirtual 206, 3) := by decide +kernel
theorem dX7_errorPosition_9 : decode cX7_errorPosition 9 = .ok (.ireturn, 1) := by decide +kernel
set_option maxHeartbeats 4000000 in
set_option maxRecDepth 100000 in
theorem c7_errorPosition (l : Launch) (D : va_G) (cI : ClassId) (h sc nw tr lk di kp ik lv : Nat) (rf rb rl : Int32) (ac9 : Nat) (t : Nat → Int32) (ss : Nat) (hss : ss ≤ 90) (ps : Bool × Nat) (hp : 0 ≤ ps.2) (f : Nat → Int32) (n : Nat) (q : Bool × Nat) (hrt : rt t ss n (hd2 t ss) = some q) : GPi l yX7_errorPosition cX7_errorPosition 1 .int W7 16 357 D [(h, .inr (7, [.int (rf), .ref sc, .int (nI (ss)), .int (nI (ps.2)), .int (bI (ps.1 = true)), .int (rb), .int (rl), .ref nw, .ref tr, .ref lk, .ref di, .int (nI (ac9)), .ref kp, .ref ik, .ref lv])), (sc, .inl (cI, 90, .inl t)), (nw, .inl (cI, 151, .inl f))] [(cI, .int)] [.ref h] (fun (r9 : Int32) (u9 : va_W) => r9 = (rtV q) ∧ u9 = [(h, .inr (7, [.int (0), .ref sc, .int (nI (ss)), .int (nI (q.2)), .int (bI (q.1 = true)), .int (hdB t ss), .int (hdL t ss), .ref nw, .ref tr, .ref lk, .ref di, .int (nI (ac9)), .ref kp, .ref ik, .ref lv])), (sc, .inl (cI, 90, .inl t)), (nw, .inl (cI, 151, .inl f))]) := by
  refine gp_of RX7 (by decide) rfl (Nat.le_of_ble_eq_true rfl) ?_
  intro p e s m below meth c ls H hX hr hlocks hK hP hD hS hl
  generalize gp_A [(h, .inr (7, [.int (rf), .ref sc, .int (nI (ss)), .int (nI (ps.2)), .int (bI (ps.1 = true)), .int (rb), .int (rl), .ref nw, .ref tr, .ref lk, .ref di, .int (nI (ac9)), .ref kp, .ref ik, .ref lv])), (sc, .inl (cI, 90, .inl t)), (nw, .inl (cI, 151, .inl f))] = A at hD hS ⊢
  have hx := hX.1
  have hb := hX.2.1
  have hown := hX.2.2.2.1
  have hts := hX.2.2.2.2
  have hl : lv_has ls 1 [(0, .ref h)] := hl
  refine lv_aload_n hx hb dX7_errorPosition_0 rfl (lv_at hl 0 rfl) ?_
  refine lv_iconst (v := 0) hx hb dX7_errorPosition_1 (by decide) ?_
  refine va_put (D := D) (ci := 7) (v := .int (0)) (ty := .int) (C := RX7) (T := TX7) (N := 15) hx hb hts u7 tyX7 tyX7_ok nmX7 hown hK hP hD hS 0 rfl rfl 0 (by decide) (hts _ (m7 17 rfl)) (fun _ h9 => h9) rfl (by decide +kernel) rfl rfl (Nat.le_of_ble_eq_true rfl) dX7_errorPosition_2 (fun H locs hP hD hS => ?_)
  have hP : va_P D vwCl [(h, .inr (7, [.int (0), .ref sc, .int (nI (ss)), .int (nI (ps.2)), .int (bI (ps.1 = true)), .int (rb), .int (rl), .ref nw, .ref tr, .ref lk, .ref di, .int (nI (ac9)), .ref kp, .ref ik, .ref lv])), (sc, .inl (cI, 90, .inl t)), (nw, .inl (cI, 151, .inl f))] H := hP
  have hD : va_D A [(h, .inr (7, [.int (0), .ref sc, .int (nI (ss)), .int (nI (ps.2)), .int (bI (ps.1 = true)), .int (rb), .int (rl), .ref nw, .ref tr, .ref lk, .ref di, .int (nI (ac9)), .ref kp, .ref ik, .ref lv])), (sc, .inl (cI, 90, .inl t)), (nw, .inl (cI, 151, .inl f))] := hD
  refine lv_aload_n hx hb dX7_errorPosition_5 rfl (lv_at hl 0 rfl) ?_
  refine gp_backi (gp_runV hX good7 i7 (c7_readText l D cI h sc nw tr lk di kp ik lv 0 rb rl ac9 t ss hss ps (hp) f n q hrt) q7_readText rfl (m7 164 rfl) (m7 165 rfl) (m7 166 rfl) ⟨Nat.le_of_ble_eq_true rfl, Nat.le_of_ble_eq_true rfl⟩ hK [0] rfl hP hD [0, 1, 2] (by decide) rfl (ci := 7) (q0 := 0) rfl rfl rfl hl.1 rfl (Nat.le_of_ble_eq_true rfl) dX7_errorPosition_6 ⟨Nat.zero_le _, Nat.zero_le _⟩) hP hD hS [0, 1, 2] rfl (fun r u h => by rw [h.2]; simp only [List.map_cons, List.map_nil]) (fun r9 u H locs hpost hP hD hS => ?_)
  obtain ⟨hr9, rfl⟩ := hpost
  refine lv_as hr9 ?_
  have hP : va_P D vwCl [(h, .inr (7, [.int (0), .ref sc, .int (nI (ss)), .int (nI (q.2)), .int (bI (q.1 = true)), .int (hdB t ss), .int (hdL t ss), .ref nw, .ref tr, .ref lk, .ref di, .int (nI (ac9)), .ref kp, .ref ik, .ref lv])), (sc, .inl (cI, 90, .inl t)), (nw, .inl (cI, 151, .inl f))] H := hP
  have hD : va_D A [(h, .inr (7, [.int (0), .ref sc, .int (nI (ss)), .int (nI (q.2)), .int (bI (q.1 = true)), .int (hdB t ss), .int (hdL t ss), .ref nw, .ref tr, .ref lk, .ref di, .int (nI (ac9)), .ref kp, .ref ik, .ref lv])), (sc, .inl (cI, 90, .inl t)), (nw, .inl (cI, 151, .inl f))] := hD
  exact gp_reti hX hr hlocks hS hP ⟨rfl, rfl⟩ dX7_errorPosition_9
theorem dX7_command_45 : decode cX7_command 45 = .ok (.aload_n 0, 1) := by decide +kernel
theorem dX7_command_46 : decode cX7_command 46 = .ok (.aload_n 0, 1) := by decide +kernel
theorem dX7_command_47 : decode cX7_command 47 = .ok (.getfield 13, 3) := by decide +kernel
theorem dX7_command_50 : decode cX7_command 50 = .ok (.iload_n 2, 1) := by decide +kernel
theorem dX7_command_51 : decode cX7_command 51 = .ok (.iload_n 3, 1) := by decide +kernel
theorem dX7_command_52 : decode cX7_command 52 = .ok (.invokevirtual 138, 3) := by decide +kernel
theorem dX7_command_55 : decode cX7_command 55 = .ok (.ifCond .ne 7, 3) := by decide +kernel
theorem dX7_command_58 : decode cX7_command 58 = .ok (.iconst 1, 1) := by decide +kernel
theorem dX7_command_59 : decode cX7_command 59 = .ok (.goto 4, 3) := by decide +kernel
theorem dX7_command_90 : decode cX7_command 90 = .ok (.aload_n 0, 1) := by decide +kernel
theorem dX7_command_91 : decode cX7_command 91 = .ok (.aload_n 0, 1) := by decide +kernel
theorem dX7_command_92 : decode cX7_command 92 = .ok (.getfield 13, 3) := by decide +kernel
theorem dX7_command_95 : decode cX7_command 95 = .ok (.iload_n 2, 1) := by decide +kernel
theorem dX7_command_96 : decode cX7_command 96 = .ok (.invokevirtual 181, 3) := by decide +kernel
theorem dX7_command_99 : decode cX7_command 99 = .ok (.ifCond .ne 7, 3) := by decide +kernel
theorem dX7_command_102 : decode cX7_command 102 = .ok (.iconst 1, 1) := by decide +kernel
theorem dX7_command_103 : decode cX7_command 103 = .ok (.goto 4, 3) := by decide +kernel
theorem dX7_command_134 : decode cX7_command 134 = .ok (.aload_n 0, 1) := by decide +kernel
theorem dX7_command_135 : decode cX7_command 135 = .ok (.getfield 13, 3) := by decide +kernel
theorem dX7_command_138 : decode cX7_command 138 = .ok (.iload_n 2, 1) := by decide +kernel
theorem dX7_command_139 : decode cX7_command 139 = .ok (.invokestatic 184, 3) := by decide +kernel
theorem dX7_command_142 : decode cX7_command 142 = .ok (.ifCond .ne 7, 3) := by decide +kernel
theorem dX7_command_145 : decode cX7_command 145 = .ok (.iconst 1, 1) := by decide +kernel
theorem dX7_command_146 : decode cX7_command 146 = .ok (.goto 4, 3) := by decide +kernel
theorem dX7_command_182 : decode cX7_command 182 = .ok (.iload_n 2, 1) := by decide +kernel
theorem dX7_command_183 : decode cX7_command 183 = .ok (.goto 10, 3) := by decide +kernel
theorem dX7_command_229 : decode cX7_command 229 = .ok (.iload_n 2, 1) := by decide +kernel
theorem dX7_command_230 : decode cX7_command 230 = .ok (.ifCond .eq 17, 3) := by decide +kernel
theorem dX7_command_233 : decode cX7_command 233 = .ok (.aload_n 0, 1) := by decide +kernel
theorem dX7_command_234 : decode cX7_command 234 = .ok (.aload_n 0, 1) := by decide +kernel
theorem dX7_command_235 : decode cX7_command 235 = .ok (.getfield 13, 3) := by decide +kernel
theorem dX7_command_238 : decode cX7_command 238 = .ok (.invokevirtual 187, 3) := by decide +kernel
theorem dX7_command_241 : decode cX7_command 241 = .ok (.ifCond .ne 20, 3) := by decide +kernel
theorem dX7_command_244 : decode cX7_command 244 = .ok (.goto 13, 3) := by decide +kernel
theorem dX7_command_247 : decode cX7_command 247 = .ok (.aload_n 0, 1) := by decide +kernel
theorem dX7_command_248 : decode cX7_command 248 = .ok (.getfield 13, 3) := by decide +kernel
theorem dX7_command_251 : decode cX7_command 251 = .ok (.invokestatic 190, 3) := by decide +kernel
theorem dX7_command_254 : decode cX7_command 254 = .ok (.ifCond .ne 7, 3) := by decide +kernel
theorem dX7_command_257 : decode cX7_command 257 = .ok (.iconst 1, 1) := by decide +kernel
theorem dX7_command_258 : decode cX7_command 258 = .ok (.goto 4, 3) := by decide +kernel
set_option maxHeartbeats 4000000 in
set_option maxRecDepth 100000 in
theorem c7_commandT (l : Launch) (D : va_G) (cI : ClassId) (h sc nw tr lk di kp ik lv : Nat) (rf rb rl : Int32) (ac9 : Nat) (t : Nat → Int32) (ss : Nat) (hss : ss ≤ 90) (ps : Bool × Nat) (hp : ps.2 ≤ ss) (f flk fl : Nat → Int32) (B : Nat) (hO : Ok f B) : GPi l yX7_command cX7_command 4 .boolean W7 14 314 D [(h, .inr (7, [.int (rf), .ref sc, .int (nI (ss)), .int (nI (ps.2)), .int (bI (ps.1 = true)), .int (rb), .int (rl), .ref nw, .ref tr, .ref lk, .ref di, .int (nI (ac9)), .ref kp, .ref ik, .ref lv])), (sc, .inl (cI, 90, .inl t)), (nw, .inl (cI, 151, .inl f)), (lk, .inl (cI, 151, .inl flk)), (lv, .inl (cI, 4, .inl fl))] [(cI, .int)] [.ref h, .int (1)] (fun (r9 : Int32) (u9 : va_W) => r9 = (bI (cmX t ss ps f B)) ∧ ∃ fl9 : Nat → Int32, ∃ lk9 : Nat → Int32, u9 = [(h, .inr (7, [.int (rf), .ref sc, .int (nI (ss)), .int (nI ((cm t ss ps).2)), .int (bI ((cm t ss ps).1 = true)), .int (rb), .int (rl), .ref nw, .ref tr, .ref lk, .ref di, .int (nI (ac9)), .ref kp, .ref ik, .ref lv])), (sc, .inl (cI, 90, .inl t)), (nw, .inl (cI, 151, .inl (cmR t ss ps f B))), (lk, .inl (cI, 151, .inl lk9)), (lv, .inl (cI, 4, .inl fl9))]) := by
  refine gp_of RX7 (by decide) rfl (Nat.le_of_ble_eq_true rfl) ?_
  intro p e s m below meth c ls H hX hr hlocks hK hP hD hS hl
  generalize gp_A [(h, .inr (7, [.int (rf), .ref sc, .int (nI (ss)), .int (nI (ps.2)), .int (bI (ps.1 = true)), .int (rb), .int (rl), .ref nw, .ref tr, .ref lk, .ref di, .int (nI (ac9)), .ref kp, .ref ik, .ref lv])), (sc, .inl (cI, 90, .inl t)), (nw, .inl (cI, 151, .inl f)), (lk, .inl (cI, 151, .inl flk)), (lv, .inl (cI, 4, .inl fl))] = A at hD hS ⊢
  have hx := hX.1
  have hb := hX.2.1
  have hown := hX.2.2.2.1
  have hts := hX.2.2.2.2
  have hl : lv_has ls 4 [(0, .ref h), (1, .int (1))] := hl
  refine lv_aload_n hx hb dX7_command_0 rfl (lv_at hl 0 rfl) ?_
  refine lv_bipush (v := 112) hx hb dX7_command_1 (by decide) ?_
  refine rp_callV hX good7 i7 (c7_isNext l D cI h sc nw tr lk di kp ik lv rf rb rl ac9 t ss hss ps (hp) 112) q7_isNext rfl (m7 132 rfl) (m7 133 rfl) (m7 134 rfl) ⟨Nat.le_of_ble_eq_true rfl, Nat.le_of_ble_eq_true rfl⟩ hK [0] rfl hP [0, 1] rfl (ci := 7) (q0 := 0) rfl rfl rfl hS hl.1 rfl (Nat.le_of_ble_eq_true rfl) dX7_command_3 ⟨Nat.zero_le _, Nat.zero_le _⟩ (fun H locs hP hS => ?_)
  refine lv_if_eq (tgt := 64) hx hb dX7_command_6 (by decide) (fun c6_1 => ?_) (fun c6_1 => ?_)
  · skip
    have c6_1 := bI_f c6_1
    refine lv_aload_n hx hb dX7_command_64 rfl (lv_at hl 0 rfl) ?_
    refine lv_bipush (v := 100) hx hb dX7_command_65 (by decide) ?_
    refine rp_callV hX good7 i7 (c7_isNext l D cI h sc nw tr lk di kp ik lv rf rb rl ac9 t ss hss ps (by omega) 100) q7_isNext rfl (m7 132 rfl) (m7 133 rfl) (m7 134 rfl) ⟨Nat.le_of_ble_eq_true rfl, Nat.le_of_ble_eq_true rfl⟩ hK [0] rfl hP [0, 1] rfl (ci := 7) (q0 := 0) rfl rfl rfl hS hl.1 rfl (Nat.le_of_ble_eq_true rfl) dX7_command_67 ⟨Nat.zero_le _, Nat.zero_le _⟩ (fun H locs hP hS => ?_)
    refine lv_if_eq (tgt := 108) hx hb dX7_command_70 (by decide) (fun c70_2 => ?_) (fun c70_2 => ?_)
    · skip
      have c70_2 := bI_f c70_2
      refine lv_aload_n hx hb dX7_command_108 rfl (lv_at hl 0 rfl) ?_
      refine lv_bipush (v := 99) hx hb dX7_command_109 (by decide) ?_
      refine rp_callV hX good7 i7 (c7_isNext l D cI h sc nw tr lk di kp ik lv rf rb rl ac9 t ss hss ps (by omega) 99) q7_isNext rfl (m7 132 rfl) (m7 133 rfl) (m7 134 rfl) ⟨Nat.le_of_ble_eq_true rfl, Nat.le_of_ble_eq_true rfl⟩ hK [0] rfl hP [0, 1] rfl (ci := 7) (q0 := 0) rfl rfl rfl hS hl.1 rfl (Nat.le_of_ble_eq_true rfl) dX7_command_111 ⟨Nat.zero_le _, Nat.zero_le _⟩ (fun H locs hP hS => ?_)
      refine lv_if_eq (tgt := 151) hx hb dX7_command_114 (by decide) (fun c114_3 => ?_) (fun c114_3 => ?_)
      · skip
        have c114_3 := bI_f c114_3
        refine lv_aload_n hx hb dX7_command_151 rfl (lv_at hl 0 rfl) ?_
        refine lv_bipush (v := 113) hx hb dX7_command_152 (by decide) ?_
        refine rp_callV hX good7 i7 (c7_isNext l D cI h sc nw tr lk di kp ik lv rf rb rl ac9 t ss hss ps (by omega) 113) q7_isNext rfl (m7 132 rfl) (m7 133 rfl) (m7 134 rfl) ⟨Nat.le_of_ble_eq_true rfl, Nat.le_of_ble_eq_true rfl⟩ hK [0] rfl hP [0, 1] rfl (ci := 7) (q0 := 0) rfl rfl rfl hS hl.1 rfl (Nat.le_of_ble_eq_true rfl) dX7_command_154 ⟨Nat.zero_le _, Nat.zero_le _⟩ (fun H locs hP hS => ?_)
        refine lv_if_eq (tgt := 196) hx hb dX7_command_157 (by decide) (fun c157_4 => ?_) (fun c157_4 => ?_)
        · skip
          have c157_4 := bI_f c157_4
          refine lv_aload_n hx hb dX7_command_196 rfl (lv_at hl 0 rfl) ?_
          refine lv_bipush (v := 119) hx hb dX7_command_197 (by decide) ?_
          refine rp_callV hX good7 i7 (c7_isNext l D cI h sc nw tr lk di kp ik lv rf rb rl ac9 t ss hss ps (by omega) 119) q7_isNext rfl (m7 132 rfl) (m7 133 rfl) (m7 134 rfl) ⟨Nat.le_of_ble_eq_true rfl, Nat.le_of_ble_eq_true rfl⟩ hK [0] rfl hP [0, 1] rfl (ci := 7) (q0 := 0) rfl rfl rfl hS hl.1 rfl (Nat.le_of_ble_eq_true rfl) dX7_command_199 ⟨Nat.zero_le _, Nat.zero_le _⟩ (fun H locs hP hS => ?_)
          refine lv_istore_n (lv' := [(2, .int (bI (nxtP t ss ps.2 119))), (0, .ref h), (1, .int (1))]) hx hb dX7_command_202 rfl hl (by decide) rfl (fun ls hl => ?_)
          refine lv_aload_n hx hb dX7_command_203 rfl (lv_at hl 1 rfl) ?_
          refine lv_iload_n hx hb dX7_command_204 rfl (lv_at hl 0 rfl) ?_
          refine lv_if_ne (tgt := 217) hx hb dX7_command_205 (by decide) (fun c205_5 => ?_) (fun c205_5 => ?_)
          · skip
            have c205_5 := bI_t c205_5
            refine lv_iconst (v := 1) hx hb dX7_command_217 (by decide) ?_
            refine lv_goto (tgt := 222) hx hb dX7_command_218 (by decide) ?_
            refine lv_as (show (1 : Int32) = bI ((decide (nxtP t ss ps.2 119) || decide (nxtP t ss ps.2 115)) = true) from (bI_1 ((Bool.or_eq_true _ _).mpr (Or.inl (decide_eq_true c205_5)))).symm) ?_
            refine gp_backv (gp_runV hX good7 i7 (c7_accept l D cI h sc nw tr lk di kp ik lv rf rb rl ac9 t ss hss ps (by omega) (decide (nxtP t ss ps.2 119) || decide (nxtP t ss ps.2 115))) q7_accept rfl (m7 124 rfl) (m7 125 rfl) (m7 126 rfl) ⟨Nat.le_of_ble_eq_true rfl, Nat.le_of_ble_eq_true rfl⟩ hK [0] rfl hP hD [0, 1] (by decide) rfl (ci := 7) (q0 := 0) rfl rfl rfl hl.1 rfl (Nat.le_of_ble_eq_true rfl) dX7_command_222 ⟨Nat.zero_le _, Nat.zero_le _⟩) hP hD hS [0, 1] rfl (fun u h => by rw [h]; simp only [List.map_cons, List.map_nil]) (fun u H locs hpost hP hD hS => ?_)
            subst hpost
            have hP : va_P D vwCl [(h, .inr (7, [.int (rf), .ref sc, .int (nI (ss)), .int (nI ((ac ps (decide (nxtP t ss ps.2 119) || decide (nxtP t ss ps.2 115))).2)), .int (bI ((ac ps (decide (nxtP t ss ps.2 119) || decide (nxtP t ss ps.2 115))).1 = true)), .int (rb), .int (rl), .ref nw, .ref tr, .ref lk, .ref di, .int (nI (ac9)), .ref kp, .ref ik, .ref lv])), (sc, .inl (cI, 90, .inl t)), (nw, .inl (cI, 151, .inl f)), (lk, .inl (cI, 151, .inl flk)), (lv, .inl (cI, 4, .inl fl))] H := hP
            have hD : va_D A [(h, .inr (7, [.int (rf), .ref sc, .int (nI (ss)), .int (nI ((ac ps (decide (nxtP t ss ps.2 119) || decide (nxtP t ss ps.2 115))).2)), .int (bI ((ac ps (decide (nxtP t ss ps.2 119) || decide (nxtP t ss ps.2 115))).1 = true)), .int (rb), .int (rl), .ref nw, .ref tr, .ref lk, .ref di, .int (nI (ac9)), .ref kp, .ref ik, .ref lv])), (sc, .inl (cI, 90, .inl t)), (nw, .inl (cI, 151, .inl f)), (lk, .inl (cI, 151, .inl flk)), (lv, .inl (cI, 4, .inl fl))] := hD
            refine lv_iload_n hx hb dX7_command_225 rfl (lv_at hl 2 rfl) ?_
            refine lv_if_eq (tgt := 261) hx hb dX7_command_226 (by decide) (fun c226_6 => ?_) (fun c226_6 => ?_)
            · skip
              exact absurd c226_6 (by decide)
            · skip
              refine lv_iload_n hx hb dX7_command_229 rfl (lv_at hl 0 rfl) ?_
              refine lv_if_eq (tgt := 247) hx hb dX7_command_230 (by decide) (fun c230_7 => ?_) (fun c230_7 => ?_)
              · skip
                have c230_7 := bI_f c230_7
                exact absurd c205_5 c230_7
              · skip
                have c230_7 := bI_t c230_7
                refine lv_aload_n hx hb dX7_command_233 rfl (lv_at hl 1 rfl) ?_
                refine lv_aload_n hx hb dX7_command_234 rfl (lv_at hl 1 rfl) ?_
                refine va_get (D := D) (ci := 7) (v := .ref nw) (C := RX7) (T := TX7) (N := 15) hx hb hts u7 hown hK hP 0 rfl rfl 7 (by decide) (hts _ (m7 5 rfl)) (fun _ h9 => h9) rfl dX7_command_235 ?_
                refine gp_backi (gp_runV hX good7 i7 (c7_doSweep l D cI h lv nw [.int (rf), .ref sc, .int (nI (ss)), .int (nI ((ac ps (decide (nxtP t ss ps.2 119) || decide (nxtP t ss ps.2 115))).2)), .int (bI ((ac ps (decide (nxtP t ss ps.2 119) || decide (nxtP t ss ps.2 115))).1 = true)), .int (rb), .int (rl), .ref nw, .ref tr, .ref lk, .ref di, .int (nI (ac9)), .ref kp, .ref ik, .ref lv] fl f B hO.1 rfl (swpT f B).1 (swpT f B).2 (ok_swp hO)) q7_doSweep rfl (m7 147 rfl) (m7 148 rfl) (m7 149 rfl) ⟨Nat.le_of_ble_eq_true rfl, Nat.le_of_ble_eq_true rfl⟩ hK [0] rfl hP hD [0, 4, 2] (by decide) rfl (ci := 7) (q0 := 0) rfl rfl rfl hl.1 rfl (Nat.le_of_ble_eq_true rfl) dX7_command_238 ⟨Nat.zero_le _, Nat.zero_le _⟩) hP hD hS [0, 4, 2] rfl (fun r u h => by obtain ⟨-, x8, rfl⟩ := h; simp only [List.map_cons, List.map_nil]) (fun r9 u H locs hpost hP hD hS => ?_)
                obtain ⟨hr9, x8, rfl⟩ := hpost
                refine lv_as hr9 ?_
                have hP : va_P D vwCl [(h, .inr (7, [.int (rf), .ref sc, .int (nI (ss)), .int (nI ((ac ps (decide (nxtP t ss ps.2 119) || decide (nxtP t ss ps.2 115))).2)), .int (bI ((ac ps (decide (nxtP t ss ps.2 119) || decide (nxtP t ss ps.2 115))).1 = true)), .int (rb), .int (rl), .ref nw, .ref tr, .ref lk, .ref di, .int (nI (ac9)), .ref kp, .ref ik, .ref lv])), (sc, .inl (cI, 90, .inl t)), (nw, .inl (cI, 151, .inl ((swpT f B).2))), (lk, .inl (cI, 151, .inl flk)), (lv, .inl (cI, 4, .inl x8))] H := hP
                have hD : va_D A [(h, .inr (7, [.int (rf), .ref sc, .int (nI (ss)), .int (nI ((ac ps (decide (nxtP t ss ps.2 119) || decide (nxtP t ss ps.2 115))).2)), .int (bI ((ac ps (decide (nxtP t ss ps.2 119) || decide (nxtP t ss ps.2 115))).1 = true)), .int (rb), .int (rl), .ref nw, .ref tr, .ref lk, .ref di, .int (nI (ac9)), .ref kp, .ref ik, .ref lv])), (sc, .inl (cI, 90, .inl t)), (nw, .inl (cI, 151, .inl ((swpT f B).2))), (lk, .inl (cI, 151, .inl flk)), (lv, .inl (cI, 4, .inl x8))] := hD
                refine lv_if_ne (tgt := 261) hx hb dX7_command_241 (by decide) (fun c241_9 => ?_) (fun c241_9 => ?_)
                · skip
                  have c241_9 := bI_t c241_9
                  refine lv_iconst (v := 0) hx hb dX7_command_261 (by decide) ?_
                  have hP : va_P D vwCl [(h, .inr (7, [.int (rf), .ref sc, .int (nI (ss)), .int (nI ((cm t ss ps).2)), .int (bI ((cm t ss ps).1 = true)), .int (rb), .int (rl), .ref nw, .ref tr, .ref lk, .ref di, .int (nI (ac9)), .ref kp, .ref ik, .ref lv])), (sc, .inl (cI, 90, .inl t)), (nw, .inl (cI, 151, .inl ((swpT f B).2))), (lk, .inl (cI, 151, .inl flk)), (lv, .inl (cI, 4, .inl x8))] H := by
                    rw [show (nI ((cm t ss ps).2) : Int32) = nI ((ac ps (decide (nxtP t ss ps.2 119) || decide (nxtP t ss ps.2 115))).2) from by rw [cm_w c6_1 c70_2 c114_3 c157_4]]
                    rw [show (bI ((cm t ss ps).1 = true) : Int32) = bI ((ac ps (decide (nxtP t ss ps.2 119) || decide (nxtP t ss ps.2 115))).1 = true) from by rw [cm_w c6_1 c70_2 c114_3 c157_4]]
                    exact hP
                  have hP : va_P D vwCl [(h, .inr (7, [.int (rf), .ref sc, .int (nI (ss)), .int (nI ((cm t ss ps).2)), .int (bI ((cm t ss ps).1 = true)), .int (rb), .int (rl), .ref nw, .ref tr, .ref lk, .ref di, .int (nI (ac9)), .ref kp, .ref ik, .ref lv])), (sc, .inl (cI, 90, .inl t)), (nw, .inl (cI, 151, .inl (cmR t ss ps f B))), (lk, .inl (cI, 151, .inl flk)), (lv, .inl (cI, 4, .inl x8))] H := by
                    rw [show (cmR t ss ps f B : Nat → Int32) = (swpT f B).2 from by rw [cmR, if_neg c6_1, if_neg c70_2, if_neg c114_3, if_neg c157_4, if_pos c230_7]]
                    exact hP
                  exact gp_retz hX hr hlocks hS hP (P := cmX t ss ps f B) ((bI_0 (by rw [cmX, if_neg c6_1, if_neg c70_2, if_neg c114_3, if_neg c157_4, if_pos c230_7]; exact c241_9)).symm) ⟨(bI_0 (by rw [cmX, if_neg c6_1, if_neg c70_2, if_neg c114_3, if_neg c157_4, if_pos c230_7]; exact c241_9)).symm, _, _, rfl⟩ dX7_command_262
                · skip
                  have c241_9 := bI_f c241_9
                  refine lv_goto (tgt := 257) hx hb dX7_command_244 (by decide) ?_
                  refine lv_iconst (v := 1) hx hb dX7_command_257 (by decide) ?_
                  refine lv_goto (tgt := 262) hx hb dX7_command_258 (by decide) ?_
                  have hP : va_P D vwCl [(h, .inr (7, [.int (rf), .ref sc, .int (nI (ss)), .int (nI ((cm t ss ps).2)), .int (bI ((cm t ss ps).1 = true)), .int (rb), .int (rl), .ref nw, .ref tr, .ref lk, .ref di, .int (nI (ac9)), .ref kp, .ref ik, .ref lv])), (sc, .inl (cI, 90, .inl t)), (nw, .inl (cI, 151, .inl ((swpT f B).2))), (lk, .inl (cI, 151, .inl flk)), (lv, .inl (cI, 4, .inl x8))] H := by
                    rw [show (nI ((cm t ss ps).2) : Int32) = nI ((ac ps (decide (nxtP t ss ps.2 119) || decide (nxtP t ss ps.2 115))).2) from by rw [cm_w c6_1 c70_2 c114_3 c157_4]]
                    rw [show (bI ((cm t ss ps).1 = true) : Int32) = bI ((ac ps (decide (nxtP t ss ps.2 119) || decide (nxtP t ss ps.2 115))).1 = true) from by rw [cm_w c6_1 c70_2 c114_3 c157_4]]
                    exact hP
                  have hP : va_P D vwCl [(h, .inr (7, [.int (rf), .ref sc, .int (nI (ss)), .int (nI ((cm t ss ps).2)), .int (bI ((cm t ss ps).1 = true)), .int (rb), .int (rl), .ref nw, .ref tr, .ref lk, .ref di, .int (nI (ac9)), .ref kp, .ref ik, .ref lv])), (sc, .inl (cI, 90, .inl t)), (nw, .inl (cI, 151, .inl (cmR t ss ps f B))), (lk, .inl (cI, 151, .inl flk)), (lv, .inl (cI, 4, .inl x8))] H := by
                    rw [show (cmR t ss ps f B : Nat → Int32) = (swpT f B).2 from by rw [cmR, if_neg c6_1, if_neg c70_2, if_neg c114_3, if_neg c157_4, if_pos c230_7]]
                    exact hP
                  exact gp_retz hX hr hlocks hS hP (P := cmX t ss ps f B) ((bI_1 (by rw [cmX, if_neg c6_1, if_neg c70_2, if_neg c114_3, if_neg c157_4, if_pos c230_7]; exact Classical.not_not.mp c241_9)).symm) ⟨(bI_1 (by rw [cmX, if_neg c6_1, if_neg c70_2, if_neg c114_3, if_neg c157_4, if_pos c230_7]; exact Classical.not_not.mp c241_9)).symm, _, _, rfl⟩ dX7_command_262
          · skip
            have c205_5 := bI_f c205_5
            refine lv_aload_n hx hb dX7_command_208 rfl (lv_at hl 1 rfl) ?_
            refine lv_bipush (v := 115) hx hb dX7_command_209 (by decide) ?_
            refine rp_callV hX good7 i7 (c7_isNext l D cI h sc nw tr lk di kp ik lv rf rb rl ac9 t ss hss ps (by omega) 115) q7_isNext rfl (m7 132 rfl) (m7 133 rfl) (m7 134 rfl) ⟨Nat.le_of_ble_eq_true rfl, Nat.le_of_ble_eq_true rfl⟩ hK [0] rfl hP [0, 1] rfl (ci := 7) (q0 := 0) rfl rfl rfl hS hl.1 rfl (Nat.le_of_ble_eq_true rfl) dX7_command_211 ⟨Nat.zero_le _, Nat.zero_le _⟩ (fun H locs hP hS => ?_)
            refine lv_if_eq (tgt := 221) hx hb dX7_command_214 (by decide) (fun c214_10 => ?_) (fun c214_10 => ?_)
            · skip
              have c214_10 := bI_f c214_10
              refine lv_iconst (v := 0) hx hb dX7_command_221 (by decide) ?_
              refine lv_as (show (0 : Int32) = bI ((decide (nxtP t ss ps.2 119) || decide (nxtP t ss ps.2 115)) = true) from (bI_0 (fun z => ((Bool.or_eq_true _ _).mp z).elim (fun y => c205_5 (of_decide_eq_true y)) (fun y => c214_10 (of_decide_eq_true y)))).symm) ?_
              refine gp_backv (gp_runV hX good7 i7 (c7_accept l D cI h sc nw tr lk di kp ik lv rf rb rl ac9 t ss hss ps (by omega) (decide (nxtP t ss ps.2 119) || decide (nxtP t ss ps.2 115))) q7_accept rfl (m7 124 rfl) (m7 125 rfl) (m7 126 rfl) ⟨Nat.le_of_ble_eq_true rfl, Nat.le_of_ble_eq_true rfl⟩ hK [0] rfl hP hD [0, 1] (by decide) rfl (ci := 7) (q0 := 0) rfl rfl rfl hl.1 rfl (Nat.le_of_ble_eq_true rfl) dX7_command_222 ⟨Nat.zero_le _, Nat.zero_le _⟩) hP hD hS [0, 1] rfl (fun u h => by rw [h]; simp only [List.map_cons, List.map_nil]) (fun u H locs hpost hP hD hS => ?_)
              subst hpost
              have hP : va_P D vwCl [(h, .inr (7, [.int (rf), .ref sc, .int (nI (ss)), .int (nI ((ac ps (decide (nxtP t ss ps.2 119) || decide (nxtP t ss ps.2 115))).2)), .int (bI ((ac ps (decide (nxtP t ss ps.2 119) || decide (nxtP t ss ps.2 115))).1 = true)), .int (rb), .int (rl), .ref nw, .ref tr, .ref lk, .ref di, .int (nI (ac9)), .ref kp, .ref ik, .ref lv])), (sc, .inl (cI, 90, .inl t)), (nw, .inl (cI, 151, .inl f)), (lk, .inl (cI, 151, .inl flk)), (lv, .inl (cI, 4, .inl fl))] H := hP
              have hD : va_D A [(h, .inr (7, [.int (rf), .ref sc, .int (nI (ss)), .int (nI ((ac ps (decide (nxtP t ss ps.2 119) || decide (nxtP t ss ps.2 115))).2)), .int (bI ((ac ps (decide (nxtP t ss ps.2 119) || decide (nxtP t ss ps.2 115))).1 = true)), .int (rb), .int (rl), .ref nw, .ref tr, .ref lk, .ref di, .int (nI (ac9)), .ref kp, .ref ik, .ref lv])), (sc, .inl (cI, 90, .inl t)), (nw, .inl (cI, 151, .inl f)), (lk, .inl (cI, 151, .inl flk)), (lv, .inl (cI, 4, .inl fl))] := hD
              refine lv_iload_n hx hb dX7_command_225 rfl (lv_at hl 2 rfl) ?_
              refine lv_if_eq (tgt := 261) hx hb dX7_command_226 (by decide) (fun c226_11 => ?_) (fun c226_11 => ?_)
              · skip
                exact absurd c226_11 (by decide)
              · skip
                refine lv_iload_n hx hb dX7_command_229 rfl (lv_at hl 0 rfl) ?_
                refine lv_if_eq (tgt := 247) hx hb dX7_command_230 (by decide) (fun c230_12 => ?_) (fun c230_12 => ?_)
                · skip
                  have c230_12 := bI_f c230_12
                  refine lv_aload_n hx hb dX7_command_247 rfl (lv_at hl 1 rfl) ?_
                  refine va_get (D := D) (ci := 7) (v := .ref nw) (C := RX7) (T := TX7) (N := 15) hx hb hts u7 hown hK hP 0 rfl rfl 7 (by decide) (hts _ (m7 5 rfl)) (fun _ h9 => h9) rfl dX7_command_248 ?_
                  refine gp_backi (gp_runS hX good7 i7 (c7_doStart l D cI nw f B hO.1.1 hO.1.2.1) q7_doStart rfl (m7 151 rfl) (m7 152 rfl) ⟨Nat.le_of_ble_eq_true rfl, Nat.le_of_ble_eq_true rfl⟩ hK [0] rfl hP hD [2] (by decide) rfl hl.1 rfl (Nat.le_of_ble_eq_true rfl) dX7_command_251 ⟨Nat.zero_le _, Nat.zero_le _⟩) hP hD hS [2] rfl (fun r u h => by rw [h.2]; simp only [List.map_cons, List.map_nil]) (fun r9 u H locs hpost hP hD hS => ?_)
                  obtain ⟨hr9, rfl⟩ := hpost
                  refine lv_as hr9 ?_
                  have hP : va_P D vwCl [(h, .inr (7, [.int (rf), .ref sc, .int (nI (ss)), .int (nI ((ac ps (decide (nxtP t ss ps.2 119) || decide (nxtP t ss ps.2 115))).2)), .int (bI ((ac ps (decide (nxtP t ss ps.2 119) || decide (nxtP t ss ps.2 115))).1 = true)), .int (rb), .int (rl), .ref nw, .ref tr, .ref lk, .ref di, .int (nI (ac9)), .ref kp, .ref ik, .ref lv])), (sc, .inl (cI, 90, .inl t)), (nw, .inl (cI, 151, .inl (if f 2 = 1 then f else puR f B))), (lk, .inl (cI, 151, .inl flk)), (lv, .inl (cI, 4, .inl fl))] H := hP
                  have hD : va_D A [(h, .inr (7, [.int (rf), .ref sc, .int (nI (ss)), .int (nI ((ac ps (decide (nxtP t ss ps.2 119) || decide (nxtP t ss ps.2 115))).2)), .int (bI ((ac ps (decide (nxtP t ss ps.2 119) || decide (nxtP t ss ps.2 115))).1 = true)), .int (rb), .int (rl), .ref nw, .ref tr, .ref lk, .ref di, .int (nI (ac9)), .ref kp, .ref ik, .ref lv])), (sc, .inl (cI, 90, .inl t)), (nw, .inl (cI, 151, .inl (if f 2 = 1 then f else puR f B))), (lk, .inl (cI, 151, .inl flk)), (lv, .inl (cI, 4, .inl fl))] := hD
                  refine lv_if_ne (tgt := 261) hx hb dX7_command_254 (by decide) (fun c254_13 => ?_) (fun c254_13 => ?_)
                  · skip
                    have c254_13 := bI_t c254_13
                    refine lv_iconst (v := 0) hx hb dX7_command_261 (by decide) ?_
                    have hP : va_P D vwCl [(h, .inr (7, [.int (rf), .ref sc, .int (nI (ss)), .int (nI ((cm t ss ps).2)), .int (bI ((cm t ss ps).1 = true)), .int (rb), .int (rl), .ref nw, .ref tr, .ref lk, .ref di, .int (nI (ac9)), .ref kp, .ref ik, .ref lv])), (sc, .inl (cI, 90, .inl t)), (nw, .inl (cI, 151, .inl (if f 2 = 1 then f else puR f B))), (lk, .inl (cI, 151, .inl flk)), (lv, .inl (cI, 4, .inl fl))] H := by
                      rw [show (nI ((cm t ss ps).2) : Int32) = nI ((ac ps (decide (nxtP t ss ps.2 119) || decide (nxtP t ss ps.2 115))).2) from by rw [cm_w c6_1 c70_2 c114_3 c157_4]]
                      rw [show (bI ((cm t ss ps).1 = true) : Int32) = bI ((ac ps (decide (nxtP t ss ps.2 119) || decide (nxtP t ss ps.2 115))).1 = true) from by rw [cm_w c6_1 c70_2 c114_3 c157_4]]
                      exact hP
                    have hP : va_P D vwCl [(h, .inr (7, [.int (rf), .ref sc, .int (nI (ss)), .int (nI ((cm t ss ps).2)), .int (bI ((cm t ss ps).1 = true)), .int (rb), .int (rl), .ref nw, .ref tr, .ref lk, .ref di, .int (nI (ac9)), .ref kp, .ref ik, .ref lv])), (sc, .inl (cI, 90, .inl t)), (nw, .inl (cI, 151, .inl (cmR t ss ps f B))), (lk, .inl (cI, 151, .inl flk)), (lv, .inl (cI, 4, .inl fl))] H := by
                      rw [show (cmR t ss ps f B : Nat → Int32) = if f 2 = 1 then f else puR f B from by rw [cmR, if_neg c6_1, if_neg c70_2, if_neg c114_3, if_neg c157_4, if_neg c230_12]; rfl]
                      exact hP
                    exact gp_retz hX hr hlocks hS hP (P := cmX t ss ps f B) ((bI_0 (by rw [cmX, if_neg c6_1, if_neg c70_2, if_neg c114_3, if_neg c157_4, if_neg c230_12]; exact c254_13)).symm) ⟨(bI_0 (by rw [cmX, if_neg c6_1, if_neg c70_2, if_neg c114_3, if_neg c157_4, if_neg c230_12]; exact c254_13)).symm, _, _, rfl⟩ dX7_command_262
                  · skip
                    have c254_13 := bI_f c254_13
                    refine lv_iconst (v := 1) hx hb dX7_command_257 (by decide) ?_
                    refine lv_goto (tgt := 262) hx hb dX7_command_258 (by decide) ?_
                    have hP : va_P D vwCl [(h, .inr (7, [.int (rf), .ref sc, .int (nI (ss)), .int (nI ((cm t ss ps).2)), .int (bI ((cm t ss ps).1 = true)), .int (rb), .int (rl), .ref nw, .ref tr, .ref lk, .ref di, .int (nI (ac9)), .ref kp, .ref ik, .ref lv])), (sc, .inl (cI, 90, .inl t)), (nw, .inl (cI, 151, .inl (if f 2 = 1 then f else puR f B))), (lk, .inl (cI, 151, .inl flk)), (lv, .inl (cI, 4, .inl fl))] H := by
                      rw [show (nI ((cm t ss ps).2) : Int32) = nI ((ac ps (decide (nxtP t ss ps.2 119) || decide (nxtP t ss ps.2 115))).2) from by rw [cm_w c6_1 c70_2 c114_3 c157_4]]
                      rw [show (bI ((cm t ss ps).1 = true) : Int32) = bI ((ac ps (decide (nxtP t ss ps.2 119) || decide (nxtP t ss ps.2 115))).1 = true) from by rw [cm_w c6_1 c70_2 c114_3 c157_4]]
                      exact hP
                    have hP : va_P D vwCl [(h, .inr (7, [.int (rf), .ref sc, .int (nI (ss)), .int (nI ((cm t ss ps).2)), .int (bI ((cm t ss ps).1 = true)), .int (rb), .int (rl), .ref nw, .ref tr, .ref lk, .ref di, .int (nI (ac9)), .ref kp, .ref ik, .ref lv])), (sc, .inl (cI, 90, .inl t)), (nw, .inl (cI, 151, .inl (cmR t ss ps f B))), (lk, .inl (cI, 151, .inl flk)), (lv, .inl (cI, 4, .inl fl))] H := by
                      rw [show (cmR t ss ps f B : Nat → Int32) = if f 2 = 1 then f else puR f B from by rw [cmR, if_neg c6_1, if_neg c70_2, if_neg c114_3, if_neg c157_4, if_neg c230_12]; rfl]
                      exact hP
                    exact gp_retz hX hr hlocks hS hP (P := cmX t ss ps f B) ((bI_1 (by rw [cmX, if_neg c6_1, if_neg c70_2, if_neg c114_3, if_neg c157_4, if_neg c230_12]; exact Classical.not_not.mp c254_13)).symm) ⟨(bI_1 (by rw [cmX, if_neg c6_1, if_neg c70_2, if_neg c114_3, if_neg c157_4, if_neg c230_12]; exact Classical.not_not.mp c254_13)).symm, _, _, rfl⟩ dX7_command_262
                · skip
                  have c230_12 := bI_t c230_12
                  exact absurd c230_12 c205_5
            · skip
              have c214_10 := bI_t c214_10
              refine lv_iconst (v := 1) hx hb dX7_command_217 (by decide) ?_
              refine lv_goto (tgt := 222) hx hb dX7_command_218 (by decide) ?_
              refine lv_as (show (1 : Int32) = bI ((decide (nxtP t ss ps.2 119) || decide (nxtP t ss ps.2 115)) = true) from (bI_1 ((Bool.or_eq_true _ _).mpr (Or.inr (decide_eq_true c214_10)))).symm) ?_
              refine gp_backv (gp_runV hX good7 i7 (c7_accept l D cI h sc nw tr lk di kp ik lv rf rb rl ac9 t ss hss ps (by omega) (decide (nxtP t ss ps.2 119) || decide (nxtP t ss ps.2 115))) q7_accept rfl (m7 124 rfl) (m7 125 rfl) (m7 126 rfl) ⟨Nat.le_of_ble_eq_true rfl, Nat.le_of_ble_eq_true rfl⟩ hK [0] rfl hP hD [0, 1] (by decide) rfl (ci := 7) (q0 := 0) rfl rfl rfl hl.1 rfl (Nat.le_of_ble_eq_true rfl) dX7_command_222 ⟨Nat.zero_le _, Nat.zero_le _⟩) hP hD hS [0, 1] rfl (fun u h => by rw [h]; simp only [List.map_cons, List.map_nil]) (fun u H locs hpost hP hD hS => ?_)
              subst hpost
              have hP : va_P D vwCl [(h, .inr (7, [.int (rf), .ref sc, .int (nI (ss)), .int (nI ((ac ps (decide (nxtP t ss ps.2 119) || decide (nxtP t ss ps.2 115))).2)), .int (bI ((ac ps (decide (nxtP t ss ps.2 119) || decide (nxtP t ss ps.2 115))).1 = true)), .int (rb), .int (rl), .ref nw, .ref tr, .ref lk, .ref di, .int (nI (ac9)), .ref kp, .ref ik, .ref lv])), (sc, .inl (cI, 90, .inl t)), (nw, .inl (cI, 151, .inl f)), (lk, .inl (cI, 151, .inl flk)), (lv, .inl (cI, 4, .inl fl))] H := hP
              have hD : va_D A [(h, .inr (7, [.int (rf), .ref sc, .int (nI (ss)), .int (nI ((ac ps (decide (nxtP t ss ps.2 119) || decide (nxtP t ss ps.2 115))).2)), .int (bI ((ac ps (decide (nxtP t ss ps.2 119) || decide (nxtP t ss ps.2 115))).1 = true)), .int (rb), .int (rl), .ref nw, .ref tr, .ref lk, .ref di, .int (nI (ac9)), .ref kp, .ref ik, .ref lv])), (sc, .inl (cI, 90, .inl t)), (nw, .inl (cI, 151, .inl f)), (lk, .inl (cI, 151, .inl flk)), (lv, .inl (cI, 4, .inl fl))] := hD
              refine lv_iload_n hx hb dX7_command_225 rfl (lv_at hl 2 rfl) ?_
              refine lv_if_eq (tgt := 261) hx hb dX7_command_226 (by decide) (fun c226_14 => ?_) (fun c226_14 => ?_)
              · skip
                exact absurd c226_14 (by decide)
              · skip
                refine lv_iload_n hx hb dX7_command_229 rfl (lv_at hl 0 rfl) ?_
                refine lv_if_eq (tgt := 247) hx hb dX7_command_230 (by decide) (fun c230_15 => ?_) (fun c230_15 => ?_)
                · skip
                  have c230_15 := bI_f c230_15
                  refine lv_aload_n hx hb dX7_command_247 rfl (lv_at hl 1 rfl) ?_
                  refine va_get (D := D) (ci := 7) (v := .ref nw) (C := RX7) (T := TX7) (N := 15) hx hb hts u7 hown hK hP 0 rfl rfl 7 (by decide) (hts _ (m7 5 rfl)) (fun _ h9 => h9) rfl dX7_command_248 ?_
                  refine gp_backi (gp_runS hX good7 i7 (c7_doStart l D cI nw f B hO.1.1 hO.1.2.1) q7_doStart rfl (m7 151 rfl) (m7 152 rfl) ⟨Nat.le_of_ble_eq_true rfl, Nat.le_of_ble_eq_true rfl⟩ hK [0] rfl hP hD [2] (by decide) rfl hl.1 rfl (Nat.le_of_ble_eq_true rfl) dX7_command_251 ⟨Nat.zero_le _, Nat.zero_le _⟩) hP hD hS [2] rfl (fun r u h => by rw [h.2]; simp only [List.map_cons, List.map_nil]) (fun r9 u H locs hpost hP hD hS => ?_)
                  obtain ⟨hr9, rfl⟩ := hpost
                  refine lv_as hr9 ?_
                  have hP : va_P D vwCl [(h, .inr (7, [.int (rf), .ref sc, .int (nI (ss)), .int (nI ((ac ps (decide (nxtP t ss ps.2 119) || decide (nxtP t ss ps.2 115))).2)), .int (bI ((ac ps (decide (nxtP t ss ps.2 119) || decide (nxtP t ss ps.2 115))).1 = true)), .int (rb), .int (rl), .ref nw, .ref tr, .ref lk, .ref di, .int (nI (ac9)), .ref kp, .ref ik, .ref lv])), (sc, .inl (cI, 90, .inl t)), (nw, .inl (cI, 151, .inl (if f 2 = 1 then f else puR f B))), (lk, .inl (cI, 151, .inl flk)), (lv, .inl (cI, 4, .inl fl))] H := hP
                  have hD : va_D A [(h, .inr (7, [.int (rf), .ref sc, .int (nI (ss)), .int (nI ((ac ps (decide (nxtP t ss ps.2 119) || decide (nxtP t ss ps.2 115))).2)), .int (bI ((ac ps (decide (nxtP t ss ps.2 119) || decide (nxtP t ss ps.2 115))).1 = true)), .int (rb), .int (rl), .ref nw, .ref tr, .ref lk, .ref di, .int (nI (ac9)), .ref kp, .ref ik, .ref lv])), (sc, .inl (cI, 90, .inl t)), (nw, .inl (cI, 151, .inl (if f 2 = 1 then f else puR f B))), (lk, .inl (cI, 151, .inl flk)), (lv, .inl (cI, 4, .inl fl))] := hD
                  refine lv_if_ne (tgt := 261) hx hb dX7_command_254 (by decide) (fun c254_16 => ?_) (fun c254_16 => ?_)
                  · skip
                    have c254_16 := bI_t c254_16
                    refine lv_iconst (v := 0) hx hb dX7_command_261 (by decide) ?_
                    have hP : va_P D vwCl [(h, .inr (7, [.int (rf), .ref sc, .int (nI (ss)), .int (nI ((cm t ss ps).2)), .int (bI ((cm t ss ps).1 = true)), .int (rb), .int (rl), .ref nw, .ref tr, .ref lk, .ref di, .int (nI (ac9)), .ref kp, .ref ik, .ref lv])), (sc, .inl (cI, 90, .inl t)), (nw, .inl (cI, 151, .inl (if f 2 = 1 then f else puR f B))), (lk, .inl (cI, 151, .inl flk)), (lv, .inl (cI, 4, .inl fl))] H := by
                      rw [show (nI ((cm t ss ps).2) : Int32) = nI ((ac ps (decide (nxtP t ss ps.2 119) || decide (nxtP t ss ps.2 115))).2) from by rw [cm_w c6_1 c70_2 c114_3 c157_4]]
                      rw [show (bI ((cm t ss ps).1 = true) : Int32) = bI ((ac ps (decide (nxtP t ss ps.2 119) || decide (nxtP t ss ps.2 115))).1 = true) from by rw [cm_w c6_1 c70_2 c114_3 c157_4]]
                      exact hP
                    have hP : va_P D vwCl [(h, .inr (7, [.int (rf), .ref sc, .int (nI (ss)), .int (nI ((cm t ss ps).2)), .int (bI ((cm t ss ps).1 = true)), .int (rb), .int (rl), .ref nw, .ref tr, .ref lk, .ref di, .int (nI (ac9)), .ref kp, .ref ik, .ref lv])), (sc, .inl (cI, 90, .inl t)), (nw, .inl (cI, 151, .inl (cmR t ss ps f B))), (lk, .inl (cI, 151, .inl flk)), (lv, .inl (cI, 4, .inl fl))] H := by
                      rw [show (cmR t ss ps f B : Nat → Int32) = if f 2 = 1 then f else puR f B from by rw [cmR, if_neg c6_1, if_neg c70_2, if_neg c114_3, if_neg c157_4, if_neg c230_15]; rfl]
                      exact hP
                    exact gp_retz hX hr hlocks hS hP (P := cmX t ss ps f B) ((bI_0 (by rw [cmX, if_neg c6_1, if_neg c70_2, if_neg c114_3, if_neg c157_4, if_neg c230_15]; exact c254_16)).symm) ⟨(bI_0 (by rw [cmX, if_neg c6_1, if_neg c70_2, if_neg c114_3, if_neg c157_4, if_neg c230_15]; exact c254_16)).symm, _, _, rfl⟩ dX7_command_262
                  · skip
                    have c254_16 := bI_f c254_16
                    refine lv_iconst (v := 1) hx hb dX7_command_257 (by decide) ?_
                    refine lv_goto (tgt := 262) hx hb dX7_command_258 (by decide) ?_
                    have hP : va_P D vwCl [(h, .inr (7, [.int (rf), .ref sc, .int (nI (ss)), .int (nI ((cm t ss ps).2)), .int (bI ((cm t ss ps).1 = true)), .int (rb), .int (rl), .ref nw, .ref tr, .ref lk, .ref di, .int (nI (ac9)), .ref kp, .ref ik, .ref lv])), (sc, .inl (cI, 90, .inl t)), (nw, .inl (cI, 151, .inl (if f 2 = 1 then f else puR f B))), (lk, .inl (cI, 151, .inl flk)), (lv, .inl (cI, 4, .inl fl))] H := by
                      rw [show (nI ((cm t ss ps).2) : Int32) = nI ((ac ps (decide (nxtP t ss ps.2 119) || decide (nxtP t ss ps.2 115))).2) from by rw [cm_w c6_1 c70_2 c114_3 c157_4]]
                      rw [show (bI ((cm t ss ps).1 = true) : Int32) = bI ((ac ps (decide (nxtP t ss ps.2 119) || decide (nxtP t ss ps.2 115))).1 = true) from by rw [cm_w c6_1 c70_2 c114_3 c157_4]]
                      exact hP
                    have hP : va_P D vwCl [(h, .inr (7, [.int (rf), .ref sc, .int (nI (ss)), .int (nI ((cm t ss ps).2)), .int (bI ((cm t ss ps).1 = true)), .int (rb), .int (rl), .ref nw, .ref tr, .ref lk, .ref di, .int (nI (ac9)), .ref kp, .ref ik, .ref lv])), (sc, .inl (cI, 90, .inl t)), (nw, .inl (cI, 151, .inl (cmR t ss ps f B))), (lk, .inl (cI, 151, .inl flk)), (lv, .inl (cI, 4, .inl fl))] H := by
                      rw [show (cmR t ss ps f B : Nat → Int32) = if f 2 = 1 then f else puR f B from by rw [cmR, if_neg c6_1, if_neg c70_2, if_neg c114_3, if_neg c157_4, if_neg c230_15]; rfl]
                      exact hP
                    exact gp_retz hX hr hlocks hS hP (P := cmX t ss ps f B) ((bI_1 (by rw [cmX, if_neg c6_1, if_neg c70_2, if_neg c114_3, if_neg c157_4, if_neg c230_15]; exact Classical.not_not.mp c254_16)).symm) ⟨(bI_1 (by rw [cmX, if_neg c6_1, if_neg c70_2, if_neg c114_3, if_neg c157_4, if_neg c230_15]; exact Classical.not_not.mp c254_16)).symm, _, _, rfl⟩ dX7_command_262
                · skip
                  have c230_15 := bI_t c230_15
                  exact absurd c230_15 c205_5
        · skip
          have c157_4 := bI_t c157_4
          have hac : (ac ps true).2 ≤ ss := ac_tr hp c157_4
          refine lv_aload_n hx hb dX7_command_160 rfl (lv_at hl 0 rfl) ?_
          refine lv_iconst (v := 1) hx hb dX7_command_161 (by decide) ?_
          refine gp_backv (gp_runV hX good7 i7 (c7_accept l D cI h sc nw tr lk di kp ik lv rf rb rl ac9 t ss hss ps (hp) true) q7_accept rfl (m7 124 rfl) (m7 125 rfl) (m7 126 rfl) ⟨Nat.le_of_ble_eq_true rfl, Nat.le_of_ble_eq_true rfl⟩ hK [0] rfl hP hD [0, 1] (by decide) rfl (ci := 7) (q0 := 0) rfl rfl rfl hl.1 rfl (Nat.le_of_ble_eq_true rfl) dX7_command_162 ⟨Nat.zero_le _, Nat.zero_le _⟩) hP hD hS [0, 1] rfl (fun u h => by rw [h]; simp only [List.map_cons, List.map_nil]) (fun u H locs hpost hP hD hS => ?_)
          subst hpost
          have hP : va_P D vwCl [(h, .inr (7, [.int (rf), .ref sc, .int (nI (ss)), .int (nI ((ac ps true).2)), .int (bI ((ac ps true).1 = true)), .int (rb), .int (rl), .ref nw, .ref tr, .ref lk, .ref di, .int (nI (ac9)), .ref kp, .ref ik, .ref lv])), (sc, .inl (cI, 90, .inl t)), (nw, .inl (cI, 151, .inl f)), (lk, .inl (cI, 151, .inl flk)), (lv, .inl (cI, 4, .inl fl))] H := hP
          have hD : va_D A [(h, .inr (7, [.int (rf), .ref sc, .int (nI (ss)), .int (nI ((ac ps true).2)), .int (bI ((ac ps true).1 = true)), .int (rb), .int (rl), .ref nw, .ref tr, .ref lk, .ref di, .int (nI (ac9)), .ref kp, .ref ik, .ref lv])), (sc, .inl (cI, 90, .inl t)), (nw, .inl (cI, 151, .inl f)), (lk, .inl (cI, 151, .inl flk)), (lv, .inl (cI, 4, .inl fl))] := hD
          refine lv_aload_n hx hb dX7_command_165 rfl (lv_at hl 0 rfl) ?_
          refine lv_iconst (v := 0) hx hb dX7_command_166 (by decide) ?_
          refine lv_iconst (v := 2) hx hb dX7_command_167 (by decide) ?_
          refine gp_backi (gp_runV hX good7 i7 (c7_digit l D cI h sc nw tr lk di kp ik lv rf rb rl ac9 t ss hss (ac ps true) (hac) 0 2) q7_digit rfl (m7 128 rfl) (m7 129 rfl) (m7 130 rfl) ⟨Nat.le_of_ble_eq_true rfl, Nat.le_of_ble_eq_true rfl⟩ hK [0] rfl hP hD [0, 1] (by decide) rfl (ci := 7) (q0 := 0) rfl rfl rfl hl.1 rfl (Nat.le_of_ble_eq_true rfl) dX7_command_168 ⟨Nat.zero_le _, Nat.zero_le _⟩) hP hD hS [0, 1] rfl (fun r u h => by rw [h.2]; simp only [List.map_cons, List.map_nil]) (fun r9 u H locs hpost hP hD hS => ?_)
          obtain ⟨hr9, rfl⟩ := hpost
          refine lv_as hr9 ?_
          have hP : va_P D vwCl [(h, .inr (7, [.int (rf), .ref sc, .int (nI (ss)), .int (nI ((dg t ss (ac ps true) 0 2).2)), .int (bI ((dg t ss (ac ps true) 0 2).1 = true)), .int (rb), .int (rl), .ref nw, .ref tr, .ref lk, .ref di, .int (nI (ac9)), .ref kp, .ref ik, .ref lv])), (sc, .inl (cI, 90, .inl t)), (nw, .inl (cI, 151, .inl f)), (lk, .inl (cI, 151, .inl flk)), (lv, .inl (cI, 4, .inl fl))] H := hP
          have hD : va_D A [(h, .inr (7, [.int (rf), .ref sc, .int (nI (ss)), .int (nI ((dg t ss (ac ps true) 0 2).2)), .int (bI ((dg t ss (ac ps true) 0 2).1 = true)), .int (rb), .int (rl), .ref nw, .ref tr, .ref lk, .ref di, .int (nI (ac9)), .ref kp, .ref ik, .ref lv])), (sc, .inl (cI, 90, .inl t)), (nw, .inl (cI, 151, .inl f)), (lk, .inl (cI, 151, .inl flk)), (lv, .inl (cI, 4, .inl fl))] := hD
          refine lv_istore_n (lv' := [(2, .int (dv t ss (ac ps true) 0 2)), (0, .ref h), (1, .int (1))]) hx hb dX7_command_171 rfl hl (by decide) rfl (fun ls hl => ?_)
          have hl : lv_has ls 4 [(2, .int (cmQ t ss ps)), (0, .ref h), (1, .int (1))] := hl
          refine lv_aload_n hx hb dX7_command_172 rfl (lv_at hl 1 rfl) ?_
          refine va_get (D := D) (ci := 7) (v := .ref nw) (C := RX7) (T := TX7) (N := 15) hx hb hts u7 hown hK hP 0 rfl rfl 7 (by decide) (hts _ (m7 5 rfl)) (fun _ h9 => h9) rfl dX7_command_173 ?_
          refine lv_bipush (v := 6) hx hb dX7_command_176 (by decide) ?_
          refine lv_iload_n hx hb dX7_command_178 rfl (lv_at hl 2 rfl) ?_
          refine lv_if_eq (tgt := 186) hx hb dX7_command_179 (by decide) (fun c179_17 => ?_) (fun c179_17 => ?_)
          · skip
            exact absurd c179_17 (by decide)
          · skip
            refine lv_iload_n hx hb dX7_command_182 rfl (lv_at hl 0 rfl) ?_
            refine lv_goto (tgt := 193) hx hb dX7_command_183 (by decide) ?_
            refine ra_iast (i := 6) hx hb hK hP hD hS 2 0 rfl rfl (by omega) (by decide) dX7_command_193 (fun H locs hP hD hS => ?_)
            have hP : va_P D vwCl [(h, .inr (7, [.int (rf), .ref sc, .int (nI (ss)), .int (nI ((dg t ss (ac ps true) 0 2).2)), .int (bI ((dg t ss (ac ps true) 0 2).1 = true)), .int (rb), .int (rl), .ref nw, .ref tr, .ref lk, .ref di, .int (nI (ac9)), .ref kp, .ref ik, .ref lv])), (sc, .inl (cI, 90, .inl t)), (nw, .inl (cI, 151, .inl (upd f 6 (cmQ t ss ps)))), (lk, .inl (cI, 151, .inl flk)), (lv, .inl (cI, 4, .inl fl))] H := hP
            have hD : va_D A [(h, .inr (7, [.int (rf), .ref sc, .int (nI (ss)), .int (nI ((dg t ss (ac ps true) 0 2).2)), .int (bI ((dg t ss (ac ps true) 0 2).1 = true)), .int (rb), .int (rl), .ref nw, .ref tr, .ref lk, .ref di, .int (nI (ac9)), .ref kp, .ref ik, .ref lv])), (sc, .inl (cI, 90, .inl t)), (nw, .inl (cI, 151, .inl (upd f 6 (cmQ t ss ps)))), (lk, .inl (cI, 151, .inl flk)), (lv, .inl (cI, 4, .inl fl))] := hD
            refine lv_iconst (v := 0) hx hb dX7_command_194 (by decide) ?_
            have hP : va_P D vwCl [(h, .inr (7, [.int (rf), .ref sc, .int (nI (ss)), .int (nI ((cm t ss ps).2)), .int (bI ((cm t ss ps).1 = true)), .int (rb), .int (rl), .ref nw, .ref tr, .ref lk, .ref di, .int (nI (ac9)), .ref kp, .ref ik, .ref lv])), (sc, .inl (cI, 90, .inl t)), (nw, .inl (cI, 151, .inl (upd f 6 (cmQ t ss ps)))), (lk, .inl (cI, 151, .inl flk)), (lv, .inl (cI, 4, .inl fl))] H := by
              rw [show (nI ((cm t ss ps).2) : Int32) = nI ((dg t ss (ac ps true) 0 2).2) from by rw [cm_q c6_1 c70_2 c114_3 c157_4]]
              rw [show (bI ((cm t ss ps).1 = true) : Int32) = bI ((dg t ss (ac ps true) 0 2).1 = true) from by rw [cm_q c6_1 c70_2 c114_3 c157_4]]
              exact hP
            have hP : va_P D vwCl [(h, .inr (7, [.int (rf), .ref sc, .int (nI (ss)), .int (nI ((cm t ss ps).2)), .int (bI ((cm t ss ps).1 = true)), .int (rb), .int (rl), .ref nw, .ref tr, .ref lk, .ref di, .int (nI (ac9)), .ref kp, .ref ik, .ref lv])), (sc, .inl (cI, 90, .inl t)), (nw, .inl (cI, 151, .inl (cmR t ss ps f B))), (lk, .inl (cI, 151, .inl flk)), (lv, .inl (cI, 4, .inl fl))] H := by
              rw [show (cmR t ss ps f B : Nat → Int32) = upd f 6 (cmQ t ss ps) from by rw [cmR, if_neg c6_1, if_neg c70_2, if_neg c114_3, if_pos c157_4]]
              exact hP
            exact gp_retz hX hr hlocks hS hP (P := cmX t ss ps f B) ((bI_0 (by rw [cmX, if_neg c6_1, if_neg c70_2, if_neg c114_3, if_pos c157_4]; exact fun z => z)).symm) ⟨(bI_0 (by rw [cmX, if_neg c6_1, if_neg c70_2, if_neg c114_3, if_pos c157_4]; exact fun z => z)).symm, _, _, rfl⟩ dX7_command_195
      · skip
        have c114_3 := bI_t c114_3
        have hac : (ac ps true).2 ≤ ss := ac_tr hp c114_3
        refine lv_aload_n hx hb dX7_command_117 rfl (lv_at hl 0 rfl) ?_
        refine lv_iconst (v := 1) hx hb dX7_command_118 (by decide) ?_
        refine gp_backv (gp_runV hX good7 i7 (c7_accept l D cI h sc nw tr lk di kp ik lv rf rb rl ac9 t ss hss ps (hp) true) q7_accept rfl (m7 124 rfl) (m7 125 rfl) (m7 126 rfl) ⟨Nat.le_of_ble_eq_true rfl, Nat.le_of_ble_eq_true rfl⟩ hK [0] rfl hP hD [0, 1] (by decide) rfl (ci := 7) (q0 := 0) rfl rfl rfl hl.1 rfl (Nat.le_of_ble_eq_true rfl) dX7_command_119 ⟨Nat.zero_le _, Nat.zero_le _⟩) hP hD hS [0, 1] rfl (fun u h => by rw [h]; simp only [List.map_cons, List.map_nil]) (fun u H locs hpost hP hD hS => ?_)
        subst hpost
        have hP : va_P D vwCl [(h, .inr (7, [.int (rf), .ref sc, .int (nI (ss)), .int (nI ((ac ps true).2)), .int (bI ((ac ps true).1 = true)), .int (rb), .int (rl), .ref nw, .ref tr, .ref lk, .ref di, .int (nI (ac9)), .ref kp, .ref ik, .ref lv])), (sc, .inl (cI, 90, .inl t)), (nw, .inl (cI, 151, .inl f)), (lk, .inl (cI, 151, .inl flk)), (lv, .inl (cI, 4, .inl fl))] H := hP
        have hD : va_D A [(h, .inr (7, [.int (rf), .ref sc, .int (nI (ss)), .int (nI ((ac ps true).2)), .int (bI ((ac ps true).1 = true)), .int (rb), .int (rl), .ref nw, .ref tr, .ref lk, .ref di, .int (nI (ac9)), .ref kp, .ref ik, .ref lv])), (sc, .inl (cI, 90, .inl t)), (nw, .inl (cI, 151, .inl f)), (lk, .inl (cI, 151, .inl flk)), (lv, .inl (cI, 4, .inl fl))] := hD
        refine lv_aload_n hx hb dX7_command_122 rfl (lv_at hl 0 rfl) ?_
        refine lv_iconst (v := 0) hx hb dX7_command_123 (by decide) ?_
        refine lv_bipush (v := 99) hx hb dX7_command_124 (by decide) ?_
        refine gp_backi (gp_runV hX good7 i7 (c7_two l D cI h sc nw tr lk di kp ik lv rf rb rl ac9 t ss hss (ac ps true) (hac) 0 99) q7_two rfl (m7 136 rfl) (m7 137 rfl) (m7 138 rfl) ⟨Nat.le_of_ble_eq_true rfl, Nat.le_of_ble_eq_true rfl⟩ hK [0] rfl hP hD [0, 1] (by decide) rfl (ci := 7) (q0 := 0) rfl rfl rfl hl.1 rfl (Nat.le_of_ble_eq_true rfl) dX7_command_126 ⟨Nat.zero_le _, Nat.zero_le _⟩) hP hD hS [0, 1] rfl (fun r u h => by rw [h.2]; simp only [List.map_cons, List.map_nil]) (fun r9 u H locs hpost hP hD hS => ?_)
        obtain ⟨hr9, rfl⟩ := hpost
        refine lv_as hr9 ?_
        have hP : va_P D vwCl [(h, .inr (7, [.int (rf), .ref sc, .int (nI (ss)), .int (nI ((tw t ss (ac ps true) 0 99).2)), .int (bI ((tw t ss (ac ps true) 0 99).1 = true)), .int (rb), .int (rl), .ref nw, .ref tr, .ref lk, .ref di, .int (nI (ac9)), .ref kp, .ref ik, .ref lv])), (sc, .inl (cI, 90, .inl t)), (nw, .inl (cI, 151, .inl f)), (lk, .inl (cI, 151, .inl flk)), (lv, .inl (cI, 4, .inl fl))] H := hP
        have hD : va_D A [(h, .inr (7, [.int (rf), .ref sc, .int (nI (ss)), .int (nI ((tw t ss (ac ps true) 0 99).2)), .int (bI ((tw t ss (ac ps true) 0 99).1 = true)), .int (rb), .int (rl), .ref nw, .ref tr, .ref lk, .ref di, .int (nI (ac9)), .ref kp, .ref ik, .ref lv])), (sc, .inl (cI, 90, .inl t)), (nw, .inl (cI, 151, .inl f)), (lk, .inl (cI, 151, .inl flk)), (lv, .inl (cI, 4, .inl fl))] := hD
        refine lv_istore_n (lv' := [(2, .int (tv t ss (ac ps true) 0 99)), (0, .ref h), (1, .int (1))]) hx hb dX7_command_129 rfl hl (by decide) rfl (fun ls hl => ?_)
        have hl : lv_has ls 4 [(2, .int (cmN t ss ps)), (0, .ref h), (1, .int (1))] := hl
        refine lv_iload_n hx hb dX7_command_130 rfl (lv_at hl 2 rfl) ?_
        refine lv_if_eq (tgt := 149) hx hb dX7_command_131 (by decide) (fun c131_18 => ?_) (fun c131_18 => ?_)
        · skip
          exact absurd c131_18 (by decide)
        · skip
          refine lv_aload_n hx hb dX7_command_134 rfl (lv_at hl 1 rfl) ?_
          refine va_get (D := D) (ci := 7) (v := .ref nw) (C := RX7) (T := TX7) (N := 15) hx hb hts u7 hown hK hP 0 rfl rfl 7 (by decide) (hts _ (m7 5 rfl)) (fun _ h9 => h9) rfl dX7_command_135 ?_
          refine lv_iload_n hx hb dX7_command_138 rfl (lv_at hl 0 rfl) ?_
          refine gp_backi (gp_runS hX good7 i7 (c7_doCut l D cI nw f (cmN t ss ps)) q7_doCut rfl (m7 144 rfl) (m7 145 rfl) ⟨Nat.le_of_ble_eq_true rfl, Nat.le_of_ble_eq_true rfl⟩ hK [0] rfl hP hD [2] (by decide) rfl hl.1 rfl (Nat.le_of_ble_eq_true rfl) dX7_command_139 ⟨Nat.zero_le _, Nat.zero_le _⟩) hP hD hS [2] rfl (fun r u h => by rw [h.2]; simp only [List.map_cons, List.map_nil]) (fun r9 u H locs hpost hP hD hS => ?_)
          obtain ⟨hr9, rfl⟩ := hpost
          refine lv_as hr9 ?_
          have hP : va_P D vwCl [(h, .inr (7, [.int (rf), .ref sc, .int (nI (ss)), .int (nI ((tw t ss (ac ps true) 0 99).2)), .int (bI ((tw t ss (ac ps true) 0 99).1 = true)), .int (rb), .int (rl), .ref nw, .ref tr, .ref lk, .ref di, .int (nI (ac9)), .ref kp, .ref ik, .ref lv])), (sc, .inl (cI, 90, .inl t)), (nw, .inl (cI, 151, .inl (if f 2 = 0 then f else upd f 5 (cmN t ss ps)))), (lk, .inl (cI, 151, .inl flk)), (lv, .inl (cI, 4, .inl fl))] H := hP
          have hD : va_D A [(h, .inr (7, [.int (rf), .ref sc, .int (nI (ss)), .int (nI ((tw t ss (ac ps true) 0 99).2)), .int (bI ((tw t ss (ac ps true) 0 99).1 = true)), .int (rb), .int (rl), .ref nw, .ref tr, .ref lk, .ref di, .int (nI (ac9)), .ref kp, .ref ik, .ref lv])), (sc, .inl (cI, 90, .inl t)), (nw, .inl (cI, 151, .inl (if f 2 = 0 then f else upd f 5 (cmN t ss ps)))), (lk, .inl (cI, 151, .inl flk)), (lv, .inl (cI, 4, .inl fl))] := hD
          refine lv_if_ne (tgt := 149) hx hb dX7_command_142 (by decide) (fun c142_19 => ?_) (fun c142_19 => ?_)
          · skip
            have c142_19 := bI_t c142_19
            refine lv_iconst (v := 0) hx hb dX7_command_149 (by decide) ?_
            have hP : va_P D vwCl [(h, .inr (7, [.int (rf), .ref sc, .int (nI (ss)), .int (nI ((cm t ss ps).2)), .int (bI ((cm t ss ps).1 = true)), .int (rb), .int (rl), .ref nw, .ref tr, .ref lk, .ref di, .int (nI (ac9)), .ref kp, .ref ik, .ref lv])), (sc, .inl (cI, 90, .inl t)), (nw, .inl (cI, 151, .inl (if f 2 = 0 then f else upd f 5 (cmN t ss ps)))), (lk, .inl (cI, 151, .inl flk)), (lv, .inl (cI, 4, .inl fl))] H := by
              rw [show (nI ((cm t ss ps).2) : Int32) = nI ((tw t ss (ac ps true) 0 99).2) from by rw [cm_c c6_1 c70_2 c114_3]]
              rw [show (bI ((cm t ss ps).1 = true) : Int32) = bI ((tw t ss (ac ps true) 0 99).1 = true) from by rw [cm_c c6_1 c70_2 c114_3]]
              exact hP
            have hP : va_P D vwCl [(h, .inr (7, [.int (rf), .ref sc, .int (nI (ss)), .int (nI ((cm t ss ps).2)), .int (bI ((cm t ss ps).1 = true)), .int (rb), .int (rl), .ref nw, .ref tr, .ref lk, .ref di, .int (nI (ac9)), .ref kp, .ref ik, .ref lv])), (sc, .inl (cI, 90, .inl t)), (nw, .inl (cI, 151, .inl (cmR t ss ps f B))), (lk, .inl (cI, 151, .inl flk)), (lv, .inl (cI, 4, .inl fl))] H := by
              rw [show (cmR t ss ps f B : Nat → Int32) = if f 2 = 0 then f else upd f 5 (cmN t ss ps) from by rw [cmR, if_neg c6_1, if_neg c70_2, if_pos c114_3]; rfl]
              exact hP
            exact gp_retz hX hr hlocks hS hP (P := cmX t ss ps f B) ((bI_0 (by rw [cmX, if_neg c6_1, if_neg c70_2, if_pos c114_3]; exact c142_19)).symm) ⟨(bI_0 (by rw [cmX, if_neg c6_1, if_neg c70_2, if_pos c114_3]; exact c142_19)).symm, _, _, rfl⟩ dX7_command_150
          · skip
            have c142_19 := bI_f c142_19
            refine lv_iconst (v := 1) hx hb dX7_command_145 (by decide) ?_
            refine lv_goto (tgt := 150) hx hb dX7_command_146 (by decide) ?_
            have hP : va_P D vwCl [(h, .inr (7, [.int (rf), .ref sc, .int (nI (ss)), .int (nI ((cm t ss ps).2)), .int (bI ((cm t ss ps).1 = true)), .int (rb), .int (rl), .ref nw, .ref tr, .ref lk, .ref di, .int (nI (ac9)), .ref kp, .ref ik, .ref lv])), (sc, .inl (cI, 90, .inl t)), (nw, .inl (cI, 151, .inl (if f 2 = 0 then f else upd f 5 (cmN t ss ps)))), (lk, .inl (cI, 151, .inl flk)), (lv, .inl (cI, 4, .inl fl))] H := by
              rw [show (nI ((cm t ss ps).2) : Int32) = nI ((tw t ss (ac ps true) 0 99).2) from by rw [cm_c c6_1 c70_2 c114_3]]
              rw [show (bI ((cm t ss ps).1 = true) : Int32) = bI ((tw t ss (ac ps true) 0 99).1 = true) from by rw [cm_c c6_1 c70_2 c114_3]]
              exact hP
            have hP : va_P D vwCl [(h, .inr (7, [.int (rf), .ref sc, .int (nI (ss)), .int (nI ((cm t ss ps).2)), .int (bI ((cm t ss ps).1 = true)), .int (rb), .int (rl), .ref nw, .ref tr, .ref lk, .ref di, .int (nI (ac9)), .ref kp, .ref ik, .ref lv])), (sc, .inl (cI, 90, .inl t)), (nw, .inl (cI, 151, .inl (cmR t ss ps f B))), (lk, .inl (cI, 151, .inl flk)), (lv, .inl (cI, 4, .inl fl))] H := by
              rw [show (cmR t ss ps f B : Nat → Int32) = if f 2 = 0 then f else upd f 5 (cmN t ss ps) from by rw [cmR, if_neg c6_1, if_neg c70_2, if_pos c114_3]; rfl]
              exact hP
            exact gp_retz hX hr hlocks hS hP (P := cmX t ss ps f B) ((bI_1 (by rw [cmX, if_neg c6_1, if_neg c70_2, if_pos c114_3]; exact Classical.not_not.mp c142_19)).symm) ⟨(bI_1 (by rw [cmX, if_neg c6_1, if_neg c70_2, if_pos c114_3]; exact Classical.not_not.mp c142_19)).symm, _, _, rfl⟩ dX7_command_150
    · skip
      have c70_2 := bI_t c70_2
      have hac : (ac ps true).2 ≤ ss := ac_tr hp c70_2
      refine lv_aload_n hx hb dX7_command_73 rfl (lv_at hl 0 rfl) ?_
      refine lv_iconst (v := 1) hx hb dX7_command_74 (by decide) ?_
      refine gp_backv (gp_runV hX good7 i7 (c7_accept l D cI h sc nw tr lk di kp ik lv rf rb rl ac9 t ss hss ps (hp) true) q7_accept rfl (m7 124 rfl) (m7 125 rfl) (m7 126 rfl) ⟨Nat.le_of_ble_eq_true rfl, Nat.le_of_ble_eq_true rfl⟩ hK [0] rfl hP hD [0, 1] (by decide) rfl (ci := 7) (q0 := 0) rfl rfl rfl hl.1 rfl (Nat.le_of_ble_eq_true rfl) dX7_command_75 ⟨Nat.zero_le _, Nat.zero_le _⟩) hP hD hS [0, 1] rfl (fun u h => by rw [h]; simp only [List.map_cons, List.map_nil]) (fun u H locs hpost hP hD hS => ?_)
      subst hpost
      have hP : va_P D vwCl [(h, .inr (7, [.int (rf), .ref sc, .int (nI (ss)), .int (nI ((ac ps true).2)), .int (bI ((ac ps true).1 = true)), .int (rb), .int (rl), .ref nw, .ref tr, .ref lk, .ref di, .int (nI (ac9)), .ref kp, .ref ik, .ref lv])), (sc, .inl (cI, 90, .inl t)), (nw, .inl (cI, 151, .inl f)), (lk, .inl (cI, 151, .inl flk)), (lv, .inl (cI, 4, .inl fl))] H := hP
      have hD : va_D A [(h, .inr (7, [.int (rf), .ref sc, .int (nI (ss)), .int (nI ((ac ps true).2)), .int (bI ((ac ps true).1 = true)), .int (rb), .int (rl), .ref nw, .ref tr, .ref lk, .ref di, .int (nI (ac9)), .ref kp, .ref ik, .ref lv])), (sc, .inl (cI, 90, .inl t)), (nw, .inl (cI, 151, .inl f)), (lk, .inl (cI, 151, .inl flk)), (lv, .inl (cI, 4, .inl fl))] := hD
      refine lv_aload_n hx hb dX7_command_78 rfl (lv_at hl 0 rfl) ?_
      refine lv_iconst (v := 0) hx hb dX7_command_79 (by decide) ?_
      refine lv_bipush (v := 15) hx hb dX7_command_80 (by decide) ?_
      refine gp_backi (gp_runV hX good7 i7 (c7_two l D cI h sc nw tr lk di kp ik lv rf rb rl ac9 t ss hss (ac ps true) (hac) 0 15) q7_two rfl (m7 136 rfl) (m7 137 rfl) (m7 138 rfl) ⟨Nat.le_of_ble_eq_true rfl, Nat.le_of_ble_eq_true rfl⟩ hK [0] rfl hP hD [0, 1] (by decide) rfl (ci := 7) (q0 := 0) rfl rfl rfl hl.1 rfl (Nat.le_of_ble_eq_true rfl) dX7_command_82 ⟨Nat.zero_le _, Nat.zero_le _⟩) hP hD hS [0, 1] rfl (fun r u h => by rw [h.2]; simp only [List.map_cons, List.map_nil]) (fun r9 u H locs hpost hP hD hS => ?_)
      obtain ⟨hr9, rfl⟩ := hpost
      refine lv_as hr9 ?_
      have hP : va_P D vwCl [(h, .inr (7, [.int (rf), .ref sc, .int (nI (ss)), .int (nI ((tw t ss (ac ps true) 0 15).2)), .int (bI ((tw t ss (ac ps true) 0 15).1 = true)), .int (rb), .int (rl), .ref nw, .ref tr, .ref lk, .ref di, .int (nI (ac9)), .ref kp, .ref ik, .ref lv])), (sc, .inl (cI, 90, .inl t)), (nw, .inl (cI, 151, .inl f)), (lk, .inl (cI, 151, .inl flk)), (lv, .inl (cI, 4, .inl fl))] H := hP
      have hD : va_D A [(h, .inr (7, [.int (rf), .ref sc, .int (nI (ss)), .int (nI ((tw t ss (ac ps true) 0 15).2)), .int (bI ((tw t ss (ac ps true) 0 15).1 = true)), .int (rb), .int (rl), .ref nw, .ref tr, .ref lk, .ref di, .int (nI (ac9)), .ref kp, .ref ik, .ref lv])), (sc, .inl (cI, 90, .inl t)), (nw, .inl (cI, 151, .inl f)), (lk, .inl (cI, 151, .inl flk)), (lv, .inl (cI, 4, .inl fl))] := hD
      refine lv_istore_n (lv' := [(2, .int (tv t ss (ac ps true) 0 15)), (0, .ref h), (1, .int (1))]) hx hb dX7_command_85 rfl hl (by decide) rfl (fun ls hl => ?_)
      have hl : lv_has ls 4 [(2, .int (cmK t ss ps)), (0, .ref h), (1, .int (1))] := hl
      refine lv_iload_n hx hb dX7_command_86 rfl (lv_at hl 2 rfl) ?_
      refine lv_if_eq (tgt := 106) hx hb dX7_command_87 (by decide) (fun c87_20 => ?_) (fun c87_20 => ?_)
      · skip
        exact absurd c87_20 (by decide)
      · skip
        refine lv_aload_n hx hb dX7_command_90 rfl (lv_at hl 1 rfl) ?_
        refine lv_aload_n hx hb dX7_command_91 rfl (lv_at hl 1 rfl) ?_
        refine va_get (D := D) (ci := 7) (v := .ref nw) (C := RX7) (T := TX7) (N := 15) hx hb hts u7 hown hK hP 0 rfl rfl 7 (by decide) (hts _ (m7 5 rfl)) (fun _ h9 => h9) rfl dX7_command_92 ?_
        refine lv_iload_n hx hb dX7_command_95 rfl (lv_at hl 0 rfl) ?_
        refine gp_backi (gp_runV hX good7 i7 (c7_doRemove l D cI h lv lk nw [.int (rf), .ref sc, .int (nI (ss)), .int (nI ((tw t ss (ac ps true) 0 15).2)), .int (bI ((tw t ss (ac ps true) 0 15).1 = true)), .int (rb), .int (rl), .ref nw, .ref tr, .ref lk, .ref di, .int (nI (ac9)), .ref kp, .ref ik, .ref lv] fl flk f B hO.1 rfl rfl 5000 (lookT B f).1 (lookT B f).2 (ok_look hO) (cmK t ss ps) 5000 (recT B (cmK t ss ps) (-9) f).1 (recT B (cmK t ss ps) (-9) f).2 (ok_rec hO _ _)) q7_doRemove rfl (m7 140 rfl) (m7 141 rfl) (m7 142 rfl) ⟨Nat.le_of_ble_eq_true rfl, Nat.le_of_ble_eq_true rfl⟩ hK [0] rfl hP hD [0, 4, 3, 2] (by decide) rfl (ci := 7) (q0 := 0) rfl rfl rfl hl.1 rfl (Nat.le_of_ble_eq_true rfl) dX7_command_96 ⟨Nat.zero_le _, Nat.zero_le _⟩) hP hD hS [0, 4, 3, 2] rfl (fun r u h => by obtain ⟨-, x21, x22, rfl⟩ := h; simp only [List.map_cons, List.map_nil]) (fun r9 u H locs hpost hP hD hS => ?_)
        obtain ⟨hr9, x21, x22, rfl⟩ := hpost
        refine lv_as hr9 ?_
        have hP : va_P D vwCl [(h, .inr (7, [.int (rf), .ref sc, .int (nI (ss)), .int (nI ((tw t ss (ac ps true) 0 15).2)), .int (bI ((tw t ss (ac ps true) 0 15).1 = true)), .int (rb), .int (rl), .ref nw, .ref tr, .ref lk, .ref di, .int (nI (ac9)), .ref kp, .ref ik, .ref lv])), (sc, .inl (cI, 90, .inl t)), (nw, .inl (cI, 151, .inl (if vlu f (cmK t ss ps) B ≠ -9 ∧ f 2 = 1 ∧ ¬ ((lookT B f).1) < 0 then ((recT B (cmK t ss ps) (-9) f).2) else f))), (lk, .inl (cI, 151, .inl x22)), (lv, .inl (cI, 4, .inl x21))] H := hP
        have hD : va_D A [(h, .inr (7, [.int (rf), .ref sc, .int (nI (ss)), .int (nI ((tw t ss (ac ps true) 0 15).2)), .int (bI ((tw t ss (ac ps true) 0 15).1 = true)), .int (rb), .int (rl), .ref nw, .ref tr, .ref lk, .ref di, .int (nI (ac9)), .ref kp, .ref ik, .ref lv])), (sc, .inl (cI, 90, .inl t)), (nw, .inl (cI, 151, .inl (if vlu f (cmK t ss ps) B ≠ -9 ∧ f 2 = 1 ∧ ¬ ((lookT B f).1) < 0 then ((recT B (cmK t ss ps) (-9) f).2) else f))), (lk, .inl (cI, 151, .inl x22)), (lv, .inl (cI, 4, .inl x21))] := hD
        refine lv_if_ne (tgt := 106) hx hb dX7_command_99 (by decide) (fun c99_23 => ?_) (fun c99_23 => ?_)
        · skip
          have c99_23 := bI_t c99_23
          refine lv_iconst (v := 0) hx hb dX7_command_106 (by decide) ?_
          have hP : va_P D vwCl [(h, .inr (7, [.int (rf), .ref sc, .int (nI (ss)), .int (nI ((cm t ss ps).2)), .int (bI ((cm t ss ps).1 = true)), .int (rb), .int (rl), .ref nw, .ref tr, .ref lk, .ref di, .int (nI (ac9)), .ref kp, .ref ik, .ref lv])), (sc, .inl (cI, 90, .inl t)), (nw, .inl (cI, 151, .inl (if vlu f (cmK t ss ps) B ≠ -9 ∧ f 2 = 1 ∧ ¬ ((lookT B f).1) < 0 then ((recT B (cmK t ss ps) (-9) f).2) else f))), (lk, .inl (cI, 151, .inl x22)), (lv, .inl (cI, 4, .inl x21))] H := by
            rw [show (nI ((cm t ss ps).2) : Int32) = nI ((tw t ss (ac ps true) 0 15).2) from by rw [cm_d c6_1 c70_2]]
            rw [show (bI ((cm t ss ps).1 = true) : Int32) = bI ((tw t ss (ac ps true) 0 15).1 = true) from by rw [cm_d c6_1 c70_2]]
            exact hP
          have hP : va_P D vwCl [(h, .inr (7, [.int (rf), .ref sc, .int (nI (ss)), .int (nI ((cm t ss ps).2)), .int (bI ((cm t ss ps).1 = true)), .int (rb), .int (rl), .ref nw, .ref tr, .ref lk, .ref di, .int (nI (ac9)), .ref kp, .ref ik, .ref lv])), (sc, .inl (cI, 90, .inl t)), (nw, .inl (cI, 151, .inl (cmR t ss ps f B))), (lk, .inl (cI, 151, .inl x22)), (lv, .inl (cI, 4, .inl x21))] H := by
            rw [show (cmR t ss ps f B : Nat → Int32) = if vlu f (cmK t ss ps) B ≠ -9 ∧ f 2 = 1 ∧ ¬ ((lookT B f).1) < 0 then ((recT B (cmK t ss ps) (-9) f).2) else f from by rw [cmR, if_neg c6_1, if_pos c70_2]; rfl]
            exact hP
          exact gp_retz hX hr hlocks hS hP (P := cmX t ss ps f B) ((bI_0 (by rw [cmX, if_neg c6_1, if_pos c70_2]; exact fun z => z c99_23)).symm) ⟨(bI_0 (by rw [cmX, if_neg c6_1, if_pos c70_2]; exact fun z => z c99_23)).symm, _, _, rfl⟩ dX7_command_107
        · skip
          have c99_23 := bI_f c99_23
          refine lv_iconst (v := 1) hx hb dX7_command_102 (by decide) ?_
          refine lv_goto (tgt := 107) hx hb dX7_command_103 (by decide) ?_
          have hP : va_P D vwCl [(h, .inr (7, [.int (rf), .ref sc, .int (nI (ss)), .int (nI ((cm t ss ps).2)), .int (bI ((cm t ss ps).1 = true)), .int (rb), .int (rl), .ref nw, .ref tr, .ref lk, .ref di, .int (nI (ac9)), .ref kp, .ref ik, .ref lv])), (sc, .inl (cI, 90, .inl t)), (nw, .inl (cI, 151, .inl (if vlu f (cmK t ss ps) B ≠ -9 ∧ f 2 = 1 ∧ ¬ ((lookT B f).1) < 0 then ((recT B (cmK t ss ps) (-9) f).2) else f))), (lk, .inl (cI, 151, .inl x22)), (lv, .inl (cI, 4, .inl x21))] H := by
            rw [show (nI ((cm t ss ps).2) : Int32) = nI ((tw t ss (ac ps true) 0 15).2) from by rw [cm_d c6_1 c70_2]]
            rw [show (bI ((cm t ss ps).1 = true) : Int32) = bI ((tw t ss (ac ps true) 0 15).1 = true) from by rw [cm_d c6_1 c70_2]]
            exact hP
          have hP : va_P D vwCl [(h, .inr (7, [.int (rf), .ref sc, .int (nI (ss)), .int (nI ((cm t ss ps).2)), .int (bI ((cm t ss ps).1 = true)), .int (rb), .int (rl), .ref nw, .ref tr, .ref lk, .ref di, .int (nI (ac9)), .ref kp, .ref ik, .ref lv])), (sc, .inl (cI, 90, .inl t)), (nw, .inl (cI, 151, .inl (cmR t ss ps f B))), (lk, .inl (cI, 151, .inl x22)), (lv, .inl (cI, 4, .inl x21))] H := by
            rw [show (cmR t ss ps f B : Nat → Int32) = if vlu f (cmK t ss ps) B ≠ -9 ∧ f 2 = 1 ∧ ¬ ((lookT B f).1) < 0 then ((recT B (cmK t ss ps) (-9) f).2) else f from by rw [cmR, if_neg c6_1, if_pos c70_2]; rfl]
            exact hP
          exact gp_retz hX hr hlocks hS hP (P := cmX t ss ps f B) ((bI_1 (by rw [cmX, if_neg c6_1, if_pos c70_2]; exact c99_23)).symm) ⟨(bI_1 (by rw [cmX, if_neg c6_1, if_pos c70_2]; exact c99_23)).symm, _, _, rfl⟩ dX7_command_107
  · skip
    have c6_1 := bI_t c6_1
    have hac : (ac ps true).2 ≤ ss := ac_tr hp c6_1
    refine lv_aload_n hx hb dX7_command_9 rfl (lv_at hl 0 rfl) ?_
    refine lv_iconst (v := 1) hx hb dX7_command_10 (by decide) ?_
    refine gp_backv (gp_runV hX good7 i7 (c7_accept l D cI h sc nw tr lk di kp ik lv rf rb rl ac9 t ss hss ps (hp) true) q7_accept rfl (m7 124 rfl) (m7 125 rfl) (m7 126 rfl) ⟨Nat.le_of_ble_eq_true rfl, Nat.le_of_ble_eq_true rfl⟩ hK [0] rfl hP hD [0, 1] (by decide) rfl (ci := 7) (q0 := 0) rfl rfl rfl hl.1 rfl (Nat.le_of_ble_eq_true rfl) dX7_command_11 ⟨Nat.zero_le _, Nat.zero_le _⟩) hP hD hS [0, 1] rfl (fun u h => by rw [h]; simp only [List.map_cons, List.map_nil]) (fun u H locs hpost hP hD hS => ?_)
    subst hpost
    have hP : va_P D vwCl [(h, .inr (7, [.int (rf), .ref sc, .int (nI (ss)), .int (nI ((ac ps true).2)), .int (bI ((ac ps true).1 = true)), .int (rb), .int (rl), .ref nw, .ref tr, .ref lk, .ref di, .int (nI (ac9)), .ref kp, .ref ik, .ref lv])), (sc, .inl (cI, 90, .inl t)), (nw, .inl (cI, 151, .inl f)), (lk, .inl (cI, 151, .inl flk)), (lv, .inl (cI, 4, .inl fl))] H := hP
    have hD : va_D A [(h, .inr (7, [.int (rf), .ref sc, .int (nI (ss)), .int (nI ((ac ps true).2)), .int (bI ((ac ps true).1 = true)), .int (rb), .int (rl), .ref nw, .ref tr, .ref lk, .ref di, .int (nI (ac9)), .ref kp, .ref ik, .ref lv])), (sc, .inl (cI, 90, .inl t)), (nw, .inl (cI, 151, .inl f)), (lk, .inl (cI, 151, .inl flk)), (lv, .inl (cI, 4, .inl fl))] := hD
    refine lv_aload_n hx hb dX7_command_14 rfl (lv_at hl 0 rfl) ?_
    refine lv_iconst (v := 0) hx hb dX7_command_15 (by decide) ?_
    refine lv_bipush (v := 15) hx hb dX7_command_16 (by decide) ?_
    refine gp_backi (gp_runV hX good7 i7 (c7_two l D cI h sc nw tr lk di kp ik lv rf rb rl ac9 t ss hss (ac ps true) (hac) 0 15) q7_two rfl (m7 136 rfl) (m7 137 rfl) (m7 138 rfl) ⟨Nat.le_of_ble_eq_true rfl, Nat.le_of_ble_eq_true rfl⟩ hK [0] rfl hP hD [0, 1] (by decide) rfl (ci := 7) (q0 := 0) rfl rfl rfl hl.1 rfl (Nat.le_of_ble_eq_true rfl) dX7_command_18 ⟨Nat.zero_le _, Nat.zero_le _⟩) hP hD hS [0, 1] rfl (fun r u h => by rw [h.2]; simp only [List.map_cons, List.map_nil]) (fun r9 u H locs hpost hP hD hS => ?_)
    obtain ⟨hr9, rfl⟩ := hpost
    refine lv_as hr9 ?_
    have hP : va_P D vwCl [(h, .inr (7, [.int (rf), .ref sc, .int (nI (ss)), .int (nI ((tw t ss (ac ps true) 0 15).2)), .int (bI ((tw t ss (ac ps true) 0 15).1 = true)), .int (rb), .int (rl), .ref nw, .ref tr, .ref lk, .ref di, .int (nI (ac9)), .ref kp, .ref ik, .ref lv])), (sc, .inl (cI, 90, .inl t)), (nw, .inl (cI, 151, .inl f)), (lk, .inl (cI, 151, .inl flk)), (lv, .inl (cI, 4, .inl fl))] H := hP
    have hD : va_D A [(h, .inr (7, [.int (rf), .ref sc, .int (nI (ss)), .int (nI ((tw t ss (ac ps true) 0 15).2)), .int (bI ((tw t ss (ac ps true) 0 15).1 = true)), .int (rb), .int (rl), .ref nw, .ref tr, .ref lk, .ref di, .int (nI (ac9)), .ref kp, .ref ik, .ref lv])), (sc, .inl (cI, 90, .inl t)), (nw, .inl (cI, 151, .inl f)), (lk, .inl (cI, 151, .inl flk)), (lv, .inl (cI, 4, .inl fl))] := hD
    refine lv_istore_n (lv' := [(2, .int (tv t ss (ac ps true) 0 15)), (0, .ref h), (1, .int (1))]) hx hb dX7_command_21 rfl hl (by decide) rfl (fun ls hl => ?_)
    refine lv_bipush (v := 10) hx hb dX7_command_22 (by decide) ?_
    refine lv_aload_n hx hb dX7_command_24 rfl (lv_at hl 1 rfl) ?_
    refine lv_iconst (v := 0) hx hb dX7_command_25 (by decide) ?_
    refine lv_bipush (v := 99) hx hb dX7_command_26 (by decide) ?_
    refine gp_backi (gp_runV hX good7 i7 (c7_two l D cI h sc nw tr lk di kp ik lv rf rb rl ac9 t ss hss (tw t ss (ac ps true) 0 15) (tw_le hac) 0 99) q7_two rfl (m7 136 rfl) (m7 137 rfl) (m7 138 rfl) ⟨Nat.le_of_ble_eq_true rfl, Nat.le_of_ble_eq_true rfl⟩ hK [0] rfl hP hD [0, 1] (by decide) rfl (ci := 7) (q0 := 0) rfl rfl rfl hl.1 rfl (Nat.le_of_ble_eq_true rfl) dX7_command_28 ⟨Nat.zero_le _, Nat.zero_le _⟩) hP hD hS [0, 1] rfl (fun r u h => by rw [h.2]; simp only [List.map_cons, List.map_nil]) (fun r9 u H locs hpost hP hD hS => ?_)
    obtain ⟨hr9, rfl⟩ := hpost
    refine lv_as hr9 ?_
    have hP : va_P D vwCl [(h, .inr (7, [.int (rf), .ref sc, .int (nI (ss)), .int (nI ((tw t ss (tw t ss (ac ps true) 0 15) 0 99).2)), .int (bI ((tw t ss (tw t ss (ac ps true) 0 15) 0 99).1 = true)), .int (rb), .int (rl), .ref nw, .ref tr, .ref lk, .ref di, .int (nI (ac9)), .ref kp, .ref ik, .ref lv])), (sc, .inl (cI, 90, .inl t)), (nw, .inl (cI, 151, .inl f)), (lk, .inl (cI, 151, .inl flk)), (lv, .inl (cI, 4, .inl fl))] H := hP
    have hD : va_D A [(h, .inr (7, [.int (rf), .ref sc, .int (nI (ss)), .int (nI ((tw t ss (tw t ss (ac ps true) 0 15) 0 99).2)), .int (bI ((tw t ss (tw t ss (ac ps true) 0 15) 0 99).1 = true)), .int (rb), .int (rl), .ref nw, .ref tr, .ref lk, .ref di, .int (nI (ac9)), .ref kp, .ref ik, .ref lv])), (sc, .inl (cI, 90, .inl t)), (nw, .inl (cI, 151, .inl f)), (lk, .inl (cI, 151, .inl flk)), (lv, .inl (cI, 4, .inl fl))] := hD
    refine lv_imul hx hb dX7_command_31 ?_
    refine lv_aload_n hx hb dX7_command_32 rfl (lv_at hl 1 rfl) ?_
    refine lv_iconst (v := 0) hx hb dX7_command_33 (by decide) ?_
    refine lv_bipush (v := 9) hx hb dX7_command_34 (by decide) ?_
    refine gp_backi (gp_runV hX good7 i7 (c7_digit l D cI h sc nw tr lk di kp ik lv rf rb rl ac9 t ss hss (tw t ss (tw t ss (ac ps true) 0 15) 0 99) (tw_le (tw_le hac)) 0 9) q7_digit rfl (m7 128 rfl) (m7 129 rfl) (m7 130 rfl) ⟨Nat.le_of_ble_eq_true rfl, Nat.le_of_ble_eq_true rfl⟩ hK [0] rfl hP hD [0, 1] (by decide) rfl (ci := 7) (q0 := 0) rfl rfl rfl hl.1 rfl (Nat.le_of_ble_eq_true rfl) dX7_command_36 ⟨Nat.zero_le _, Nat.zero_le _⟩) hP hD hS [0, 1] rfl (fun r u h => by rw [h.2]; simp only [List.map_cons, List.map_nil]) (fun r9 u H locs hpost hP hD hS => ?_)
    obtain ⟨hr9, rfl⟩ := hpost
    refine lv_as hr9 ?_
    have hP : va_P D vwCl [(h, .inr (7, [.int (rf), .ref sc, .int (nI (ss)), .int (nI ((dg t ss (tw t ss (tw t ss (ac ps true) 0 15) 0 99) 0 9).2)), .int (bI ((dg t ss (tw t ss (tw t ss (ac ps true) 0 15) 0 99) 0 9).1 = true)), .int (rb), .int (rl), .ref nw, .ref tr, .ref lk, .ref di, .int (nI (ac9)), .ref kp, .ref ik, .ref lv])), (sc, .inl (cI, 90, .inl t)), (nw, .inl (cI, 151, .inl f)), (lk, .inl (cI, 151, .inl flk)), (lv, .inl (cI, 4, .inl fl))] H := hP
    have hD : va_D A [(h, .inr (7, [.int (rf), .ref sc, .int (nI (ss)), .int (nI ((dg t ss (tw t ss (tw t ss (ac ps true) 0 15) 0 99) 0 9).2)), .int (bI ((dg t ss (tw t ss (tw t ss (ac ps true) 0 15) 0 99) 0 9).1 = true)), .int (rb), .int (rl), .ref nw, .ref tr, .ref lk, .ref di, .int (nI (ac9)), .ref kp, .ref ik, .ref lv])), (sc, .inl (cI, 90, .inl t)), (nw, .inl (cI, 151, .inl f)), (lk, .inl (cI, 151, .inl flk)), (lv, .inl (cI, 4, .inl fl))] := hD
    refine lv_iadd hx hb dX7_command_39 ?_
    refine lv_istore_n (lv' := [(3, .int ((10 * (tv t ss (tw t ss (ac ps true) 0 15) 0 99)) + (dv t ss (tw t ss (tw t ss (ac ps true) 0 15) 0 99) 0 9))), (2, .int (tv t ss (ac ps true) 0 15)), (0, .ref h), (1, .int (1))]) hx hb dX7_command_40 rfl hl (by decide) rfl (fun ls hl => ?_)
    have hl : lv_has ls 4 [(3, .int ((10 * (tv t ss (tw t ss (ac ps true) 0 15) 0 99)) + (dv t ss (tw t ss (tw t ss (ac ps true) 0 15) 0 99) 0 9))), (2, .int (cmK t ss ps)), (0, .ref h), (1, .int (1))] := hl
    have hl : lv_has ls 4 [(3, .int (cmV t ss ps)), (2, .int (cmK t ss ps)), (0, .ref h), (1, .int (1))] := hl
    refine lv_iload_n hx hb dX7_command_41 rfl (lv_at hl 3 rfl) ?_
    refine lv_if_eq (tgt := 62) hx hb dX7_command_42 (by decide) (fun c42_24 => ?_) (fun c42_24 => ?_)
    · skip
      exact absurd c42_24 (by decide)
    · skip
      refine lv_aload_n hx hb dX7_command_45 rfl (lv_at hl 2 rfl) ?_
      refine lv_aload_n hx hb dX7_command_46 rfl (lv_at hl 2 rfl) ?_
      refine va_get (D := D) (ci := 7) (v := .ref nw) (C := RX7) (T := TX7) (N := 15) hx hb hts u7 hown hK hP 0 rfl rfl 7 (by decide) (hts _ (m7 5 rfl)) (fun _ h9 => h9) rfl dX7_command_47 ?_
      refine lv_iload_n hx hb dX7_command_50 rfl (lv_at hl 1 rfl) ?_
      refine lv_iload_n hx hb dX7_command_51 rfl (lv_at hl 0 rfl) ?_
      refine gp_backi (gp_runV hX good7 i7 (c7_doPut l D cI h lv lk nw [.int (rf), .ref sc, .int (nI (ss)), .int (nI ((dg t ss (tw t ss (tw t ss (ac ps true) 0 15) 0 99) 0 9).2)), .int (bI ((dg t ss (tw t ss (tw t ss (ac ps true) 0 15) 0 99) 0 9).1 = true)), .int (rb), .int (rl), .ref nw, .ref tr, .ref lk, .ref di, .int (nI (ac9)), .ref kp, .ref ik, .ref lv] fl flk f B hO.1 rfl rfl 5000 (lookT B f).1 (lookT B f).2 (ok_look hO) (cmK t ss ps) (cmV t ss ps) 5000 (recT B (cmK t ss ps) (cmV t ss ps) f).1 (recT B (cmK t ss ps) (cmV t ss ps) f).2 (ok_rec hO _ _)) q7_doPut rfl (m7 105 rfl) (m7 106 rfl) (m7 107 rfl) ⟨Nat.le_of_ble_eq_true rfl, Nat.le_of_ble_eq_true rfl⟩ hK [0] rfl hP hD [0, 4, 3, 2] (by decide) rfl (ci := 7) (q0 := 0) rfl rfl rfl hl.1 rfl (Nat.le_of_ble_eq_true rfl) dX7_command_52 ⟨Nat.zero_le _, Nat.zero_le _⟩) hP hD hS [0, 4, 3, 2] rfl (fun r u h => by obtain ⟨-, x25, x26, rfl⟩ := h; simp only [List.map_cons, List.map_nil]) (fun r9 u H locs hpost hP hD hS => ?_)
      obtain ⟨hr9, x25, x26, rfl⟩ := hpost
      refine lv_as hr9 ?_
      have hP : va_P D vwCl [(h, .inr (7, [.int (rf), .ref sc, .int (nI (ss)), .int (nI ((dg t ss (tw t ss (tw t ss (ac ps true) 0 15) 0 99) 0 9).2)), .int (bI ((dg t ss (tw t ss (tw t ss (ac ps true) 0 15) 0 99) 0 9).1 = true)), .int (rb), .int (rl), .ref nw, .ref tr, .ref lk, .ref di, .int (nI (ac9)), .ref kp, .ref ik, .ref lv])), (sc, .inl (cI, 90, .inl t)), (nw, .inl (cI, 151, .inl (if f 2 = 1 ∧ ¬ ((lookT B f).1) < 0 then ((recT B (cmK t ss ps) (cmV t ss ps) f).2) else f))), (lk, .inl (cI, 151, .inl x26)), (lv, .inl (cI, 4, .inl x25))] H := hP
      have hD : va_D A [(h, .inr (7, [.int (rf), .ref sc, .int (nI (ss)), .int (nI ((dg t ss (tw t ss (tw t ss (ac ps true) 0 15) 0 99) 0 9).2)), .int (bI ((dg t ss (tw t ss (tw t ss (ac ps true) 0 15) 0 99) 0 9).1 = true)), .int (rb), .int (rl), .ref nw, .ref tr, .ref lk, .ref di, .int (nI (ac9)), .ref kp, .ref ik, .ref lv])), (sc, .inl (cI, 90, .inl t)), (nw, .inl (cI, 151, .inl (if f 2 = 1 ∧ ¬ ((lookT B f).1) < 0 then ((recT B (cmK t ss ps) (cmV t ss ps) f).2) else f))), (lk, .inl (cI, 151, .inl x26)), (lv, .inl (cI, 4, .inl x25))] := hD
      refine lv_if_ne (tgt := 62) hx hb dX7_command_55 (by decide) (fun c55_27 => ?_) (fun c55_27 => ?_)
      · skip
        have c55_27 := bI_t c55_27
        refine lv_iconst (v := 0) hx hb dX7_command_62 (by decide) ?_
        have hP : va_P D vwCl [(h, .inr (7, [.int (rf), .ref sc, .int (nI (ss)), .int (nI ((cm t ss ps).2)), .int (bI ((cm t ss ps).1 = true)), .int (rb), .int (rl), .ref nw, .ref tr, .ref lk, .ref di, .int (nI (ac9)), .ref kp, .ref ik, .ref lv])), (sc, .inl (cI, 90, .inl t)), (nw, .inl (cI, 151, .inl (if f 2 = 1 ∧ ¬ ((lookT B f).1) < 0 then ((recT B (cmK t ss ps) (cmV t ss ps) f).2) else f))), (lk, .inl (cI, 151, .inl x26)), (lv, .inl (cI, 4, .inl x25))] H := by
          rw [show (nI ((cm t ss ps).2) : Int32) = nI ((dg t ss (tw t ss (tw t ss (ac ps true) 0 15) 0 99) 0 9).2) from by rw [cm_p c6_1]]
          rw [show (bI ((cm t ss ps).1 = true) : Int32) = bI ((dg t ss (tw t ss (tw t ss (ac ps true) 0 15) 0 99) 0 9).1 = true) from by rw [cm_p c6_1]]
          exact hP
        have hP : va_P D vwCl [(h, .inr (7, [.int (rf), .ref sc, .int (nI (ss)), .int (nI ((cm t ss ps).2)), .int (bI ((cm t ss ps).1 = true)), .int (rb), .int (rl), .ref nw, .ref tr, .ref lk, .ref di, .int (nI (ac9)), .ref kp, .ref ik, .ref lv])), (sc, .inl (cI, 90, .inl t)), (nw, .inl (cI, 151, .inl (cmR t ss ps f B))), (lk, .inl (cI, 151, .inl x26)), (lv, .inl (cI, 4, .inl x25))] H := by
          rw [show (cmR t ss ps f B : Nat → Int32) = if f 2 = 1 ∧ ¬ ((lookT B f).1) < 0 then ((recT B (cmK t ss ps) (cmV t ss ps) f).2) else f from by rw [cmR, if_pos c6_1]; rfl]
          exact hP
        exact gp_retz hX hr hlocks hS hP (P := cmX t ss ps f B) ((bI_0 (by rw [cmX, if_pos c6_1]; exact fun z => z c55_27)).symm) ⟨(bI_0 (by rw [cmX, if_pos c6_1]; exact fun z => z c55_27)).symm, _, _, rfl⟩ dX7_command_63
      · skip
        have c55_27 := bI_f c55_27
        refine lv_iconst (v := 1) hx hb dX7_command_58 (by decide) ?_
        refine lv_goto (tgt := 63) hx hb dX7_command_59 (by decide) ?_
        have hP : va_P D vwCl [(h, .inr (7, [.int (rf), .ref sc, .int (nI (ss)), .int (nI ((cm t ss ps).2)), .int (bI ((cm t ss ps).1 = true)), .int (rb), .int (rl), .ref nw, .ref tr, .ref lk, .ref di, .int (nI (ac9)), .ref kp, .ref ik, .ref lv])), (sc, .inl (cI, 90, .inl t)), (nw, .inl (cI, 151, .inl (if f 2 = 1 ∧ ¬ ((lookT B f).1) < 0 then ((recT B (cmK t ss ps) (cmV t ss ps) f).2) else f))), (lk, .inl (cI, 151, .inl x26)), (lv, .inl (cI, 4, .inl x25))] H := by
          rw [show (nI ((cm t ss ps).2) : Int32) = nI ((dg t ss (tw t ss (tw t ss (ac ps true) 0 15) 0 99) 0 9).2) from by rw [cm_p c6_1]]
          rw [show (bI ((cm t ss ps).1 = true) : Int32) = bI ((dg t ss (tw t ss (tw t ss (ac ps true) 0 15) 0 99) 0 9).1 = true) from by rw [cm_p c6_1]]
          exact hP
        have hP : va_P D vwCl [(h, .inr (7, [.int (rf), .ref sc, .int (nI (ss)), .int (nI ((cm t ss ps).2)), .int (bI ((cm t ss ps).1 = true)), .int (rb), .int (rl), .ref nw, .ref tr, .ref lk, .ref di, .int (nI (ac9)), .ref kp, .ref ik, .ref lv])), (sc, .inl (cI, 90, .inl t)), (nw, .inl (cI, 151, .inl (cmR t ss ps f B))), (lk, .inl (cI, 151, .inl x26)), (lv, .inl (cI, 4, .inl x25))] H := by
          rw [show (cmR t ss ps f B : Nat → Int32) = if f 2 = 1 ∧ ¬ ((lookT B f).1) < 0 then ((recT B (cmK t ss ps) (cmV t ss ps) f).2) else f from by rw [cmR, if_pos c6_1]; rfl]
          exact hP
        exact gp_retz hX hr hlocks hS hP (P := cmX t ss ps f B) ((bI_1 (by rw [cmX, if_pos c6_1]; exact c55_27)).symm) ⟨(bI_1 (by rw [cmX, if_pos c6_1]; exact c55_27)).symm, _, _, rfl⟩ dX7_command_63
theorem dX7_load_0 : decode cX7_load 0 = .ok (.aload_n 0, 1) := by decide +kernel
theorem dX7_load_1 : decode cX7_load 1 = .ok (.aload_n 0, 1) := by decide +kernel
theorem dX7_load_2 : decode cX7_load 2 = .ok (.invokevirtual 206, 3) := by decide +kernel
theorem dX7_load_5 : decode cX7_load 5 = .ok (.bipush (-9), 2) := by decide +kernel
theorem dX7_load_7 : decode cX7_load 7 = .ok (.if_icmp .ne 7, 3) := by decide +kernel
theorem dX7_load_14 : decode cX7_load 14 = .ok (.iconst 1, 1) := by decide +kernel
theorem dX7_load_15 : decode cX7_load 15 = .ok (.invokevirtual 154, 3) := by decide +kernel
theorem dX7_load_18 : decode cX7_load 18 = .ok (.ifCond .eq 5, 3) := by decide +kernel
theorem dX7_load_21 : decode cX7_load 21 = .ok (.iconst 0, 1) := by decide +kernel
theorem dX7_load_22 : decode cX7_load 22 = .ok (.ireturn, 1) := by decide +kernel
set_option maxHeartbeats 4000000 in
set_option maxRecDepth 100000 in
theorem c7_loadBad (l : Launch) (D : va_G) (cI cZ : ClassId) (h sc nw tr lk di kp ik lv : Nat) (rf rb rl : Int32) (ac9 : Nat) (t : Nat → Int32) (ss : Nat) (hss : ss ≤ 90) (ps : Bool × Nat) (hp : 0 ≤ ps.2) (f flk fl fik : Nat → Int32) (n : Nat) (q : Bool × Nat) (hrt : rt t ss n (hd2 t ss) = some q) (hq : ¬ q.1 = true) : GPi l yX7_load cX7_load 2 .int W7 16 357 D [(h, .inr (7, [.int (rf), .ref sc, .int (nI (ss)), .int (nI (ps.2)), .int (bI (ps.1 = true)), .int (rb), .int (rl), .ref nw, .ref tr, .ref lk, .ref di, .int (nI (ac9)), .ref kp, .ref ik, .ref lv])), (sc, .inl (cI, 90, .inl t)), (nw, .inl (cI, 151, .inl f)), (lk, .inl (cI, 151, .inl flk)), (lv, .inl (cI, 4, .inl fl)), (ik, .inl (cZ, 2, .inl fik))] [(cI, .int), (cZ, .boolean)] [.ref h] (fun (r9 : Int32) (u9 : va_W) => r9 = 0 ∧ u9 = [(h, .inr (7, [.int (1), .ref sc, .int (nI (ss)), .int (nI (q.2)), .int (bI (q.1 = true)), .int (hdB t ss), .int (hdL t ss), .ref nw, .ref tr, .ref lk, .ref di, .int (nI (ac9)), .ref kp, .ref ik, .ref lv])), (sc, .inl (cI, 90, .inl t)), (nw, .inl (cI, 151, .inl f)), (lk, .inl (cI, 151, .inl flk)), (lv, .inl (cI, 4, .inl fl)), (ik, .inl (cZ, 2, .inl fik))]) := by
  refine gp_of RX7 (by decide) rfl (Nat.le_of_ble_eq_true rfl) ?_
  intro p e s m below meth c ls H hX hr hlocks hK hP hD hS hl
  generalize gp_A [(h, .inr (7, [.int (rf), .ref sc, .int (nI (ss)), .int (nI (ps.2)), .int (bI (ps.1 = true)), .int (rb), .int (rl), .ref nw, .ref tr, .ref lk, .ref di, .int (nI (ac9)), .ref kp, .ref ik, .ref lv])), (sc, .inl (cI, 90, .inl t)), (nw, .inl (cI, 151, .inl f)), (lk, .inl (cI, 151, .inl flk)), (lv, .inl (cI, 4, .inl fl)), (ik, .inl (cZ, 2, .inl fik))] = A at hD hS ⊢
  have hx := hX.1
  have hb := hX.2.1
  have hown := hX.2.2.2.1
  have hts := hX.2.2.2.2
  have hl : lv_has ls 2 [(0, .ref h)] := hl
  refine lv_aload_n hx hb dX7_load_0 rfl (lv_at hl 0 rfl) ?_
  refine lv_aload_n hx hb dX7_load_1 rfl (lv_at hl 0 rfl) ?_
  refine gp_backi (gp_runV hX good7 i7 (c7_readText l D cI h sc nw tr lk di kp ik lv rf rb rl ac9 t ss hss ps (hp) f n q hrt) q7_readText rfl (m7 164 rfl) (m7 165 rfl) (m7 166 rfl) ⟨Nat.le_of_ble_eq_true rfl, Nat.le_of_ble_eq_true rfl⟩ hK [0] rfl hP hD [0, 1, 2] (by decide) rfl (ci := 7) (q0 := 0) rfl rfl rfl hl.1 rfl (Nat.le_of_ble_eq_true rfl) dX7_load_2 ⟨Nat.zero_le _, Nat.zero_le _⟩) hP hD hS [0, 1, 2] rfl (fun r u h => by rw [h.2]; simp only [List.map_cons, List.map_nil]) (fun r9 u H locs hpost hP hD hS => ?_)
  obtain ⟨hr9, rfl⟩ := hpost
  refine lv_as hr9 ?_
  have hP : va_P D vwCl [(h, .inr (7, [.int (rf), .ref sc, .int (nI (ss)), .int (nI (q.2)), .int (bI (q.1 = true)), .int (hdB t ss), .int (hdL t ss), .ref nw, .ref tr, .ref lk, .ref di, .int (nI (ac9)), .ref kp, .ref ik, .ref lv])), (sc, .inl (cI, 90, .inl t)), (nw, .inl (cI, 151, .inl f)), (lk, .inl (cI, 151, .inl flk)), (lv, .inl (cI, 4, .inl fl)), (ik, .inl (cZ, 2, .inl fik))] H := hP
  have hD : va_D A [(h, .inr (7, [.int (rf), .ref sc, .int (nI (ss)), .int (nI (q.2)), .int (bI (q.1 = true)), .int (hdB t ss), .int (hdL t ss), .ref nw, .ref tr, .ref lk, .ref di, .int (nI (ac9)), .ref kp, .ref ik, .ref lv])), (sc, .inl (cI, 90, .inl t)), (nw, .inl (cI, 151, .inl f)), (lk, .inl (cI, 151, .inl flk)), (lv, .inl (cI, 4, .inl fl)), (ik, .inl (cZ, 2, .inl fik))] := hD
  refine lv_as (show rtV q = nI (q.2) from if_neg hq) ?_
  have hq9 := rt_le hd2_le hrt
  refine lv_bipush (v := (-9)) hx hb dX7_load_5 (by decide) ?_
  refine lv_icmp_ne (tgt := 14) hx hb dX7_load_7 (by decide) (fun c7_1 => ?_) (fun c7_1 => ?_)
  · skip
    refine lv_iconst (v := 1) hx hb dX7_load_14 (by decide) ?_
    refine gp_backi (gp_runV hX good7 i7 (c7_refused l D h rf 1 [.ref sc, .int (nI (ss)), .int (nI (q.2)), .int (bI (q.1 = true)), .int (hdB t ss), .int (hdL t ss), .ref nw, .ref tr, .ref lk, .ref di, .int (nI (ac9)), .ref kp, .ref ik, .ref lv]) q7_refused rfl (m7 117 rfl) (m7 118 rfl) (m7 119 rfl) ⟨Nat.le_of_ble_eq_true rfl, Nat.le_of_ble_eq_true rfl⟩ hK [] rfl hP hD [0] (by decide) rfl (ci := 7) (q0 := 0) rfl rfl rfl hl.1 rfl (Nat.le_of_ble_eq_true rfl) dX7_load_15 ⟨Nat.zero_le _, Nat.zero_le _⟩) hP hD hS [0] rfl (fun r u h => by rw [h.2]; simp only [List.map_cons, List.map_nil]) (fun r9 u H locs hpost hP hD hS => ?_)
    obtain ⟨hr9, rfl⟩ := hpost
    refine lv_as hr9 ?_
    have hP : va_P D vwCl [(h, .inr (7, [.int (1), .ref sc, .int (nI (ss)), .int (nI (q.2)), .int (bI (q.1 = true)), .int (hdB t ss), .int (hdL t ss), .ref nw, .ref tr, .ref lk, .ref di, .int (nI (ac9)), .ref kp, .ref ik, .ref lv])), (sc, .inl (cI, 90, .inl t)), (nw, .inl (cI, 151, .inl f)), (lk, .inl (cI, 151, .inl flk)), (lv, .inl (cI, 4, .inl fl)), (ik, .inl (cZ, 2, .inl fik))] H := hP
    have hD : va_D A [(h, .inr (7, [.int (1), .ref sc, .int (nI (ss)), .int (nI (q.2)), .int (bI (q.1 = true)), .int (hdB t ss), .int (hdL t ss), .ref nw, .ref tr, .ref lk, .ref di, .int (nI (ac9)), .ref kp, .ref ik, .ref lv])), (sc, .inl (cI, 90, .inl t)), (nw, .inl (cI, 151, .inl f)), (lk, .inl (cI, 151, .inl flk)), (lv, .inl (cI, 4, .inl fl)), (ik, .inl (cZ, 2, .inl fik))] := hD
    refine lv_as (show bI (0 < (1 : Int32)) = 1 from by decide) ?_
    refine lv_if_eq (tgt := 23) hx hb dX7_load_18 (by decide) (fun c18_2 => ?_) (fun c18_2 => ?_)
    · skip
      exact absurd c18_2 (by decide)
    · skip
      refine lv_iconst (v := 0) hx hb dX7_load_21 (by decide) ?_
      exact gp_reti hX hr hlocks hS hP ⟨rfl, rfl⟩ dX7_load_22
  · skip
    exact absurd c7_1 (oI_ne (by omega))
theorem dX7_load_10 : decode cX7_load 10 = .ok (.iconst 0, 1) := by decide +kernel
theorem dX7_load_11 : decode cX7_load 11 = .ok (.goto 4, 3) := by decide +kernel
theorem dX7_load_23 : decode cX7_load 23 = .ok (.aload_n 0, 1) := by decide +kernel
theorem dX7_load_24 : decode cX7_load 24 = .ok (.invokevirtual 199, 3) := by decide +kernel
theorem dX7_load_27 : decode cX7_load 27 = .ok (.aload_n 0, 1) := by decide +kernel
theorem dX7_load_28 : decode cX7_load 28 = .ok (.getfield 13, 3) := by decide +kernel
theorem dX7_load_31 : decode cX7_load 31 = .ok (.aload_n 0, 1) := by decide +kernel
theorem dX7_load_32 : decode cX7_load 32 = .ok (.getfield 193, 3) := by decide +kernel
theorem dX7_load_35 : decode cX7_load 35 = .ok (.aload_n 0, 1) := by decide +kernel
theorem dX7_load_36 : decode cX7_load 36 = .ok (.getfield 196, 3) := by decide +kernel
theorem dX7_load_39 : decode cX7_load 39 = .ok (.invokestatic 35, 3) := by decide +kernel
theorem dX7_load_42 : decode cX7_load 42 = .ok (.iconst 0, 1) := by decide +kernel
theorem dX7_load_43 : decode cX7_load 43 = .ok (.istore_n 1, 1) := by decide +kernel
theorem dX7_load_44 : decode cX7_load 44 = .ok (.aload_n 0, 1) := by decide +kernel
theorem dX7_load_45 : decode cX7_load 45 = .ok (.getfield 158, 3) := by decide +kernel
theorem dX7_load_48 : decode cX7_load 48 = .ok (.aload_n 0, 1) := by decide +kernel
theorem dX7_load_49 : decode cX7_load 49 = .ok (.getfield 151, 3) := by decide +kernel
theorem dX7_load_52 : decode cX7_load 52 = .ok (.if_icmp .ge 22, 3) := by decide +kernel
theorem dX7_load_55 : decode cX7_load 55 = .ok (.iload_n 1, 1) := by decide +kernel
theorem dX7_load_56 : decode cX7_load 56 = .ok (.aload_n 0, 1) := by decide +kernel
theorem dX7_load_57 : decode cX7_load 57 = .ok (.iconst 1, 1) := by decide +kernel
theorem dX7_load_58 : decode cX7_load 58 = .ok (.invokevirtual 202, 3) := by decide +kernel
theorem dX7_load_61 : decode cX7_load 61 = .ok (.ifCond .eq 7, 3) := by decide +kernel
theorem dX7_load_64 : decode cX7_load 64 = .ok (.iconst 1, 1) := by decide +kernel
theorem dX7_load_65 : decode cX7_load 65 = .ok (.goto 4, 3) := by decide +kernel
theorem dX7_load_68 : decode cX7_load 68 = .ok (.iconst 0, 1) := by decide +kernel
theorem dX7_load_69 : decode cX7_load 69 = .ok (.iadd, 1) := by decide +kernel
theorem dX7_load_70 : decode cX7_load 70 = .ok (.istore_n 1, 1) := by decide +kernel
theorem dX7_load_71 : decode cX7_load 71 = .ok (.goto (-27), 3) := by decide +kernel
theorem dX7_load_74 : decode cX7_load 74 = .ok (.aload_n 0, 1) := by decide +kernel
theorem dX7_load_75 : decode cX7_load 75 = .ok (.iconst 0, 1) := by decide +kernel
theorem dX7_load_76 : decode cX7_load 76 = .ok (.putfield 45, 3) := by decide +kernel
theorem dX7_load_79 : decode cX7_load 79 = .ok (.aload_n 0, 1) := by decide +kernel
theorem dX7_load_80 : decode cX7_load 80 = .ok (.getfield 28, 3) := by decide +kernel
theorem dX7_load_83 : decode cX7_load 83 = .ok (.iconst 0, 1) := by decide +kernel
theorem dX7_load_84 : decode cX7_load 84 = .ok (.iconst 0, 1) := by decide +kernel
theorem dX7_load_85 : decode cX7_load 85 = .ok (.bastore, 1) := by decide +kernel
theorem dX7_load_86 : decode cX7_load 86 = .ok (.aload_n 0, 1) := by decide +kernel
theorem dX7_load_87 : decode cX7_load 87 = .ok (.getfield 28, 3) := by decide +kernel
theorem dX7_load_90 : decode cX7_load 90 = .ok (.iconst 1, 1) := by decide +kernel
theorem dX7_load_91 : decode cX7_load 91 = .ok (.iconst 0, 1) := by decide +kernel
theorem dX7_load_92 : decode cX7_load 92 = .ok (.bastore, 1) := by decide +kernel
theorem dX7_load_93 : decode cX7_load 93 = .ok (.iload_n 1, 1) := by decide +kernel
theorem dX7_load_94 : decode cX7_load 94 = .ok (.ireturn, 1) := by decide +kernel
set_option maxHeartbeats 4000000 in
set_option maxRecDepth 100000 in
theorem c7_loadOk (l : Launch) (D : va_G) (cI cZ : ClassId) (h sc nw tr lk di kp ik lv : Nat) (rf rb rl : Int32) (ac9 : Nat) (t : Nat → Int32) (ss : Nat) (hss : ss ≤ 90) (ps : Bool × Nat) (hp : 0 ≤ ps.2) (f flk fl fik : Nat → Int32) (n : Nat) (q : Bool × Nat) (hrt : rt t ss n (hd2 t ss) = some q) (hq : q.1 = true) (B n2 l9 : Nat) (f9 : Nat → Int32) (hld : ldL t ss B f9 l9 n2 (hd2 t ss) (clR (hdB t ss) (hdL t ss)) 0) : GPi l yX7_load cX7_load 2 .int W7 16 357 D [(h, .inr (7, [.int (rf), .ref sc, .int (nI (ss)), .int (nI (ps.2)), .int (bI (ps.1 = true)), .int (rb), .int (rl), .ref nw, .ref tr, .ref lk, .ref di, .int (nI (ac9)), .ref kp, .ref ik, .ref lv])), (sc, .inl (cI, 90, .inl t)), (nw, .inl (cI, 151, .inl f)), (lk, .inl (cI, 151, .inl flk)), (lv, .inl (cI, 4, .inl fl)), (ik, .inl (cZ, 2, .inl fik))] [(cI, .int), (cZ, .boolean)] [.ref h] (fun (r9 : Int32) (u9 : va_W) => r9 = (nI (l9)) ∧ ∃ fl9 : Nat → Int32, ∃ lk9 : Nat → Int32, ∃ rd9 : Bool × Nat, u9 = [(h, .inr (7, [.int (0), .ref sc, .int (nI (ss)), .int (nI (rd9.2)), .int (bI (rd9.1 = true)), .int (hdB t ss), .int (hdL t ss), .ref nw, .ref tr, .ref lk, .ref di, .int (0), .ref kp, .ref ik, .ref lv])), (sc, .inl (cI, 90, .inl t)), (nw, .inl (cI, 151, .inl f9)), (lk, .inl (cI, 151, .inl lk9)), (lv, .inl (cI, 4, .inl fl9)), (ik, .inl (cZ, 2, .inl (upd (upd fik 0 0) 1 0)))]) := by
  refine gp_of RX7 (by decide) rfl (Nat.le_of_ble_eq_true rfl) ?_
  intro p e s m below meth c ls H hX hr hlocks hK hP hD hS hl
  generalize gp_A [(h, .inr (7, [.int (rf), .ref sc, .int (nI (ss)), .int (nI (ps.2)), .int (bI (ps.1 = true)), .int (rb), .int (rl), .ref nw, .ref tr, .ref lk, .ref di, .int (nI (ac9)), .ref kp, .ref ik, .ref lv])), (sc, .inl (cI, 90, .inl t)), (nw, .inl (cI, 151, .inl f)), (lk, .inl (cI, 151, .inl flk)), (lv, .inl (cI, 4, .inl fl)), (ik, .inl (cZ, 2, .inl fik))] = A at hD hS ⊢
  have hx := hX.1
  have hb := hX.2.1
  have hown := hX.2.2.2.1
  have hts := hX.2.2.2.2
  have hl : lv_has ls 2 [(0, .ref h)] := hl
  refine lv_aload_n hx hb dX7_load_0 rfl (lv_at hl 0 rfl) ?_
  refine lv_aload_n hx hb dX7_load_1 rfl (lv_at hl 0 rfl) ?_
  refine gp_backi (gp_runV hX good7 i7 (c7_readText l D cI h sc nw tr lk di kp ik lv rf rb rl ac9 t ss hss ps (hp) f n q hrt) q7_readText rfl (m7 164 rfl) (m7 165 rfl) (m7 166 rfl) ⟨Nat.le_of_ble_eq_true rfl, Nat.le_of_ble_eq_true rfl⟩ hK [0] rfl hP hD [0, 1, 2] (by decide) rfl (ci := 7) (q0 := 0) rfl rfl rfl hl.1 rfl (Nat.le_of_ble_eq_true rfl) dX7_load_2 ⟨Nat.zero_le _, Nat.zero_le _⟩) hP hD hS [0, 1, 2] rfl (fun r u h => by rw [h.2]; simp only [List.map_cons, List.map_nil]) (fun r9 u H locs hpost hP hD hS => ?_)
  obtain ⟨hr9, rfl⟩ := hpost
  refine lv_as hr9 ?_
  have hP : va_P D vwCl [(h, .inr (7, [.int (rf), .ref sc, .int (nI (ss)), .int (nI (q.2)), .int (bI (q.1 = true)), .int (hdB t ss), .int (hdL t ss), .ref nw, .ref tr, .ref lk, .ref di, .int (nI (ac9)), .ref kp, .ref ik, .ref lv])), (sc, .inl (cI, 90, .inl t)), (nw, .inl (cI, 151, .inl f)), (lk, .inl (cI, 151, .inl flk)), (lv, .inl (cI, 4, .inl fl)), (ik, .inl (cZ, 2, .inl fik))] H := hP
  have hD : va_D A [(h, .inr (7, [.int (rf), .ref sc, .int (nI (ss)), .int (nI (q.2)), .int (bI (q.1 = true)), .int (hdB t ss), .int (hdL t ss), .ref nw, .ref tr, .ref lk, .ref di, .int (nI (ac9)), .ref kp, .ref ik, .ref lv])), (sc, .inl (cI, 90, .inl t)), (nw, .inl (cI, 151, .inl f)), (lk, .inl (cI, 151, .inl flk)), (lv, .inl (cI, 4, .inl fl)), (ik, .inl (cZ, 2, .inl fik))] := hD
  refine lv_as (show rtV q = (-9) from if_pos hq) ?_
  have hq9 := rt_le hd2_le hrt
  refine lv_bipush (v := (-9)) hx hb dX7_load_5 (by decide) ?_
  refine lv_icmp_ne (tgt := 14) hx hb dX7_load_7 (by decide) (fun c7_1 => ?_) (fun c7_1 => ?_)
  · skip
    exact absurd c7_1 (by decide)
  · skip
    refine lv_iconst (v := 0) hx hb dX7_load_10 (by decide) ?_
    refine lv_goto (tgt := 15) hx hb dX7_load_11 (by decide) ?_
    refine gp_backi (gp_runV hX good7 i7 (c7_refused l D h rf 0 [.ref sc, .int (nI (ss)), .int (nI (q.2)), .int (bI (q.1 = true)), .int (hdB t ss), .int (hdL t ss), .ref nw, .ref tr, .ref lk, .ref di, .int (nI (ac9)), .ref kp, .ref ik, .ref lv]) q7_refused rfl (m7 117 rfl) (m7 118 rfl) (m7 119 rfl) ⟨Nat.le_of_ble_eq_true rfl, Nat.le_of_ble_eq_true rfl⟩ hK [] rfl hP hD [0] (by decide) rfl (ci := 7) (q0 := 0) rfl rfl rfl hl.1 rfl (Nat.le_of_ble_eq_true rfl) dX7_load_15 ⟨Nat.zero_le _, Nat.zero_le _⟩) hP hD hS [0] rfl (fun r u h => by rw [h.2]; simp only [List.map_cons, List.map_nil]) (fun r9 u H locs hpost hP hD hS => ?_)
    obtain ⟨hr9, rfl⟩ := hpost
    refine lv_as hr9 ?_
    have hP : va_P D vwCl [(h, .inr (7, [.int (0), .ref sc, .int (nI (ss)), .int (nI (q.2)), .int (bI (q.1 = true)), .int (hdB t ss), .int (hdL t ss), .ref nw, .ref tr, .ref lk, .ref di, .int (nI (ac9)), .ref kp, .ref ik, .ref lv])), (sc, .inl (cI, 90, .inl t)), (nw, .inl (cI, 151, .inl f)), (lk, .inl (cI, 151, .inl flk)), (lv, .inl (cI, 4, .inl fl)), (ik, .inl (cZ, 2, .inl fik))] H := hP
    have hD : va_D A [(h, .inr (7, [.int (0), .ref sc, .int (nI (ss)), .int (nI (q.2)), .int (bI (q.1 = true)), .int (hdB t ss), .int (hdL t ss), .ref nw, .ref tr, .ref lk, .ref di, .int (nI (ac9)), .ref kp, .ref ik, .ref lv])), (sc, .inl (cI, 90, .inl t)), (nw, .inl (cI, 151, .inl f)), (lk, .inl (cI, 151, .inl flk)), (lv, .inl (cI, 4, .inl fl)), (ik, .inl (cZ, 2, .inl fik))] := hD
    refine lv_as (show bI (0 < (0 : Int32)) = 0 from by decide) ?_
    refine lv_if_eq (tgt := 23) hx hb dX7_load_18 (by decide) (fun c18_2 => ?_) (fun c18_2 => ?_)
    · skip
      refine lv_aload_n hx hb dX7_load_23 rfl (lv_at hl 0 rfl) ?_
      refine gp_backv (gp_runV hX good7 i7 (c7_head l D cI h sc nw tr lk di kp ik lv 0 (hdB t ss) (hdL t ss) ac9 t ss hss q (by omega) ) q7_head rfl (m7 156 rfl) (m7 157 rfl) (m7 158 rfl) ⟨Nat.le_of_ble_eq_true rfl, Nat.le_of_ble_eq_true rfl⟩ hK [0] rfl hP hD [0, 1] (by decide) rfl (ci := 7) (q0 := 0) rfl rfl rfl hl.1 rfl (Nat.le_of_ble_eq_true rfl) dX7_load_24 ⟨Nat.zero_le _, Nat.zero_le _⟩) hP hD hS [0, 1] rfl (fun u h => by rw [h]; simp only [List.map_cons, List.map_nil]) (fun u H locs hpost hP hD hS => ?_)
      subst hpost
      have hP : va_P D vwCl [(h, .inr (7, [.int (0), .ref sc, .int (nI (ss)), .int (nI ((hd2 t ss).2)), .int (bI ((hd2 t ss).1 = true)), .int (hdB t ss), .int (hdL t ss), .ref nw, .ref tr, .ref lk, .ref di, .int (nI (ac9)), .ref kp, .ref ik, .ref lv])), (sc, .inl (cI, 90, .inl t)), (nw, .inl (cI, 151, .inl f)), (lk, .inl (cI, 151, .inl flk)), (lv, .inl (cI, 4, .inl fl)), (ik, .inl (cZ, 2, .inl fik))] H := hP
      have hD : va_D A [(h, .inr (7, [.int (0), .ref sc, .int (nI (ss)), .int (nI ((hd2 t ss).2)), .int (bI ((hd2 t ss).1 = true)), .int (hdB t ss), .int (hdL t ss), .ref nw, .ref tr, .ref lk, .ref di, .int (nI (ac9)), .ref kp, .ref ik, .ref lv])), (sc, .inl (cI, 90, .inl t)), (nw, .inl (cI, 151, .inl f)), (lk, .inl (cI, 151, .inl flk)), (lv, .inl (cI, 4, .inl fl)), (ik, .inl (cZ, 2, .inl fik))] := hD
      have hP : va_P D vwCl [(h, .inr (7, [.int (0), .ref sc, .int (nI (ss)), .int (nI ((hd2 t ss).2)), .int (bI ((hd2 t ss).1 = true)), .int (hdB t ss), .int (hdL t ss), .ref nw, .ref tr, .ref lk, .ref di, .int (nI (ac9)), .ref kp, .ref ik, .ref lv])), (sc, .inl (cI, 90, .inl t)), (nw, .inl (cI, 151, .inl f)), (lk, .inl (cI, 151, .inl flk)), (lv, .inl (cI, 4, .inl fl)), (ik, .inl (cZ, 2, .inl fik))] H := by skip; exact hP
      have hD : va_D A [(h, .inr (7, [.int (0), .ref sc, .int (nI (ss)), .int (nI ((hd2 t ss).2)), .int (bI ((hd2 t ss).1 = true)), .int (hdB t ss), .int (hdL t ss), .ref nw, .ref tr, .ref lk, .ref di, .int (nI (ac9)), .ref kp, .ref ik, .ref lv])), (sc, .inl (cI, 90, .inl t)), (nw, .inl (cI, 151, .inl f)), (lk, .inl (cI, 151, .inl flk)), (lv, .inl (cI, 4, .inl fl)), (ik, .inl (cZ, 2, .inl fik))] := gp_D hD (by simp only [List.map_cons, List.map_nil])
      refine lv_aload_n hx hb dX7_load_27 rfl (lv_at hl 0 rfl) ?_
      refine va_get (D := D) (ci := 7) (v := .ref nw) (C := RX7) (T := TX7) (N := 15) hx hb hts u7 hown hK hP 0 rfl rfl 7 (by decide) (hts _ (m7 5 rfl)) (fun _ h9 => h9) rfl dX7_load_28 ?_
      refine lv_aload_n hx hb dX7_load_31 rfl (lv_at hl 0 rfl) ?_
      refine va_get (D := D) (ci := 7) (v := .int (hdB t ss)) (C := RX7) (T := TX7) (N := 15) hx hb hts u7 hown hK hP 0 rfl rfl 5 (by decide) (hts _ (m7 154 rfl)) (fun _ h9 => h9) rfl dX7_load_32 ?_
      refine lv_aload_n hx hb dX7_load_35 rfl (lv_at hl 0 rfl) ?_
      refine va_get (D := D) (ci := 7) (v := .int (hdL t ss)) (C := RX7) (T := TX7) (N := 15) hx hb hts u7 hown hK hP 0 rfl rfl 6 (by decide) (hts _ (m7 155 rfl)) (fun _ h9 => h9) rfl dX7_load_36 ?_
      refine gp_backv (gp_runS hX good7 i7 (c7_clean l D cI nw f (hdB t ss) (hdL t ss)) q7_clean rfl (m7 13 rfl) (m7 14 rfl) ⟨Nat.le_of_ble_eq_true rfl, Nat.le_of_ble_eq_true rfl⟩ hK [0] rfl hP hD [2] (by decide) rfl hl.1 rfl (Nat.le_of_ble_eq_true rfl) dX7_load_39 ⟨Nat.zero_le _, Nat.zero_le _⟩) hP hD hS [2] rfl (fun u h => by rw [h]; simp only [List.map_cons, List.map_nil]) (fun u H locs hpost hP hD hS => ?_)
      subst hpost
      have hP : va_P D vwCl [(h, .inr (7, [.int (0), .ref sc, .int (nI (ss)), .int (nI ((hd2 t ss).2)), .int (bI ((hd2 t ss).1 = true)), .int (hdB t ss), .int (hdL t ss), .ref nw, .ref tr, .ref lk, .ref di, .int (nI (ac9)), .ref kp, .ref ik, .ref lv])), (sc, .inl (cI, 90, .inl t)), (nw, .inl (cI, 151, .inl (clR (hdB t ss) (hdL t ss)))), (lk, .inl (cI, 151, .inl flk)), (lv, .inl (cI, 4, .inl fl)), (ik, .inl (cZ, 2, .inl fik))] H := hP
      have hD : va_D A [(h, .inr (7, [.int (0), .ref sc, .int (nI (ss)), .int (nI ((hd2 t ss).2)), .int (bI ((hd2 t ss).1 = true)), .int (hdB t ss), .int (hdL t ss), .ref nw, .ref tr, .ref lk, .ref di, .int (nI (ac9)), .ref kp, .ref ik, .ref lv])), (sc, .inl (cI, 90, .inl t)), (nw, .inl (cI, 151, .inl (clR (hdB t ss) (hdL t ss)))), (lk, .inl (cI, 151, .inl flk)), (lv, .inl (cI, 4, .inl fl)), (ik, .inl (cZ, 2, .inl fik))] := hD
      refine lv_iconst (v := 0) hx hb dX7_load_42 (by decide) ?_
      refine lv_istore_n (lv' := [(1, .int (0)), (0, .ref h)]) hx hb dX7_load_43 rfl hl (by decide) rfl (fun ls hl => ?_)
      have LP44 : ∀ n9 : Nat, ∀ (n8 : Nat) (q8 : Bool × Nat) (g : Nat → Int32) (l8 : Nat) (lkx : Nat → Int32) (flx : Nat → Int32), (hq8 : q8.2 ≤ ss) → (hl8 : ldL t ss B f9 l9 n8 q8 g l8) → n8 < n9 → ∀ (H : Heap) (locs : List Loc), va_P D vwCl [(h, .inr (7, [.int (0), .ref sc, .int (nI (ss)), .int (nI (q8.2)), .int (bI (q8.1 = true)), .int (hdB t ss), .int (hdL t ss), .ref nw, .ref tr, .ref lk, .ref di, .int (nI (ac9)), .ref kp, .ref ik, .ref lv])), (sc, .inl (cI, 90, .inl t)), (nw, .inl (cI, 151, .inl g)), (lk, .inl (cI, 151, .inl lkx)), (lv, .inl (cI, 4, .inl flx)), (ik, .inl (cZ, 2, .inl fik))] H → va_D A [(h, .inr (7, [.int (0), .ref sc, .int (nI (ss)), .int (nI (q8.2)), .int (bI (q8.1 = true)), .int (hdB t ss), .int (hdL t ss), .ref nw, .ref tr, .ref lk, .ref di, .int (nI (ac9)), .ref kp, .ref ik, .ref lv])), (sc, .inl (cI, 90, .inl t)), (nw, .inl (cI, 151, .inl g)), (lk, .inl (cI, 151, .inl lkx)), (lv, .inl (cI, 4, .inl flx)), (ik, .inl (cZ, 2, .inl fik))] → va_S A s.heap H locs → ∀ ls : Array Slot, lv_has ls 2 [(0, .ref h), (1, .int (nI (l8)))] → W p l e ({ frames := 16, cells := 0, slots := 0, locals := 357 } : Room) s m ([.ref h] : List Value).toArray below meth c H locs 0 0 (MQ below (va_Qi (fun (r9 : Int32) (u9 : va_W) => r9 = (nI (l9)) ∧ ∃ fl9 : Nat → Int32, ∃ lk9 : Nat → Int32, ∃ rd9 : Bool × Nat, u9 = [(h, .inr (7, [.int (0), .ref sc, .int (nI (ss)), .int (nI (rd9.2)), .int (bI (rd9.1 = true)), .int (hdB t ss), .int (hdL t ss), .ref nw, .ref tr, .ref lk, .ref di, .int (0), .ref kp, .ref ik, .ref lv])), (sc, .inl (cI, 90, .inl t)), (nw, .inl (cI, 151, .inl f9)), (lk, .inl (cI, 151, .inl lk9)), (lv, .inl (cI, 4, .inl fl9)), (ik, .inl (cZ, 2, .inl (upd (upd fik 0 0) 1 0)))]) (fun u t => va_P D vwCl u t.heap) A) ([.ref h] : List Value).toArray s 0 0 A) (F0 m 44 ls []) := by
        intro n9
        induction n9 with
        | zero => intros; omega
        | succ n9 ih44 =>
          intro n8 q8 g l8 lkx flx hq8 hl8 hm9 H locs hP hD hS ls hl
          obtain ⟨n7, rfl⟩ : ∃ n7, n8 = n7 + 1 := by cases n8 with | zero => cases hl8 | succ n => exact ⟨n, rfl⟩
          rw [ldL] at hl8
          refine lv_aload_n hx hb dX7_load_44 rfl (lv_at hl 0 rfl) ?_
          refine va_get (D := D) (ci := 7) (v := .int (nI (q8.2))) (C := RX7) (T := TX7) (N := 15) hx hb hts u7 hown hK hP 0 rfl rfl 3 (by decide) (hts _ (m7 121 rfl)) (fun _ h9 => h9) rfl dX7_load_45 ?_
          refine lv_aload_n hx hb dX7_load_48 rfl (lv_at hl 0 rfl) ?_
          refine va_get (D := D) (ci := 7) (v := .int (nI (ss))) (C := RX7) (T := TX7) (N := 15) hx hb hts u7 hown hK hP 0 rfl rfl 2 (by decide) (hts _ (m7 113 rfl)) (fun _ h9 => h9) rfl dX7_load_49 ?_
          refine lv_icmp_ge (tgt := 74) hx hb dX7_load_52 (by decide) (fun c52_3 => ?_) (fun c52_3 => ?_)
          · skip
            have c52_3 := cn_le (a := ss) (b := q8.2) (by omega) (by omega) c52_3
            rw [if_neg (by omega)] at hl8
            obtain ⟨hf9, hl9⟩ := hl8
            refine lv_aload_n hx hb dX7_load_74 rfl (lv_at hl 0 rfl) ?_
            refine lv_iconst (v := 0) hx hb dX7_load_75 (by decide) ?_
            refine va_put (D := D) (ci := 7) (v := .int (0)) (ty := .int) (C := RX7) (T := TX7) (N := 15) hx hb hts u7 tyX7 tyX7_ok nmX7 hown hK hP hD hS 0 rfl rfl 11 (by decide) (hts _ (m7 19 rfl)) (fun _ h9 => h9) rfl (by decide +kernel) rfl rfl (Nat.le_of_ble_eq_true rfl) dX7_load_76 (fun H locs hP hD hS => ?_)
            have hP : va_P D vwCl [(h, .inr (7, [.int (0), .ref sc, .int (nI (ss)), .int (nI (q8.2)), .int (bI (q8.1 = true)), .int (hdB t ss), .int (hdL t ss), .ref nw, .ref tr, .ref lk, .ref di, .int (0), .ref kp, .ref ik, .ref lv])), (sc, .inl (cI, 90, .inl t)), (nw, .inl (cI, 151, .inl g)), (lk, .inl (cI, 151, .inl lkx)), (lv, .inl (cI, 4, .inl flx)), (ik, .inl (cZ, 2, .inl fik))] H := hP
            have hD : va_D A [(h, .inr (7, [.int (0), .ref sc, .int (nI (ss)), .int (nI (q8.2)), .int (bI (q8.1 = true)), .int (hdB t ss), .int (hdL t ss), .ref nw, .ref tr, .ref lk, .ref di, .int (0), .ref kp, .ref ik, .ref lv])), (sc, .inl (cI, 90, .inl t)), (nw, .inl (cI, 151, .inl g)), (lk, .inl (cI, 151, .inl lkx)), (lv, .inl (cI, 4, .inl flx)), (ik, .inl (cZ, 2, .inl fik))] := hD
            refine lv_aload_n hx hb dX7_load_79 rfl (lv_at hl 0 rfl) ?_
            refine va_get (D := D) (ci := 7) (v := .ref ik) (C := RX7) (T := TX7) (N := 15) hx hb hts u7 hown hK hP 0 rfl rfl 13 (by decide) (hts _ (m7 11 rfl)) (fun _ h9 => h9) rfl dX7_load_80 ?_
            refine lv_iconst (v := 0) hx hb dX7_load_83 (by decide) ?_
            refine lv_iconst (v := 0) hx hb dX7_load_84 (by decide) ?_
            refine ra_zast (i := 0) hx hb hK hP hD hS 5 1 rfl rfl (by decide) (by omega) (by decide) dX7_load_85 (fun H locs hP hD hS => ?_)
            have hP : va_P D vwCl [(h, .inr (7, [.int (0), .ref sc, .int (nI (ss)), .int (nI (q8.2)), .int (bI (q8.1 = true)), .int (hdB t ss), .int (hdL t ss), .ref nw, .ref tr, .ref lk, .ref di, .int (0), .ref kp, .ref ik, .ref lv])), (sc, .inl (cI, 90, .inl t)), (nw, .inl (cI, 151, .inl g)), (lk, .inl (cI, 151, .inl lkx)), (lv, .inl (cI, 4, .inl flx)), (ik, .inl (cZ, 2, .inl (upd fik 0 0)))] H := hP
            have hD : va_D A [(h, .inr (7, [.int (0), .ref sc, .int (nI (ss)), .int (nI (q8.2)), .int (bI (q8.1 = true)), .int (hdB t ss), .int (hdL t ss), .ref nw, .ref tr, .ref lk, .ref di, .int (0), .ref kp, .ref ik, .ref lv])), (sc, .inl (cI, 90, .inl t)), (nw, .inl (cI, 151, .inl g)), (lk, .inl (cI, 151, .inl lkx)), (lv, .inl (cI, 4, .inl flx)), (ik, .inl (cZ, 2, .inl (upd fik 0 0)))] := hD
            refine lv_aload_n hx hb dX7_load_86 rfl (lv_at hl 0 rfl) ?_
            refine va_get (D := D) (ci := 7) (v := .ref ik) (C := RX7) (T := TX7) (N := 15) hx hb hts u7 hown hK hP 0 rfl rfl 13 (by decide) (hts _ (m7 11 rfl)) (fun _ h9 => h9) rfl dX7_load_87 ?_
            refine lv_iconst (v := 1) hx hb dX7_load_90 (by decide) ?_
            refine lv_iconst (v := 0) hx hb dX7_load_91 (by decide) ?_
            refine ra_zast (i := 1) hx hb hK hP hD hS 5 1 rfl rfl (by decide) (by omega) (by decide) dX7_load_92 (fun H locs hP hD hS => ?_)
            have hP : va_P D vwCl [(h, .inr (7, [.int (0), .ref sc, .int (nI (ss)), .int (nI (q8.2)), .int (bI (q8.1 = true)), .int (hdB t ss), .int (hdL t ss), .ref nw, .ref tr, .ref lk, .ref di, .int (0), .ref kp, .ref ik, .ref lv])), (sc, .inl (cI, 90, .inl t)), (nw, .inl (cI, 151, .inl g)), (lk, .inl (cI, 151, .inl lkx)), (lv, .inl (cI, 4, .inl flx)), (ik, .inl (cZ, 2, .inl (upd (upd fik 0 0) 1 0)))] H := hP
            have hD : va_D A [(h, .inr (7, [.int (0), .ref sc, .int (nI (ss)), .int (nI (q8.2)), .int (bI (q8.1 = true)), .int (hdB t ss), .int (hdL t ss), .ref nw, .ref tr, .ref lk, .ref di, .int (0), .ref kp, .ref ik, .ref lv])), (sc, .inl (cI, 90, .inl t)), (nw, .inl (cI, 151, .inl g)), (lk, .inl (cI, 151, .inl lkx)), (lv, .inl (cI, 4, .inl flx)), (ik, .inl (cZ, 2, .inl (upd (upd fik 0 0) 1 0)))] := hD
            refine lv_iload_n hx hb dX7_load_93 rfl (lv_at hl 1 rfl) ?_
            have hP : va_P D vwCl [(h, .inr (7, [.int (0), .ref sc, .int (nI (ss)), .int (nI (q8.2)), .int (bI (q8.1 = true)), .int (hdB t ss), .int (hdL t ss), .ref nw, .ref tr, .ref lk, .ref di, .int (0), .ref kp, .ref ik, .ref lv])), (sc, .inl (cI, 90, .inl t)), (nw, .inl (cI, 151, .inl f9)), (lk, .inl (cI, 151, .inl lkx)), (lv, .inl (cI, 4, .inl flx)), (ik, .inl (cZ, 2, .inl (upd (upd fik 0 0) 1 0)))] H := by
              rw [show (f9 : Nat → Int32) = g from hf9.symm]
              exact hP
            exact gp_reti hX hr hlocks hS hP ⟨by rw [hl9], _, _, _, rfl⟩ dX7_load_94
          · skip
            have c52_3 := cn_nle (a := ss) (b := q8.2) (by omega) (by omega) c52_3
            rw [if_pos c52_3] at hl8
            obtain ⟨hO8, hle8, hl8⟩ := hl8
            refine lv_iload_n hx hb dX7_load_55 rfl (lv_at hl 1 rfl) ?_
            refine lv_aload_n hx hb dX7_load_56 rfl (lv_at hl 0 rfl) ?_
            refine lv_iconst (v := 1) hx hb dX7_load_57 (by decide) ?_
            refine gp_backi (gp_runV hX good7 i7 (c7_commandT l D cI h sc nw tr lk di kp ik lv 0 (hdB t ss) (hdL t ss) ac9 t ss hss q8 (by omega) g lkx flx B hO8) q7_command rfl (m7 160 rfl) (m7 161 rfl) (m7 162 rfl) ⟨Nat.le_of_ble_eq_true rfl, Nat.le_of_ble_eq_true rfl⟩ hK [0] rfl hP hD [0, 1, 2, 3, 4] (by decide) rfl (ci := 7) (q0 := 0) rfl rfl rfl hl.1 rfl (Nat.le_of_ble_eq_true rfl) dX7_load_58 ⟨Nat.zero_le _, Nat.zero_le _⟩) hP hD hS [0, 1, 2, 3, 4] rfl (fun r u h => by obtain ⟨-, x4, x5, rfl⟩ := h; simp only [List.map_cons, List.map_nil]) (fun r9 u H locs hpost hP hD hS => ?_)
            obtain ⟨hr9, x4, x5, rfl⟩ := hpost
            refine lv_as hr9 ?_
            have hP : va_P D vwCl [(h, .inr (7, [.int (0), .ref sc, .int (nI (ss)), .int (nI ((cm t ss q8).2)), .int (bI ((cm t ss q8).1 = true)), .int (hdB t ss), .int (hdL t ss), .ref nw, .ref tr, .ref lk, .ref di, .int (nI (ac9)), .ref kp, .ref ik, .ref lv])), (sc, .inl (cI, 90, .inl t)), (nw, .inl (cI, 151, .inl (cmR t ss q8 g B))), (lk, .inl (cI, 151, .inl x5)), (lv, .inl (cI, 4, .inl x4)), (ik, .inl (cZ, 2, .inl fik))] H := hP
            have hD : va_D A [(h, .inr (7, [.int (0), .ref sc, .int (nI (ss)), .int (nI ((cm t ss q8).2)), .int (bI ((cm t ss q8).1 = true)), .int (hdB t ss), .int (hdL t ss), .ref nw, .ref tr, .ref lk, .ref di, .int (nI (ac9)), .ref kp, .ref ik, .ref lv])), (sc, .inl (cI, 90, .inl t)), (nw, .inl (cI, 151, .inl (cmR t ss q8 g B))), (lk, .inl (cI, 151, .inl x5)), (lv, .inl (cI, 4, .inl x4)), (ik, .inl (cZ, 2, .inl fik))] := hD
            refine lv_if_eq (tgt := 68) hx hb dX7_load_61 (by decide) (fun c61_6 => ?_) (fun c61_6 => ?_)
            · skip
              have c61_6 := bI_f c61_6
              refine lv_iconst (v := 0) hx hb dX7_load_68 (by decide) ?_
              refine lv_iadd hx hb dX7_load_69 ?_
              refine lv_as (y := nI (l8 + 0)) (nI_add (l8) (0)) ?_
              refine lv_istore_n (lv' := [(1, .int (nI (l8 + 0))), (0, .ref h)]) hx hb dX7_load_70 rfl hl (by decide) rfl (fun ls hl => ?_)
              refine lv_goto (tgt := 44) hx hb dX7_load_71 (by decide) ?_
              have hl : lv_has ls 2 [(1, .int (nI ((l8 + 0)))), (0, .ref h)] := lv_re hl 0 rfl (show nI (l8 + 0) = nI ((l8 + 0)) from rfl)
              exact ih44 n7 (cm t ss q8) (cmR t ss q8 g B) (l8 + 0) x5 x4 (hle8) (by rw [if_neg c61_6] at hl8; exact hl8) (by omega) _ _ hP hD hS _ (lv_sub hl [1, 0] rfl)
            · skip
              have c61_6 := bI_t c61_6
              refine lv_iconst (v := 1) hx hb dX7_load_64 (by decide) ?_
              refine lv_goto (tgt := 69) hx hb dX7_load_65 (by decide) ?_
              refine lv_iadd hx hb dX7_load_69 ?_
              refine lv_as (y := nI (l8 + 1)) (nI_add (l8) (1)) ?_
              refine lv_istore_n (lv' := [(1, .int (nI (l8 + 1))), (0, .ref h)]) hx hb dX7_load_70 rfl hl (by decide) rfl (fun ls hl => ?_)
              refine lv_goto (tgt := 44) hx hb dX7_load_71 (by decide) ?_
              have hl : lv_has ls 2 [(1, .int (nI ((l8 + 1)))), (0, .ref h)] := lv_re hl 0 rfl (show nI (l8 + 1) = nI ((l8 + 1)) from rfl)
              exact ih44 n7 (cm t ss q8) (cmR t ss q8 g B) (l8 + 1) x5 x4 (hle8) (by rw [if_pos c61_6] at hl8; exact hl8) (by omega) _ _ hP hD hS _ (lv_sub hl [1, 0] rfl)
      have hl : lv_has ls 2 [(1, .int (nI (0))), (0, .ref h)] := lv_re hl 0 rfl (show 0 = nI (0) from rfl)
      exact LP44 (n2 + 1) n2 (hd2 t ss) (clR (hdB t ss) (hdL t ss)) 0 flk fl (hd2_le) (hld) (by omega) _ _ hP hD hS _ (lv_sub hl [1, 0] rfl)
    · skip
      exact absurd c18_2 (by decide)
