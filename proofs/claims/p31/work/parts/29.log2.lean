theorem dX5_renew_0 : decode cX5_renew 0 = .ok (.aload_n 0, 1) := by decide +kernel
theorem dX5_renew_1 : decode cX5_renew 1 = .ok (.iconst 0, 1) := by decide +kernel
theorem dX5_renew_2 : decode cX5_renew 2 = .ok (.putfield 9, 3) := by decide +kernel
theorem dX5_renew_5 : decode cX5_renew 5 = .ok (.aload_n 0, 1) := by decide +kernel
theorem dX5_renew_6 : decode cX5_renew 6 = .ok (.iconst 0, 1) := by decide +kernel
theorem dX5_renew_7 : decode cX5_renew 7 = .ok (.putfield 15, 3) := by decide +kernel
theorem dX5_renew_10 : decode cX5_renew 10 = .ok (.aload_n 0, 1) := by decide +kernel
theorem dX5_renew_11 : decode cX5_renew 11 = .ok (.iconst 0, 1) := by decide +kernel
theorem dX5_renew_12 : decode cX5_renew 12 = .ok (.putfield 18, 3) := by decide +kernel
theorem dX5_renew_15 : decode cX5_renew 15 = .ok (.aload_n 0, 1) := by decide +kernel
theorem dX5_renew_16 : decode cX5_renew 16 = .ok (.iconst 0, 1) := by decide +kernel
theorem dX5_renew_17 : decode cX5_renew 17 = .ok (.putfield 21, 3) := by decide +kernel
theorem dX5_renew_20 : decode cX5_renew 20 = .ok (.aload_n 0, 1) := by decide +kernel
theorem dX5_renew_21 : decode cX5_renew 21 = .ok (.iconst 0, 1) := by decide +kernel
theorem dX5_renew_22 : decode cX5_renew 22 = .ok (.putfield 24, 3) := by decide +kernel
theorem dX5_renew_25 : decode cX5_renew 25 = .ok (.aload_n 0, 1) := by decide +kernel
theorem dX5_renew_26 : decode cX5_renew 26 = .ok (.bipush (-9), 2) := by decide +kernel
theorem dX5_renew_28 : decode cX5_renew 28 = .ok (.putfield 27, 3) := by decide +kernel
theorem dX5_renew_31 : decode cX5_renew 31 = .ok (.aload_n 0, 1) := by decide +kernel
theorem dX5_renew_32 : decode cX5_renew 32 = .ok (.bipush (-9), 2) := by decide +kernel
theorem dX5_renew_34 : decode cX5_renew 34 = .ok (.putfield 30, 3) := by decide +kernel
theorem dX5_renew_37 : decode cX5_renew 37 = .ok (.aload_n 0, 1) := by decide +kernel
theorem dX5_renew_38 : decode cX5_renew 38 = .ok (.bipush (-9), 2) := by decide +kernel
theorem dX5_renew_40 : decode cX5_renew 40 = .ok (.putfield 33, 3) := by decide +kernel
theorem dX5_renew_43 : decode cX5_renew 43 = .ok (.return_, 1) := by decide +kernel
theorem q5_renew : CQ W6 yX5_renew cX5_renew 1 none 0 := ⟨(m6 70 rfl), by decide, by decide, by decide +kernel⟩
set_option maxHeartbeats 4000000 in
set_option maxRecDepth 100000 in
theorem c5_renew (l : Launch) (D : va_G) (ta : Nat) (tp tw9 tc te tk xa xe xs : Int32)  : GQv l yX5_renew cX5_renew 1 W6 0 0 D [(ta, .inr (5, [.int (tp), .int (tw9), .int (tc), .int (te), .int (tk), .int (xa), .int (xe), .int (xs)]))] [] [.ref ta] (fun u9 : va_W => u9 = [(ta, .inr (5, [.int (0), .int (0), .int (0), .int (0), .int (0), .int ((-9)), .int ((-9)), .int ((-9))]))]) := by
  refine gq_of RX5 (by decide) rfl (Nat.le_of_ble_eq_true rfl) ?_
  intro p e s m below meth c ls H hX hr hlocks hK hN hP hD hS hl
  generalize gp_A [(ta, .inr (5, [.int (tp), .int (tw9), .int (tc), .int (te), .int (tk), .int (xa), .int (xe), .int (xs)]))] = A at hD hS ⊢
  have hx := hX.1
  have hb := hX.2.1
  have hown := hX.2.2.2.1
  have hts := hX.2.2.2.2
  have hl : lv_has ls 1 [(0, .ref ta)] := hl
  refine lv_aload_n hx hb dX5_renew_0 rfl (lv_at hl 0 rfl) ?_
  refine lv_iconst (v := 0) hx hb dX5_renew_1 (by decide) ?_
  refine va_put (D := D) (ci := 5) (v := .int (0)) (ty := .int) (C := RX5) (T := TX5) (N := 8) hx hb hts u6_X5 tyX5 tyX5_ok nmX5 hown hK hP hD hS 0 rfl rfl 0 (by decide) (hts _ (m6 46 rfl)) (fun _ h9 => h9) rfl (by decide +kernel) rfl rfl (Nat.le_of_ble_eq_true rfl) dX5_renew_2 (fun H locs hP hD hS => ?_)
  have hP : va_P D vwCl [(ta, .inr (5, [.int (0), .int (tw9), .int (tc), .int (te), .int (tk), .int (xa), .int (xe), .int (xs)]))] H := hP
  have hD : va_D A [(ta, .inr (5, [.int (0), .int (tw9), .int (tc), .int (te), .int (tk), .int (xa), .int (xe), .int (xs)]))] := hD
  refine lv_aload_n hx hb dX5_renew_5 rfl (lv_at hl 0 rfl) ?_
  refine lv_iconst (v := 0) hx hb dX5_renew_6 (by decide) ?_
  refine va_put (D := D) (ci := 5) (v := .int (0)) (ty := .int) (C := RX5) (T := TX5) (N := 8) hx hb hts u6_X5 tyX5 tyX5_ok nmX5 hown hK hP hD hS 0 rfl rfl 1 (by decide) (hts _ (m6 47 rfl)) (fun _ h9 => h9) rfl (by decide +kernel) rfl rfl (Nat.le_of_ble_eq_true rfl) dX5_renew_7 (fun H locs hP hD hS => ?_)
  have hP : va_P D vwCl [(ta, .inr (5, [.int (0), .int (0), .int (tc), .int (te), .int (tk), .int (xa), .int (xe), .int (xs)]))] H := hP
  have hD : va_D A [(ta, .inr (5, [.int (0), .int (0), .int (tc), .int (te), .int (tk), .int (xa), .int (xe), .int (xs)]))] := hD
  refine lv_aload_n hx hb dX5_renew_10 rfl (lv_at hl 0 rfl) ?_
  refine lv_iconst (v := 0) hx hb dX5_renew_11 (by decide) ?_
  refine va_put (D := D) (ci := 5) (v := .int (0)) (ty := .int) (C := RX5) (T := TX5) (N := 8) hx hb hts u6_X5 tyX5 tyX5_ok nmX5 hown hK hP hD hS 0 rfl rfl 2 (by decide) (hts _ (m6 48 rfl)) (fun _ h9 => h9) rfl (by decide +kernel) rfl rfl (Nat.le_of_ble_eq_true rfl) dX5_renew_12 (fun H locs hP hD hS => ?_)
  have hP : va_P D vwCl [(ta, .inr (5, [.int (0), .int (0), .int (0), .int (te), .int (tk), .int (xa), .int (xe), .int (xs)]))] H := hP
  have hD : va_D A [(ta, .inr (5, [.int (0), .int (0), .int (0), .int (te), .int (tk), .int (xa), .int (xe), .int (xs)]))] := hD
  refine lv_aload_n hx hb dX5_renew_15 rfl (lv_at hl 0 rfl) ?_
  refine lv_iconst (v := 0) hx hb dX5_renew_16 (by decide) ?_
  refine va_put (D := D) (ci := 5) (v := .int (0)) (ty := .int) (C := RX5) (T := TX5) (N := 8) hx hb hts u6_X5 tyX5 tyX5_ok nmX5 hown hK hP hD hS 0 rfl rfl 3 (by decide) (hts _ (m6 49 rfl)) (fun _ h9 => h9) rfl (by decide +kernel) rfl rfl (Nat.le_of_ble_eq_true rfl) dX5_renew_17 (fun H locs hP hD hS => ?_)
  have hP : va_P D vwCl [(ta, .inr (5, [.int (0), .int (0), .int (0), .int (0), .int (tk), .int (xa), .int (xe), .int (xs)]))] H := hP
  have hD : va_D A [(ta, .inr (5, [.int (0), .int (0), .int (0), .int (0), .int (tk), .int (xa), .int (xe), .int (xs)]))] := hD
  refine lv_aload_n hx hb dX5_renew_20 rfl (lv_at hl 0 rfl) ?_
  refine lv_iconst (v := 0) hx hb dX5_renew_21 (by decide) ?_
  refine va_put (D := D) (ci := 5) (v := .int (0)) (ty := .int) (C := RX5) (T := TX5) (N := 8) hx hb hts u6_X5 tyX5 tyX5_ok nmX5 hown hK hP hD hS 0 rfl rfl 4 (by decide) (hts _ (m6 50 rfl)) (fun _ h9 => h9) rfl (by decide +kernel) rfl rfl (Nat.le_of_ble_eq_true rfl) dX5_renew_22 (fun H locs hP hD hS => ?_)
  have hP : va_P D vwCl [(ta, .inr (5, [.int (0), .int (0), .int (0), .int (0), .int (0), .int (xa), .int (xe), .int (xs)]))] H := hP
  have hD : va_D A [(ta, .inr (5, [.int (0), .int (0), .int (0), .int (0), .int (0), .int (xa), .int (xe), .int (xs)]))] := hD
  refine lv_aload_n hx hb dX5_renew_25 rfl (lv_at hl 0 rfl) ?_
  refine lv_bipush (v := (-9)) hx hb dX5_renew_26 (by decide) ?_
  refine va_put (D := D) (ci := 5) (v := .int ((-9))) (ty := .int) (C := RX5) (T := TX5) (N := 8) hx hb hts u6_X5 tyX5 tyX5_ok nmX5 hown hK hP hD hS 0 rfl rfl 5 (by decide) (hts _ (m6 51 rfl)) (fun _ h9 => h9) rfl (by decide +kernel) rfl rfl (Nat.le_of_ble_eq_true rfl) dX5_renew_28 (fun H locs hP hD hS => ?_)
  have hP : va_P D vwCl [(ta, .inr (5, [.int (0), .int (0), .int (0), .int (0), .int (0), .int ((-9)), .int (xe), .int (xs)]))] H := hP
  have hD : va_D A [(ta, .inr (5, [.int (0), .int (0), .int (0), .int (0), .int (0), .int ((-9)), .int (xe), .int (xs)]))] := hD
  refine lv_aload_n hx hb dX5_renew_31 rfl (lv_at hl 0 rfl) ?_
  refine lv_bipush (v := (-9)) hx hb dX5_renew_32 (by decide) ?_
  refine va_put (D := D) (ci := 5) (v := .int ((-9))) (ty := .int) (C := RX5) (T := TX5) (N := 8) hx hb hts u6_X5 tyX5 tyX5_ok nmX5 hown hK hP hD hS 0 rfl rfl 6 (by decide) (hts _ (m6 52 rfl)) (fun _ h9 => h9) rfl (by decide +kernel) rfl rfl (Nat.le_of_ble_eq_true rfl) dX5_renew_34 (fun H locs hP hD hS => ?_)
  have hP : va_P D vwCl [(ta, .inr (5, [.int (0), .int (0), .int (0), .int (0), .int (0), .int ((-9)), .int ((-9)), .int (xs)]))] H := hP
  have hD : va_D A [(ta, .inr (5, [.int (0), .int (0), .int (0), .int (0), .int (0), .int ((-9)), .int ((-9)), .int (xs)]))] := hD
  refine lv_aload_n hx hb dX5_renew_37 rfl (lv_at hl 0 rfl) ?_
  refine lv_bipush (v := (-9)) hx hb dX5_renew_38 (by decide) ?_
  refine va_put (D := D) (ci := 5) (v := .int ((-9))) (ty := .int) (C := RX5) (T := TX5) (N := 8) hx hb hts u6_X5 tyX5 tyX5_ok nmX5 hown hK hP hD hS 0 rfl rfl 7 (by decide) (hts _ (m6 53 rfl)) (fun _ h9 => h9) rfl (by decide +kernel) rfl rfl (Nat.le_of_ble_eq_true rfl) dX5_renew_40 (fun H locs hP hD hS => ?_)
  have hP : va_P D vwCl [(ta, .inr (5, [.int (0), .int (0), .int (0), .int (0), .int (0), .int ((-9)), .int ((-9)), .int ((-9))]))] H := hP
  have hD : va_D A [(ta, .inr (5, [.int (0), .int (0), .int (0), .int (0), .int (0), .int ((-9)), .int ((-9)), .int ((-9))]))] := hD
  exact gp_retv hX hr hlocks hS hP rfl dX5_renew_43
theorem dX5_copyFrom_0 : decode cX5_copyFrom 0 = .ok (.aload_n 0, 1) := by decide +kernel
theorem dX5_copyFrom_1 : decode cX5_copyFrom 1 = .ok (.aload_n 1, 1) := by decide +kernel
theorem dX5_copyFrom_2 : decode cX5_copyFrom 2 = .ok (.getfield 9, 3) := by decide +kernel
theorem dX5_copyFrom_5 : decode cX5_copyFrom 5 = .ok (.putfield 9, 3) := by decide +kernel
theorem dX5_copyFrom_8 : decode cX5_copyFrom 8 = .ok (.aload_n 0, 1) := by decide +kernel
theorem dX5_copyFrom_9 : decode cX5_copyFrom 9 = .ok (.aload_n 1, 1) := by decide +kernel
theorem dX5_copyFrom_10 : decode cX5_copyFrom 10 = .ok (.getfield 15, 3) := by decide +kernel
theorem dX5_copyFrom_13 : decode cX5_copyFrom 13 = .ok (.putfield 15, 3) := by decide +kernel
theorem dX5_copyFrom_16 : decode cX5_copyFrom 16 = .ok (.aload_n 0, 1) := by decide +kernel
theorem dX5_copyFrom_17 : decode cX5_copyFrom 17 = .ok (.aload_n 1, 1) := by decide +kernel
theorem dX5_copyFrom_18 : decode cX5_copyFrom 18 = .ok (.getfield 18, 3) := by decide +kernel
theorem dX5_copyFrom_21 : decode cX5_copyFrom 21 = .ok (.putfield 18, 3) := by decide +kernel
theorem dX5_copyFrom_24 : decode cX5_copyFrom 24 = .ok (.aload_n 0, 1) := by decide +kernel
theorem dX5_copyFrom_25 : decode cX5_copyFrom 25 = .ok (.aload_n 1, 1) := by decide +kernel
theorem dX5_copyFrom_26 : decode cX5_copyFrom 26 = .ok (.getfield 21, 3) := by decide +kernel
theorem dX5_copyFrom_29 : decode cX5_copyFrom 29 = .ok (.putfield 21, 3) := by decide +kernel
theorem dX5_copyFrom_32 : decode cX5_copyFrom 32 = .ok (.aload_n 0, 1) := by decide +kernel
theorem dX5_copyFrom_33 : decode cX5_copyFrom 33 = .ok (.aload_n 1, 1) := by decide +kernel
theorem dX5_copyFrom_34 : decode cX5_copyFrom 34 = .ok (.getfield 24, 3) := by decide +kernel
theorem dX5_copyFrom_37 : decode cX5_copyFrom 37 = .ok (.putfield 24, 3) := by decide +kernel
theorem dX5_copyFrom_40 : decode cX5_copyFrom 40 = .ok (.aload_n 0, 1) := by decide +kernel
theorem dX5_copyFrom_41 : decode cX5_copyFrom 41 = .ok (.aload_n 1, 1) := by decide +kernel
theorem dX5_copyFrom_42 : decode cX5_copyFrom 42 = .ok (.getfield 27, 3) := by decide +kernel
theorem dX5_copyFrom_45 : decode cX5_copyFrom 45 = .ok (.putfield 27, 3) := by decide +kernel
theorem dX5_copyFrom_48 : decode cX5_copyFrom 48 = .ok (.aload_n 0, 1) := by decide +kernel
theorem dX5_copyFrom_49 : decode cX5_copyFrom 49 = .ok (.aload_n 1, 1) := by decide +kernel
theorem dX5_copyFrom_50 : decode cX5_copyFrom 50 = .ok (.getfield 30, 3) := by decide +kernel
theorem dX5_copyFrom_53 : decode cX5_copyFrom 53 = .ok (.putfield 30, 3) := by decide +kernel
theorem dX5_copyFrom_56 : decode cX5_copyFrom 56 = .ok (.aload_n 0, 1) := by decide +kernel
theorem dX5_copyFrom_57 : decode cX5_copyFrom 57 = .ok (.aload_n 1, 1) := by decide +kernel
theorem dX5_copyFrom_58 : decode cX5_copyFrom 58 = .ok (.getfield 33, 3) := by decide +kernel
theorem dX5_copyFrom_61 : decode cX5_copyFrom 61 = .ok (.putfield 33, 3) := by decide +kernel
theorem dX5_copyFrom_64 : decode cX5_copyFrom 64 = .ok (.return_, 1) := by decide +kernel
theorem q5_copyFrom : CQ W6 yX5_copyFrom cX5_copyFrom 2 none 1 := ⟨(m6 100 rfl), by decide, by decide, by decide +kernel⟩
set_option maxHeartbeats 4000000 in
set_option maxRecDepth 100000 in
theorem c5_copyFrom (l : Launch) (D : va_G) (ta : Nat) (tp tw9 tc te tk xa xe xs : Int32) (tb : Nat) (y0 y1 y2 y3 y4 y5 y6 y7 : Int32) : GQv l yX5_copyFrom cX5_copyFrom 2 W6 0 0 D [(ta, .inr (5, [.int (tp), .int (tw9), .int (tc), .int (te), .int (tk), .int (xa), .int (xe), .int (xs)])), (tb, .inr (5, [.int (y0), .int (y1), .int (y2), .int (y3), .int (y4), .int (y5), .int (y6), .int (y7)]))] [] [.ref ta, .ref tb] (fun u9 : va_W => u9 = [(ta, .inr (5, [.int (y0), .int (y1), .int (y2), .int (y3), .int (y4), .int (y5), .int (y6), .int (y7)])), (tb, .inr (5, [.int (y0), .int (y1), .int (y2), .int (y3), .int (y4), .int (y5), .int (y6), .int (y7)]))]) := by
  refine gq_of RX5 (by decide) rfl (Nat.le_of_ble_eq_true rfl) ?_
  intro p e s m below meth c ls H hX hr hlocks hK hN hP hD hS hl
  generalize gp_A [(ta, .inr (5, [.int (tp), .int (tw9), .int (tc), .int (te), .int (tk), .int (xa), .int (xe), .int (xs)])), (tb, .inr (5, [.int (y0), .int (y1), .int (y2), .int (y3), .int (y4), .int (y5), .int (y6), .int (y7)]))] = A at hD hS ⊢
  have hx := hX.1
  have hb := hX.2.1
  have hown := hX.2.2.2.1
  have hts := hX.2.2.2.2
  have hl : lv_has ls 2 [(0, .ref ta), (1, .ref tb)] := hl
  refine lv_aload_n hx hb dX5_copyFrom_0 rfl (lv_at hl 0 rfl) ?_
  refine lv_aload_n hx hb dX5_copyFrom_1 rfl (lv_at hl 1 rfl) ?_
  refine va_get (D := D) (ci := 5) (v := .int (y0)) (C := RX5) (T := TX5) (N := 8) hx hb hts u6_X5 hown hK hP 1 rfl rfl 0 (by decide) (hts _ (m6 46 rfl)) (fun _ h9 => h9) rfl dX5_copyFrom_2 ?_
  refine va_put (D := D) (ci := 5) (v := .int (y0)) (ty := .int) (C := RX5) (T := TX5) (N := 8) hx hb hts u6_X5 tyX5 tyX5_ok nmX5 hown hK hP hD hS 0 rfl rfl 0 (by decide) (hts _ (m6 46 rfl)) (fun _ h9 => h9) rfl (by decide +kernel) rfl rfl (Nat.le_of_ble_eq_true rfl) dX5_copyFrom_5 (fun H locs hP hD hS => ?_)
  have hP : va_P D vwCl [(ta, .inr (5, [.int (y0), .int (tw9), .int (tc), .int (te), .int (tk), .int (xa), .int (xe), .int (xs)])), (tb, .inr (5, [.int (y0), .int (y1), .int (y2), .int (y3), .int (y4), .int (y5), .int (y6), .int (y7)]))] H := hP
  have hD : va_D A [(ta, .inr (5, [.int (y0), .int (tw9), .int (tc), .int (te), .int (tk), .int (xa), .int (xe), .int (xs)])), (tb, .inr (5, [.int (y0), .int (y1), .int (y2), .int (y3), .int (y4), .int (y5), .int (y6), .int (y7)]))] := hD
  refine lv_aload_n hx hb dX5_copyFrom_8 rfl (lv_at hl 0 rfl) ?_
  refine lv_aload_n hx hb dX5_copyFrom_9 rfl (lv_at hl 1 rfl) ?_
  refine va_get (D := D) (ci := 5) (v := .int (y1)) (C := RX5) (T := TX5) (N := 8) hx hb hts u6_X5 hown hK hP 1 rfl rfl 1 (by decide) (hts _ (m6 47 rfl)) (fun _ h9 => h9) rfl dX5_copyFrom_10 ?_
  refine va_put (D := D) (ci := 5) (v := .int (y1)) (ty := .int) (C := RX5) (T := TX5) (N := 8) hx hb hts u6_X5 tyX5 tyX5_ok nmX5 hown hK hP hD hS 0 rfl rfl 1 (by decide) (hts _ (m6 47 rfl)) (fun _ h9 => h9) rfl (by decide +kernel) rfl rfl (Nat.le_of_ble_eq_true rfl) dX5_copyFrom_13 (fun H locs hP hD hS => ?_)
  have hP : va_P D vwCl [(ta, .inr (5, [.int (y0), .int (y1), .int (tc), .int (te), .int (tk), .int (xa), .int (xe), .int (xs)])), (tb, .inr (5, [.int (y0), .int (y1), .int (y2), .int (y3), .int (y4), .int (y5), .int (y6), .int (y7)]))] H := hP
  have hD : va_D A [(ta, .inr (5, [.int (y0), .int (y1), .int (tc), .int (te), .int (tk), .int (xa), .int (xe), .int (xs)])), (tb, .inr (5, [.int (y0), .int (y1), .int (y2), .int (y3), .int (y4), .int (y5), .int (y6), .int (y7)]))] := hD
  refine lv_aload_n hx hb dX5_copyFrom_16 rfl (lv_at hl 0 rfl) ?_
  refine lv_aload_n hx hb dX5_copyFrom_17 rfl (lv_at hl 1 rfl) ?_
  refine va_get (D := D) (ci := 5) (v := .int (y2)) (C := RX5) (T := TX5) (N := 8) hx hb hts u6_X5 hown hK hP 1 rfl rfl 2 (by decide) (hts _ (m6 48 rfl)) (fun _ h9 => h9) rfl dX5_copyFrom_18 ?_
  refine va_put (D := D) (ci := 5) (v := .int (y2)) (ty := .int) (C := RX5) (T := TX5) (N := 8) hx hb hts u6_X5 tyX5 tyX5_ok nmX5 hown hK hP hD hS 0 rfl rfl 2 (by decide) (hts _ (m6 48 rfl)) (fun _ h9 => h9) rfl (by decide +kernel) rfl rfl (Nat.le_of_ble_eq_true rfl) dX5_copyFrom_21 (fun H locs hP hD hS => ?_)
  have hP : va_P D vwCl [(ta, .inr (5, [.int (y0), .int (y1), .int (y2), .int (te), .int (tk), .int (xa), .int (xe), .int (xs)])), (tb, .inr (5, [.int (y0), .int (y1), .int (y2), .int (y3), .int (y4), .int (y5), .int (y6), .int (y7)]))] H := hP
  have hD : va_D A [(ta, .inr (5, [.int (y0), .int (y1), .int (y2), .int (te), .int (tk), .int (xa), .int (xe), .int (xs)])), (tb, .inr (5, [.int (y0), .int (y1), .int (y2), .int (y3), .int (y4), .int (y5), .int (y6), .int (y7)]))] := hD
  refine lv_aload_n hx hb dX5_copyFrom_24 rfl (lv_at hl 0 rfl) ?_
  refine lv_aload_n hx hb dX5_copyFrom_25 rfl (lv_at hl 1 rfl) ?_
  refine va_get (D := D) (ci := 5) (v := .int (y3)) (C := RX5) (T := TX5) (N := 8) hx hb hts u6_X5 hown hK hP 1 rfl rfl 3 (by decide) (hts _ (m6 49 rfl)) (fun _ h9 => h9) rfl dX5_copyFrom_26 ?_
  refine va_put (D := D) (ci := 5) (v := .int (y3)) (ty := .int) (C := RX5) (T := TX5) (N := 8) hx hb hts u6_X5 tyX5 tyX5_ok nmX5 hown hK hP hD hS 0 rfl rfl 3 (by decide) (hts _ (m6 49 rfl)) (fun _ h9 => h9) rfl (by decide +kernel) rfl rfl (Nat.le_of_ble_eq_true rfl) dX5_copyFrom_29 (fun H locs hP hD hS => ?_)
  have hP : va_P D vwCl [(ta, .inr (5, [.int (y0), .int (y1), .int (y2), .int (y3), .int (tk), .int (xa), .int (xe), .int (xs)])), (tb, .inr (5, [.int (y0), .int (y1), .int (y2), .int (y3), .int (y4), .int (y5), .int (y6), .int (y7)]))] H := hP
  have hD : va_D A [(ta, .inr (5, [.int (y0), .int (y1), .int (y2), .int (y3), .int (tk), .int (xa), .int (xe), .int (xs)])), (tb, .inr (5, [.int (y0), .int (y1), .int (y2), .int (y3), .int (y4), .int (y5), .int (y6), .int (y7)]))] := hD
  refine lv_aload_n hx hb dX5_copyFrom_32 rfl (lv_at hl 0 rfl) ?_
  refine lv_aload_n hx hb dX5_copyFrom_33 rfl (lv_at hl 1 rfl) ?_
  refine va_get (D := D) (ci := 5) (v := .int (y4)) (C := RX5) (T := TX5) (N := 8) hx hb hts u6_X5 hown hK hP 1 rfl rfl 4 (by decide) (hts _ (m6 50 rfl)) (fun _ h9 => h9) rfl dX5_copyFrom_34 ?_
  refine va_put (D := D) (ci := 5) (v := .int (y4)) (ty := .int) (C := RX5) (T := TX5) (N := 8) hx hb hts u6_X5 tyX5 tyX5_ok nmX5 hown hK hP hD hS 0 rfl rfl 4 (by decide) (hts _ (m6 50 rfl)) (fun _ h9 => h9) rfl (by decide +kernel) rfl rfl (Nat.le_of_ble_eq_true rfl) dX5_copyFrom_37 (fun H locs hP hD hS => ?_)
  have hP : va_P D vwCl [(ta, .inr (5, [.int (y0), .int (y1), .int (y2), .int (y3), .int (y4), .int (xa), .int (xe), .int (xs)])), (tb, .inr (5, [.int (y0), .int (y1), .int (y2), .int (y3), .int (y4), .int (y5), .int (y6), .int (y7)]))] H := hP
  have hD : va_D A [(ta, .inr (5, [.int (y0), .int (y1), .int (y2), .int (y3), .int (y4), .int (xa), .int (xe), .int (xs)])), (tb, .inr (5, [.int (y0), .int (y1), .int (y2), .int (y3), .int (y4), .int (y5), .int (y6), .int (y7)]))] := hD
  refine lv_aload_n hx hb dX5_copyFrom_40 rfl (lv_at hl 0 rfl) ?_
  refine lv_aload_n hx hb dX5_copyFrom_41 rfl (lv_at hl 1 rfl) ?_
  refine va_get (D := D) (ci := 5) (v := .int (y5)) (C := RX5) (T := TX5) (N := 8) hx hb hts u6_X5 hown hK hP 1 rfl rfl 5 (by decide) (hts _ (m6 51 rfl)) (fun _ h9 => h9) rfl dX5_copyFrom_42 ?_
  refine va_put (D := D) (ci := 5) (v := .int (y5)) (ty := .int) (C := RX5) (T := TX5) (N := 8) hx hb hts u6_X5 tyX5 tyX5_ok nmX5 hown hK hP hD hS 0 rfl rfl 5 (by decide) (hts _ (m6 51 rfl)) (fun _ h9 => h9) rfl (by decide +kernel) rfl rfl (Nat.le_of_ble_eq_true rfl) dX5_copyFrom_45 (fun H locs hP hD hS => ?_)
  have hP : va_P D vwCl [(ta, .inr (5, [.int (y0), .int (y1), .int (y2), .int (y3), .int (y4), .int (y5), .int (xe), .int (xs)])), (tb, .inr (5, [.int (y0), .int (y1), .int (y2), .int (y3), .int (y4), .int (y5), .int (y6), .int (y7)]))] H := hP
  have hD : va_D A [(ta, .inr (5, [.int (y0), .int (y1), .int (y2), .int (y3), .int (y4), .int (y5), .int (xe), .int (xs)])), (tb, .inr (5, [.int (y0), .int (y1), .int (y2), .int (y3), .int (y4), .int (y5), .int (y6), .int (y7)]))] := hD
  refine lv_aload_n hx hb dX5_copyFrom_48 rfl (lv_at hl 0 rfl) ?_
  refine lv_aload_n hx hb dX5_copyFrom_49 rfl (lv_at hl 1 rfl) ?_
  refine va_get (D := D) (ci := 5) (v := .int (y6)) (C := RX5) (T := TX5) (N := 8) hx hb hts u6_X5 hown hK hP 1 rfl rfl 6 (by decide) (hts _ (m6 52 rfl)) (fun _ h9 => h9) rfl dX5_copyFrom_50 ?_
  refine va_put (D := D) (ci := 5) (v := .int (y6)) (ty := .int) (C := RX5) (T := TX5) (N := 8) hx hb hts u6_X5 tyX5 tyX5_ok nmX5 hown hK hP hD hS 0 rfl rfl 6 (by decide) (hts _ (m6 52 rfl)) (fun _ h9 => h9) rfl (by decide +kernel) rfl rfl (Nat.le_of_ble_eq_true rfl) dX5_copyFrom_53 (fun H locs hP hD hS => ?_)
  have hP : va_P D vwCl [(ta, .inr (5, [.int (y0), .int (y1), .int (y2), .int (y3), .int (y4), .int (y5), .int (y6), .int (xs)])), (tb, .inr (5, [.int (y0), .int (y1), .int (y2), .int (y3), .int (y4), .int (y5), .int (y6), .int (y7)]))] H := hP
  have hD : va_D A [(ta, .inr (5, [.int (y0), .int (y1), .int (y2), .int (y3), .int (y4), .int (y5), .int (y6), .int (xs)])), (tb, .inr (5, [.int (y0), .int (y1), .int (y2), .int (y3), .int (y4), .int (y5), .int (y6), .int (y7)]))] := hD
  refine lv_aload_n hx hb dX5_copyFrom_56 rfl (lv_at hl 0 rfl) ?_
  refine lv_aload_n hx hb dX5_copyFrom_57 rfl (lv_at hl 1 rfl) ?_
  refine va_get (D := D) (ci := 5) (v := .int (y7)) (C := RX5) (T := TX5) (N := 8) hx hb hts u6_X5 hown hK hP 1 rfl rfl 7 (by decide) (hts _ (m6 53 rfl)) (fun _ h9 => h9) rfl dX5_copyFrom_58 ?_
  refine va_put (D := D) (ci := 5) (v := .int (y7)) (ty := .int) (C := RX5) (T := TX5) (N := 8) hx hb hts u6_X5 tyX5 tyX5_ok nmX5 hown hK hP hD hS 0 rfl rfl 7 (by decide) (hts _ (m6 53 rfl)) (fun _ h9 => h9) rfl (by decide +kernel) rfl rfl (Nat.le_of_ble_eq_true rfl) dX5_copyFrom_61 (fun H locs hP hD hS => ?_)
  have hP : va_P D vwCl [(ta, .inr (5, [.int (y0), .int (y1), .int (y2), .int (y3), .int (y4), .int (y5), .int (y6), .int (y7)])), (tb, .inr (5, [.int (y0), .int (y1), .int (y2), .int (y3), .int (y4), .int (y5), .int (y6), .int (y7)]))] H := hP
  have hD : va_D A [(ta, .inr (5, [.int (y0), .int (y1), .int (y2), .int (y3), .int (y4), .int (y5), .int (y6), .int (y7)])), (tb, .inr (5, [.int (y0), .int (y1), .int (y2), .int (y3), .int (y4), .int (y5), .int (y6), .int (y7)]))] := hD
  exact gp_retv hX hr hlocks hS hP rfl dX5_copyFrom_64
theorem dX5_countCut_0 : decode cX5_countCut 0 = .ok (.aload_n 0, 1) := by decide +kernel
theorem dX5_countCut_1 : decode cX5_countCut 1 = .ok (.dup, 1) := by decide +kernel
theorem dX5_countCut_2 : decode cX5_countCut 2 = .ok (.getfield 24, 3) := by decide +kernel
theorem dX5_countCut_5 : decode cX5_countCut 5 = .ok (.iconst 1, 1) := by decide +kernel
theorem dX5_countCut_6 : decode cX5_countCut 6 = .ok (.iadd, 1) := by decide +kernel
theorem dX5_countCut_7 : decode cX5_countCut 7 = .ok (.putfield 24, 3) := by decide +kernel
theorem dX5_countCut_10 : decode cX5_countCut 10 = .ok (.aload_n 0, 1) := by decide +kernel
theorem dX5_countCut_11 : decode cX5_countCut 11 = .ok (.iload_n 1, 1) := by decide +kernel
theorem dX5_countCut_12 : decode cX5_countCut 12 = .ok (.putfield 27, 3) := by decide +kernel
theorem dX5_countCut_15 : decode cX5_countCut 15 = .ok (.aload_n 0, 1) := by decide +kernel
theorem dX5_countCut_16 : decode cX5_countCut 16 = .ok (.iload_n 2, 1) := by decide +kernel
theorem dX5_countCut_17 : decode cX5_countCut 17 = .ok (.ifCond .eq 7, 3) := by decide +kernel
theorem dX5_countCut_20 : decode cX5_countCut 20 = .ok (.iconst 1, 1) := by decide +kernel
theorem dX5_countCut_21 : decode cX5_countCut 21 = .ok (.goto 4, 3) := by decide +kernel
theorem dX5_countCut_24 : decode cX5_countCut 24 = .ok (.iconst 0, 1) := by decide +kernel
theorem dX5_countCut_25 : decode cX5_countCut 25 = .ok (.putfield 30, 3) := by decide +kernel
theorem dX5_countCut_28 : decode cX5_countCut 28 = .ok (.aload_n 0, 1) := by decide +kernel
theorem dX5_countCut_29 : decode cX5_countCut 29 = .ok (.iload_n 3, 1) := by decide +kernel
theorem dX5_countCut_30 : decode cX5_countCut 30 = .ok (.ifCond .eq 7, 3) := by decide +kernel
theorem dX5_countCut_33 : decode cX5_countCut 33 = .ok (.iconst 1, 1) := by decide +kernel
theorem dX5_countCut_34 : decode cX5_countCut 34 = .ok (.goto 4, 3) := by decide +kernel
theorem dX5_countCut_37 : decode cX5_countCut 37 = .ok (.iconst 0, 1) := by decide +kernel
theorem dX5_countCut_38 : decode cX5_countCut 38 = .ok (.putfield 33, 3) := by decide +kernel
theorem dX5_countCut_41 : decode cX5_countCut 41 = .ok (.return_, 1) := by decide +kernel
theorem q5_countCut : CQ W6 yX5_countCut cX5_countCut 4 none 3 := ⟨(m6 173 rfl), by decide, by decide, by decide +kernel⟩
set_option maxHeartbeats 4000000 in
set_option maxRecDepth 100000 in
theorem c5_countCut (l : Launch) (D : va_G) (ta : Nat) (tp tw9 tc te tk xa xe xs : Int32) (x : Int32) (er sw : Bool) : GQv l yX5_countCut cX5_countCut 4 W6 0 0 D [(ta, .inr (5, [.int (tp), .int (tw9), .int (tc), .int (te), .int (tk), .int (xa), .int (xe), .int (xs)]))] [] [.ref ta, .int (x), .int (bI (er = true)), .int (bI (sw = true))] (fun u9 : va_W => u9 = [(ta, .inr (5, [.int (tp), .int (tw9), .int (tc), .int (te), .int (tk + 1), .int (x), .int (bI (er = true)), .int (bI (sw = true))]))]) := by
  refine gq_of RX5 (by decide) rfl (Nat.le_of_ble_eq_true rfl) ?_
  intro p e s m below meth c ls H hX hr hlocks hK hN hP hD hS hl
  generalize gp_A [(ta, .inr (5, [.int (tp), .int (tw9), .int (tc), .int (te), .int (tk), .int (xa), .int (xe), .int (xs)]))] = A at hD hS ⊢
  have hx := hX.1
  have hb := hX.2.1
  have hown := hX.2.2.2.1
  have hts := hX.2.2.2.2
  have hl : lv_has ls 4 [(0, .ref ta), (1, .int (x)), (2, .int (bI (er = true))), (3, .int (bI (sw = true)))] := hl
  refine lv_aload_n hx hb dX5_countCut_0 rfl (lv_at hl 0 rfl) ?_
  refine lv_dup hx hb dX5_countCut_1 rfl ?_
  refine va_get (D := D) (ci := 5) (v := .int (tk)) (C := RX5) (T := TX5) (N := 8) hx hb hts u6_X5 hown hK hP 0 rfl rfl 4 (by decide) (hts _ (m6 50 rfl)) (fun _ h9 => h9) rfl dX5_countCut_2 ?_
  refine lv_iconst (v := 1) hx hb dX5_countCut_5 (by decide) ?_
  refine lv_iadd hx hb dX5_countCut_6 ?_
  refine va_put (D := D) (ci := 5) (v := .int (tk + 1)) (ty := .int) (C := RX5) (T := TX5) (N := 8) hx hb hts u6_X5 tyX5 tyX5_ok nmX5 hown hK hP hD hS 0 rfl rfl 4 (by decide) (hts _ (m6 50 rfl)) (fun _ h9 => h9) rfl (by decide +kernel) rfl rfl (Nat.le_of_ble_eq_true rfl) dX5_countCut_7 (fun H locs hP hD hS => ?_)
  have hP : va_P D vwCl [(ta, .inr (5, [.int (tp), .int (tw9), .int (tc), .int (te), .int (tk + 1), .int (xa), .int (xe), .int (xs)]))] H := hP
  have hD : va_D A [(ta, .inr (5, [.int (tp), .int (tw9), .int (tc), .int (te), .int (tk + 1), .int (xa), .int (xe), .int (xs)]))] := hD
  refine lv_aload_n hx hb dX5_countCut_10 rfl (lv_at hl 0 rfl) ?_
  refine lv_iload_n hx hb dX5_countCut_11 rfl (lv_at hl 1 rfl) ?_
  refine va_put (D := D) (ci := 5) (v := .int (x)) (ty := .int) (C := RX5) (T := TX5) (N := 8) hx hb hts u6_X5 tyX5 tyX5_ok nmX5 hown hK hP hD hS 0 rfl rfl 5 (by decide) (hts _ (m6 51 rfl)) (fun _ h9 => h9) rfl (by decide +kernel) rfl rfl (Nat.le_of_ble_eq_true rfl) dX5_countCut_12 (fun H locs hP hD hS => ?_)
  have hP : va_P D vwCl [(ta, .inr (5, [.int (tp), .int (tw9), .int (tc), .int (te), .int (tk + 1), .int (x), .int (xe), .int (xs)]))] H := hP
  have hD : va_D A [(ta, .inr (5, [.int (tp), .int (tw9), .int (tc), .int (te), .int (tk + 1), .int (x), .int (xe), .int (xs)]))] := hD
  refine lv_aload_n hx hb dX5_countCut_15 rfl (lv_at hl 0 rfl) ?_
  refine lv_iload_n hx hb dX5_countCut_16 rfl (lv_at hl 2 rfl) ?_
  refine lv_if_eq (tgt := 24) hx hb dX5_countCut_17 (by decide) (fun c17_1 => ?_) (fun c17_1 => ?_)
  · skip
    have c17_1 := bI_f c17_1
    refine lv_iconst (v := 0) hx hb dX5_countCut_24 (by decide) ?_
    refine va_put (D := D) (ci := 5) (v := .int (0)) (ty := .int) (C := RX5) (T := TX5) (N := 8) hx hb hts u6_X5 tyX5 tyX5_ok nmX5 hown hK hP hD hS 0 rfl rfl 6 (by decide) (hts _ (m6 52 rfl)) (fun _ h9 => h9) rfl (by decide +kernel) rfl rfl (Nat.le_of_ble_eq_true rfl) dX5_countCut_25 (fun H locs hP hD hS => ?_)
    have hP : va_P D vwCl [(ta, .inr (5, [.int (tp), .int (tw9), .int (tc), .int (te), .int (tk + 1), .int (x), .int (0), .int (xs)]))] H := hP
    have hD : va_D A [(ta, .inr (5, [.int (tp), .int (tw9), .int (tc), .int (te), .int (tk + 1), .int (x), .int (0), .int (xs)]))] := hD
    refine lv_aload_n hx hb dX5_countCut_28 rfl (lv_at hl 0 rfl) ?_
    refine lv_iload_n hx hb dX5_countCut_29 rfl (lv_at hl 3 rfl) ?_
    refine lv_if_eq (tgt := 37) hx hb dX5_countCut_30 (by decide) (fun c30_2 => ?_) (fun c30_2 => ?_)
    · skip
      have c30_2 := bI_f c30_2
      refine lv_iconst (v := 0) hx hb dX5_countCut_37 (by decide) ?_
      refine va_put (D := D) (ci := 5) (v := .int (0)) (ty := .int) (C := RX5) (T := TX5) (N := 8) hx hb hts u6_X5 tyX5 tyX5_ok nmX5 hown hK hP hD hS 0 rfl rfl 7 (by decide) (hts _ (m6 53 rfl)) (fun _ h9 => h9) rfl (by decide +kernel) rfl rfl (Nat.le_of_ble_eq_true rfl) dX5_countCut_38 (fun H locs hP hD hS => ?_)
      have hP : va_P D vwCl [(ta, .inr (5, [.int (tp), .int (tw9), .int (tc), .int (te), .int (tk + 1), .int (x), .int (0), .int (0)]))] H := hP
      have hD : va_D A [(ta, .inr (5, [.int (tp), .int (tw9), .int (tc), .int (te), .int (tk + 1), .int (x), .int (0), .int (0)]))] := hD
      have hP : va_P D vwCl [(ta, .inr (5, [.int (tp), .int (tw9), .int (tc), .int (te), .int (tk + 1), .int (x), .int (bI (er = true)), .int (bI (sw = true))]))] H := by
        rw [show (bI (sw = true) : Int32) = 0 from (bI_0 c30_2)]
        rw [show (bI (er = true) : Int32) = 0 from (bI_0 c17_1)]
        exact hP
      exact gp_retv hX hr hlocks hS hP rfl dX5_countCut_41
    · skip
      have c30_2 := bI_t c30_2
      refine lv_iconst (v := 1) hx hb dX5_countCut_33 (by decide) ?_
      refine lv_goto (tgt := 38) hx hb dX5_countCut_34 (by decide) ?_
      refine va_put (D := D) (ci := 5) (v := .int (1)) (ty := .int) (C := RX5) (T := TX5) (N := 8) hx hb hts u6_X5 tyX5 tyX5_ok nmX5 hown hK hP hD hS 0 rfl rfl 7 (by decide) (hts _ (m6 53 rfl)) (fun _ h9 => h9) rfl (by decide +kernel) rfl rfl (Nat.le_of_ble_eq_true rfl) dX5_countCut_38 (fun H locs hP hD hS => ?_)
      have hP : va_P D vwCl [(ta, .inr (5, [.int (tp), .int (tw9), .int (tc), .int (te), .int (tk + 1), .int (x), .int (0), .int (1)]))] H := hP
      have hD : va_D A [(ta, .inr (5, [.int (tp), .int (tw9), .int (tc), .int (te), .int (tk + 1), .int (x), .int (0), .int (1)]))] := hD
      have hP : va_P D vwCl [(ta, .inr (5, [.int (tp), .int (tw9), .int (tc), .int (te), .int (tk + 1), .int (x), .int (bI (er = true)), .int (bI (sw = true))]))] H := by
        rw [show (bI (sw = true) : Int32) = 1 from (bI_1 c30_2)]
        rw [show (bI (er = true) : Int32) = 0 from (bI_0 c17_1)]
        exact hP
      exact gp_retv hX hr hlocks hS hP rfl dX5_countCut_41
  · skip
    have c17_1 := bI_t c17_1
    refine lv_iconst (v := 1) hx hb dX5_countCut_20 (by decide) ?_
    refine lv_goto (tgt := 25) hx hb dX5_countCut_21 (by decide) ?_
    refine va_put (D := D) (ci := 5) (v := .int (1)) (ty := .int) (C := RX5) (T := TX5) (N := 8) hx hb hts u6_X5 tyX5 tyX5_ok nmX5 hown hK hP hD hS 0 rfl rfl 6 (by decide) (hts _ (m6 52 rfl)) (fun _ h9 => h9) rfl (by decide +kernel) rfl rfl (Nat.le_of_ble_eq_true rfl) dX5_countCut_25 (fun H locs hP hD hS => ?_)
    have hP : va_P D vwCl [(ta, .inr (5, [.int (tp), .int (tw9), .int (tc), .int (te), .int (tk + 1), .int (x), .int (1), .int (xs)]))] H := hP
    have hD : va_D A [(ta, .inr (5, [.int (tp), .int (tw9), .int (tc), .int (te), .int (tk + 1), .int (x), .int (1), .int (xs)]))] := hD
    refine lv_aload_n hx hb dX5_countCut_28 rfl (lv_at hl 0 rfl) ?_
    refine lv_iload_n hx hb dX5_countCut_29 rfl (lv_at hl 3 rfl) ?_
    refine lv_if_eq (tgt := 37) hx hb dX5_countCut_30 (by decide) (fun c30_3 => ?_) (fun c30_3 => ?_)
    · skip
      have c30_3 := bI_f c30_3
      refine lv_iconst (v := 0) hx hb dX5_countCut_37 (by decide) ?_
      refine va_put (D := D) (ci := 5) (v := .int (0)) (ty := .int) (C := RX5) (T := TX5) (N := 8) hx hb hts u6_X5 tyX5 tyX5_ok nmX5 hown hK hP hD hS 0 rfl rfl 7 (by decide) (hts _ (m6 53 rfl)) (fun _ h9 => h9) rfl (by decide +kernel) rfl rfl (Nat.le_of_ble_eq_true rfl) dX5_countCut_38 (fun H locs hP hD hS => ?_)
      have hP : va_P D vwCl [(ta, .inr (5, [.int (tp), .int (tw9), .int (tc), .int (te), .int (tk + 1), .int (x), .int (1), .int (0)]))] H := hP
      have hD : va_D A [(ta, .inr (5, [.int (tp), .int (tw9), .int (tc), .int (te), .int (tk + 1), .int (x), .int (1), .int (0)]))] := hD
      have hP : va_P D vwCl [(ta, .inr (5, [.int (tp), .int (tw9), .int (tc), .int (te), .int (tk + 1), .int (x), .int (bI (er = true)), .int (bI (sw = true))]))] H := by
        rw [show (bI (sw = true) : Int32) = 0 from (bI_0 c30_3)]
        rw [show (bI (er = true) : Int32) = 1 from (bI_1 c17_1)]
        exact hP
      exact gp_retv hX hr hlocks hS hP rfl dX5_countCut_41
    · skip
      have c30_3 := bI_t c30_3
      refine lv_iconst (v := 1) hx hb dX5_countCut_33 (by decide) ?_
      refine lv_goto (tgt := 38) hx hb dX5_countCut_34 (by decide) ?_
      refine va_put (D := D) (ci := 5) (v := .int (1)) (ty := .int) (C := RX5) (T := TX5) (N := 8) hx hb hts u6_X5 tyX5 tyX5_ok nmX5 hown hK hP hD hS 0 rfl rfl 7 (by decide) (hts _ (m6 53 rfl)) (fun _ h9 => h9) rfl (by decide +kernel) rfl rfl (Nat.le_of_ble_eq_true rfl) dX5_countCut_38 (fun H locs hP hD hS => ?_)
      have hP : va_P D vwCl [(ta, .inr (5, [.int (tp), .int (tw9), .int (tc), .int (te), .int (tk + 1), .int (x), .int (1), .int (1)]))] H := hP
      have hD : va_D A [(ta, .inr (5, [.int (tp), .int (tw9), .int (tc), .int (te), .int (tk + 1), .int (x), .int (1), .int (1)]))] := hD
      have hP : va_P D vwCl [(ta, .inr (5, [.int (tp), .int (tw9), .int (tc), .int (te), .int (tk + 1), .int (x), .int (bI (er = true)), .int (bI (sw = true))]))] H := by
        rw [show (bI (sw = true) : Int32) = 1 from (bI_1 c30_3)]
        rw [show (bI (er = true) : Int32) = 1 from (bI_1 c17_1)]
        exact hP
      exact gp_retv hX hr hlocks hS hP rfl dX5_countCut_41
theorem dX5_init_0 : decode cX5_init 0 = .ok (.aload_n 0, 1) := by decide +kernel
theorem dX5_init_1 : decode cX5_init 1 = .ok (.invokespecial 3, 3) := by decide +kernel
theorem dX5_init_4 : decode cX5_init 4 = .ok (.return_, 1) := by decide +kernel
theorem q5_init : CQ W6 yX5_init cX5_init 1 none 0 := ⟨(m6 79 rfl), by decide, by decide, by decide +kernel⟩
set_option maxHeartbeats 4000000 in
set_option maxRecDepth 100000 in
theorem c5_init (l : Launch) (D : va_G) (ta sz : Nat)  : GM l yX5_init cX5_init 1 W6 1 12 0 0 D [(ta, .inr (5, [.int (0), .int (0), .int (0), .int (0), .int (0), .int (0), .int (0), .int (0)]))] [] [.ref ta] sz (fun u9 : va_W => u9 = [(ta, .inr (5, [.int (0), .int (0), .int (0), .int (0), .int (0), .int (0), .int (0), .int (0)]))]) := by
  refine gm_of RX5 (by decide) rfl (Nat.le_of_ble_eq_true rfl) ?_
  intro p e s m below meth c ls H A hX hr hlocks hname hK hN hP hD hS hA hl
  have hx := hX.1
  have hb := hX.2.1
  have hown := hX.2.2.2.1
  have hts := hX.2.2.2.2
  have hl : lv_has ls 1 [(0, .ref ta)] := hl
  refine lv_aload_n hx hb dX5_init_0 rfl (lv_at hl 0 rfl) ?_
  refine gn_obj hX (m6 45 rfl) (m6 1 rfl) (m6 2 rfl) hl.1 dX5_init_1 (Nat.le_of_ble_eq_true rfl) (Nat.le_of_ble_eq_true rfl) ?_
  exact gn_ret hX hr hlocks hS hP hD rfl (Nat.le_of_ble_eq_true rfl) (Nat.le_of_ble_eq_true rfl) dX5_init_4
theorem dX2_isCutNow_0 : decode cX2_isCutNow 0 = .ok (.aload_n 0, 1) := by decide +kernel
theorem dX2_isCutNow_1 : decode cX2_isCutNow 1 = .ok (.getfield 21, 3) := by decide +kernel
theorem dX2_isCutNow_4 : decode cX2_isCutNow 4 = .ok (.dup, 1) := by decide +kernel
theorem dX2_isCutNow_5 : decode cX2_isCutNow 5 = .ok (.getfield 159, 3) := by decide +kernel
theorem dX2_isCutNow_8 : decode cX2_isCutNow 8 = .ok (.iconst 1, 1) := by decide +kernel
theorem dX2_isCutNow_9 : decode cX2_isCutNow 9 = .ok (.iadd, 1) := by decide +kernel
theorem dX2_isCutNow_10 : decode cX2_isCutNow 10 = .ok (.putfield 159, 3) := by decide +kernel
theorem dX2_isCutNow_13 : decode cX2_isCutNow 13 = .ok (.aload_n 0, 1) := by decide +kernel
theorem dX2_isCutNow_14 : decode cX2_isCutNow 14 = .ok (.getfield 42, 3) := by decide +kernel
theorem dX2_isCutNow_17 : decode cX2_isCutNow 17 = .ok (.ifCond .ne 5, 3) := by decide +kernel
theorem dX2_isCutNow_20 : decode cX2_isCutNow 20 = .ok (.iconst 0, 1) := by decide +kernel
theorem dX2_isCutNow_21 : decode cX2_isCutNow 21 = .ok (.ireturn, 1) := by decide +kernel
theorem dX2_isCutNow_22 : decode cX2_isCutNow 22 = .ok (.aload_n 0, 1) := by decide +kernel
theorem dX2_isCutNow_23 : decode cX2_isCutNow 23 = .ok (.dup, 1) := by decide +kernel
theorem dX2_isCutNow_24 : decode cX2_isCutNow 24 = .ok (.getfield 42, 3) := by decide +kernel
theorem dX2_isCutNow_27 : decode cX2_isCutNow 27 = .ok (.iconst 1, 1) := by decide +kernel
theorem dX2_isCutNow_28 : decode cX2_isCutNow 28 = .ok (.isub, 1) := by decide +kernel
theorem dX2_isCutNow_29 : decode cX2_isCutNow 29 = .ok (.putfield 42, 3) := by decide +kernel
theorem dX2_isCutNow_32 : decode cX2_isCutNow 32 = .ok (.aload_n 0, 1) := by decide +kernel
theorem dX2_isCutNow_33 : decode cX2_isCutNow 33 = .ok (.getfield 42, 3) := by decide +kernel
theorem dX2_isCutNow_36 : decode cX2_isCutNow 36 = .ok (.ifCond .ne 7, 3) := by decide +kernel
theorem dX2_isCutNow_39 : decode cX2_isCutNow 39 = .ok (.iconst 1, 1) := by decide +kernel
theorem dX2_isCutNow_40 : decode cX2_isCutNow 40 = .ok (.goto 4, 3) := by decide +kernel
theorem dX2_isCutNow_43 : decode cX2_isCutNow 43 = .ok (.iconst 0, 1) := by decide +kernel
theorem dX2_isCutNow_44 : decode cX2_isCutNow 44 = .ok (.ireturn, 1) := by decide +kernel
theorem q2_isCutNow : CQ W6 yX2_isCutNow cX2_isCutNow 1 (some .boolean) 0 := ⟨(m6 165 rfl), by decide, by decide, by decide +kernel⟩
set_option maxHeartbeats 4000000 in
set_option maxRecDepth 100000 in
theorem c2_isCutNow (l : Launch) (D : va_G) (cI : ClassId) (lo fo a0 a1 a2 a3 a4 a5 a6 a7 ta : Nat) (on : Bool) (po cu li op nm : Int32) (kd ky vl mk wr lv nw fr : Nat → Int32) (B : Nat) (hB8 : B ≤ 8) (tp tw9 tc te tk xa xe xs : Int32)  : GQi l yX2_isCutNow cX2_isCutNow 1 .boolean W6 0 0 D [(lo, .inr (2, [.ref fo, .ref ta, .int (bI (on = true)), .int (po), .int (cu), .int (li), .int (op), .int (nm)])), (fo, .inr (0, [.ref a0, .ref a1, .ref a2, .ref a3, .ref a4, .ref a5, .ref a6, .ref a7, .int (nI (B))])), (a0, .inl (cI, 32, .inl kd)), (a1, .inl (cI, 32, .inl ky)), (a2, .inl (cI, 32, .inl vl)), (a3, .inl (cI, 32, .inl mk)), (a4, .inl (cI, 8, .inl wr)), (a5, .inl (cI, 32, .inl lv)), (a6, .inl (cI, 16, .inl nw)), (a7, .inl (cI, 8, .inl fr)), (ta, .inr (5, [.int (tp), .int (tw9), .int (tc), .int (te), .int (tk), .int (xa), .int (xe), .int (xs)]))] [(cI, .int)] [.ref lo] (fun (r9 : Int32) (u9 : va_W) => ((icP cu) ∧ r9 = 1 ∧ u9 = [(lo, .inr (2, [.ref fo, .ref ta, .int (bI (on = true)), .int (po), .int (cu - 1), .int (li), .int (op), .int (nm)])), (fo, .inr (0, [.ref a0, .ref a1, .ref a2, .ref a3, .ref a4, .ref a5, .ref a6, .ref a7, .int (nI (B))])), (a0, .inl (cI, 32, .inl kd)), (a1, .inl (cI, 32, .inl ky)), (a2, .inl (cI, 32, .inl vl)), (a3, .inl (cI, 32, .inl mk)), (a4, .inl (cI, 8, .inl wr)), (a5, .inl (cI, 32, .inl lv)), (a6, .inl (cI, 16, .inl nw)), (a7, .inl (cI, 8, .inl fr)), (ta, .inr (5, [.int (tp + 1), .int (tw9), .int (tc), .int (te), .int (tk), .int (xa), .int (xe), .int (xs)]))]) ∨ ((¬ icP cu) ∧ r9 = 0 ∧ u9 = [(lo, .inr (2, [.ref fo, .ref ta, .int (bI (on = true)), .int (po), .int (icC cu), .int (li), .int (op), .int (nm)])), (fo, .inr (0, [.ref a0, .ref a1, .ref a2, .ref a3, .ref a4, .ref a5, .ref a6, .ref a7, .int (nI (B))])), (a0, .inl (cI, 32, .inl kd)), (a1, .inl (cI, 32, .inl ky)), (a2, .inl (cI, 32, .inl vl)), (a3, .inl (cI, 32, .inl mk)), (a4, .inl (cI, 8, .inl wr)), (a5, .inl (cI, 32, .inl lv)), (a6, .inl (cI, 16, .inl nw)), (a7, .inl (cI, 8, .inl fr)), (ta, .inr (5, [.int (tp + 1), .int (tw9), .int (tc), .int (te), .int (tk), .int (xa), .int (xe), .int (xs)]))])) := by
  refine gq_of RX2 (by decide) rfl (Nat.le_of_ble_eq_true rfl) ?_
  intro p e s m below meth c ls H hX hr hlocks hK hN hP hD hS hl
  generalize gp_A [(lo, .inr (2, [.ref fo, .ref ta, .int (bI (on = true)), .int (po), .int (cu), .int (li), .int (op), .int (nm)])), (fo, .inr (0, [.ref a0, .ref a1, .ref a2, .ref a3, .ref a4, .ref a5, .ref a6, .ref a7, .int (nI (B))])), (a0, .inl (cI, 32, .inl kd)), (a1, .inl (cI, 32, .inl ky)), (a2, .inl (cI, 32, .inl vl)), (a3, .inl (cI, 32, .inl mk)), (a4, .inl (cI, 8, .inl wr)), (a5, .inl (cI, 32, .inl lv)), (a6, .inl (cI, 16, .inl nw)), (a7, .inl (cI, 8, .inl fr)), (ta, .inr (5, [.int (tp), .int (tw9), .int (tc), .int (te), .int (tk), .int (xa), .int (xe), .int (xs)]))] = A at hD hS ⊢
  have hx := hX.1
  have hb := hX.2.1
  have hown := hX.2.2.2.1
  have hts := hX.2.2.2.2
  have hl : lv_has ls 1 [(0, .ref lo)] := hl
  refine lv_aload_n hx hb dX2_isCutNow_0 rfl (lv_at hl 0 rfl) ?_
  refine va_get (D := D) (ci := 2) (v := .ref ta) (C := RX2) (T := TX2) (N := 8) hx hb hts u6_X2 hown hK hP 0 rfl rfl 1 (by decide) (hts _ (m6 55 rfl)) (fun _ h9 => h9) rfl dX2_isCutNow_1 ?_
  refine lv_dup hx hb dX2_isCutNow_4 rfl ?_
  refine va_get (D := D) (ci := 5) (v := .int (tp)) (C := RX5) (T := TX5) (N := 8) hx hb hts u6_X5 hown hK hP 10 rfl rfl 0 (by decide) (hts _ (m6 159 rfl)) (fun _ h9 => h9) rfl dX2_isCutNow_5 ?_
  refine lv_iconst (v := 1) hx hb dX2_isCutNow_8 (by decide) ?_
  refine lv_iadd hx hb dX2_isCutNow_9 ?_
  refine va_put (D := D) (ci := 5) (v := .int (tp + 1)) (ty := .int) (C := RX5) (T := TX5) (N := 8) hx hb hts u6_X5 tyX5 tyX5_ok nmX5 hown hK hP hD hS 10 rfl rfl 0 (by decide) (hts _ (m6 159 rfl)) (fun _ h9 => h9) rfl (by decide +kernel) rfl rfl (Nat.le_of_ble_eq_true rfl) dX2_isCutNow_10 (fun H locs hP hD hS => ?_)
  have hP : va_P D vwCl [(lo, .inr (2, [.ref fo, .ref ta, .int (bI (on = true)), .int (po), .int (cu), .int (li), .int (op), .int (nm)])), (fo, .inr (0, [.ref a0, .ref a1, .ref a2, .ref a3, .ref a4, .ref a5, .ref a6, .ref a7, .int (nI (B))])), (a0, .inl (cI, 32, .inl kd)), (a1, .inl (cI, 32, .inl ky)), (a2, .inl (cI, 32, .inl vl)), (a3, .inl (cI, 32, .inl mk)), (a4, .inl (cI, 8, .inl wr)), (a5, .inl (cI, 32, .inl lv)), (a6, .inl (cI, 16, .inl nw)), (a7, .inl (cI, 8, .inl fr)), (ta, .inr (5, [.int (tp + 1), .int (tw9), .int (tc), .int (te), .int (tk), .int (xa), .int (xe), .int (xs)]))] H := hP
  have hD : va_D A [(lo, .inr (2, [.ref fo, .ref ta, .int (bI (on = true)), .int (po), .int (cu), .int (li), .int (op), .int (nm)])), (fo, .inr (0, [.ref a0, .ref a1, .ref a2, .ref a3, .ref a4, .ref a5, .ref a6, .ref a7, .int (nI (B))])), (a0, .inl (cI, 32, .inl kd)), (a1, .inl (cI, 32, .inl ky)), (a2, .inl (cI, 32, .inl vl)), (a3, .inl (cI, 32, .inl mk)), (a4, .inl (cI, 8, .inl wr)), (a5, .inl (cI, 32, .inl lv)), (a6, .inl (cI, 16, .inl nw)), (a7, .inl (cI, 8, .inl fr)), (ta, .inr (5, [.int (tp + 1), .int (tw9), .int (tc), .int (te), .int (tk), .int (xa), .int (xe), .int (xs)]))] := hD
  refine lv_aload_n hx hb dX2_isCutNow_13 rfl (lv_at hl 0 rfl) ?_
  refine va_get (D := D) (ci := 2) (v := .int (cu)) (C := RX2) (T := TX2) (N := 8) hx hb hts u6_X2 hown hK hP 0 rfl rfl 4 (by decide) (hts _ (m6 58 rfl)) (fun _ h9 => h9) rfl dX2_isCutNow_14 ?_
  refine lv_if_ne (tgt := 22) hx hb dX2_isCutNow_17 (by decide) (fun c17_1 => ?_) (fun c17_1 => ?_)
  · skip
    refine lv_aload_n hx hb dX2_isCutNow_22 rfl (lv_at hl 0 rfl) ?_
    refine lv_dup hx hb dX2_isCutNow_23 rfl ?_
    refine va_get (D := D) (ci := 2) (v := .int (cu)) (C := RX2) (T := TX2) (N := 8) hx hb hts u6_X2 hown hK hP 0 rfl rfl 4 (by decide) (hts _ (m6 58 rfl)) (fun _ h9 => h9) rfl dX2_isCutNow_24 ?_
    refine lv_iconst (v := 1) hx hb dX2_isCutNow_27 (by decide) ?_
    refine lv_isub hx hb dX2_isCutNow_28 ?_
    refine va_put (D := D) (ci := 2) (v := .int (cu - 1)) (ty := .int) (C := RX2) (T := TX2) (N := 8) hx hb hts u6_X2 tyX2 tyX2_ok nmX2 hown hK hP hD hS 0 rfl rfl 4 (by decide) (hts _ (m6 58 rfl)) (fun _ h9 => h9) rfl (by decide +kernel) rfl rfl (Nat.le_of_ble_eq_true rfl) dX2_isCutNow_29 (fun H locs hP hD hS => ?_)
    have hP : va_P D vwCl [(lo, .inr (2, [.ref fo, .ref ta, .int (bI (on = true)), .int (po), .int (cu - 1), .int (li), .int (op), .int (nm)])), (fo, .inr (0, [.ref a0, .ref a1, .ref a2, .ref a3, .ref a4, .ref a5, .ref a6, .ref a7, .int (nI (B))])), (a0, .inl (cI, 32, .inl kd)), (a1, .inl (cI, 32, .inl ky)), (a2, .inl (cI, 32, .inl vl)), (a3, .inl (cI, 32, .inl mk)), (a4, .inl (cI, 8, .inl wr)), (a5, .inl (cI, 32, .inl lv)), (a6, .inl (cI, 16, .inl nw)), (a7, .inl (cI, 8, .inl fr)), (ta, .inr (5, [.int (tp + 1), .int (tw9), .int (tc), .int (te), .int (tk), .int (xa), .int (xe), .int (xs)]))] H := hP
    have hD : va_D A [(lo, .inr (2, [.ref fo, .ref ta, .int (bI (on = true)), .int (po), .int (cu - 1), .int (li), .int (op), .int (nm)])), (fo, .inr (0, [.ref a0, .ref a1, .ref a2, .ref a3, .ref a4, .ref a5, .ref a6, .ref a7, .int (nI (B))])), (a0, .inl (cI, 32, .inl kd)), (a1, .inl (cI, 32, .inl ky)), (a2, .inl (cI, 32, .inl vl)), (a3, .inl (cI, 32, .inl mk)), (a4, .inl (cI, 8, .inl wr)), (a5, .inl (cI, 32, .inl lv)), (a6, .inl (cI, 16, .inl nw)), (a7, .inl (cI, 8, .inl fr)), (ta, .inr (5, [.int (tp + 1), .int (tw9), .int (tc), .int (te), .int (tk), .int (xa), .int (xe), .int (xs)]))] := hD
    refine lv_aload_n hx hb dX2_isCutNow_32 rfl (lv_at hl 0 rfl) ?_
    refine va_get (D := D) (ci := 2) (v := .int (cu - 1)) (C := RX2) (T := TX2) (N := 8) hx hb hts u6_X2 hown hK hP 0 rfl rfl 4 (by decide) (hts _ (m6 58 rfl)) (fun _ h9 => h9) rfl dX2_isCutNow_33 ?_
    refine lv_if_ne (tgt := 43) hx hb dX2_isCutNow_36 (by decide) (fun c36_2 => ?_) (fun c36_2 => ?_)
    · skip
      refine lv_iconst (v := 0) hx hb dX2_isCutNow_43 (by decide) ?_
      have hP : va_P D vwCl [(lo, .inr (2, [.ref fo, .ref ta, .int (bI (on = true)), .int (po), .int (icC cu), .int (li), .int (op), .int (nm)])), (fo, .inr (0, [.ref a0, .ref a1, .ref a2, .ref a3, .ref a4, .ref a5, .ref a6, .ref a7, .int (nI (B))])), (a0, .inl (cI, 32, .inl kd)), (a1, .inl (cI, 32, .inl ky)), (a2, .inl (cI, 32, .inl vl)), (a3, .inl (cI, 32, .inl mk)), (a4, .inl (cI, 8, .inl wr)), (a5, .inl (cI, 32, .inl lv)), (a6, .inl (cI, 16, .inl nw)), (a7, .inl (cI, 8, .inl fr)), (ta, .inr (5, [.int (tp + 1), .int (tw9), .int (tc), .int (te), .int (tk), .int (xa), .int (xe), .int (xs)]))] H := by
        rw [show (icC cu : Int32) = cu - 1 from by rw [icC, if_neg c17_1]]
        exact hP
      exact gp_retz hX hr hlocks hS hP (P := False) ((bI_0 (fun z => z)).symm) (Or.inr (⟨fun z => c36_2 z.2, rfl, rfl⟩)) dX2_isCutNow_44
    · skip
      refine lv_iconst (v := 1) hx hb dX2_isCutNow_39 (by decide) ?_
      refine lv_goto (tgt := 44) hx hb dX2_isCutNow_40 (by decide) ?_
      exact gp_retz hX hr hlocks hS hP (P := True) ((bI_1 trivial).symm) (Or.inl ⟨⟨c17_1, c36_2⟩, rfl, rfl⟩) dX2_isCutNow_44
  · skip
    refine lv_iconst (v := 0) hx hb dX2_isCutNow_20 (by decide) ?_
    have hP : va_P D vwCl [(lo, .inr (2, [.ref fo, .ref ta, .int (bI (on = true)), .int (po), .int (icC cu), .int (li), .int (op), .int (nm)])), (fo, .inr (0, [.ref a0, .ref a1, .ref a2, .ref a3, .ref a4, .ref a5, .ref a6, .ref a7, .int (nI (B))])), (a0, .inl (cI, 32, .inl kd)), (a1, .inl (cI, 32, .inl ky)), (a2, .inl (cI, 32, .inl vl)), (a3, .inl (cI, 32, .inl mk)), (a4, .inl (cI, 8, .inl wr)), (a5, .inl (cI, 32, .inl lv)), (a6, .inl (cI, 16, .inl nw)), (a7, .inl (cI, 8, .inl fr)), (ta, .inr (5, [.int (tp + 1), .int (tw9), .int (tc), .int (te), .int (tk), .int (xa), .int (xe), .int (xs)]))] H := by
      rw [show (icC cu : Int32) = cu from by rw [icC, if_pos c17_1]]
      exact hP
    exact gp_retz hX hr hlocks hS hP (P := False) ((bI_0 (fun z => z)).symm) (Or.inr (⟨fun z => z.1 c17_1, rfl, rfl⟩)) dX2_isCutNow_21
theorem dX2_switchOff_0 : decode cX2_switchOff 0 = .ok (.aload_n 0, 1) := by decide +kernel
theorem dX2_switchOff_1 : decode cX2_switchOff 1 = .ok (.iconst 0, 1) := by decide +kernel
theorem dX2_switchOff_2 : decode cX2_switchOff 2 = .ok (.putfield 34, 3) := by decide +kernel
theorem dX2_switchOff_5 : decode cX2_switchOff 5 = .ok (.aload_n 0, 1) := by decide +kernel
theorem dX2_switchOff_6 : decode cX2_switchOff 6 = .ok (.bipush (-9), 2) := by decide +kernel
theorem dX2_switchOff_8 : decode cX2_switchOff 8 = .ok (.putfield 48, 3) := by decide +kernel
theorem dX2_switchOff_11 : decode cX2_switchOff 11 = .ok (.return_, 1) := by decide +kernel
theorem q2_switchOff : CQ W6 yX2_switchOff cX2_switchOff 1 none 0 := ⟨(m6 177 rfl), by decide, by decide, by decide +kernel⟩
set_option maxHeartbeats 4000000 in
set_option maxRecDepth 100000 in
theorem c2_switchOff (l : Launch) (D : va_G) (cI : ClassId) (lo fo a0 a1 a2 a3 a4 a5 a6 a7 ta : Nat) (on : Bool) (po cu li op nm : Int32) (kd ky vl mk wr lv nw fr : Nat → Int32) (B : Nat) (hB8 : B ≤ 8) (tp tw9 tc te tk xa xe xs : Int32)  : GQv l yX2_switchOff cX2_switchOff 1 W6 0 0 D [(lo, .inr (2, [.ref fo, .ref ta, .int (bI (on = true)), .int (po), .int (cu), .int (li), .int (op), .int (nm)])), (fo, .inr (0, [.ref a0, .ref a1, .ref a2, .ref a3, .ref a4, .ref a5, .ref a6, .ref a7, .int (nI (B))])), (a0, .inl (cI, 32, .inl kd)), (a1, .inl (cI, 32, .inl ky)), (a2, .inl (cI, 32, .inl vl)), (a3, .inl (cI, 32, .inl mk)), (a4, .inl (cI, 8, .inl wr)), (a5, .inl (cI, 32, .inl lv)), (a6, .inl (cI, 16, .inl nw)), (a7, .inl (cI, 8, .inl fr)), (ta, .inr (5, [.int (tp), .int (tw9), .int (tc), .int (te), .int (tk), .int (xa), .int (xe), .int (xs)]))] [(cI, .int)] [.ref lo] (fun u9 : va_W => u9 = [(lo, .inr (2, [.ref fo, .ref ta, .int (bI (false = true)), .int (po), .int (cu), .int (li), .int ((-9)), .int (nm)])), (fo, .inr (0, [.ref a0, .ref a1, .ref a2, .ref a3, .ref a4, .ref a5, .ref a6, .ref a7, .int (nI (B))])), (a0, .inl (cI, 32, .inl kd)), (a1, .inl (cI, 32, .inl ky)), (a2, .inl (cI, 32, .inl vl)), (a3, .inl (cI, 32, .inl mk)), (a4, .inl (cI, 8, .inl wr)), (a5, .inl (cI, 32, .inl lv)), (a6, .inl (cI, 16, .inl nw)), (a7, .inl (cI, 8, .inl fr)), (ta, .inr (5, [.int (tp), .int (tw9), .int (tc), .int (te), .int (tk), .int (xa), .int (xe), .int (xs)]))]) := by
  refine gq_of RX2 (by decide) rfl (Nat.le_of_ble_eq_true rfl) ?_
  intro p e s m below meth c ls H hX hr hlocks hK hN hP hD hS hl
  generalize gp_A [(lo, .inr (2, [.ref fo, .ref ta, .int (bI (on = true)), .int (po), .int (cu), .int (li), .int (op), .int (nm)])), (fo, .inr (0, [.ref a0, .ref a1, .ref a2, .ref a3, .ref a4, .ref a5, .ref a6, .ref a7, .int (nI (B))])), (a0, .inl (cI, 32, .inl kd)), (a1, .inl (cI, 32, .inl ky)), (a2, .inl (cI, 32, .inl vl)), (a3, .inl (cI, 32, .inl mk)), (a4, .inl (cI, 8, .inl wr)), (a5, .inl (cI, 32, .inl lv)), (a6, .inl (cI, 16, .inl nw)), (a7, .inl (cI, 8, .inl fr)), (ta, .inr (5, [.int (tp), .int (tw9), .int (tc), .int (te), .int (tk), .int (xa), .int (xe), .int (xs)]))] = A at hD hS ⊢
  have hx := hX.1
  have hb := hX.2.1
  have hown := hX.2.2.2.1
  have hts := hX.2.2.2.2
  have hl : lv_has ls 1 [(0, .ref lo)] := hl
  refine lv_aload_n hx hb dX2_switchOff_0 rfl (lv_at hl 0 rfl) ?_
  refine lv_iconst (v := 0) hx hb dX2_switchOff_1 (by decide) ?_
  refine va_put (D := D) (ci := 2) (v := .int (0)) (ty := .boolean) (C := RX2) (T := TX2) (N := 8) hx hb hts u6_X2 tyX2 tyX2_ok nmX2 hown hK hP hD hS 0 rfl rfl 2 (by decide) (hts _ (m6 56 rfl)) (fun _ h9 => h9) rfl (by decide +kernel) rfl rfl (Nat.le_of_ble_eq_true rfl) dX2_switchOff_2 (fun H locs hP hD hS => ?_)
  have hP : va_P D vwCl [(lo, .inr (2, [.ref fo, .ref ta, .int (0), .int (po), .int (cu), .int (li), .int (op), .int (nm)])), (fo, .inr (0, [.ref a0, .ref a1, .ref a2, .ref a3, .ref a4, .ref a5, .ref a6, .ref a7, .int (nI (B))])), (a0, .inl (cI, 32, .inl kd)), (a1, .inl (cI, 32, .inl ky)), (a2, .inl (cI, 32, .inl vl)), (a3, .inl (cI, 32, .inl mk)), (a4, .inl (cI, 8, .inl wr)), (a5, .inl (cI, 32, .inl lv)), (a6, .inl (cI, 16, .inl nw)), (a7, .inl (cI, 8, .inl fr)), (ta, .inr (5, [.int (tp), .int (tw9), .int (tc), .int (te), .int (tk), .int (xa), .int (xe), .int (xs)]))] H := hP
  have hD : va_D A [(lo, .inr (2, [.ref fo, .ref ta, .int (0), .int (po), .int (cu), .int (li), .int (op), .int (nm)])), (fo, .inr (0, [.ref a0, .ref a1, .ref a2, .ref a3, .ref a4, .ref a5, .ref a6, .ref a7, .int (nI (B))])), (a0, .inl (cI, 32, .inl kd)), (a1, .inl (cI, 32, .inl ky)), (a2, .inl (cI, 32, .inl vl)), (a3, .inl (cI, 32, .inl mk)), (a4, .inl (cI, 8, .inl wr)), (a5, .inl (cI, 32, .inl lv)), (a6, .inl (cI, 16, .inl nw)), (a7, .inl (cI, 8, .inl fr)), (ta, .inr (5, [.int (tp), .int (tw9), .int (tc), .int (te), .int (tk), .int (xa), .int (xe), .int (xs)]))] := hD
  refine lv_aload_n hx hb dX2_switchOff_5 rfl (lv_at hl 0 rfl) ?_
  refine lv_bipush (v := (-9)) hx hb dX2_switchOff_6 (by decide) ?_
  refine va_put (D := D) (ci := 2) (v := .int ((-9))) (ty := .int) (C := RX2) (T := TX2) (N := 8) hx hb hts u6_X2 tyX2 tyX2_ok nmX2 hown hK hP hD hS 0 rfl rfl 6 (by decide) (hts _ (m6 60 rfl)) (fun _ h9 => h9) rfl (by decide +kernel) rfl rfl (Nat.le_of_ble_eq_true rfl) dX2_switchOff_8 (fun H locs hP hD hS => ?_)
  have hP : va_P D vwCl [(lo, .inr (2, [.ref fo, .ref ta, .int (0), .int (po), .int (cu), .int (li), .int ((-9)), .int (nm)])), (fo, .inr (0, [.ref a0, .ref a1, .ref a2, .ref a3, .ref a4, .ref a5, .ref a6, .ref a7, .int (nI (B))])), (a0, .inl (cI, 32, .inl kd)), (a1, .inl (cI, 32, .inl ky)), (a2, .inl (cI, 32, .inl vl)), (a3, .inl (cI, 32, .inl mk)), (a4, .inl (cI, 8, .inl wr)), (a5, .inl (cI, 32, .inl lv)), (a6, .inl (cI, 16, .inl nw)), (a7, .inl (cI, 8, .inl fr)), (ta, .inr (5, [.int (tp), .int (tw9), .int (tc), .int (te), .int (tk), .int (xa), .int (xe), .int (xs)]))] H := hP
  have hD : va_D A [(lo, .inr (2, [.ref fo, .ref ta, .int (0), .int (po), .int (cu), .int (li), .int ((-9)), .int (nm)])), (fo, .inr (0, [.ref a0, .ref a1, .ref a2, .ref a3, .ref a4, .ref a5, .ref a6, .ref a7, .int (nI (B))])), (a0, .inl (cI, 32, .inl kd)), (a1, .inl (cI, 32, .inl ky)), (a2, .inl (cI, 32, .inl vl)), (a3, .inl (cI, 32, .inl mk)), (a4, .inl (cI, 8, .inl wr)), (a5, .inl (cI, 32, .inl lv)), (a6, .inl (cI, 16, .inl nw)), (a7, .inl (cI, 8, .inl fr)), (ta, .inr (5, [.int (tp), .int (tw9), .int (tc), .int (te), .int (tk), .int (xa), .int (xe), .int (xs)]))] := hD
  have hP : va_P D vwCl [(lo, .inr (2, [.ref fo, .ref ta, .int (bI (false = true)), .int (po), .int (cu), .int (li), .int ((-9)), .int (nm)])), (fo, .inr (0, [.ref a0, .ref a1, .ref a2, .ref a3, .ref a4, .ref a5, .ref a6, .ref a7, .int (nI (B))])), (a0, .inl (cI, 32, .inl kd)), (a1, .inl (cI, 32, .inl ky)), (a2, .inl (cI, 32, .inl vl)), (a3, .inl (cI, 32, .inl mk)), (a4, .inl (cI, 8, .inl wr)), (a5, .inl (cI, 32, .inl lv)), (a6, .inl (cI, 16, .inl nw)), (a7, .inl (cI, 8, .inl fr)), (ta, .inr (5, [.int (tp), .int (tw9), .int (tc), .int (te), .int (tk), .int (xa), .int (xe), .int (xs)]))] H := by
    rw [show (bI (false = true) : Int32) = 0 from by decide]
    exact hP
  exact gp_retv hX hr hlocks hS hP rfl dX2_switchOff_11
theorem dX2_takePage_0 : decode cX2_takePage 0 = .ok (.aload_n 0, 1) := by decide +kernel
theorem dX2_takePage_1 : decode cX2_takePage 1 = .ok (.getfield 12, 3) := by decide +kernel
theorem dX2_takePage_4 : decode cX2_takePage 4 = .ok (.aload_n 0, 1) := by decide +kernel
theorem dX2_takePage_5 : decode cX2_takePage 5 = .ok (.getfield 48, 3) := by decide +kernel
theorem dX2_takePage_8 : decode cX2_takePage 8 = .ok (.invokevirtual 81, 3) := by decide +kernel
theorem dX2_takePage_11 : decode cX2_takePage 11 = .ok (.ifCond .ne 36, 3) := by decide +kernel
theorem dX2_takePage_14 : decode cX2_takePage 14 = .ok (.aload_n 0, 1) := by decide +kernel
theorem dX2_takePage_15 : decode cX2_takePage 15 = .ok (.getfield 12, 3) := by decide +kernel
theorem dX2_takePage_18 : decode cX2_takePage 18 = .ok (.aload_n 0, 1) := by decide +kernel
theorem dX2_takePage_19 : decode cX2_takePage 19 = .ok (.getfield 48, 3) := by decide +kernel
theorem dX2_takePage_22 : decode cX2_takePage 22 = .ok (.invokevirtual 64, 3) := by decide +kernel
theorem dX2_takePage_25 : decode cX2_takePage 25 = .ok (.iload_n 1, 1) := by decide +kernel
theorem dX2_takePage_26 : decode cX2_takePage 26 = .ok (.if_icmp .ge 6, 3) := by decide +kernel
theorem dX2_takePage_29 : decode cX2_takePage 29 = .ok (.bipush (-9), 2) := by decide +kernel
theorem dX2_takePage_31 : decode cX2_takePage 31 = .ok (.ireturn, 1) := by decide +kernel
theorem dX2_takePage_32 : decode cX2_takePage 32 = .ok (.aload_n 0, 1) := by decide +kernel
theorem dX2_takePage_33 : decode cX2_takePage 33 = .ok (.aload_n 0, 1) := by decide +kernel
theorem dX2_takePage_34 : decode cX2_takePage 34 = .ok (.getfield 12, 3) := by decide +kernel
theorem dX2_takePage_37 : decode cX2_takePage 37 = .ok (.aload_n 0, 1) := by decide +kernel
theorem dX2_takePage_38 : decode cX2_takePage 38 = .ok (.getfield 48, 3) := by decide +kernel
theorem dX2_takePage_41 : decode cX2_takePage 41 = .ok (.invokevirtual 143, 3) := by decide +kernel
theorem dX2_takePage_44 : decode cX2_takePage 44 = .ok (.putfield 48, 3) := by decide +kernel
theorem dX2_takePage_47 : decode cX2_takePage 47 = .ok (.iconst 4, 1) := by decide +kernel
theorem dX2_takePage_48 : decode cX2_takePage 48 = .ok (.aload_n 0, 1) := by decide +kernel
theorem dX2_takePage_49 : decode cX2_takePage 49 = .ok (.getfield 48, 3) := by decide +kernel
theorem dX2_takePage_52 : decode cX2_takePage 52 = .ok (.iconst 1, 1) := by decide +kernel
theorem dX2_takePage_53 : decode cX2_takePage 53 = .ok (.iadd, 1) := by decide +kernel
theorem dX2_takePage_54 : decode cX2_takePage 54 = .ok (.imul, 1) := by decide +kernel
theorem dX2_takePage_55 : decode cX2_takePage 55 = .ok (.aload_n 0, 1) := by decide +kernel
theorem dX2_takePage_56 : decode cX2_takePage 56 = .ok (.getfield 12, 3) := by decide +kernel
theorem dX2_takePage_59 : decode cX2_takePage 59 = .ok (.aload_n 0, 1) := by decide +kernel
theorem dX2_takePage_60 : decode cX2_takePage 60 = .ok (.getfield 48, 3) := by decide +kernel
theorem dX2_takePage_63 : decode cX2_takePage 63 = .ok (.invokevirtual 81, 3) := by decide +kernel
theorem dX2_takePage_66 : decode cX2_takePage 66 = .ok (.isub, 1) := by decide +kernel
theorem dX2_takePage_67 : decode cX2_takePage 67 = .ok (.ireturn, 1) := by decide +kernel
theorem q2_takePage : CQ W6 yX2_takePage cX2_takePage 2 (some .int) 1 := ⟨(m6 190 rfl), by decide, by decide, by decide +kernel⟩
set_option maxHeartbeats 4000000 in
set_option maxRecDepth 100000 in
theorem c2_takePage (l : Launch) (D : va_G) (cI : ClassId) (lo fo a0 a1 a2 a3 a4 a5 a6 a7 ta : Nat) (on : Bool) (po cu li op nm : Int32) (kd ky vl mk wr lv nw fr : Nat → Int32) (B : Nat) (hB8 : B ≤ 8) (tp tw9 tc te tk xa xe xs : Int32) (n : Nat) (hn : n ≤ 8) : GQi l yX2_takePage cX2_takePage 2 .int W6 1 24 D [(lo, .inr (2, [.ref fo, .ref ta, .int (bI (on = true)), .int (po), .int (cu), .int (li), .int (op), .int (nm)])), (fo, .inr (0, [.ref a0, .ref a1, .ref a2, .ref a3, .ref a4, .ref a5, .ref a6, .ref a7, .int (nI (B))])), (a0, .inl (cI, 32, .inl kd)), (a1, .inl (cI, 32, .inl ky)), (a2, .inl (cI, 32, .inl vl)), (a3, .inl (cI, 32, .inl mk)), (a4, .inl (cI, 8, .inl wr)), (a5, .inl (cI, 32, .inl lv)), (a6, .inl (cI, 16, .inl nw)), (a7, .inl (cI, 8, .inl fr)), (ta, .inr (5, [.int (tp), .int (tw9), .int (tc), .int (te), .int (tk), .int (xa), .int (xe), .int (xs)]))] [(cI, .int)] [.ref lo, .int (nI (n))] (fun (r9 : Int32) (u9 : va_W) => ((¬ at_ fr 8 0 op = 0) ∧ r9 = (4 * (op + 1) - at_ fr 8 0 op) ∧ u9 = [(lo, .inr (2, [.ref fo, .ref ta, .int (bI (on = true)), .int (po), .int (cu), .int (li), .int (op), .int (nm)])), (fo, .inr (0, [.ref a0, .ref a1, .ref a2, .ref a3, .ref a4, .ref a5, .ref a6, .ref a7, .int (nI (B))])), (a0, .inl (cI, 32, .inl kd)), (a1, .inl (cI, 32, .inl ky)), (a2, .inl (cI, 32, .inl vl)), (a3, .inl (cI, 32, .inl mk)), (a4, .inl (cI, 8, .inl wr)), (a5, .inl (cI, 32, .inl lv)), (a6, .inl (cI, 16, .inl nw)), (a7, .inl (cI, 8, .inl fr)), (ta, .inr (5, [.int (tp), .int (tw9), .int (tc), .int (te), .int (tk), .int (xa), .int (xe), .int (xs)]))]) ∨ ((at_ fr 8 0 op = 0 ∧ cbF fr op B < n) ∧ r9 = (-9) ∧ u9 = [(lo, .inr (2, [.ref fo, .ref ta, .int (bI (on = true)), .int (po), .int (cu), .int (li), .int (op), .int (nm)])), (fo, .inr (0, [.ref a0, .ref a1, .ref a2, .ref a3, .ref a4, .ref a5, .ref a6, .ref a7, .int (nI (B))])), (a0, .inl (cI, 32, .inl kd)), (a1, .inl (cI, 32, .inl ky)), (a2, .inl (cI, 32, .inl vl)), (a3, .inl (cI, 32, .inl mk)), (a4, .inl (cI, 8, .inl wr)), (a5, .inl (cI, 32, .inl lv)), (a6, .inl (cI, 16, .inl nw)), (a7, .inl (cI, 8, .inl fr)), (ta, .inr (5, [.int (tp), .int (tw9), .int (tc), .int (te), .int (tk), .int (xa), .int (xe), .int (xs)]))]) ∨ ((at_ fr 8 0 op = 0 ∧ n ≤ cbF fr op B) ∧ r9 = (4 * (oI (lwF fr wr op B) + 1) - at_ fr 8 0 (oI (lwF fr wr op B))) ∧ u9 = [(lo, .inr (2, [.ref fo, .ref ta, .int (bI (on = true)), .int (po), .int (cu), .int (li), .int (oI (lwF fr wr op B)), .int (nm)])), (fo, .inr (0, [.ref a0, .ref a1, .ref a2, .ref a3, .ref a4, .ref a5, .ref a6, .ref a7, .int (nI (B))])), (a0, .inl (cI, 32, .inl kd)), (a1, .inl (cI, 32, .inl ky)), (a2, .inl (cI, 32, .inl vl)), (a3, .inl (cI, 32, .inl mk)), (a4, .inl (cI, 8, .inl wr)), (a5, .inl (cI, 32, .inl lv)), (a6, .inl (cI, 16, .inl nw)), (a7, .inl (cI, 8, .inl fr)), (ta, .inr (5, [.int (tp), .int (tw9), .int (tc), .int (te), .int (tk), .int (xa), .int (xe), .int (xs)]))])) := by
  refine gq_of RX2 (by decide) rfl (Nat.le_of_ble_eq_true rfl) ?_
  intro p e s m below meth c ls H hX hr hlocks hK hN hP hD hS hl
  generalize gp_A [(lo, .inr (2, [.ref fo, .ref ta, .int (bI (on = true)), .int (po), .int (cu), .int (li), .int (op), .int (nm)])), (fo, .inr (0, [.ref a0, .ref a1, .ref a2, .ref a3, .ref a4, .ref a5, .ref a6, .ref a7, .int (nI (B))])), (a0, .inl (cI, 32, .inl kd)), (a1, .inl (cI, 32, .inl ky)), (a2, .inl (cI, 32, .inl vl)), (a3, .inl (cI, 32, .inl mk)), (a4, .inl (cI, 8, .inl wr)), (a5, .inl (cI, 32, .inl lv)), (a6, .inl (cI, 16, .inl nw)), (a7, .inl (cI, 8, .inl fr)), (ta, .inr (5, [.int (tp), .int (tw9), .int (tc), .int (te), .int (tk), .int (xa), .int (xe), .int (xs)]))] = A at hD hS ⊢
  have hx := hX.1
  have hb := hX.2.1
  have hown := hX.2.2.2.1
  have hts := hX.2.2.2.2
  have hl : lv_has ls 2 [(0, .ref lo), (1, .int (nI (n)))] := hl
  refine lv_aload_n hx hb dX2_takePage_0 rfl (lv_at hl 0 rfl) ?_
  refine va_get (D := D) (ci := 2) (v := .ref fo) (C := RX2) (T := TX2) (N := 8) hx hb hts u6_X2 hown hK hP 0 rfl rfl 0 (by decide) (hts _ (m6 54 rfl)) (fun _ h9 => h9) rfl dX2_takePage_1 ?_
  refine lv_aload_n hx hb dX2_takePage_4 rfl (lv_at hl 0 rfl) ?_
  refine va_get (D := D) (ci := 2) (v := .int (op)) (C := RX2) (T := TX2) (N := 8) hx hb hts u6_X2 hown hK hP 0 rfl rfl 6 (by decide) (hts _ (m6 60 rfl)) (fun _ h9 => h9) rfl dX2_takePage_5 ?_
  refine rq_callV hX good6 (m6 23 rfl) (c0_freeIn l D cI fo a0 a1 a2 a3 a4 a5 a6 a7 kd ky vl mk wr lv nw fr B hB8 op) q0_freeIn rfl (m6 131 rfl) (m6 132 rfl) (m6 133 rfl) ⟨Nat.le_of_ble_eq_true rfl, Nat.le_of_ble_eq_true rfl⟩ hK hN [0] rfl hP [1, 2, 3, 4, 5, 6, 7, 8, 9] rfl (ci := 0) (q0 := 0) rfl rfl rfl hS hl.1 rfl (Nat.le_of_ble_eq_true rfl) dX2_takePage_8 ⟨Nat.zero_le _, Nat.zero_le _⟩ (fun H locs hP hS => ?_)
  refine lv_if_ne (tgt := 47) hx hb dX2_takePage_11 (by decide) (fun c11_1 => ?_) (fun c11_1 => ?_)
  · skip
    refine lv_iconst (v := 4) hx hb dX2_takePage_47 (by decide) ?_
    refine lv_aload_n hx hb dX2_takePage_48 rfl (lv_at hl 0 rfl) ?_
    refine va_get (D := D) (ci := 2) (v := .int (op)) (C := RX2) (T := TX2) (N := 8) hx hb hts u6_X2 hown hK hP 0 rfl rfl 6 (by decide) (hts _ (m6 60 rfl)) (fun _ h9 => h9) rfl dX2_takePage_49 ?_
    refine lv_iconst (v := 1) hx hb dX2_takePage_52 (by decide) ?_
    refine lv_iadd hx hb dX2_takePage_53 ?_
    refine lv_imul hx hb dX2_takePage_54 ?_
    refine lv_aload_n hx hb dX2_takePage_55 rfl (lv_at hl 0 rfl) ?_
    refine va_get (D := D) (ci := 2) (v := .ref fo) (C := RX2) (T := TX2) (N := 8) hx hb hts u6_X2 hown hK hP 0 rfl rfl 0 (by decide) (hts _ (m6 54 rfl)) (fun _ h9 => h9) rfl dX2_takePage_56 ?_
    refine lv_aload_n hx hb dX2_takePage_59 rfl (lv_at hl 0 rfl) ?_
    refine va_get (D := D) (ci := 2) (v := .int (op)) (C := RX2) (T := TX2) (N := 8) hx hb hts u6_X2 hown hK hP 0 rfl rfl 6 (by decide) (hts _ (m6 60 rfl)) (fun _ h9 => h9) rfl dX2_takePage_60 ?_
    refine rq_callV hX good6 (m6 23 rfl) (c0_freeIn l D cI fo a0 a1 a2 a3 a4 a5 a6 a7 kd ky vl mk wr lv nw fr B hB8 op) q0_freeIn rfl (m6 131 rfl) (m6 132 rfl) (m6 133 rfl) ⟨Nat.le_of_ble_eq_true rfl, Nat.le_of_ble_eq_true rfl⟩ hK hN [0] rfl hP [1, 2, 3, 4, 5, 6, 7, 8, 9] rfl (ci := 0) (q0 := 0) rfl rfl rfl hS hl.1 rfl (Nat.le_of_ble_eq_true rfl) dX2_takePage_63 ⟨Nat.zero_le _, Nat.zero_le _⟩ (fun H locs hP hS => ?_)
    refine lv_isub hx hb dX2_takePage_66 ?_
    exact gp_reti hX hr hlocks hS hP (Or.inl ⟨c11_1, rfl, rfl⟩) dX2_takePage_67
  · skip
    refine lv_aload_n hx hb dX2_takePage_14 rfl (lv_at hl 0 rfl) ?_
    refine va_get (D := D) (ci := 2) (v := .ref fo) (C := RX2) (T := TX2) (N := 8) hx hb hts u6_X2 hown hK hP 0 rfl rfl 0 (by decide) (hts _ (m6 54 rfl)) (fun _ h9 => h9) rfl dX2_takePage_15 ?_
    refine lv_aload_n hx hb dX2_takePage_18 rfl (lv_at hl 0 rfl) ?_
    refine va_get (D := D) (ci := 2) (v := .int (op)) (C := RX2) (T := TX2) (N := 8) hx hb hts u6_X2 hown hK hP 0 rfl rfl 6 (by decide) (hts _ (m6 60 rfl)) (fun _ h9 => h9) rfl dX2_takePage_19 ?_
    refine rq_callV hX good6 (m6 23 rfl) (c0_countCleanBlocks l D cI fo a0 a1 a2 a3 a4 a5 a6 a7 kd ky vl mk wr lv nw fr B hB8 op) q0_countCleanBlocks rfl (m6 115 rfl) (m6 116 rfl) (m6 117 rfl) ⟨Nat.le_of_ble_eq_true rfl, Nat.le_of_ble_eq_true rfl⟩ hK hN [0] rfl hP [1, 2, 3, 4, 5, 6, 7, 8, 9] rfl (ci := 0) (q0 := 0) rfl rfl rfl hS hl.1 rfl (Nat.le_of_ble_eq_true rfl) dX2_takePage_22 ⟨Nat.zero_le _, Nat.zero_le _⟩ (fun H locs hP hS => ?_)
    have hcb := cbF_le (fr := fr) (op := op) B
    refine lv_iload_n hx hb dX2_takePage_25 rfl (lv_at hl 1 rfl) ?_
    refine lv_icmp_ge (tgt := 32) hx hb dX2_takePage_26 (by decide) (fun c26_2 => ?_) (fun c26_2 => ?_)
    · skip
      have c26_2 := cn_le (a := n) (b := cbF fr op B) (by omega) (by omega) c26_2
      refine lv_aload_n hx hb dX2_takePage_32 rfl (lv_at hl 0 rfl) ?_
      refine lv_aload_n hx hb dX2_takePage_33 rfl (lv_at hl 0 rfl) ?_
      refine va_get (D := D) (ci := 2) (v := .ref fo) (C := RX2) (T := TX2) (N := 8) hx hb hts u6_X2 hown hK hP 0 rfl rfl 0 (by decide) (hts _ (m6 54 rfl)) (fun _ h9 => h9) rfl dX2_takePage_34 ?_
      refine lv_aload_n hx hb dX2_takePage_37 rfl (lv_at hl 0 rfl) ?_
      refine va_get (D := D) (ci := 2) (v := .int (op)) (C := RX2) (T := TX2) (N := 8) hx hb hts u6_X2 hown hK hP 0 rfl rfl 6 (by decide) (hts _ (m6 60 rfl)) (fun _ h9 => h9) rfl dX2_takePage_38 ?_
      refine rq_callV hX good6 (m6 23 rfl) (c0_leastWornCleanBlock l D cI fo a0 a1 a2 a3 a4 a5 a6 a7 kd ky vl mk wr lv nw fr B hB8 op) q0_leastWornCleanBlock rfl (m6 155 rfl) (m6 156 rfl) (m6 157 rfl) ⟨Nat.le_of_ble_eq_true rfl, Nat.le_of_ble_eq_true rfl⟩ hK hN [0] rfl hP [1, 2, 3, 4, 5, 6, 7, 8, 9] rfl (ci := 0) (q0 := 0) rfl rfl rfl hS hl.1 rfl (Nat.le_of_ble_eq_true rfl) dX2_takePage_41 ⟨Nat.zero_le _, Nat.zero_le _⟩ (fun H locs hP hS => ?_)
      refine va_put (D := D) (ci := 2) (v := .int (oI (lwF fr wr op B))) (ty := .int) (C := RX2) (T := TX2) (N := 8) hx hb hts u6_X2 tyX2 tyX2_ok nmX2 hown hK hP hD hS 0 rfl rfl 6 (by decide) (hts _ (m6 60 rfl)) (fun _ h9 => h9) rfl (by decide +kernel) rfl rfl (Nat.le_of_ble_eq_true rfl) dX2_takePage_44 (fun H locs hP hD hS => ?_)
      have hP : va_P D vwCl [(lo, .inr (2, [.ref fo, .ref ta, .int (bI (on = true)), .int (po), .int (cu), .int (li), .int (oI (lwF fr wr op B)), .int (nm)])), (fo, .inr (0, [.ref a0, .ref a1, .ref a2, .ref a3, .ref a4, .ref a5, .ref a6, .ref a7, .int (nI (B))])), (a0, .inl (cI, 32, .inl kd)), (a1, .inl (cI, 32, .inl ky)), (a2, .inl (cI, 32, .inl vl)), (a3, .inl (cI, 32, .inl mk)), (a4, .inl (cI, 8, .inl wr)), (a5, .inl (cI, 32, .inl lv)), (a6, .inl (cI, 16, .inl nw)), (a7, .inl (cI, 8, .inl fr)), (ta, .inr (5, [.int (tp), .int (tw9), .int (tc), .int (te), .int (tk), .int (xa), .int (xe), .int (xs)]))] H := hP
      have hD : va_D A [(lo, .inr (2, [.ref fo, .ref ta, .int (bI (on = true)), .int (po), .int (cu), .int (li), .int (oI (lwF fr wr op B)), .int (nm)])), (fo, .inr (0, [.ref a0, .ref a1, .ref a2, .ref a3, .ref a4, .ref a5, .ref a6, .ref a7, .int (nI (B))])), (a0, .inl (cI, 32, .inl kd)), (a1, .inl (cI, 32, .inl ky)), (a2, .inl (cI, 32, .inl vl)), (a3, .inl (cI, 32, .inl mk)), (a4, .inl (cI, 8, .inl wr)), (a5, .inl (cI, 32, .inl lv)), (a6, .inl (cI, 16, .inl nw)), (a7, .inl (cI, 8, .inl fr)), (ta, .inr (5, [.int (tp), .int (tw9), .int (tc), .int (te), .int (tk), .int (xa), .int (xe), .int (xs)]))] := hD
      refine lv_iconst (v := 4) hx hb dX2_takePage_47 (by decide) ?_
      refine lv_aload_n hx hb dX2_takePage_48 rfl (lv_at hl 0 rfl) ?_
      refine va_get (D := D) (ci := 2) (v := .int (oI (lwF fr wr op B))) (C := RX2) (T := TX2) (N := 8) hx hb hts u6_X2 hown hK hP 0 rfl rfl 6 (by decide) (hts _ (m6 60 rfl)) (fun _ h9 => h9) rfl dX2_takePage_49 ?_
      refine lv_iconst (v := 1) hx hb dX2_takePage_52 (by decide) ?_
      refine lv_iadd hx hb dX2_takePage_53 ?_
      refine lv_imul hx hb dX2_takePage_54 ?_
      refine lv_aload_n hx hb dX2_takePage_55 rfl (lv_at hl 0 rfl) ?_
      refine va_get (D := D) (ci := 2) (v := .ref fo) (C := RX2) (T := TX2) (N := 8) hx hb hts u6_X2 hown hK hP 0 rfl rfl 0 (by decide) (hts _ (m6 54 rfl)) (fun _ h9 => h9) rfl dX2_takePage_56 ?_
      refine lv_aload_n hx hb dX2_takePage_59 rfl (lv_at hl 0 rfl) ?_
      refine va_get (D := D) (ci := 2) (v := .int (oI (lwF fr wr op B))) (C := RX2) (T := TX2) (N := 8) hx hb hts u6_X2 hown hK hP 0 rfl rfl 6 (by decide) (hts _ (m6 60 rfl)) (fun _ h9 => h9) rfl dX2_takePage_60 ?_
      refine rq_callV hX good6 (m6 23 rfl) (c0_freeIn l D cI fo a0 a1 a2 a3 a4 a5 a6 a7 kd ky vl mk wr lv nw fr B hB8 (oI (lwF fr wr op B))) q0_freeIn rfl (m6 131 rfl) (m6 132 rfl) (m6 133 rfl) ⟨Nat.le_of_ble_eq_true rfl, Nat.le_of_ble_eq_true rfl⟩ hK hN [0] rfl hP [1, 2, 3, 4, 5, 6, 7, 8, 9] rfl (ci := 0) (q0 := 0) rfl rfl rfl hS hl.1 rfl (Nat.le_of_ble_eq_true rfl) dX2_takePage_63 ⟨Nat.zero_le _, Nat.zero_le _⟩ (fun H locs hP hS => ?_)
      refine lv_isub hx hb dX2_takePage_66 ?_
      exact gp_reti hX hr hlocks hS hP (Or.inr (Or.inr (⟨⟨c11_1, c26_2⟩, rfl, rfl⟩))) dX2_takePage_67
    · skip
      have c26_2 := cn_nle (a := n) (b := cbF fr op B) (by omega) (by omega) c26_2
      refine lv_bipush (v := (-9)) hx hb dX2_takePage_29 (by decide) ?_
      exact gp_reti hX hr hlocks hS hP (Or.inr (Or.inl ⟨⟨c11_1, c26_2⟩, rfl, rfl⟩)) dX2_takePage_31
theorem dX2_writePage_0 : decode cX2_writePage 0 = .ok (.aload_n 0, 1) := by decide +kernel
theorem dX2_writePage_1 : decode cX2_writePage 1 = .ok (.invokevirtual 126, 3) := by decide +kernel
theorem dX2_writePage_4 : decode cX2_writePage 4 = .ok (.ifCond .eq 28, 3) := by decide +kernel
theorem dX2_writePage_7 : decode cX2_writePage 7 = .ok (.aload_n 0, 1) := by decide +kernel
theorem dX2_writePage_8 : decode cX2_writePage 8 = .ok (.getfield 12, 3) := by decide +kernel
theorem dX2_writePage_11 : decode cX2_writePage 11 = .ok (.iload_n 1, 1) := by decide +kernel
theorem dX2_writePage_12 : decode cX2_writePage 12 = .ok (.invokevirtual 146, 3) := by decide +kernel
theorem dX2_writePage_15 : decode cX2_writePage 15 = .ok (.aload_n 0, 1) := by decide +kernel
theorem dX2_writePage_16 : decode cX2_writePage 16 = .ok (.getfield 21, 3) := by decide +kernel
theorem dX2_writePage_19 : decode cX2_writePage 19 = .ok (.iload_n 1, 1) := by decide +kernel
theorem dX2_writePage_20 : decode cX2_writePage 20 = .ok (.iconst 0, 1) := by decide +kernel
theorem dX2_writePage_21 : decode cX2_writePage 21 = .ok (.iload 4, 2) := by decide +kernel
theorem dX2_writePage_23 : decode cX2_writePage 23 = .ok (.invokevirtual 133, 3) := by decide +kernel
theorem dX2_writePage_26 : decode cX2_writePage 26 = .ok (.aload_n 0, 1) := by decide +kernel
theorem dX2_writePage_27 : decode cX2_writePage 27 = .ok (.invokevirtual 137, 3) := by decide +kernel
theorem dX2_writePage_30 : decode cX2_writePage 30 = .ok (.iconst 0, 1) := by decide +kernel
theorem dX2_writePage_31 : decode cX2_writePage 31 = .ok (.ireturn, 1) := by decide +kernel
theorem dX2_writePage_32 : decode cX2_writePage 32 = .ok (.aload_n 0, 1) := by decide +kernel
theorem dX2_writePage_33 : decode cX2_writePage 33 = .ok (.getfield 12, 3) := by decide +kernel
theorem dX2_writePage_36 : decode cX2_writePage 36 = .ok (.iload_n 1, 1) := by decide +kernel
theorem dX2_writePage_37 : decode cX2_writePage 37 = .ok (.iload_n 2, 1) := by decide +kernel
theorem dX2_writePage_38 : decode cX2_writePage 38 = .ok (.iload_n 3, 1) := by decide +kernel
theorem dX2_writePage_39 : decode cX2_writePage 39 = .ok (.aload_n 0, 1) := by decide +kernel
theorem dX2_writePage_40 : decode cX2_writePage 40 = .ok (.getfield 51, 3) := by decide +kernel
theorem dX2_writePage_43 : decode cX2_writePage 43 = .ok (.invokevirtual 149, 3) := by decide +kernel
theorem dX2_writePage_46 : decode cX2_writePage 46 = .ok (.aload_n 0, 1) := by decide +kernel
theorem dX2_writePage_47 : decode cX2_writePage 47 = .ok (.dup, 1) := by decide +kernel
theorem dX2_writePage_48 : decode cX2_writePage 48 = .ok (.getfield 51, 3) := by decide +kernel
theorem dX2_writePage_51 : decode cX2_writePage 51 = .ok (.iconst 1, 1) := by decide +kernel
theorem dX2_writePage_52 : decode cX2_writePage 52 = .ok (.iadd, 1) := by decide +kernel
theorem dX2_writePage_53 : decode cX2_writePage 53 = .ok (.putfield 51, 3) := by decide +kernel
theorem dX2_writePage_56 : decode cX2_writePage 56 = .ok (.aload_n 0, 1) := by decide +kernel
theorem dX2_writePage_57 : decode cX2_writePage 57 = .ok (.getfield 21, 3) := by decide +kernel
theorem dX2_writePage_60 : decode cX2_writePage 60 = .ok (.dup, 1) := by decide +kernel
theorem dX2_writePage_61 : decode cX2_writePage 61 = .ok (.getfield 153, 3) := by decide +kernel
theorem dX2_writePage_64 : decode cX2_writePage 64 = .ok (.iconst 1, 1) := by decide +kernel
theorem dX2_writePage_65 : decode cX2_writePage 65 = .ok (.iadd, 1) := by decide +kernel
theorem dX2_writePage_66 : decode cX2_writePage 66 = .ok (.putfield 153, 3) := by decide +kernel
theorem dX2_writePage_69 : decode cX2_writePage 69 = .ok (.iload 4, 2) := by decide +kernel
theorem dX2_writePage_71 : decode cX2_writePage 71 = .ok (.ifCond .eq 16, 3) := by decide +kernel
theorem dX2_writePage_74 : decode cX2_writePage 74 = .ok (.aload_n 0, 1) := by decide +kernel
theorem dX2_writePage_75 : decode cX2_writePage 75 = .ok (.getfield 21, 3) := by decide +kernel
theorem dX2_writePage_78 : decode cX2_writePage 78 = .ok (.dup, 1) := by decide +kernel
theorem dX2_writePage_79 : decode cX2_writePage 79 = .ok (.getfield 156, 3) := by decide +kernel
theorem dX2_writePage_82 : decode cX2_writePage 82 = .ok (.iconst 1, 1) := by decide +kernel
theorem dX2_writePage_83 : decode cX2_writePage 83 = .ok (.iadd, 1) := by decide +kernel
theorem dX2_writePage_84 : decode cX2_writePage 84 = .ok (.putfield 156, 3) := by decide +kernel
theorem dX2_writePage_87 : decode cX2_writePage 87 = .ok (.iconst 1, 1) := by decide +kernel
theorem dX2_writePage_88 : decode cX2_writePage 88 = .ok (.ireturn, 1) := by decide +kernel
theorem q2_writePage : CQ W6 yX2_writePage cX2_writePage 5 (some .boolean) 4 := ⟨(m6 194 rfl), by decide, by decide, by decide +kernel⟩
set_option maxHeartbeats 4000000 in
set_option maxRecDepth 100000 in
theorem c2_writePage (l : Launch) (D : va_G) (cI : ClassId) (lo fo a0 a1 a2 a3 a4 a5 a6 a7 ta : Nat) (on : Bool) (po cu li op nm : Int32) (kd ky vl mk wr lv nw fr : Nat → Int32) (B : Nat) (hB8 : B ≤ 8) (tp tw9 tc te tk xa xe xs : Int32) (a k : Nat) (ha : a < 32) (hk : k < 16) (x : Int32) (sw : Bool) : GQi l yX2_writePage cX2_writePage 5 .boolean W6 1 25 D [(lo, .inr (2, [.ref fo, .ref ta, .int (bI (on = true)), .int (po), .int (cu), .int (li), .int (op), .int (nm)])), (fo, .inr (0, [.ref a0, .ref a1, .ref a2, .ref a3, .ref a4, .ref a5, .ref a6, .ref a7, .int (nI (B))])), (a0, .inl (cI, 32, .inl kd)), (a1, .inl (cI, 32, .inl ky)), (a2, .inl (cI, 32, .inl vl)), (a3, .inl (cI, 32, .inl mk)), (a4, .inl (cI, 8, .inl wr)), (a5, .inl (cI, 32, .inl lv)), (a6, .inl (cI, 16, .inl nw)), (a7, .inl (cI, 8, .inl fr)), (ta, .inr (5, [.int (tp), .int (tw9), .int (tc), .int (te), .int (tk), .int (xa), .int (xe), .int (xs)]))] [(cI, .int)] [.ref lo, .int (nI (a)), .int (nI (k)), .int (x), .int (bI (sw = true))] (fun (r9 : Int32) (u9 : va_W) => ((icP cu) ∧ r9 = 0 ∧ u9 = [(lo, .inr (2, [.ref fo, .ref ta, .int (bI (false = true)), .int (po), .int (cu - 1), .int (li), .int ((-9)), .int (nm)])), (fo, .inr (0, [.ref a0, .ref a1, .ref a2, .ref a3, .ref a4, .ref a5, .ref a6, .ref a7, .int (nI (B))])), (a0, .inl (cI, 32, .inl (upd kd a 2))), (a1, .inl (cI, 32, .inl ky)), (a2, .inl (cI, 32, .inl vl)), (a3, .inl (cI, 32, .inl mk)), (a4, .inl (cI, 8, .inl wr)), (a5, .inl (cI, 32, .inl lv)), (a6, .inl (cI, 16, .inl nw)), (a7, .inl (cI, 8, .inl (upd fr (a / 4) (fr (a / 4) - 1)))), (ta, .inr (5, [.int (tp + 1), .int (tw9), .int (tc), .int (te), .int (tk + 1), .int (nI (a)), .int (bI (false = true)), .int (bI (sw = true))]))]) ∨ ((¬ icP cu) ∧ r9 = 1 ∧ u9 = [(lo, .inr (2, [.ref fo, .ref ta, .int (bI (on = true)), .int (po), .int (icC cu), .int (li), .int (op), .int (nm + 1)])), (fo, .inr (0, [.ref a0, .ref a1, .ref a2, .ref a3, .ref a4, .ref a5, .ref a6, .ref a7, .int (nI (B))])), (a0, .inl (cI, 32, .inl (upd kd a 1))), (a1, .inl (cI, 32, .inl (upd ky a (nI k)))), (a2, .inl (cI, 32, .inl (upd vl a x))), (a3, .inl (cI, 32, .inl (upd mk a nm))), (a4, .inl (cI, 8, .inl wr)), (a5, .inl (cI, 32, .inl (lvW lv nw a k))), (a6, .inl (cI, 16, .inl (upd nw k (nI a)))), (a7, .inl (cI, 8, .inl (upd fr (a / 4) (fr (a / 4) - 1)))), (ta, .inr (5, [.int (tp + 1), .int (tw9 + 1), .int (tc + bI (sw = true)), .int (te), .int (tk), .int (xa), .int (xe), .int (xs)]))])) := by
  refine gq_of RX2 (by decide) rfl (Nat.le_of_ble_eq_true rfl) ?_
  intro p e s m below meth c ls H hX hr hlocks hK hN hP hD hS hl
  generalize gp_A [(lo, .inr (2, [.ref fo, .ref ta, .int (bI (on = true)), .int (po), .int (cu), .int (li), .int (op), .int (nm)])), (fo, .inr (0, [.ref a0, .ref a1, .ref a2, .ref a3, .ref a4, .ref a5, .ref a6, .ref a7, .int (nI (B))])), (a0, .inl (cI, 32, .inl kd)), (a1, .inl (cI, 32, .inl ky)), (a2, .inl (cI, 32, .inl vl)), (a3, .inl (cI, 32, .inl mk)), (a4, .inl (cI, 8, .inl wr)), (a5, .inl (cI, 32, .inl lv)), (a6, .inl (cI, 16, .inl nw)), (a7, .inl (cI, 8, .inl fr)), (ta, .inr (5, [.int (tp), .int (tw9), .int (tc), .int (te), .int (tk), .int (xa), .int (xe), .int (xs)]))] = A at hD hS ⊢
  have hx := hX.1
  have hb := hX.2.1
  have hown := hX.2.2.2.1
  have hts := hX.2.2.2.2
  have hl : lv_has ls 5 [(0, .ref lo), (1, .int (nI (a))), (2, .int (nI (k))), (3, .int (x)), (4, .int (bI (sw = true)))] := hl
  refine lv_aload_n hx hb dX2_writePage_0 rfl (lv_at hl 0 rfl) ?_
  refine gp_backi (gq_runV hX good6 (m6 83 rfl) (c2_isCutNow l D cI lo fo a0 a1 a2 a3 a4 a5 a6 a7 ta on po cu li op nm kd ky vl mk wr lv nw fr B hB8 tp tw9 tc te tk xa xe xs ) q2_isCutNow rfl (m6 162 rfl) (m6 163 rfl) (m6 164 rfl) ⟨Nat.le_of_ble_eq_true rfl, Nat.le_of_ble_eq_true rfl⟩ hK hN [0] rfl hP hD [0, 1, 2, 3, 4, 5, 6, 7, 8, 9, 10] (by decide) rfl (ci := 2) (q0 := 0) rfl rfl rfl hl.1 rfl (Nat.le_of_ble_eq_true rfl) dX2_writePage_1 ⟨Nat.zero_le _, Nat.zero_le _⟩) hP hD hS [0, 1, 2, 3, 4, 5, 6, 7, 8, 9, 10] rfl (fun r u h => by rcases h with ⟨-, -, rfl⟩ | ⟨-, -, rfl⟩ <;> simp only [List.map_cons, List.map_nil]) (fun r9 u H locs hpost hP hD hS => ?_)
  rcases hpost with ⟨cc1, hr9, rfl⟩ | ⟨cc1, hr9, rfl⟩
  · skip
    refine lv_as hr9 ?_
    have hP : va_P D vwCl [(lo, .inr (2, [.ref fo, .ref ta, .int (bI (on = true)), .int (po), .int (cu - 1), .int (li), .int (op), .int (nm)])), (fo, .inr (0, [.ref a0, .ref a1, .ref a2, .ref a3, .ref a4, .ref a5, .ref a6, .ref a7, .int (nI (B))])), (a0, .inl (cI, 32, .inl kd)), (a1, .inl (cI, 32, .inl ky)), (a2, .inl (cI, 32, .inl vl)), (a3, .inl (cI, 32, .inl mk)), (a4, .inl (cI, 8, .inl wr)), (a5, .inl (cI, 32, .inl lv)), (a6, .inl (cI, 16, .inl nw)), (a7, .inl (cI, 8, .inl fr)), (ta, .inr (5, [.int (tp + 1), .int (tw9), .int (tc), .int (te), .int (tk), .int (xa), .int (xe), .int (xs)]))] H := hP
    have hD : va_D A [(lo, .inr (2, [.ref fo, .ref ta, .int (bI (on = true)), .int (po), .int (cu - 1), .int (li), .int (op), .int (nm)])), (fo, .inr (0, [.ref a0, .ref a1, .ref a2, .ref a3, .ref a4, .ref a5, .ref a6, .ref a7, .int (nI (B))])), (a0, .inl (cI, 32, .inl kd)), (a1, .inl (cI, 32, .inl ky)), (a2, .inl (cI, 32, .inl vl)), (a3, .inl (cI, 32, .inl mk)), (a4, .inl (cI, 8, .inl wr)), (a5, .inl (cI, 32, .inl lv)), (a6, .inl (cI, 16, .inl nw)), (a7, .inl (cI, 8, .inl fr)), (ta, .inr (5, [.int (tp + 1), .int (tw9), .int (tc), .int (te), .int (tk), .int (xa), .int (xe), .int (xs)]))] := hD
    refine lv_if_eq (tgt := 32) hx hb dX2_writePage_4 (by decide) (fun c4_2 => ?_) (fun c4_2 => ?_)
    · skip
      exact absurd c4_2 (by decide)
    · skip
      refine lv_aload_n hx hb dX2_writePage_7 rfl (lv_at hl 0 rfl) ?_
      refine va_get (D := D) (ci := 2) (v := .ref fo) (C := RX2) (T := TX2) (N := 8) hx hb hts u6_X2 hown hK hP 0 rfl rfl 0 (by decide) (hts _ (m6 54 rfl)) (fun _ h9 => h9) rfl dX2_writePage_8 ?_
      refine lv_iload_n hx hb dX2_writePage_11 rfl (lv_at hl 1 rfl) ?_
      refine gp_backv (gq_runV hX good6 (m6 23 rfl) (c0_tear l D cI fo a0 a1 a2 a3 a4 a5 a6 a7 kd ky vl mk wr lv nw fr B hB8 a (by omega)) q0_tear rfl (m6 166 rfl) (m6 167 rfl) (m6 168 rfl) ⟨Nat.le_of_ble_eq_true rfl, Nat.le_of_ble_eq_true rfl⟩ hK hN [0] rfl hP hD [1, 2, 3, 4, 5, 6, 7, 8, 9] (by decide) rfl (ci := 0) (q0 := 0) rfl rfl rfl hl.1 rfl (Nat.le_of_ble_eq_true rfl) dX2_writePage_12 ⟨Nat.zero_le _, Nat.zero_le _⟩) hP hD hS [1, 2, 3, 4, 5, 6, 7, 8, 9] rfl (fun u h => by rw [h]; simp only [List.map_cons, List.map_nil]) (fun u H locs hpost hP hD hS => ?_)
      subst hpost
      have hP : va_P D vwCl [(lo, .inr (2, [.ref fo, .ref ta, .int (bI (on = true)), .int (po), .int (cu - 1), .int (li), .int (op), .int (nm)])), (fo, .inr (0, [.ref a0, .ref a1, .ref a2, .ref a3, .ref a4, .ref a5, .ref a6, .ref a7, .int (nI (B))])), (a0, .inl (cI, 32, .inl (upd kd a 2))), (a1, .inl (cI, 32, .inl ky)), (a2, .inl (cI, 32, .inl vl)), (a3, .inl (cI, 32, .inl mk)), (a4, .inl (cI, 8, .inl wr)), (a5, .inl (cI, 32, .inl lv)), (a6, .inl (cI, 16, .inl nw)), (a7, .inl (cI, 8, .inl (upd fr (a / 4) (fr (a / 4) - 1)))), (ta, .inr (5, [.int (tp + 1), .int (tw9), .int (tc), .int (te), .int (tk), .int (xa), .int (xe), .int (xs)]))] H := hP
      have hD : va_D A [(lo, .inr (2, [.ref fo, .ref ta, .int (bI (on = true)), .int (po), .int (cu - 1), .int (li), .int (op), .int (nm)])), (fo, .inr (0, [.ref a0, .ref a1, .ref a2, .ref a3, .ref a4, .ref a5, .ref a6, .ref a7, .int (nI (B))])), (a0, .inl (cI, 32, .inl (upd kd a 2))), (a1, .inl (cI, 32, .inl ky)), (a2, .inl (cI, 32, .inl vl)), (a3, .inl (cI, 32, .inl mk)), (a4, .inl (cI, 8, .inl wr)), (a5, .inl (cI, 32, .inl lv)), (a6, .inl (cI, 16, .inl nw)), (a7, .inl (cI, 8, .inl (upd fr (a / 4) (fr (a / 4) - 1)))), (ta, .inr (5, [.int (tp + 1), .int (tw9), .int (tc), .int (te), .int (tk), .int (xa), .int (xe), .int (xs)]))] := hD
      refine lv_aload_n hx hb dX2_writePage_15 rfl (lv_at hl 0 rfl) ?_
      refine va_get (D := D) (ci := 2) (v := .ref ta) (C := RX2) (T := TX2) (N := 8) hx hb hts u6_X2 hown hK hP 0 rfl rfl 1 (by decide) (hts _ (m6 55 rfl)) (fun _ h9 => h9) rfl dX2_writePage_16 ?_
      refine lv_iload_n hx hb dX2_writePage_19 rfl (lv_at hl 1 rfl) ?_
      refine lv_iconst (v := 0) hx hb dX2_writePage_20 (by decide) ?_
      refine lv_iload hx hb dX2_writePage_21 (lv_at hl 4 rfl) ?_
      refine gp_backv (gq_runV hX good6 (m6 69 rfl) (c5_countCut l D ta (tp + 1) tw9 tc te tk xa xe xs (nI (a)) false sw) q5_countCut rfl (m6 170 rfl) (m6 171 rfl) (m6 172 rfl) ⟨Nat.le_of_ble_eq_true rfl, Nat.le_of_ble_eq_true rfl⟩ hK hN [] rfl hP hD [10] (by decide) rfl (ci := 5) (q0 := 0) rfl rfl rfl hl.1 rfl (Nat.le_of_ble_eq_true rfl) dX2_writePage_23 ⟨Nat.zero_le _, Nat.zero_le _⟩) hP hD hS [10] rfl (fun u h => by rw [h]; simp only [List.map_cons, List.map_nil]) (fun u H locs hpost hP hD hS => ?_)
      subst hpost
      have hP : va_P D vwCl [(lo, .inr (2, [.ref fo, .ref ta, .int (bI (on = true)), .int (po), .int (cu - 1), .int (li), .int (op), .int (nm)])), (fo, .inr (0, [.ref a0, .ref a1, .ref a2, .ref a3, .ref a4, .ref a5, .ref a6, .ref a7, .int (nI (B))])), (a0, .inl (cI, 32, .inl (upd kd a 2))), (a1, .inl (cI, 32, .inl ky)), (a2, .inl (cI, 32, .inl vl)), (a3, .inl (cI, 32, .inl mk)), (a4, .inl (cI, 8, .inl wr)), (a5, .inl (cI, 32, .inl lv)), (a6, .inl (cI, 16, .inl nw)), (a7, .inl (cI, 8, .inl (upd fr (a / 4) (fr (a / 4) - 1)))), (ta, .inr (5, [.int (tp + 1), .int (tw9), .int (tc), .int (te), .int (tk + 1), .int (nI (a)), .int (bI (false = true)), .int (bI (sw = true))]))] H := hP
      have hD : va_D A [(lo, .inr (2, [.ref fo, .ref ta, .int (bI (on = true)), .int (po), .int (cu - 1), .int (li), .int (op), .int (nm)])), (fo, .inr (0, [.ref a0, .ref a1, .ref a2, .ref a3, .ref a4, .ref a5, .ref a6, .ref a7, .int (nI (B))])), (a0, .inl (cI, 32, .inl (upd kd a 2))), (a1, .inl (cI, 32, .inl ky)), (a2, .inl (cI, 32, .inl vl)), (a3, .inl (cI, 32, .inl mk)), (a4, .inl (cI, 8, .inl wr)), (a5, .inl (cI, 32, .inl lv)), (a6, .inl (cI, 16, .inl nw)), (a7, .inl (cI, 8, .inl (upd fr (a / 4) (fr (a / 4) - 1)))), (ta, .inr (5, [.int (tp + 1), .int (tw9), .int (tc), .int (te), .int (tk + 1), .int (nI (a)), .int (bI (false = true)), .int (bI (sw = true))]))] := hD
      refine lv_aload_n hx hb dX2_writePage_26 rfl (lv_at hl 0 rfl) ?_
      refine gp_backv (gq_runV hX good6 (m6 83 rfl) (c2_switchOff l D cI lo fo a0 a1 a2 a3 a4 a5 a6 a7 ta on po (cu - 1) li op nm (upd kd a 2) ky vl mk wr lv nw (upd fr (a / 4) (fr (a / 4) - 1)) B hB8 (tp + 1) tw9 tc te (tk + 1) (nI (a)) (bI (false = true)) (bI (sw = true)) ) q2_switchOff rfl (m6 174 rfl) (m6 175 rfl) (m6 176 rfl) ⟨Nat.le_of_ble_eq_true rfl, Nat.le_of_ble_eq_true rfl⟩ hK hN [0] rfl hP hD [0, 1, 2, 3, 4, 5, 6, 7, 8, 9, 10] (by decide) rfl (ci := 2) (q0 := 0) rfl rfl rfl hl.1 rfl (Nat.le_of_ble_eq_true rfl) dX2_writePage_27 ⟨Nat.zero_le _, Nat.zero_le _⟩) hP hD hS [0, 1, 2, 3, 4, 5, 6, 7, 8, 9, 10] rfl (fun u h => by rw [h]; simp only [List.map_cons, List.map_nil]) (fun u H locs hpost hP hD hS => ?_)
      subst hpost
      have hP : va_P D vwCl [(lo, .inr (2, [.ref fo, .ref ta, .int (bI (false = true)), .int (po), .int (cu - 1), .int (li), .int ((-9)), .int (nm)])), (fo, .inr (0, [.ref a0, .ref a1, .ref a2, .ref a3, .ref a4, .ref a5, .ref a6, .ref a7, .int (nI (B))])), (a0, .inl (cI, 32, .inl (upd kd a 2))), (a1, .inl (cI, 32, .inl ky)), (a2, .inl (cI, 32, .inl vl)), (a3, .inl (cI, 32, .inl mk)), (a4, .inl (cI, 8, .inl wr)), (a5, .inl (cI, 32, .inl lv)), (a6, .inl (cI, 16, .inl nw)), (a7, .inl (cI, 8, .inl (upd fr (a / 4) (fr (a / 4) - 1)))), (ta, .inr (5, [.int (tp + 1), .int (tw9), .int (tc), .int (te), .int (tk + 1), .int (nI (a)), .int (bI (false = true)), .int (bI (sw = true))]))] H := hP
      have hD : va_D A [(lo, .inr (2, [.ref fo, .ref ta, .int (bI (false = true)), .int (po), .int (cu - 1), .int (li), .int ((-9)), .int (nm)])), (fo, .inr (0, [.ref a0, .ref a1, .ref a2, .ref a3, .ref a4, .ref a5, .ref a6, .ref a7, .int (nI (B))])), (a0, .inl (cI, 32, .inl (upd kd a 2))), (a1, .inl (cI, 32, .inl ky)), (a2, .inl (cI, 32, .inl vl)), (a3, .inl (cI, 32, .inl mk)), (a4, .inl (cI, 8, .inl wr)), (a5, .inl (cI, 32, .inl lv)), (a6, .inl (cI, 16, .inl nw)), (a7, .inl (cI, 8, .inl (upd fr (a / 4) (fr (a / 4) - 1)))), (ta, .inr (5, [.int (tp + 1), .int (tw9), .int (tc), .int (te), .int (tk + 1), .int (nI (a)), .int (bI (false = true)), .int (bI (sw = true))]))] := hD
      refine lv_iconst (v := 0) hx hb dX2_writePage_30 (by decide) ?_
      exact gp_retz hX hr hlocks hS hP (P := False) ((bI_0 (fun z => z)).symm) (Or.inl ⟨cc1, rfl, rfl⟩) dX2_writePage_31
  · skip
    refine lv_as hr9 ?_
    have hP : va_P D vwCl [(lo, .inr (2, [.ref fo, .ref ta, .int (bI (on = true)), .int (po), .int (icC cu), .int (li), .int (op), .int (nm)])), (fo, .inr (0, [.ref a0, .ref a1, .ref a2, .ref a3, .ref a4, .ref a5, .ref a6, .ref a7, .int (nI (B))])), (a0, .inl (cI, 32, .inl kd)), (a1, .inl (cI, 32, .inl ky)), (a2, .inl (cI, 32, .inl vl)), (a3, .inl (cI, 32, .inl mk)), (a4, .inl (cI, 8, .inl wr)), (a5, .inl (cI, 32, .inl lv)), (a6, .inl (cI, 16, .inl nw)), (a7, .inl (cI, 8, .inl fr)), (ta, .inr (5, [.int (tp + 1), .int (tw9), .int (tc), .int (te), .int (tk), .int (xa), .int (xe), .int (xs)]))] H := hP
    have hD : va_D A [(lo, .inr (2, [.ref fo, .ref ta, .int (bI (on = true)), .int (po), .int (icC cu), .int (li), .int (op), .int (nm)])), (fo, .inr (0, [.ref a0, .ref a1, .ref a2, .ref a3, .ref a4, .ref a5, .ref a6, .ref a7, .int (nI (B))])), (a0, .inl (cI, 32, .inl kd)), (a1, .inl (cI, 32, .inl ky)), (a2, .inl (cI, 32, .inl vl)), (a3, .inl (cI, 32, .inl mk)), (a4, .inl (cI, 8, .inl wr)), (a5, .inl (cI, 32, .inl lv)), (a6, .inl (cI, 16, .inl nw)), (a7, .inl (cI, 8, .inl fr)), (ta, .inr (5, [.int (tp + 1), .int (tw9), .int (tc), .int (te), .int (tk), .int (xa), .int (xe), .int (xs)]))] := hD
    refine lv_if_eq (tgt := 32) hx hb dX2_writePage_4 (by decide) (fun c4_3 => ?_) (fun c4_3 => ?_)
    · skip
      refine lv_aload_n hx hb dX2_writePage_32 rfl (lv_at hl 0 rfl) ?_
      refine va_get (D := D) (ci := 2) (v := .ref fo) (C := RX2) (T := TX2) (N := 8) hx hb hts u6_X2 hown hK hP 0 rfl rfl 0 (by decide) (hts _ (m6 54 rfl)) (fun _ h9 => h9) rfl dX2_writePage_33 ?_
      refine lv_iload_n hx hb dX2_writePage_36 rfl (lv_at hl 1 rfl) ?_
      refine lv_iload_n hx hb dX2_writePage_37 rfl (lv_at hl 2 rfl) ?_
      refine lv_iload_n hx hb dX2_writePage_38 rfl (lv_at hl 3 rfl) ?_
      refine lv_aload_n hx hb dX2_writePage_39 rfl (lv_at hl 0 rfl) ?_
      refine va_get (D := D) (ci := 2) (v := .int (nm)) (C := RX2) (T := TX2) (N := 8) hx hb hts u6_X2 hown hK hP 0 rfl rfl 7 (by decide) (hts _ (m6 61 rfl)) (fun _ h9 => h9) rfl dX2_writePage_40 ?_
      refine gp_backv (gq_runV hX good6 (m6 23 rfl) (c0_write l D cI fo a0 a1 a2 a3 a4 a5 a6 a7 kd ky vl mk wr lv nw fr B hB8 a k (by omega) (by omega) x nm) q0_write rfl (m6 178 rfl) (m6 179 rfl) (m6 180 rfl) ⟨Nat.le_of_ble_eq_true rfl, Nat.le_of_ble_eq_true rfl⟩ hK hN [0] rfl hP hD [1, 2, 3, 4, 5, 6, 7, 8, 9] (by decide) rfl (ci := 0) (q0 := 0) rfl rfl rfl hl.1 rfl (Nat.le_of_ble_eq_true rfl) dX2_writePage_43 ⟨Nat.zero_le _, Nat.zero_le _⟩) hP hD hS [1, 2, 3, 4, 5, 6, 7, 8, 9] rfl (fun u h => by rw [h]; simp only [List.map_cons, List.map_nil]) (fun u H locs hpost hP hD hS => ?_)
      subst hpost
      have hP : va_P D vwCl [(lo, .inr (2, [.ref fo, .ref ta, .int (bI (on = true)), .int (po), .int (icC cu), .int (li), .int (op), .int (nm)])), (fo, .inr (0, [.ref a0, .ref a1, .ref a2, .ref a3, .ref a4, .ref a5, .ref a6, .ref a7, .int (nI (B))])), (a0, .inl (cI, 32, .inl (upd kd a 1))), (a1, .inl (cI, 32, .inl (upd ky a (nI k)))), (a2, .inl (cI, 32, .inl (upd vl a x))), (a3, .inl (cI, 32, .inl (upd mk a nm))), (a4, .inl (cI, 8, .inl wr)), (a5, .inl (cI, 32, .inl (lvW lv nw a k))), (a6, .inl (cI, 16, .inl (upd nw k (nI a)))), (a7, .inl (cI, 8, .inl (upd fr (a / 4) (fr (a / 4) - 1)))), (ta, .inr (5, [.int (tp + 1), .int (tw9), .int (tc), .int (te), .int (tk), .int (xa), .int (xe), .int (xs)]))] H := hP
      have hD : va_D A [(lo, .inr (2, [.ref fo, .ref ta, .int (bI (on = true)), .int (po), .int (icC cu), .int (li), .int (op), .int (nm)])), (fo, .inr (0, [.ref a0, .ref a1, .ref a2, .ref a3, .ref a4, .ref a5, .ref a6, .ref a7, .int (nI (B))])), (a0, .inl (cI, 32, .inl (upd kd a 1))), (a1, .inl (cI, 32, .inl (upd ky a (nI k)))), (a2, .inl (cI, 32, .inl (upd vl a x))), (a3, .inl (cI, 32, .inl (upd mk a nm))), (a4, .inl (cI, 8, .inl wr)), (a5, .inl (cI, 32, .inl (lvW lv nw a k))), (a6, .inl (cI, 16, .inl (upd nw k (nI a)))), (a7, .inl (cI, 8, .inl (upd fr (a / 4) (fr (a / 4) - 1)))), (ta, .inr (5, [.int (tp + 1), .int (tw9), .int (tc), .int (te), .int (tk), .int (xa), .int (xe), .int (xs)]))] := hD
      refine lv_aload_n hx hb dX2_writePage_46 rfl (lv_at hl 0 rfl) ?_
      refine lv_dup hx hb dX2_writePage_47 rfl ?_
      refine va_get (D := D) (ci := 2) (v := .int (nm)) (C := RX2) (T := TX2) (N := 8) hx hb hts u6_X2 hown hK hP 0 rfl rfl 7 (by decide) (hts _ (m6 61 rfl)) (fun _ h9 => h9) rfl dX2_writePage_48 ?_
      refine lv_iconst (v := 1) hx hb dX2_writePage_51 (by decide) ?_
      refine lv_iadd hx hb dX2_writePage_52 ?_
      refine va_put (D := D) (ci := 2) (v := .int (nm + 1)) (ty := .int) (C := RX2) (T := TX2) (N := 8) hx hb hts u6_X2 tyX2 tyX2_ok nmX2 hown hK hP hD hS 0 rfl rfl 7 (by decide) (hts _ (m6 61 rfl)) (fun _ h9 => h9) rfl (by decide +kernel) rfl rfl (Nat.le_of_ble_eq_true rfl) dX2_writePage_53 (fun H locs hP hD hS => ?_)
      have hP : va_P D vwCl [(lo, .inr (2, [.ref fo, .ref ta, .int (bI (on = true)), .int (po), .int (icC cu), .int (li), .int (op), .int (nm + 1)])), (fo, .inr (0, [.ref a0, .ref a1, .ref a2, .ref a3, .ref a4, .ref a5, .ref a6, .ref a7, .int (nI (B))])), (a0, .inl (cI, 32, .inl (upd kd a 1))), (a1, .inl (cI, 32, .inl (upd ky a (nI k)))), (a2, .inl (cI, 32, .inl (upd vl a x))), (a3, .inl (cI, 32, .inl (upd mk a nm))), (a4, .inl (cI, 8, .inl wr)), (a5, .inl (cI, 32, .inl (lvW lv nw a k))), (a6, .inl (cI, 16, .inl (upd nw k (nI a)))), (a7, .inl (cI, 8, .inl (upd fr (a / 4) (fr (a / 4) - 1)))), (ta, .inr (5, [.int (tp + 1), .int (tw9), .int (tc), .int (te), .int (tk), .int (xa), .int (xe), .int (xs)]))] H := hP
      have hD : va_D A [(lo, .inr (2, [.ref fo, .ref ta, .int (bI (on = true)), .int (po), .int (icC cu), .int (li), .int (op), .int (nm + 1)])), (fo, .inr (0, [.ref a0, .ref a1, .ref a2, .ref a3, .ref a4, .ref a5, .ref a6, .ref a7, .int (nI (B))])), (a0, .inl (cI, 32, .inl (upd kd a 1))), (a1, .inl (cI, 32, .inl (upd ky a (nI k)))), (a2, .inl (cI, 32, .inl (upd vl a x))), (a3, .inl (cI, 32, .inl (upd mk a nm))), (a4, .inl (cI, 8, .inl wr)), (a5, .inl (cI, 32, .inl (lvW lv nw a k))), (a6, .inl (cI, 16, .inl (upd nw k (nI a)))), (a7, .inl (cI, 8, .inl (upd fr (a / 4) (fr (a / 4) - 1)))), (ta, .inr (5, [.int (tp + 1), .int (tw9), .int (tc), .int (te), .int (tk), .int (xa), .int (xe), .int (xs)]))] := hD
      refine lv_aload_n hx hb dX2_writePage_56 rfl (lv_at hl 0 rfl) ?_
      refine va_get (D := D) (ci := 2) (v := .ref ta) (C := RX2) (T := TX2) (N := 8) hx hb hts u6_X2 hown hK hP 0 rfl rfl 1 (by decide) (hts _ (m6 55 rfl)) (fun _ h9 => h9) rfl dX2_writePage_57 ?_
      refine lv_dup hx hb dX2_writePage_60 rfl ?_
      refine va_get (D := D) (ci := 5) (v := .int (tw9)) (C := RX5) (T := TX5) (N := 8) hx hb hts u6_X5 hown hK hP 10 rfl rfl 1 (by decide) (hts _ (m6 160 rfl)) (fun _ h9 => h9) rfl dX2_writePage_61 ?_
      refine lv_iconst (v := 1) hx hb dX2_writePage_64 (by decide) ?_
      refine lv_iadd hx hb dX2_writePage_65 ?_
      refine va_put (D := D) (ci := 5) (v := .int (tw9 + 1)) (ty := .int) (C := RX5) (T := TX5) (N := 8) hx hb hts u6_X5 tyX5 tyX5_ok nmX5 hown hK hP hD hS 10 rfl rfl 1 (by decide) (hts _ (m6 160 rfl)) (fun _ h9 => h9) rfl (by decide +kernel) rfl rfl (Nat.le_of_ble_eq_true rfl) dX2_writePage_66 (fun H locs hP hD hS => ?_)
      have hP : va_P D vwCl [(lo, .inr (2, [.ref fo, .ref ta, .int (bI (on = true)), .int (po), .int (icC cu), .int (li), .int (op), .int (nm + 1)])), (fo, .inr (0, [.ref a0, .ref a1, .ref a2, .ref a3, .ref a4, .ref a5, .ref a6, .ref a7, .int (nI (B))])), (a0, .inl (cI, 32, .inl (upd kd a 1))), (a1, .inl (cI, 32, .inl (upd ky a (nI k)))), (a2, .inl (cI, 32, .inl (upd vl a x))), (a3, .inl (cI, 32, .inl (upd mk a nm))), (a4, .inl (cI, 8, .inl wr)), (a5, .inl (cI, 32, .inl (lvW lv nw a k))), (a6, .inl (cI, 16, .inl (upd nw k (nI a)))), (a7, .inl (cI, 8, .inl (upd fr (a / 4) (fr (a / 4) - 1)))), (ta, .inr (5, [.int (tp + 1), .int (tw9 + 1), .int (tc), .int (te), .int (tk), .int (xa), .int (xe), .int (xs)]))] H := hP
      have hD : va_D A [(lo, .inr (2, [.ref fo, .ref ta, .int (bI (on = true)), .int (po), .int (icC cu), .int (li), .int (op), .int (nm + 1)])), (fo, .inr (0, [.ref a0, .ref a1, .ref a2, .ref a3, .ref a4, .ref a5, .ref a6, .ref a7, .int (nI (B))])), (a0, .inl (cI, 32, .inl (upd kd a 1))), (a1, .inl (cI, 32, .inl (upd ky a (nI k)))), (a2, .inl (cI, 32, .inl (upd vl a x))), (a3, .inl (cI, 32, .inl (upd mk a nm))), (a4, .inl (cI, 8, .inl wr)), (a5, .inl (cI, 32, .inl (lvW lv nw a k))), (a6, .inl (cI, 16, .inl (upd nw k (nI a)))), (a7, .inl (cI, 8, .inl (upd fr (a / 4) (fr (a / 4) - 1)))), (ta, .inr (5, [.int (tp + 1), .int (tw9 + 1), .int (tc), .int (te), .int (tk), .int (xa), .int (xe), .int (xs)]))] := hD
      refine lv_iload hx hb dX2_writePage_69 (lv_at hl 4 rfl) ?_
      refine lv_if_eq (tgt := 87) hx hb dX2_writePage_71 (by decide) (fun c71_4 => ?_) (fun c71_4 => ?_)
      · skip
        have c71_4 := bI_f c71_4
        refine lv_iconst (v := 1) hx hb dX2_writePage_87 (by decide) ?_
        have hP : va_P D vwCl [(lo, .inr (2, [.ref fo, .ref ta, .int (bI (on = true)), .int (po), .int (icC cu), .int (li), .int (op), .int (nm + 1)])), (fo, .inr (0, [.ref a0, .ref a1, .ref a2, .ref a3, .ref a4, .ref a5, .ref a6, .ref a7, .int (nI (B))])), (a0, .inl (cI, 32, .inl (upd kd a 1))), (a1, .inl (cI, 32, .inl (upd ky a (nI k)))), (a2, .inl (cI, 32, .inl (upd vl a x))), (a3, .inl (cI, 32, .inl (upd mk a nm))), (a4, .inl (cI, 8, .inl wr)), (a5, .inl (cI, 32, .inl (lvW lv nw a k))), (a6, .inl (cI, 16, .inl (upd nw k (nI a)))), (a7, .inl (cI, 8, .inl (upd fr (a / 4) (fr (a / 4) - 1)))), (ta, .inr (5, [.int (tp + 1), .int (tw9 + 1), .int (tc + bI (sw = true)), .int (te), .int (tk), .int (xa), .int (xe), .int (xs)]))] H := by
          rw [show (tc + bI (sw = true) : Int32) = tc from by rw [bI_0 c71_4]; simp]
          exact hP
        exact gp_retz hX hr hlocks hS hP (P := True) ((bI_1 trivial).symm) (Or.inr (⟨cc1, rfl, rfl⟩)) dX2_writePage_88
      · skip
        have c71_4 := bI_t c71_4
        refine lv_aload_n hx hb dX2_writePage_74 rfl (lv_at hl 0 rfl) ?_
        refine va_get (D := D) (ci := 2) (v := .ref ta) (C := RX2) (T := TX2) (N := 8) hx hb hts u6_X2 hown hK hP 0 rfl rfl 1 (by decide) (hts _ (m6 55 rfl)) (fun _ h9 => h9) rfl dX2_writePage_75 ?_
        refine lv_dup hx hb dX2_writePage_78 rfl ?_
        refine va_get (D := D) (ci := 5) (v := .int (tc)) (C := RX5) (T := TX5) (N := 8) hx hb hts u6_X5 hown hK hP 10 rfl rfl 2 (by decide) (hts _ (m6 161 rfl)) (fun _ h9 => h9) rfl dX2_writePage_79 ?_
        refine lv_iconst (v := 1) hx hb dX2_writePage_82 (by decide) ?_
        refine lv_iadd hx hb dX2_writePage_83 ?_
        refine va_put (D := D) (ci := 5) (v := .int (tc + 1)) (ty := .int) (C := RX5) (T := TX5) (N := 8) hx hb hts u6_X5 tyX5 tyX5_ok nmX5 hown hK hP hD hS 10 rfl rfl 2 (by decide) (hts _ (m6 161 rfl)) (fun _ h9 => h9) rfl (by decide +kernel) rfl rfl (Nat.le_of_ble_eq_true rfl) dX2_writePage_84 (fun H locs hP hD hS => ?_)
        have hP : va_P D vwCl [(lo, .inr (2, [.ref fo, .ref ta, .int (bI (on = true)), .int (po), .int (icC cu), .int (li), .int (op), .int (nm + 1)])), (fo, .inr (0, [.ref a0, .ref a1, .ref a2, .ref a3, .ref a4, .ref a5, .ref a6, .ref a7, .int (nI (B))])), (a0, .inl (cI, 32, .inl (upd kd a 1))), (a1, .inl (cI, 32, .inl (upd ky a (nI k)))), (a2, .inl (cI, 32, .inl (upd vl a x))), (a3, .inl (cI, 32, .inl (upd mk a nm))), (a4, .inl (cI, 8, .inl wr)), (a5, .inl (cI, 32, .inl (lvW lv nw a k))), (a6, .inl (cI, 16, .inl (upd nw k (nI a)))), (a7, .inl (cI, 8, .inl (upd fr (a / 4) (fr (a / 4) - 1)))), (ta, .inr (5, [.int (tp + 1), .int (tw9 + 1), .int (tc + 1), .int (te), .int (tk), .int (xa), .int (xe), .int (xs)]))] H := hP
        have hD : va_D A [(lo, .inr (2, [.ref fo, .ref ta, .int (bI (on = true)), .int (po), .int (icC cu), .int (li), .int (op), .int (nm + 1)])), (fo, .inr (0, [.ref a0, .ref a1, .ref a2, .ref a3, .ref a4, .ref a5, .ref a6, .ref a7, .int (nI (B))])), (a0, .inl (cI, 32, .inl (upd kd a 1))), (a1, .inl (cI, 32, .inl (upd ky a (nI k)))), (a2, .inl (cI, 32, .inl (upd vl a x))), (a3, .inl (cI, 32, .inl (upd mk a nm))), (a4, .inl (cI, 8, .inl wr)), (a5, .inl (cI, 32, .inl (lvW lv nw a k))), (a6, .inl (cI, 16, .inl (upd nw k (nI a)))), (a7, .inl (cI, 8, .inl (upd fr (a / 4) (fr (a / 4) - 1)))), (ta, .inr (5, [.int (tp + 1), .int (tw9 + 1), .int (tc + 1), .int (te), .int (tk), .int (xa), .int (xe), .int (xs)]))] := hD
        refine lv_iconst (v := 1) hx hb dX2_writePage_87 (by decide) ?_
        have hP : va_P D vwCl [(lo, .inr (2, [.ref fo, .ref ta, .int (bI (on = true)), .int (po), .int (icC cu), .int (li), .int (op), .int (nm + 1)])), (fo, .inr (0, [.ref a0, .ref a1, .ref a2, .ref a3, .ref a4, .ref a5, .ref a6, .ref a7, .int (nI (B))])), (a0, .inl (cI, 32, .inl (upd kd a 1))), (a1, .inl (cI, 32, .inl (upd ky a (nI k)))), (a2, .inl (cI, 32, .inl (upd vl a x))), (a3, .inl (cI, 32, .inl (upd mk a nm))), (a4, .inl (cI, 8, .inl wr)), (a5, .inl (cI, 32, .inl (lvW lv nw a k))), (a6, .inl (cI, 16, .inl (upd nw k (nI a)))), (a7, .inl (cI, 8, .inl (upd fr (a / 4) (fr (a / 4) - 1)))), (ta, .inr (5, [.int (tp + 1), .int (tw9 + 1), .int (tc + bI (sw = true)), .int (te), .int (tk), .int (xa), .int (xe), .int (xs)]))] H := by
          rw [show (tc + bI (sw = true) : Int32) = tc + 1 from by rw [bI_1 c71_4]]
          exact hP
        exact gp_retz hX hr hlocks hS hP (P := True) ((bI_1 trivial).symm) (Or.inr (⟨cc1, rfl, rfl⟩)) dX2_writePage_88
    · skip
      exact absurd c4_3 (by decide)
