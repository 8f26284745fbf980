theorem dX1_forget_0 : decode cX1_forget 0 = .ok (.aload_n 0, 1) := by decide +kernel
theorem dX1_forget_1 : decode cX1_forget 1 = .ok (.iconst 0, 1) := by decide +kernel
theorem dX1_forget_2 : decode cX1_forget 2 = .ok (.putfield 16, 3) := by decide +kernel
theorem dX1_forget_5 : decode cX1_forget 5 = .ok (.return_, 1) := by decide +kernel
theorem q1_forget : CQ W6 yX1_forget cX1_forget 1 none 0 := ⟨(m6 333 rfl), by decide, by decide, by decide +kernel⟩
set_option maxHeartbeats 4000000 in
set_option maxRecDepth 100000 in
theorem c1_forget (l : Launch) (D : va_G) (ho sa : Nat) (nx ct : Nat)  : BQv l yX1_forget cX1_forget 1 W6 0 0 D [[(ho, .inr (1, [.ref sa, .int (nI (nx)), .int (nI (ct))]))]] [] [.ref ho] (fun u9 : List va_W => u9 = [[(ho, .inr (1, [.ref sa, .int (nI (nx)), .int (0)]))]]) := by
  refine gq_of RX1 (by decide) rfl (Nat.le_of_ble_eq_true rfl) ?_
  intro p e s m below meth c ls H hX hr hlocks hK hN hP hD hS hl
  generalize gp_A (bw [[(ho, .inr (1, [.ref sa, .int (nI (nx)), .int (nI (ct))]))]]) = A at hD hS ⊢
  have hx := hX.1
  have hb := hX.2.1
  have hown := hX.2.2.2.1
  have hts := hX.2.2.2.2
  have hl : lv_has ls 1 [(0, .ref ho)] := hl
  refine lv_aload_n hx hb dX1_forget_0 rfl (lv_at hl 0 rfl) ?_
  refine lv_iconst (v := 0) hx hb dX1_forget_1 (by decide) ?_
  refine va_put (D := D) (ci := 1) (v := .int (0)) (ty := .int) (C := RX1) (T := TX1) (N := 3) hx hb hts u6_X1 tyX1 tyX1_ok nmX1 hown hK hP hD hS 0 rfl rfl 2 (by decide) (hts _ (m6 92 rfl)) (fun _ h9 => h9) rfl (by decide +kernel) rfl rfl (Nat.le_of_ble_eq_true rfl) dX1_forget_2 (fun H locs hP hD hS => ?_)
  have hP : va_P D vwCl (bw [[(ho, .inr (1, [.ref sa, .int (nI (nx)), .int (0)]))]]) H := hP
  have hD : va_D A (bw [[(ho, .inr (1, [.ref sa, .int (nI (nx)), .int (0)]))]]) := hD
  exact bq_retv hX hr hlocks hS hP rfl dX1_forget_5
theorem dX1_remember_0 : decode cX1_remember 0 = .ok (.aload_n 0, 1) := by decide +kernel
theorem dX1_remember_1 : decode cX1_remember 1 = .ok (.getfield 20, 3) := by decide +kernel
theorem dX1_remember_4 : decode cX1_remember 4 = .ok (.ifCond .lt 37, 3) := by decide +kernel
theorem dX1_remember_7 : decode cX1_remember 7 = .ok (.aload_n 0, 1) := by decide +kernel
theorem dX1_remember_8 : decode cX1_remember 8 = .ok (.getfield 20, 3) := by decide +kernel
theorem dX1_remember_11 : decode cX1_remember 11 = .ok (.bipush 14, 2) := by decide +kernel
theorem dX1_remember_13 : decode cX1_remember 13 = .ok (.if_icmp .ge 28, 3) := by decide +kernel
theorem dX1_remember_16 : decode cX1_remember 16 = .ok (.aload_n 0, 1) := by decide +kernel
theorem dX1_remember_17 : decode cX1_remember 17 = .ok (.getfield 11, 3) := by decide +kernel
theorem dX1_remember_20 : decode cX1_remember 20 = .ok (.aload_n 0, 1) := by decide +kernel
theorem dX1_remember_21 : decode cX1_remember 21 = .ok (.getfield 20, 3) := by decide +kernel
theorem dX1_remember_24 : decode cX1_remember 24 = .ok (.aaload, 1) := by decide +kernel
theorem dX1_remember_25 : decode cX1_remember 25 = .ok (.ifnull 16, 3) := by decide +kernel
theorem dX1_remember_28 : decode cX1_remember 28 = .ok (.aload_n 0, 1) := by decide +kernel
theorem dX1_remember_29 : decode cX1_remember 29 = .ok (.getfield 11, 3) := by decide +kernel
theorem dX1_remember_32 : decode cX1_remember 32 = .ok (.aload_n 0, 1) := by decide +kernel
theorem dX1_remember_33 : decode cX1_remember 33 = .ok (.getfield 20, 3) := by decide +kernel
theorem dX1_remember_36 : decode cX1_remember 36 = .ok (.aaload, 1) := by decide +kernel
theorem dX1_remember_37 : decode cX1_remember 37 = .ok (.aload_n 1, 1) := by decide +kernel
theorem dX1_remember_38 : decode cX1_remember 38 = .ok (.invokevirtual 23, 3) := by decide +kernel
theorem dX1_remember_41 : decode cX1_remember 41 = .ok (.aload_n 0, 1) := by decide +kernel
theorem dX1_remember_42 : decode cX1_remember 42 = .ok (.aload_n 0, 1) := by decide +kernel
theorem dX1_remember_43 : decode cX1_remember 43 = .ok (.getfield 20, 3) := by decide +kernel
theorem dX1_remember_46 : decode cX1_remember 46 = .ok (.iconst 1, 1) := by decide +kernel
theorem dX1_remember_47 : decode cX1_remember 47 = .ok (.iadd, 1) := by decide +kernel
theorem dX1_remember_48 : decode cX1_remember 48 = .ok (.bipush 14, 2) := by decide +kernel
theorem dX1_remember_50 : decode cX1_remember 50 = .ok (.irem, 1) := by decide +kernel
theorem dX1_remember_51 : decode cX1_remember 51 = .ok (.putfield 20, 3) := by decide +kernel
theorem dX1_remember_54 : decode cX1_remember 54 = .ok (.aload_n 0, 1) := by decide +kernel
theorem dX1_remember_55 : decode cX1_remember 55 = .ok (.aload_n 0, 1) := by decide +kernel
theorem dX1_remember_56 : decode cX1_remember 56 = .ok (.getfield 16, 3) := by decide +kernel
theorem dX1_remember_59 : decode cX1_remember 59 = .ok (.iconst 1, 1) := by decide +kernel
theorem dX1_remember_60 : decode cX1_remember 60 = .ok (.iadd, 1) := by decide +kernel
theorem dX1_remember_61 : decode cX1_remember 61 = .ok (.bipush 14, 2) := by decide +kernel
theorem dX1_remember_63 : decode cX1_remember 63 = .ok (.invokestatic 27, 3) := by decide +kernel
theorem dX1_remember_66 : decode cX1_remember 66 = .ok (.putfield 16, 3) := by decide +kernel
theorem dX1_remember_69 : decode cX1_remember 69 = .ok (.return_, 1) := by decide +kernel
theorem q1_remember : CQ W6 yX1_remember cX1_remember 2 none 1 := ⟨(m6 370 rfl), by decide, by decide, by decide +kernel⟩
set_option maxHeartbeats 4000000 in
set_option maxRecDepth 100000 in
theorem c1_remember (l : Launch) (D : va_G) (cI cL : ClassId) (ho sa : Nat) (sf : Nat → Option Nat) (nx ct : Nat) (hnx : nx < 14) (hct : ct ≤ 14) (d1 d2 : Nat → Nat) (z1 z2 : LgS) (hB1 : z1.1.2 ≤ 8) (hB2 : z2.1.2 ≤ 8) (hsf : sf nx = some (d1 0)) : BQv l yX1_remember cX1_remember 2 W6 4 123 D [[(ho, .inr (1, [.ref sa, .int (nI (nx)), .int (nI (ct))]))], [(sa, .inl (cL, 14, .inr (.inr (.inr (.inr sf)))))], zL cI d1 z1, zL cI d2 z2] [(cI, .int), (cL, (.object "TornPageLog$Log"))] [.ref ho, .ref (d2 0)] (fun u9 : List va_W => u9 = [[(ho, .inr (1, [.ref sa, .int (nI ((nx + 1) % 14)), .int (nI (if 14 < ct + 1 then 14 else ct + 1))]))], [(sa, .inl (cL, 14, .inr (.inr (.inr (.inr sf)))))], zL cI d1 z2, zL cI d2 z2]) := by
  refine gq_of RX1 (by decide) rfl (Nat.le_of_ble_eq_true rfl) ?_
  intro p e s m below meth c ls H hX hr hlocks hK hN hP hD hS hl
  generalize gp_A (bw [[(ho, .inr (1, [.ref sa, .int (nI (nx)), .int (nI (ct))]))], [(sa, .inl (cL, 14, .inr (.inr (.inr (.inr sf)))))], zL cI d1 z1, zL cI d2 z2]) = A at hD hS ⊢
  have hx := hX.1
  have hb := hX.2.1
  have hown := hX.2.2.2.1
  have hts := hX.2.2.2.2
  have hl : lv_has ls 2 [(0, .ref ho), (1, .ref (d2 0))] := hl
  refine lv_aload_n hx hb dX1_remember_0 rfl (lv_at hl 0 rfl) ?_
  refine va_get (D := D) (ci := 1) (v := .int (nI (nx))) (C := RX1) (T := TX1) (N := 3) hx hb hts u6_X1 hown hK hP 0 rfl rfl 1 (by decide) (hts _ (m6 101 rfl)) (fun _ h9 => h9) rfl dX1_remember_1 ?_
  refine lv_if_lt (tgt := 41) hx hb dX1_remember_4 (by decide) (fun c4_1 => ?_) (fun c4_1 => ?_)
  · skip
    have c4_1 := cn_lt (a := nx) (b := 0) (by omega) (by omega) c4_1
    omega
  · skip
    have c4_1 := cn_nlt (a := nx) (b := 0) (by omega) (by omega) c4_1
    refine lv_aload_n hx hb dX1_remember_7 rfl (lv_at hl 0 rfl) ?_
    refine va_get (D := D) (ci := 1) (v := .int (nI (nx))) (C := RX1) (T := TX1) (N := 3) hx hb hts u6_X1 hown hK hP 0 rfl rfl 1 (by decide) (hts _ (m6 101 rfl)) (fun _ h9 => h9) rfl dX1_remember_8 ?_
    refine lv_bipush (v := 14) hx hb dX1_remember_11 (by decide) ?_
    refine lv_icmp_ge (tgt := 41) hx hb dX1_remember_13 (by decide) (fun c13_2 => ?_) (fun c13_2 => ?_)
    · skip
      have c13_2 := cn_le (a := 14) (b := nx) (by omega) (by omega) c13_2
      omega
    · skip
      have c13_2 := cn_nle (a := 14) (b := nx) (by omega) (by omega) c13_2
      refine lv_aload_n hx hb dX1_remember_16 rfl (lv_at hl 0 rfl) ?_
      refine va_get (D := D) (ci := 1) (v := .ref sa) (C := RX1) (T := TX1) (N := 3) hx hb hts u6_X1 hown hK hP 0 rfl rfl 0 (by decide) (hts _ (m6 87 rfl)) (fun _ h9 => h9) rfl dX1_remember_17 ?_
      refine lv_aload_n hx hb dX1_remember_20 rfl (lv_at hl 0 rfl) ?_
      refine va_get (D := D) (ci := 1) (v := .int (nI (nx))) (C := RX1) (T := TX1) (N := 3) hx hb hts u6_X1 hown hK hP 0 rfl rfl 1 (by decide) (hts _ (m6 101 rfl)) (fun _ h9 => h9) rfl dX1_remember_21 ?_
      refine ra_qld (i := nx) hx hb hK hP 1 1 rfl rfl (by omega) (by decide) hsf dX1_remember_24 ?_
      refine lv_ifnull hx hb dX1_remember_25 ?_
      refine lv_aload_n hx hb dX1_remember_28 rfl (lv_at hl 0 rfl) ?_
      refine va_get (D := D) (ci := 1) (v := .ref sa) (C := RX1) (T := TX1) (N := 3) hx hb hts u6_X1 hown hK hP 0 rfl rfl 0 (by decide) (hts _ (m6 87 rfl)) (fun _ h9 => h9) rfl dX1_remember_29 ?_
      refine lv_aload_n hx hb dX1_remember_32 rfl (lv_at hl 0 rfl) ?_
      refine va_get (D := D) (ci := 1) (v := .int (nI (nx))) (C := RX1) (T := TX1) (N := 3) hx hb hts u6_X1 hown hK hP 0 rfl rfl 1 (by decide) (hts _ (m6 101 rfl)) (fun _ h9 => h9) rfl dX1_remember_33 ?_
      refine ra_qld (i := nx) hx hb hK hP 1 1 rfl rfl (by omega) (by decide) hsf dX1_remember_36 ?_
      refine lv_aload_n hx hb dX1_remember_37 rfl (lv_at hl 1 rfl) ?_
      refine bq_backv (bq_runV hX good6 (m6 83 rfl) (b2_copyFrom l D cI d1 d2 z1 z2 hB1 hB2) q2_copyFrom rfl (m6 103 rfl) (m6 104 rfl) (m6 105 rfl) ⟨Nat.le_of_ble_eq_true rfl, Nat.le_of_ble_eq_true rfl⟩ hK hN [0] rfl hP hD [2, 3] (by decide) rfl (ci := 2) (q0 := 0) rfl rfl rfl hl.1 rfl (Nat.le_of_ble_eq_true rfl) dX1_remember_38 ⟨Nat.zero_le _, Nat.zero_le _⟩) hP hD hS [2, 3] rfl (fun u h => by rw [h]; rfl) (fun u H locs hpost hP hD hS => ?_)
      subst hpost
      have hP : va_P D vwCl (bw [[(ho, .inr (1, [.ref sa, .int (nI (nx)), .int (nI (ct))]))], [(sa, .inl (cL, 14, .inr (.inr (.inr (.inr sf)))))], zL cI d1 z2, zL cI d2 z2]) H := hP
      have hD : va_D A (bw [[(ho, .inr (1, [.ref sa, .int (nI (nx)), .int (nI (ct))]))], [(sa, .inl (cL, 14, .inr (.inr (.inr (.inr sf)))))], zL cI d1 z2, zL cI d2 z2]) := hD
      refine lv_aload_n hx hb dX1_remember_41 rfl (lv_at hl 0 rfl) ?_
      refine lv_aload_n hx hb dX1_remember_42 rfl (lv_at hl 0 rfl) ?_
      refine va_get (D := D) (ci := 1) (v := .int (nI (nx))) (C := RX1) (T := TX1) (N := 3) hx hb hts u6_X1 hown hK hP 0 rfl rfl 1 (by decide) (hts _ (m6 101 rfl)) (fun _ h9 => h9) rfl dX1_remember_43 ?_
      refine lv_iconst (v := 1) hx hb dX1_remember_46 (by decide) ?_
      refine lv_iadd hx hb dX1_remember_47 ?_
      refine lv_as (y := nI (nx + 1)) (nI_add (nx) (1)) ?_
      refine lv_bipush (v := 14) hx hb dX1_remember_48 (by decide) ?_
      refine lv_irem hx hb dX1_remember_50 (by decide) ?_
      refine lv_as (y := nI ((nx + 1) % 14)) (pk_rem (a := nx + 1) (d := 14) (by omega) (by decide) (by decide)) ?_
      refine va_put (D := D) (ci := 1) (v := .int (nI ((nx + 1) % 14))) (ty := .int) (C := RX1) (T := TX1) (N := 3) hx hb hts u6_X1 tyX1 tyX1_ok nmX1 hown hK hP hD hS 0 rfl rfl 1 (by decide) (hts _ (m6 101 rfl)) (fun _ h9 => h9) rfl (by decide +kernel) rfl rfl (Nat.le_of_ble_eq_true rfl) dX1_remember_51 (fun H locs hP hD hS => ?_)
      have hP : va_P D vwCl (bw [[(ho, .inr (1, [.ref sa, .int (nI ((nx + 1) % 14)), .int (nI (ct))]))], [(sa, .inl (cL, 14, .inr (.inr (.inr (.inr sf)))))], zL cI d1 z2, zL cI d2 z2]) H := hP
      have hD : va_D A (bw [[(ho, .inr (1, [.ref sa, .int (nI ((nx + 1) % 14)), .int (nI (ct))]))], [(sa, .inl (cL, 14, .inr (.inr (.inr (.inr sf)))))], zL cI d1 z2, zL cI d2 z2]) := hD
      refine lv_aload_n hx hb dX1_remember_54 rfl (lv_at hl 0 rfl) ?_
      refine lv_aload_n hx hb dX1_remember_55 rfl (lv_at hl 0 rfl) ?_
      refine va_get (D := D) (ci := 1) (v := .int (nI (ct))) (C := RX1) (T := TX1) (N := 3) hx hb hts u6_X1 hown hK hP 0 rfl rfl 2 (by decide) (hts _ (m6 92 rfl)) (fun _ h9 => h9) rfl dX1_remember_56 ?_
      refine lv_iconst (v := 1) hx hb dX1_remember_59 (by decide) ?_
      refine lv_iadd hx hb dX1_remember_60 ?_
      refine lv_as (y := nI (ct + 1)) (nI_add (ct) (1)) ?_
      refine lv_bipush (v := 14) hx hb dX1_remember_61 (by decide) ?_
      refine va_mmin hx hb (hX.2.2.1.trans hl.1.symm) hown (hts _ (m6 102 rfl)) (hts _ (m6 13 rfl)) (hts _ (m6 14 rfl)) (hts _ (m6 15 rfl)) (Nat.le_of_ble_eq_true rfl) (Nat.le_of_ble_eq_true rfl) (Nat.le_of_ble_eq_true rfl) (Nat.le_of_ble_eq_true rfl) dX1_remember_63 ?_
      refine lv_as (y := nI (if 14 < ct + 1 then 14 else ct + 1)) (mn_14 (by omega)) ?_
      refine va_put (D := D) (ci := 1) (v := .int (nI (if 14 < ct + 1 then 14 else ct + 1))) (ty := .int) (C := RX1) (T := TX1) (N := 3) hx hb hts u6_X1 tyX1 tyX1_ok nmX1 hown hK hP hD hS 0 rfl rfl 2 (by decide) (hts _ (m6 92 rfl)) (fun _ h9 => h9) rfl (by decide +kernel) rfl rfl (Nat.le_of_ble_eq_true rfl) dX1_remember_66 (fun H locs hP hD hS => ?_)
      have hP : va_P D vwCl (bw [[(ho, .inr (1, [.ref sa, .int (nI ((nx + 1) % 14)), .int (nI (if 14 < ct + 1 then 14 else ct + 1))]))], [(sa, .inl (cL, 14, .inr (.inr (.inr (.inr sf)))))], zL cI d1 z2, zL cI d2 z2]) H := hP
      have hD : va_D A (bw [[(ho, .inr (1, [.ref sa, .int (nI ((nx + 1) % 14)), .int (nI (if 14 < ct + 1 then 14 else ct + 1))]))], [(sa, .inl (cL, 14, .inr (.inr (.inr (.inr sf)))))], zL cI d1 z2, zL cI d2 z2]) := hD
      exact bq_retv hX hr hlocks hS hP rfl dX1_remember_69
theorem dX1_takeBack_0 : decode cX1_takeBack 0 = .ok (.aload_n 0, 1) := by decide +kernel
theorem dX1_takeBack_1 : decode cX1_takeBack 1 = .ok (.aload_n 0, 1) := by decide +kernel
theorem dX1_takeBack_2 : decode cX1_takeBack 2 = .ok (.getfield 20, 3) := by decide +kernel
theorem dX1_takeBack_5 : decode cX1_takeBack 5 = .ok (.bipush 14, 2) := by decide +kernel
theorem dX1_takeBack_7 : decode cX1_takeBack 7 = .ok (.iadd, 1) := by decide +kernel
theorem dX1_takeBack_8 : decode cX1_takeBack 8 = .ok (.iconst 1, 1) := by decide +kernel
theorem dX1_takeBack_9 : decode cX1_takeBack 9 = .ok (.isub, 1) := by decide +kernel
theorem dX1_takeBack_10 : decode cX1_takeBack 10 = .ok (.bipush 14, 2) := by decide +kernel
theorem dX1_takeBack_12 : decode cX1_takeBack 12 = .ok (.irem, 1) := by decide +kernel
theorem dX1_takeBack_13 : decode cX1_takeBack 13 = .ok (.putfield 20, 3) := by decide +kernel
theorem dX1_takeBack_16 : decode cX1_takeBack 16 = .ok (.aload_n 0, 1) := by decide +kernel
theorem dX1_takeBack_17 : decode cX1_takeBack 17 = .ok (.aload_n 0, 1) := by decide +kernel
theorem dX1_takeBack_18 : decode cX1_takeBack 18 = .ok (.getfield 16, 3) := by decide +kernel
theorem dX1_takeBack_21 : decode cX1_takeBack 21 = .ok (.iconst 1, 1) := by decide +kernel
theorem dX1_takeBack_22 : decode cX1_takeBack 22 = .ok (.isub, 1) := by decide +kernel
theorem dX1_takeBack_23 : decode cX1_takeBack 23 = .ok (.iconst 0, 1) := by decide +kernel
theorem dX1_takeBack_24 : decode cX1_takeBack 24 = .ok (.invokestatic 33, 3) := by decide +kernel
theorem dX1_takeBack_27 : decode cX1_takeBack 27 = .ok (.putfield 16, 3) := by decide +kernel
theorem dX1_takeBack_30 : decode cX1_takeBack 30 = .ok (.aload_n 0, 1) := by decide +kernel
theorem dX1_takeBack_31 : decode cX1_takeBack 31 = .ok (.getfield 20, 3) := by decide +kernel
theorem dX1_takeBack_34 : decode cX1_takeBack 34 = .ok (.ifCond .lt 37, 3) := by decide +kernel
theorem dX1_takeBack_37 : decode cX1_takeBack 37 = .ok (.aload_n 0, 1) := by decide +kernel
theorem dX1_takeBack_38 : decode cX1_takeBack 38 = .ok (.getfield 20, 3) := by decide +kernel
theorem dX1_takeBack_41 : decode cX1_takeBack 41 = .ok (.bipush 14, 2) := by decide +kernel
theorem dX1_takeBack_43 : decode cX1_takeBack 43 = .ok (.if_icmp .ge 28, 3) := by decide +kernel
theorem dX1_takeBack_46 : decode cX1_takeBack 46 = .ok (.aload_n 0, 1) := by decide +kernel
theorem dX1_takeBack_47 : decode cX1_takeBack 47 = .ok (.getfield 11, 3) := by decide +kernel
theorem dX1_takeBack_50 : decode cX1_takeBack 50 = .ok (.aload_n 0, 1) := by decide +kernel
theorem dX1_takeBack_51 : decode cX1_takeBack 51 = .ok (.getfield 20, 3) := by decide +kernel
theorem dX1_takeBack_54 : decode cX1_takeBack 54 = .ok (.aaload, 1) := by decide +kernel
theorem dX1_takeBack_55 : decode cX1_takeBack 55 = .ok (.ifnull 16, 3) := by decide +kernel
theorem dX1_takeBack_58 : decode cX1_takeBack 58 = .ok (.aload_n 1, 1) := by decide +kernel
theorem dX1_takeBack_59 : decode cX1_takeBack 59 = .ok (.aload_n 0, 1) := by decide +kernel
theorem dX1_takeBack_60 : decode cX1_takeBack 60 = .ok (.getfield 11, 3) := by decide +kernel
theorem dX1_takeBack_63 : decode cX1_takeBack 63 = .ok (.aload_n 0, 1) := by decide +kernel
theorem dX1_takeBack_64 : decode cX1_takeBack 64 = .ok (.getfield 20, 3) := by decide +kernel
theorem dX1_takeBack_67 : decode cX1_takeBack 67 = .ok (.aaload, 1) := by decide +kernel
theorem dX1_takeBack_68 : decode cX1_takeBack 68 = .ok (.invokevirtual 23, 3) := by decide +kernel
theorem dX1_takeBack_71 : decode cX1_takeBack 71 = .ok (.return_, 1) := by decide +kernel
theorem q1_takeBack : CQ W6 yX1_takeBack cX1_takeBack 2 none 1 := ⟨(m6 376 rfl), by decide, by decide, by decide +kernel⟩
set_option maxHeartbeats 4000000 in
set_option maxRecDepth 100000 in
theorem c1_takeBack (l : Launch) (D : va_G) (cI cL : ClassId) (ho sa : Nat) (sf : Nat → Option Nat) (nx ct : Nat) (hnx : nx < 14) (hc1 : 1 ≤ ct) (hct : ct ≤ 14) (d1 d2 : Nat → Nat) (z1 z2 : LgS) (hB1 : z1.1.2 ≤ 8) (hB2 : z2.1.2 ≤ 8) (hsf : sf ((nx + 14 - 1) % 14) = some (d1 0)) : BQv l yX1_takeBack cX1_takeBack 2 W6 4 123 D [[(ho, .inr (1, [.ref sa, .int (nI (nx)), .int (nI (ct))]))], [(sa, .inl (cL, 14, .inr (.inr (.inr (.inr sf)))))], zL cI d1 z1, zL cI d2 z2] [(cI, .int), (cL, (.object "TornPageLog$Log"))] [.ref ho, .ref (d2 0)] (fun u9 : List va_W => u9 = [[(ho, .inr (1, [.ref sa, .int (nI ((nx + 14 - 1) % 14)), .int (nI (ct - 1))]))], [(sa, .inl (cL, 14, .inr (.inr (.inr (.inr sf)))))], zL cI d1 z1, zL cI d2 z1]) := by
  refine gq_of RX1 (by decide) rfl (Nat.le_of_ble_eq_true rfl) ?_
  intro p e s m below meth c ls H hX hr hlocks hK hN hP hD hS hl
  generalize gp_A (bw [[(ho, .inr (1, [.ref sa, .int (nI (nx)), .int (nI (ct))]))], [(sa, .inl (cL, 14, .inr (.inr (.inr (.inr sf)))))], zL cI d1 z1, zL cI d2 z2]) = A at hD hS ⊢
  have hx := hX.1
  have hb := hX.2.1
  have hown := hX.2.2.2.1
  have hts := hX.2.2.2.2
  have hl : lv_has ls 2 [(0, .ref ho), (1, .ref (d2 0))] := hl
  refine lv_aload_n hx hb dX1_takeBack_0 rfl (lv_at hl 0 rfl) ?_
  refine lv_aload_n hx hb dX1_takeBack_1 rfl (lv_at hl 0 rfl) ?_
  refine va_get (D := D) (ci := 1) (v := .int (nI (nx))) (C := RX1) (T := TX1) (N := 3) hx hb hts u6_X1 hown hK hP 0 rfl rfl 1 (by decide) (hts _ (m6 101 rfl)) (fun _ h9 => h9) rfl dX1_takeBack_2 ?_
  refine lv_bipush (v := 14) hx hb dX1_takeBack_5 (by decide) ?_
  refine lv_iadd hx hb dX1_takeBack_7 ?_
  refine lv_as (y := nI (nx + 14)) (nI_add (nx) (14)) ?_
  refine lv_iconst (v := 1) hx hb dX1_takeBack_8 (by decide) ?_
  refine lv_isub hx hb dX1_takeBack_9 ?_
  refine lv_as (y := nI (nx + 14 - 1)) (pk_sub (a := nx + 14) (b := 1) (by omega)) ?_
  refine lv_bipush (v := 14) hx hb dX1_takeBack_10 (by decide) ?_
  refine lv_irem hx hb dX1_takeBack_12 (by decide) ?_
  refine lv_as (y := nI ((nx + 14 - 1) % 14)) (pk_rem (a := nx + 14 - 1) (d := 14) (by omega) (by decide) (by decide)) ?_
  refine va_put (D := D) (ci := 1) (v := .int (nI ((nx + 14 - 1) % 14))) (ty := .int) (C := RX1) (T := TX1) (N := 3) hx hb hts u6_X1 tyX1 tyX1_ok nmX1 hown hK hP hD hS 0 rfl rfl 1 (by decide) (hts _ (m6 101 rfl)) (fun _ h9 => h9) rfl (by decide +kernel) rfl rfl (Nat.le_of_ble_eq_true rfl) dX1_takeBack_13 (fun H locs hP hD hS => ?_)
  have hP : va_P D vwCl (bw [[(ho, .inr (1, [.ref sa, .int (nI ((nx + 14 - 1) % 14)), .int (nI (ct))]))], [(sa, .inl (cL, 14, .inr (.inr (.inr (.inr sf)))))], zL cI d1 z1, zL cI d2 z2]) H := hP
  have hD : va_D A (bw [[(ho, .inr (1, [.ref sa, .int (nI ((nx + 14 - 1) % 14)), .int (nI (ct))]))], [(sa, .inl (cL, 14, .inr (.inr (.inr (.inr sf)))))], zL cI d1 z1, zL cI d2 z2]) := hD
  refine lv_aload_n hx hb dX1_takeBack_16 rfl (lv_at hl 0 rfl) ?_
  refine lv_aload_n hx hb dX1_takeBack_17 rfl (lv_at hl 0 rfl) ?_
  refine va_get (D := D) (ci := 1) (v := .int (nI (ct))) (C := RX1) (T := TX1) (N := 3) hx hb hts u6_X1 hown hK hP 0 rfl rfl 2 (by decide) (hts _ (m6 92 rfl)) (fun _ h9 => h9) rfl dX1_takeBack_18 ?_
  refine lv_iconst (v := 1) hx hb dX1_takeBack_21 (by decide) ?_
  refine lv_isub hx hb dX1_takeBack_22 ?_
  refine lv_as (y := nI (ct - 1)) (pk_sub (a := ct) (b := 1) (by omega)) ?_
  refine lv_iconst (v := 0) hx hb dX1_takeBack_23 (by decide) ?_
  refine va_mmax hx hb (hX.2.2.1.trans hl.1.symm) hown (hts _ (m6 107 rfl)) (hts _ (m6 17 rfl)) (hts _ (m6 14 rfl)) (hts _ (m6 18 rfl)) (Nat.le_of_ble_eq_true rfl) (Nat.le_of_ble_eq_true rfl) (Nat.le_of_ble_eq_true rfl) (Nat.le_of_ble_eq_true rfl) dX1_takeBack_24 ?_
  refine lv_as (y := nI (ct - 1)) (mx_0 (by omega)) ?_
  refine va_put (D := D) (ci := 1) (v := .int (nI (ct - 1))) (ty := .int) (C := RX1) (T := TX1) (N := 3) hx hb hts u6_X1 tyX1 tyX1_ok nmX1 hown hK hP hD hS 0 rfl rfl 2 (by decide) (hts _ (m6 92 rfl)) (fun _ h9 => h9) rfl (by decide +kernel) rfl rfl (Nat.le_of_ble_eq_true rfl) dX1_takeBack_27 (fun H locs hP hD hS => ?_)
  have hP : va_P D vwCl (bw [[(ho, .inr (1, [.ref sa, .int (nI ((nx + 14 - 1) % 14)), .int (nI (ct - 1))]))], [(sa, .inl (cL, 14, .inr (.inr (.inr (.inr sf)))))], zL cI d1 z1, zL cI d2 z2]) H := hP
  have hD : va_D A (bw [[(ho, .inr (1, [.ref sa, .int (nI ((nx + 14 - 1) % 14)), .int (nI (ct - 1))]))], [(sa, .inl (cL, 14, .inr (.inr (.inr (.inr sf)))))], zL cI d1 z1, zL cI d2 z2]) := hD
  refine lv_aload_n hx hb dX1_takeBack_30 rfl (lv_at hl 0 rfl) ?_
  refine va_get (D := D) (ci := 1) (v := .int (nI ((nx + 14 - 1) % 14))) (C := RX1) (T := TX1) (N := 3) hx hb hts u6_X1 hown hK hP 0 rfl rfl 1 (by decide) (hts _ (m6 101 rfl)) (fun _ h9 => h9) rfl dX1_takeBack_31 ?_
  refine lv_if_lt (tgt := 71) hx hb dX1_takeBack_34 (by decide) (fun c34_1 => ?_) (fun c34_1 => ?_)
  · skip
    have c34_1 := cn_lt (a := (nx + 14 - 1) % 14) (b := 0) (by omega) (by omega) c34_1
    omega
  · skip
    have c34_1 := cn_nlt (a := (nx + 14 - 1) % 14) (b := 0) (by omega) (by omega) c34_1
    refine lv_aload_n hx hb dX1_takeBack_37 rfl (lv_at hl 0 rfl) ?_
    refine va_get (D := D) (ci := 1) (v := .int (nI ((nx + 14 - 1) % 14))) (C := RX1) (T := TX1) (N := 3) hx hb hts u6_X1 hown hK hP 0 rfl rfl 1 (by decide) (hts _ (m6 101 rfl)) (fun _ h9 => h9) rfl dX1_takeBack_38 ?_
    refine lv_bipush (v := 14) hx hb dX1_takeBack_41 (by decide) ?_
    refine lv_icmp_ge (tgt := 71) hx hb dX1_takeBack_43 (by decide) (fun c43_2 => ?_) (fun c43_2 => ?_)
    · skip
      have c43_2 := cn_le (a := 14) (b := (nx + 14 - 1) % 14) (by omega) (by omega) c43_2
      omega
    · skip
      have c43_2 := cn_nle (a := 14) (b := (nx + 14 - 1) % 14) (by omega) (by omega) c43_2
      refine lv_aload_n hx hb dX1_takeBack_46 rfl (lv_at hl 0 rfl) ?_
      refine va_get (D := D) (ci := 1) (v := .ref sa) (C := RX1) (T := TX1) (N := 3) hx hb hts u6_X1 hown hK hP 0 rfl rfl 0 (by decide) (hts _ (m6 87 rfl)) (fun _ h9 => h9) rfl dX1_takeBack_47 ?_
      refine lv_aload_n hx hb dX1_takeBack_50 rfl (lv_at hl 0 rfl) ?_
      refine va_get (D := D) (ci := 1) (v := .int (nI ((nx + 14 - 1) % 14))) (C := RX1) (T := TX1) (N := 3) hx hb hts u6_X1 hown hK hP 0 rfl rfl 1 (by decide) (hts _ (m6 101 rfl)) (fun _ h9 => h9) rfl dX1_takeBack_51 ?_
      refine ra_qld (i := (nx + 14 - 1) % 14) hx hb hK hP 1 1 rfl rfl (by omega) (by decide) hsf dX1_takeBack_54 ?_
      refine lv_ifnull hx hb dX1_takeBack_55 ?_
      refine lv_aload_n hx hb dX1_takeBack_58 rfl (lv_at hl 1 rfl) ?_
      refine lv_aload_n hx hb dX1_takeBack_59 rfl (lv_at hl 0 rfl) ?_
      refine va_get (D := D) (ci := 1) (v := .ref sa) (C := RX1) (T := TX1) (N := 3) hx hb hts u6_X1 hown hK hP 0 rfl rfl 0 (by decide) (hts _ (m6 87 rfl)) (fun _ h9 => h9) rfl dX1_takeBack_60 ?_
      refine lv_aload_n hx hb dX1_takeBack_63 rfl (lv_at hl 0 rfl) ?_
      refine va_get (D := D) (ci := 1) (v := .int (nI ((nx + 14 - 1) % 14))) (C := RX1) (T := TX1) (N := 3) hx hb hts u6_X1 hown hK hP 0 rfl rfl 1 (by decide) (hts _ (m6 101 rfl)) (fun _ h9 => h9) rfl dX1_takeBack_64 ?_
      refine ra_qld (i := (nx + 14 - 1) % 14) hx hb hK hP 1 1 rfl rfl (by omega) (by decide) hsf dX1_takeBack_67 ?_
      refine bq_backv (bq_runV hX good6 (m6 83 rfl) (b2_copyFrom l D cI d2 d1 z2 z1 hB2 hB1) q2_copyFrom rfl (m6 103 rfl) (m6 104 rfl) (m6 105 rfl) ⟨Nat.le_of_ble_eq_true rfl, Nat.le_of_ble_eq_true rfl⟩ hK hN [0] rfl hP hD [3, 2] (by decide) rfl (ci := 2) (q0 := 0) rfl rfl rfl hl.1 rfl (Nat.le_of_ble_eq_true rfl) dX1_takeBack_68 ⟨Nat.zero_le _, Nat.zero_le _⟩) hP hD hS [3, 2] rfl (fun u h => by rw [h]; rfl) (fun u H locs hpost hP hD hS => ?_)
      subst hpost
      have hP : va_P D vwCl (bw [[(ho, .inr (1, [.ref sa, .int (nI ((nx + 14 - 1) % 14)), .int (nI (ct - 1))]))], [(sa, .inl (cL, 14, .inr (.inr (.inr (.inr sf)))))], zL cI d1 z1, zL cI d2 z1]) H := hP
      have hD : va_D A (bw [[(ho, .inr (1, [.ref sa, .int (nI ((nx + 14 - 1) % 14)), .int (nI (ct - 1))]))], [(sa, .inl (cL, 14, .inr (.inr (.inr (.inr sf)))))], zL cI d1 z1, zL cI d2 z1]) := hD
      exact bq_retv hX hr hlocks hS hP rfl dX1_takeBack_71
theorem dX3_empty_0 : decode cX3_empty 0 = .ok (.iconst 0, 1) := by decide +kernel
theorem dX3_empty_1 : decode cX3_empty 1 = .ok (.istore_n 1, 1) := by decide +kernel
theorem dX3_empty_2 : decode cX3_empty 2 = .ok (.iload_n 1, 1) := by decide +kernel
theorem dX3_empty_3 : decode cX3_empty 3 = .ok (.iconst 2, 1) := by decide +kernel
theorem dX3_empty_4 : decode cX3_empty 4 = .ok (.if_icmp .ge 16, 3) := by decide +kernel
theorem dX3_empty_7 : decode cX3_empty 7 = .ok (.aload_n 0, 1) := by decide +kernel
theorem dX3_empty_8 : decode cX3_empty 8 = .ok (.getfield 17, 3) := by decide +kernel
theorem dX3_empty_11 : decode cX3_empty 11 = .ok (.iload_n 1, 1) := by decide +kernel
theorem dX3_empty_12 : decode cX3_empty 12 = .ok (.iconst 0, 1) := by decide +kernel
theorem dX3_empty_13 : decode cX3_empty 13 = .ok (.bastore, 1) := by decide +kernel
theorem dX3_empty_14 : decode cX3_empty 14 = .ok (.iinc 1 1, 3) := by decide +kernel
theorem dX3_empty_17 : decode cX3_empty 17 = .ok (.goto (-15), 3) := by decide +kernel
theorem dX3_empty_20 : decode cX3_empty 20 = .ok (.return_, 1) := by decide +kernel
theorem q3_empty : CQ W6 yX3_empty cX3_empty 2 none 0 := ⟨(m6 337 rfl), by decide, by decide, by decide +kernel⟩
set_option maxHeartbeats 4000000 in
set_option maxRecDepth 100000 in
theorem c3_empty (l : Launch) (D : va_G) (cZ : ClassId) (sl sb ua : Nat) (uf : Nat → Int32)  : BQv l yX3_empty cX3_empty 2 W6 0 0 D [[(sl, .inr (3, [.ref sb, .ref ua]))], [(ua, .inl (cZ, 2, .inl uf))]] [(cZ, .boolean)] [.ref sl] (fun u9 : List va_W => u9 = [[(sl, .inr (3, [.ref sb, .ref ua]))], [(ua, .inl (cZ, 2, .inl (upd (upd uf 0 0) 1 0)))]]) := by
  refine gq_of RX3 (by decide) rfl (Nat.le_of_ble_eq_true rfl) ?_
  intro p e s m below meth c ls H hX hr hlocks hK hN hP hD hS hl
  generalize gp_A (bw [[(sl, .inr (3, [.ref sb, .ref ua]))], [(ua, .inl (cZ, 2, .inl uf))]]) = A at hD hS ⊢
  have hx := hX.1
  have hb := hX.2.1
  have hown := hX.2.2.2.1
  have hts := hX.2.2.2.2
  have hl : lv_has ls 2 [(0, .ref sl)] := hl
  refine lv_iconst (v := 0) hx hb dX3_empty_0 (by decide) ?_
  refine lv_istore_n (lv' := [(1, .int (0)), (0, .ref sl)]) hx hb dX3_empty_1 rfl hl (by decide) rfl (fun ls hl => ?_)
  refine lv_iload_n hx hb dX3_empty_2 rfl (lv_at hl 0 rfl) ?_
  refine lv_iconst (v := 2) hx hb dX3_empty_3 (by decide) ?_
  refine lv_icmp_ge (tgt := 20) hx hb dX3_empty_4 (by decide) (fun c4_1 => ?_) (fun c4_1 => ?_)
  · skip
    exact absurd c4_1 (by decide)
  · skip
    refine lv_aload_n hx hb dX3_empty_7 rfl (lv_at hl 1 rfl) ?_
    refine va_get (D := D) (ci := 3) (v := .ref ua) (C := RX3) (T := TX3) (N := 2) hx hb hts u6_X3 hown hK hP 0 rfl rfl 1 (by decide) (hts _ (m6 211 rfl)) (fun _ h9 => h9) rfl dX3_empty_8 ?_
    refine lv_iload_n hx hb dX3_empty_11 rfl (lv_at hl 0 rfl) ?_
    refine lv_iconst (v := 0) hx hb dX3_empty_12 (by decide) ?_
    refine ra_zast (i := 0) hx hb hK hP hD hS 1 0 rfl rfl (by decide) (by omega) (by decide) dX3_empty_13 (fun H locs hP hD hS => ?_)
    have hP : va_P D vwCl (bw [[(sl, .inr (3, [.ref sb, .ref ua]))], [(ua, .inl (cZ, 2, .inl (upd uf 0 0)))]]) H := hP
    have hD : va_D A (bw [[(sl, .inr (3, [.ref sb, .ref ua]))], [(ua, .inl (cZ, 2, .inl (upd uf 0 0)))]]) := hD
    refine lv_iinc (v := 1) (lv' := [(1, .int (1)), (0, .ref sl)]) hx hb dX3_empty_14 hl (k := 0) rfl (by decide) (by decide) rfl (fun ls hl => ?_)
    refine lv_goto (tgt := 2) hx hb dX3_empty_17 (by decide) ?_
    refine lv_iload_n hx hb dX3_empty_2 rfl (lv_at hl 0 rfl) ?_
    refine lv_iconst (v := 2) hx hb dX3_empty_3 (by decide) ?_
    refine lv_icmp_ge (tgt := 20) hx hb dX3_empty_4 (by decide) (fun c4_2 => ?_) (fun c4_2 => ?_)
    · skip
      exact absurd c4_2 (by decide)
    · skip
      refine lv_aload_n hx hb dX3_empty_7 rfl (lv_at hl 1 rfl) ?_
      refine va_get (D := D) (ci := 3) (v := .ref ua) (C := RX3) (T := TX3) (N := 2) hx hb hts u6_X3 hown hK hP 0 rfl rfl 1 (by decide) (hts _ (m6 211 rfl)) (fun _ h9 => h9) rfl dX3_empty_8 ?_
      refine lv_iload_n hx hb dX3_empty_11 rfl (lv_at hl 0 rfl) ?_
      refine lv_iconst (v := 0) hx hb dX3_empty_12 (by decide) ?_
      refine ra_zast (i := 1) hx hb hK hP hD hS 1 0 rfl rfl (by decide) (by omega) (by decide) dX3_empty_13 (fun H locs hP hD hS => ?_)
      have hP : va_P D vwCl (bw [[(sl, .inr (3, [.ref sb, .ref ua]))], [(ua, .inl (cZ, 2, .inl (upd (upd uf 0 0) 1 0)))]]) H := hP
      have hD : va_D A (bw [[(sl, .inr (3, [.ref sb, .ref ua]))], [(ua, .inl (cZ, 2, .inl (upd (upd uf 0 0) 1 0)))]]) := hD
      refine lv_iinc (v := 2) (lv' := [(1, .int (2)), (0, .ref sl)]) hx hb dX3_empty_14 hl (k := 0) rfl (by decide) (by decide) rfl (fun ls hl => ?_)
      refine lv_goto (tgt := 2) hx hb dX3_empty_17 (by decide) ?_
      refine lv_iload_n hx hb dX3_empty_2 rfl (lv_at hl 0 rfl) ?_
      refine lv_iconst (v := 2) hx hb dX3_empty_3 (by decide) ?_
      refine lv_icmp_ge (tgt := 20) hx hb dX3_empty_4 (by decide) (fun c4_3 => ?_) (fun c4_3 => ?_)
      · skip
        exact bq_retv hX hr hlocks hS hP rfl dX3_empty_20
      · skip
        exact absurd c4_3 (by decide)
theorem dX3_isUsed_0 : decode cX3_isUsed 0 = .ok (.iload_n 1, 1) := by decide +kernel
theorem dX3_isUsed_1 : decode cX3_isUsed 1 = .ok (.ifCond .lt 21, 3) := by decide +kernel
theorem dX3_isUsed_4 : decode cX3_isUsed 4 = .ok (.iload_n 1, 1) := by decide +kernel
theorem dX3_isUsed_5 : decode cX3_isUsed 5 = .ok (.iconst 2, 1) := by decide +kernel
theorem dX3_isUsed_6 : decode cX3_isUsed 6 = .ok (.if_icmp .ge 16, 3) := by decide +kernel
theorem dX3_isUsed_9 : decode cX3_isUsed 9 = .ok (.aload_n 0, 1) := by decide +kernel
theorem dX3_isUsed_10 : decode cX3_isUsed 10 = .ok (.getfield 17, 3) := by decide +kernel
theorem dX3_isUsed_13 : decode cX3_isUsed 13 = .ok (.iload_n 1, 1) := by decide +kernel
theorem dX3_isUsed_14 : decode cX3_isUsed 14 = .ok (.baload, 1) := by decide +kernel
theorem dX3_isUsed_15 : decode cX3_isUsed 15 = .ok (.ifCond .eq 7, 3) := by decide +kernel
theorem dX3_isUsed_18 : decode cX3_isUsed 18 = .ok (.iconst 1, 1) := by decide +kernel
theorem dX3_isUsed_19 : decode cX3_isUsed 19 = .ok (.goto 4, 3) := by decide +kernel
theorem dX3_isUsed_22 : decode cX3_isUsed 22 = .ok (.iconst 0, 1) := by decide +kernel
theorem dX3_isUsed_23 : decode cX3_isUsed 23 = .ok (.ireturn, 1) := by decide +kernel
theorem q3_isUsed : CQ W6 yX3_isUsed cX3_isUsed 2 (some .boolean) 1 := ⟨(m6 398 rfl), by decide, by decide, by decide +kernel⟩
set_option maxHeartbeats 4000000 in
set_option maxRecDepth 100000 in
theorem c3_isUsed (l : Launch) (D : va_G) (cZ : ClassId) (sl sb ua : Nat) (uf : Nat → Int32) (k : Nat) (hk : k < 2) : RQ l yX3_isUsed cX3_isUsed 2 .boolean W6 0 0 D (bw [[(sl, .inr (3, [.ref sb, .ref ua]))], [(ua, .inl (cZ, 2, .inl uf))]]) [(cZ, .boolean)] [.ref sl, .int (nI (k))] (bI (¬ uf k = 0)) := by
  refine rq_of RX3 (by decide) rfl (Nat.le_of_ble_eq_true rfl) ?_
  intro p e s m below meth c ls hX hr hlocks hK hN hP hS hl
  have hx := hX.1
  have hb := hX.2.1
  have hown := hX.2.2.2.1
  have hts := hX.2.2.2.2
  have hl : lv_has ls 2 [(0, .ref sl), (1, .int (nI (k)))] := hl
  refine lv_iload_n hx hb dX3_isUsed_0 rfl (lv_at hl 1 rfl) ?_
  refine lv_if_lt (tgt := 22) hx hb dX3_isUsed_1 (by decide) (fun c1_1 => ?_) (fun c1_1 => ?_)
  · skip
    have c1_1 := cn_lt (a := k) (b := 0) (by omega) (by omega) c1_1
    omega
  · skip
    have c1_1 := cn_nlt (a := k) (b := 0) (by omega) (by omega) c1_1
    refine lv_iload_n hx hb dX3_isUsed_4 rfl (lv_at hl 1 rfl) ?_
    refine lv_iconst (v := 2) hx hb dX3_isUsed_5 (by decide) ?_
    refine lv_icmp_ge (tgt := 22) hx hb dX3_isUsed_6 (by decide) (fun c6_2 => ?_) (fun c6_2 => ?_)
    · skip
      have c6_2 := cn_le (a := 2) (b := k) (by omega) (by omega) c6_2
      omega
    · skip
      have c6_2 := cn_nle (a := 2) (b := k) (by omega) (by omega) c6_2
      refine lv_aload_n hx hb dX3_isUsed_9 rfl (lv_at hl 0 rfl) ?_
      refine va_get (D := D) (ci := 3) (v := .ref ua) (C := RX3) (T := TX3) (N := 2) hx hb hts u6_X3 hown hK hP 0 rfl rfl 1 (by decide) (hts _ (m6 211 rfl)) (fun _ h9 => h9) rfl dX3_isUsed_10 ?_
      refine lv_iload_n hx hb dX3_isUsed_13 rfl (lv_at hl 1 rfl) ?_
      refine ra_zald (i := k) hx hb hK hP 1 0 rfl rfl (by omega) (by decide) dX3_isUsed_14 ?_
      refine lv_if_eq (tgt := 22) hx hb dX3_isUsed_15 (by decide) (fun c15_3 => ?_) (fun c15_3 => ?_)
      · skip
        refine lv_iconst (v := 0) hx hb dX3_isUsed_22 (by decide) ?_
        exact rp_retz hX hr hlocks hS ((bI_0 (fun z => z c15_3)).symm) dX3_isUsed_23
      · skip
        refine lv_iconst (v := 1) hx hb dX3_isUsed_18 (by decide) ?_
        refine lv_goto (tgt := 23) hx hb dX3_isUsed_19 (by decide) ?_
        exact rp_retz hX hr hlocks hS ((bI_1 c15_3).symm) dX3_isUsed_23
theorem dX3_keep_0 : decode cX3_keep 0 = .ok (.iload_n 1, 1) := by decide +kernel
theorem dX3_keep_1 : decode cX3_keep 1 = .ok (.ifCond .lt 34, 3) := by decide +kernel
theorem dX3_keep_4 : decode cX3_keep 4 = .ok (.iload_n 1, 1) := by decide +kernel
theorem dX3_keep_5 : decode cX3_keep 5 = .ok (.iconst 2, 1) := by decide +kernel
theorem dX3_keep_6 : decode cX3_keep 6 = .ok (.if_icmp .ge 29, 3) := by decide +kernel
theorem dX3_keep_9 : decode cX3_keep 9 = .ok (.aload_n 0, 1) := by decide +kernel
theorem dX3_keep_10 : decode cX3_keep 10 = .ok (.getfield 11, 3) := by decide +kernel
theorem dX3_keep_13 : decode cX3_keep 13 = .ok (.iload_n 1, 1) := by decide +kernel
theorem dX3_keep_14 : decode cX3_keep 14 = .ok (.aaload, 1) := by decide +kernel
theorem dX3_keep_15 : decode cX3_keep 15 = .ok (.ifnull 20, 3) := by decide +kernel
theorem dX3_keep_18 : decode cX3_keep 18 = .ok (.aload_n 0, 1) := by decide +kernel
theorem dX3_keep_19 : decode cX3_keep 19 = .ok (.getfield 11, 3) := by decide +kernel
theorem dX3_keep_22 : decode cX3_keep 22 = .ok (.iload_n 1, 1) := by decide +kernel
theorem dX3_keep_23 : decode cX3_keep 23 = .ok (.aaload, 1) := by decide +kernel
theorem dX3_keep_24 : decode cX3_keep 24 = .ok (.aload_n 2, 1) := by decide +kernel
theorem dX3_keep_25 : decode cX3_keep 25 = .ok (.invokevirtual 22, 3) := by decide +kernel
theorem dX3_keep_28 : decode cX3_keep 28 = .ok (.aload_n 0, 1) := by decide +kernel
theorem dX3_keep_29 : decode cX3_keep 29 = .ok (.getfield 17, 3) := by decide +kernel
theorem dX3_keep_32 : decode cX3_keep 32 = .ok (.iload_n 1, 1) := by decide +kernel
theorem dX3_keep_33 : decode cX3_keep 33 = .ok (.iconst 1, 1) := by decide +kernel
theorem dX3_keep_34 : decode cX3_keep 34 = .ok (.bastore, 1) := by decide +kernel
theorem dX3_keep_35 : decode cX3_keep 35 = .ok (.return_, 1) := by decide +kernel
theorem q3_keep : CQ W6 yX3_keep cX3_keep 3 none 2 := ⟨(m6 394 rfl), by decide, by decide, by decide +kernel⟩
set_option maxHeartbeats 4000000 in
set_option maxRecDepth 100000 in
theorem c3_keep (l : Launch) (D : va_G) (cI cL cZ : ClassId) (sl sb ua : Nat) (sf : Nat → Option Nat) (uf : Nat → Int32) (k : Nat) (hk : k < 2) (d1 d2 : Nat → Nat) (z1 z2 : LgS) (hB1 : z1.1.2 ≤ 8) (hB2 : z2.1.2 ≤ 8) (hsf : sf k = some (d1 0)) : BQv l yX3_keep cX3_keep 3 W6 4 123 D [[(sl, .inr (3, [.ref sb, .ref ua]))], [(sb, .inl (cL, 2, .inr (.inr (.inr (.inr sf)))))], [(ua, .inl (cZ, 2, .inl uf))], zL cI d1 z1, zL cI d2 z2] [(cI, .int), (cL, (.object "TornPageLog$Log")), (cZ, .boolean)] [.ref sl, .int (nI (k)), .ref (d2 0)] (fun u9 : List va_W => u9 = [[(sl, .inr (3, [.ref sb, .ref ua]))], [(sb, .inl (cL, 2, .inr (.inr (.inr (.inr sf)))))], [(ua, .inl (cZ, 2, .inl (upd uf k 1)))], zL cI d1 z2, zL cI d2 z2]) := by
  refine gq_of RX3 (by decide) rfl (Nat.le_of_ble_eq_true rfl) ?_
  intro p e s m below meth c ls H hX hr hlocks hK hN hP hD hS hl
  generalize gp_A (bw [[(sl, .inr (3, [.ref sb, .ref ua]))], [(sb, .inl (cL, 2, .inr (.inr (.inr (.inr sf)))))], [(ua, .inl (cZ, 2, .inl uf))], zL cI d1 z1, zL cI d2 z2]) = A at hD hS ⊢
  have hx := hX.1
  have hb := hX.2.1
  have hown := hX.2.2.2.1
  have hts := hX.2.2.2.2
  have hl : lv_has ls 3 [(0, .ref sl), (1, .int (nI (k))), (2, .ref (d2 0))] := hl
  refine lv_iload_n hx hb dX3_keep_0 rfl (lv_at hl 1 rfl) ?_
  refine lv_if_lt (tgt := 35) hx hb dX3_keep_1 (by decide) (fun c1_1 => ?_) (fun c1_1 => ?_)
  · skip
    have c1_1 := cn_lt (a := k) (b := 0) (by omega) (by omega) c1_1
    omega
  · skip
    have c1_1 := cn_nlt (a := k) (b := 0) (by omega) (by omega) c1_1
    refine lv_iload_n hx hb dX3_keep_4 rfl (lv_at hl 1 rfl) ?_
    refine lv_iconst (v := 2) hx hb dX3_keep_5 (by decide) ?_
    refine lv_icmp_ge (tgt := 35) hx hb dX3_keep_6 (by decide) (fun c6_2 => ?_) (fun c6_2 => ?_)
    · skip
      have c6_2 := cn_le (a := 2) (b := k) (by omega) (by omega) c6_2
      omega
    · skip
      have c6_2 := cn_nle (a := 2) (b := k) (by omega) (by omega) c6_2
      refine lv_aload_n hx hb dX3_keep_9 rfl (lv_at hl 0 rfl) ?_
      refine va_get (D := D) (ci := 3) (v := .ref sb) (C := RX3) (T := TX3) (N := 2) hx hb hts u6_X3 hown hK hP 0 rfl rfl 0 (by decide) (hts _ (m6 209 rfl)) (fun _ h9 => h9) rfl dX3_keep_10 ?_
      refine lv_iload_n hx hb dX3_keep_13 rfl (lv_at hl 1 rfl) ?_
      refine ra_qld (i := k) hx hb hK hP 1 1 rfl rfl (by omega) (by decide) hsf dX3_keep_14 ?_
      refine lv_ifnull hx hb dX3_keep_15 ?_
      refine lv_aload_n hx hb dX3_keep_18 rfl (lv_at hl 0 rfl) ?_
      refine va_get (D := D) (ci := 3) (v := .ref sb) (C := RX3) (T := TX3) (N := 2) hx hb hts u6_X3 hown hK hP 0 rfl rfl 0 (by decide) (hts _ (m6 209 rfl)) (fun _ h9 => h9) rfl dX3_keep_19 ?_
      refine lv_iload_n hx hb dX3_keep_22 rfl (lv_at hl 1 rfl) ?_
      refine ra_qld (i := k) hx hb hK hP 1 1 rfl rfl (by omega) (by decide) hsf dX3_keep_23 ?_
      refine lv_aload_n hx hb dX3_keep_24 rfl (lv_at hl 2 rfl) ?_
      refine bq_backv (bq_runV hX good6 (m6 83 rfl) (b2_copyFrom l D cI d1 d2 z1 z2 hB1 hB2) q2_copyFrom rfl (m6 213 rfl) (m6 104 rfl) (m6 105 rfl) ⟨Nat.le_of_ble_eq_true rfl, Nat.le_of_ble_eq_true rfl⟩ hK hN [0] rfl hP hD [3, 4] (by decide) rfl (ci := 2) (q0 := 0) rfl rfl rfl hl.1 rfl (Nat.le_of_ble_eq_true rfl) dX3_keep_25 ⟨Nat.zero_le _, Nat.zero_le _⟩) hP hD hS [3, 4] rfl (fun u h => by rw [h]; rfl) (fun u H locs hpost hP hD hS => ?_)
      subst hpost
      have hP : va_P D vwCl (bw [[(sl, .inr (3, [.ref sb, .ref ua]))], [(sb, .inl (cL, 2, .inr (.inr (.inr (.inr sf)))))], [(ua, .inl (cZ, 2, .inl uf))], zL cI d1 z2, zL cI d2 z2]) H := hP
      have hD : va_D A (bw [[(sl, .inr (3, [.ref sb, .ref ua]))], [(sb, .inl (cL, 2, .inr (.inr (.inr (.inr sf)))))], [(ua, .inl (cZ, 2, .inl uf))], zL cI d1 z2, zL cI d2 z2]) := hD
      refine lv_aload_n hx hb dX3_keep_28 rfl (lv_at hl 0 rfl) ?_
      refine va_get (D := D) (ci := 3) (v := .ref ua) (C := RX3) (T := TX3) (N := 2) hx hb hts u6_X3 hown hK hP 0 rfl rfl 1 (by decide) (hts _ (m6 211 rfl)) (fun _ h9 => h9) rfl dX3_keep_29 ?_
      refine lv_iload_n hx hb dX3_keep_32 rfl (lv_at hl 1 rfl) ?_
      refine lv_iconst (v := 1) hx hb dX3_keep_33 (by decide) ?_
      refine ra_zast (i := k) hx hb hK hP hD hS 2 2 rfl rfl (by decide) (by omega) (by decide) dX3_keep_34 (fun H locs hP hD hS => ?_)
      have hP : va_P D vwCl (bw [[(sl, .inr (3, [.ref sb, .ref ua]))], [(sb, .inl (cL, 2, .inr (.inr (.inr (.inr sf)))))], [(ua, .inl (cZ, 2, .inl (upd uf k 1)))], zL cI d1 z2, zL cI d2 z2]) H := hP
      have hD : va_D A (bw [[(sl, .inr (3, [.ref sb, .ref ua]))], [(sb, .inl (cL, 2, .inr (.inr (.inr (.inr sf)))))], [(ua, .inl (cZ, 2, .inl (upd uf k 1)))], zL cI d1 z2, zL cI d2 z2]) := hD
      exact bq_retv hX hr hlocks hS hP rfl dX3_keep_35
theorem dX3_bringBack_0 : decode cX3_bringBack 0 = .ok (.iload_n 1, 1) := by decide +kernel
theorem dX3_bringBack_1 : decode cX3_bringBack 1 = .ok (.ifCond .lt 27, 3) := by decide +kernel
theorem dX3_bringBack_4 : decode cX3_bringBack 4 = .ok (.iload_n 1, 1) := by decide +kernel
theorem dX3_bringBack_5 : decode cX3_bringBack 5 = .ok (.iconst 2, 1) := by decide +kernel
theorem dX3_bringBack_6 : decode cX3_bringBack 6 = .ok (.if_icmp .ge 22, 3) := by decide +kernel
theorem dX3_bringBack_9 : decode cX3_bringBack 9 = .ok (.aload_n 0, 1) := by decide +kernel
theorem dX3_bringBack_10 : decode cX3_bringBack 10 = .ok (.getfield 11, 3) := by decide +kernel
theorem dX3_bringBack_13 : decode cX3_bringBack 13 = .ok (.iload_n 1, 1) := by decide +kernel
theorem dX3_bringBack_14 : decode cX3_bringBack 14 = .ok (.aaload, 1) := by decide +kernel
theorem dX3_bringBack_15 : decode cX3_bringBack 15 = .ok (.ifnull 13, 3) := by decide +kernel
theorem dX3_bringBack_18 : decode cX3_bringBack 18 = .ok (.aload_n 2, 1) := by decide +kernel
theorem dX3_bringBack_19 : decode cX3_bringBack 19 = .ok (.aload_n 0, 1) := by decide +kernel
theorem dX3_bringBack_20 : decode cX3_bringBack 20 = .ok (.getfield 11, 3) := by decide +kernel
theorem dX3_bringBack_23 : decode cX3_bringBack 23 = .ok (.iload_n 1, 1) := by decide +kernel
theorem dX3_bringBack_24 : decode cX3_bringBack 24 = .ok (.aaload, 1) := by decide +kernel
theorem dX3_bringBack_25 : decode cX3_bringBack 25 = .ok (.invokevirtual 22, 3) := by decide +kernel
theorem dX3_bringBack_28 : decode cX3_bringBack 28 = .ok (.return_, 1) := by decide +kernel
theorem q3_bringBack : CQ W6 yX3_bringBack cX3_bringBack 3 none 2 := ⟨(m6 402 rfl), by decide, by decide, by decide +kernel⟩
set_option maxHeartbeats 4000000 in
set_option maxRecDepth 100000 in
theorem c3_bringBack (l : Launch) (D : va_G) (cI cL cZ : ClassId) (sl sb ua : Nat) (sf : Nat → Option Nat) (uf : Nat → Int32) (k : Nat) (hk : k < 2) (d1 d2 : Nat → Nat) (z1 z2 : LgS) (hB1 : z1.1.2 ≤ 8) (hB2 : z2.1.2 ≤ 8) (hsf : sf k = some (d1 0)) : BQv l yX3_bringBack cX3_bringBack 3 W6 4 123 D [[(sl, .inr (3, [.ref sb, .ref ua]))], [(sb, .inl (cL, 2, .inr (.inr (.inr (.inr sf)))))], zL cI d1 z1, zL cI d2 z2] [(cI, .int), (cL, (.object "TornPageLog$Log"))] [.ref sl, .int (nI (k)), .ref (d2 0)] (fun u9 : List va_W => u9 = [[(sl, .inr (3, [.ref sb, .ref ua]))], [(sb, .inl (cL, 2, .inr (.inr (.inr (.inr sf)))))], zL cI d1 z1, zL cI d2 z1]) := by
  refine gq_of RX3 (by decide) rfl (Nat.le_of_ble_eq_true rfl) ?_
  intro p e s m below meth c ls H hX hr hlocks hK hN hP hD hS hl
  generalize gp_A (bw [[(sl, .inr (3, [.ref sb, .ref ua]))], [(sb, .inl (cL, 2, .inr (.inr (.inr (.inr sf)))))], zL cI d1 z1, zL cI d2 z2]) = A at hD hS ⊢
  have hx := hX.1
  have hb := hX.2.1
  have hown := hX.2.2.2.1
  have hts := hX.2.2.2.2
  have hl : lv_has ls 3 [(0, .ref sl), (1, .int (nI (k))), (2, .ref (d2 0))] := hl
  refine lv_iload_n hx hb dX3_bringBack_0 rfl (lv_at hl 1 rfl) ?_
  refine lv_if_lt (tgt := 28) hx hb dX3_bringBack_1 (by decide) (fun c1_1 => ?_) (fun c1_1 => ?_)
  · skip
    have c1_1 := cn_lt (a := k) (b := 0) (by omega) (by omega) c1_1
    omega
  · skip
    have c1_1 := cn_nlt (a := k) (b := 0) (by omega) (by omega) c1_1
    refine lv_iload_n hx hb dX3_bringBack_4 rfl (lv_at hl 1 rfl) ?_
    refine lv_iconst (v := 2) hx hb dX3_bringBack_5 (by decide) ?_
    refine lv_icmp_ge (tgt := 28) hx hb dX3_bringBack_6 (by decide) (fun c6_2 => ?_) (fun c6_2 => ?_)
    · skip
      have c6_2 := cn_le (a := 2) (b := k) (by omega) (by omega) c6_2
      omega
    · skip
      have c6_2 := cn_nle (a := 2) (b := k) (by omega) (by omega) c6_2
      refine lv_aload_n hx hb dX3_bringBack_9 rfl (lv_at hl 0 rfl) ?_
      refine va_get (D := D) (ci := 3) (v := .ref sb) (C := RX3) (T := TX3) (N := 2) hx hb hts u6_X3 hown hK hP 0 rfl rfl 0 (by decide) (hts _ (m6 209 rfl)) (fun _ h9 => h9) rfl dX3_bringBack_10 ?_
      refine lv_iload_n hx hb dX3_bringBack_13 rfl (lv_at hl 1 rfl) ?_
      refine ra_qld (i := k) hx hb hK hP 1 1 rfl rfl (by omega) (by decide) hsf dX3_bringBack_14 ?_
      refine lv_ifnull hx hb dX3_bringBack_15 ?_
      refine lv_aload_n hx hb dX3_bringBack_18 rfl (lv_at hl 2 rfl) ?_
      refine lv_aload_n hx hb dX3_bringBack_19 rfl (lv_at hl 0 rfl) ?_
      refine va_get (D := D) (ci := 3) (v := .ref sb) (C := RX3) (T := TX3) (N := 2) hx hb hts u6_X3 hown hK hP 0 rfl rfl 0 (by decide) (hts _ (m6 209 rfl)) (fun _ h9 => h9) rfl dX3_bringBack_20 ?_
      refine lv_iload_n hx hb dX3_bringBack_23 rfl (lv_at hl 1 rfl) ?_
      refine ra_qld (i := k) hx hb hK hP 1 1 rfl rfl (by omega) (by decide) hsf dX3_bringBack_24 ?_
      refine bq_backv (bq_runV hX good6 (m6 83 rfl) (b2_copyFrom l D cI d2 d1 z2 z1 hB2 hB1) q2_copyFrom rfl (m6 213 rfl) (m6 104 rfl) (m6 105 rfl) ⟨Nat.le_of_ble_eq_true rfl, Nat.le_of_ble_eq_true rfl⟩ hK hN [0] rfl hP hD [3, 2] (by decide) rfl (ci := 2) (q0 := 0) rfl rfl rfl hl.1 rfl (Nat.le_of_ble_eq_true rfl) dX3_bringBack_25 ⟨Nat.zero_le _, Nat.zero_le _⟩) hP hD hS [3, 2] rfl (fun u h => by rw [h]; rfl) (fun u H locs hpost hP hD hS => ?_)
      subst hpost
      have hP : va_P D vwCl (bw [[(sl, .inr (3, [.ref sb, .ref ua]))], [(sb, .inl (cL, 2, .inr (.inr (.inr (.inr sf)))))], zL cI d1 z1, zL cI d2 z1]) H := hP
      have hD : va_D A (bw [[(sl, .inr (3, [.ref sb, .ref ua]))], [(sb, .inl (cL, 2, .inr (.inr (.inr (.inr sf)))))], zL cI d1 z1, zL cI d2 z1]) := hD
      exact bq_retv hX hr hlocks hS hP rfl dX3_bringBack_28
