theorem dX7_init_0 : decode cX7_init 0 = .ok (.aload_n 0, 1) := by decide +kernel
theorem dX7_init_1 : decode cX7_init 1 = .ok (.invokespecial 1, 3) := by decide +kernel
theorem dX7_init_4 : decode cX7_init 4 = .ok (.aload_n 0, 1) := by decide +kernel
theorem dX7_init_5 : decode cX7_init 5 = .ok (.bipush 90, 2) := by decide +kernel
theorem dX7_init_7 : decode cX7_init 7 = .ok (.newarray .int, 2) := by decide +kernel
theorem dX7_init_9 : decode cX7_init 9 = .ok (.putfield 7, 3) := by decide +kernel
theorem dX7_init_12 : decode cX7_init 12 = .ok (.aload_n 0, 1) := by decide +kernel
theorem dX7_init_13 : decode cX7_init 13 = .ok (.sipush 151, 3) := by decide +kernel
theorem dX7_init_16 : decode cX7_init 16 = .ok (.newarray .int, 2) := by decide +kernel
theorem dX7_init_18 : decode cX7_init 18 = .ok (.putfield 13, 3) := by decide +kernel
theorem dX7_init_21 : decode cX7_init 21 = .ok (.aload_n 0, 1) := by decide +kernel
theorem dX7_init_22 : decode cX7_init 22 = .ok (.sipush 151, 3) := by decide +kernel
theorem dX7_init_25 : decode cX7_init 25 = .ok (.newarray .int, 2) := by decide +kernel
theorem dX7_init_27 : decode cX7_init 27 = .ok (.putfield 16, 3) := by decide +kernel
theorem dX7_init_30 : decode cX7_init 30 = .ok (.aload_n 0, 1) := by decide +kernel
theorem dX7_init_31 : decode cX7_init 31 = .ok (.sipush 151, 3) := by decide +kernel
theorem dX7_init_34 : decode cX7_init 34 = .ok (.newarray .int, 2) := by decide +kernel
theorem dX7_init_36 : decode cX7_init 36 = .ok (.putfield 19, 3) := by decide +kernel
theorem dX7_init_39 : decode cX7_init 39 = .ok (.aload_n 0, 1) := by decide +kernel
theorem dX7_init_40 : decode cX7_init 40 = .ok (.sipush 2114, 3) := by decide +kernel
theorem dX7_init_43 : decode cX7_init 43 = .ok (.newarray .int, 2) := by decide +kernel
theorem dX7_init_45 : decode cX7_init 45 = .ok (.putfield 22, 3) := by decide +kernel
theorem dX7_init_48 : decode cX7_init 48 = .ok (.aload_n 0, 1) := by decide +kernel
theorem dX7_init_49 : decode cX7_init 49 = .ok (.sipush 302, 3) := by decide +kernel
theorem dX7_init_52 : decode cX7_init 52 = .ok (.newarray .int, 2) := by decide +kernel
theorem dX7_init_54 : decode cX7_init 54 = .ok (.putfield 25, 3) := by decide +kernel
theorem dX7_init_57 : decode cX7_init 57 = .ok (.aload_n 0, 1) := by decide +kernel
theorem dX7_init_58 : decode cX7_init 58 = .ok (.iconst 2, 1) := by decide +kernel
theorem dX7_init_59 : decode cX7_init 59 = .ok (.newarray .boolean, 2) := by decide +kernel
theorem dX7_init_61 : decode cX7_init 61 = .ok (.putfield 28, 3) := by decide +kernel
theorem dX7_init_64 : decode cX7_init 64 = .ok (.aload_n 0, 1) := by decide +kernel
theorem dX7_init_65 : decode cX7_init 65 = .ok (.iconst 4, 1) := by decide +kernel
theorem dX7_init_66 : decode cX7_init 66 = .ok (.newarray .int, 2) := by decide +kernel
theorem dX7_init_68 : decode cX7_init 68 = .ok (.putfield 32, 3) := by decide +kernel
theorem dX7_init_71 : decode cX7_init 71 = .ok (.aload_n 0, 1) := by decide +kernel
theorem dX7_init_72 : decode cX7_init 72 = .ok (.getfield 13, 3) := by decide +kernel
theorem dX7_init_75 : decode cX7_init 75 = .ok (.iconst 4, 1) := by decide +kernel
theorem dX7_init_76 : decode cX7_init 76 = .ok (.bipush 20, 2) := by decide +kernel
theorem dX7_init_78 : decode cX7_init 78 = .ok (.invokestatic 35, 3) := by decide +kernel
theorem dX7_init_81 : decode cX7_init 81 = .ok (.return_, 1) := by decide +kernel
set_option maxHeartbeats 4000000 in
set_option maxRecDepth 100000 in
theorem c7_init (l : Launch) (D : va_G) (cI cZ : ClassId) (h sz : Nat)  : GN l yX7_init cX7_init 1 W7 1 23 8 2965 D [(h, .inr (7, [.int (0), .null, .int (0), .int (0), .int (0), .int (0), .int (0), .null, .null, .null, .null, .int (0), .null, .null, .null]))] [(cI, .int), (cZ, .boolean)] [.ref h] sz (fun u9 : va_W => ∃ sc : Nat, ∃ nw : Nat, ∃ tr : Nat, ∃ lk : Nat, ∃ di : Nat, ∃ kp : Nat, ∃ ik : Nat, ∃ lv : Nat, u9 = [(h, .inr (7, [.int (0), .ref sc, .int (0), .int (0), .int (0), .int (0), .int (0), .ref nw, .ref tr, .ref lk, .ref di, .int (0), .ref kp, .ref ik, .ref lv])), (sc, .inl (cI, 90, .inl (fun _ => 0))), (nw, .inl (cI, 151, .inl (clR 4 20))), (tr, .inl (cI, 151, .inl (fun _ => 0))), (lk, .inl (cI, 151, .inl (fun _ => 0))), (di, .inl (cI, 2114, .inl (fun _ => 0))), (kp, .inl (cI, 302, .inl (fun _ => 0))), (ik, .inl (cZ, 2, .inl (fun _ => 0))), (lv, .inl (cI, 4, .inl (fun _ => 0)))]) := by
  refine gn_of RX7 (by decide) rfl (Nat.le_of_ble_eq_true rfl) ?_
  intro p e s m below meth c ls H A hX hr hlocks hname hK hP hD hS hA hl
  have hx := hX.1
  have hb := hX.2.1
  have hown := hX.2.2.2.1
  have hts := hX.2.2.2.2
  have hl : lv_has ls 1 [(0, .ref h)] := hl
  refine lv_aload_n hx hb dX7_init_0 rfl (lv_at hl 0 rfl) ?_
  refine gn_obj hX (m7 0 rfl) (m7 1 rfl) (m7 2 rfl) hl.1 dX7_init_1 (Nat.le_of_ble_eq_true rfl) (Nat.le_of_ble_eq_true rfl) ?_
  refine lv_aload_n hx hb dX7_init_4 rfl (lv_at hl 0 rfl) ?_
  refine lv_bipush (v := 90) hx hb dX7_init_5 (by decide) ?_
  refine ra_newi (n := 90) hX (m7 3 rfl) hK 0 rfl hP hD hS hA (by decide) (Nat.le_of_ble_eq_true rfl) (Nat.le_of_ble_eq_true rfl) dX7_init_7 (fun q7 H hP hD hS => ?_)
  have hP : va_P D vwCl [(h, .inr (7, [.int (0), .null, .int (0), .int (0), .int (0), .int (0), .int (0), .null, .null, .null, .null, .int (0), .null, .null, .null])), (q7, .inl (cI, 90, .inl (fun _ => 0)))] H := hP
  have hD : va_D A [(h, .inr (7, [.int (0), .null, .int (0), .int (0), .int (0), .int (0), .int (0), .null, .null, .null, .null, .int (0), .null, .null, .null])), (q7, .inl (cI, 90, .inl (fun _ => 0)))] := hD
  refine va_putF (D := D) (ci := 7) (v := .ref q7) (ty := (.array .int)) (C := RX7) (T := TX7) (N := 15) hx hb hts u7 tyX7 tyX7_ok nmX7 hown hK hP hD hS 0 rfl rfl 1 (by decide) (hts _ (m7 4 rfl)) (fun _ h9 => h9) rfl hname rfl (by decide +kernel) rfl rfl (Nat.le_of_ble_eq_true rfl) dX7_init_9 (fun H locs hP hD hS => ?_)
  have hP : va_P D vwCl [(h, .inr (7, [.int (0), .ref q7, .int (0), .int (0), .int (0), .int (0), .int (0), .null, .null, .null, .null, .int (0), .null, .null, .null])), (q7, .inl (cI, 90, .inl (fun _ => 0)))] H := hP
  have hD : va_D A [(h, .inr (7, [.int (0), .ref q7, .int (0), .int (0), .int (0), .int (0), .int (0), .null, .null, .null, .null, .int (0), .null, .null, .null])), (q7, .inl (cI, 90, .inl (fun _ => 0)))] := hD
  refine lv_aload_n hx hb dX7_init_12 rfl (lv_at hl 0 rfl) ?_
  refine lv_sipush (v := 151) hx hb dX7_init_13 (by decide) ?_
  refine ra_newi (n := 151) hX (m7 3 rfl) hK 0 rfl hP hD hS hA (by decide) (Nat.le_of_ble_eq_true rfl) (Nat.le_of_ble_eq_true rfl) dX7_init_16 (fun q16 H hP hD hS => ?_)
  have hP : va_P D vwCl [(h, .inr (7, [.int (0), .ref q7, .int (0), .int (0), .int (0), .int (0), .int (0), .null, .null, .null, .null, .int (0), .null, .null, .null])), (q7, .inl (cI, 90, .inl (fun _ => 0))), (q16, .inl (cI, 151, .inl (fun _ => 0)))] H := hP
  have hD : va_D A [(h, .inr (7, [.int (0), .ref q7, .int (0), .int (0), .int (0), .int (0), .int (0), .null, .null, .null, .null, .int (0), .null, .null, .null])), (q7, .inl (cI, 90, .inl (fun _ => 0))), (q16, .inl (cI, 151, .inl (fun _ => 0)))] := hD
  refine va_putF (D := D) (ci := 7) (v := .ref q16) (ty := (.array .int)) (C := RX7) (T := TX7) (N := 15) hx hb hts u7 tyX7 tyX7_ok nmX7 hown hK hP hD hS 0 rfl rfl 7 (by decide) (hts _ (m7 5 rfl)) (fun _ h9 => h9) rfl hname rfl (by decide +kernel) rfl rfl (Nat.le_of_ble_eq_true rfl) dX7_init_18 (fun H locs hP hD hS => ?_)
  have hP : va_P D vwCl [(h, .inr (7, [.int (0), .ref q7, .int (0), .int (0), .int (0), .int (0), .int (0), .ref q16, .null, .null, .null, .int (0), .null, .null, .null])), (q7, .inl (cI, 90, .inl (fun _ => 0))), (q16, .inl (cI, 151, .inl (fun _ => 0)))] H := hP
  have hD : va_D A [(h, .inr (7, [.int (0), .ref q7, .int (0), .int (0), .int (0), .int (0), .int (0), .ref q16, .null, .null, .null, .int (0), .null, .null, .null])), (q7, .inl (cI, 90, .inl (fun _ => 0))), (q16, .inl (cI, 151, .inl (fun _ => 0)))] := hD
  refine lv_aload_n hx hb dX7_init_21 rfl (lv_at hl 0 rfl) ?_
  refine lv_sipush (v := 151) hx hb dX7_init_22 (by decide) ?_
  refine ra_newi (n := 151) hX (m7 3 rfl) hK 0 rfl hP hD hS hA (by decide) (Nat.le_of_ble_eq_true rfl) (Nat.le_of_ble_eq_true rfl) dX7_init_25 (fun q25 H hP hD hS => ?_)
  have hP : va_P D vwCl [(h, .inr (7, [.int (0), .ref q7, .int (0), .int (0), .int (0), .int (0), .int (0), .ref q16, .null, .null, .null, .int (0), .null, .null, .null])), (q7, .inl (cI, 90, .inl (fun _ => 0))), (q16, .inl (cI, 151, .inl (fun _ => 0))), (q25, .inl (cI, 151, .inl (fun _ => 0)))] H := hP
  have hD : va_D A [(h, .inr (7, [.int (0), .ref q7, .int (0), .int (0), .int (0), .int (0), .int (0), .ref q16, .null, .null, .null, .int (0), .null, .null, .null])), (q7, .inl (cI, 90, .inl (fun _ => 0))), (q16, .inl (cI, 151, .inl (fun _ => 0))), (q25, .inl (cI, 151, .inl (fun _ => 0)))] := hD
  refine va_putF (D := D) (ci := 7) (v := .ref q25) (ty := (.array .int)) (C := RX7) (T := TX7) (N := 15) hx hb hts u7 tyX7 tyX7_ok nmX7 hown hK hP hD hS 0 rfl rfl 8 (by decide) (hts _ (m7 6 rfl)) (fun _ h9 => h9) rfl hname rfl (by decide +kernel) rfl rfl (Nat.le_of_ble_eq_true rfl) dX7_init_27 (fun H locs hP hD hS => ?_)
  have hP : va_P D vwCl [(h, .inr (7, [.int (0), .ref q7, .int (0), .int (0), .int (0), .int (0), .int (0), .ref q16, .ref q25, .null, .null, .int (0), .null, .null, .null])), (q7, .inl (cI, 90, .inl (fun _ => 0))), (q16, .inl (cI, 151, .inl (fun _ => 0))), (q25, .inl (cI, 151, .inl (fun _ => 0)))] H := hP
  have hD : va_D A [(h, .inr (7, [.int (0), .ref q7, .int (0), .int (0), .int (0), .int (0), .int (0), .ref q16, .ref q25, .null, .null, .int (0), .null, .null, .null])), (q7, .inl (cI, 90, .inl (fun _ => 0))), (q16, .inl (cI, 151, .inl (fun _ => 0))), (q25, .inl (cI, 151, .inl (fun _ => 0)))] := hD
  refine lv_aload_n hx hb dX7_init_30 rfl (lv_at hl 0 rfl) ?_
  refine lv_sipush (v := 151) hx hb dX7_init_31 (by decide) ?_
  refine ra_newi (n := 151) hX (m7 3 rfl) hK 0 rfl hP hD hS hA (by decide) (Nat.le_of_ble_eq_true rfl) (Nat.le_of_ble_eq_true rfl) dX7_init_34 (fun q34 H hP hD hS => ?_)
  have hP : va_P D vwCl [(h, .inr (7, [.int (0), .ref q7, .int (0), .int (0), .int (0), .int (0), .int (0), .ref q16, .ref q25, .null, .null, .int (0), .null, .null, .null])), (q7, .inl (cI, 90, .inl (fun _ => 0))), (q16, .inl (cI, 151, .inl (fun _ => 0))), (q25, .inl (cI, 151, .inl (fun _ => 0))), (q34, .inl (cI, 151, .inl (fun _ => 0)))] H := hP
  have hD : va_D A [(h, .inr (7, [.int (0), .ref q7, .int (0), .int (0), .int (0), .int (0), .int (0), .ref q16, .ref q25, .null, .null, .int (0), .null, .null, .null])), (q7, .inl (cI, 90, .inl (fun _ => 0))), (q16, .inl (cI, 151, .inl (fun _ => 0))), (q25, .inl (cI, 151, .inl (fun _ => 0))), (q34, .inl (cI, 151, .inl (fun _ => 0)))] := hD
  refine va_putF (D := D) (ci := 7) (v := .ref q34) (ty := (.array .int)) (C := RX7) (T := TX7) (N := 15) hx hb hts u7 tyX7 tyX7_ok nmX7 hown hK hP hD hS 0 rfl rfl 9 (by decide) (hts _ (m7 7 rfl)) (fun _ h9 => h9) rfl hname rfl (by decide +kernel) rfl rfl (Nat.le_of_ble_eq_true rfl) dX7_init_36 (fun H locs hP hD hS => ?_)
  have hP : va_P D vwCl [(h, .inr (7, [.int (0), .ref q7, .int (0), .int (0), .int (0), .int (0), .int (0), .ref q16, .ref q25, .ref q34, .null, .int (0), .null, .null, .null])), (q7, .inl (cI, 90, .inl (fun _ => 0))), (q16, .inl (cI, 151, .inl (fun _ => 0))), (q25, .inl (cI, 151, .inl (fun _ => 0))), (q34, .inl (cI, 151, .inl (fun _ => 0)))] H := hP
  have hD : va_D A [(h, .inr (7, [.int (0), .ref q7, .int (0), .int (0), .int (0), .int (0), .int (0), .ref q16, .ref q25, .ref q34, .null, .int (0), .null, .null, .null])), (q7, .inl (cI, 90, .inl (fun _ => 0))), (q16, .inl (cI, 151, .inl (fun _ => 0))), (q25, .inl (cI, 151, .inl (fun _ => 0))), (q34, .inl (cI, 151, .inl (fun _ => 0)))] := hD
  refine lv_aload_n hx hb dX7_init_39 rfl (lv_at hl 0 rfl) ?_
  refine lv_sipush (v := 2114) hx hb dX7_init_40 (by decide) ?_
  refine ra_newi (n := 2114) hX (m7 3 rfl) hK 0 rfl hP hD hS hA (by decide) (Nat.le_of_ble_eq_true rfl) (Nat.le_of_ble_eq_true rfl) dX7_init_43 (fun q43 H hP hD hS => ?_)
  have hP : va_P D vwCl [(h, .inr (7, [.int (0), .ref q7, .int (0), .int (0), .int (0), .int (0), .int (0), .ref q16, .ref q25, .ref q34, .null, .int (0), .null, .null, .null])), (q7, .inl (cI, 90, .inl (fun _ => 0))), (q16, .inl (cI, 151, .inl (fun _ => 0))), (q25, .inl (cI, 151, .inl (fun _ => 0))), (q34, .inl (cI, 151, .inl (fun _ => 0))), (q43, .inl (cI, 2114, .inl (fun _ => 0)))] H := hP
  have hD : va_D A [(h, .inr (7, [.int (0), .ref q7, .int (0), .int (0), .int (0), .int (0), .int (0), .ref q16, .ref q25, .ref q34, .null, .int (0), .null, .null, .null])), (q7, .inl (cI, 90, .inl (fun _ => 0))), (q16, .inl (cI, 151, .inl (fun _ => 0))), (q25, .inl (cI, 151, .inl (fun _ => 0))), (q34, .inl (cI, 151, .inl (fun _ => 0))), (q43, .inl (cI, 2114, .inl (fun _ => 0)))] := hD
  refine va_putF (D := D) (ci := 7) (v := .ref q43) (ty := (.array .int)) (C := RX7) (T := TX7) (N := 15) hx hb hts u7 tyX7 tyX7_ok nmX7 hown hK hP hD hS 0 rfl rfl 10 (by decide) (hts _ (m7 8 rfl)) (fun _ h9 => h9) rfl hname rfl (by decide +kernel) rfl rfl (Nat.le_of_ble_eq_true rfl) dX7_init_45 (fun H locs hP hD hS => ?_)
  have hP : va_P D vwCl [(h, .inr (7, [.int (0), .ref q7, .int (0), .int (0), .int (0), .int (0), .int (0), .ref q16, .ref q25, .ref q34, .ref q43, .int (0), .null, .null, .null])), (q7, .inl (cI, 90, .inl (fun _ => 0))), (q16, .inl (cI, 151, .inl (fun _ => 0))), (q25, .inl (cI, 151, .inl (fun _ => 0))), (q34, .inl (cI, 151, .inl (fun _ => 0))), (q43, .inl (cI, 2114, .inl (fun _ => 0)))] H := hP
  have hD : va_D A [(h, .inr (7, [.int (0), .ref q7, .int (0), .int (0), .int (0), .int (0), .int (0), .ref q16, .ref q25, .ref q34, .ref q43, .int (0), .null, .null, .null])), (q7, .inl (cI, 90, .inl (fun _ => 0))), (q16, .inl (cI, 151, .inl (fun _ => 0))), (q25, .inl (cI, 151, .inl (fun _ => 0))), (q34, .inl (cI, 151, .inl (fun _ => 0))), (q43, .inl (cI, 2114, .inl (fun _ => 0)))] := hD
  refine lv_aload_n hx hb dX7_init_48 rfl (lv_at hl 0 rfl) ?_
  refine lv_sipush (v := 302) hx hb dX7_init_49 (by decide) ?_
  refine ra_newi (n := 302) hX (m7 3 rfl) hK 0 rfl hP hD hS hA (by decide) (Nat.le_of_ble_eq_true rfl) (Nat.le_of_ble_eq_true rfl) dX7_init_52 (fun q52 H hP hD hS => ?_)
  have hP : va_P D vwCl [(h, .inr (7, [.int (0), .ref q7, .int (0), .int (0), .int (0), .int (0), .int (0), .ref q16, .ref q25, .ref q34, .ref q43, .int (0), .null, .null, .null])), (q7, .inl (cI, 90, .inl (fun _ => 0))), (q16, .inl (cI, 151, .inl (fun _ => 0))), (q25, .inl (cI, 151, .inl (fun _ => 0))), (q34, .inl (cI, 151, .inl (fun _ => 0))), (q43, .inl (cI, 2114, .inl (fun _ => 0))), (q52, .inl (cI, 302, .inl (fun _ => 0)))] H := hP
  have hD : va_D A [(h, .inr (7, [.int (0), .ref q7, .int (0), .int (0), .int (0), .int (0), .int (0), .ref q16, .ref q25, .ref q34, .ref q43, .int (0), .null, .null, .null])), (q7, .inl (cI, 90, .inl (fun _ => 0))), (q16, .inl (cI, 151, .inl (fun _ => 0))), (q25, .inl (cI, 151, .inl (fun _ => 0))), (q34, .inl (cI, 151, .inl (fun _ => 0))), (q43, .inl (cI, 2114, .inl (fun _ => 0))), (q52, .inl (cI, 302, .inl (fun _ => 0)))] := hD
  refine va_putF (D := D) (ci := 7) (v := .ref q52) (ty := (.array .int)) (C := RX7) (T := TX7) (N := 15) hx hb hts u7 tyX7 tyX7_ok nmX7 hown hK hP hD hS 0 rfl rfl 12 (by decide) (hts _ (m7 9 rfl)) (fun _ h9 => h9) rfl hname rfl (by decide +kernel) rfl rfl (Nat.le_of_ble_eq_true rfl) dX7_init_54 (fun H locs hP hD hS => ?_)
  have hP : va_P D vwCl [(h, .inr (7, [.int (0), .ref q7, .int (0), .int (0), .int (0), .int (0), .int (0), .ref q16, .ref q25, .ref q34, .ref q43, .int (0), .ref q52, .null, .null])), (q7, .inl (cI, 90, .inl (fun _ => 0))), (q16, .inl (cI, 151, .inl (fun _ => 0))), (q25, .inl (cI, 151, .inl (fun _ => 0))), (q34, .inl (cI, 151, .inl (fun _ => 0))), (q43, .inl (cI, 2114, .inl (fun _ => 0))), (q52, .inl (cI, 302, .inl (fun _ => 0)))] H := hP
  have hD : va_D A [(h, .inr (7, [.int (0), .ref q7, .int (0), .int (0), .int (0), .int (0), .int (0), .ref q16, .ref q25, .ref q34, .ref q43, .int (0), .ref q52, .null, .null])), (q7, .inl (cI, 90, .inl (fun _ => 0))), (q16, .inl (cI, 151, .inl (fun _ => 0))), (q25, .inl (cI, 151, .inl (fun _ => 0))), (q34, .inl (cI, 151, .inl (fun _ => 0))), (q43, .inl (cI, 2114, .inl (fun _ => 0))), (q52, .inl (cI, 302, .inl (fun _ => 0)))] := hD
  refine lv_aload_n hx hb dX7_init_57 rfl (lv_at hl 0 rfl) ?_
  refine lv_iconst (v := 2) hx hb dX7_init_58 (by decide) ?_
  refine ra_newz (n := 2) hX (m7 10 rfl) hK 1 rfl hP hD hS hA (by decide) (Nat.le_of_ble_eq_true rfl) (Nat.le_of_ble_eq_true rfl) dX7_init_59 (fun q59 H hP hD hS => ?_)
  have hP : va_P D vwCl [(h, .inr (7, [.int (0), .ref q7, .int (0), .int (0), .int (0), .int (0), .int (0), .ref q16, .ref q25, .ref q34, .ref q43, .int (0), .ref q52, .null, .null])), (q7, .inl (cI, 90, .inl (fun _ => 0))), (q16, .inl (cI, 151, .inl (fun _ => 0))), (q25, .inl (cI, 151, .inl (fun _ => 0))), (q34, .inl (cI, 151, .inl (fun _ => 0))), (q43, .inl (cI, 2114, .inl (fun _ => 0))), (q52, .inl (cI, 302, .inl (fun _ => 0))), (q59, .inl (cZ, 2, .inl (fun _ => 0)))] H := hP
  have hD : va_D A [(h, .inr (7, [.int (0), .ref q7, .int (0), .int (0), .int (0), .int (0), .int (0), .ref q16, .ref q25, .ref q34, .ref q43, .int (0), .ref q52, .null, .null])), (q7, .inl (cI, 90, .inl (fun _ => 0))), (q16, .inl (cI, 151, .inl (fun _ => 0))), (q25, .inl (cI, 151, .inl (fun _ => 0))), (q34, .inl (cI, 151, .inl (fun _ => 0))), (q43, .inl (cI, 2114, .inl (fun _ => 0))), (q52, .inl (cI, 302, .inl (fun _ => 0))), (q59, .inl (cZ, 2, .inl (fun _ => 0)))] := hD
  refine va_putF (D := D) (ci := 7) (v := .ref q59) (ty := (.array .boolean)) (C := RX7) (T := TX7) (N := 15) hx hb hts u7 tyX7 tyX7_ok nmX7 hown hK hP hD hS 0 rfl rfl 13 (by decide) (hts _ (m7 11 rfl)) (fun _ h9 => h9) rfl hname rfl (by decide +kernel) rfl rfl (Nat.le_of_ble_eq_true rfl) dX7_init_61 (fun H locs hP hD hS => ?_)
  have hP : va_P D vwCl [(h, .inr (7, [.int (0), .ref q7, .int (0), .int (0), .int (0), .int (0), .int (0), .ref q16, .ref q25, .ref q34, .ref q43, .int (0), .ref q52, .ref q59, .null])), (q7, .inl (cI, 90, .inl (fun _ => 0))), (q16, .inl (cI, 151, .inl (fun _ => 0))), (q25, .inl (cI, 151, .inl (fun _ => 0))), (q34, .inl (cI, 151, .inl (fun _ => 0))), (q43, .inl (cI, 2114, .inl (fun _ => 0))), (q52, .inl (cI, 302, .inl (fun _ => 0))), (q59, .inl (cZ, 2, .inl (fun _ => 0)))] H := hP
  have hD : va_D A [(h, .inr (7, [.int (0), .ref q7, .int (0), .int (0), .int (0), .int (0), .int (0), .ref q16, .ref q25, .ref q34, .ref q43, .int (0), .ref q52, .ref q59, .null])), (q7, .inl (cI, 90, .inl (fun _ => 0))), (q16, .inl (cI, 151, .inl (fun _ => 0))), (q25, .inl (cI, 151, .inl (fun _ => 0))), (q34, .inl (cI, 151, .inl (fun _ => 0))), (q43, .inl (cI, 2114, .inl (fun _ => 0))), (q52, .inl (cI, 302, .inl (fun _ => 0))), (q59, .inl (cZ, 2, .inl (fun _ => 0)))] := hD
  refine lv_aload_n hx hb dX7_init_64 rfl (lv_at hl 0 rfl) ?_
  refine lv_iconst (v := 4) hx hb dX7_init_65 (by decide) ?_
  refine ra_newi (n := 4) hX (m7 3 rfl) hK 0 rfl hP hD hS hA (by decide) (Nat.le_of_ble_eq_true rfl) (Nat.le_of_ble_eq_true rfl) dX7_init_66 (fun q66 H hP hD hS => ?_)
  have hP : va_P D vwCl [(h, .inr (7, [.int (0), .ref q7, .int (0), .int (0), .int (0), .int (0), .int (0), .ref q16, .ref q25, .ref q34, .ref q43, .int (0), .ref q52, .ref q59, .null])), (q7, .inl (cI, 90, .inl (fun _ => 0))), (q16, .inl (cI, 151, .inl (fun _ => 0))), (q25, .inl (cI, 151, .inl (fun _ => 0))), (q34, .inl (cI, 151, .inl (fun _ => 0))), (q43, .inl (cI, 2114, .inl (fun _ => 0))), (q52, .inl (cI, 302, .inl (fun _ => 0))), (q59, .inl (cZ, 2, .inl (fun _ => 0))), (q66, .inl (cI, 4, .inl (fun _ => 0)))] H := hP
  have hD : va_D A [(h, .inr (7, [.int (0), .ref q7, .int (0), .int (0), .int (0), .int (0), .int (0), .ref q16, .ref q25, .ref q34, .ref q43, .int (0), .ref q52, .ref q59, .null])), (q7, .inl (cI, 90, .inl (fun _ => 0))), (q16, .inl (cI, 151, .inl (fun _ => 0))), (q25, .inl (cI, 151, .inl (fun _ => 0))), (q34, .inl (cI, 151, .inl (fun _ => 0))), (q43, .inl (cI, 2114, .inl (fun _ => 0))), (q52, .inl (cI, 302, .inl (fun _ => 0))), (q59, .inl (cZ, 2, .inl (fun _ => 0))), (q66, .inl (cI, 4, .inl (fun _ => 0)))] := hD
  refine va_putF (D := D) (ci := 7) (v := .ref q66) (ty := (.array .int)) (C := RX7) (T := TX7) (N := 15) hx hb hts u7 tyX7 tyX7_ok nmX7 hown hK hP hD hS 0 rfl rfl 14 (by decide) (hts _ (m7 12 rfl)) (fun _ h9 => h9) rfl hname rfl (by decide +kernel) rfl rfl (Nat.le_of_ble_eq_true rfl) dX7_init_68 (fun H locs hP hD hS => ?_)
  have hP : va_P D vwCl [(h, .inr (7, [.int (0), .ref q7, .int (0), .int (0), .int (0), .int (0), .int (0), .ref q16, .ref q25, .ref q34, .ref q43, .int (0), .ref q52, .ref q59, .ref q66])), (q7, .inl (cI, 90, .inl (fun _ => 0))), (q16, .inl (cI, 151, .inl (fun _ => 0))), (q25, .inl (cI, 151, .inl (fun _ => 0))), (q34, .inl (cI, 151, .inl (fun _ => 0))), (q43, .inl (cI, 2114, .inl (fun _ => 0))), (q52, .inl (cI, 302, .inl (fun _ => 0))), (q59, .inl (cZ, 2, .inl (fun _ => 0))), (q66, .inl (cI, 4, .inl (fun _ => 0)))] H := hP
  have hD : va_D A [(h, .inr (7, [.int (0), .ref q7, .int (0), .int (0), .int (0), .int (0), .int (0), .ref q16, .ref q25, .ref q34, .ref q43, .int (0), .ref q52, .ref q59, .ref q66])), (q7, .inl (cI, 90, .inl (fun _ => 0))), (q16, .inl (cI, 151, .inl (fun _ => 0))), (q25, .inl (cI, 151, .inl (fun _ => 0))), (q34, .inl (cI, 151, .inl (fun _ => 0))), (q43, .inl (cI, 2114, .inl (fun _ => 0))), (q52, .inl (cI, 302, .inl (fun _ => 0))), (q59, .inl (cZ, 2, .inl (fun _ => 0))), (q66, .inl (cI, 4, .inl (fun _ => 0)))] := hD
  refine lv_aload_n hx hb dX7_init_71 rfl (lv_at hl 0 rfl) ?_
  refine va_get (D := D) (ci := 7) (v := .ref q16) (C := RX7) (T := TX7) (N := 15) hx hb hts u7 hown hK hP 0 rfl rfl 7 (by decide) (hts _ (m7 5 rfl)) (fun _ h9 => h9) rfl dX7_init_72 ?_
  refine lv_iconst (v := 4) hx hb dX7_init_75 (by decide) ?_
  refine lv_bipush (v := 20) hx hb dX7_init_76 (by decide) ?_
  refine gp_backv (gp_runS hX good7 i7 (c7_clean l D cI q16 (fun _ => 0) 4 20) q7_clean rfl (m7 13 rfl) (m7 14 rfl) ⟨Nat.le_of_ble_eq_true rfl, Nat.le_of_ble_eq_true rfl⟩ hK [0] rfl hP hD [2] (by decide) rfl hl.1 rfl (Nat.le_of_ble_eq_true rfl) dX7_init_78 ⟨Nat.le_of_ble_eq_true rfl, Nat.le_of_ble_eq_true rfl⟩) hP hD hS [2] rfl (fun u h => by rw [h]; simp only [List.map_cons, List.map_nil]) (fun u H locs hpost hP hD hS => ?_)
  subst hpost
  have hP : va_P D vwCl [(h, .inr (7, [.int (0), .ref q7, .int (0), .int (0), .int (0), .int (0), .int (0), .ref q16, .ref q25, .ref q34, .ref q43, .int (0), .ref q52, .ref q59, .ref q66])), (q7, .inl (cI, 90, .inl (fun _ => 0))), (q16, .inl (cI, 151, .inl (clR 4 20))), (q25, .inl (cI, 151, .inl (fun _ => 0))), (q34, .inl (cI, 151, .inl (fun _ => 0))), (q43, .inl (cI, 2114, .inl (fun _ => 0))), (q52, .inl (cI, 302, .inl (fun _ => 0))), (q59, .inl (cZ, 2, .inl (fun _ => 0))), (q66, .inl (cI, 4, .inl (fun _ => 0)))] H := hP
  have hD : va_D A [(h, .inr (7, [.int (0), .ref q7, .int (0), .int (0), .int (0), .int (0), .int (0), .ref q16, .ref q25, .ref q34, .ref q43, .int (0), .ref q52, .ref q59, .ref q66])), (q7, .inl (cI, 90, .inl (fun _ => 0))), (q16, .inl (cI, 151, .inl (clR 4 20))), (q25, .inl (cI, 151, .inl (fun _ => 0))), (q34, .inl (cI, 151, .inl (fun _ => 0))), (q43, .inl (cI, 2114, .inl (fun _ => 0))), (q52, .inl (cI, 302, .inl (fun _ => 0))), (q59, .inl (cZ, 2, .inl (fun _ => 0))), (q66, .inl (cI, 4, .inl (fun _ => 0)))] := hD
  exact gn_ret hX hr hlocks hS hP hD ⟨_, _, _, _, _, _, _, _, rfl⟩ (Nat.le_of_ble_eq_true rfl) (Nat.le_of_ble_eq_true rfl) dX7_init_81
