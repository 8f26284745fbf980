theorem dX7_isCut_0 : decode cX7_isCut 0 = .ok (.aload_n 0, 1) := by decide +kernel
theorem dX7_isCut_1 : decode cX7_isCut 1 = .ok (.bipush 7, 2) := by decide +kernel
theorem dX7_isCut_3 : decode cX7_isCut 3 = .ok (.dup2, 1) := by decide +kernel
theorem dX7_isCut_4 : decode cX7_isCut 4 = .ok (.iaload, 1) := by decide +kernel
theorem dX7_isCut_5 : decode cX7_isCut 5 = .ok (.iconst 1, 1) := by decide +kernel
theorem dX7_isCut_6 : decode cX7_isCut 6 = .ok (.iadd, 1) := by decide +kernel
theorem dX7_isCut_7 : decode cX7_isCut 7 = .ok (.iastore, 1) := by decide +kernel
theorem dX7_isCut_8 : decode cX7_isCut 8 = .ok (.aload_n 0, 1) := by decide +kernel
theorem dX7_isCut_9 : decode cX7_isCut 9 = .ok (.iconst 5, 1) := by decide +kernel
theorem dX7_isCut_10 : decode cX7_isCut 10 = .ok (.iaload, 1) := by decide +kernel
theorem dX7_isCut_11 : decode cX7_isCut 11 = .ok (.ifCond .ne 5, 3) := by decide +kernel
theorem dX7_isCut_14 : decode cX7_isCut 14 = .ok (.iconst 0, 1) := by decide +kernel
theorem dX7_isCut_15 : decode cX7_isCut 15 = .ok (.ireturn, 1) := by decide +kernel
theorem dX7_isCut_16 : decode cX7_isCut 16 = .ok (.aload_n 0, 1) := by decide +kernel
theorem dX7_isCut_17 : decode cX7_isCut 17 = .ok (.iconst 5, 1) := by decide +kernel
theorem dX7_isCut_18 : decode cX7_isCut 18 = .ok (.dup2, 1) := by decide +kernel
theorem dX7_isCut_19 : decode cX7_isCut 19 = .ok (.iaload, 1) := by decide +kernel
theorem dX7_isCut_20 : decode cX7_isCut 20 = .ok (.iconst 1, 1) := by decide +kernel
theorem dX7_isCut_21 : decode cX7_isCut 21 = .ok (.isub, 1) := by decide +kernel
theorem dX7_isCut_22 : decode cX7_isCut 22 = .ok (.iastore, 1) := by decide +kernel
theorem dX7_isCut_23 : decode cX7_isCut 23 = .ok (.aload_n 0, 1) := by decide +kernel
theorem dX7_isCut_24 : decode cX7_isCut 24 = .ok (.iconst 5, 1) := by decide +kernel
theorem dX7_isCut_25 : decode cX7_isCut 25 = .ok (.iaload, 1) := by decide +kernel
theorem dX7_isCut_26 : decode cX7_isCut 26 = .ok (.ifCond .le 5, 3) := by decide +kernel
theorem dX7_isCut_29 : decode cX7_isCut 29 = .ok (.iconst 0, 1) := by decide +kernel
theorem dX7_isCut_30 : decode cX7_isCut 30 = .ok (.ireturn, 1) := by decide +kernel
theorem dX7_isCut_31 : decode cX7_isCut 31 = .ok (.aload_n 0, 1) := by decide +kernel
theorem dX7_isCut_32 : decode cX7_isCut 32 = .ok (.iconst 2, 1) := by decide +kernel
theorem dX7_isCut_33 : decode cX7_isCut 33 = .ok (.iconst 0, 1) := by decide +kernel
theorem dX7_isCut_34 : decode cX7_isCut 34 = .ok (.iastore, 1) := by decide +kernel
theorem dX7_isCut_35 : decode cX7_isCut 35 = .ok (.aload_n 0, 1) := by decide +kernel
theorem dX7_isCut_36 : decode cX7_isCut 36 = .ok (.iconst 3, 1) := by decide +kernel
theorem dX7_isCut_37 : decode cX7_isCut 37 = .ok (.bipush (-9), 2) := by decide +kernel
theorem dX7_isCut_39 : decode cX7_isCut 39 = .ok (.iastore, 1) := by decide +kernel
theorem dX7_isCut_40 : decode cX7_isCut 40 = .ok (.aload_n 0, 1) := by decide +kernel
theorem dX7_isCut_41 : decode cX7_isCut 41 = .ok (.bipush 11, 2) := by decide +kernel
theorem dX7_isCut_43 : decode cX7_isCut 43 = .ok (.dup2, 1) := by decide +kernel
theorem dX7_isCut_44 : decode cX7_isCut 44 = .ok (.iaload, 1) := by decide +kernel
theorem dX7_isCut_45 : decode cX7_isCut 45 = .ok (.iconst 1, 1) := by decide +kernel
theorem dX7_isCut_46 : decode cX7_isCut 46 = .ok (.iadd, 1) := by decide +kernel
theorem dX7_isCut_47 : decode cX7_isCut 47 = .ok (.iastore, 1) := by decide +kernel
theorem dX7_isCut_48 : decode cX7_isCut 48 = .ok (.aload_n 0, 1) := by decide +kernel
theorem dX7_isCut_49 : decode cX7_isCut 49 = .ok (.bipush 12, 2) := by decide +kernel
theorem dX7_isCut_51 : decode cX7_isCut 51 = .ok (.iload_n 1, 1) := by decide +kernel
theorem dX7_isCut_52 : decode cX7_isCut 52 = .ok (.iastore, 1) := by decide +kernel
theorem dX7_isCut_53 : decode cX7_isCut 53 = .ok (.aload_n 0, 1) := by decide +kernel
theorem dX7_isCut_54 : decode cX7_isCut 54 = .ok (.bipush 13, 2) := by decide +kernel
theorem dX7_isCut_56 : decode cX7_isCut 56 = .ok (.iload_n 2, 1) := by decide +kernel
theorem dX7_isCut_57 : decode cX7_isCut 57 = .ok (.iastore, 1) := by decide +kernel
theorem dX7_isCut_58 : decode cX7_isCut 58 = .ok (.aload_n 0, 1) := by decide +kernel
theorem dX7_isCut_59 : decode cX7_isCut 59 = .ok (.bipush 14, 2) := by decide +kernel
theorem dX7_isCut_61 : decode cX7_isCut 61 = .ok (.iload_n 3, 1) := by decide +kernel
theorem dX7_isCut_62 : decode cX7_isCut 62 = .ok (.ifCond .eq 7, 3) := by decide +kernel
theorem dX7_isCut_65 : decode cX7_isCut 65 = .ok (.iconst 1, 1) := by decide +kernel
theorem dX7_isCut_66 : decode cX7_isCut 66 = .ok (.goto 4, 3) := by decide +kernel
theorem dX7_isCut_69 : decode cX7_isCut 69 = .ok (.iconst 0, 1) := by decide +kernel
theorem dX7_isCut_70 : decode cX7_isCut 70 = .ok (.iastore, 1) := by decide +kernel
theorem dX7_isCut_71 : decode cX7_isCut 71 = .ok (.iconst 1, 1) := by decide +kernel
theorem dX7_isCut_72 : decode cX7_isCut 72 = .ok (.ireturn, 1) := by decide +kernel
theorem q7_isCut : CQ W7 yX7_isCut cX7_isCut 4 (some .boolean) 4 := ⟨(m7 73 rfl), by decide, by decide, by decide +kernel⟩
set_option maxHeartbeats 4000000 in
set_option maxRecDepth 100000 in
theorem c7_isCut (l : Launch) (D : va_G) (cI : ClassId) (r : Nat) (f : Nat → Int32) (wh kd : Int32) (sw : Bool) : GPi l yX7_isCut cX7_isCut 4 .boolean W7 0 0 D [(r, .inl (cI, 151, .inl f))] [(cI, .int)] [.ref r, .int (wh), .int (kd), .int (bI (sw = true))] (fun (r9 : Int32) (u9 : va_W) => r9 = bI (cutP f) ∧ u9 = [(r, .inl (cI, 151, .inl (cutR f wh kd sw)))]) := by
  refine gp_of RX7 (by decide) rfl (Nat.le_of_ble_eq_true rfl) ?_
  intro p e s m below meth c ls hX hr hlocks hK hP hD hS hl
  generalize gp_A [(r, .inl (cI, 151, .inl f))] = A at hD hS ⊢
  have hx := hX.1
  have hb := hX.2.1
  have hown := hX.2.2.2.1
  have hts := hX.2.2.2.2
  have hl : lv_has ls 4 [(0, .ref r), (1, .int (wh)), (2, .int (kd)), (3, .int (bI (sw = true)))] := hl
  refine lv_aload_n hx hb dX7_isCut_0 rfl (lv_at hl 0 rfl) ?_
  refine lv_bipush (v := 7) hx hb dX7_isCut_1 (by decide) ?_
  refine lv_dup2_11 hx hb dX7_isCut_3 rfl rfl ?_
  refine ra_iald (i := 7) hx hb hK hP 0 0 rfl rfl (by omega) (by decide) dX7_isCut_4 ?_
  refine lv_iconst (v := 1) hx hb dX7_isCut_5 (by decide) ?_
  refine lv_iadd hx hb dX7_isCut_6 ?_
  refine ra_iast (i := 7) hx hb hK hP hD hS 0 0 rfl rfl (by omega) (by decide) dX7_isCut_7 (fun H locs hP hD hS => ?_)
  have hP : va_P D vwCl [(r, .inl (cI, 151, .inl (upd f 7 ((f (7)) + 1))))] H := hP
  have hD : va_D A [(r, .inl (cI, 151, .inl (upd f 7 ((f (7)) + 1))))] := hD
  refine lv_aload_n hx hb dX7_isCut_8 rfl (lv_at hl 0 rfl) ?_
  refine lv_iconst (v := 5) hx hb dX7_isCut_9 (by decide) ?_
  refine ra_iald (i := 5) hx hb hK hP 0 0 rfl rfl (by omega) (by decide) dX7_isCut_10 ?_
  refine lv_as (show (upd f 7 ((f (7)) + 1)) (5) = f (5) from (pk_un (by decide)).trans (rfl)) ?_
  refine lv_if_ne (tgt := 16) hx hb dX7_isCut_11 (by decide) (fun c11_1 => ?_) (fun c11_1 => ?_)
  · skip
    refine lv_aload_n hx hb dX7_isCut_16 rfl (lv_at hl 0 rfl) ?_
    refine lv_iconst (v := 5) hx hb dX7_isCut_17 (by decide) ?_
    refine lv_dup2_11 hx hb dX7_isCut_18 rfl rfl ?_
    refine ra_iald (i := 5) hx hb hK hP 0 0 rfl rfl (by omega) (by decide) dX7_isCut_19 ?_
    refine lv_as (show (upd f 7 ((f (7)) + 1)) (5) = f (5) from (pk_un (by decide)).trans (rfl)) ?_
    refine lv_iconst (v := 1) hx hb dX7_isCut_20 (by decide) ?_
    refine lv_isub hx hb dX7_isCut_21 ?_
    refine ra_iast (i := 5) hx hb hK hP hD hS 0 0 rfl rfl (by omega) (by decide) dX7_isCut_22 (fun H locs hP hD hS => ?_)
    have hP : va_P D vwCl [(r, .inl (cI, 151, .inl (upd (upd f 7 ((f (7)) + 1)) 5 ((f (5)) - 1))))] H := hP
    have hD : va_D A [(r, .inl (cI, 151, .inl (upd (upd f 7 ((f (7)) + 1)) 5 ((f (5)) - 1))))] := hD
    refine lv_aload_n hx hb dX7_isCut_23 rfl (lv_at hl 0 rfl) ?_
    refine lv_iconst (v := 5) hx hb dX7_isCut_24 (by decide) ?_
    refine ra_iald (i := 5) hx hb hK hP 0 0 rfl rfl (by omega) (by decide) dX7_isCut_25 ?_
    refine lv_as (show (upd (upd f 7 ((f (7)) + 1)) 5 ((f (5)) - 1)) (5) = (f (5)) - 1 from pk_us) ?_
    refine lv_if_le (tgt := 31) hx hb dX7_isCut_26 (by decide) (fun c26_2 => ?_) (fun c26_2 => ?_)
    · skip
      have c26_2 := i_nlt c26_2
      refine lv_aload_n hx hb dX7_isCut_31 rfl (lv_at hl 0 rfl) ?_
      refine lv_iconst (v := 2) hx hb dX7_isCut_32 (by decide) ?_
      refine lv_iconst (v := 0) hx hb dX7_isCut_33 (by decide) ?_
      refine ra_iast (i := 2) hx hb hK hP hD hS 0 0 rfl rfl (by omega) (by decide) dX7_isCut_34 (fun H locs hP hD hS => ?_)
      have hP : va_P D vwCl [(r, .inl (cI, 151, .inl (upd (upd (upd f 7 ((f (7)) + 1)) 5 ((f (5)) - 1)) 2 0)))] H := hP
      have hD : va_D A [(r, .inl (cI, 151, .inl (upd (upd (upd f 7 ((f (7)) + 1)) 5 ((f (5)) - 1)) 2 0)))] := hD
      refine lv_aload_n hx hb dX7_isCut_35 rfl (lv_at hl 0 rfl) ?_
      refine lv_iconst (v := 3) hx hb dX7_isCut_36 (by decide) ?_
      refine lv_bipush (v := (-9)) hx hb dX7_isCut_37 (by decide) ?_
      refine ra_iast (i := 3) hx hb hK hP hD hS 0 0 rfl rfl (by omega) (by decide) dX7_isCut_39 (fun H locs hP hD hS => ?_)
      have hP : va_P D vwCl [(r, .inl (cI, 151, .inl (upd (upd (upd (upd f 7 ((f (7)) + 1)) 5 ((f (5)) - 1)) 2 0) 3 ((-9)))))] H := hP
      have hD : va_D A [(r, .inl (cI, 151, .inl (upd (upd (upd (upd f 7 ((f (7)) + 1)) 5 ((f (5)) - 1)) 2 0) 3 ((-9)))))] := hD
      refine lv_aload_n hx hb dX7_isCut_40 rfl (lv_at hl 0 rfl) ?_
      refine lv_bipush (v := 11) hx hb dX7_isCut_41 (by decide) ?_
      refine lv_dup2_11 hx hb dX7_isCut_43 rfl rfl ?_
      refine ra_iald (i := 11) hx hb hK hP 0 0 rfl rfl (by omega) (by decide) dX7_isCut_44 ?_
      refine lv_as (show (upd (upd (upd (upd f 7 ((f (7)) + 1)) 5 ((f (5)) - 1)) 2 0) 3 ((-9))) (11) = f (11) from (pk_un (by decide)).trans ((pk_un (by decide)).trans ((pk_un (by decide)).trans ((pk_un (by decide)).trans (rfl))))) ?_
      refine lv_iconst (v := 1) hx hb dX7_isCut_45 (by decide) ?_
      refine lv_iadd hx hb dX7_isCut_46 ?_
      refine ra_iast (i := 11) hx hb hK hP hD hS 0 0 rfl rfl (by omega) (by decide) dX7_isCut_47 (fun H locs hP hD hS => ?_)
      have hP : va_P D vwCl [(r, .inl (cI, 151, .inl (upd (upd (upd (upd (upd f 7 ((f (7)) + 1)) 5 ((f (5)) - 1)) 2 0) 3 ((-9))) 11 ((f (11)) + 1))))] H := hP
      have hD : va_D A [(r, .inl (cI, 151, .inl (upd (upd (upd (upd (upd f 7 ((f (7)) + 1)) 5 ((f (5)) - 1)) 2 0) 3 ((-9))) 11 ((f (11)) + 1))))] := hD
      refine lv_aload_n hx hb dX7_isCut_48 rfl (lv_at hl 0 rfl) ?_
      refine lv_bipush (v := 12) hx hb dX7_isCut_49 (by decide) ?_
      refine lv_iload_n hx hb dX7_isCut_51 rfl (lv_at hl 1 rfl) ?_
      refine ra_iast (i := 12) hx hb hK hP hD hS 0 0 rfl rfl (by omega) (by decide) dX7_isCut_52 (fun H locs hP hD hS => ?_)
      have hP : va_P D vwCl [(r, .inl (cI, 151, .inl (upd (upd (upd (upd (upd (upd f 7 ((f (7)) + 1)) 5 ((f (5)) - 1)) 2 0) 3 ((-9))) 11 ((f (11)) + 1)) 12 wh)))] H := hP
      have hD : va_D A [(r, .inl (cI, 151, .inl (upd (upd (upd (upd (upd (upd f 7 ((f (7)) + 1)) 5 ((f (5)) - 1)) 2 0) 3 ((-9))) 11 ((f (11)) + 1)) 12 wh)))] := hD
      refine lv_aload_n hx hb dX7_isCut_53 rfl (lv_at hl 0 rfl) ?_
      refine lv_bipush (v := 13) hx hb dX7_isCut_54 (by decide) ?_
      refine lv_iload_n hx hb dX7_isCut_56 rfl (lv_at hl 2 rfl) ?_
      refine ra_iast (i := 13) hx hb hK hP hD hS 0 0 rfl rfl (by omega) (by decide) dX7_isCut_57 (fun H locs hP hD hS => ?_)
      have hP : va_P D vwCl [(r, .inl (cI, 151, .inl (upd (upd (upd (upd (upd (upd (upd f 7 ((f (7)) + 1)) 5 ((f (5)) - 1)) 2 0) 3 ((-9))) 11 ((f (11)) + 1)) 12 wh) 13 kd)))] H := hP
      have hD : va_D A [(r, .inl (cI, 151, .inl (upd (upd (upd (upd (upd (upd (upd f 7 ((f (7)) + 1)) 5 ((f (5)) - 1)) 2 0) 3 ((-9))) 11 ((f (11)) + 1)) 12 wh) 13 kd)))] := hD
      refine lv_aload_n hx hb dX7_isCut_58 rfl (lv_at hl 0 rfl) ?_
      refine lv_bipush (v := 14) hx hb dX7_isCut_59 (by decide) ?_
      refine lv_iload_n hx hb dX7_isCut_61 rfl (lv_at hl 3 rfl) ?_
      refine lv_if_eq (tgt := 69) hx hb dX7_isCut_62 (by decide) (fun c62_3 => ?_) (fun c62_3 => ?_)
      · skip
        have c62_3 := bI_f c62_3
        refine lv_iconst (v := 0) hx hb dX7_isCut_69 (by decide) ?_
        refine ra_iast (i := 14) hx hb hK hP hD hS 0 0 rfl rfl (by omega) (by decide) dX7_isCut_70 (fun H locs hP hD hS => ?_)
        have hP : va_P D vwCl [(r, .inl (cI, 151, .inl (upd (upd (upd (upd (upd (upd (upd (upd f 7 ((f (7)) + 1)) 5 ((f (5)) - 1)) 2 0) 3 ((-9))) 11 ((f (11)) + 1)) 12 wh) 13 kd) 14 0)))] H := hP
        have hD : va_D A [(r, .inl (cI, 151, .inl (upd (upd (upd (upd (upd (upd (upd (upd f 7 ((f (7)) + 1)) 5 ((f (5)) - 1)) 2 0) 3 ((-9))) 11 ((f (11)) + 1)) 12 wh) 13 kd) 14 0)))] := hD
        refine lv_iconst (v := 1) hx hb dX7_isCut_71 (by decide) ?_
        have hP : va_P D vwCl [(r, .inl (cI, 151, .inl (cutR f wh kd sw)))] H := by
          rw [show (cutR f wh kd sw : Nat → Int32) = upd (upd (upd (upd (upd (upd (upd (upd f 7 ((f (7)) + 1)) 5 ((f (5)) - 1)) 2 0) 3 ((-9))) 11 ((f (11)) + 1)) 12 wh) 13 kd) 14 0 from by rw [cutR, if_neg c11_1, if_neg c26_2, bI_0 c62_3]; rfl]
          exact hP
        exact gp_retz hX hr hlocks hS hP (P := cutP f) ((bI_1 ⟨c11_1, c26_2⟩).symm) ⟨(bI_1 ⟨c11_1, c26_2⟩).symm, rfl⟩ dX7_isCut_72
      · skip
        have c62_3 := bI_t c62_3
        refine lv_iconst (v := 1) hx hb dX7_isCut_65 (by decide) ?_
        refine lv_goto (tgt := 70) hx hb dX7_isCut_66 (by decide) ?_
        refine ra_iast (i := 14) hx hb hK hP hD hS 0 0 rfl rfl (by omega) (by decide) dX7_isCut_70 (fun H locs hP hD hS => ?_)
        have hP : va_P D vwCl [(r, .inl (cI, 151, .inl (upd (upd (upd (upd (upd (upd (upd (upd f 7 ((f (7)) + 1)) 5 ((f (5)) - 1)) 2 0) 3 ((-9))) 11 ((f (11)) + 1)) 12 wh) 13 kd) 14 1)))] H := hP
        have hD : va_D A [(r, .inl (cI, 151, .inl (upd (upd (upd (upd (upd (upd (upd (upd f 7 ((f (7)) + 1)) 5 ((f (5)) - 1)) 2 0) 3 ((-9))) 11 ((f (11)) + 1)) 12 wh) 13 kd) 14 1)))] := hD
        refine lv_iconst (v := 1) hx hb dX7_isCut_71 (by decide) ?_
        have hP : va_P D vwCl [(r, .inl (cI, 151, .inl (cutR f wh kd sw)))] H := by
          rw [show (cutR f wh kd sw : Nat → Int32) = upd (upd (upd (upd (upd (upd (upd (upd f 7 ((f (7)) + 1)) 5 ((f (5)) - 1)) 2 0) 3 ((-9))) 11 ((f (11)) + 1)) 12 wh) 13 kd) 14 1 from by rw [cutR, if_neg c11_1, if_neg c26_2, bI_1 c62_3]; rfl]
          exact hP
        exact gp_retz hX hr hlocks hS hP (P := cutP f) ((bI_1 ⟨c11_1, c26_2⟩).symm) ⟨(bI_1 ⟨c11_1, c26_2⟩).symm, rfl⟩ dX7_isCut_72
    · skip
      have c26_2 := i_lt c26_2
      refine lv_iconst (v := 0) hx hb dX7_isCut_29 (by decide) ?_
      have hP : va_P D vwCl [(r, .inl (cI, 151, .inl (cutR f wh kd sw)))] H := by
        rw [show (cutR f wh kd sw : Nat → Int32) = upd (upd f 7 ((f (7)) + 1)) 5 ((f (5)) - 1) from by rw [cutR, if_neg c11_1, if_pos c26_2]; rfl]
        exact hP
      exact gp_retz hX hr hlocks hS hP (P := cutP f) ((bI_0 (fun z => z.2 c26_2)).symm) ⟨(bI_0 (fun z => z.2 c26_2)).symm, rfl⟩ dX7_isCut_30
  · skip
    refine lv_iconst (v := 0) hx hb dX7_isCut_14 (by decide) ?_
    have hP : va_P D vwCl [(r, .inl (cI, 151, .inl (cutR f wh kd sw)))] H := by
      rw [show (cutR f wh kd sw : Nat → Int32) = upd f 7 ((f (7)) + 1) from if_pos c11_1]
      exact hP
    exact gp_retz hX hr hlocks hS hP (P := cutP f) ((bI_0 (fun z => z.1 c11_1)).symm) ⟨(bI_0 (fun z => z.1 c11_1)).symm, rfl⟩ dX7_isCut_15
