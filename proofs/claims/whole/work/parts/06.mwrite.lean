theorem dX7_isCut_0 : decode cX7_isCut 0 = .ok (.aload_n 0, 1) := by decide +kernel
theorem dX7_isCut_1 : decode cX7_isCut 1 = .ok (.bipush 7, 2) := by decide +kernel
theorem dX7_isCut_3 : decode cX7_isCut 3 = .ok (.dup2, 1) := by decide +kernel
theorem dX7_isCut_4 : decode cX7_isCut 4 = .ok (.iaload, 1) := by decide +kernel
theorem dX7_isCut_5 : decode cX7_isCut 5 = .ok (.iconst 1, 1) := by decide +kernel
theorem dX7_isCut_6 : decode cX7_isCut 6 = .ok (.iadd, 1) := by decide +kernel
theorem dX7_isCut_7 : decode cX7_isCut 7 = .ok (.iastore, 1) := by decide +kernel
theorem dX7_isCut_8 : decode cX7_isCut 8 = .ok (.aload_n 0, 1) := by decide +kernel
theorem dX7_isCut_9 : decode cX7_isCut 9 = .ok (.iconst 5, 1) := by decide +kernel
theorem dX7_isCut_10 : decode cX7_isCut 10 = .ok (.iaload, 1) := by decide +kernel
theorem dX7_isCut_11 : decode cX7_isCut 11 = .ok (.ifCond .ne 5, 3) := by decide +kernel
theorem dX7_isCut_14 : decode cX7_isCut 14 = .ok (.iconst 0, 1) := by decide +kernel
theorem dX7_isCut_15 : decode cX7_isCut 15 = .ok (.ireturn, 1) := by decide +kernel
theorem dX7_isCut_16 : decode cX7_isCut 16 = .ok (.aload_n 0, 1) := by decide +kernel
theorem dX7_isCut_17 : decode cX7_isCut 17 = .ok (.iconst 5, 1) := by decide +kernel
theorem dX7_isCut_18 : decode cX7_isCut 18 = .ok (.dup2, 1) := by decide +kernel
theorem dX7_isCut_19 : decode cX7_isCut 19 = .ok (.iaload, 1) := by decide +kernel
theorem dX7_isCut_20 : decode cX7_isCut 20 = .ok (.iconst 1, 1) := by decide +kernel
theorem dX7_isCut_21 : decode cX7_isCut 21 = .ok (.isub, 1) := by decide +kernel
theorem dX7_isCut_22 : decode cX7_isCut 22 = .ok (.iastore, 1) := by decide +kernel
theorem dX7_isCut_23 : decode cX7_isCut 23 = .ok (.aload_n 0, 1) := by decide +kernel
theorem dX7_isCut_24 : decode cX7_isCut 24 = .ok (.iconst 5, 1) := by decide +kernel
theorem dX7_isCut_25 : decode cX7_isCut 25 = .ok (.iaload, 1) := by decide +kernel
theorem dX7_isCut_26 : decode cX7_isCut 26 = .ok (.ifCond .le 5, 3) := by decide +kernel
theorem dX7_isCut_29 : decode cX7_isCut 29 = .ok (.iconst 0, 1) := by decide +kernel
theorem dX7_isCut_30 : decode cX7_isCut 30 = .ok (.ireturn, 1) := by decide +kernel
theorem dX7_isCut_31 : decode cX7_isCut 31 = .ok (.aload_n 0, 1) := by decide +kernel
theorem dX7_isCut_32 : decode cX7_isCut 32 = .ok (.iconst 2, 1) := by decide +kernel
theorem dX7_isCut_33 : decode cX7_isCut 33 = .ok (.iconst 0, 1) := by decide +kernel
theorem dX7_isCut_34 : decode cX7_isCut 34 = .ok (.iastore, 1) := by decide +kernel
theorem dX7_isCut_35 : decode cX7_isCut 35 = .ok (.aload_n 0, 1) := by decide +kernel
theorem dX7_isCut_36 : decode cX7_isCut 36 = .ok (.iconst 3, 1) := by decide +kernel
theorem dX7_isCut_37 : decode cX7_isCut 37 = .ok (.bipush (-9), 2) := by decide +kernel
theorem dX7_isCut_39 : decode cX7_isCut 39 = .ok (.iastore, 1) := by decide +kernel
theorem dX7_isCut_40 : decode cX7_isCut 40 = .ok (.aload_n 0, 1) := by decide +kernel
theorem dX7_isCut_41 : decode cX7_isCut 41 = .ok (.bipush 11, 2) := by decide +kernel
theorem dX7_isCut_43 : decode cX7_isCut 43 = .ok (.dup2, 1) := by decide +kernel
theorem dX7_isCut_44 : decode cX7_isCut 44 = .ok (.iaload, 1) := by decide +kernel
theorem dX7_isCut_45 : decode cX7_isCut 45 = .ok (.iconst 1, 1) := by decide +kernel
theorem dX7_isCut_46 : decode cX7_isCut 46 = .ok (.iadd, 1) := by decide +kernel
theorem dX7_isCut_47 : decode cX7_isCut 47 = .ok (.iastore, 1) := by decide +kernel
theorem dX7_isCut_48 : decode cX7_isCut 48 = .ok (.aload_n 0, 1) := by decide +kernel
theorem dX7_isCut_49 : decode cX7_isCut 49 = .ok (.bipush 12, 2) := by decide +kernel
theorem dX7_isCut_51 : decode cX7_isCut 51 = .ok (.iload_n 1, 1) := by decide +kernel
theorem dX7_isCut_52 : decode cX7_isCut 52 = .ok (.iastore, 1) := by decide +kernel
theorem dX7_isCut_53 : decode cX7_isCut 53 = .ok (.aload_n 0, 1) := by decide +kernel
theorem dX7_isCut_54 : decode cX7_isCut 54 = .ok (.bipush 13, 2) := by decide +kernel
theorem dX7_isCut_56 : decode cX7_isCut 56 = .ok (.iload_n 2, 1) := by decide +kernel
theorem dX7_isCut_57 : decode cX7_isCut 57 = .ok (.iastore, 1) := by decide +kernel
theorem dX7_isCut_58 : decode cX7_isCut 58 = .ok (.aload_n 0, 1) := by decide +kernel
theorem dX7_isCut_59 : decode cX7_isCut 59 = .ok (.bipush 14, 2) := by decide +kernel
theorem dX7_isCut_61 : decode cX7_isCut 61 = .ok (.iload_n 3, 1) := by decide +kernel
theorem dX7_isCut_62 : decode cX7_isCut 62 = .ok (.ifCond .eq 7, 3) := by decide +kernel
theorem dX7_isCut_65 : decode cX7_isCut 65 = .ok (.iconst 1, 1) := by decide +kernel
theorem dX7_isCut_66 : decode cX7_isCut 66 = .ok (.goto 4, 3) := by decide +kernel
theorem dX7_isCut_69 : decode cX7_isCut 69 = .ok (.iconst 0, 1) := by decide +kernel
theorem dX7_isCut_70 : decode cX7_isCut 70 = .ok (.iastore, 1) := by decide +kernel
theorem dX7_isCut_71 : decode cX7_isCut 71 = .ok (.iconst 1, 1) := by decide +kernel
theorem dX7_isCut_72 : decode cX7_isCut 72 = .ok (.ireturn, 1) := by decide +kernel
theorem q7_isCut : CQ W7 yX7_isCut cX7_isCut 4 (some .boolean) 4 := ⟨(m7 73 rfl), by decide, by decide, by decide +kernel⟩
set_option maxHeartbeats 4000000 in
set_option maxRecDepth 100000 in
theorem c7_isCut (l : Launch) (D : va_G) (cI : ClassId) (r : Nat) (f : Nat → Int32) (wh kd : Int32) (sw : Bool) : GPi l yX7_isCut cX7_isCut 4 .boolean W7 0 0 D [(r, .inl (cI, 151, .inl f))] [(cI, .int)] [.ref r, .int (wh), .int (kd), .int (bI (sw = true))] (fun (r9 : Int32) (u9 : va_W) => r9 = (bI (cutP f)) ∧ u9 = [(r, .inl (cI, 151, .inl (cutR f wh kd sw)))]) := by
  refine gp_of RX7 (by decide) rfl (Nat.le_of_ble_eq_true rfl) ?_
  intro p e s m below meth c ls H hX hr hlocks hK hP hD hS hl
  generalize gp_A [(r, .inl (cI, 151, .inl f))] = A at hD hS ⊢
  have hx := hX.1
  have hb := hX.2.1
  have hown := hX.2.2.2.1
  have hts := hX.2.2.2.2
  have hl : lv_has ls 4 [(0, .ref r), (1, .int (wh)), (2, .int (kd)), (3, .int (bI (sw = true)))] := hl
  refine lv_aload_n hx hb dX7_isCut_0 rfl (lv_at hl 0 rfl) ?_
  refine lv_bipush (v := 7) hx hb dX7_isCut_1 (by decide) ?_
  refine lv_dup2_11 hx hb dX7_isCut_3 rfl rfl ?_
  refine ra_iald (i := 7) hx hb hK hP 0 0 rfl rfl (by omega) (by decide) dX7_isCut_4 ?_
  refine lv_iconst (v := 1) hx hb dX7_isCut_5 (by decide) ?_
  refine lv_iadd hx hb dX7_isCut_6 ?_
  refine ra_iast (i := 7) hx hb hK hP hD hS 0 0 rfl rfl (by omega) (by decide) dX7_isCut_7 (fun H locs hP hD hS => ?_)
  have hP : va_P D vwCl [(r, .inl (cI, 151, .inl (upd f 7 ((f (7)) + 1))))] H := hP
  have hD : va_D A [(r, .inl (cI, 151, .inl (upd f 7 ((f (7)) + 1))))] := hD
  refine lv_aload_n hx hb dX7_isCut_8 rfl (lv_at hl 0 rfl) ?_
  refine lv_iconst (v := 5) hx hb dX7_isCut_9 (by decide) ?_
  refine ra_iald (i := 5) hx hb hK hP 0 0 rfl rfl (by omega) (by decide) dX7_isCut_10 ?_
  refine lv_as (show (upd f 7 ((f (7)) + 1)) (5) = f (5) from (pk_un (by decide)).trans (rfl)) ?_
  refine lv_if_ne (tgt := 16) hx hb dX7_isCut_11 (by decide) (fun c11_1 => ?_) (fun c11_1 => ?_)
  · skip
    refine lv_aload_n hx hb dX7_isCut_16 rfl (lv_at hl 0 rfl) ?_
    refine lv_iconst (v := 5) hx hb dX7_isCut_17 (by decide) ?_
    refine lv_dup2_11 hx hb dX7_isCut_18 rfl rfl ?_
    refine ra_iald (i := 5) hx hb hK hP 0 0 rfl rfl (by omega) (by decide) dX7_isCut_19 ?_
    refine lv_as (show (upd f 7 ((f (7)) + 1)) (5) = f (5) from (pk_un (by decide)).trans (rfl)) ?_
    refine lv_iconst (v := 1) hx hb dX7_isCut_20 (by decide) ?_
    refine lv_isub hx hb dX7_isCut_21 ?_
    refine ra_iast (i := 5) hx hb hK hP hD hS 0 0 rfl rfl (by omega) (by decide) dX7_isCut_22 (fun H locs hP hD hS => ?_)
    have hP : va_P D vwCl [(r, .inl (cI, 151, .inl (upd (upd f 7 ((f (7)) + 1)) 5 ((f (5)) - 1))))] H := hP
    have hD : va_D A [(r, .inl (cI, 151, .inl (upd (upd f 7 ((f (7)) + 1)) 5 ((f (5)) - 1))))] := hD
    refine lv_aload_n hx hb dX7_isCut_23 rfl (lv_at hl 0 rfl) ?_
    refine lv_iconst (v := 5) hx hb dX7_isCut_24 (by decide) ?_
    refine ra_iald (i := 5) hx hb hK hP 0 0 rfl rfl (by omega) (by decide) dX7_isCut_25 ?_
    refine lv_as (show (upd (upd f 7 ((f (7)) + 1)) 5 ((f (5)) - 1)) (5) = (f (5)) - 1 from pk_us) ?_
    refine lv_if_le (tgt := 31) hx hb dX7_isCut_26 (by decide) (fun c26_2 => ?_) (fun c26_2 => ?_)
    · skip
      have c26_2 := i_nlt c26_2
      refine lv_aload_n hx hb dX7_isCut_31 rfl (lv_at hl 0 rfl) ?_
      refine lv_iconst (v := 2) hx hb dX7_isCut_32 (by decide) ?_
      refine lv_iconst (v := 0) hx hb dX7_isCut_33 (by decide) ?_
      refine ra_iast (i := 2) hx hb hK hP hD hS 0 0 rfl rfl (by omega) (by decide) dX7_isCut_34 (fun H locs hP hD hS => ?_)
      have hP : va_P D vwCl [(r, .inl (cI, 151, .inl (upd (upd (upd f 7 ((f (7)) + 1)) 5 ((f (5)) - 1)) 2 0)))] H := hP
      have hD : va_D A [(r, .inl (cI, 151, .inl (upd (upd (upd f 7 ((f (7)) + 1)) 5 ((f (5)) - 1)) 2 0)))] := hD
      refine lv_aload_n hx hb dX7_isCut_35 rfl (lv_at hl 0 rfl) ?_
      refine lv_iconst (v := 3) hx hb dX7_isCut_36 (by decide) ?_
      refine lv_bipush (v := (-9)) hx hb dX7_isCut_37 (by decide) ?_
      refine ra_iast (i := 3) hx hb hK hP hD hS 0 0 rfl rfl (by omega) (by decide) dX7_isCut_39 (fun H locs hP hD hS => ?_)
      have hP : va_P D vwCl [(r, .inl (cI, 151, .inl (upd (upd (upd (upd f 7 ((f (7)) + 1)) 5 ((f (5)) - 1)) 2 0) 3 (-9))))] H := hP
      have hD : va_D A [(r, .inl (cI, 151, .inl (upd (upd (upd (upd f 7 ((f (7)) + 1)) 5 ((f (5)) - 1)) 2 0) 3 (-9))))] := hD
      refine lv_aload_n hx hb dX7_isCut_40 rfl (lv_at hl 0 rfl) ?_
      refine lv_bipush (v := 11) hx hb dX7_isCut_41 (by decide) ?_
      refine lv_dup2_11 hx hb dX7_isCut_43 rfl rfl ?_
      refine ra_iald (i := 11) hx hb hK hP 0 0 rfl rfl (by omega) (by decide) dX7_isCut_44 ?_
      refine lv_as (show (upd (upd (upd (upd f 7 ((f (7)) + 1)) 5 ((f (5)) - 1)) 2 0) 3 (-9)) (11) = f (11) from (pk_un (by decide)).trans ((pk_un (by decide)).trans ((pk_un (by decide)).trans ((pk_un (by decide)).trans (rfl))))) ?_
      refine lv_iconst (v := 1) hx hb dX7_isCut_45 (by decide) ?_
      refine lv_iadd hx hb dX7_isCut_46 ?_
      refine ra_iast (i := 11) hx hb hK hP hD hS 0 0 rfl rfl (by omega) (by decide) dX7_isCut_47 (fun H locs hP hD hS => ?_)
      have hP : va_P D vwCl [(r, .inl (cI, 151, .inl (upd (upd (upd (upd (upd f 7 ((f (7)) + 1)) 5 ((f (5)) - 1)) 2 0) 3 (-9)) 11 ((f (11)) + 1))))] H := hP
      have hD : va_D A [(r, .inl (cI, 151, .inl (upd (upd (upd (upd (upd f 7 ((f (7)) + 1)) 5 ((f (5)) - 1)) 2 0) 3 (-9)) 11 ((f (11)) + 1))))] := hD
      refine lv_aload_n hx hb dX7_isCut_48 rfl (lv_at hl 0 rfl) ?_
      refine lv_bipush (v := 12) hx hb dX7_isCut_49 (by decide) ?_
      refine lv_iload_n hx hb dX7_isCut_51 rfl (lv_at hl 1 rfl) ?_
      refine ra_iast (i := 12) hx hb hK hP hD hS 0 0 rfl rfl (by omega) (by decide) dX7_isCut_52 (fun H locs hP hD hS => ?_)
      have hP : va_P D vwCl [(r, .inl (cI, 151, .inl (upd (upd (upd (upd (upd (upd f 7 ((f (7)) + 1)) 5 ((f (5)) - 1)) 2 0) 3 (-9)) 11 ((f (11)) + 1)) 12 wh)))] H := hP
      have hD : va_D A [(r, .inl (cI, 151, .inl (upd (upd (upd (upd (upd (upd f 7 ((f (7)) + 1)) 5 ((f (5)) - 1)) 2 0) 3 (-9)) 11 ((f (11)) + 1)) 12 wh)))] := hD
      refine lv_aload_n hx hb dX7_isCut_53 rfl (lv_at hl 0 rfl) ?_
      refine lv_bipush (v := 13) hx hb dX7_isCut_54 (by decide) ?_
      refine lv_iload_n hx hb dX7_isCut_56 rfl (lv_at hl 2 rfl) ?_
      refine ra_iast (i := 13) hx hb hK hP hD hS 0 0 rfl rfl (by omega) (by decide) dX7_isCut_57 (fun H locs hP hD hS => ?_)
      have hP : va_P D vwCl [(r, .inl (cI, 151, .inl (upd (upd (upd (upd (upd (upd (upd f 7 ((f (7)) + 1)) 5 ((f (5)) - 1)) 2 0) 3 (-9)) 11 ((f (11)) + 1)) 12 wh) 13 kd)))] H := hP
      have hD : va_D A [(r, .inl (cI, 151, .inl (upd (upd (upd (upd (upd (upd (upd f 7 ((f (7)) + 1)) 5 ((f (5)) - 1)) 2 0) 3 (-9)) 11 ((f (11)) + 1)) 12 wh) 13 kd)))] := hD
      refine lv_aload_n hx hb dX7_isCut_58 rfl (lv_at hl 0 rfl) ?_
      refine lv_bipush (v := 14) hx hb dX7_isCut_59 (by decide) ?_
      refine lv_iload_n hx hb dX7_isCut_61 rfl (lv_at hl 3 rfl) ?_
      refine lv_if_eq (tgt := 69) hx hb dX7_isCut_62 (by decide) (fun c62_3 => ?_) (fun c62_3 => ?_)
      · skip
        have c62_3 := bI_f c62_3
        refine lv_iconst (v := 0) hx hb dX7_isCut_69 (by decide) ?_
        refine ra_iast (i := 14) hx hb hK hP hD hS 0 0 rfl rfl (by omega) (by decide) dX7_isCut_70 (fun H locs hP hD hS => ?_)
        have hP : va_P D vwCl [(r, .inl (cI, 151, .inl (upd (upd (upd (upd (upd (upd (upd (upd f 7 ((f (7)) + 1)) 5 ((f (5)) - 1)) 2 0) 3 (-9)) 11 ((f (11)) + 1)) 12 wh) 13 kd) 14 0)))] H := hP
        have hD : va_D A [(r, .inl (cI, 151, .inl (upd (upd (upd (upd (upd (upd (upd (upd f 7 ((f (7)) + 1)) 5 ((f (5)) - 1)) 2 0) 3 (-9)) 11 ((f (11)) + 1)) 12 wh) 13 kd) 14 0)))] := hD
        refine lv_iconst (v := 1) hx hb dX7_isCut_71 (by decide) ?_
        have hP : va_P D vwCl [(r, .inl (cI, 151, .inl (cutR f wh kd sw)))] H := by
          rw [show (cutR f wh kd sw : Nat → Int32) = upd (upd (upd (upd (upd (upd (upd (upd f 7 ((f (7)) + 1)) 5 ((f (5)) - 1)) 2 0) 3 (-9)) 11 ((f (11)) + 1)) 12 wh) 13 kd) 14 0 from by rw [cutR, if_neg c11_1, if_neg c26_2, bI_0 c62_3]; rfl]
          exact hP
        exact gp_retz hX hr hlocks hS hP (P := cutP f) ((bI_1 ⟨c11_1, c26_2⟩).symm) ⟨(bI_1 ⟨c11_1, c26_2⟩).symm, rfl⟩ dX7_isCut_72
      · skip
        have c62_3 := bI_t c62_3
        refine lv_iconst (v := 1) hx hb dX7_isCut_65 (by decide) ?_
        refine lv_goto (tgt := 70) hx hb dX7_isCut_66 (by decide) ?_
        refine ra_iast (i := 14) hx hb hK hP hD hS 0 0 rfl rfl (by omega) (by decide) dX7_isCut_70 (fun H locs hP hD hS => ?_)
        have hP : va_P D vwCl [(r, .inl (cI, 151, .inl (upd (upd (upd (upd (upd (upd (upd (upd f 7 ((f (7)) + 1)) 5 ((f (5)) - 1)) 2 0) 3 (-9)) 11 ((f (11)) + 1)) 12 wh) 13 kd) 14 1)))] H := hP
        have hD : va_D A [(r, .inl (cI, 151, .inl (upd (upd (upd (upd (upd (upd (upd (upd f 7 ((f (7)) + 1)) 5 ((f (5)) - 1)) 2 0) 3 (-9)) 11 ((f (11)) + 1)) 12 wh) 13 kd) 14 1)))] := hD
        refine lv_iconst (v := 1) hx hb dX7_isCut_71 (by decide) ?_
        have hP : va_P D vwCl [(r, .inl (cI, 151, .inl (cutR f wh kd sw)))] H := by
          rw [show (cutR f wh kd sw : Nat → Int32) = upd (upd (upd (upd (upd (upd (upd (upd f 7 ((f (7)) + 1)) 5 ((f (5)) - 1)) 2 0) 3 (-9)) 11 ((f (11)) + 1)) 12 wh) 13 kd) 14 1 from by rw [cutR, if_neg c11_1, if_neg c26_2, bI_1 c62_3]; rfl]
          exact hP
        exact gp_retz hX hr hlocks hS hP (P := cutP f) ((bI_1 ⟨c11_1, c26_2⟩).symm) ⟨(bI_1 ⟨c11_1, c26_2⟩).symm, rfl⟩ dX7_isCut_72
    · skip
      have c26_2 := i_lt c26_2
      refine lv_iconst (v := 0) hx hb dX7_isCut_29 (by decide) ?_
      have hP : va_P D vwCl [(r, .inl (cI, 151, .inl (cutR f wh kd sw)))] H := by
        rw [show (cutR f wh kd sw : Nat → Int32) = upd (upd f 7 ((f (7)) + 1)) 5 ((f (5)) - 1) from by rw [cutR, if_neg c11_1, if_pos c26_2]; rfl]
        exact hP
      exact gp_retz hX hr hlocks hS hP (P := cutP f) ((bI_0 (fun z => z.2 c26_2)).symm) ⟨(bI_0 (fun z => z.2 c26_2)).symm, rfl⟩ dX7_isCut_30
  · skip
    refine lv_iconst (v := 0) hx hb dX7_isCut_14 (by decide) ?_
    have hP : va_P D vwCl [(r, .inl (cI, 151, .inl (cutR f wh kd sw)))] H := by
      rw [show (cutR f wh kd sw : Nat → Int32) = upd f 7 ((f (7)) + 1) from if_pos c11_1]
      exact hP
    exact gp_retz hX hr hlocks hS hP (P := cutP f) ((bI_0 (fun z => z.1 c11_1)).symm) ⟨(bI_0 (fun z => z.1 c11_1)).symm, rfl⟩ dX7_isCut_15
theorem dX7_writes_0 : decode cX7_writes 0 = .ok (.bipush 23, 2) := by decide +kernel
theorem dX7_writes_2 : decode cX7_writes 2 = .ok (.iconst 4, 1) := by decide +kernel
theorem dX7_writes_3 : decode cX7_writes 3 = .ok (.iload_n 1, 1) := by decide +kernel
theorem dX7_writes_4 : decode cX7_writes 4 = .ok (.imul, 1) := by decide +kernel
theorem dX7_writes_5 : decode cX7_writes 5 = .ok (.iadd, 1) := by decide +kernel
theorem dX7_writes_6 : decode cX7_writes 6 = .ok (.istore 5, 2) := by decide +kernel
theorem dX7_writes_8 : decode cX7_writes 8 = .ok (.aload_n 0, 1) := by decide +kernel
theorem dX7_writes_9 : decode cX7_writes 9 = .ok (.iload_n 1, 1) := by decide +kernel
theorem dX7_writes_10 : decode cX7_writes 10 = .ok (.iconst 0, 1) := by decide +kernel
theorem dX7_writes_11 : decode cX7_writes 11 = .ok (.iload 4, 2) := by decide +kernel
theorem dX7_writes_13 : decode cX7_writes 13 = .ok (.invokestatic 105, 3) := by decide +kernel
theorem dX7_writes_16 : decode cX7_writes 16 = .ok (.ifCond .eq 12, 3) := by decide +kernel
theorem dX7_writes_19 : decode cX7_writes 19 = .ok (.aload_n 0, 1) := by decide +kernel
theorem dX7_writes_20 : decode cX7_writes 20 = .ok (.iload 5, 2) := by decide +kernel
theorem dX7_writes_22 : decode cX7_writes 22 = .ok (.iconst 0, 1) := by decide +kernel
theorem dX7_writes_23 : decode cX7_writes 23 = .ok (.iadd, 1) := by decide +kernel
theorem dX7_writes_24 : decode cX7_writes 24 = .ok (.iconst 2, 1) := by decide +kernel
theorem dX7_writes_25 : decode cX7_writes 25 = .ok (.iastore, 1) := by decide +kernel
theorem dX7_writes_26 : decode cX7_writes 26 = .ok (.iconst 0, 1) := by decide +kernel
theorem dX7_writes_27 : decode cX7_writes 27 = .ok (.ireturn, 1) := by decide +kernel
theorem dX7_writes_28 : decode cX7_writes 28 = .ok (.aload_n 0, 1) := by decide +kernel
theorem dX7_writes_29 : decode cX7_writes 29 = .ok (.iload 5, 2) := by decide +kernel
theorem dX7_writes_31 : decode cX7_writes 31 = .ok (.iconst 0, 1) := by decide +kernel
theorem dX7_writes_32 : decode cX7_writes 32 = .ok (.iadd, 1) := by decide +kernel
theorem dX7_writes_33 : decode cX7_writes 33 = .ok (.iconst 1, 1) := by decide +kernel
theorem dX7_writes_34 : decode cX7_writes 34 = .ok (.iastore, 1) := by decide +kernel
theorem dX7_writes_35 : decode cX7_writes 35 = .ok (.aload_n 0, 1) := by decide +kernel
theorem dX7_writes_36 : decode cX7_writes 36 = .ok (.iload 5, 2) := by decide +kernel
theorem dX7_writes_38 : decode cX7_writes 38 = .ok (.iconst 1, 1) := by decide +kernel
theorem dX7_writes_39 : decode cX7_writes 39 = .ok (.iadd, 1) := by decide +kernel
theorem dX7_writes_40 : decode cX7_writes 40 = .ok (.iload_n 2, 1) := by decide +kernel
theorem dX7_writes_41 : decode cX7_writes 41 = .ok (.iastore, 1) := by decide +kernel
theorem dX7_writes_42 : decode cX7_writes 42 = .ok (.aload_n 0, 1) := by decide +kernel
theorem dX7_writes_43 : decode cX7_writes 43 = .ok (.iload 5, 2) := by decide +kernel
theorem dX7_writes_45 : decode cX7_writes 45 = .ok (.iconst 2, 1) := by decide +kernel
theorem dX7_writes_46 : decode cX7_writes 46 = .ok (.iadd, 1) := by decide +kernel
theorem dX7_writes_47 : decode cX7_writes 47 = .ok (.iload_n 3, 1) := by decide +kernel
theorem dX7_writes_48 : decode cX7_writes 48 = .ok (.iastore, 1) := by decide +kernel
theorem dX7_writes_49 : decode cX7_writes 49 = .ok (.aload_n 0, 1) := by decide +kernel
theorem dX7_writes_50 : decode cX7_writes 50 = .ok (.iload 5, 2) := by decide +kernel
theorem dX7_writes_52 : decode cX7_writes 52 = .ok (.iconst 3, 1) := by decide +kernel
theorem dX7_writes_53 : decode cX7_writes 53 = .ok (.iadd, 1) := by decide +kernel
theorem dX7_writes_54 : decode cX7_writes 54 = .ok (.aload_n 0, 1) := by decide +kernel
theorem dX7_writes_55 : decode cX7_writes 55 = .ok (.iconst 4, 1) := by decide +kernel
theorem dX7_writes_56 : decode cX7_writes 56 = .ok (.iaload, 1) := by decide +kernel
theorem dX7_writes_57 : decode cX7_writes 57 = .ok (.iastore, 1) := by decide +kernel
theorem dX7_writes_58 : decode cX7_writes 58 = .ok (.aload_n 0, 1) := by decide +kernel
theorem dX7_writes_59 : decode cX7_writes 59 = .ok (.iconst 4, 1) := by decide +kernel
theorem dX7_writes_60 : decode cX7_writes 60 = .ok (.dup2, 1) := by decide +kernel
theorem dX7_writes_61 : decode cX7_writes 61 = .ok (.iaload, 1) := by decide +kernel
theorem dX7_writes_62 : decode cX7_writes 62 = .ok (.iconst 1, 1) := by decide +kernel
theorem dX7_writes_63 : decode cX7_writes 63 = .ok (.iadd, 1) := by decide +kernel
theorem dX7_writes_64 : decode cX7_writes 64 = .ok (.iastore, 1) := by decide +kernel
theorem dX7_writes_65 : decode cX7_writes 65 = .ok (.aload_n 0, 1) := by decide +kernel
theorem dX7_writes_66 : decode cX7_writes 66 = .ok (.bipush 8, 2) := by decide +kernel
theorem dX7_writes_68 : decode cX7_writes 68 = .ok (.dup2, 1) := by decide +kernel
theorem dX7_writes_69 : decode cX7_writes 69 = .ok (.iaload, 1) := by decide +kernel
theorem dX7_writes_70 : decode cX7_writes 70 = .ok (.iconst 1, 1) := by decide +kernel
theorem dX7_writes_71 : decode cX7_writes 71 = .ok (.iadd, 1) := by decide +kernel
theorem dX7_writes_72 : decode cX7_writes 72 = .ok (.iastore, 1) := by decide +kernel
theorem dX7_writes_73 : decode cX7_writes 73 = .ok (.aload_n 0, 1) := by decide +kernel
theorem dX7_writes_74 : decode cX7_writes 74 = .ok (.bipush 9, 2) := by decide +kernel
theorem dX7_writes_76 : decode cX7_writes 76 = .ok (.dup2, 1) := by decide +kernel
theorem dX7_writes_77 : decode cX7_writes 77 = .ok (.iaload, 1) := by decide +kernel
theorem dX7_writes_78 : decode cX7_writes 78 = .ok (.iload 4, 2) := by decide +kernel
theorem dX7_writes_80 : decode cX7_writes 80 = .ok (.ifCond .eq 7, 3) := by decide +kernel
theorem dX7_writes_83 : decode cX7_writes 83 = .ok (.iconst 1, 1) := by decide +kernel
theorem dX7_writes_84 : decode cX7_writes 84 = .ok (.goto 4, 3) := by decide +kernel
theorem dX7_writes_87 : decode cX7_writes 87 = .ok (.iconst 0, 1) := by decide +kernel
theorem dX7_writes_88 : decode cX7_writes 88 = .ok (.iadd, 1) := by decide +kernel
theorem dX7_writes_89 : decode cX7_writes 89 = .ok (.iastore, 1) := by decide +kernel
theorem dX7_writes_90 : decode cX7_writes 90 = .ok (.iconst 1, 1) := by decide +kernel
theorem dX7_writes_91 : decode cX7_writes 91 = .ok (.ireturn, 1) := by decide +kernel
theorem q7_writes : CQ W7 yX7_writes cX7_writes 6 (some .boolean) 5 := ⟨(m7 85 rfl), by decide, by decide, by decide +kernel⟩
set_option maxHeartbeats 4000000 in
set_option maxRecDepth 100000 in
theorem c7_writes (l : Launch) (D : va_G) (cI : ClassId) (r : Nat) (f : Nat → Int32) (a : Nat) (ha : a < 32) (key val : Int32) (sw : Bool) : GPi l yX7_writes cX7_writes 6 .boolean W7 1 23 D [(r, .inl (cI, 151, .inl f))] [(cI, .int)] [.ref r, .int (nI (a)), .int (key), .int (val), .int (bI (sw = true))] (fun (r9 : Int32) (u9 : va_W) => r9 = (bI (¬ cutP f)) ∧ u9 = [(r, .inl (cI, 151, .inl (wrR f a key val sw)))]) := by
  refine gp_of RX7 (by decide) rfl (Nat.le_of_ble_eq_true rfl) ?_
  intro p e s m below meth c ls H hX hr hlocks hK hP hD hS hl
  generalize gp_A [(r, .inl (cI, 151, .inl f))] = A at hD hS ⊢
  have hx := hX.1
  have hb := hX.2.1
  have hown := hX.2.2.2.1
  have hts := hX.2.2.2.2
  have hl : lv_has ls 6 [(0, .ref r), (1, .int (nI (a))), (2, .int (key)), (3, .int (val)), (4, .int (bI (sw = true)))] := hl
  refine lv_bipush (v := 23) hx hb dX7_writes_0 (by decide) ?_
  refine lv_iconst (v := 4) hx hb dX7_writes_2 (by decide) ?_
  refine lv_iload_n hx hb dX7_writes_3 rfl (lv_at hl 1 rfl) ?_
  refine lv_imul hx hb dX7_writes_4 ?_
  refine lv_as (y := nI (4 * a)) (pk_mul (4) (a)) ?_
  refine lv_iadd hx hb dX7_writes_5 ?_
  refine lv_as (y := nI (23 + 4 * a)) (nI_add (23) (4 * a)) ?_
  refine lv_istore (lv' := [(5, .int (nI (23 + 4 * a))), (0, .ref r), (1, .int (nI (a))), (2, .int (key)), (3, .int (val)), (4, .int (bI (sw = true)))]) hx hb dX7_writes_6 hl (by decide) rfl (fun ls hl => ?_)
  refine lv_aload_n hx hb dX7_writes_8 rfl (lv_at hl 1 rfl) ?_
  refine lv_iload_n hx hb dX7_writes_9 rfl (lv_at hl 2 rfl) ?_
  refine lv_iconst (v := 0) hx hb dX7_writes_10 (by decide) ?_
  refine lv_iload hx hb dX7_writes_11 (lv_at hl 5 rfl) ?_
  refine gp_backi (gp_runS hX good7 i7 (c7_isCut l D cI r f (nI (a)) 0 sw) q7_isCut rfl (m7 71 rfl) (m7 72 rfl) ⟨Nat.le_of_ble_eq_true rfl, Nat.le_of_ble_eq_true rfl⟩ hK [0] rfl hP hD [0] (by decide) rfl hl.1 rfl (Nat.le_of_ble_eq_true rfl) dX7_writes_13 ⟨Nat.zero_le _, Nat.zero_le _⟩) hP hD hS [0] rfl (fun r u h => by rw [h.2]; simp only [List.map_cons, List.map_nil]) (fun r9 u H locs hpost hP hD hS => ?_)
  obtain ⟨hr9, rfl⟩ := hpost
  refine lv_as hr9 ?_
  have hP : va_P D vwCl [(r, .inl (cI, 151, .inl (cutR f (nI (a)) 0 sw)))] H := hP
  have hD : va_D A [(r, .inl (cI, 151, .inl (cutR f (nI (a)) 0 sw)))] := hD
  refine lv_if_eq (tgt := 28) hx hb dX7_writes_16 (by decide) (fun c16_1 => ?_) (fun c16_1 => ?_)
  · skip
    have c16_1 := bI_f c16_1
    refine lv_aload_n hx hb dX7_writes_28 rfl (lv_at hl 1 rfl) ?_
    refine lv_iload hx hb dX7_writes_29 (lv_at hl 0 rfl) ?_
    refine lv_iconst (v := 0) hx hb dX7_writes_31 (by decide) ?_
    refine lv_iadd hx hb dX7_writes_32 ?_
    refine lv_as (y := nI (23 + 4 * a + 0)) (nI_add (23 + 4 * a) (0)) ?_
    refine lv_iconst (v := 1) hx hb dX7_writes_33 (by decide) ?_
    refine ra_iast (i := 23 + 4 * a + 0) hx hb hK hP hD hS 0 0 rfl rfl (by omega) (by decide) dX7_writes_34 (fun H locs hP hD hS => ?_)
    have hP : va_P D vwCl [(r, .inl (cI, 151, .inl (upd (cutR f (nI (a)) 0 sw) (23 + 4 * a + 0) 1)))] H := hP
    have hD : va_D A [(r, .inl (cI, 151, .inl (upd (cutR f (nI (a)) 0 sw) (23 + 4 * a + 0) 1)))] := hD
    refine lv_aload_n hx hb dX7_writes_35 rfl (lv_at hl 1 rfl) ?_
    refine lv_iload hx hb dX7_writes_36 (lv_at hl 0 rfl) ?_
    refine lv_iconst (v := 1) hx hb dX7_writes_38 (by decide) ?_
    refine lv_iadd hx hb dX7_writes_39 ?_
    refine lv_as (y := nI (23 + 4 * a + 1)) (nI_add (23 + 4 * a) (1)) ?_
    refine lv_iload_n hx hb dX7_writes_40 rfl (lv_at hl 3 rfl) ?_
    refine ra_iast (i := 23 + 4 * a + 1) hx hb hK hP hD hS 0 0 rfl rfl (by omega) (by decide) dX7_writes_41 (fun H locs hP hD hS => ?_)
    have hP : va_P D vwCl [(r, .inl (cI, 151, .inl (upd (upd (cutR f (nI (a)) 0 sw) (23 + 4 * a + 0) 1) (23 + 4 * a + 1) key)))] H := hP
    have hD : va_D A [(r, .inl (cI, 151, .inl (upd (upd (cutR f (nI (a)) 0 sw) (23 + 4 * a + 0) 1) (23 + 4 * a + 1) key)))] := hD
    refine lv_aload_n hx hb dX7_writes_42 rfl (lv_at hl 1 rfl) ?_
    refine lv_iload hx hb dX7_writes_43 (lv_at hl 0 rfl) ?_
    refine lv_iconst (v := 2) hx hb dX7_writes_45 (by decide) ?_
    refine lv_iadd hx hb dX7_writes_46 ?_
    refine lv_as (y := nI (23 + 4 * a + 2)) (nI_add (23 + 4 * a) (2)) ?_
    refine lv_iload_n hx hb dX7_writes_47 rfl (lv_at hl 4 rfl) ?_
    refine ra_iast (i := 23 + 4 * a + 2) hx hb hK hP hD hS 0 0 rfl rfl (by omega) (by decide) dX7_writes_48 (fun H locs hP hD hS => ?_)
    have hP : va_P D vwCl [(r, .inl (cI, 151, .inl (upd (upd (upd (cutR f (nI (a)) 0 sw) (23 + 4 * a + 0) 1) (23 + 4 * a + 1) key) (23 + 4 * a + 2) val)))] H := hP
    have hD : va_D A [(r, .inl (cI, 151, .inl (upd (upd (upd (cutR f (nI (a)) 0 sw) (23 + 4 * a + 0) 1) (23 + 4 * a + 1) key) (23 + 4 * a + 2) val)))] := hD
    refine lv_aload_n hx hb dX7_writes_49 rfl (lv_at hl 1 rfl) ?_
    refine lv_iload hx hb dX7_writes_50 (lv_at hl 0 rfl) ?_
    refine lv_iconst (v := 3) hx hb dX7_writes_52 (by decide) ?_
    refine lv_iadd hx hb dX7_writes_53 ?_
    refine lv_as (y := nI (23 + 4 * a + 3)) (nI_add (23 + 4 * a) (3)) ?_
    refine lv_aload_n hx hb dX7_writes_54 rfl (lv_at hl 1 rfl) ?_
    refine lv_iconst (v := 4) hx hb dX7_writes_55 (by decide) ?_
    refine ra_iald (i := 4) hx hb hK hP 0 0 rfl rfl (by omega) (by decide) dX7_writes_56 ?_
    refine lv_as (show (upd (upd (upd (cutR f (nI (a)) 0 sw) (23 + 4 * a + 0) 1) (23 + 4 * a + 1) key) (23 + 4 * a + 2) val) (4) = (cutR f (nI (a)) 0 sw) (4) from (pk_un (by omega)).trans ((pk_un (by omega)).trans ((pk_un (by omega)).trans (rfl)))) ?_
    refine ra_iast (i := 23 + 4 * a + 3) hx hb hK hP hD hS 0 0 rfl rfl (by omega) (by decide) dX7_writes_57 (fun H locs hP hD hS => ?_)
    have hP : va_P D vwCl [(r, .inl (cI, 151, .inl (upd (upd (upd (upd (cutR f (nI (a)) 0 sw) (23 + 4 * a + 0) 1) (23 + 4 * a + 1) key) (23 + 4 * a + 2) val) (23 + 4 * a + 3) ((cutR f (nI (a)) 0 sw) (4)))))] H := hP
    have hD : va_D A [(r, .inl (cI, 151, .inl (upd (upd (upd (upd (cutR f (nI (a)) 0 sw) (23 + 4 * a + 0) 1) (23 + 4 * a + 1) key) (23 + 4 * a + 2) val) (23 + 4 * a + 3) ((cutR f (nI (a)) 0 sw) (4)))))] := hD
    refine lv_aload_n hx hb dX7_writes_58 rfl (lv_at hl 1 rfl) ?_
    refine lv_iconst (v := 4) hx hb dX7_writes_59 (by decide) ?_
    refine lv_dup2_11 hx hb dX7_writes_60 rfl rfl ?_
    refine ra_iald (i := 4) hx hb hK hP 0 0 rfl rfl (by omega) (by decide) dX7_writes_61 ?_
    refine lv_as (show (upd (upd (upd (upd (cutR f (nI (a)) 0 sw) (23 + 4 * a + 0) 1) (23 + 4 * a + 1) key) (23 + 4 * a + 2) val) (23 + 4 * a + 3) ((cutR f (nI (a)) 0 sw) (4))) (4) = (cutR f (nI (a)) 0 sw) (4) from (pk_un (by omega)).trans ((pk_un (by omega)).trans ((pk_un (by omega)).trans ((pk_un (by omega)).trans (rfl))))) ?_
    refine lv_iconst (v := 1) hx hb dX7_writes_62 (by decide) ?_
    refine lv_iadd hx hb dX7_writes_63 ?_
    refine ra_iast (i := 4) hx hb hK hP hD hS 0 0 rfl rfl (by omega) (by decide) dX7_writes_64 (fun H locs hP hD hS => ?_)
    have hP : va_P D vwCl [(r, .inl (cI, 151, .inl (upd (upd (upd (upd (upd (cutR f (nI (a)) 0 sw) (23 + 4 * a + 0) 1) (23 + 4 * a + 1) key) (23 + 4 * a + 2) val) (23 + 4 * a + 3) ((cutR f (nI (a)) 0 sw) (4))) 4 (((cutR f (nI (a)) 0 sw) (4)) + 1))))] H := hP
    have hD : va_D A [(r, .inl (cI, 151, .inl (upd (upd (upd (upd (upd (cutR f (nI (a)) 0 sw) (23 + 4 * a + 0) 1) (23 + 4 * a + 1) key) (23 + 4 * a + 2) val) (23 + 4 * a + 3) ((cutR f (nI (a)) 0 sw) (4))) 4 (((cutR f (nI (a)) 0 sw) (4)) + 1))))] := hD
    refine lv_aload_n hx hb dX7_writes_65 rfl (lv_at hl 1 rfl) ?_
    refine lv_bipush (v := 8) hx hb dX7_writes_66 (by decide) ?_
    refine lv_dup2_11 hx hb dX7_writes_68 rfl rfl ?_
    refine ra_iald (i := 8) hx hb hK hP 0 0 rfl rfl (by omega) (by decide) dX7_writes_69 ?_
    refine lv_as (show (upd (upd (upd (upd (upd (cutR f (nI (a)) 0 sw) (23 + 4 * a + 0) 1) (23 + 4 * a + 1) key) (23 + 4 * a + 2) val) (23 + 4 * a + 3) ((cutR f (nI (a)) 0 sw) (4))) 4 (((cutR f (nI (a)) 0 sw) (4)) + 1)) (8) = (cutR f (nI (a)) 0 sw) (8) from (pk_un (by decide)).trans ((pk_un (by omega)).trans ((pk_un (by omega)).trans ((pk_un (by omega)).trans ((pk_un (by omega)).trans (rfl)))))) ?_
    refine lv_iconst (v := 1) hx hb dX7_writes_70 (by decide) ?_
    refine lv_iadd hx hb dX7_writes_71 ?_
    refine ra_iast (i := 8) hx hb hK hP hD hS 0 0 rfl rfl (by omega) (by decide) dX7_writes_72 (fun H locs hP hD hS => ?_)
    have hP : va_P D vwCl [(r, .inl (cI, 151, .inl (upd (upd (upd (upd (upd (upd (cutR f (nI (a)) 0 sw) (23 + 4 * a + 0) 1) (23 + 4 * a + 1) key) (23 + 4 * a + 2) val) (23 + 4 * a + 3) ((cutR f (nI (a)) 0 sw) (4))) 4 (((cutR f (nI (a)) 0 sw) (4)) + 1)) 8 (((cutR f (nI (a)) 0 sw) (8)) + 1))))] H := hP
    have hD : va_D A [(r, .inl (cI, 151, .inl (upd (upd (upd (upd (upd (upd (cutR f (nI (a)) 0 sw) (23 + 4 * a + 0) 1) (23 + 4 * a + 1) key) (23 + 4 * a + 2) val) (23 + 4 * a + 3) ((cutR f (nI (a)) 0 sw) (4))) 4 (((cutR f (nI (a)) 0 sw) (4)) + 1)) 8 (((cutR f (nI (a)) 0 sw) (8)) + 1))))] := hD
    refine lv_aload_n hx hb dX7_writes_73 rfl (lv_at hl 1 rfl) ?_
    refine lv_bipush (v := 9) hx hb dX7_writes_74 (by decide) ?_
    refine lv_dup2_11 hx hb dX7_writes_76 rfl rfl ?_
    refine ra_iald (i := 9) hx hb hK hP 0 0 rfl rfl (by omega) (by decide) dX7_writes_77 ?_
    refine lv_as (show (upd (upd (upd (upd (upd (upd (cutR f (nI (a)) 0 sw) (23 + 4 * a + 0) 1) (23 + 4 * a + 1) key) (23 + 4 * a + 2) val) (23 + 4 * a + 3) ((cutR f (nI (a)) 0 sw) (4))) 4 (((cutR f (nI (a)) 0 sw) (4)) + 1)) 8 (((cutR f (nI (a)) 0 sw) (8)) + 1)) (9) = (cutR f (nI (a)) 0 sw) (9) from (pk_un (by decide)).trans ((pk_un (by decide)).trans ((pk_un (by omega)).trans ((pk_un (by omega)).trans ((pk_un (by omega)).trans ((pk_un (by omega)).trans (rfl))))))) ?_
    refine lv_iload hx hb dX7_writes_78 (lv_at hl 5 rfl) ?_
    refine lv_if_eq (tgt := 87) hx hb dX7_writes_80 (by decide) (fun c80_2 => ?_) (fun c80_2 => ?_)
    · skip
      have c80_2 := bI_f c80_2
      refine lv_iconst (v := 0) hx hb dX7_writes_87 (by decide) ?_
      refine lv_iadd hx hb dX7_writes_88 ?_
      refine ra_iast (i := 9) hx hb hK hP hD hS 0 0 rfl rfl (by omega) (by decide) dX7_writes_89 (fun H locs hP hD hS => ?_)
      have hP : va_P D vwCl [(r, .inl (cI, 151, .inl (upd (upd (upd (upd (upd (upd (upd (cutR f (nI (a)) 0 sw) (23 + 4 * a + 0) 1) (23 + 4 * a + 1) key) (23 + 4 * a + 2) val) (23 + 4 * a + 3) ((cutR f (nI (a)) 0 sw) (4))) 4 (((cutR f (nI (a)) 0 sw) (4)) + 1)) 8 (((cutR f (nI (a)) 0 sw) (8)) + 1)) 9 (((cutR f (nI (a)) 0 sw) (9)) + 0))))] H := hP
      have hD : va_D A [(r, .inl (cI, 151, .inl (upd (upd (upd (upd (upd (upd (upd (cutR f (nI (a)) 0 sw) (23 + 4 * a + 0) 1) (23 + 4 * a + 1) key) (23 + 4 * a + 2) val) (23 + 4 * a + 3) ((cutR f (nI (a)) 0 sw) (4))) 4 (((cutR f (nI (a)) 0 sw) (4)) + 1)) 8 (((cutR f (nI (a)) 0 sw) (8)) + 1)) 9 (((cutR f (nI (a)) 0 sw) (9)) + 0))))] := hD
      refine lv_iconst (v := 1) hx hb dX7_writes_90 (by decide) ?_
      have hP : va_P D vwCl [(r, .inl (cI, 151, .inl (wrR f a key val sw)))] H := by
        rw [show (wrR f a key val sw : Nat → Int32) = upd (upd (upd (upd (upd (upd (upd (cutR f (nI (a)) 0 sw) (23 + 4 * a + 0) 1) (23 + 4 * a + 1) key) (23 + 4 * a + 2) val) (23 + 4 * a + 3) ((cutR f (nI (a)) 0 sw) (4))) 4 (((cutR f (nI (a)) 0 sw) (4)) + 1)) 8 (((cutR f (nI (a)) 0 sw) (8)) + 1)) 9 (((cutR f (nI (a)) 0 sw) (9)) + 0) from by rw [wrR, if_neg c16_1, wrW, bI_0 c80_2]]
        exact hP
      exact gp_retz hX hr hlocks hS hP (P := ¬ cutP f) ((bI_1 c16_1).symm) ⟨(bI_1 c16_1).symm, rfl⟩ dX7_writes_91
    · skip
      have c80_2 := bI_t c80_2
      refine lv_iconst (v := 1) hx hb dX7_writes_83 (by decide) ?_
      refine lv_goto (tgt := 88) hx hb dX7_writes_84 (by decide) ?_
      refine lv_iadd hx hb dX7_writes_88 ?_
      refine ra_iast (i := 9) hx hb hK hP hD hS 0 0 rfl rfl (by omega) (by decide) dX7_writes_89 (fun H locs hP hD hS => ?_)
      have hP : va_P D vwCl [(r, .inl (cI, 151, .inl (upd (upd (upd (upd (upd (upd (upd (cutR f (nI (a)) 0 sw) (23 + 4 * a + 0) 1) (23 + 4 * a + 1) key) (23 + 4 * a + 2) val) (23 + 4 * a + 3) ((cutR f (nI (a)) 0 sw) (4))) 4 (((cutR f (nI (a)) 0 sw) (4)) + 1)) 8 (((cutR f (nI (a)) 0 sw) (8)) + 1)) 9 (((cutR f (nI (a)) 0 sw) (9)) + 1))))] H := hP
      have hD : va_D A [(r, .inl (cI, 151, .inl (upd (upd (upd (upd (upd (upd (upd (cutR f (nI (a)) 0 sw) (23 + 4 * a + 0) 1) (23 + 4 * a + 1) key) (23 + 4 * a + 2) val) (23 + 4 * a + 3) ((cutR f (nI (a)) 0 sw) (4))) 4 (((cutR f (nI (a)) 0 sw) (4)) + 1)) 8 (((cutR f (nI (a)) 0 sw) (8)) + 1)) 9 (((cutR f (nI (a)) 0 sw) (9)) + 1))))] := hD
      refine lv_iconst (v := 1) hx hb dX7_writes_90 (by decide) ?_
      have hP : va_P D vwCl [(r, .inl (cI, 151, .inl (wrR f a key val sw)))] H := by
        rw [show (wrR f a key val sw : Nat → Int32) = upd (upd (upd (upd (upd (upd (upd (cutR f (nI (a)) 0 sw) (23 + 4 * a + 0) 1) (23 + 4 * a + 1) key) (23 + 4 * a + 2) val) (23 + 4 * a + 3) ((cutR f (nI (a)) 0 sw) (4))) 4 (((cutR f (nI (a)) 0 sw) (4)) + 1)) 8 (((cutR f (nI (a)) 0 sw) (8)) + 1)) 9 (((cutR f (nI (a)) 0 sw) (9)) + 1) from by rw [wrR, if_neg c16_1, wrW, bI_1 c80_2]]
        exact hP
      exact gp_retz hX hr hlocks hS hP (P := ¬ cutP f) ((bI_1 c16_1).symm) ⟨(bI_1 c16_1).symm, rfl⟩ dX7_writes_91
  · skip
    have c16_1 := bI_t c16_1
    refine lv_aload_n hx hb dX7_writes_19 rfl (lv_at hl 1 rfl) ?_
    refine lv_iload hx hb dX7_writes_20 (lv_at hl 0 rfl) ?_
    refine lv_iconst (v := 0) hx hb dX7_writes_22 (by decide) ?_
    refine lv_iadd hx hb dX7_writes_23 ?_
    refine lv_as (y := nI (23 + 4 * a + 0)) (nI_add (23 + 4 * a) (0)) ?_
    refine lv_iconst (v := 2) hx hb dX7_writes_24 (by decide) ?_
    refine ra_iast (i := 23 + 4 * a + 0) hx hb hK hP hD hS 0 0 rfl rfl (by omega) (by decide) dX7_writes_25 (fun H locs hP hD hS => ?_)
    have hP : va_P D vwCl [(r, .inl (cI, 151, .inl (upd (cutR f (nI (a)) 0 sw) (23 + 4 * a + 0) 2)))] H := hP
    have hD : va_D A [(r, .inl (cI, 151, .inl (upd (cutR f (nI (a)) 0 sw) (23 + 4 * a + 0) 2)))] := hD
    refine lv_iconst (v := 0) hx hb dX7_writes_26 (by decide) ?_
    have hP : va_P D vwCl [(r, .inl (cI, 151, .inl (wrR f a key val sw)))] H := by
      rw [show (wrR f a key val sw : Nat → Int32) = upd (cutR f (nI (a)) 0 sw) (23 + 4 * a + 0) 2 from if_pos c16_1]
      exact hP
    exact gp_retz hX hr hlocks hS hP (P := ¬ cutP f) ((bI_0 (fun z => z c16_1)).symm) ⟨(bI_0 (fun z => z c16_1)).symm, rfl⟩ dX7_writes_27
theorem dX7_erases_0 : decode cX7_erases 0 = .ok (.aload_n 0, 1) := by decide +kernel
theorem dX7_erases_1 : decode cX7_erases 1 = .ok (.iconst 4, 1) := by decide +kernel
theorem dX7_erases_2 : decode cX7_erases 2 = .ok (.iload_n 1, 1) := by decide +kernel
theorem dX7_erases_3 : decode cX7_erases 3 = .ok (.imul, 1) := by decide +kernel
theorem dX7_erases_4 : decode cX7_erases 4 = .ok (.iconst 1, 1) := by decide +kernel
theorem dX7_erases_5 : decode cX7_erases 5 = .ok (.iconst 1, 1) := by decide +kernel
theorem dX7_erases_6 : decode cX7_erases 6 = .ok (.invokestatic 105, 3) := by decide +kernel
theorem dX7_erases_9 : decode cX7_erases 9 = .ok (.istore_n 2, 1) := by decide +kernel
theorem dX7_erases_10 : decode cX7_erases 10 = .ok (.aload_n 0, 1) := by decide +kernel
theorem dX7_erases_11 : decode cX7_erases 11 = .ok (.bipush 15, 2) := by decide +kernel
theorem dX7_erases_13 : decode cX7_erases 13 = .ok (.iload_n 1, 1) := by decide +kernel
theorem dX7_erases_14 : decode cX7_erases 14 = .ok (.iadd, 1) := by decide +kernel
theorem dX7_erases_15 : decode cX7_erases 15 = .ok (.dup2, 1) := by decide +kernel
theorem dX7_erases_16 : decode cX7_erases 16 = .ok (.iaload, 1) := by decide +kernel
theorem dX7_erases_17 : decode cX7_erases 17 = .ok (.iconst 1, 1) := by decide +kernel
theorem dX7_erases_18 : decode cX7_erases 18 = .ok (.iadd, 1) := by decide +kernel
theorem dX7_erases_19 : decode cX7_erases 19 = .ok (.iastore, 1) := by decide +kernel
theorem dX7_erases_20 : decode cX7_erases 20 = .ok (.aload_n 0, 1) := by decide +kernel
theorem dX7_erases_21 : decode cX7_erases 21 = .ok (.bipush 10, 2) := by decide +kernel
theorem dX7_erases_23 : decode cX7_erases 23 = .ok (.dup2, 1) := by decide +kernel
theorem dX7_erases_24 : decode cX7_erases 24 = .ok (.iaload, 1) := by decide +kernel
theorem dX7_erases_25 : decode cX7_erases 25 = .ok (.iload_n 2, 1) := by decide +kernel
theorem dX7_erases_26 : decode cX7_erases 26 = .ok (.ifCond .eq 7, 3) := by decide +kernel
theorem dX7_erases_29 : decode cX7_erases 29 = .ok (.iconst 0, 1) := by decide +kernel
theorem dX7_erases_30 : decode cX7_erases 30 = .ok (.goto 4, 3) := by decide +kernel
theorem dX7_erases_33 : decode cX7_erases 33 = .ok (.iconst 1, 1) := by decide +kernel
theorem dX7_erases_34 : decode cX7_erases 34 = .ok (.iadd, 1) := by decide +kernel
theorem dX7_erases_35 : decode cX7_erases 35 = .ok (.iastore, 1) := by decide +kernel
theorem dX7_erases_36 : decode cX7_erases 36 = .ok (.iconst 0, 1) := by decide +kernel
theorem dX7_erases_37 : decode cX7_erases 37 = .ok (.istore_n 3, 1) := by decide +kernel
theorem dX7_erases_38 : decode cX7_erases 38 = .ok (.iload_n 3, 1) := by decide +kernel
theorem dX7_erases_39 : decode cX7_erases 39 = .ok (.iconst 4, 1) := by decide +kernel
theorem dX7_erases_40 : decode cX7_erases 40 = .ok (.if_icmp .ge 30, 3) := by decide +kernel
theorem dX7_erases_43 : decode cX7_erases 43 = .ok (.aload_n 0, 1) := by decide +kernel
theorem dX7_erases_44 : decode cX7_erases 44 = .ok (.bipush 23, 2) := by decide +kernel
theorem dX7_erases_46 : decode cX7_erases 46 = .ok (.iconst 4, 1) := by decide +kernel
theorem dX7_erases_47 : decode cX7_erases 47 = .ok (.iconst 4, 1) := by decide +kernel
theorem dX7_erases_48 : decode cX7_erases 48 = .ok (.iload_n 1, 1) := by decide +kernel
theorem dX7_erases_49 : decode cX7_erases 49 = .ok (.imul, 1) := by decide +kernel
theorem dX7_erases_50 : decode cX7_erases 50 = .ok (.iload_n 3, 1) := by decide +kernel
theorem dX7_erases_51 : decode cX7_erases 51 = .ok (.iadd, 1) := by decide +kernel
theorem dX7_erases_52 : decode cX7_erases 52 = .ok (.imul, 1) := by decide +kernel
theorem dX7_erases_53 : decode cX7_erases 53 = .ok (.iadd, 1) := by decide +kernel
theorem dX7_erases_54 : decode cX7_erases 54 = .ok (.iload_n 2, 1) := by decide +kernel
theorem dX7_erases_55 : decode cX7_erases 55 = .ok (.ifCond .eq 7, 3) := by decide +kernel
theorem dX7_erases_58 : decode cX7_erases 58 = .ok (.iconst 2, 1) := by decide +kernel
theorem dX7_erases_59 : decode cX7_erases 59 = .ok (.goto 4, 3) := by decide +kernel
theorem dX7_erases_62 : decode cX7_erases 62 = .ok (.iconst 0, 1) := by decide +kernel
theorem dX7_erases_63 : decode cX7_erases 63 = .ok (.iastore, 1) := by decide +kernel
theorem dX7_erases_64 : decode cX7_erases 64 = .ok (.iinc 3 1, 3) := by decide +kernel
theorem dX7_erases_67 : decode cX7_erases 67 = .ok (.goto (-29), 3) := by decide +kernel
theorem dX7_erases_70 : decode cX7_erases 70 = .ok (.iload_n 2, 1) := by decide +kernel
theorem dX7_erases_71 : decode cX7_erases 71 = .ok (.ifCond .ne 7, 3) := by decide +kernel
theorem dX7_erases_74 : decode cX7_erases 74 = .ok (.iconst 1, 1) := by decide +kernel
theorem dX7_erases_75 : decode cX7_erases 75 = .ok (.goto 4, 3) := by decide +kernel
theorem dX7_erases_78 : decode cX7_erases 78 = .ok (.iconst 0, 1) := by decide +kernel
theorem dX7_erases_79 : decode cX7_erases 79 = .ok (.ireturn, 1) := by decide +kernel
theorem q7_erases : CQ W7 yX7_erases cX7_erases 4 (some .boolean) 2 := ⟨(m7 88 rfl), by decide, by decide, by decide +kernel⟩
set_option maxHeartbeats 4000000 in
set_option maxRecDepth 100000 in
theorem c7_erases (l : Launch) (D : va_G) (cI : ClassId) (r : Nat) (f : Nat → Int32) (b : Nat) (hb8 : b < 8) : GPi l yX7_erases cX7_erases 4 .boolean W7 1 23 D [(r, .inl (cI, 151, .inl f))] [(cI, .int)] [.ref r, .int (nI (b))] (fun (r9 : Int32) (u9 : va_W) => r9 = (bI (¬ cutP f)) ∧ u9 = [(r, .inl (cI, 151, .inl (erR f b)))]) := by
  refine gp_of RX7 (by decide) rfl (Nat.le_of_ble_eq_true rfl) ?_
  intro p e s m below meth c ls H hX hr hlocks hK hP hD hS hl
  generalize gp_A [(r, .inl (cI, 151, .inl f))] = A at hD hS ⊢
  have hx := hX.1
  have hb := hX.2.1
  have hown := hX.2.2.2.1
  have hts := hX.2.2.2.2
  have hl : lv_has ls 4 [(0, .ref r), (1, .int (nI (b)))] := hl
  refine lv_aload_n hx hb dX7_erases_0 rfl (lv_at hl 0 rfl) ?_
  refine lv_iconst (v := 4) hx hb dX7_erases_1 (by decide) ?_
  refine lv_iload_n hx hb dX7_erases_2 rfl (lv_at hl 1 rfl) ?_
  refine lv_imul hx hb dX7_erases_3 ?_
  refine lv_as (y := nI (4 * b)) (pk_mul (4) (b)) ?_
  refine lv_iconst (v := 1) hx hb dX7_erases_4 (by decide) ?_
  refine lv_iconst (v := 1) hx hb dX7_erases_5 (by decide) ?_
  refine gp_backi (gp_runS hX good7 i7 (c7_isCut l D cI r f (nI (4 * b)) 1 true) q7_isCut rfl (m7 71 rfl) (m7 72 rfl) ⟨Nat.le_of_ble_eq_true rfl, Nat.le_of_ble_eq_true rfl⟩ hK [0] rfl hP hD [0] (by decide) rfl hl.1 rfl (Nat.le_of_ble_eq_true rfl) dX7_erases_6 ⟨Nat.zero_le _, Nat.zero_le _⟩) hP hD hS [0] rfl (fun r u h => by rw [h.2]; simp only [List.map_cons, List.map_nil]) (fun r9 u H locs hpost hP hD hS => ?_)
  obtain ⟨hr9, rfl⟩ := hpost
  refine lv_as hr9 ?_
  have hP : va_P D vwCl [(r, .inl (cI, 151, .inl (cutR f (nI (4 * b)) 1 true)))] H := hP
  have hD : va_D A [(r, .inl (cI, 151, .inl (cutR f (nI (4 * b)) 1 true)))] := hD
  refine lv_istore_n (lv' := [(2, .int (bI (cutP f))), (0, .ref r), (1, .int (nI (b)))]) hx hb dX7_erases_9 rfl hl (by decide) rfl (fun ls hl => ?_)
  refine lv_aload_n hx hb dX7_erases_10 rfl (lv_at hl 1 rfl) ?_
  refine lv_bipush (v := 15) hx hb dX7_erases_11 (by decide) ?_
  refine lv_iload_n hx hb dX7_erases_13 rfl (lv_at hl 2 rfl) ?_
  refine lv_iadd hx hb dX7_erases_14 ?_
  refine lv_as (y := nI (15 + b)) (nI_add (15) (b)) ?_
  refine lv_dup2_11 hx hb dX7_erases_15 rfl rfl ?_
  refine ra_iald (i := 15 + b) hx hb hK hP 0 0 rfl rfl (by omega) (by decide) dX7_erases_16 ?_
  refine lv_iconst (v := 1) hx hb dX7_erases_17 (by decide) ?_
  refine lv_iadd hx hb dX7_erases_18 ?_
  refine ra_iast (i := 15 + b) hx hb hK hP hD hS 0 0 rfl rfl (by omega) (by decide) dX7_erases_19 (fun H locs hP hD hS => ?_)
  have hP : va_P D vwCl [(r, .inl (cI, 151, .inl (upd (cutR f (nI (4 * b)) 1 true) (15 + b) (((cutR f (nI (4 * b)) 1 true) (15 + b)) + 1))))] H := hP
  have hD : va_D A [(r, .inl (cI, 151, .inl (upd (cutR f (nI (4 * b)) 1 true) (15 + b) (((cutR f (nI (4 * b)) 1 true) (15 + b)) + 1))))] := hD
  refine lv_aload_n hx hb dX7_erases_20 rfl (lv_at hl 1 rfl) ?_
  refine lv_bipush (v := 10) hx hb dX7_erases_21 (by decide) ?_
  refine lv_dup2_11 hx hb dX7_erases_23 rfl rfl ?_
  refine ra_iald (i := 10) hx hb hK hP 0 0 rfl rfl (by omega) (by decide) dX7_erases_24 ?_
  refine lv_as (show (upd (cutR f (nI (4 * b)) 1 true) (15 + b) (((cutR f (nI (4 * b)) 1 true) (15 + b)) + 1)) (10) = (cutR f (nI (4 * b)) 1 true) (10) from (pk_un (by omega)).trans (rfl)) ?_
  refine lv_iload_n hx hb dX7_erases_25 rfl (lv_at hl 0 rfl) ?_
  refine lv_if_eq (tgt := 33) hx hb dX7_erases_26 (by decide) (fun c26_1 => ?_) (fun c26_1 => ?_)
  · skip
    have c26_1 := bI_f c26_1
    refine lv_iconst (v := 1) hx hb dX7_erases_33 (by decide) ?_
    refine lv_iadd hx hb dX7_erases_34 ?_
    refine ra_iast (i := 10) hx hb hK hP hD hS 0 0 rfl rfl (by omega) (by decide) dX7_erases_35 (fun H locs hP hD hS => ?_)
    have hP : va_P D vwCl [(r, .inl (cI, 151, .inl (upd (upd (cutR f (nI (4 * b)) 1 true) (15 + b) (((cutR f (nI (4 * b)) 1 true) (15 + b)) + 1)) 10 (((cutR f (nI (4 * b)) 1 true) (10)) + 1))))] H := hP
    have hD : va_D A [(r, .inl (cI, 151, .inl (upd (upd (cutR f (nI (4 * b)) 1 true) (15 + b) (((cutR f (nI (4 * b)) 1 true) (15 + b)) + 1)) 10 (((cutR f (nI (4 * b)) 1 true) (10)) + 1))))] := hD
    have hP : va_P D vwCl [(r, .inl (cI, 151, .inl (erG f b)))] H := by
      rw [show (erG f b : Nat → Int32) = upd (upd (cutR f (nI (4 * b)) 1 true) (15 + b) (((cutR f (nI (4 * b)) 1 true) (15 + b)) + 1)) 10 (((cutR f (nI (4 * b)) 1 true) (10)) + 1) from by rw [erG, if_neg c26_1]]
      exact hP
    have hD : va_D A [(r, .inl (cI, 151, .inl (erG f b)))] := by
      rw [show (erG f b : Nat → Int32) = upd (upd (cutR f (nI (4 * b)) 1 true) (15 + b) (((cutR f (nI (4 * b)) 1 true) (15 + b)) + 1)) 10 (((cutR f (nI (4 * b)) 1 true) (10)) + 1) from by rw [erG, if_neg c26_1]]
      exact hD
    refine lv_iconst (v := 0) hx hb dX7_erases_36 (by decide) ?_
    refine lv_istore_n (lv' := [(3, .int (0)), (2, .int (bI (cutP f))), (0, .ref r), (1, .int (nI (b)))]) hx hb dX7_erases_37 rfl hl (by decide) rfl (fun ls hl => ?_)
    have LP38 : ∀ n9 : Nat, ∀ (j : Nat), (hj : j ≤ 4) → 4 - j < n9 → ∀ (H : Heap) (locs : List Loc), va_P D vwCl [(r, .inl (cI, 151, .inl (stF (erG f b) b (if cutP f then 2 else 0) j)))] H → va_D A [(r, .inl (cI, 151, .inl (stF (erG f b) b (if cutP f then 2 else 0) j)))] → va_S A s.heap H locs → ∀ ls : Array Slot, lv_has ls 4 [(0, .ref r), (1, .int (nI (b))), (2, .int (bI (cutP f))), (3, .int (nI (j)))] → W p l e ({ frames := 1, cells := 0, slots := 0, locals := 23 } : Room) s m ([.ref r, .int (nI (b))] : List Value).toArray below meth c H locs 0 0 (MQ below (va_Qi (fun (r9 : Int32) (u9 : va_W) => r9 = (bI (¬ cutP f)) ∧ u9 = [(r, .inl (cI, 151, .inl (erR f b)))]) (fun u t => va_P D vwCl u t.heap) A) ([.ref r, .int (nI (b))] : List Value).toArray s 0 0 A) (F0 m 38 ls []) := by
      intro n9
      induction n9 with
      | zero => intros; omega
      | succ n9 ih38 =>
        intro j hj hm9 H locs hP hD hS ls hl
        refine lv_iload_n hx hb dX7_erases_38 rfl (lv_at hl 3 rfl) ?_
        refine lv_iconst (v := 4) hx hb dX7_erases_39 (by decide) ?_
        refine lv_icmp_ge (tgt := 70) hx hb dX7_erases_40 (by decide) (fun c40_2 => ?_) (fun c40_2 => ?_)
        · skip
          have c40_2 := cn_le (a := 4) (b := j) (by omega) (by omega) c40_2
          refine lv_iload_n hx hb dX7_erases_70 rfl (lv_at hl 2 rfl) ?_
          refine lv_if_ne (tgt := 78) hx hb dX7_erases_71 (by decide) (fun c71_3 => ?_) (fun c71_3 => ?_)
          · skip
            have c71_3 := bI_t c71_3
            exact absurd c71_3 c26_1
          · skip
            have c71_3 := bI_f c71_3
            refine lv_iconst (v := 1) hx hb dX7_erases_74 (by decide) ?_
            refine lv_goto (tgt := 79) hx hb dX7_erases_75 (by decide) ?_
            have hP : va_P D vwCl [(r, .inl (cI, 151, .inl (erR f b)))] H := by
              rw [show (erR f b : Nat → Int32) = stF (erG f b) b (if cutP f then 2 else 0) j from by rw [erR, show j = 4 by omega]]
              exact hP
            exact gp_retz hX hr hlocks hS hP (P := ¬ cutP f) ((bI_1 c71_3).symm) ⟨(bI_1 c71_3).symm, rfl⟩ dX7_erases_79
        · skip
          have c40_2 := cn_nle (a := 4) (b := j) (by omega) (by omega) c40_2
          refine lv_aload_n hx hb dX7_erases_43 rfl (lv_at hl 0 rfl) ?_
          refine lv_bipush (v := 23) hx hb dX7_erases_44 (by decide) ?_
          refine lv_iconst (v := 4) hx hb dX7_erases_46 (by decide) ?_
          refine lv_iconst (v := 4) hx hb dX7_erases_47 (by decide) ?_
          refine lv_iload_n hx hb dX7_erases_48 rfl (lv_at hl 1 rfl) ?_
          refine lv_imul hx hb dX7_erases_49 ?_
          refine lv_as (y := nI (4 * b)) (pk_mul (4) (b)) ?_
          refine lv_iload_n hx hb dX7_erases_50 rfl (lv_at hl 3 rfl) ?_
          refine lv_iadd hx hb dX7_erases_51 ?_
          refine lv_as (y := nI (4 * b + j)) (nI_add (4 * b) (j)) ?_
          refine lv_imul hx hb dX7_erases_52 ?_
          refine lv_as (y := nI (4 * (4 * b + j))) (pk_mul (4) (4 * b + j)) ?_
          refine lv_iadd hx hb dX7_erases_53 ?_
          refine lv_as (y := nI (23 + 4 * (4 * b + j))) (nI_add (23) (4 * (4 * b + j))) ?_
          refine lv_iload_n hx hb dX7_erases_54 rfl (lv_at hl 2 rfl) ?_
          refine lv_if_eq (tgt := 62) hx hb dX7_erases_55 (by decide) (fun c55_4 => ?_) (fun c55_4 => ?_)
          · skip
            have c55_4 := bI_f c55_4
            refine lv_iconst (v := 0) hx hb dX7_erases_62 (by decide) ?_
            refine ra_iast (i := 23 + 4 * (4 * b + j)) hx hb hK hP hD hS 0 0 rfl rfl (by omega) (by decide) dX7_erases_63 (fun H locs hP hD hS => ?_)
            have hP : va_P D vwCl [(r, .inl (cI, 151, .inl (upd (stF (erG f b) b (if cutP f then 2 else 0) j) (23 + 4 * (4 * b + j)) 0)))] H := hP
            have hD : va_D A [(r, .inl (cI, 151, .inl (upd (stF (erG f b) b (if cutP f then 2 else 0) j) (23 + 4 * (4 * b + j)) 0)))] := hD
            refine lv_iinc (v := nI (j + 1)) (lv' := [(3, .int (nI (j + 1))), (0, .ref r), (1, .int (nI (b))), (2, .int (bI (cutP f)))]) hx hb dX7_erases_64 hl (k := 3) rfl (nI_add _ 1) (by decide) rfl (fun ls hl => ?_)
            refine lv_goto (tgt := 38) hx hb dX7_erases_67 (by decide) ?_
            have hl : lv_has ls 4 [(3, .int (nI ((j + 1)))), (0, .ref r), (1, .int (nI (b))), (2, .int (bI (cutP f)))] := lv_re hl 0 rfl (show nI (j + 1) = nI ((j + 1)) from rfl)
            have hP : va_P D vwCl [(r, .inl (cI, 151, .inl (stF (erG f b) b (if cutP f then 2 else 0) (j + 1))))] H := by
              rw [show (stF (erG f b) b (if cutP f then 2 else 0) (j + 1) : Nat → Int32) = upd (stF (erG f b) b (if cutP f then 2 else 0) j) (23 + 4 * (4 * b + j)) 0 from by rw [stF, if_neg c55_4]]
              exact hP
            have hD : va_D A [(r, .inl (cI, 151, .inl (stF (erG f b) b (if cutP f then 2 else 0) (j + 1))))] := by
              rw [show (stF (erG f b) b (if cutP f then 2 else 0) (j + 1) : Nat → Int32) = upd (stF (erG f b) b (if cutP f then 2 else 0) j) (23 + 4 * (4 * b + j)) 0 from by rw [stF, if_neg c55_4]]
              exact hD
            have hP : va_P D vwCl [(r, .inl (cI, 151, .inl (stF (erG f b) b (if cutP f then 2 else 0) (j + 1))))] H := hP
            have hD : va_D A [(r, .inl (cI, 151, .inl (stF (erG f b) b (if cutP f then 2 else 0) (j + 1))))] := hD
            exact ih38 (j + 1) (by omega) (by omega) _ _ hP hD hS _ (lv_sub hl [1, 2, 3, 0] rfl)
          · skip
            have c55_4 := bI_t c55_4
            exact absurd c55_4 c26_1
    have hl : lv_has ls 4 [(3, .int (nI (0))), (2, .int (bI (cutP f))), (0, .ref r), (1, .int (nI (b)))] := lv_re hl 0 rfl (show 0 = nI (0) from rfl)
    have hP : va_P D vwCl [(r, .inl (cI, 151, .inl (stF (erG f b) b (if cutP f then 2 else 0) 0)))] H := by
      rw [show (stF (erG f b) b (if cutP f then 2 else 0) 0 : Nat → Int32) = erG f b from rfl]
      exact hP
    have hD : va_D A [(r, .inl (cI, 151, .inl (stF (erG f b) b (if cutP f then 2 else 0) 0)))] := by
      rw [show (stF (erG f b) b (if cutP f then 2 else 0) 0 : Nat → Int32) = erG f b from rfl]
      exact hD
    have hP : va_P D vwCl [(r, .inl (cI, 151, .inl (stF (erG f b) b (if cutP f then 2 else 0) 0)))] H := hP
    have hD : va_D A [(r, .inl (cI, 151, .inl (stF (erG f b) b (if cutP f then 2 else 0) 0)))] := hD
    exact LP38 ((4 - 0) + 1) 0 (by omega) (by omega) _ _ hP hD hS _ (lv_sub hl [2, 3, 1, 0] rfl)
  · skip
    have c26_1 := bI_t c26_1
    refine lv_iconst (v := 0) hx hb dX7_erases_29 (by decide) ?_
    refine lv_goto (tgt := 34) hx hb dX7_erases_30 (by decide) ?_
    refine lv_iadd hx hb dX7_erases_34 ?_
    refine ra_iast (i := 10) hx hb hK hP hD hS 0 0 rfl rfl (by omega) (by decide) dX7_erases_35 (fun H locs hP hD hS => ?_)
    have hP : va_P D vwCl [(r, .inl (cI, 151, .inl (upd (upd (cutR f (nI (4 * b)) 1 true) (15 + b) (((cutR f (nI (4 * b)) 1 true) (15 + b)) + 1)) 10 (((cutR f (nI (4 * b)) 1 true) (10)) + 0))))] H := hP
    have hD : va_D A [(r, .inl (cI, 151, .inl (upd (upd (cutR f (nI (4 * b)) 1 true) (15 + b) (((cutR f (nI (4 * b)) 1 true) (15 + b)) + 1)) 10 (((cutR f (nI (4 * b)) 1 true) (10)) + 0))))] := hD
    have hP : va_P D vwCl [(r, .inl (cI, 151, .inl (erG f b)))] H := by
      rw [show (erG f b : Nat → Int32) = upd (upd (cutR f (nI (4 * b)) 1 true) (15 + b) (((cutR f (nI (4 * b)) 1 true) (15 + b)) + 1)) 10 (((cutR f (nI (4 * b)) 1 true) (10)) + 0) from by rw [erG, if_pos c26_1]]
      exact hP
    have hD : va_D A [(r, .inl (cI, 151, .inl (erG f b)))] := by
      rw [show (erG f b : Nat → Int32) = upd (upd (cutR f (nI (4 * b)) 1 true) (15 + b) (((cutR f (nI (4 * b)) 1 true) (15 + b)) + 1)) 10 (((cutR f (nI (4 * b)) 1 true) (10)) + 0) from by rw [erG, if_pos c26_1]]
      exact hD
    refine lv_iconst (v := 0) hx hb dX7_erases_36 (by decide) ?_
    refine lv_istore_n (lv' := [(3, .int (0)), (2, .int (bI (cutP f))), (0, .ref r), (1, .int (nI (b)))]) hx hb dX7_erases_37 rfl hl (by decide) rfl (fun ls hl => ?_)
    have LP38 : ∀ n9 : Nat, ∀ (j : Nat), (hj : j ≤ 4) → 4 - j < n9 → ∀ (H : Heap) (locs : List Loc), va_P D vwCl [(r, .inl (cI, 151, .inl (stF (erG f b) b (if cutP f then 2 else 0) j)))] H → va_D A [(r, .inl (cI, 151, .inl (stF (erG f b) b (if cutP f then 2 else 0) j)))] → va_S A s.heap H locs → ∀ ls : Array Slot, lv_has ls 4 [(0, .ref r), (1, .int (nI (b))), (2, .int (bI (cutP f))), (3, .int (nI (j)))] → W p l e ({ frames := 1, cells := 0, slots := 0, locals := 23 } : Room) s m ([.ref r, .int (nI (b))] : List Value).toArray below meth c H locs 0 0 (MQ below (va_Qi (fun (r9 : Int32) (u9 : va_W) => r9 = (bI (¬ cutP f)) ∧ u9 = [(r, .inl (cI, 151, .inl (erR f b)))]) (fun u t => va_P D vwCl u t.heap) A) ([.ref r, .int (nI (b))] : List Value).toArray s 0 0 A) (F0 m 38 ls []) := by
      intro n9
      induction n9 with
      | zero => intros; omega
      | succ n9 ih38 =>
        intro j hj hm9 H locs hP hD hS ls hl
        refine lv_iload_n hx hb dX7_erases_38 rfl (lv_at hl 3 rfl) ?_
        refine lv_iconst (v := 4) hx hb dX7_erases_39 (by decide) ?_
        refine lv_icmp_ge (tgt := 70) hx hb dX7_erases_40 (by decide) (fun c40_5 => ?_) (fun c40_5 => ?_)
        · skip
          have c40_5 := cn_le (a := 4) (b := j) (by omega) (by omega) c40_5
          refine lv_iload_n hx hb dX7_erases_70 rfl (lv_at hl 2 rfl) ?_
          refine lv_if_ne (tgt := 78) hx hb dX7_erases_71 (by decide) (fun c71_6 => ?_) (fun c71_6 => ?_)
          · skip
            have c71_6 := bI_t c71_6
            refine lv_iconst (v := 0) hx hb dX7_erases_78 (by decide) ?_
            have hP : va_P D vwCl [(r, .inl (cI, 151, .inl (erR f b)))] H := by
              rw [show (erR f b : Nat → Int32) = stF (erG f b) b (if cutP f then 2 else 0) j from by rw [erR, show j = 4 by omega]]
              exact hP
            exact gp_retz hX hr hlocks hS hP (P := ¬ cutP f) ((bI_0 (fun z => z c71_6)).symm) ⟨(bI_0 (fun z => z c71_6)).symm, rfl⟩ dX7_erases_79
          · skip
            have c71_6 := bI_f c71_6
            exact absurd c26_1 c71_6
        · skip
          have c40_5 := cn_nle (a := 4) (b := j) (by omega) (by omega) c40_5
          refine lv_aload_n hx hb dX7_erases_43 rfl (lv_at hl 0 rfl) ?_
          refine lv_bipush (v := 23) hx hb dX7_erases_44 (by decide) ?_
          refine lv_iconst (v := 4) hx hb dX7_erases_46 (by decide) ?_
          refine lv_iconst (v := 4) hx hb dX7_erases_47 (by decide) ?_
          refine lv_iload_n hx hb dX7_erases_48 rfl (lv_at hl 1 rfl) ?_
          refine lv_imul hx hb dX7_erases_49 ?_
          refine lv_as (y := nI (4 * b)) (pk_mul (4) (b)) ?_
          refine lv_iload_n hx hb dX7_erases_50 rfl (lv_at hl 3 rfl) ?_
          refine lv_iadd hx hb dX7_erases_51 ?_
          refine lv_as (y := nI (4 * b + j)) (nI_add (4 * b) (j)) ?_
          refine lv_imul hx hb dX7_erases_52 ?_
          refine lv_as (y := nI (4 * (4 * b + j))) (pk_mul (4) (4 * b + j)) ?_
          refine lv_iadd hx hb dX7_erases_53 ?_
          refine lv_as (y := nI (23 + 4 * (4 * b + j))) (nI_add (23) (4 * (4 * b + j))) ?_
          refine lv_iload_n hx hb dX7_erases_54 rfl (lv_at hl 2 rfl) ?_
          refine lv_if_eq (tgt := 62) hx hb dX7_erases_55 (by decide) (fun c55_7 => ?_) (fun c55_7 => ?_)
          · skip
            have c55_7 := bI_f c55_7
            exact absurd c26_1 c55_7
          · skip
            have c55_7 := bI_t c55_7
            refine lv_iconst (v := 2) hx hb dX7_erases_58 (by decide) ?_
            refine lv_goto (tgt := 63) hx hb dX7_erases_59 (by decide) ?_
            refine ra_iast (i := 23 + 4 * (4 * b + j)) hx hb hK hP hD hS 0 0 rfl rfl (by omega) (by decide) dX7_erases_63 (fun H locs hP hD hS => ?_)
            have hP : va_P D vwCl [(r, .inl (cI, 151, .inl (upd (stF (erG f b) b (if cutP f then 2 else 0) j) (23 + 4 * (4 * b + j)) 2)))] H := hP
            have hD : va_D A [(r, .inl (cI, 151, .inl (upd (stF (erG f b) b (if cutP f then 2 else 0) j) (23 + 4 * (4 * b + j)) 2)))] := hD
            refine lv_iinc (v := nI (j + 1)) (lv' := [(3, .int (nI (j + 1))), (0, .ref r), (1, .int (nI (b))), (2, .int (bI (cutP f)))]) hx hb dX7_erases_64 hl (k := 3) rfl (nI_add _ 1) (by decide) rfl (fun ls hl => ?_)
            refine lv_goto (tgt := 38) hx hb dX7_erases_67 (by decide) ?_
            have hl : lv_has ls 4 [(3, .int (nI ((j + 1)))), (0, .ref r), (1, .int (nI (b))), (2, .int (bI (cutP f)))] := lv_re hl 0 rfl (show nI (j + 1) = nI ((j + 1)) from rfl)
            have hP : va_P D vwCl [(r, .inl (cI, 151, .inl (stF (erG f b) b (if cutP f then 2 else 0) (j + 1))))] H := by
              rw [show (stF (erG f b) b (if cutP f then 2 else 0) (j + 1) : Nat → Int32) = upd (stF (erG f b) b (if cutP f then 2 else 0) j) (23 + 4 * (4 * b + j)) 2 from by rw [stF, if_pos c55_7]]
              exact hP
            have hD : va_D A [(r, .inl (cI, 151, .inl (stF (erG f b) b (if cutP f then 2 else 0) (j + 1))))] := by
              rw [show (stF (erG f b) b (if cutP f then 2 else 0) (j + 1) : Nat → Int32) = upd (stF (erG f b) b (if cutP f then 2 else 0) j) (23 + 4 * (4 * b + j)) 2 from by rw [stF, if_pos c55_7]]
              exact hD
            have hP : va_P D vwCl [(r, .inl (cI, 151, .inl (stF (erG f b) b (if cutP f then 2 else 0) (j + 1))))] H := hP
            have hD : va_D A [(r, .inl (cI, 151, .inl (stF (erG f b) b (if cutP f then 2 else 0) (j + 1))))] := hD
            exact ih38 (j + 1) (by omega) (by omega) _ _ hP hD hS _ (lv_sub hl [1, 2, 3, 0] rfl)
    have hl : lv_has ls 4 [(3, .int (nI (0))), (2, .int (bI (cutP f))), (0, .ref r), (1, .int (nI (b)))] := lv_re hl 0 rfl (show 0 = nI (0) from rfl)
    have hP : va_P D vwCl [(r, .inl (cI, 151, .inl (stF (erG f b) b (if cutP f then 2 else 0) 0)))] H := by
      rw [show (stF (erG f b) b (if cutP f then 2 else 0) 0 : Nat → Int32) = erG f b from rfl]
      exact hP
    have hD : va_D A [(r, .inl (cI, 151, .inl (stF (erG f b) b (if cutP f then 2 else 0) 0)))] := by
      rw [show (stF (erG f b) b (if cutP f then 2 else 0) 0 : Nat → Int32) = erG f b from rfl]
      exact hD
    have hP : va_P D vwCl [(r, .inl (cI, 151, .inl (stF (erG f b) b (if cutP f then 2 else 0) 0)))] H := hP
    have hD : va_D A [(r, .inl (cI, 151, .inl (stF (erG f b) b (if cutP f then 2 else 0) 0)))] := hD
    exact LP38 ((4 - 0) + 1) 0 (by omega) (by omega) _ _ hP hD hS _ (lv_sub hl [2, 3, 1, 0] rfl)
theorem dX7_powerUp_0 : decode cX7_powerUp 0 = .ok (.aload_n 0, 1) := by decide +kernel
theorem dX7_powerUp_1 : decode cX7_powerUp 1 = .ok (.iconst 2, 1) := by decide +kernel
theorem dX7_powerUp_2 : decode cX7_powerUp 2 = .ok (.iconst 1, 1) := by decide +kernel
theorem dX7_powerUp_3 : decode cX7_powerUp 3 = .ok (.iastore, 1) := by decide +kernel
theorem dX7_powerUp_4 : decode cX7_powerUp 4 = .ok (.aload_n 0, 1) := by decide +kernel
theorem dX7_powerUp_5 : decode cX7_powerUp 5 = .ok (.iconst 3, 1) := by decide +kernel
theorem dX7_powerUp_6 : decode cX7_powerUp 6 = .ok (.bipush (-9), 2) := by decide +kernel
theorem dX7_powerUp_8 : decode cX7_powerUp 8 = .ok (.iastore, 1) := by decide +kernel
theorem dX7_powerUp_9 : decode cX7_powerUp 9 = .ok (.bipush (-9), 2) := by decide +kernel
theorem dX7_powerUp_11 : decode cX7_powerUp 11 = .ok (.istore_n 1, 1) := by decide +kernel
theorem dX7_powerUp_12 : decode cX7_powerUp 12 = .ok (.iconst 0, 1) := by decide +kernel
theorem dX7_powerUp_13 : decode cX7_powerUp 13 = .ok (.istore_n 2, 1) := by decide +kernel
theorem dX7_powerUp_14 : decode cX7_powerUp 14 = .ok (.iload_n 2, 1) := by decide +kernel
theorem dX7_powerUp_15 : decode cX7_powerUp 15 = .ok (.aload_n 0, 1) := by decide +kernel
theorem dX7_powerUp_16 : decode cX7_powerUp 16 = .ok (.invokestatic 56, 3) := by decide +kernel
theorem dX7_powerUp_19 : decode cX7_powerUp 19 = .ok (.if_icmp .ge 40, 3) := by decide +kernel
theorem dX7_powerUp_22 : decode cX7_powerUp 22 = .ok (.aload_n 0, 1) := by decide +kernel
theorem dX7_powerUp_23 : decode cX7_powerUp 23 = .ok (.iload_n 2, 1) := by decide +kernel
theorem dX7_powerUp_24 : decode cX7_powerUp 24 = .ok (.invokestatic 60, 3) := by decide +kernel
theorem dX7_powerUp_27 : decode cX7_powerUp 27 = .ok (.ifCond .eq 26, 3) := by decide +kernel
theorem dX7_powerUp_30 : decode cX7_powerUp 30 = .ok (.iload_n 1, 1) := by decide +kernel
theorem dX7_powerUp_31 : decode cX7_powerUp 31 = .ok (.bipush (-9), 2) := by decide +kernel
theorem dX7_powerUp_33 : decode cX7_powerUp 33 = .ok (.if_icmp .eq 18, 3) := by decide +kernel
theorem dX7_powerUp_36 : decode cX7_powerUp 36 = .ok (.aload_n 0, 1) := by decide +kernel
theorem dX7_powerUp_37 : decode cX7_powerUp 37 = .ok (.iload_n 2, 1) := by decide +kernel
theorem dX7_powerUp_38 : decode cX7_powerUp 38 = .ok (.iconst 3, 1) := by decide +kernel
theorem dX7_powerUp_39 : decode cX7_powerUp 39 = .ok (.invokestatic 52, 3) := by decide +kernel
theorem dX7_powerUp_42 : decode cX7_powerUp 42 = .ok (.aload_n 0, 1) := by decide +kernel
theorem dX7_powerUp_43 : decode cX7_powerUp 43 = .ok (.iload_n 1, 1) := by decide +kernel
theorem dX7_powerUp_44 : decode cX7_powerUp 44 = .ok (.iconst 3, 1) := by decide +kernel
theorem dX7_powerUp_45 : decode cX7_powerUp 45 = .ok (.invokestatic 52, 3) := by decide +kernel
theorem dX7_powerUp_48 : decode cX7_powerUp 48 = .ok (.if_icmp .le 5, 3) := by decide +kernel
theorem dX7_powerUp_51 : decode cX7_powerUp 51 = .ok (.iload_n 2, 1) := by decide +kernel
theorem dX7_powerUp_52 : decode cX7_powerUp 52 = .ok (.istore_n 1, 1) := by decide +kernel
theorem dX7_powerUp_53 : decode cX7_powerUp 53 = .ok (.iinc 2 1, 3) := by decide +kernel
theorem dX7_powerUp_56 : decode cX7_powerUp 56 = .ok (.goto (-42), 3) := by decide +kernel
theorem dX7_powerUp_59 : decode cX7_powerUp 59 = .ok (.aload_n 0, 1) := by decide +kernel
theorem dX7_powerUp_60 : decode cX7_powerUp 60 = .ok (.iconst 4, 1) := by decide +kernel
theorem dX7_powerUp_61 : decode cX7_powerUp 61 = .ok (.iload_n 1, 1) := by decide +kernel
theorem dX7_powerUp_62 : decode cX7_powerUp 62 = .ok (.bipush (-9), 2) := by decide +kernel
theorem dX7_powerUp_64 : decode cX7_powerUp 64 = .ok (.if_icmp .ne 7, 3) := by decide +kernel
theorem dX7_powerUp_67 : decode cX7_powerUp 67 = .ok (.iconst 1, 1) := by decide +kernel
theorem dX7_powerUp_68 : decode cX7_powerUp 68 = .ok (.goto 11, 3) := by decide +kernel
theorem dX7_powerUp_71 : decode cX7_powerUp 71 = .ok (.aload_n 0, 1) := by decide +kernel
theorem dX7_powerUp_72 : decode cX7_powerUp 72 = .ok (.iload_n 1, 1) := by decide +kernel
theorem dX7_powerUp_73 : decode cX7_powerUp 73 = .ok (.iconst 3, 1) := by decide +kernel
theorem dX7_powerUp_74 : decode cX7_powerUp 74 = .ok (.invokestatic 52, 3) := by decide +kernel
theorem dX7_powerUp_77 : decode cX7_powerUp 77 = .ok (.iconst 1, 1) := by decide +kernel
theorem dX7_powerUp_78 : decode cX7_powerUp 78 = .ok (.iadd, 1) := by decide +kernel
theorem dX7_powerUp_79 : decode cX7_powerUp 79 = .ok (.iastore, 1) := by decide +kernel
theorem dX7_powerUp_80 : decode cX7_powerUp 80 = .ok (.iload_n 1, 1) := by decide +kernel
theorem dX7_powerUp_81 : decode cX7_powerUp 81 = .ok (.bipush (-9), 2) := by decide +kernel
theorem dX7_powerUp_83 : decode cX7_powerUp 83 = .ok (.if_icmp .eq 19, 3) := by decide +kernel
theorem dX7_powerUp_86 : decode cX7_powerUp 86 = .ok (.aload_n 0, 1) := by decide +kernel
theorem dX7_powerUp_87 : decode cX7_powerUp 87 = .ok (.iload_n 1, 1) := by decide +kernel
theorem dX7_powerUp_88 : decode cX7_powerUp 88 = .ok (.iconst 4, 1) := by decide +kernel
theorem dX7_powerUp_89 : decode cX7_powerUp 89 = .ok (.idiv, 1) := by decide +kernel
theorem dX7_powerUp_90 : decode cX7_powerUp 90 = .ok (.invokestatic 80, 3) := by decide +kernel
theorem dX7_powerUp_93 : decode cX7_powerUp 93 = .ok (.ifCond .le 9, 3) := by decide +kernel
theorem dX7_powerUp_96 : decode cX7_powerUp 96 = .ok (.aload_n 0, 1) := by decide +kernel
theorem dX7_powerUp_97 : decode cX7_powerUp 97 = .ok (.iconst 3, 1) := by decide +kernel
theorem dX7_powerUp_98 : decode cX7_powerUp 98 = .ok (.iload_n 1, 1) := by decide +kernel
theorem dX7_powerUp_99 : decode cX7_powerUp 99 = .ok (.iconst 4, 1) := by decide +kernel
theorem dX7_powerUp_100 : decode cX7_powerUp 100 = .ok (.idiv, 1) := by decide +kernel
theorem dX7_powerUp_101 : decode cX7_powerUp 101 = .ok (.iastore, 1) := by decide +kernel
theorem dX7_powerUp_102 : decode cX7_powerUp 102 = .ok (.return_, 1) := by decide +kernel
theorem q7_powerUp : CQ W7 yX7_powerUp cX7_powerUp 3 none 1 := ⟨(m7 111 rfl), by decide, by decide, by decide +kernel⟩
set_option maxHeartbeats 4000000 in
set_option maxRecDepth 100000 in
theorem c7_powerUp (l : Launch) (D : va_G) (cI : ClassId) (r : Nat) (f : Nat → Int32) (B : Nat) (hB : f 0 = nI B) (hB8 : B ≤ 8) : GPv l yX7_powerUp cX7_powerUp 3 W7 2 44 D [(r, .inl (cI, 151, .inl f))] [(cI, .int)] [.ref r] (fun u9 : va_W => u9 = [(r, .inl (cI, 151, .inl (puR f B)))]) := by
  refine gp_of RX7 (by decide) rfl (Nat.le_of_ble_eq_true rfl) ?_
  intro p e s m below meth c ls H hX hr hlocks hK hP hD hS hl
  generalize gp_A [(r, .inl (cI, 151, .inl f))] = A at hD hS ⊢
  have hx := hX.1
  have hb := hX.2.1
  have hown := hX.2.2.2.1
  have hts := hX.2.2.2.2
  have hl : lv_has ls 3 [(0, .ref r)] := hl
  refine lv_aload_n hx hb dX7_powerUp_0 rfl (lv_at hl 0 rfl) ?_
  refine lv_iconst (v := 2) hx hb dX7_powerUp_1 (by decide) ?_
  refine lv_iconst (v := 1) hx hb dX7_powerUp_2 (by decide) ?_
  refine ra_iast (i := 2) hx hb hK hP hD hS 0 0 rfl rfl (by omega) (by decide) dX7_powerUp_3 (fun H locs hP hD hS => ?_)
  have hP : va_P D vwCl [(r, .inl (cI, 151, .inl (upd f 2 1)))] H := hP
  have hD : va_D A [(r, .inl (cI, 151, .inl (upd f 2 1)))] := hD
  refine lv_aload_n hx hb dX7_powerUp_4 rfl (lv_at hl 0 rfl) ?_
  refine lv_iconst (v := 3) hx hb dX7_powerUp_5 (by decide) ?_
  refine lv_bipush (v := (-9)) hx hb dX7_powerUp_6 (by decide) ?_
  refine ra_iast (i := 3) hx hb hK hP hD hS 0 0 rfl rfl (by omega) (by decide) dX7_powerUp_8 (fun H locs hP hD hS => ?_)
  have hP : va_P D vwCl [(r, .inl (cI, 151, .inl (upd (upd f 2 1) 3 (-9))))] H := hP
  have hD : va_D A [(r, .inl (cI, 151, .inl (upd (upd f 2 1) 3 (-9))))] := hD
  obtain ⟨g, hg⟩ : ∃ g, g = puG f := ⟨_, rfl⟩
  have hgB : g 0 = nI B := by rw [hg]; exact hB
  have hP : va_P D vwCl [(r, .inl (cI, 151, .inl g))] H := by rw [hg]; exact hP
  have hD : va_D A [(r, .inl (cI, 151, .inl g))] := by rw [hg]; exact hD
  skip
  refine lv_bipush (v := (-9)) hx hb dX7_powerUp_9 (by decide) ?_
  refine lv_istore_n (lv' := [(1, .int ((-9))), (0, .ref r)]) hx hb dX7_powerUp_11 rfl hl (by decide) rfl (fun ls hl => ?_)
  refine lv_iconst (v := 0) hx hb dX7_powerUp_12 (by decide) ?_
  refine lv_istore_n (lv' := [(2, .int (0)), (1, .int ((-9))), (0, .ref r)]) hx hb dX7_powerUp_13 rfl hl (by decide) rfl (fun ls hl => ?_)
  have LP14 : ∀ n9 : Nat, ∀ (j : Nat), (hj : j ≤ 4 * B) → 4 * B - j < n9 → ∀ (H : Heap) (locs : List Loc), va_P D vwCl [(r, .inl (cI, 151, .inl g))] H → va_D A [(r, .inl (cI, 151, .inl g))] → va_S A s.heap H locs → ∀ ls : Array Slot, lv_has ls 3 [(0, .ref r), (1, .int (oI (nwa g j))), (2, .int (nI (j)))] → W p l e ({ frames := 2, cells := 0, slots := 0, locals := 44 } : Room) s m ([.ref r] : List Value).toArray below meth c H locs 0 0 (MQ below (va_Qv (fun u9 : va_W => u9 = [(r, .inl (cI, 151, .inl (puR f B)))]) (fun u t => va_P D vwCl u t.heap) A) ([.ref r] : List Value).toArray s 0 0 A) (F0 m 14 ls []) := by
    intro n9
    induction n9 with
    | zero => intros; omega
    | succ n9 ih14 =>
      intro j hj hm9 H locs hP hD hS ls hl
      refine lv_iload_n hx hb dX7_powerUp_14 rfl (lv_at hl 2 rfl) ?_
      refine lv_aload_n hx hb dX7_powerUp_15 rfl (lv_at hl 0 rfl) ?_
      refine rp_callS hX good7 i7 (c7_pages l D cI r g B hgB) q7_pages rfl (m7 26 rfl) (m7 27 rfl) ⟨Nat.le_of_ble_eq_true rfl, Nat.le_of_ble_eq_true rfl⟩ hK [0] rfl hP [0] rfl hS hl.1 rfl (Nat.le_of_ble_eq_true rfl) dX7_powerUp_16 ⟨Nat.zero_le _, Nat.zero_le _⟩ (fun H locs hP hS => ?_)
      refine lv_icmp_ge (tgt := 59) hx hb dX7_powerUp_19 (by decide) (fun c19_1 => ?_) (fun c19_1 => ?_)
      · skip
        have c19_1 := cn_le (a := 4 * B) (b := j) (by omega) (by omega) c19_1
        have e9 : j = 4 * B := by omega
        rcases hO2 : nwa g j with _ | o2
        · skip
          have hl : lv_has ls 3 [(0, .ref r), (1, .int ((-9))), (2, .int (nI (j)))] := by rw [hO2] at hl; exact hl
          refine lv_aload_n hx hb dX7_powerUp_59 rfl (lv_at hl 0 rfl) ?_
          refine lv_iconst (v := 4) hx hb dX7_powerUp_60 (by decide) ?_
          refine lv_iload_n hx hb dX7_powerUp_61 rfl (lv_at hl 1 rfl) ?_
          refine lv_bipush (v := (-9)) hx hb dX7_powerUp_62 (by decide) ?_
          refine lv_icmp_ne (tgt := 71) hx hb dX7_powerUp_64 (by decide) (fun c64_3 => ?_) (fun c64_3 => ?_)
          · skip
            exact absurd c64_3 (by decide)
          · skip
            refine lv_iconst (v := 1) hx hb dX7_powerUp_67 (by decide) ?_
            refine lv_goto (tgt := 79) hx hb dX7_powerUp_68 (by decide) ?_
            refine ra_iast (i := 4) hx hb hK hP hD hS 0 0 rfl rfl (by omega) (by decide) dX7_powerUp_79 (fun H locs hP hD hS => ?_)
            have hP : va_P D vwCl [(r, .inl (cI, 151, .inl (upd g 4 1)))] H := hP
            have hD : va_D A [(r, .inl (cI, 151, .inl (upd g 4 1)))] := hD
            have hP : va_P D vwCl [(r, .inl (cI, 151, .inl (puH g none)))] H := by
              rw [show (puH g none : Nat → Int32) = upd g 4 1 from rfl]
              exact hP
            have hD : va_D A [(r, .inl (cI, 151, .inl (puH g none)))] := by
              rw [show (puH g none : Nat → Int32) = upd g 4 1 from rfl]
              exact hD
            refine lv_iload_n hx hb dX7_powerUp_80 rfl (lv_at hl 1 rfl) ?_
            refine lv_bipush (v := (-9)) hx hb dX7_powerUp_81 (by decide) ?_
            refine lv_icmp_eq (tgt := 102) hx hb dX7_powerUp_83 (by decide) (fun c83_4 => ?_) (fun c83_4 => ?_)
            · skip
              have hP : va_P D vwCl [(r, .inl (cI, 151, .inl (puR f B)))] H := by
                rw [show (puR f B : Nat → Int32) = puH g none from by rw [puR, ← hg, ← e9, hO2]]
                exact hP
              exact gp_retv hX hr hlocks hS hP rfl dX7_powerUp_102
            · skip
              exact absurd c83_4 (by decide)
        · skip
          have hl : lv_has ls 3 [(0, .ref r), (1, .int (nI (o2))), (2, .int (nI (j)))] := by rw [hO2] at hl; exact hl
          have ho2 := nwa_lt hO2
          refine lv_aload_n hx hb dX7_powerUp_59 rfl (lv_at hl 0 rfl) ?_
          refine lv_iconst (v := 4) hx hb dX7_powerUp_60 (by decide) ?_
          refine lv_iload_n hx hb dX7_powerUp_61 rfl (lv_at hl 1 rfl) ?_
          refine lv_bipush (v := (-9)) hx hb dX7_powerUp_62 (by decide) ?_
          refine lv_icmp_ne (tgt := 71) hx hb dX7_powerUp_64 (by decide) (fun c64_5 => ?_) (fun c64_5 => ?_)
          · skip
            refine lv_aload_n hx hb dX7_powerUp_71 rfl (lv_at hl 0 rfl) ?_
            refine lv_iload_n hx hb dX7_powerUp_72 rfl (lv_at hl 1 rfl) ?_
            refine lv_iconst (v := 3) hx hb dX7_powerUp_73 (by decide) ?_
            refine rp_callS hX good7 i7 (c7_pageOf l D cI r g o2 3 (by omega) (by omega)) q7_pageOf rfl (m7 23 rfl) (m7 24 rfl) ⟨Nat.le_of_ble_eq_true rfl, Nat.le_of_ble_eq_true rfl⟩ hK [0] rfl hP [0] rfl hS hl.1 rfl (Nat.le_of_ble_eq_true rfl) dX7_powerUp_74 ⟨Nat.zero_le _, Nat.zero_le _⟩ (fun H locs hP hS => ?_)
            refine lv_iconst (v := 1) hx hb dX7_powerUp_77 (by decide) ?_
            refine lv_iadd hx hb dX7_powerUp_78 ?_
            refine ra_iast (i := 4) hx hb hK hP hD hS 0 0 rfl rfl (by omega) (by decide) dX7_powerUp_79 (fun H locs hP hD hS => ?_)
            have hP : va_P D vwCl [(r, .inl (cI, 151, .inl (upd g 4 ((pg g o2 3) + 1))))] H := hP
            have hD : va_D A [(r, .inl (cI, 151, .inl (upd g 4 ((pg g o2 3) + 1))))] := hD
            have hP : va_P D vwCl [(r, .inl (cI, 151, .inl (puH g (some o2))))] H := by
              rw [show (puH g (some o2) : Nat → Int32) = upd g 4 ((pg g o2 3) + 1) from rfl]
              exact hP
            have hD : va_D A [(r, .inl (cI, 151, .inl (puH g (some o2))))] := by
              rw [show (puH g (some o2) : Nat → Int32) = upd g 4 ((pg g o2 3) + 1) from rfl]
              exact hD
            refine lv_iload_n hx hb dX7_powerUp_80 rfl (lv_at hl 1 rfl) ?_
            refine lv_bipush (v := (-9)) hx hb dX7_powerUp_81 (by decide) ?_
            refine lv_icmp_eq (tgt := 102) hx hb dX7_powerUp_83 (by decide) (fun c83_6 => ?_) (fun c83_6 => ?_)
            · skip
              exact absurd c83_6 (oI_ne (by omega))
            · skip
              refine lv_aload_n hx hb dX7_powerUp_86 rfl (lv_at hl 0 rfl) ?_
              refine lv_iload_n hx hb dX7_powerUp_87 rfl (lv_at hl 1 rfl) ?_
              refine lv_iconst (v := 4) hx hb dX7_powerUp_88 (by decide) ?_
              refine lv_idiv hx hb dX7_powerUp_89 (by decide) ?_
              refine lv_as (y := nI (o2 / 4)) (pk_div (a := o2) (d := 4) (by omega) (by decide) (by decide)) ?_
              refine rp_callS hX good7 i7 (c7_leftIn l D cI r (puH g (some o2)) (o2 / 4) (by omega)) q7_leftIn rfl (m7 47 rfl) (m7 48 rfl) ⟨Nat.le_of_ble_eq_true rfl, Nat.le_of_ble_eq_true rfl⟩ hK [0] rfl hP [0] rfl hS hl.1 rfl (Nat.le_of_ble_eq_true rfl) dX7_powerUp_90 ⟨Nat.zero_le _, Nat.zero_le _⟩ (fun H locs hP hS => ?_)
              have hle9 : lft (puH g (some o2)) (o2 / 4) ≤ 4 := lft_le _ _
              refine lv_if_le (tgt := 102) hx hb dX7_powerUp_93 (by decide) (fun c93_7 => ?_) (fun c93_7 => ?_)
              · skip
                have c93_7 := cn_le (a := lft (puH g (some o2)) (o2 / 4)) (b := 0) (by omega) (by omega) c93_7
                have hP : va_P D vwCl [(r, .inl (cI, 151, .inl (puR f B)))] H := by
                  rw [show (puR f B : Nat → Int32) = puH g (some o2) from by rw [puR, ← hg, ← e9, hO2]; exact if_neg (by omega)]
                  exact hP
                exact gp_retv hX hr hlocks hS hP rfl dX7_powerUp_102
              · skip
                have c93_7 := cn_nle (a := lft (puH g (some o2)) (o2 / 4)) (b := 0) (by omega) (by omega) c93_7
                refine lv_aload_n hx hb dX7_powerUp_96 rfl (lv_at hl 0 rfl) ?_
                refine lv_iconst (v := 3) hx hb dX7_powerUp_97 (by decide) ?_
                refine lv_iload_n hx hb dX7_powerUp_98 rfl (lv_at hl 1 rfl) ?_
                refine lv_iconst (v := 4) hx hb dX7_powerUp_99 (by decide) ?_
                refine lv_idiv hx hb dX7_powerUp_100 (by decide) ?_
                refine lv_as (y := nI (o2 / 4)) (pk_div (a := o2) (d := 4) (by omega) (by decide) (by decide)) ?_
                refine ra_iast (i := 3) hx hb hK hP hD hS 0 0 rfl rfl (by omega) (by decide) dX7_powerUp_101 (fun H locs hP hD hS => ?_)
                have hP : va_P D vwCl [(r, .inl (cI, 151, .inl (upd (puH g (some o2)) 3 (nI (o2 / 4)))))] H := hP
                have hD : va_D A [(r, .inl (cI, 151, .inl (upd (puH g (some o2)) 3 (nI (o2 / 4)))))] := hD
                have hP : va_P D vwCl [(r, .inl (cI, 151, .inl (puR f B)))] H := by
                  rw [show (puR f B : Nat → Int32) = upd (puH g (some o2)) 3 (nI (o2 / 4)) from by rw [puR, ← hg, ← e9, hO2]; exact if_pos c93_7]
                  exact hP
                exact gp_retv hX hr hlocks hS hP rfl dX7_powerUp_102
          · skip
            exact absurd c64_5 (oI_ne (by omega))
      · skip
        have c19_1 := cn_nle (a := 4 * B) (b := j) (by omega) (by omega) c19_1
        rcases hO8 : nwa g j with _ | o8
        · skip
          have hl : lv_has ls 3 [(0, .ref r), (1, .int ((-9))), (2, .int (nI (j)))] := by rw [hO8] at hl; exact hl
          refine lv_aload_n hx hb dX7_powerUp_22 rfl (lv_at hl 0 rfl) ?_
          refine lv_iload_n hx hb dX7_powerUp_23 rfl (lv_at hl 2 rfl) ?_
          refine rp_callS hX good7 i7 (c7_isWritten l D cI r g j (by omega)) q7_isWritten rfl (m7 29 rfl) (m7 30 rfl) ⟨Nat.le_of_ble_eq_true rfl, Nat.le_of_ble_eq_true rfl⟩ hK [0] rfl hP [0] rfl hS hl.1 rfl (Nat.le_of_ble_eq_true rfl) dX7_powerUp_24 ⟨Nat.zero_le _, Nat.zero_le _⟩ (fun H locs hP hS => ?_)
          refine lv_if_eq (tgt := 53) hx hb dX7_powerUp_27 (by decide) (fun c27_9 => ?_) (fun c27_9 => ?_)
          · skip
            have c27_9 := bI_f c27_9
            refine lv_iinc (v := nI (j + 1)) (lv' := [(2, .int (nI (j + 1))), (0, .ref r), (1, .int ((-9)))]) hx hb dX7_powerUp_53 hl (k := 2) rfl (nI_add _ 1) (by decide) rfl (fun ls hl => ?_)
            refine lv_goto (tgt := 14) hx hb dX7_powerUp_56 (by decide) ?_
            have hl : lv_has ls 3 [(2, .int (nI (j + 1))), (0, .ref r), (1, .int (oI (nwa g (j + 1))))] := lv_re hl 2 rfl (show (-9) = oI (nwa g (j + 1)) from by rw [nwa, hO8]; dsimp only; rw [if_neg c27_9]; rfl)
            have hl : lv_has ls 3 [(2, .int (nI ((j + 1)))), (0, .ref r), (1, .int (oI (nwa g (j + 1))))] := lv_re hl 0 rfl (show nI (j + 1) = nI ((j + 1)) from rfl)
            exact ih14 (j + 1) (by omega) (by omega) _ _ hP hD hS _ (lv_sub hl [1, 2, 0] rfl)
          · skip
            have c27_9 := bI_t c27_9
            refine lv_iload_n hx hb dX7_powerUp_30 rfl (lv_at hl 1 rfl) ?_
            refine lv_bipush (v := (-9)) hx hb dX7_powerUp_31 (by decide) ?_
            refine lv_icmp_eq (tgt := 51) hx hb dX7_powerUp_33 (by decide) (fun c33_10 => ?_) (fun c33_10 => ?_)
            · skip
              refine lv_iload_n hx hb dX7_powerUp_51 rfl (lv_at hl 2 rfl) ?_
              refine lv_istore_n (lv' := [(1, .int (nI (j))), (0, .ref r), (2, .int (nI (j)))]) hx hb dX7_powerUp_52 rfl hl (by decide) rfl (fun ls hl => ?_)
              refine lv_iinc (v := nI (j + 1)) (lv' := [(2, .int (nI (j + 1))), (1, .int (nI (j))), (0, .ref r)]) hx hb dX7_powerUp_53 hl (k := 2) rfl (nI_add _ 1) (by decide) rfl (fun ls hl => ?_)
              refine lv_goto (tgt := 14) hx hb dX7_powerUp_56 (by decide) ?_
              have hl : lv_has ls 3 [(2, .int (nI (j + 1))), (1, .int (oI (nwa g (j + 1)))), (0, .ref r)] := lv_re hl 1 rfl (show nI (j) = oI (nwa g (j + 1)) from by rw [nwa, hO8]; dsimp only; rw [if_pos c27_9]; rfl)
              have hl : lv_has ls 3 [(2, .int (nI ((j + 1)))), (1, .int (oI (nwa g (j + 1)))), (0, .ref r)] := lv_re hl 0 rfl (show nI (j + 1) = nI ((j + 1)) from rfl)
              exact ih14 (j + 1) (by omega) (by omega) _ _ hP hD hS _ (lv_sub hl [2, 1, 0] rfl)
            · skip
              exact absurd c33_10 (by decide)
        · skip
          have hl : lv_has ls 3 [(0, .ref r), (1, .int (nI (o8))), (2, .int (nI (j)))] := by rw [hO8] at hl; exact hl
          have ho8 := nwa_lt hO8
          refine lv_aload_n hx hb dX7_powerUp_22 rfl (lv_at hl 0 rfl) ?_
          refine lv_iload_n hx hb dX7_powerUp_23 rfl (lv_at hl 2 rfl) ?_
          refine rp_callS hX good7 i7 (c7_isWritten l D cI r g j (by omega)) q7_isWritten rfl (m7 29 rfl) (m7 30 rfl) ⟨Nat.le_of_ble_eq_true rfl, Nat.le_of_ble_eq_true rfl⟩ hK [0] rfl hP [0] rfl hS hl.1 rfl (Nat.le_of_ble_eq_true rfl) dX7_powerUp_24 ⟨Nat.zero_le _, Nat.zero_le _⟩ (fun H locs hP hS => ?_)
          refine lv_if_eq (tgt := 53) hx hb dX7_powerUp_27 (by decide) (fun c27_11 => ?_) (fun c27_11 => ?_)
          · skip
            have c27_11 := bI_f c27_11
            refine lv_iinc (v := nI (j + 1)) (lv' := [(2, .int (nI (j + 1))), (0, .ref r), (1, .int (nI (o8)))]) hx hb dX7_powerUp_53 hl (k := 2) rfl (nI_add _ 1) (by decide) rfl (fun ls hl => ?_)
            refine lv_goto (tgt := 14) hx hb dX7_powerUp_56 (by decide) ?_
            have hl : lv_has ls 3 [(2, .int (nI (j + 1))), (0, .ref r), (1, .int (oI (nwa g (j + 1))))] := lv_re hl 2 rfl (show nI (o8) = oI (nwa g (j + 1)) from by rw [nwa, hO8]; dsimp only; rw [if_neg (fun z => c27_11 z.1)]; rfl)
            have hl : lv_has ls 3 [(2, .int (nI ((j + 1)))), (0, .ref r), (1, .int (oI (nwa g (j + 1))))] := lv_re hl 0 rfl (show nI (j + 1) = nI ((j + 1)) from rfl)
            exact ih14 (j + 1) (by omega) (by omega) _ _ hP hD hS _ (lv_sub hl [1, 2, 0] rfl)
          · skip
            have c27_11 := bI_t c27_11
            refine lv_iload_n hx hb dX7_powerUp_30 rfl (lv_at hl 1 rfl) ?_
            refine lv_bipush (v := (-9)) hx hb dX7_powerUp_31 (by decide) ?_
            refine lv_icmp_eq (tgt := 51) hx hb dX7_powerUp_33 (by decide) (fun c33_12 => ?_) (fun c33_12 => ?_)
            · skip
              exact absurd c33_12 (oI_ne (by omega))
            · skip
              refine lv_aload_n hx hb dX7_powerUp_36 rfl (lv_at hl 0 rfl) ?_
              refine lv_iload_n hx hb dX7_powerUp_37 rfl (lv_at hl 2 rfl) ?_
              refine lv_iconst (v := 3) hx hb dX7_powerUp_38 (by decide) ?_
              refine rp_callS hX good7 i7 (c7_pageOf l D cI r g j 3 (by omega) (by omega)) q7_pageOf rfl (m7 23 rfl) (m7 24 rfl) ⟨Nat.le_of_ble_eq_true rfl, Nat.le_of_ble_eq_true rfl⟩ hK [0] rfl hP [0] rfl hS hl.1 rfl (Nat.le_of_ble_eq_true rfl) dX7_powerUp_39 ⟨Nat.zero_le _, Nat.zero_le _⟩ (fun H locs hP hS => ?_)
              refine lv_aload_n hx hb dX7_powerUp_42 rfl (lv_at hl 0 rfl) ?_
              refine lv_iload_n hx hb dX7_powerUp_43 rfl (lv_at hl 1 rfl) ?_
              refine lv_iconst (v := 3) hx hb dX7_powerUp_44 (by decide) ?_
              refine rp_callS hX good7 i7 (c7_pageOf l D cI r g o8 3 (by omega) (by omega)) q7_pageOf rfl (m7 23 rfl) (m7 24 rfl) ⟨Nat.le_of_ble_eq_true rfl, Nat.le_of_ble_eq_true rfl⟩ hK [0] rfl hP [0] rfl hS hl.1 rfl (Nat.le_of_ble_eq_true rfl) dX7_powerUp_45 ⟨Nat.zero_le _, Nat.zero_le _⟩ (fun H locs hP hS => ?_)
              refine lv_icmp_le (tgt := 53) hx hb dX7_powerUp_48 (by decide) (fun c48_13 => ?_) (fun c48_13 => ?_)
              · skip
                have c48_13 := i_nlt c48_13
                refine lv_iinc (v := nI (j + 1)) (lv' := [(2, .int (nI (j + 1))), (0, .ref r), (1, .int (nI (o8)))]) hx hb dX7_powerUp_53 hl (k := 2) rfl (nI_add _ 1) (by decide) rfl (fun ls hl => ?_)
                refine lv_goto (tgt := 14) hx hb dX7_powerUp_56 (by decide) ?_
                have hl : lv_has ls 3 [(2, .int (nI (j + 1))), (0, .ref r), (1, .int (oI (nwa g (j + 1))))] := lv_re hl 2 rfl (show nI (o8) = oI (nwa g (j + 1)) from by rw [nwa, hO8]; dsimp only; rw [if_neg (fun z => c48_13 z.2)]; rfl)
                have hl : lv_has ls 3 [(2, .int (nI ((j + 1)))), (0, .ref r), (1, .int (oI (nwa g (j + 1))))] := lv_re hl 0 rfl (show nI (j + 1) = nI ((j + 1)) from rfl)
                exact ih14 (j + 1) (by omega) (by omega) _ _ hP hD hS _ (lv_sub hl [1, 2, 0] rfl)
              · skip
                have c48_13 := i_lt c48_13
                refine lv_iload_n hx hb dX7_powerUp_51 rfl (lv_at hl 2 rfl) ?_
                refine lv_istore_n (lv' := [(1, .int (nI (j))), (0, .ref r), (2, .int (nI (j)))]) hx hb dX7_powerUp_52 rfl hl (by decide) rfl (fun ls hl => ?_)
                refine lv_iinc (v := nI (j + 1)) (lv' := [(2, .int (nI (j + 1))), (1, .int (nI (j))), (0, .ref r)]) hx hb dX7_powerUp_53 hl (k := 2) rfl (nI_add _ 1) (by decide) rfl (fun ls hl => ?_)
                refine lv_goto (tgt := 14) hx hb dX7_powerUp_56 (by decide) ?_
                have hl : lv_has ls 3 [(2, .int (nI (j + 1))), (1, .int (oI (nwa g (j + 1)))), (0, .ref r)] := lv_re hl 1 rfl (show nI (j) = oI (nwa g (j + 1)) from by rw [nwa, hO8]; dsimp only; rw [if_pos ⟨c27_11, c48_13⟩]; rfl)
                have hl : lv_has ls 3 [(2, .int (nI ((j + 1)))), (1, .int (oI (nwa g (j + 1)))), (0, .ref r)] := lv_re hl 0 rfl (show nI (j + 1) = nI ((j + 1)) from rfl)
                exact ih14 (j + 1) (by omega) (by omega) _ _ hP hD hS _ (lv_sub hl [2, 1, 0] rfl)
  have hl : lv_has ls 3 [(2, .int (0)), (1, .int (oI (nwa g 0))), (0, .ref r)] := lv_re hl 1 rfl (show (-9) = oI (nwa g 0) from rfl)
  have hl : lv_has ls 3 [(2, .int (nI (0))), (1, .int (oI (nwa g 0))), (0, .ref r)] := lv_re hl 0 rfl (show 0 = nI (0) from rfl)
  exact LP14 ((4 * B - 0) + 1) 0 (by omega) (by omega) _ _ hP hD hS _ (lv_sub hl [2, 1, 0] rfl)
theorem dX7_doCut_0 : decode cX7_doCut 0 = .ok (.aload_n 0, 1) := by decide +kernel
theorem dX7_doCut_1 : decode cX7_doCut 1 = .ok (.iconst 2, 1) := by decide +kernel
theorem dX7_doCut_2 : decode cX7_doCut 2 = .ok (.iaload, 1) := by decide +kernel
theorem dX7_doCut_3 : decode cX7_doCut 3 = .ok (.ifCond .ne 5, 3) := by decide +kernel
theorem dX7_doCut_6 : decode cX7_doCut 6 = .ok (.iconst 0, 1) := by decide +kernel
theorem dX7_doCut_7 : decode cX7_doCut 7 = .ok (.ireturn, 1) := by decide +kernel
theorem dX7_doCut_8 : decode cX7_doCut 8 = .ok (.aload_n 0, 1) := by decide +kernel
theorem dX7_doCut_9 : decode cX7_doCut 9 = .ok (.iconst 5, 1) := by decide +kernel
theorem dX7_doCut_10 : decode cX7_doCut 10 = .ok (.iload_n 1, 1) := by decide +kernel
theorem dX7_doCut_11 : decode cX7_doCut 11 = .ok (.iastore, 1) := by decide +kernel
theorem dX7_doCut_12 : decode cX7_doCut 12 = .ok (.iconst 1, 1) := by decide +kernel
theorem dX7_doCut_13 : decode cX7_doCut 13 = .ok (.ireturn, 1) := by decide +kernel
theorem q7_doCut : CQ W7 yX7_doCut cX7_doCut 2 (some .boolean) 2 := ⟨(m7 146 rfl), by decide, by decide, by decide +kernel⟩
set_option maxHeartbeats 4000000 in
set_option maxRecDepth 100000 in
theorem c7_doCut (l : Launch) (D : va_G) (cI : ClassId) (r : Nat) (f : Nat → Int32) (n : Int32) : GPi l yX7_doCut cX7_doCut 2 .boolean W7 0 0 D [(r, .inl (cI, 151, .inl f))] [(cI, .int)] [.ref r, .int (n)] (fun (r9 : Int32) (u9 : va_W) => r9 = (bI (¬ f 2 = 0)) ∧ u9 = [(r, .inl (cI, 151, .inl (if f 2 = 0 then f else upd f 5 n)))]) := by
  refine gp_of RX7 (by decide) rfl (Nat.le_of_ble_eq_true rfl) ?_
  intro p e s m below meth c ls H hX hr hlocks hK hP hD hS hl
  generalize gp_A [(r, .inl (cI, 151, .inl f))] = A at hD hS ⊢
  have hx := hX.1
  have hb := hX.2.1
  have hown := hX.2.2.2.1
  have hts := hX.2.2.2.2
  have hl : lv_has ls 2 [(0, .ref r), (1, .int (n))] := hl
  refine lv_aload_n hx hb dX7_doCut_0 rfl (lv_at hl 0 rfl) ?_
  refine lv_iconst (v := 2) hx hb dX7_doCut_1 (by decide) ?_
  refine ra_iald (i := 2) hx hb hK hP 0 0 rfl rfl (by omega) (by decide) dX7_doCut_2 ?_
  refine lv_if_ne (tgt := 8) hx hb dX7_doCut_3 (by decide) (fun c3_1 => ?_) (fun c3_1 => ?_)
  · skip
    refine lv_aload_n hx hb dX7_doCut_8 rfl (lv_at hl 0 rfl) ?_
    refine lv_iconst (v := 5) hx hb dX7_doCut_9 (by decide) ?_
    refine lv_iload_n hx hb dX7_doCut_10 rfl (lv_at hl 1 rfl) ?_
    refine ra_iast (i := 5) hx hb hK hP hD hS 0 0 rfl rfl (by omega) (by decide) dX7_doCut_11 (fun H locs hP hD hS => ?_)
    have hP : va_P D vwCl [(r, .inl (cI, 151, .inl (upd f 5 n)))] H := hP
    have hD : va_D A [(r, .inl (cI, 151, .inl (upd f 5 n)))] := hD
    refine lv_iconst (v := 1) hx hb dX7_doCut_12 (by decide) ?_
    have hP : va_P D vwCl [(r, .inl (cI, 151, .inl (if f 2 = 0 then f else upd f 5 n)))] H := by
      rw [show (if f 2 = 0 then f else upd f 5 n : Nat → Int32) = upd f 5 n from if_neg c3_1]
      exact hP
    exact gp_retz hX hr hlocks hS hP (P := ¬ f 2 = 0) ((bI_1 c3_1).symm) ⟨(bI_1 c3_1).symm, rfl⟩ dX7_doCut_13
  · skip
    refine lv_iconst (v := 0) hx hb dX7_doCut_6 (by decide) ?_
    have hP : va_P D vwCl [(r, .inl (cI, 151, .inl (if f 2 = 0 then f else upd f 5 n)))] H := by
      rw [show (if f 2 = 0 then f else upd f 5 n : Nat → Int32) = f from if_pos c3_1]
      exact hP
    exact gp_retz hX hr hlocks hS hP (P := ¬ f 2 = 0) ((bI_0 (fun z => z c3_1)).symm) ⟨(bI_0 (fun z => z c3_1)).symm, rfl⟩ dX7_doCut_7
theorem dX7_doStart_0 : decode cX7_doStart 0 = .ok (.aload_n 0, 1) := by decide +kernel
theorem dX7_doStart_1 : decode cX7_doStart 1 = .ok (.iconst 2, 1) := by decide +kernel
theorem dX7_doStart_2 : decode cX7_doStart 2 = .ok (.iaload, 1) := by decide +kernel
theorem dX7_doStart_3 : decode cX7_doStart 3 = .ok (.iconst 1, 1) := by decide +kernel
theorem dX7_doStart_4 : decode cX7_doStart 4 = .ok (.if_icmp .ne 5, 3) := by decide +kernel
theorem dX7_doStart_7 : decode cX7_doStart 7 = .ok (.iconst 0, 1) := by decide +kernel
theorem dX7_doStart_8 : decode cX7_doStart 8 = .ok (.ireturn, 1) := by decide +kernel
theorem dX7_doStart_9 : decode cX7_doStart 9 = .ok (.aload_n 0, 1) := by decide +kernel
theorem dX7_doStart_10 : decode cX7_doStart 10 = .ok (.invokestatic 141, 3) := by decide +kernel
theorem dX7_doStart_13 : decode cX7_doStart 13 = .ok (.iconst 1, 1) := by decide +kernel
theorem dX7_doStart_14 : decode cX7_doStart 14 = .ok (.ireturn, 1) := by decide +kernel
theorem q7_doStart : CQ W7 yX7_doStart cX7_doStart 1 (some .boolean) 1 := ⟨(m7 153 rfl), by decide, by decide, by decide +kernel⟩
set_option maxHeartbeats 4000000 in
set_option maxRecDepth 100000 in
theorem c7_doStart (l : Launch) (D : va_G) (cI : ClassId) (r : Nat) (f : Nat → Int32) (B : Nat) (hB : f 0 = nI B) (hB8 : B ≤ 8) : GPi l yX7_doStart cX7_doStart 1 .boolean W7 3 66 D [(r, .inl (cI, 151, .inl f))] [(cI, .int)] [.ref r] (fun (r9 : Int32) (u9 : va_W) => r9 = (bI (¬ f 2 = 1)) ∧ u9 = [(r, .inl (cI, 151, .inl (if f 2 = 1 then f else puR f B)))]) := by
  refine gp_of RX7 (by decide) rfl (Nat.le_of_ble_eq_true rfl) ?_
  intro p e s m below meth c ls H hX hr hlocks hK hP hD hS hl
  generalize gp_A [(r, .inl (cI, 151, .inl f))] = A at hD hS ⊢
  have hx := hX.1
  have hb := hX.2.1
  have hown := hX.2.2.2.1
  have hts := hX.2.2.2.2
  have hl : lv_has ls 1 [(0, .ref r)] := hl
  refine lv_aload_n hx hb dX7_doStart_0 rfl (lv_at hl 0 rfl) ?_
  refine lv_iconst (v := 2) hx hb dX7_doStart_1 (by decide) ?_
  refine ra_iald (i := 2) hx hb hK hP 0 0 rfl rfl (by omega) (by decide) dX7_doStart_2 ?_
  refine lv_iconst (v := 1) hx hb dX7_doStart_3 (by decide) ?_
  refine lv_icmp_ne (tgt := 9) hx hb dX7_doStart_4 (by decide) (fun c4_1 => ?_) (fun c4_1 => ?_)
  · skip
    refine lv_aload_n hx hb dX7_doStart_9 rfl (lv_at hl 0 rfl) ?_
    refine gp_backv (gp_runS hX good7 i7 (c7_powerUp l D cI r f B hB hB8) q7_powerUp rfl (m7 109 rfl) (m7 110 rfl) ⟨Nat.le_of_ble_eq_true rfl, Nat.le_of_ble_eq_true rfl⟩ hK [0] rfl hP hD [0] (by decide) rfl hl.1 rfl (Nat.le_of_ble_eq_true rfl) dX7_doStart_10 ⟨Nat.zero_le _, Nat.zero_le _⟩) hP hD hS [0] rfl (fun u h => by rw [h]; simp only [List.map_cons, List.map_nil]) (fun u H locs hpost hP hD hS => ?_)
    subst hpost
    have hP : va_P D vwCl [(r, .inl (cI, 151, .inl (puR f B)))] H := hP
    have hD : va_D A [(r, .inl (cI, 151, .inl (puR f B)))] := hD
    refine lv_iconst (v := 1) hx hb dX7_doStart_13 (by decide) ?_
    have hP : va_P D vwCl [(r, .inl (cI, 151, .inl (if f 2 = 1 then f else puR f B)))] H := by
      rw [show (if f 2 = 1 then f else puR f B : Nat → Int32) = puR f B from if_neg c4_1]
      exact hP
    exact gp_retz hX hr hlocks hS hP (P := ¬ f 2 = 1) ((bI_1 c4_1).symm) ⟨(bI_1 c4_1).symm, rfl⟩ dX7_doStart_14
  · skip
    refine lv_iconst (v := 0) hx hb dX7_doStart_7 (by decide) ?_
    have hP : va_P D vwCl [(r, .inl (cI, 151, .inl (if f 2 = 1 then f else puR f B)))] H := by
      rw [show (if f 2 = 1 then f else puR f B : Nat → Int32) = f from if_pos c4_1]
      exact hP
    exact gp_retz hX hr hlocks hS hP (P := ¬ f 2 = 1) ((bI_0 (fun z => z c4_1)).symm) ⟨(bI_0 (fun z => z c4_1)).symm, rfl⟩ dX7_doStart_8
theorem dX7_wearApart_0 : decode cX7_wearApart 0 = .ok (.aload_n 0, 1) := by decide +kernel
theorem dX7_wearApart_1 : decode cX7_wearApart 1 = .ok (.bipush 15, 2) := by decide +kernel
theorem dX7_wearApart_3 : decode cX7_wearApart 3 = .ok (.iaload, 1) := by decide +kernel
theorem dX7_wearApart_4 : decode cX7_wearApart 4 = .ok (.istore_n 1, 1) := by decide +kernel
theorem dX7_wearApart_5 : decode cX7_wearApart 5 = .ok (.aload_n 0, 1) := by decide +kernel
theorem dX7_wearApart_6 : decode cX7_wearApart 6 = .ok (.bipush 15, 2) := by decide +kernel
theorem dX7_wearApart_8 : decode cX7_wearApart 8 = .ok (.iaload, 1) := by decide +kernel
theorem dX7_wearApart_9 : decode cX7_wearApart 9 = .ok (.istore_n 2, 1) := by decide +kernel
theorem dX7_wearApart_10 : decode cX7_wearApart 10 = .ok (.iconst 1, 1) := by decide +kernel
theorem dX7_wearApart_11 : decode cX7_wearApart 11 = .ok (.istore_n 3, 1) := by decide +kernel
theorem dX7_wearApart_12 : decode cX7_wearApart 12 = .ok (.iload_n 3, 1) := by decide +kernel
theorem dX7_wearApart_13 : decode cX7_wearApart 13 = .ok (.aload_n 0, 1) := by decide +kernel
theorem dX7_wearApart_14 : decode cX7_wearApart 14 = .ok (.iconst 0, 1) := by decide +kernel
theorem dX7_wearApart_15 : decode cX7_wearApart 15 = .ok (.iaload, 1) := by decide +kernel
theorem dX7_wearApart_16 : decode cX7_wearApart 16 = .ok (.if_icmp .ge 51, 3) := by decide +kernel
theorem dX7_wearApart_19 : decode cX7_wearApart 19 = .ok (.aload_n 0, 1) := by decide +kernel
theorem dX7_wearApart_20 : decode cX7_wearApart 20 = .ok (.bipush 15, 2) := by decide +kernel
theorem dX7_wearApart_22 : decode cX7_wearApart 22 = .ok (.iload_n 3, 1) := by decide +kernel
theorem dX7_wearApart_23 : decode cX7_wearApart 23 = .ok (.iadd, 1) := by decide +kernel
theorem dX7_wearApart_24 : decode cX7_wearApart 24 = .ok (.iaload, 1) := by decide +kernel
theorem dX7_wearApart_25 : decode cX7_wearApart 25 = .ok (.iload_n 1, 1) := by decide +kernel
theorem dX7_wearApart_26 : decode cX7_wearApart 26 = .ok (.if_icmp .ge 12, 3) := by decide +kernel
theorem dX7_wearApart_29 : decode cX7_wearApart 29 = .ok (.aload_n 0, 1) := by decide +kernel
theorem dX7_wearApart_30 : decode cX7_wearApart 30 = .ok (.bipush 15, 2) := by decide +kernel
theorem dX7_wearApart_32 : decode cX7_wearApart 32 = .ok (.iload_n 3, 1) := by decide +kernel
theorem dX7_wearApart_33 : decode cX7_wearApart 33 = .ok (.iadd, 1) := by decide +kernel
theorem dX7_wearApart_34 : decode cX7_wearApart 34 = .ok (.iaload, 1) := by decide +kernel
theorem dX7_wearApart_35 : decode cX7_wearApart 35 = .ok (.goto 4, 3) := by decide +kernel
theorem dX7_wearApart_38 : decode cX7_wearApart 38 = .ok (.iload_n 1, 1) := by decide +kernel
theorem dX7_wearApart_39 : decode cX7_wearApart 39 = .ok (.istore_n 1, 1) := by decide +kernel
theorem dX7_wearApart_40 : decode cX7_wearApart 40 = .ok (.aload_n 0, 1) := by decide +kernel
theorem dX7_wearApart_41 : decode cX7_wearApart 41 = .ok (.bipush 15, 2) := by decide +kernel
theorem dX7_wearApart_43 : decode cX7_wearApart 43 = .ok (.iload_n 3, 1) := by decide +kernel
theorem dX7_wearApart_44 : decode cX7_wearApart 44 = .ok (.iadd, 1) := by decide +kernel
theorem dX7_wearApart_45 : decode cX7_wearApart 45 = .ok (.iaload, 1) := by decide +kernel
theorem dX7_wearApart_46 : decode cX7_wearApart 46 = .ok (.iload_n 2, 1) := by decide +kernel
theorem dX7_wearApart_47 : decode cX7_wearApart 47 = .ok (.if_icmp .le 12, 3) := by decide +kernel
theorem dX7_wearApart_50 : decode cX7_wearApart 50 = .ok (.aload_n 0, 1) := by decide +kernel
theorem dX7_wearApart_51 : decode cX7_wearApart 51 = .ok (.bipush 15, 2) := by decide +kernel
theorem dX7_wearApart_53 : decode cX7_wearApart 53 = .ok (.iload_n 3, 1) := by decide +kernel
theorem dX7_wearApart_54 : decode cX7_wearApart 54 = .ok (.iadd, 1) := by decide +kernel
theorem dX7_wearApart_55 : decode cX7_wearApart 55 = .ok (.iaload, 1) := by decide +kernel
theorem dX7_wearApart_56 : decode cX7_wearApart 56 = .ok (.goto 4, 3) := by decide +kernel
theorem dX7_wearApart_59 : decode cX7_wearApart 59 = .ok (.iload_n 2, 1) := by decide +kernel
theorem dX7_wearApart_60 : decode cX7_wearApart 60 = .ok (.istore_n 2, 1) := by decide +kernel
theorem dX7_wearApart_61 : decode cX7_wearApart 61 = .ok (.iinc 3 1, 3) := by decide +kernel
theorem dX7_wearApart_64 : decode cX7_wearApart 64 = .ok (.goto (-52), 3) := by decide +kernel
theorem dX7_wearApart_67 : decode cX7_wearApart 67 = .ok (.iload_n 2, 1) := by decide +kernel
theorem dX7_wearApart_68 : decode cX7_wearApart 68 = .ok (.iload_n 1, 1) := by decide +kernel
theorem dX7_wearApart_69 : decode cX7_wearApart 69 = .ok (.isub, 1) := by decide +kernel
theorem dX7_wearApart_70 : decode cX7_wearApart 70 = .ok (.ireturn, 1) := by decide +kernel
theorem q7_wearApart : CQ W7 yX7_wearApart cX7_wearApart 4 (some .int) 1 := ⟨(m7 174 rfl), by decide, by decide, by decide +kernel⟩
set_option maxHeartbeats 4000000 in
set_option maxRecDepth 100000 in
theorem c7_wearApart (l : Launch) (D : va_G) (cI : ClassId) (r : Nat) (f : Nat → Int32) (B : Nat) (hB : f 0 = nI B) (hB8 : B ≤ 8) : RP l yX7_wearApart cX7_wearApart 4 .int W7 0 0 D [(r, .inl (cI, 151, .inl f))] [(cI, .int)] [.ref r] (mxw f (B - 1) - mnw f (B - 1)) := by
  refine rp_of RX7 (by decide) rfl (Nat.le_of_ble_eq_true rfl) ?_
  intro p e s m below meth c ls hX hr hlocks hK hP hS hl
  have hx := hX.1
  have hb := hX.2.1
  have hown := hX.2.2.2.1
  have hts := hX.2.2.2.2
  have hl : lv_has ls 4 [(0, .ref r)] := hl
  refine lv_aload_n hx hb dX7_wearApart_0 rfl (lv_at hl 0 rfl) ?_
  refine lv_bipush (v := 15) hx hb dX7_wearApart_1 (by decide) ?_
  refine ra_iald (i := 15) hx hb hK hP 0 0 rfl rfl (by omega) (by decide) dX7_wearApart_3 ?_
  refine lv_istore_n (lv' := [(1, .int (f (15))), (0, .ref r)]) hx hb dX7_wearApart_4 rfl hl (by decide) rfl (fun ls hl => ?_)
  refine lv_aload_n hx hb dX7_wearApart_5 rfl (lv_at hl 1 rfl) ?_
  refine lv_bipush (v := 15) hx hb dX7_wearApart_6 (by decide) ?_
  refine ra_iald (i := 15) hx hb hK hP 0 0 rfl rfl (by omega) (by decide) dX7_wearApart_8 ?_
  refine lv_istore_n (lv' := [(2, .int (f (15))), (1, .int (f (15))), (0, .ref r)]) hx hb dX7_wearApart_9 rfl hl (by decide) rfl (fun ls hl => ?_)
  refine lv_iconst (v := 1) hx hb dX7_wearApart_10 (by decide) ?_
  refine lv_istore_n (lv' := [(3, .int (1)), (2, .int (f (15))), (1, .int (f (15))), (0, .ref r)]) hx hb dX7_wearApart_11 rfl hl (by decide) rfl (fun ls hl => ?_)
  have LP12 : ∀ n9 : Nat, ∀ (j : Nat), (hj : j ≤ B - 1) → B - j < n9 → ∀ (H : Heap) (locs : List Loc), va_P D vwCl [(r, .inl (cI, 151, .inl f))] H → va_S (fun _ => False) s.heap H locs → ∀ ls : Array Slot, lv_has ls 4 [(0, .ref r), (1, .int (mnw f j)), (2, .int (mxw f j)), (3, .int (nI (j + 1)))] → W p l e ({ frames := 0, cells := 0, slots := 0, locals := 0 } : Room) s m ([.ref r] : List Value).toArray below meth c H locs 0 0 (MQ below (rp_Qi (mxw f (B - 1) - mnw f (B - 1))) ([.ref r] : List Value).toArray s 0 0 (fun _ => False)) (F0 m 12 ls []) := by
    intro n9
    induction n9 with
    | zero => intros; omega
    | succ n9 ih12 =>
      intro j hj hm9 H locs hP hS ls hl
      refine lv_iload_n hx hb dX7_wearApart_12 rfl (lv_at hl 3 rfl) ?_
      refine lv_aload_n hx hb dX7_wearApart_13 rfl (lv_at hl 0 rfl) ?_
      refine lv_iconst (v := 0) hx hb dX7_wearApart_14 (by decide) ?_
      refine ra_iald (i := 0) hx hb hK hP 0 0 rfl rfl (by omega) (by decide) dX7_wearApart_15 ?_
      refine lv_as (show f (0) = nI (B) from hB) ?_
      refine lv_icmp_ge (tgt := 67) hx hb dX7_wearApart_16 (by decide) (fun c16_1 => ?_) (fun c16_1 => ?_)
      · skip
        have c16_1 := cn_le (a := B) (b := j + 1) (by omega) (by omega) c16_1
        refine lv_iload_n hx hb dX7_wearApart_67 rfl (lv_at hl 2 rfl) ?_
        refine lv_iload_n hx hb dX7_wearApart_68 rfl (lv_at hl 1 rfl) ?_
        refine lv_isub hx hb dX7_wearApart_69 ?_
        exact rp_ret hX hr hlocks hS (by rw [show j = B - 1 by omega]) dX7_wearApart_70
      · skip
        have c16_1 := cn_nle (a := B) (b := j + 1) (by omega) (by omega) c16_1
        refine lv_aload_n hx hb dX7_wearApart_19 rfl (lv_at hl 0 rfl) ?_
        refine lv_bipush (v := 15) hx hb dX7_wearApart_20 (by decide) ?_
        refine lv_iload_n hx hb dX7_wearApart_22 rfl (lv_at hl 3 rfl) ?_
        refine lv_iadd hx hb dX7_wearApart_23 ?_
        refine lv_as (y := nI (15 + j + 1)) (nI_add (15) (j + 1)) ?_
        refine ra_iald (i := 15 + j + 1) hx hb hK hP 0 0 rfl rfl (by omega) (by decide) dX7_wearApart_24 ?_
        refine lv_iload_n hx hb dX7_wearApart_25 rfl (lv_at hl 1 rfl) ?_
        refine lv_icmp_ge (tgt := 38) hx hb dX7_wearApart_26 (by decide) (fun c26_2 => ?_) (fun c26_2 => ?_)
        · skip
          have c26_2 := i_nlt c26_2
          refine lv_iload_n hx hb dX7_wearApart_38 rfl (lv_at hl 1 rfl) ?_
          refine lv_istore_n (lv' := [(1, .int (mnw f j)), (0, .ref r), (2, .int (mxw f j)), (3, .int (nI (j + 1)))]) hx hb dX7_wearApart_39 rfl hl (by decide) rfl (fun ls hl => ?_)
          refine lv_aload_n hx hb dX7_wearApart_40 rfl (lv_at hl 1 rfl) ?_
          refine lv_bipush (v := 15) hx hb dX7_wearApart_41 (by decide) ?_
          refine lv_iload_n hx hb dX7_wearApart_43 rfl (lv_at hl 3 rfl) ?_
          refine lv_iadd hx hb dX7_wearApart_44 ?_
          refine lv_as (y := nI (15 + j + 1)) (nI_add (15) (j + 1)) ?_
          refine ra_iald (i := 15 + j + 1) hx hb hK hP 0 0 rfl rfl (by omega) (by decide) dX7_wearApart_45 ?_
          refine lv_iload_n hx hb dX7_wearApart_46 rfl (lv_at hl 2 rfl) ?_
          refine lv_icmp_le (tgt := 59) hx hb dX7_wearApart_47 (by decide) (fun c47_3 => ?_) (fun c47_3 => ?_)
          · skip
            have c47_3 := i_nlt c47_3
            refine lv_iload_n hx hb dX7_wearApart_59 rfl (lv_at hl 2 rfl) ?_
            refine lv_istore_n (lv' := [(2, .int (mxw f j)), (1, .int (mnw f j)), (0, .ref r), (3, .int (nI (j + 1)))]) hx hb dX7_wearApart_60 rfl hl (by decide) rfl (fun ls hl => ?_)
            refine lv_iinc (v := nI (j + 1 + 1)) (lv' := [(3, .int (nI (j + 1 + 1))), (2, .int (mxw f j)), (1, .int (mnw f j)), (0, .ref r)]) hx hb dX7_wearApart_61 hl (k := 3) rfl (nI_add _ 1) (by decide) rfl (fun ls hl => ?_)
            refine lv_goto (tgt := 12) hx hb dX7_wearApart_64 (by decide) ?_
            have hl : lv_has ls 4 [(3, .int (nI (j + 1 + 1))), (2, .int (mxw f j)), (1, .int (mnw f (j + 1))), (0, .ref r)] := lv_re hl 2 rfl (show mnw f j = mnw f (j + 1) from by rw [mnw, if_neg c26_2])
            have hl : lv_has ls 4 [(3, .int (nI (j + 1 + 1))), (2, .int (mxw f (j + 1))), (1, .int (mnw f (j + 1))), (0, .ref r)] := lv_re hl 1 rfl (show mxw f j = mxw f (j + 1) from by rw [mxw, if_neg c47_3])
            have hl : lv_has ls 4 [(3, .int (nI ((j + 1) + 1))), (2, .int (mxw f (j + 1))), (1, .int (mnw f (j + 1))), (0, .ref r)] := lv_re hl 0 rfl (show nI (j + 1 + 1) = nI ((j + 1) + 1) from rfl)
            exact ih12 (j + 1) (by omega) (by omega) _ _ hP hS _ (lv_sub hl [3, 2, 1, 0] rfl)
          · skip
            have c47_3 := i_lt c47_3
            refine lv_aload_n hx hb dX7_wearApart_50 rfl (lv_at hl 1 rfl) ?_
            refine lv_bipush (v := 15) hx hb dX7_wearApart_51 (by decide) ?_
            refine lv_iload_n hx hb dX7_wearApart_53 rfl (lv_at hl 3 rfl) ?_
            refine lv_iadd hx hb dX7_wearApart_54 ?_
            refine lv_as (y := nI (15 + j + 1)) (nI_add (15) (j + 1)) ?_
            refine ra_iald (i := 15 + j + 1) hx hb hK hP 0 0 rfl rfl (by omega) (by decide) dX7_wearApart_55 ?_
            refine lv_goto (tgt := 60) hx hb dX7_wearApart_56 (by decide) ?_
            refine lv_istore_n (lv' := [(2, .int (f (15 + j + 1))), (1, .int (mnw f j)), (0, .ref r), (3, .int (nI (j + 1)))]) hx hb dX7_wearApart_60 rfl hl (by decide) rfl (fun ls hl => ?_)
            refine lv_iinc (v := nI (j + 1 + 1)) (lv' := [(3, .int (nI (j + 1 + 1))), (2, .int (f (15 + j + 1))), (1, .int (mnw f j)), (0, .ref r)]) hx hb dX7_wearApart_61 hl (k := 3) rfl (nI_add _ 1) (by decide) rfl (fun ls hl => ?_)
            refine lv_goto (tgt := 12) hx hb dX7_wearApart_64 (by decide) ?_
            have hl : lv_has ls 4 [(3, .int (nI (j + 1 + 1))), (2, .int (f (15 + j + 1))), (1, .int (mnw f (j + 1))), (0, .ref r)] := lv_re hl 2 rfl (show mnw f j = mnw f (j + 1) from by rw [mnw, if_neg c26_2])
            have hl : lv_has ls 4 [(3, .int (nI (j + 1 + 1))), (2, .int (mxw f (j + 1))), (1, .int (mnw f (j + 1))), (0, .ref r)] := lv_re hl 1 rfl (show f (15 + j + 1) = mxw f (j + 1) from by rw [mxw, if_pos c47_3])
            have hl : lv_has ls 4 [(3, .int (nI ((j + 1) + 1))), (2, .int (mxw f (j + 1))), (1, .int (mnw f (j + 1))), (0, .ref r)] := lv_re hl 0 rfl (show nI (j + 1 + 1) = nI ((j + 1) + 1) from rfl)
            exact ih12 (j + 1) (by omega) (by omega) _ _ hP hS _ (lv_sub hl [3, 2, 1, 0] rfl)
        · skip
          have c26_2 := i_lt c26_2
          refine lv_aload_n hx hb dX7_wearApart_29 rfl (lv_at hl 0 rfl) ?_
          refine lv_bipush (v := 15) hx hb dX7_wearApart_30 (by decide) ?_
          refine lv_iload_n hx hb dX7_wearApart_32 rfl (lv_at hl 3 rfl) ?_
          refine lv_iadd hx hb dX7_wearApart_33 ?_
          refine lv_as (y := nI (15 + j + 1)) (nI_add (15) (j + 1)) ?_
          refine ra_iald (i := 15 + j + 1) hx hb hK hP 0 0 rfl rfl (by omega) (by decide) dX7_wearApart_34 ?_
          refine lv_goto (tgt := 39) hx hb dX7_wearApart_35 (by decide) ?_
          refine lv_istore_n (lv' := [(1, .int (f (15 + j + 1))), (0, .ref r), (2, .int (mxw f j)), (3, .int (nI (j + 1)))]) hx hb dX7_wearApart_39 rfl hl (by decide) rfl (fun ls hl => ?_)
          refine lv_aload_n hx hb dX7_wearApart_40 rfl (lv_at hl 1 rfl) ?_
          refine lv_bipush (v := 15) hx hb dX7_wearApart_41 (by decide) ?_
          refine lv_iload_n hx hb dX7_wearApart_43 rfl (lv_at hl 3 rfl) ?_
          refine lv_iadd hx hb dX7_wearApart_44 ?_
          refine lv_as (y := nI (15 + j + 1)) (nI_add (15) (j + 1)) ?_
          refine ra_iald (i := 15 + j + 1) hx hb hK hP 0 0 rfl rfl (by omega) (by decide) dX7_wearApart_45 ?_
          refine lv_iload_n hx hb dX7_wearApart_46 rfl (lv_at hl 2 rfl) ?_
          refine lv_icmp_le (tgt := 59) hx hb dX7_wearApart_47 (by decide) (fun c47_4 => ?_) (fun c47_4 => ?_)
          · skip
            have c47_4 := i_nlt c47_4
            refine lv_iload_n hx hb dX7_wearApart_59 rfl (lv_at hl 2 rfl) ?_
            refine lv_istore_n (lv' := [(2, .int (mxw f j)), (1, .int (f (15 + j + 1))), (0, .ref r), (3, .int (nI (j + 1)))]) hx hb dX7_wearApart_60 rfl hl (by decide) rfl (fun ls hl => ?_)
            refine lv_iinc (v := nI (j + 1 + 1)) (lv' := [(3, .int (nI (j + 1 + 1))), (2, .int (mxw f j)), (1, .int (f (15 + j + 1))), (0, .ref r)]) hx hb dX7_wearApart_61 hl (k := 3) rfl (nI_add _ 1) (by decide) rfl (fun ls hl => ?_)
            refine lv_goto (tgt := 12) hx hb dX7_wearApart_64 (by decide) ?_
            have hl : lv_has ls 4 [(3, .int (nI (j + 1 + 1))), (2, .int (mxw f j)), (1, .int (mnw f (j + 1))), (0, .ref r)] := lv_re hl 2 rfl (show f (15 + j + 1) = mnw f (j + 1) from by rw [mnw, if_pos c26_2])
            have hl : lv_has ls 4 [(3, .int (nI (j + 1 + 1))), (2, .int (mxw f (j + 1))), (1, .int (mnw f (j + 1))), (0, .ref r)] := lv_re hl 1 rfl (show mxw f j = mxw f (j + 1) from by rw [mxw, if_neg c47_4])
            have hl : lv_has ls 4 [(3, .int (nI ((j + 1) + 1))), (2, .int (mxw f (j + 1))), (1, .int (mnw f (j + 1))), (0, .ref r)] := lv_re hl 0 rfl (show nI (j + 1 + 1) = nI ((j + 1) + 1) from rfl)
            exact ih12 (j + 1) (by omega) (by omega) _ _ hP hS _ (lv_sub hl [3, 2, 1, 0] rfl)
          · skip
            have c47_4 := i_lt c47_4
            refine lv_aload_n hx hb dX7_wearApart_50 rfl (lv_at hl 1 rfl) ?_
            refine lv_bipush (v := 15) hx hb dX7_wearApart_51 (by decide) ?_
            refine lv_iload_n hx hb dX7_wearApart_53 rfl (lv_at hl 3 rfl) ?_
            refine lv_iadd hx hb dX7_wearApart_54 ?_
            refine lv_as (y := nI (15 + j + 1)) (nI_add (15) (j + 1)) ?_
            refine ra_iald (i := 15 + j + 1) hx hb hK hP 0 0 rfl rfl (by omega) (by decide) dX7_wearApart_55 ?_
            refine lv_goto (tgt := 60) hx hb dX7_wearApart_56 (by decide) ?_
            refine lv_istore_n (lv' := [(2, .int (f (15 + j + 1))), (1, .int (f (15 + j + 1))), (0, .ref r), (3, .int (nI (j + 1)))]) hx hb dX7_wearApart_60 rfl hl (by decide) rfl (fun ls hl => ?_)
            refine lv_iinc (v := nI (j + 1 + 1)) (lv' := [(3, .int (nI (j + 1 + 1))), (2, .int (f (15 + j + 1))), (1, .int (f (15 + j + 1))), (0, .ref r)]) hx hb dX7_wearApart_61 hl (k := 3) rfl (nI_add _ 1) (by decide) rfl (fun ls hl => ?_)
            refine lv_goto (tgt := 12) hx hb dX7_wearApart_64 (by decide) ?_
            have hl : lv_has ls 4 [(3, .int (nI (j + 1 + 1))), (2, .int (f (15 + j + 1))), (1, .int (mnw f (j + 1))), (0, .ref r)] := lv_re hl 2 rfl (show f (15 + j + 1) = mnw f (j + 1) from by rw [mnw, if_pos c26_2])
            have hl : lv_has ls 4 [(3, .int (nI (j + 1 + 1))), (2, .int (mxw f (j + 1))), (1, .int (mnw f (j + 1))), (0, .ref r)] := lv_re hl 1 rfl (show f (15 + j + 1) = mxw f (j + 1) from by rw [mxw, if_pos c47_4])
            have hl : lv_has ls 4 [(3, .int (nI ((j + 1) + 1))), (2, .int (mxw f (j + 1))), (1, .int (mnw f (j + 1))), (0, .ref r)] := lv_re hl 0 rfl (show nI (j + 1 + 1) = nI ((j + 1) + 1) from rfl)
            exact ih12 (j + 1) (by omega) (by omega) _ _ hP hS _ (lv_sub hl [3, 2, 1, 0] rfl)
  have hl : lv_has ls 4 [(3, .int (1)), (2, .int (f (15))), (1, .int (mnw f 0)), (0, .ref r)] := lv_re hl 2 rfl (show f (15) = mnw f 0 from rfl)
  have hl : lv_has ls 4 [(3, .int (1)), (2, .int (mxw f 0)), (1, .int (mnw f 0)), (0, .ref r)] := lv_re hl 1 rfl (show f (15) = mxw f 0 from rfl)
  have hl : lv_has ls 4 [(3, .int (nI (0 + 1))), (2, .int (mxw f 0)), (1, .int (mnw f 0)), (0, .ref r)] := lv_re hl 0 rfl (show 1 = nI (0 + 1) from rfl)
  exact LP12 ((B - 0) + 1) 0 (by omega) (by omega) _ _ hP hS _ (lv_sub hl [3, 2, 1, 0] rfl)
theorem dX7_clean_0 : decode cX7_clean 0 = .ok (.iconst 0, 1) := by decide +kernel
theorem dX7_clean_1 : decode cX7_clean 1 = .ok (.istore_n 3, 1) := by decide +kernel
theorem dX7_clean_2 : decode cX7_clean 2 = .ok (.iload_n 3, 1) := by decide +kernel
theorem dX7_clean_3 : decode cX7_clean 3 = .ok (.sipush 151, 3) := by decide +kernel
theorem dX7_clean_6 : decode cX7_clean 6 = .ok (.if_icmp .ge 13, 3) := by decide +kernel
theorem dX7_clean_9 : decode cX7_clean 9 = .ok (.aload_n 0, 1) := by decide +kernel
theorem dX7_clean_10 : decode cX7_clean 10 = .ok (.iload_n 3, 1) := by decide +kernel
theorem dX7_clean_11 : decode cX7_clean 11 = .ok (.iconst 0, 1) := by decide +kernel
theorem dX7_clean_12 : decode cX7_clean 12 = .ok (.iastore, 1) := by decide +kernel
theorem dX7_clean_13 : decode cX7_clean 13 = .ok (.iinc 3 1, 3) := by decide +kernel
theorem dX7_clean_16 : decode cX7_clean 16 = .ok (.goto (-14), 3) := by decide +kernel
theorem dX7_clean_19 : decode cX7_clean 19 = .ok (.aload_n 0, 1) := by decide +kernel
theorem dX7_clean_20 : decode cX7_clean 20 = .ok (.iconst 0, 1) := by decide +kernel
theorem dX7_clean_21 : decode cX7_clean 21 = .ok (.iload_n 1, 1) := by decide +kernel
theorem dX7_clean_22 : decode cX7_clean 22 = .ok (.iastore, 1) := by decide +kernel
theorem dX7_clean_23 : decode cX7_clean 23 = .ok (.aload_n 0, 1) := by decide +kernel
theorem dX7_clean_24 : decode cX7_clean 24 = .ok (.iconst 1, 1) := by decide +kernel
theorem dX7_clean_25 : decode cX7_clean 25 = .ok (.iload_n 2, 1) := by decide +kernel
theorem dX7_clean_26 : decode cX7_clean 26 = .ok (.iastore, 1) := by decide +kernel
theorem dX7_clean_27 : decode cX7_clean 27 = .ok (.aload_n 0, 1) := by decide +kernel
theorem dX7_clean_28 : decode cX7_clean 28 = .ok (.iconst 2, 1) := by decide +kernel
theorem dX7_clean_29 : decode cX7_clean 29 = .ok (.iconst 1, 1) := by decide +kernel
theorem dX7_clean_30 : decode cX7_clean 30 = .ok (.iastore, 1) := by decide +kernel
theorem dX7_clean_31 : decode cX7_clean 31 = .ok (.aload_n 0, 1) := by decide +kernel
theorem dX7_clean_32 : decode cX7_clean 32 = .ok (.iconst 3, 1) := by decide +kernel
theorem dX7_clean_33 : decode cX7_clean 33 = .ok (.bipush (-9), 2) := by decide +kernel
theorem dX7_clean_35 : decode cX7_clean 35 = .ok (.iastore, 1) := by decide +kernel
theorem dX7_clean_36 : decode cX7_clean 36 = .ok (.aload_n 0, 1) := by decide +kernel
theorem dX7_clean_37 : decode cX7_clean 37 = .ok (.iconst 4, 1) := by decide +kernel
theorem dX7_clean_38 : decode cX7_clean 38 = .ok (.iconst 1, 1) := by decide +kernel
theorem dX7_clean_39 : decode cX7_clean 39 = .ok (.iastore, 1) := by decide +kernel
theorem dX7_clean_40 : decode cX7_clean 40 = .ok (.aload_n 0, 1) := by decide +kernel
theorem dX7_clean_41 : decode cX7_clean 41 = .ok (.bipush 12, 2) := by decide +kernel
theorem dX7_clean_43 : decode cX7_clean 43 = .ok (.bipush (-9), 2) := by decide +kernel
theorem dX7_clean_45 : decode cX7_clean 45 = .ok (.iastore, 1) := by decide +kernel
theorem dX7_clean_46 : decode cX7_clean 46 = .ok (.aload_n 0, 1) := by decide +kernel
theorem dX7_clean_47 : decode cX7_clean 47 = .ok (.bipush 13, 2) := by decide +kernel
theorem dX7_clean_49 : decode cX7_clean 49 = .ok (.bipush (-9), 2) := by decide +kernel
theorem dX7_clean_51 : decode cX7_clean 51 = .ok (.iastore, 1) := by decide +kernel
theorem dX7_clean_52 : decode cX7_clean 52 = .ok (.aload_n 0, 1) := by decide +kernel
theorem dX7_clean_53 : decode cX7_clean 53 = .ok (.bipush 14, 2) := by decide +kernel
theorem dX7_clean_55 : decode cX7_clean 55 = .ok (.bipush (-9), 2) := by decide +kernel
theorem dX7_clean_57 : decode cX7_clean 57 = .ok (.iastore, 1) := by decide +kernel
theorem dX7_clean_58 : decode cX7_clean 58 = .ok (.return_, 1) := by decide +kernel
theorem q7_clean : CQ W7 yX7_clean cX7_clean 4 none 3 := ⟨(m7 16 rfl), by decide, by decide, by decide +kernel⟩
set_option maxHeartbeats 4000000 in
set_option maxRecDepth 100000 in
theorem c7_clean (l : Launch) (D : va_G) (cI : ClassId) (r : Nat) (f : Nat → Int32) (bl li : Int32) : GPv l yX7_clean cX7_clean 4 W7 0 0 D [(r, .inl (cI, 151, .inl f))] [(cI, .int)] [.ref r, .int (bl), .int (li)] (fun u9 : va_W => u9 = [(r, .inl (cI, 151, .inl (clR bl li)))]) := by
  refine gp_of RX7 (by decide) rfl (Nat.le_of_ble_eq_true rfl) ?_
  intro p e s m below meth c ls H hX hr hlocks hK hP hD hS hl
  generalize gp_A [(r, .inl (cI, 151, .inl f))] = A at hD hS ⊢
  have hx := hX.1
  have hb := hX.2.1
  have hown := hX.2.2.2.1
  have hts := hX.2.2.2.2
  have hl : lv_has ls 4 [(0, .ref r), (1, .int (bl)), (2, .int (li))] := hl
  refine lv_iconst (v := 0) hx hb dX7_clean_0 (by decide) ?_
  refine lv_istore_n (lv' := [(3, .int (0)), (0, .ref r), (1, .int (bl)), (2, .int (li))]) hx hb dX7_clean_1 rfl hl (by decide) rfl (fun ls hl => ?_)
  have LP2 : ∀ n9 : Nat, ∀ (j : Nat), (hj : j ≤ 151) → 151 - j < n9 → ∀ (H : Heap) (locs : List Loc), va_P D vwCl [(r, .inl (cI, 151, .inl (zrF f j)))] H → va_D A [(r, .inl (cI, 151, .inl (zrF f j)))] → va_S A s.heap H locs → ∀ ls : Array Slot, lv_has ls 4 [(0, .ref r), (1, .int (bl)), (2, .int (li)), (3, .int (nI (j)))] → W p l e ({ frames := 0, cells := 0, slots := 0, locals := 0 } : Room) s m ([.ref r, .int (bl), .int (li)] : List Value).toArray below meth c H locs 0 0 (MQ below (va_Qv (fun u9 : va_W => u9 = [(r, .inl (cI, 151, .inl (clR bl li)))]) (fun u t => va_P D vwCl u t.heap) A) ([.ref r, .int (bl), .int (li)] : List Value).toArray s 0 0 A) (F0 m 2 ls []) := by
    intro n9
    induction n9 with
    | zero => intros; omega
    | succ n9 ih2 =>
      intro j hj hm9 H locs hP hD hS ls hl
      refine lv_iload_n hx hb dX7_clean_2 rfl (lv_at hl 3 rfl) ?_
      refine lv_sipush (v := 151) hx hb dX7_clean_3 (by decide) ?_
      refine lv_icmp_ge (tgt := 19) hx hb dX7_clean_6 (by decide) (fun c6_1 => ?_) (fun c6_1 => ?_)
      · skip
        have c6_1 := cn_le (a := 151) (b := j) (by omega) (by omega) c6_1
        have hP : va_P D vwCl [(r, .inl (cI, 151, .inl (fun _ => 0)))] H := gp_cell (A := A) hP 0 rfl (fun k hk => if_pos (by omega))
        have hD : va_D A [(r, .inl (cI, 151, .inl (fun _ => 0)))] := gp_D hD (by simp only [List.map_cons, List.map_nil])
        refine lv_aload_n hx hb dX7_clean_19 rfl (lv_at hl 0 rfl) ?_
        refine lv_iconst (v := 0) hx hb dX7_clean_20 (by decide) ?_
        refine lv_iload_n hx hb dX7_clean_21 rfl (lv_at hl 1 rfl) ?_
        refine ra_iast (i := 0) hx hb hK hP hD hS 0 0 rfl rfl (by omega) (by decide) dX7_clean_22 (fun H locs hP hD hS => ?_)
        have hP : va_P D vwCl [(r, .inl (cI, 151, .inl (upd (fun _ => 0) 0 bl)))] H := hP
        have hD : va_D A [(r, .inl (cI, 151, .inl (upd (fun _ => 0) 0 bl)))] := hD
        refine lv_aload_n hx hb dX7_clean_23 rfl (lv_at hl 0 rfl) ?_
        refine lv_iconst (v := 1) hx hb dX7_clean_24 (by decide) ?_
        refine lv_iload_n hx hb dX7_clean_25 rfl (lv_at hl 2 rfl) ?_
        refine ra_iast (i := 1) hx hb hK hP hD hS 0 0 rfl rfl (by omega) (by decide) dX7_clean_26 (fun H locs hP hD hS => ?_)
        have hP : va_P D vwCl [(r, .inl (cI, 151, .inl (upd (upd (fun _ => 0) 0 bl) 1 li)))] H := hP
        have hD : va_D A [(r, .inl (cI, 151, .inl (upd (upd (fun _ => 0) 0 bl) 1 li)))] := hD
        refine lv_aload_n hx hb dX7_clean_27 rfl (lv_at hl 0 rfl) ?_
        refine lv_iconst (v := 2) hx hb dX7_clean_28 (by decide) ?_
        refine lv_iconst (v := 1) hx hb dX7_clean_29 (by decide) ?_
        refine ra_iast (i := 2) hx hb hK hP hD hS 0 0 rfl rfl (by omega) (by decide) dX7_clean_30 (fun H locs hP hD hS => ?_)
        have hP : va_P D vwCl [(r, .inl (cI, 151, .inl (upd (upd (upd (fun _ => 0) 0 bl) 1 li) 2 1)))] H := hP
        have hD : va_D A [(r, .inl (cI, 151, .inl (upd (upd (upd (fun _ => 0) 0 bl) 1 li) 2 1)))] := hD
        refine lv_aload_n hx hb dX7_clean_31 rfl (lv_at hl 0 rfl) ?_
        refine lv_iconst (v := 3) hx hb dX7_clean_32 (by decide) ?_
        refine lv_bipush (v := (-9)) hx hb dX7_clean_33 (by decide) ?_
        refine ra_iast (i := 3) hx hb hK hP hD hS 0 0 rfl rfl (by omega) (by decide) dX7_clean_35 (fun H locs hP hD hS => ?_)
        have hP : va_P D vwCl [(r, .inl (cI, 151, .inl (upd (upd (upd (upd (fun _ => 0) 0 bl) 1 li) 2 1) 3 (-9))))] H := hP
        have hD : va_D A [(r, .inl (cI, 151, .inl (upd (upd (upd (upd (fun _ => 0) 0 bl) 1 li) 2 1) 3 (-9))))] := hD
        refine lv_aload_n hx hb dX7_clean_36 rfl (lv_at hl 0 rfl) ?_
        refine lv_iconst (v := 4) hx hb dX7_clean_37 (by decide) ?_
        refine lv_iconst (v := 1) hx hb dX7_clean_38 (by decide) ?_
        refine ra_iast (i := 4) hx hb hK hP hD hS 0 0 rfl rfl (by omega) (by decide) dX7_clean_39 (fun H locs hP hD hS => ?_)
        have hP : va_P D vwCl [(r, .inl (cI, 151, .inl (upd (upd (upd (upd (upd (fun _ => 0) 0 bl) 1 li) 2 1) 3 (-9)) 4 1)))] H := hP
        have hD : va_D A [(r, .inl (cI, 151, .inl (upd (upd (upd (upd (upd (fun _ => 0) 0 bl) 1 li) 2 1) 3 (-9)) 4 1)))] := hD
        refine lv_aload_n hx hb dX7_clean_40 rfl (lv_at hl 0 rfl) ?_
        refine lv_bipush (v := 12) hx hb dX7_clean_41 (by decide) ?_
        refine lv_bipush (v := (-9)) hx hb dX7_clean_43 (by decide) ?_
        refine ra_iast (i := 12) hx hb hK hP hD hS 0 0 rfl rfl (by omega) (by decide) dX7_clean_45 (fun H locs hP hD hS => ?_)
        have hP : va_P D vwCl [(r, .inl (cI, 151, .inl (upd (upd (upd (upd (upd (upd (fun _ => 0) 0 bl) 1 li) 2 1) 3 (-9)) 4 1) 12 (-9))))] H := hP
        have hD : va_D A [(r, .inl (cI, 151, .inl (upd (upd (upd (upd (upd (upd (fun _ => 0) 0 bl) 1 li) 2 1) 3 (-9)) 4 1) 12 (-9))))] := hD
        refine lv_aload_n hx hb dX7_clean_46 rfl (lv_at hl 0 rfl) ?_
        refine lv_bipush (v := 13) hx hb dX7_clean_47 (by decide) ?_
        refine lv_bipush (v := (-9)) hx hb dX7_clean_49 (by decide) ?_
        refine ra_iast (i := 13) hx hb hK hP hD hS 0 0 rfl rfl (by omega) (by decide) dX7_clean_51 (fun H locs hP hD hS => ?_)
        have hP : va_P D vwCl [(r, .inl (cI, 151, .inl (upd (upd (upd (upd (upd (upd (upd (fun _ => 0) 0 bl) 1 li) 2 1) 3 (-9)) 4 1) 12 (-9)) 13 (-9))))] H := hP
        have hD : va_D A [(r, .inl (cI, 151, .inl (upd (upd (upd (upd (upd (upd (upd (fun _ => 0) 0 bl) 1 li) 2 1) 3 (-9)) 4 1) 12 (-9)) 13 (-9))))] := hD
        refine lv_aload_n hx hb dX7_clean_52 rfl (lv_at hl 0 rfl) ?_
        refine lv_bipush (v := 14) hx hb dX7_clean_53 (by decide) ?_
        refine lv_bipush (v := (-9)) hx hb dX7_clean_55 (by decide) ?_
        refine ra_iast (i := 14) hx hb hK hP hD hS 0 0 rfl rfl (by omega) (by decide) dX7_clean_57 (fun H locs hP hD hS => ?_)
        have hP : va_P D vwCl [(r, .inl (cI, 151, .inl (upd (upd (upd (upd (upd (upd (upd (upd (fun _ => 0) 0 bl) 1 li) 2 1) 3 (-9)) 4 1) 12 (-9)) 13 (-9)) 14 (-9))))] H := hP
        have hD : va_D A [(r, .inl (cI, 151, .inl (upd (upd (upd (upd (upd (upd (upd (upd (fun _ => 0) 0 bl) 1 li) 2 1) 3 (-9)) 4 1) 12 (-9)) 13 (-9)) 14 (-9))))] := hD
        have hP : va_P D vwCl [(r, .inl (cI, 151, .inl (clR bl li)))] H := by
          rw [show (clR bl li : Nat → Int32) = upd (upd (upd (upd (upd (upd (upd (upd (fun _ => 0) 0 bl) 1 li) 2 1) 3 (-9)) 4 1) 12 (-9)) 13 (-9)) 14 (-9) from rfl]
          exact hP
        exact gp_retv hX hr hlocks hS hP rfl dX7_clean_58
      · skip
        have c6_1 := cn_nle (a := 151) (b := j) (by omega) (by omega) c6_1
        refine lv_aload_n hx hb dX7_clean_9 rfl (lv_at hl 0 rfl) ?_
        refine lv_iload_n hx hb dX7_clean_10 rfl (lv_at hl 3 rfl) ?_
        refine lv_iconst (v := 0) hx hb dX7_clean_11 (by decide) ?_
        refine ra_iast (i := j) hx hb hK hP hD hS 0 0 rfl rfl (by omega) (by decide) dX7_clean_12 (fun H locs hP hD hS => ?_)
        have hP : va_P D vwCl [(r, .inl (cI, 151, .inl (upd (zrF f j) j 0)))] H := hP
        have hD : va_D A [(r, .inl (cI, 151, .inl (upd (zrF f j) j 0)))] := hD
        refine lv_iinc (v := nI (j + 1)) (lv' := [(3, .int (nI (j + 1))), (0, .ref r), (1, .int (bl)), (2, .int (li))]) hx hb dX7_clean_13 hl (k := 3) rfl (nI_add _ 1) (by decide) rfl (fun ls hl => ?_)
        refine lv_goto (tgt := 2) hx hb dX7_clean_16 (by decide) ?_
        have hl : lv_has ls 4 [(3, .int (nI ((j + 1)))), (0, .ref r), (1, .int (bl)), (2, .int (li))] := lv_re hl 0 rfl (show nI (j + 1) = nI ((j + 1)) from rfl)
        have hP : va_P D vwCl [(r, .inl (cI, 151, .inl (zrF f (j + 1))))] H := by
          rw [show (zrF f (j + 1) : Nat → Int32) = upd (zrF f j) j 0 from zrF_s f j]
          exact hP
        have hD : va_D A [(r, .inl (cI, 151, .inl (zrF f (j + 1))))] := by
          rw [show (zrF f (j + 1) : Nat → Int32) = upd (zrF f j) j 0 from zrF_s f j]
          exact hD
        have hP : va_P D vwCl [(r, .inl (cI, 151, .inl (zrF f (j + 1))))] H := hP
        have hD : va_D A [(r, .inl (cI, 151, .inl (zrF f (j + 1))))] := hD
        exact ih2 (j + 1) (by omega) (by omega) _ _ hP hD hS _ (lv_sub hl [1, 2, 3, 0] rfl)
  have hl : lv_has ls 4 [(3, .int (nI (0))), (0, .ref r), (1, .int (bl)), (2, .int (li))] := lv_re hl 0 rfl (show 0 = nI (0) from rfl)
  have hP : va_P D vwCl [(r, .inl (cI, 151, .inl (zrF f 0)))] H := by
    rw [show (zrF f 0 : Nat → Int32) = f from by funext k; rw [zrF, if_neg (Nat.not_lt_zero k)]]
    exact hP
  have hD : va_D A [(r, .inl (cI, 151, .inl (zrF f 0)))] := by
    rw [show (zrF f 0 : Nat → Int32) = f from by funext k; rw [zrF, if_neg (Nat.not_lt_zero k)]]
    exact hD
  have hP : va_P D vwCl [(r, .inl (cI, 151, .inl (zrF f 0)))] H := hP
  have hD : va_D A [(r, .inl (cI, 151, .inl (zrF f 0)))] := hD
  exact LP2 ((151 - 0) + 1) 0 (by omega) (by omega) _ _ hP hD hS _ (lv_sub hl [1, 2, 3, 0] rfl)
theorem dX7_copy_0 : decode cX7_copy 0 = .ok (.iconst 0, 1) := by decide +kernel
theorem dX7_copy_1 : decode cX7_copy 1 = .ok (.istore 5, 2) := by decide +kernel
theorem dX7_copy_3 : decode cX7_copy 3 = .ok (.iload 5, 2) := by decide +kernel
theorem dX7_copy_5 : decode cX7_copy 5 = .ok (.iload 4, 2) := by decide +kernel
theorem dX7_copy_7 : decode cX7_copy 7 = .ok (.if_icmp .ge 21, 3) := by decide +kernel
theorem dX7_copy_10 : decode cX7_copy 10 = .ok (.aload_n 2, 1) := by decide +kernel
theorem dX7_copy_11 : decode cX7_copy 11 = .ok (.iload_n 3, 1) := by decide +kernel
theorem dX7_copy_12 : decode cX7_copy 12 = .ok (.iload 5, 2) := by decide +kernel
theorem dX7_copy_14 : decode cX7_copy 14 = .ok (.iadd, 1) := by decide +kernel
theorem dX7_copy_15 : decode cX7_copy 15 = .ok (.aload_n 0, 1) := by decide +kernel
theorem dX7_copy_16 : decode cX7_copy 16 = .ok (.iload_n 1, 1) := by decide +kernel
theorem dX7_copy_17 : decode cX7_copy 17 = .ok (.iload 5, 2) := by decide +kernel
theorem dX7_copy_19 : decode cX7_copy 19 = .ok (.iadd, 1) := by decide +kernel
theorem dX7_copy_20 : decode cX7_copy 20 = .ok (.iaload, 1) := by decide +kernel
theorem dX7_copy_21 : decode cX7_copy 21 = .ok (.iastore, 1) := by decide +kernel
theorem dX7_copy_22 : decode cX7_copy 22 = .ok (.iinc 5 1, 3) := by decide +kernel
theorem dX7_copy_25 : decode cX7_copy 25 = .ok (.goto (-22), 3) := by decide +kernel
theorem dX7_copy_28 : decode cX7_copy 28 = .ok (.return_, 1) := by decide +kernel
theorem q7_copy : CQ W7 yX7_copy cX7_copy 6 none 5 := ⟨(m7 22 rfl), by decide, by decide, by decide +kernel⟩
set_option maxHeartbeats 4000000 in
set_option maxRecDepth 100000 in
theorem c7_copy (l : Launch) (D : va_G) (cI : ClassId) (r1 r2 n1 n2 : Nat) (f1 f2 : Nat → Int32) (fa ta k : Nat) (h1 : fa + k ≤ n1) (h2 : ta + k ≤ n2) (h3 : n1 < 100000) (h4 : n2 < 100000) : GPv l yX7_copy cX7_copy 6 W7 0 0 D [(r1, .inl (cI, n1, .inl f1)), (r2, .inl (cI, n2, .inl f2))] [(cI, .int)] [.ref r1, .int (nI (fa)), .ref r2, .int (nI (ta)), .int (nI (k))] (fun u9 : va_W => u9 = [(r1, .inl (cI, n1, .inl f1)), (r2, .inl (cI, n2, .inl (va_cpy f1 f2 fa ta k)))]) := by
  refine gp_of RX7 (by decide) rfl (Nat.le_of_ble_eq_true rfl) ?_
  intro p e s m below meth c ls H hX hr hlocks hK hP hD hS hl
  generalize gp_A [(r1, .inl (cI, n1, .inl f1)), (r2, .inl (cI, n2, .inl f2))] = A at hD hS ⊢
  have hx := hX.1
  have hb := hX.2.1
  have hown := hX.2.2.2.1
  have hts := hX.2.2.2.2
  have hl : lv_has ls 6 [(0, .ref r1), (1, .int (nI (fa))), (2, .ref r2), (3, .int (nI (ta))), (4, .int (nI (k)))] := hl
  refine lv_iconst (v := 0) hx hb dX7_copy_0 (by decide) ?_
  refine lv_istore (lv' := [(5, .int (0)), (0, .ref r1), (1, .int (nI (fa))), (2, .ref r2), (3, .int (nI (ta))), (4, .int (nI (k)))]) hx hb dX7_copy_1 hl (by decide) rfl (fun ls hl => ?_)
  have LP3 : ∀ n9 : Nat, ∀ (j : Nat), (hj : j ≤ k) → k - j < n9 → ∀ (H : Heap) (locs : List Loc), va_P D vwCl [(r1, .inl (cI, n1, .inl f1)), (r2, .inl (cI, n2, .inl (va_cpy f1 f2 fa ta j)))] H → va_D A [(r1, .inl (cI, n1, .inl f1)), (r2, .inl (cI, n2, .inl (va_cpy f1 f2 fa ta j)))] → va_S A s.heap H locs → ∀ ls : Array Slot, lv_has ls 6 [(0, .ref r1), (1, .int (nI (fa))), (2, .ref r2), (3, .int (nI (ta))), (4, .int (nI (k))), (5, .int (nI (j)))] → W p l e ({ frames := 0, cells := 0, slots := 0, locals := 0 } : Room) s m ([.ref r1, .int (nI (fa)), .ref r2, .int (nI (ta)), .int (nI (k))] : List Value).toArray below meth c H locs 0 0 (MQ below (va_Qv (fun u9 : va_W => u9 = [(r1, .inl (cI, n1, .inl f1)), (r2, .inl (cI, n2, .inl (va_cpy f1 f2 fa ta k)))]) (fun u t => va_P D vwCl u t.heap) A) ([.ref r1, .int (nI (fa)), .ref r2, .int (nI (ta)), .int (nI (k))] : List Value).toArray s 0 0 A) (F0 m 3 ls []) := by
    intro n9
    induction n9 with
    | zero => intros; omega
    | succ n9 ih3 =>
      intro j hj hm9 H locs hP hD hS ls hl
      refine lv_iload hx hb dX7_copy_3 (lv_at hl 5 rfl) ?_
      refine lv_iload hx hb dX7_copy_5 (lv_at hl 4 rfl) ?_
      refine lv_icmp_ge (tgt := 28) hx hb dX7_copy_7 (by decide) (fun c7_1 => ?_) (fun c7_1 => ?_)
      · skip
        have c7_1 := cn_le (a := k) (b := j) (by omega) (by omega) c7_1
        have hP : va_P D vwCl [(r1, .inl (cI, n1, .inl f1)), (r2, .inl (cI, n2, .inl (va_cpy f1 f2 fa ta k)))] H := by
          rw [show (va_cpy f1 f2 fa ta k : Nat → Int32) = va_cpy f1 f2 fa ta j from by rw [show j = k by omega]]
          exact hP
        exact gp_retv hX hr hlocks hS hP rfl dX7_copy_28
      · skip
        have c7_1 := cn_nle (a := k) (b := j) (by omega) (by omega) c7_1
        refine lv_aload_n hx hb dX7_copy_10 rfl (lv_at hl 2 rfl) ?_
        refine lv_iload_n hx hb dX7_copy_11 rfl (lv_at hl 3 rfl) ?_
        refine lv_iload hx hb dX7_copy_12 (lv_at hl 5 rfl) ?_
        refine lv_iadd hx hb dX7_copy_14 ?_
        refine lv_as (y := nI (ta + j)) (nI_add (ta) (j)) ?_
        refine lv_aload_n hx hb dX7_copy_15 rfl (lv_at hl 0 rfl) ?_
        refine lv_iload_n hx hb dX7_copy_16 rfl (lv_at hl 1 rfl) ?_
        refine lv_iload hx hb dX7_copy_17 (lv_at hl 5 rfl) ?_
        refine lv_iadd hx hb dX7_copy_19 ?_
        refine lv_as (y := nI (fa + j)) (nI_add (fa) (j)) ?_
        refine ra_iald (i := fa + j) hx hb hK hP 0 0 rfl rfl (by omega) (by omega) dX7_copy_20 ?_
        refine ra_iast (i := ta + j) hx hb hK hP hD hS 1 0 rfl rfl (by omega) (by omega) dX7_copy_21 (fun H locs hP hD hS => ?_)
        have hP : va_P D vwCl [(r1, .inl (cI, n1, .inl f1)), (r2, .inl (cI, n2, .inl (upd (va_cpy f1 f2 fa ta j) (ta + j) (f1 (fa + j)))))] H := hP
        have hD : va_D A [(r1, .inl (cI, n1, .inl f1)), (r2, .inl (cI, n2, .inl (upd (va_cpy f1 f2 fa ta j) (ta + j) (f1 (fa + j)))))] := hD
        refine lv_iinc (v := nI (j + 1)) (lv' := [(5, .int (nI (j + 1))), (0, .ref r1), (1, .int (nI (fa))), (2, .ref r2), (3, .int (nI (ta))), (4, .int (nI (k)))]) hx hb dX7_copy_22 hl (k := 5) rfl (nI_add _ 1) (by decide) rfl (fun ls hl => ?_)
        refine lv_goto (tgt := 3) hx hb dX7_copy_25 (by decide) ?_
        have hl : lv_has ls 6 [(5, .int (nI ((j + 1)))), (0, .ref r1), (1, .int (nI (fa))), (2, .ref r2), (3, .int (nI (ta))), (4, .int (nI (k)))] := lv_re hl 0 rfl (show nI (j + 1) = nI ((j + 1)) from rfl)
        have hP : va_P D vwCl [(r1, .inl (cI, n1, .inl f1)), (r2, .inl (cI, n2, .inl (va_cpy f1 f2 fa ta (j + 1))))] H := by
          rw [show (va_cpy f1 f2 fa ta (j + 1) : Nat → Int32) = upd (va_cpy f1 f2 fa ta j) (ta + j) (f1 (fa + j)) from cpy_s _ _ _ _ _]
          exact hP
        have hD : va_D A [(r1, .inl (cI, n1, .inl f1)), (r2, .inl (cI, n2, .inl (va_cpy f1 f2 fa ta (j + 1))))] := by
          rw [show (va_cpy f1 f2 fa ta (j + 1) : Nat → Int32) = upd (va_cpy f1 f2 fa ta j) (ta + j) (f1 (fa + j)) from cpy_s _ _ _ _ _]
          exact hD
        have hP : va_P D vwCl [(r1, .inl (cI, n1, .inl f1)), (r2, .inl (cI, n2, .inl (va_cpy f1 f2 fa ta (j + 1))))] H := hP
        have hD : va_D A [(r1, .inl (cI, n1, .inl f1)), (r2, .inl (cI, n2, .inl (va_cpy f1 f2 fa ta (j + 1))))] := hD
        exact ih3 (j + 1) (by omega) (by omega) _ _ hP hD hS _ (lv_sub hl [1, 2, 3, 4, 5, 0] rfl)
  have hl : lv_has ls 6 [(5, .int (nI (0))), (0, .ref r1), (1, .int (nI (fa))), (2, .ref r2), (3, .int (nI (ta))), (4, .int (nI (k)))] := lv_re hl 0 rfl (show 0 = nI (0) from rfl)
  have hP : va_P D vwCl [(r1, .inl (cI, n1, .inl f1)), (r2, .inl (cI, n2, .inl (va_cpy f1 f2 fa ta 0)))] H := by
    rw [show (va_cpy f1 f2 fa ta 0 : Nat → Int32) = f2 from cpy_0 _ _ _ _]
    exact hP
  have hD : va_D A [(r1, .inl (cI, n1, .inl f1)), (r2, .inl (cI, n2, .inl (va_cpy f1 f2 fa ta 0)))] := by
    rw [show (va_cpy f1 f2 fa ta 0 : Nat → Int32) = f2 from cpy_0 _ _ _ _]
    exact hD
  have hP : va_P D vwCl [(r1, .inl (cI, n1, .inl f1)), (r2, .inl (cI, n2, .inl (va_cpy f1 f2 fa ta 0)))] H := hP
  have hD : va_D A [(r1, .inl (cI, n1, .inl f1)), (r2, .inl (cI, n2, .inl (va_cpy f1 f2 fa ta 0)))] := hD
  exact LP3 ((k - 0) + 1) 0 (by omega) (by omega) _ _ hP hD hS _ (lv_sub hl [1, 2, 3, 4, 5, 0] rfl)
