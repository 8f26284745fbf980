theorem dX4_readChip_0 : decode cX4_readChip 0 = .ok (.aload_n 0, 1) := by decide +kernel
theorem dX4_readChip_1 : decode cX4_readChip 1 = .ok (.iconst 0, 1) := by decide +kernel
theorem dX4_readChip_2 : decode cX4_readChip 2 = .ok (.putfield 29, 3) := by decide +kernel
theorem dX4_readChip_5 : decode cX4_readChip 5 = .ok (.aload_n 0, 1) := by decide +kernel
theorem dX4_readChip_6 : decode cX4_readChip 6 = .ok (.invokevirtual 32, 3) := by decide +kernel
theorem dX4_readChip_9 : decode cX4_readChip 9 = .ok (.bipush 70, 2) := by decide +kernel
theorem dX4_readChip_11 : decode cX4_readChip 11 = .ok (.if_icmp .eq 5, 3) := by decide +kernel
theorem dX4_readChip_14 : decode cX4_readChip 14 = .ok (.iconst 0, 1) := by decide +kernel
theorem dX4_readChip_15 : decode cX4_readChip 15 = .ok (.ireturn, 1) := by decide +kernel
theorem dX4_readChip_16 : decode cX4_readChip 16 = .ok (.aload_n 0, 1) := by decide +kernel
theorem dX4_readChip_17 : decode cX4_readChip 17 = .ok (.dup, 1) := by decide +kernel
theorem dX4_readChip_18 : decode cX4_readChip 18 = .ok (.getfield 29, 3) := by decide +kernel
theorem dX4_readChip_21 : decode cX4_readChip 21 = .ok (.iconst 1, 1) := by decide +kernel
theorem dX4_readChip_22 : decode cX4_readChip 22 = .ok (.iadd, 1) := by decide +kernel
theorem dX4_readChip_23 : decode cX4_readChip 23 = .ok (.putfield 29, 3) := by decide +kernel
theorem dX4_readChip_26 : decode cX4_readChip 26 = .ok (.aload_n 0, 1) := by decide +kernel
theorem dX4_readChip_27 : decode cX4_readChip 27 = .ok (.aload_n 0, 1) := by decide +kernel
theorem dX4_readChip_28 : decode cX4_readChip 28 = .ok (.iconst 1, 1) := by decide +kernel
theorem dX4_readChip_29 : decode cX4_readChip 29 = .ok (.iconst 3, 1) := by decide +kernel
theorem dX4_readChip_30 : decode cX4_readChip 30 = .ok (.bipush 8, 2) := by decide +kernel
theorem dX4_readChip_32 : decode cX4_readChip 32 = .ok (.invokevirtual 36, 3) := by decide +kernel
theorem dX4_readChip_35 : decode cX4_readChip 35 = .ok (.putfield 40, 3) := by decide +kernel
theorem dX4_readChip_38 : decode cX4_readChip 38 = .ok (.aload_n 0, 1) := by decide +kernel
theorem dX4_readChip_39 : decode cX4_readChip 39 = .ok (.getfield 40, 3) := by decide +kernel
theorem dX4_readChip_42 : decode cX4_readChip 42 = .ok (.bipush (-9), 2) := by decide +kernel
theorem dX4_readChip_44 : decode cX4_readChip 44 = .ok (.if_icmp .ne 5, 3) := by decide +kernel
theorem dX4_readChip_47 : decode cX4_readChip 47 = .ok (.iconst 0, 1) := by decide +kernel
theorem dX4_readChip_48 : decode cX4_readChip 48 = .ok (.ireturn, 1) := by decide +kernel
theorem dX4_readChip_49 : decode cX4_readChip 49 = .ok (.aload_n 0, 1) := by decide +kernel
theorem dX4_readChip_50 : decode cX4_readChip 50 = .ok (.aload_n 0, 1) := by decide +kernel
theorem dX4_readChip_51 : decode cX4_readChip 51 = .ok (.iconst 2, 1) := by decide +kernel
theorem dX4_readChip_52 : decode cX4_readChip 52 = .ok (.iconst 1, 1) := by decide +kernel
theorem dX4_readChip_53 : decode cX4_readChip 53 = .ok (.bipush 99, 2) := by decide +kernel
theorem dX4_readChip_55 : decode cX4_readChip 55 = .ok (.invokevirtual 36, 3) := by decide +kernel
theorem dX4_readChip_58 : decode cX4_readChip 58 = .ok (.putfield 43, 3) := by decide +kernel
theorem dX4_readChip_61 : decode cX4_readChip 61 = .ok (.aload_n 0, 1) := by decide +kernel
theorem dX4_readChip_62 : decode cX4_readChip 62 = .ok (.getfield 43, 3) := by decide +kernel
theorem dX4_readChip_65 : decode cX4_readChip 65 = .ok (.bipush (-9), 2) := by decide +kernel
theorem dX4_readChip_67 : decode cX4_readChip 67 = .ok (.if_icmp .eq 7, 3) := by decide +kernel
theorem dX4_readChip_70 : decode cX4_readChip 70 = .ok (.iconst 1, 1) := by decide +kernel
theorem dX4_readChip_71 : decode cX4_readChip 71 = .ok (.goto 4, 3) := by decide +kernel
theorem dX4_readChip_74 : decode cX4_readChip 74 = .ok (.iconst 0, 1) := by decide +kernel
theorem dX4_readChip_75 : decode cX4_readChip 75 = .ok (.ireturn, 1) := by decide +kernel
theorem q4_readChip : CQ W6 yX4_readChip cX4_readChip 1 (some .boolean) 0 := ⟨(m6 238 rfl), by decide, by decide, by decide +kernel⟩
set_option maxHeartbeats 4000000 in
set_option maxRecDepth 100000 in
theorem c4_readChip (l : Launch) (D : va_G) (cI : ClassId) (so tx : Nat) (t : Nat → Int32) (n : Nat) (hn : n ≤ 90) (q : Nat) (hq : q ≤ 90) (bl lf cm ky nu : Int32)  : GQi l yX4_readChip cX4_readChip 1 .boolean W6 2 48 D [(so, .inr (4, [.ref tx, .int (nI (n)), .int (nI (q)), .int (bl), .int (lf), .int (cm), .int (ky), .int (nu)])), (tx, .inl (cI, 90, .inl t))] [(cI, .int)] [.ref so] (fun (r9 : Int32) (u9 : va_W) => r9 = (bI ((rch t n bl lf).1.1 = true)) ∧ u9 = [(so, .inr (4, [.ref tx, .int (nI (n)), .int (nI ((rch t n bl lf).1.2)), .int ((rch t n bl lf).2.1), .int ((rch t n bl lf).2.2), .int (cm), .int (ky), .int (nu)])), (tx, .inl (cI, 90, .inl t))]) := by
  refine gq_of RX4 (by decide) rfl (Nat.le_of_ble_eq_true rfl) ?_
  intro p e s m below meth c ls H hX hr hlocks hK hN hP hD hS hl
  generalize gp_A [(so, .inr (4, [.ref tx, .int (nI (n)), .int (nI (q)), .int (bl), .int (lf), .int (cm), .int (ky), .int (nu)])), (tx, .inl (cI, 90, .inl t))] = A at hD hS ⊢
  have hx := hX.1
  have hb := hX.2.1
  have hown := hX.2.2.2.1
  have hts := hX.2.2.2.2
  have hl : lv_has ls 1 [(0, .ref so)] := hl
  refine lv_aload_n hx hb dX4_readChip_0 rfl (lv_at hl 0 rfl) ?_
  refine lv_iconst (v := 0) hx hb dX4_readChip_1 (by decide) ?_
  refine va_put (D := D) (ci := 4) (v := .int (0)) (ty := .int) (C := RX4) (T := TX4) (N := 8) hx hb hts u6_X4 tyX4 tyX4_ok nmX4 hown hK hP hD hS 0 rfl rfl 2 (by decide) (hts _ (m6 217 rfl)) (fun _ h9 => h9) rfl (by decide +kernel) rfl rfl (Nat.le_of_ble_eq_true rfl) dX4_readChip_2 (fun H locs hP hD hS => ?_)
  have hP : va_P D vwCl [(so, .inr (4, [.ref tx, .int (nI (n)), .int (0), .int (bl), .int (lf), .int (cm), .int (ky), .int (nu)])), (tx, .inl (cI, 90, .inl t))] H := hP
  have hD : va_D A [(so, .inr (4, [.ref tx, .int (nI (n)), .int (0), .int (bl), .int (lf), .int (cm), .int (ky), .int (nu)])), (tx, .inl (cI, 90, .inl t))] := hD
  refine lv_aload_n hx hb dX4_readChip_5 rfl (lv_at hl 0 rfl) ?_
  refine rq_callV hX good6 (m6 221 rfl) (c4_current l D cI so tx t n hn 0 (by omega) bl lf cm ky nu ) q4_current rfl (m6 218 rfl) (m6 219 rfl) (m6 220 rfl) ⟨Nat.le_of_ble_eq_true rfl, Nat.le_of_ble_eq_true rfl⟩ hK hN [0] rfl hP [0, 1] rfl (ci := 4) (q0 := 0) rfl rfl rfl hS hl.1 rfl (Nat.le_of_ble_eq_true rfl) dX4_readChip_6 ⟨Nat.zero_le _, Nat.zero_le _⟩ (fun H locs hP hS => ?_)
  refine lv_bipush (v := 70) hx hb dX4_readChip_9 (by decide) ?_
  refine lv_icmp_eq (tgt := 16) hx hb dX4_readChip_11 (by decide) (fun c11_1 => ?_) (fun c11_1 => ?_)
  · skip
    have h0n := crV_is c11_1 (by decide)
    refine lv_aload_n hx hb dX4_readChip_16 rfl (lv_at hl 0 rfl) ?_
    refine lv_dup hx hb dX4_readChip_17 rfl ?_
    refine va_get (D := D) (ci := 4) (v := .int (0)) (C := RX4) (T := TX4) (N := 8) hx hb hts u6_X4 hown hK hP 0 rfl rfl 2 (by decide) (hts _ (m6 217 rfl)) (fun _ h9 => h9) rfl dX4_readChip_18 ?_
    refine lv_iconst (v := 1) hx hb dX4_readChip_21 (by decide) ?_
    refine lv_iadd hx hb dX4_readChip_22 ?_
    refine lv_as (y := 1) (by decide) ?_
    refine va_put (D := D) (ci := 4) (v := .int (1)) (ty := .int) (C := RX4) (T := TX4) (N := 8) hx hb hts u6_X4 tyX4 tyX4_ok nmX4 hown hK hP hD hS 0 rfl rfl 2 (by decide) (hts _ (m6 217 rfl)) (fun _ h9 => h9) rfl (by decide +kernel) rfl rfl (Nat.le_of_ble_eq_true rfl) dX4_readChip_23 (fun H locs hP hD hS => ?_)
    have hP : va_P D vwCl [(so, .inr (4, [.ref tx, .int (nI (n)), .int (1), .int (bl), .int (lf), .int (cm), .int (ky), .int (nu)])), (tx, .inl (cI, 90, .inl t))] H := hP
    have hD : va_D A [(so, .inr (4, [.ref tx, .int (nI (n)), .int (1), .int (bl), .int (lf), .int (cm), .int (ky), .int (nu)])), (tx, .inl (cI, 90, .inl t))] := hD
    refine lv_aload_n hx hb dX4_readChip_26 rfl (lv_at hl 0 rfl) ?_
    refine lv_aload_n hx hb dX4_readChip_27 rfl (lv_at hl 0 rfl) ?_
    refine lv_iconst (v := 1) hx hb dX4_readChip_28 (by decide) ?_
    refine lv_iconst (v := 3) hx hb dX4_readChip_29 (by decide) ?_
    refine lv_bipush (v := 8) hx hb dX4_readChip_30 (by decide) ?_
    refine gp_backi (gq_runV hX good6 (m6 221 rfl) (c4_readNumber l D cI so tx t n hn 1 (by omega) bl lf cm ky nu 1 (by omega) 3 8) q4_readNumber rfl (m6 225 rfl) (m6 226 rfl) (m6 227 rfl) ⟨Nat.le_of_ble_eq_true rfl, Nat.le_of_ble_eq_true rfl⟩ hK hN [0] rfl hP hD [0, 1] (by decide) rfl (ci := 4) (q0 := 0) rfl rfl rfl hl.1 rfl (Nat.le_of_ble_eq_true rfl) dX4_readChip_32 ⟨Nat.zero_le _, Nat.zero_le _⟩) hP hD hS [0, 1] rfl (fun r u h => by rw [h.2]; simp only [List.map_cons, List.map_nil]) (fun r9 u H locs hpost hP hD hS => ?_)
    obtain ⟨hr9, rfl⟩ := hpost
    refine lv_as hr9 ?_
    have hP : va_P D vwCl [(so, .inr (4, [.ref tx, .int (nI (n)), .int (nI ((rdV t n 1 1 3 8).2)), .int (bl), .int (lf), .int (cm), .int (ky), .int (nu)])), (tx, .inl (cI, 90, .inl t))] H := hP
    have hD : va_D A [(so, .inr (4, [.ref tx, .int (nI (n)), .int (nI ((rdV t n 1 1 3 8).2)), .int (bl), .int (lf), .int (cm), .int (ky), .int (nu)])), (tx, .inl (cI, 90, .inl t))] := hD
    refine va_put (D := D) (ci := 4) (v := .int ((rdV t n 1 1 3 8).1)) (ty := .int) (C := RX4) (T := TX4) (N := 8) hx hb hts u6_X4 tyX4 tyX4_ok nmX4 hown hK hP hD hS 0 rfl rfl 3 (by decide) (hts _ (m6 223 rfl)) (fun _ h9 => h9) rfl (by decide +kernel) rfl rfl (Nat.le_of_ble_eq_true rfl) dX4_readChip_35 (fun H locs hP hD hS => ?_)
    have hP : va_P D vwCl [(so, .inr (4, [.ref tx, .int (nI (n)), .int (nI ((rdV t n 1 1 3 8).2)), .int ((rdV t n 1 1 3 8).1), .int (lf), .int (cm), .int (ky), .int (nu)])), (tx, .inl (cI, 90, .inl t))] H := hP
    have hD : va_D A [(so, .inr (4, [.ref tx, .int (nI (n)), .int (nI ((rdV t n 1 1 3 8).2)), .int ((rdV t n 1 1 3 8).1), .int (lf), .int (cm), .int (ky), .int (nu)])), (tx, .inl (cI, 90, .inl t))] := hD
    refine lv_aload_n hx hb dX4_readChip_38 rfl (lv_at hl 0 rfl) ?_
    refine va_get (D := D) (ci := 4) (v := .int ((rdV t n 1 1 3 8).1)) (C := RX4) (T := TX4) (N := 8) hx hb hts u6_X4 hown hK hP 0 rfl rfl 3 (by decide) (hts _ (m6 223 rfl)) (fun _ h9 => h9) rfl dX4_readChip_39 ?_
    refine lv_bipush (v := (-9)) hx hb dX4_readChip_42 (by decide) ?_
    refine lv_icmp_ne (tgt := 49) hx hb dX4_readChip_44 (by decide) (fun c44_2 => ?_) (fun c44_2 => ?_)
    · skip
      refine lv_aload_n hx hb dX4_readChip_49 rfl (lv_at hl 0 rfl) ?_
      refine lv_aload_n hx hb dX4_readChip_50 rfl (lv_at hl 0 rfl) ?_
      refine lv_iconst (v := 2) hx hb dX4_readChip_51 (by decide) ?_
      refine lv_iconst (v := 1) hx hb dX4_readChip_52 (by decide) ?_
      refine lv_bipush (v := 99) hx hb dX4_readChip_53 (by decide) ?_
      refine gp_backi (gq_runV hX good6 (m6 221 rfl) (c4_readNumber l D cI so tx t n hn ((rdV t n 1 1 3 8).2) (rdN_le (by omega)) ((rdV t n 1 1 3 8).1) lf cm ky nu 2 (by omega) 1 99) q4_readNumber rfl (m6 225 rfl) (m6 226 rfl) (m6 227 rfl) ⟨Nat.le_of_ble_eq_true rfl, Nat.le_of_ble_eq_true rfl⟩ hK hN [0] rfl hP hD [0, 1] (by decide) rfl (ci := 4) (q0 := 0) rfl rfl rfl hl.1 rfl (Nat.le_of_ble_eq_true rfl) dX4_readChip_55 ⟨Nat.zero_le _, Nat.zero_le _⟩) hP hD hS [0, 1] rfl (fun r u h => by rw [h.2]; simp only [List.map_cons, List.map_nil]) (fun r9 u H locs hpost hP hD hS => ?_)
      obtain ⟨hr9, rfl⟩ := hpost
      refine lv_as hr9 ?_
      have hP : va_P D vwCl [(so, .inr (4, [.ref tx, .int (nI (n)), .int (nI ((rdV t n ((rdV t n 1 1 3 8).2) 2 1 99).2)), .int ((rdV t n 1 1 3 8).1), .int (lf), .int (cm), .int (ky), .int (nu)])), (tx, .inl (cI, 90, .inl t))] H := hP
      have hD : va_D A [(so, .inr (4, [.ref tx, .int (nI (n)), .int (nI ((rdV t n ((rdV t n 1 1 3 8).2) 2 1 99).2)), .int ((rdV t n 1 1 3 8).1), .int (lf), .int (cm), .int (ky), .int (nu)])), (tx, .inl (cI, 90, .inl t))] := hD
      refine va_put (D := D) (ci := 4) (v := .int ((rdV t n ((rdV t n 1 1 3 8).2) 2 1 99).1)) (ty := .int) (C := RX4) (T := TX4) (N := 8) hx hb hts u6_X4 tyX4 tyX4_ok nmX4 hown hK hP hD hS 0 rfl rfl 4 (by decide) (hts _ (m6 224 rfl)) (fun _ h9 => h9) rfl (by decide +kernel) rfl rfl (Nat.le_of_ble_eq_true rfl) dX4_readChip_58 (fun H locs hP hD hS => ?_)
      have hP : va_P D vwCl [(so, .inr (4, [.ref tx, .int (nI (n)), .int (nI ((rdV t n ((rdV t n 1 1 3 8).2) 2 1 99).2)), .int ((rdV t n 1 1 3 8).1), .int ((rdV t n ((rdV t n 1 1 3 8).2) 2 1 99).1), .int (cm), .int (ky), .int (nu)])), (tx, .inl (cI, 90, .inl t))] H := hP
      have hD : va_D A [(so, .inr (4, [.ref tx, .int (nI (n)), .int (nI ((rdV t n ((rdV t n 1 1 3 8).2) 2 1 99).2)), .int ((rdV t n 1 1 3 8).1), .int ((rdV t n ((rdV t n 1 1 3 8).2) 2 1 99).1), .int (cm), .int (ky), .int (nu)])), (tx, .inl (cI, 90, .inl t))] := hD
      refine lv_aload_n hx hb dX4_readChip_61 rfl (lv_at hl 0 rfl) ?_
      refine va_get (D := D) (ci := 4) (v := .int ((rdV t n ((rdV t n 1 1 3 8).2) 2 1 99).1)) (C := RX4) (T := TX4) (N := 8) hx hb hts u6_X4 hown hK hP 0 rfl rfl 4 (by decide) (hts _ (m6 224 rfl)) (fun _ h9 => h9) rfl dX4_readChip_62 ?_
      refine lv_bipush (v := (-9)) hx hb dX4_readChip_65 (by decide) ?_
      refine lv_icmp_eq (tgt := 74) hx hb dX4_readChip_67 (by decide) (fun c67_3 => ?_) (fun c67_3 => ?_)
      · skip
        refine lv_iconst (v := 0) hx hb dX4_readChip_74 (by decide) ?_
        have hP : va_P D vwCl [(so, .inr (4, [.ref tx, .int (nI (n)), .int (nI ((rch t n bl lf).1.2)), .int ((rch t n bl lf).2.1), .int ((rch t n bl lf).2.2), .int (cm), .int (ky), .int (nu)])), (tx, .inl (cI, 90, .inl t))] H := by
          rw [show ((rch t n bl lf).2.2 : Int32) = (rdV t n ((rdV t n 1 1 3 8).2) 2 1 99).1 from by rw [rch, if_pos c11_1, if_neg c44_2]]
          rw [show ((rch t n bl lf).2.1 : Int32) = (rdV t n 1 1 3 8).1 from by rw [rch, if_pos c11_1, if_neg c44_2]]
          rw [show (nI ((rch t n bl lf).1.2) : Int32) = nI ((rdV t n ((rdV t n 1 1 3 8).2) 2 1 99).2) from by rw [rch, if_pos c11_1, if_neg c44_2]]
          exact hP
        exact gp_retz hX hr hlocks hS hP (P := (rch t n bl lf).1.1 = true) ((bI_0 (by rw [rch, if_pos c11_1, if_neg c44_2]; simp [c67_3])).symm) ⟨(bI_0 (by rw [rch, if_pos c11_1, if_neg c44_2]; simp [c67_3])).symm, rfl⟩ dX4_readChip_75
      · skip
        refine lv_iconst (v := 1) hx hb dX4_readChip_70 (by decide) ?_
        refine lv_goto (tgt := 75) hx hb dX4_readChip_71 (by decide) ?_
        have hP : va_P D vwCl [(so, .inr (4, [.ref tx, .int (nI (n)), .int (nI ((rch t n bl lf).1.2)), .int ((rch t n bl lf).2.1), .int ((rch t n bl lf).2.2), .int (cm), .int (ky), .int (nu)])), (tx, .inl (cI, 90, .inl t))] H := by
          rw [show ((rch t n bl lf).2.2 : Int32) = (rdV t n ((rdV t n 1 1 3 8).2) 2 1 99).1 from by rw [rch, if_pos c11_1, if_neg c44_2]]
          rw [show ((rch t n bl lf).2.1 : Int32) = (rdV t n 1 1 3 8).1 from by rw [rch, if_pos c11_1, if_neg c44_2]]
          rw [show (nI ((rch t n bl lf).1.2) : Int32) = nI ((rdV t n ((rdV t n 1 1 3 8).2) 2 1 99).2) from by rw [rch, if_pos c11_1, if_neg c44_2]]
          exact hP
        exact gp_retz hX hr hlocks hS hP (P := (rch t n bl lf).1.1 = true) ((bI_1 (by rw [rch, if_pos c11_1, if_neg c44_2]; simp [c67_3])).symm) ⟨(bI_1 (by rw [rch, if_pos c11_1, if_neg c44_2]; simp [c67_3])).symm, rfl⟩ dX4_readChip_75
    · skip
      refine lv_iconst (v := 0) hx hb dX4_readChip_47 (by decide) ?_
      have hP : va_P D vwCl [(so, .inr (4, [.ref tx, .int (nI (n)), .int (nI ((rch t n bl lf).1.2)), .int ((rch t n bl lf).2.1), .int ((rch t n bl lf).2.2), .int (cm), .int (ky), .int (nu)])), (tx, .inl (cI, 90, .inl t))] H := by
        rw [show ((rch t n bl lf).2.2 : Int32) = lf from by rw [rch, if_pos c11_1, if_pos c44_2]]
        rw [show ((rch t n bl lf).2.1 : Int32) = (rdV t n 1 1 3 8).1 from by rw [rch, if_pos c11_1, if_pos c44_2]]
        rw [show (nI ((rch t n bl lf).1.2) : Int32) = nI ((rdV t n 1 1 3 8).2) from by rw [rch, if_pos c11_1, if_pos c44_2]]
        exact hP
      exact gp_retz hX hr hlocks hS hP (P := (rch t n bl lf).1.1 = true) ((bI_0 (by rw [rch, if_pos c11_1, if_pos c44_2]; simp)).symm) ⟨(bI_0 (by rw [rch, if_pos c11_1, if_pos c44_2]; simp)).symm, rfl⟩ dX4_readChip_48
  · skip
    refine lv_iconst (v := 0) hx hb dX4_readChip_14 (by decide) ?_
    have hP : va_P D vwCl [(so, .inr (4, [.ref tx, .int (nI (n)), .int (nI ((rch t n bl lf).1.2)), .int ((rch t n bl lf).2.1), .int ((rch t n bl lf).2.2), .int (cm), .int (ky), .int (nu)])), (tx, .inl (cI, 90, .inl t))] H := by
      rw [show ((rch t n bl lf).2.2 : Int32) = lf from by rw [rch, if_neg c11_1]]
      rw [show ((rch t n bl lf).2.1 : Int32) = bl from by rw [rch, if_neg c11_1]]
      rw [show (nI ((rch t n bl lf).1.2) : Int32) = 0 from by rw [rch, if_neg c11_1]; rfl]
      exact hP
    exact gp_retz hX hr hlocks hS hP (P := (rch t n bl lf).1.1 = true) ((bI_0 (by rw [rch, if_neg c11_1]; simp)).symm) ⟨(bI_0 (by rw [rch, if_neg c11_1]; simp)).symm, rfl⟩ dX4_readChip_15
theorem dX4_readCommand_0 : decode cX4_readCommand 0 = .ok (.aload_n 0, 1) := by decide +kernel
theorem dX4_readCommand_1 : decode cX4_readCommand 1 = .ok (.aload_n 0, 1) := by decide +kernel
theorem dX4_readCommand_2 : decode cX4_readCommand 2 = .ok (.invokevirtual 32, 3) := by decide +kernel
theorem dX4_readCommand_5 : decode cX4_readCommand 5 = .ok (.invokestatic 46, 3) := by decide +kernel
theorem dX4_readCommand_8 : decode cX4_readCommand 8 = .ok (.putfield 50, 3) := by decide +kernel
theorem dX4_readCommand_11 : decode cX4_readCommand 11 = .ok (.aload_n 0, 1) := by decide +kernel
theorem dX4_readCommand_12 : decode cX4_readCommand 12 = .ok (.getfield 50, 3) := by decide +kernel
theorem dX4_readCommand_15 : decode cX4_readCommand 15 = .ok (.bipush (-9), 2) := by decide +kernel
theorem dX4_readCommand_17 : decode cX4_readCommand 17 = .ok (.if_icmp .ne 5, 3) := by decide +kernel
theorem dX4_readCommand_20 : decode cX4_readCommand 20 = .ok (.iconst 0, 1) := by decide +kernel
theorem dX4_readCommand_21 : decode cX4_readCommand 21 = .ok (.ireturn, 1) := by decide +kernel
theorem dX4_readCommand_22 : decode cX4_readCommand 22 = .ok (.aload_n 0, 1) := by decide +kernel
theorem dX4_readCommand_23 : decode cX4_readCommand 23 = .ok (.dup, 1) := by decide +kernel
theorem dX4_readCommand_24 : decode cX4_readCommand 24 = .ok (.getfield 29, 3) := by decide +kernel
theorem dX4_readCommand_27 : decode cX4_readCommand 27 = .ok (.iconst 1, 1) := by decide +kernel
theorem dX4_readCommand_28 : decode cX4_readCommand 28 = .ok (.iadd, 1) := by decide +kernel
theorem dX4_readCommand_29 : decode cX4_readCommand 29 = .ok (.putfield 29, 3) := by decide +kernel
theorem dX4_readCommand_32 : decode cX4_readCommand 32 = .ok (.aload_n 0, 1) := by decide +kernel
theorem dX4_readCommand_33 : decode cX4_readCommand 33 = .ok (.iconst 0, 1) := by decide +kernel
theorem dX4_readCommand_34 : decode cX4_readCommand 34 = .ok (.putfield 53, 3) := by decide +kernel
theorem dX4_readCommand_37 : decode cX4_readCommand 37 = .ok (.aload_n 0, 1) := by decide +kernel
theorem dX4_readCommand_38 : decode cX4_readCommand 38 = .ok (.iconst 0, 1) := by decide +kernel
theorem dX4_readCommand_39 : decode cX4_readCommand 39 = .ok (.putfield 56, 3) := by decide +kernel
theorem dX4_readCommand_42 : decode cX4_readCommand 42 = .ok (.aload_n 0, 1) := by decide +kernel
theorem dX4_readCommand_43 : decode cX4_readCommand 43 = .ok (.getfield 50, 3) := by decide +kernel
theorem dX4_readCommand_46 : decode cX4_readCommand 46 = .ok (.iconst 1, 1) := by decide +kernel
theorem dX4_readCommand_47 : decode cX4_readCommand 47 = .ok (.if_icmp .eq 11, 3) := by decide +kernel
theorem dX4_readCommand_50 : decode cX4_readCommand 50 = .ok (.aload_n 0, 1) := by decide +kernel
theorem dX4_readCommand_51 : decode cX4_readCommand 51 = .ok (.getfield 50, 3) := by decide +kernel
theorem dX4_readCommand_54 : decode cX4_readCommand 54 = .ok (.iconst 2, 1) := by decide +kernel
theorem dX4_readCommand_55 : decode cX4_readCommand 55 = .ok (.if_icmp .ne 26, 3) := by decide +kernel
theorem dX4_readCommand_58 : decode cX4_readCommand 58 = .ok (.aload_n 0, 1) := by decide +kernel
theorem dX4_readCommand_59 : decode cX4_readCommand 59 = .ok (.aload_n 0, 1) := by decide +kernel
theorem dX4_readCommand_60 : decode cX4_readCommand 60 = .ok (.iconst 2, 1) := by decide +kernel
theorem dX4_readCommand_61 : decode cX4_readCommand 61 = .ok (.iconst 0, 1) := by decide +kernel
theorem dX4_readCommand_62 : decode cX4_readCommand 62 = .ok (.bipush 15, 2) := by decide +kernel
theorem dX4_readCommand_64 : decode cX4_readCommand 64 = .ok (.invokevirtual 36, 3) := by decide +kernel
theorem dX4_readCommand_67 : decode cX4_readCommand 67 = .ok (.putfield 53, 3) := by decide +kernel
theorem dX4_readCommand_70 : decode cX4_readCommand 70 = .ok (.aload_n 0, 1) := by decide +kernel
theorem dX4_readCommand_71 : decode cX4_readCommand 71 = .ok (.getfield 53, 3) := by decide +kernel
theorem dX4_readCommand_74 : decode cX4_readCommand 74 = .ok (.bipush (-9), 2) := by decide +kernel
theorem dX4_readCommand_76 : decode cX4_readCommand 76 = .ok (.if_icmp .ne 5, 3) := by decide +kernel
theorem dX4_readCommand_79 : decode cX4_readCommand 79 = .ok (.iconst 0, 1) := by decide +kernel
theorem dX4_readCommand_80 : decode cX4_readCommand 80 = .ok (.ireturn, 1) := by decide +kernel
theorem dX4_readCommand_81 : decode cX4_readCommand 81 = .ok (.aload_n 0, 1) := by decide +kernel
theorem dX4_readCommand_82 : decode cX4_readCommand 82 = .ok (.getfield 50, 3) := by decide +kernel
theorem dX4_readCommand_85 : decode cX4_readCommand 85 = .ok (.iconst 1, 1) := by decide +kernel
theorem dX4_readCommand_86 : decode cX4_readCommand 86 = .ok (.if_icmp .ne 19, 3) := by decide +kernel
theorem dX4_readCommand_89 : decode cX4_readCommand 89 = .ok (.aload_n 0, 1) := by decide +kernel
theorem dX4_readCommand_90 : decode cX4_readCommand 90 = .ok (.aload_n 0, 1) := by decide +kernel
theorem dX4_readCommand_91 : decode cX4_readCommand 91 = .ok (.iconst 3, 1) := by decide +kernel
theorem dX4_readCommand_92 : decode cX4_readCommand 92 = .ok (.iconst 0, 1) := by decide +kernel
theorem dX4_readCommand_93 : decode cX4_readCommand 93 = .ok (.sipush 999, 3) := by decide +kernel
theorem dX4_readCommand_96 : decode cX4_readCommand 96 = .ok (.invokevirtual 36, 3) := by decide +kernel
theorem dX4_readCommand_99 : decode cX4_readCommand 99 = .ok (.putfield 56, 3) := by decide +kernel
theorem dX4_readCommand_102 : decode cX4_readCommand 102 = .ok (.goto 46, 3) := by decide +kernel
theorem dX4_readCommand_105 : decode cX4_readCommand 105 = .ok (.aload_n 0, 1) := by decide +kernel
theorem dX4_readCommand_106 : decode cX4_readCommand 106 = .ok (.getfield 50, 3) := by decide +kernel
theorem dX4_readCommand_109 : decode cX4_readCommand 109 = .ok (.iconst 4, 1) := by decide +kernel
theorem dX4_readCommand_110 : decode cX4_readCommand 110 = .ok (.if_icmp .ne 18, 3) := by decide +kernel
theorem dX4_readCommand_113 : decode cX4_readCommand 113 = .ok (.aload_n 0, 1) := by decide +kernel
theorem dX4_readCommand_114 : decode cX4_readCommand 114 = .ok (.aload_n 0, 1) := by decide +kernel
theorem dX4_readCommand_115 : decode cX4_readCommand 115 = .ok (.iconst 2, 1) := by decide +kernel
theorem dX4_readCommand_116 : decode cX4_readCommand 116 = .ok (.iconst 0, 1) := by decide +kernel
theorem dX4_readCommand_117 : decode cX4_readCommand 117 = .ok (.bipush 99, 2) := by decide +kernel
theorem dX4_readCommand_119 : decode cX4_readCommand 119 = .ok (.invokevirtual 36, 3) := by decide +kernel
theorem dX4_readCommand_122 : decode cX4_readCommand 122 = .ok (.putfield 56, 3) := by decide +kernel
theorem dX4_readCommand_125 : decode cX4_readCommand 125 = .ok (.goto 23, 3) := by decide +kernel
theorem dX4_readCommand_128 : decode cX4_readCommand 128 = .ok (.aload_n 0, 1) := by decide +kernel
theorem dX4_readCommand_129 : decode cX4_readCommand 129 = .ok (.getfield 50, 3) := by decide +kernel
theorem dX4_readCommand_132 : decode cX4_readCommand 132 = .ok (.bipush 9, 2) := by decide +kernel
theorem dX4_readCommand_134 : decode cX4_readCommand 134 = .ok (.if_icmp .ne 14, 3) := by decide +kernel
theorem dX4_readCommand_137 : decode cX4_readCommand 137 = .ok (.aload_n 0, 1) := by decide +kernel
theorem dX4_readCommand_138 : decode cX4_readCommand 138 = .ok (.aload_n 0, 1) := by decide +kernel
theorem dX4_readCommand_139 : decode cX4_readCommand 139 = .ok (.iconst 1, 1) := by decide +kernel
theorem dX4_readCommand_140 : decode cX4_readCommand 140 = .ok (.iconst 0, 1) := by decide +kernel
theorem dX4_readCommand_141 : decode cX4_readCommand 141 = .ok (.iconst 2, 1) := by decide +kernel
theorem dX4_readCommand_142 : decode cX4_readCommand 142 = .ok (.invokevirtual 36, 3) := by decide +kernel
theorem dX4_readCommand_145 : decode cX4_readCommand 145 = .ok (.putfield 56, 3) := by decide +kernel
theorem dX4_readCommand_148 : decode cX4_readCommand 148 = .ok (.aload_n 0, 1) := by decide +kernel
theorem dX4_readCommand_149 : decode cX4_readCommand 149 = .ok (.getfield 56, 3) := by decide +kernel
theorem dX4_readCommand_152 : decode cX4_readCommand 152 = .ok (.bipush (-9), 2) := by decide +kernel
theorem dX4_readCommand_154 : decode cX4_readCommand 154 = .ok (.if_icmp .eq 7, 3) := by decide +kernel
theorem dX4_readCommand_157 : decode cX4_readCommand 157 = .ok (.iconst 1, 1) := by decide +kernel
theorem dX4_readCommand_158 : decode cX4_readCommand 158 = .ok (.goto 4, 3) := by decide +kernel
theorem dX4_readCommand_161 : decode cX4_readCommand 161 = .ok (.iconst 0, 1) := by decide +kernel
theorem dX4_readCommand_162 : decode cX4_readCommand 162 = .ok (.ireturn, 1) := by decide +kernel
theorem q4_readCommand : CQ W6 yX4_readCommand cX4_readCommand 1 (some .boolean) 0 := ⟨(m6 246 rfl), by decide, by decide, by decide +kernel⟩
set_option maxHeartbeats 4000000 in
set_option maxRecDepth 100000 in
theorem c4_readCommand (l : Launch) (D : va_G) (cI : ClassId) (so tx : Nat) (t : Nat → Int32) (n : Nat) (hn : n ≤ 90) (q : Nat) (hq : q ≤ n) (bl lf cm ky nu : Int32)  : GQi l yX4_readCommand cX4_readCommand 1 .boolean W6 2 48 D [(so, .inr (4, [.ref tx, .int (nI (n)), .int (nI (q)), .int (bl), .int (lf), .int (cm), .int (ky), .int (nu)])), (tx, .inl (cI, 90, .inl t))] [(cI, .int)] [.ref so] (fun (r9 : Int32) (u9 : va_W) => r9 = (bI ((rcF t n q ky nu).1.1 = true)) ∧ u9 = [(so, .inr (4, [.ref tx, .int (nI (n)), .int (nI ((rcF t n q ky nu).1.2)), .int (bl), .int (lf), .int ((rcF t n q ky nu).2.1), .int ((rcF t n q ky nu).2.2.1), .int ((rcF t n q ky nu).2.2.2)])), (tx, .inl (cI, 90, .inl t))]) := by
  refine gq_of RX4 (by decide) rfl (Nat.le_of_ble_eq_true rfl) ?_
  intro p e s m below meth c ls H hX hr hlocks hK hN hP hD hS hl
  generalize gp_A [(so, .inr (4, [.ref tx, .int (nI (n)), .int (nI (q)), .int (bl), .int (lf), .int (cm), .int (ky), .int (nu)])), (tx, .inl (cI, 90, .inl t))] = A at hD hS ⊢
  have hx := hX.1
  have hb := hX.2.1
  have hown := hX.2.2.2.1
  have hts := hX.2.2.2.2
  have hl : lv_has ls 1 [(0, .ref so)] := hl
  refine lv_aload_n hx hb dX4_readCommand_0 rfl (lv_at hl 0 rfl) ?_
  refine lv_aload_n hx hb dX4_readCommand_1 rfl (lv_at hl 0 rfl) ?_
  refine rq_callV hX good6 (m6 221 rfl) (c4_current l D cI so tx t n hn q (by omega) bl lf cm ky nu ) q4_current rfl (m6 218 rfl) (m6 219 rfl) (m6 220 rfl) ⟨Nat.le_of_ble_eq_true rfl, Nat.le_of_ble_eq_true rfl⟩ hK hN [0] rfl hP [0, 1] rfl (ci := 4) (q0 := 0) rfl rfl rfl hS hl.1 rfl (Nat.le_of_ble_eq_true rfl) dX4_readCommand_2 ⟨Nat.zero_le _, Nat.zero_le _⟩ (fun H locs hP hS => ?_)
  refine rq_callS hX good6 (m6 221 rfl) (c4_commandOf l D (crV t n q)) q4_commandOf rfl (m6 232 rfl) (m6 233 rfl) ⟨Nat.le_of_ble_eq_true rfl, Nat.le_of_ble_eq_true rfl⟩ hK hN [] rfl hP [] rfl hS hl.1 rfl (Nat.le_of_ble_eq_true rfl) dX4_readCommand_5 ⟨Nat.zero_le _, Nat.zero_le _⟩ (fun H locs hP hS => ?_)
  refine va_put (D := D) (ci := 4) (v := .int (coF (crV t n q))) (ty := .int) (C := RX4) (T := TX4) (N := 8) hx hb hts u6_X4 tyX4 tyX4_ok nmX4 hown hK hP hD hS 0 rfl rfl 5 (by decide) (hts _ (m6 229 rfl)) (fun _ h9 => h9) rfl (by decide +kernel) rfl rfl (Nat.le_of_ble_eq_true rfl) dX4_readCommand_8 (fun H locs hP hD hS => ?_)
  have hP : va_P D vwCl [(so, .inr (4, [.ref tx, .int (nI (n)), .int (nI (q)), .int (bl), .int (lf), .int (coF (crV t n q)), .int (ky), .int (nu)])), (tx, .inl (cI, 90, .inl t))] H := hP
  have hD : va_D A [(so, .inr (4, [.ref tx, .int (nI (n)), .int (nI (q)), .int (bl), .int (lf), .int (coF (crV t n q)), .int (ky), .int (nu)])), (tx, .inl (cI, 90, .inl t))] := hD
  refine lv_aload_n hx hb dX4_readCommand_11 rfl (lv_at hl 0 rfl) ?_
  refine va_get (D := D) (ci := 4) (v := .int (coF (crV t n q))) (C := RX4) (T := TX4) (N := 8) hx hb hts u6_X4 hown hK hP 0 rfl rfl 5 (by decide) (hts _ (m6 229 rfl)) (fun _ h9 => h9) rfl dX4_readCommand_12 ?_
  refine lv_bipush (v := (-9)) hx hb dX4_readCommand_15 (by decide) ?_
  refine lv_icmp_ne (tgt := 22) hx hb dX4_readCommand_17 (by decide) (fun c17_1 => ?_) (fun c17_1 => ?_)
  · skip
    have h0n := coF_in c17_1
    refine lv_aload_n hx hb dX4_readCommand_22 rfl (lv_at hl 0 rfl) ?_
    refine lv_dup hx hb dX4_readCommand_23 rfl ?_
    refine va_get (D := D) (ci := 4) (v := .int (nI (q))) (C := RX4) (T := TX4) (N := 8) hx hb hts u6_X4 hown hK hP 0 rfl rfl 2 (by decide) (hts _ (m6 217 rfl)) (fun _ h9 => h9) rfl dX4_readCommand_24 ?_
    refine lv_iconst (v := 1) hx hb dX4_readCommand_27 (by decide) ?_
    refine lv_iadd hx hb dX4_readCommand_28 ?_
    refine lv_as (y := nI (q + 1)) (nI_add (q) (1)) ?_
    refine va_put (D := D) (ci := 4) (v := .int (nI (q + 1))) (ty := .int) (C := RX4) (T := TX4) (N := 8) hx hb hts u6_X4 tyX4 tyX4_ok nmX4 hown hK hP hD hS 0 rfl rfl 2 (by decide) (hts _ (m6 217 rfl)) (fun _ h9 => h9) rfl (by decide +kernel) rfl rfl (Nat.le_of_ble_eq_true rfl) dX4_readCommand_29 (fun H locs hP hD hS => ?_)
    have hP : va_P D vwCl [(so, .inr (4, [.ref tx, .int (nI (n)), .int (nI (q + 1)), .int (bl), .int (lf), .int (coF (crV t n q)), .int (ky), .int (nu)])), (tx, .inl (cI, 90, .inl t))] H := hP
    have hD : va_D A [(so, .inr (4, [.ref tx, .int (nI (n)), .int (nI (q + 1)), .int (bl), .int (lf), .int (coF (crV t n q)), .int (ky), .int (nu)])), (tx, .inl (cI, 90, .inl t))] := hD
    refine lv_aload_n hx hb dX4_readCommand_32 rfl (lv_at hl 0 rfl) ?_
    refine lv_iconst (v := 0) hx hb dX4_readCommand_33 (by decide) ?_
    refine va_put (D := D) (ci := 4) (v := .int (0)) (ty := .int) (C := RX4) (T := TX4) (N := 8) hx hb hts u6_X4 tyX4 tyX4_ok nmX4 hown hK hP hD hS 0 rfl rfl 6 (by decide) (hts _ (m6 230 rfl)) (fun _ h9 => h9) rfl (by decide +kernel) rfl rfl (Nat.le_of_ble_eq_true rfl) dX4_readCommand_34 (fun H locs hP hD hS => ?_)
    have hP : va_P D vwCl [(so, .inr (4, [.ref tx, .int (nI (n)), .int (nI (q + 1)), .int (bl), .int (lf), .int (coF (crV t n q)), .int (0), .int (nu)])), (tx, .inl (cI, 90, .inl t))] H := hP
    have hD : va_D A [(so, .inr (4, [.ref tx, .int (nI (n)), .int (nI (q + 1)), .int (bl), .int (lf), .int (coF (crV t n q)), .int (0), .int (nu)])), (tx, .inl (cI, 90, .inl t))] := hD
    refine lv_aload_n hx hb dX4_readCommand_37 rfl (lv_at hl 0 rfl) ?_
    refine lv_iconst (v := 0) hx hb dX4_readCommand_38 (by decide) ?_
    refine va_put (D := D) (ci := 4) (v := .int (0)) (ty := .int) (C := RX4) (T := TX4) (N := 8) hx hb hts u6_X4 tyX4 tyX4_ok nmX4 hown hK hP hD hS 0 rfl rfl 7 (by decide) (hts _ (m6 231 rfl)) (fun _ h9 => h9) rfl (by decide +kernel) rfl rfl (Nat.le_of_ble_eq_true rfl) dX4_readCommand_39 (fun H locs hP hD hS => ?_)
    have hP : va_P D vwCl [(so, .inr (4, [.ref tx, .int (nI (n)), .int (nI (q + 1)), .int (bl), .int (lf), .int (coF (crV t n q)), .int (0), .int (0)])), (tx, .inl (cI, 90, .inl t))] H := hP
    have hD : va_D A [(so, .inr (4, [.ref tx, .int (nI (n)), .int (nI (q + 1)), .int (bl), .int (lf), .int (coF (crV t n q)), .int (0), .int (0)])), (tx, .inl (cI, 90, .inl t))] := hD
    refine lv_aload_n hx hb dX4_readCommand_42 rfl (lv_at hl 0 rfl) ?_
    refine va_get (D := D) (ci := 4) (v := .int (coF (crV t n q))) (C := RX4) (T := TX4) (N := 8) hx hb hts u6_X4 hown hK hP 0 rfl rfl 5 (by decide) (hts _ (m6 229 rfl)) (fun _ h9 => h9) rfl dX4_readCommand_43 ?_
    refine lv_iconst (v := 1) hx hb dX4_readCommand_46 (by decide) ?_
    refine lv_icmp_eq (tgt := 58) hx hb dX4_readCommand_47 (by decide) (fun c47_2 => ?_) (fun c47_2 => ?_)
    · skip
      refine lv_aload_n hx hb dX4_readCommand_58 rfl (lv_at hl 0 rfl) ?_
      refine lv_aload_n hx hb dX4_readCommand_59 rfl (lv_at hl 0 rfl) ?_
      refine lv_iconst (v := 2) hx hb dX4_readCommand_60 (by decide) ?_
      refine lv_iconst (v := 0) hx hb dX4_readCommand_61 (by decide) ?_
      refine lv_bipush (v := 15) hx hb dX4_readCommand_62 (by decide) ?_
      refine gp_backi (gq_runV hX good6 (m6 221 rfl) (c4_readNumber l D cI so tx t n hn (q + 1) (by omega) bl lf (coF (crV t n q)) 0 0 2 (by omega) 0 15) q4_readNumber rfl (m6 225 rfl) (m6 226 rfl) (m6 227 rfl) ⟨Nat.le_of_ble_eq_true rfl, Nat.le_of_ble_eq_true rfl⟩ hK hN [0] rfl hP hD [0, 1] (by decide) rfl (ci := 4) (q0 := 0) rfl rfl rfl hl.1 rfl (Nat.le_of_ble_eq_true rfl) dX4_readCommand_64 ⟨Nat.zero_le _, Nat.zero_le _⟩) hP hD hS [0, 1] rfl (fun r u h => by rw [h.2]; simp only [List.map_cons, List.map_nil]) (fun r9 u H locs hpost hP hD hS => ?_)
      obtain ⟨hr9, rfl⟩ := hpost
      refine lv_as hr9 ?_
      have hP : va_P D vwCl [(so, .inr (4, [.ref tx, .int (nI (n)), .int (nI ((rdV t n (q + 1) 2 0 15).2)), .int (bl), .int (lf), .int (coF (crV t n q)), .int (0), .int (0)])), (tx, .inl (cI, 90, .inl t))] H := hP
      have hD : va_D A [(so, .inr (4, [.ref tx, .int (nI (n)), .int (nI ((rdV t n (q + 1) 2 0 15).2)), .int (bl), .int (lf), .int (coF (crV t n q)), .int (0), .int (0)])), (tx, .inl (cI, 90, .inl t))] := hD
      refine va_put (D := D) (ci := 4) (v := .int ((rdV t n (q + 1) 2 0 15).1)) (ty := .int) (C := RX4) (T := TX4) (N := 8) hx hb hts u6_X4 tyX4 tyX4_ok nmX4 hown hK hP hD hS 0 rfl rfl 6 (by decide) (hts _ (m6 230 rfl)) (fun _ h9 => h9) rfl (by decide +kernel) rfl rfl (Nat.le_of_ble_eq_true rfl) dX4_readCommand_67 (fun H locs hP hD hS => ?_)
      have hP : va_P D vwCl [(so, .inr (4, [.ref tx, .int (nI (n)), .int (nI ((rdV t n (q + 1) 2 0 15).2)), .int (bl), .int (lf), .int (coF (crV t n q)), .int ((rdV t n (q + 1) 2 0 15).1), .int (0)])), (tx, .inl (cI, 90, .inl t))] H := hP
      have hD : va_D A [(so, .inr (4, [.ref tx, .int (nI (n)), .int (nI ((rdV t n (q + 1) 2 0 15).2)), .int (bl), .int (lf), .int (coF (crV t n q)), .int ((rdV t n (q + 1) 2 0 15).1), .int (0)])), (tx, .inl (cI, 90, .inl t))] := hD
      refine lv_aload_n hx hb dX4_readCommand_70 rfl (lv_at hl 0 rfl) ?_
      refine va_get (D := D) (ci := 4) (v := .int ((rdV t n (q + 1) 2 0 15).1)) (C := RX4) (T := TX4) (N := 8) hx hb hts u6_X4 hown hK hP 0 rfl rfl 6 (by decide) (hts _ (m6 230 rfl)) (fun _ h9 => h9) rfl dX4_readCommand_71 ?_
      refine lv_bipush (v := (-9)) hx hb dX4_readCommand_74 (by decide) ?_
      refine lv_icmp_ne (tgt := 81) hx hb dX4_readCommand_76 (by decide) (fun c76_3 => ?_) (fun c76_3 => ?_)
      · skip
        refine lv_aload_n hx hb dX4_readCommand_81 rfl (lv_at hl 0 rfl) ?_
        refine va_get (D := D) (ci := 4) (v := .int (coF (crV t n q))) (C := RX4) (T := TX4) (N := 8) hx hb hts u6_X4 hown hK hP 0 rfl rfl 5 (by decide) (hts _ (m6 229 rfl)) (fun _ h9 => h9) rfl dX4_readCommand_82 ?_
        refine lv_iconst (v := 1) hx hb dX4_readCommand_85 (by decide) ?_
        refine lv_icmp_ne (tgt := 105) hx hb dX4_readCommand_86 (by decide) (fun c86_4 => ?_) (fun c86_4 => ?_)
        · skip
          refine lv_aload_n hx hb dX4_readCommand_105 rfl (lv_at hl 0 rfl) ?_
          refine va_get (D := D) (ci := 4) (v := .int (coF (crV t n q))) (C := RX4) (T := TX4) (N := 8) hx hb hts u6_X4 hown hK hP 0 rfl rfl 5 (by decide) (hts _ (m6 229 rfl)) (fun _ h9 => h9) rfl dX4_readCommand_106 ?_
          refine lv_iconst (v := 4) hx hb dX4_readCommand_109 (by decide) ?_
          refine lv_icmp_ne (tgt := 128) hx hb dX4_readCommand_110 (by decide) (fun c110_5 => ?_) (fun c110_5 => ?_)
          · skip
            refine lv_aload_n hx hb dX4_readCommand_128 rfl (lv_at hl 0 rfl) ?_
            refine va_get (D := D) (ci := 4) (v := .int (coF (crV t n q))) (C := RX4) (T := TX4) (N := 8) hx hb hts u6_X4 hown hK hP 0 rfl rfl 5 (by decide) (hts _ (m6 229 rfl)) (fun _ h9 => h9) rfl dX4_readCommand_129 ?_
            refine lv_bipush (v := 9) hx hb dX4_readCommand_132 (by decide) ?_
            refine lv_icmp_ne (tgt := 148) hx hb dX4_readCommand_134 (by decide) (fun c134_6 => ?_) (fun c134_6 => ?_)
            · skip
              refine lv_aload_n hx hb dX4_readCommand_148 rfl (lv_at hl 0 rfl) ?_
              refine va_get (D := D) (ci := 4) (v := .int (0)) (C := RX4) (T := TX4) (N := 8) hx hb hts u6_X4 hown hK hP 0 rfl rfl 7 (by decide) (hts _ (m6 231 rfl)) (fun _ h9 => h9) rfl dX4_readCommand_149 ?_
              refine lv_bipush (v := (-9)) hx hb dX4_readCommand_152 (by decide) ?_
              refine lv_icmp_eq (tgt := 161) hx hb dX4_readCommand_154 (by decide) (fun c154_7 => ?_) (fun c154_7 => ?_)
              · skip
                exact absurd c154_7 (by decide)
              · skip
                refine lv_iconst (v := 1) hx hb dX4_readCommand_157 (by decide) ?_
                refine lv_goto (tgt := 162) hx hb dX4_readCommand_158 (by decide) ?_
                have hP : va_P D vwCl [(so, .inr (4, [.ref tx, .int (nI (n)), .int (nI ((rcF t n q ky nu).1.2)), .int (bl), .int (lf), .int ((rcF t n q ky nu).2.1), .int ((rcF t n q ky nu).2.2.1), .int ((rcF t n q ky nu).2.2.2)])), (tx, .inl (cI, 90, .inl t))] H := by
                  rw [show ((rcF t n q ky nu).2.2.2 : Int32) = 0 from by rw [rcF, if_neg c17_1, if_pos (Or.inl c47_2), if_neg c76_3, rcN, if_neg c86_4, if_neg c110_5, if_neg c134_6]]
                  rw [show ((rcF t n q ky nu).2.2.1 : Int32) = (rdV t n (q + 1) 2 0 15).1 from by rw [rcF, if_neg c17_1, if_pos (Or.inl c47_2), if_neg c76_3, rcN, if_neg c86_4, if_neg c110_5, if_neg c134_6]]
                  rw [show ((rcF t n q ky nu).2.1 : Int32) = coF (crV t n q) from by rw [rcF, if_neg c17_1, if_pos (Or.inl c47_2), if_neg c76_3, rcN, if_neg c86_4, if_neg c110_5, if_neg c134_6]]
                  rw [show (nI ((rcF t n q ky nu).1.2) : Int32) = nI ((rdV t n (q + 1) 2 0 15).2) from by rw [rcF, if_neg c17_1, if_pos (Or.inl c47_2), if_neg c76_3, rcN, if_neg c86_4, if_neg c110_5, if_neg c134_6]]
                  exact hP
                exact gp_retz hX hr hlocks hS hP (P := (rcF t n q ky nu).1.1 = true) ((bI_1 (by rw [rcF, if_neg c17_1, if_pos (Or.inl c47_2), if_neg c76_3, rcN, if_neg c86_4, if_neg c110_5, if_neg c134_6]; try simp [c154_7])).symm) ⟨(bI_1 (by rw [rcF, if_neg c17_1, if_pos (Or.inl c47_2), if_neg c76_3, rcN, if_neg c86_4, if_neg c110_5, if_neg c134_6]; try simp [c154_7])).symm, rfl⟩ dX4_readCommand_162
            · skip
              refine lv_aload_n hx hb dX4_readCommand_137 rfl (lv_at hl 0 rfl) ?_
              refine lv_aload_n hx hb dX4_readCommand_138 rfl (lv_at hl 0 rfl) ?_
              refine lv_iconst (v := 1) hx hb dX4_readCommand_139 (by decide) ?_
              refine lv_iconst (v := 0) hx hb dX4_readCommand_140 (by decide) ?_
              refine lv_iconst (v := 2) hx hb dX4_readCommand_141 (by decide) ?_
              refine gp_backi (gq_runV hX good6 (m6 221 rfl) (c4_readNumber l D cI so tx t n hn ((rdV t n (q + 1) 2 0 15).2) (rdN_le (by omega)) bl lf (coF (crV t n q)) ((rdV t n (q + 1) 2 0 15).1) 0 1 (by omega) 0 2) q4_readNumber rfl (m6 225 rfl) (m6 226 rfl) (m6 227 rfl) ⟨Nat.le_of_ble_eq_true rfl, Nat.le_of_ble_eq_true rfl⟩ hK hN [0] rfl hP hD [0, 1] (by decide) rfl (ci := 4) (q0 := 0) rfl rfl rfl hl.1 rfl (Nat.le_of_ble_eq_true rfl) dX4_readCommand_142 ⟨Nat.zero_le _, Nat.zero_le _⟩) hP hD hS [0, 1] rfl (fun r u h => by rw [h.2]; simp only [List.map_cons, List.map_nil]) (fun r9 u H locs hpost hP hD hS => ?_)
              obtain ⟨hr9, rfl⟩ := hpost
              refine lv_as hr9 ?_
              have hP : va_P D vwCl [(so, .inr (4, [.ref tx, .int (nI (n)), .int (nI ((rdV t n ((rdV t n (q + 1) 2 0 15).2) 1 0 2).2)), .int (bl), .int (lf), .int (coF (crV t n q)), .int ((rdV t n (q + 1) 2 0 15).1), .int (0)])), (tx, .inl (cI, 90, .inl t))] H := hP
              have hD : va_D A [(so, .inr (4, [.ref tx, .int (nI (n)), .int (nI ((rdV t n ((rdV t n (q + 1) 2 0 15).2) 1 0 2).2)), .int (bl), .int (lf), .int (coF (crV t n q)), .int ((rdV t n (q + 1) 2 0 15).1), .int (0)])), (tx, .inl (cI, 90, .inl t))] := hD
              refine va_put (D := D) (ci := 4) (v := .int ((rdV t n ((rdV t n (q + 1) 2 0 15).2) 1 0 2).1)) (ty := .int) (C := RX4) (T := TX4) (N := 8) hx hb hts u6_X4 tyX4 tyX4_ok nmX4 hown hK hP hD hS 0 rfl rfl 7 (by decide) (hts _ (m6 231 rfl)) (fun _ h9 => h9) rfl (by decide +kernel) rfl rfl (Nat.le_of_ble_eq_true rfl) dX4_readCommand_145 (fun H locs hP hD hS => ?_)
              have hP : va_P D vwCl [(so, .inr (4, [.ref tx, .int (nI (n)), .int (nI ((rdV t n ((rdV t n (q + 1) 2 0 15).2) 1 0 2).2)), .int (bl), .int (lf), .int (coF (crV t n q)), .int ((rdV t n (q + 1) 2 0 15).1), .int ((rdV t n ((rdV t n (q + 1) 2 0 15).2) 1 0 2).1)])), (tx, .inl (cI, 90, .inl t))] H := hP
              have hD : va_D A [(so, .inr (4, [.ref tx, .int (nI (n)), .int (nI ((rdV t n ((rdV t n (q + 1) 2 0 15).2) 1 0 2).2)), .int (bl), .int (lf), .int (coF (crV t n q)), .int ((rdV t n (q + 1) 2 0 15).1), .int ((rdV t n ((rdV t n (q + 1) 2 0 15).2) 1 0 2).1)])), (tx, .inl (cI, 90, .inl t))] := hD
              refine lv_aload_n hx hb dX4_readCommand_148 rfl (lv_at hl 0 rfl) ?_
              refine va_get (D := D) (ci := 4) (v := .int ((rdV t n ((rdV t n (q + 1) 2 0 15).2) 1 0 2).1)) (C := RX4) (T := TX4) (N := 8) hx hb hts u6_X4 hown hK hP 0 rfl rfl 7 (by decide) (hts _ (m6 231 rfl)) (fun _ h9 => h9) rfl dX4_readCommand_149 ?_
              refine lv_bipush (v := (-9)) hx hb dX4_readCommand_152 (by decide) ?_
              refine lv_icmp_eq (tgt := 161) hx hb dX4_readCommand_154 (by decide) (fun c154_8 => ?_) (fun c154_8 => ?_)
              · skip
                refine lv_iconst (v := 0) hx hb dX4_readCommand_161 (by decide) ?_
                have hP : va_P D vwCl [(so, .inr (4, [.ref tx, .int (nI (n)), .int (nI ((rcF t n q ky nu).1.2)), .int (bl), .int (lf), .int ((rcF t n q ky nu).2.1), .int ((rcF t n q ky nu).2.2.1), .int ((rcF t n q ky nu).2.2.2)])), (tx, .inl (cI, 90, .inl t))] H := by
                  rw [show ((rcF t n q ky nu).2.2.2 : Int32) = (rdV t n ((rdV t n (q + 1) 2 0 15).2) 1 0 2).1 from by rw [rcF, if_neg c17_1, if_pos (Or.inl c47_2), if_neg c76_3, rcN, if_neg c86_4, if_neg c110_5, if_pos c134_6]]
                  rw [show ((rcF t n q ky nu).2.2.1 : Int32) = (rdV t n (q + 1) 2 0 15).1 from by rw [rcF, if_neg c17_1, if_pos (Or.inl c47_2), if_neg c76_3, rcN, if_neg c86_4, if_neg c110_5, if_pos c134_6]]
                  rw [show ((rcF t n q ky nu).2.1 : Int32) = coF (crV t n q) from by rw [rcF, if_neg c17_1, if_pos (Or.inl c47_2), if_neg c76_3, rcN, if_neg c86_4, if_neg c110_5, if_pos c134_6]]
                  rw [show (nI ((rcF t n q ky nu).1.2) : Int32) = nI ((rdV t n ((rdV t n (q + 1) 2 0 15).2) 1 0 2).2) from by rw [rcF, if_neg c17_1, if_pos (Or.inl c47_2), if_neg c76_3, rcN, if_neg c86_4, if_neg c110_5, if_pos c134_6]]
                  exact hP
                exact gp_retz hX hr hlocks hS hP (P := (rcF t n q ky nu).1.1 = true) ((bI_0 (by rw [rcF, if_neg c17_1, if_pos (Or.inl c47_2), if_neg c76_3, rcN, if_neg c86_4, if_neg c110_5, if_pos c134_6]; try simp [c154_8])).symm) ⟨(bI_0 (by rw [rcF, if_neg c17_1, if_pos (Or.inl c47_2), if_neg c76_3, rcN, if_neg c86_4, if_neg c110_5, if_pos c134_6]; try simp [c154_8])).symm, rfl⟩ dX4_readCommand_162
              · skip
                refine lv_iconst (v := 1) hx hb dX4_readCommand_157 (by decide) ?_
                refine lv_goto (tgt := 162) hx hb dX4_readCommand_158 (by decide) ?_
                have hP : va_P D vwCl [(so, .inr (4, [.ref tx, .int (nI (n)), .int (nI ((rcF t n q ky nu).1.2)), .int (bl), .int (lf), .int ((rcF t n q ky nu).2.1), .int ((rcF t n q ky nu).2.2.1), .int ((rcF t n q ky nu).2.2.2)])), (tx, .inl (cI, 90, .inl t))] H := by
                  rw [show ((rcF t n q ky nu).2.2.2 : Int32) = (rdV t n ((rdV t n (q + 1) 2 0 15).2) 1 0 2).1 from by rw [rcF, if_neg c17_1, if_pos (Or.inl c47_2), if_neg c76_3, rcN, if_neg c86_4, if_neg c110_5, if_pos c134_6]]
                  rw [show ((rcF t n q ky nu).2.2.1 : Int32) = (rdV t n (q + 1) 2 0 15).1 from by rw [rcF, if_neg c17_1, if_pos (Or.inl c47_2), if_neg c76_3, rcN, if_neg c86_4, if_neg c110_5, if_pos c134_6]]
                  rw [show ((rcF t n q ky nu).2.1 : Int32) = coF (crV t n q) from by rw [rcF, if_neg c17_1, if_pos (Or.inl c47_2), if_neg c76_3, rcN, if_neg c86_4, if_neg c110_5, if_pos c134_6]]
                  rw [show (nI ((rcF t n q ky nu).1.2) : Int32) = nI ((rdV t n ((rdV t n (q + 1) 2 0 15).2) 1 0 2).2) from by rw [rcF, if_neg c17_1, if_pos (Or.inl c47_2), if_neg c76_3, rcN, if_neg c86_4, if_neg c110_5, if_pos c134_6]]
                  exact hP
                exact gp_retz hX hr hlocks hS hP (P := (rcF t n q ky nu).1.1 = true) ((bI_1 (by rw [rcF, if_neg c17_1, if_pos (Or.inl c47_2), if_neg c76_3, rcN, if_neg c86_4, if_neg c110_5, if_pos c134_6]; try simp [c154_8])).symm) ⟨(bI_1 (by rw [rcF, if_neg c17_1, if_pos (Or.inl c47_2), if_neg c76_3, rcN, if_neg c86_4, if_neg c110_5, if_pos c134_6]; try simp [c154_8])).symm, rfl⟩ dX4_readCommand_162
          · skip
            refine lv_aload_n hx hb dX4_readCommand_113 rfl (lv_at hl 0 rfl) ?_
            refine lv_aload_n hx hb dX4_readCommand_114 rfl (lv_at hl 0 rfl) ?_
            refine lv_iconst (v := 2) hx hb dX4_readCommand_115 (by decide) ?_
            refine lv_iconst (v := 0) hx hb dX4_readCommand_116 (by decide) ?_
            refine lv_bipush (v := 99) hx hb dX4_readCommand_117 (by decide) ?_
            refine gp_backi (gq_runV hX good6 (m6 221 rfl) (c4_readNumber l D cI so tx t n hn ((rdV t n (q + 1) 2 0 15).2) (rdN_le (by omega)) bl lf (coF (crV t n q)) ((rdV t n (q + 1) 2 0 15).1) 0 2 (by omega) 0 99) q4_readNumber rfl (m6 225 rfl) (m6 226 rfl) (m6 227 rfl) ⟨Nat.le_of_ble_eq_true rfl, Nat.le_of_ble_eq_true rfl⟩ hK hN [0] rfl hP hD [0, 1] (by decide) rfl (ci := 4) (q0 := 0) rfl rfl rfl hl.1 rfl (Nat.le_of_ble_eq_true rfl) dX4_readCommand_119 ⟨Nat.zero_le _, Nat.zero_le _⟩) hP hD hS [0, 1] rfl (fun r u h => by rw [h.2]; simp only [List.map_cons, List.map_nil]) (fun r9 u H locs hpost hP hD hS => ?_)
            obtain ⟨hr9, rfl⟩ := hpost
            refine lv_as hr9 ?_
            have hP : va_P D vwCl [(so, .inr (4, [.ref tx, .int (nI (n)), .int (nI ((rdV t n ((rdV t n (q + 1) 2 0 15).2) 2 0 99).2)), .int (bl), .int (lf), .int (coF (crV t n q)), .int ((rdV t n (q + 1) 2 0 15).1), .int (0)])), (tx, .inl (cI, 90, .inl t))] H := hP
            have hD : va_D A [(so, .inr (4, [.ref tx, .int (nI (n)), .int (nI ((rdV t n ((rdV t n (q + 1) 2 0 15).2) 2 0 99).2)), .int (bl), .int (lf), .int (coF (crV t n q)), .int ((rdV t n (q + 1) 2 0 15).1), .int (0)])), (tx, .inl (cI, 90, .inl t))] := hD
            refine va_put (D := D) (ci := 4) (v := .int ((rdV t n ((rdV t n (q + 1) 2 0 15).2) 2 0 99).1)) (ty := .int) (C := RX4) (T := TX4) (N := 8) hx hb hts u6_X4 tyX4 tyX4_ok nmX4 hown hK hP hD hS 0 rfl rfl 7 (by decide) (hts _ (m6 231 rfl)) (fun _ h9 => h9) rfl (by decide +kernel) rfl rfl (Nat.le_of_ble_eq_true rfl) dX4_readCommand_122 (fun H locs hP hD hS => ?_)
            have hP : va_P D vwCl [(so, .inr (4, [.ref tx, .int (nI (n)), .int (nI ((rdV t n ((rdV t n (q + 1) 2 0 15).2) 2 0 99).2)), .int (bl), .int (lf), .int (coF (crV t n q)), .int ((rdV t n (q + 1) 2 0 15).1), .int ((rdV t n ((rdV t n (q + 1) 2 0 15).2) 2 0 99).1)])), (tx, .inl (cI, 90, .inl t))] H := hP
            have hD : va_D A [(so, .inr (4, [.ref tx, .int (nI (n)), .int (nI ((rdV t n ((rdV t n (q + 1) 2 0 15).2) 2 0 99).2)), .int (bl), .int (lf), .int (coF (crV t n q)), .int ((rdV t n (q + 1) 2 0 15).1), .int ((rdV t n ((rdV t n (q + 1) 2 0 15).2) 2 0 99).1)])), (tx, .inl (cI, 90, .inl t))] := hD
            refine lv_goto (tgt := 148) hx hb dX4_readCommand_125 (by decide) ?_
            refine lv_aload_n hx hb dX4_readCommand_148 rfl (lv_at hl 0 rfl) ?_
            refine va_get (D := D) (ci := 4) (v := .int ((rdV t n ((rdV t n (q + 1) 2 0 15).2) 2 0 99).1)) (C := RX4) (T := TX4) (N := 8) hx hb hts u6_X4 hown hK hP 0 rfl rfl 7 (by decide) (hts _ (m6 231 rfl)) (fun _ h9 => h9) rfl dX4_readCommand_149 ?_
            refine lv_bipush (v := (-9)) hx hb dX4_readCommand_152 (by decide) ?_
            refine lv_icmp_eq (tgt := 161) hx hb dX4_readCommand_154 (by decide) (fun c154_9 => ?_) (fun c154_9 => ?_)
            · skip
              refine lv_iconst (v := 0) hx hb dX4_readCommand_161 (by decide) ?_
              have hP : va_P D vwCl [(so, .inr (4, [.ref tx, .int (nI (n)), .int (nI ((rcF t n q ky nu).1.2)), .int (bl), .int (lf), .int ((rcF t n q ky nu).2.1), .int ((rcF t n q ky nu).2.2.1), .int ((rcF t n q ky nu).2.2.2)])), (tx, .inl (cI, 90, .inl t))] H := by
                rw [show ((rcF t n q ky nu).2.2.2 : Int32) = (rdV t n ((rdV t n (q + 1) 2 0 15).2) 2 0 99).1 from by rw [rcF, if_neg c17_1, if_pos (Or.inl c47_2), if_neg c76_3, rcN, if_neg c86_4, if_pos c110_5]]
                rw [show ((rcF t n q ky nu).2.2.1 : Int32) = (rdV t n (q + 1) 2 0 15).1 from by rw [rcF, if_neg c17_1, if_pos (Or.inl c47_2), if_neg c76_3, rcN, if_neg c86_4, if_pos c110_5]]
                rw [show ((rcF t n q ky nu).2.1 : Int32) = coF (crV t n q) from by rw [rcF, if_neg c17_1, if_pos (Or.inl c47_2), if_neg c76_3, rcN, if_neg c86_4, if_pos c110_5]]
                rw [show (nI ((rcF t n q ky nu).1.2) : Int32) = nI ((rdV t n ((rdV t n (q + 1) 2 0 15).2) 2 0 99).2) from by rw [rcF, if_neg c17_1, if_pos (Or.inl c47_2), if_neg c76_3, rcN, if_neg c86_4, if_pos c110_5]]
                exact hP
              exact gp_retz hX hr hlocks hS hP (P := (rcF t n q ky nu).1.1 = true) ((bI_0 (by rw [rcF, if_neg c17_1, if_pos (Or.inl c47_2), if_neg c76_3, rcN, if_neg c86_4, if_pos c110_5]; try simp [c154_9])).symm) ⟨(bI_0 (by rw [rcF, if_neg c17_1, if_pos (Or.inl c47_2), if_neg c76_3, rcN, if_neg c86_4, if_pos c110_5]; try simp [c154_9])).symm, rfl⟩ dX4_readCommand_162
            · skip
              refine lv_iconst (v := 1) hx hb dX4_readCommand_157 (by decide) ?_
              refine lv_goto (tgt := 162) hx hb dX4_readCommand_158 (by decide) ?_
              have hP : va_P D vwCl [(so, .inr (4, [.ref tx, .int (nI (n)), .int (nI ((rcF t n q ky nu).1.2)), .int (bl), .int (lf), .int ((rcF t n q ky nu).2.1), .int ((rcF t n q ky nu).2.2.1), .int ((rcF t n q ky nu).2.2.2)])), (tx, .inl (cI, 90, .inl t))] H := by
                rw [show ((rcF t n q ky nu).2.2.2 : Int32) = (rdV t n ((rdV t n (q + 1) 2 0 15).2) 2 0 99).1 from by rw [rcF, if_neg c17_1, if_pos (Or.inl c47_2), if_neg c76_3, rcN, if_neg c86_4, if_pos c110_5]]
                rw [show ((rcF t n q ky nu).2.2.1 : Int32) = (rdV t n (q + 1) 2 0 15).1 from by rw [rcF, if_neg c17_1, if_pos (Or.inl c47_2), if_neg c76_3, rcN, if_neg c86_4, if_pos c110_5]]
                rw [show ((rcF t n q ky nu).2.1 : Int32) = coF (crV t n q) from by rw [rcF, if_neg c17_1, if_pos (Or.inl c47_2), if_neg c76_3, rcN, if_neg c86_4, if_pos c110_5]]
                rw [show (nI ((rcF t n q ky nu).1.2) : Int32) = nI ((rdV t n ((rdV t n (q + 1) 2 0 15).2) 2 0 99).2) from by rw [rcF, if_neg c17_1, if_pos (Or.inl c47_2), if_neg c76_3, rcN, if_neg c86_4, if_pos c110_5]]
                exact hP
              exact gp_retz hX hr hlocks hS hP (P := (rcF t n q ky nu).1.1 = true) ((bI_1 (by rw [rcF, if_neg c17_1, if_pos (Or.inl c47_2), if_neg c76_3, rcN, if_neg c86_4, if_pos c110_5]; try simp [c154_9])).symm) ⟨(bI_1 (by rw [rcF, if_neg c17_1, if_pos (Or.inl c47_2), if_neg c76_3, rcN, if_neg c86_4, if_pos c110_5]; try simp [c154_9])).symm, rfl⟩ dX4_readCommand_162
        · skip
          refine lv_aload_n hx hb dX4_readCommand_89 rfl (lv_at hl 0 rfl) ?_
          refine lv_aload_n hx hb dX4_readCommand_90 rfl (lv_at hl 0 rfl) ?_
          refine lv_iconst (v := 3) hx hb dX4_readCommand_91 (by decide) ?_
          refine lv_iconst (v := 0) hx hb dX4_readCommand_92 (by decide) ?_
          refine lv_sipush (v := 999) hx hb dX4_readCommand_93 (by decide) ?_
          refine gp_backi (gq_runV hX good6 (m6 221 rfl) (c4_readNumber l D cI so tx t n hn ((rdV t n (q + 1) 2 0 15).2) (rdN_le (by omega)) bl lf (coF (crV t n q)) ((rdV t n (q + 1) 2 0 15).1) 0 3 (by omega) 0 999) q4_readNumber rfl (m6 225 rfl) (m6 226 rfl) (m6 227 rfl) ⟨Nat.le_of_ble_eq_true rfl, Nat.le_of_ble_eq_true rfl⟩ hK hN [0] rfl hP hD [0, 1] (by decide) rfl (ci := 4) (q0 := 0) rfl rfl rfl hl.1 rfl (Nat.le_of_ble_eq_true rfl) dX4_readCommand_96 ⟨Nat.zero_le _, Nat.zero_le _⟩) hP hD hS [0, 1] rfl (fun r u h => by rw [h.2]; simp only [List.map_cons, List.map_nil]) (fun r9 u H locs hpost hP hD hS => ?_)
          obtain ⟨hr9, rfl⟩ := hpost
          refine lv_as hr9 ?_
          have hP : va_P D vwCl [(so, .inr (4, [.ref tx, .int (nI (n)), .int (nI ((rdV t n ((rdV t n (q + 1) 2 0 15).2) 3 0 999).2)), .int (bl), .int (lf), .int (coF (crV t n q)), .int ((rdV t n (q + 1) 2 0 15).1), .int (0)])), (tx, .inl (cI, 90, .inl t))] H := hP
          have hD : va_D A [(so, .inr (4, [.ref tx, .int (nI (n)), .int (nI ((rdV t n ((rdV t n (q + 1) 2 0 15).2) 3 0 999).2)), .int (bl), .int (lf), .int (coF (crV t n q)), .int ((rdV t n (q + 1) 2 0 15).1), .int (0)])), (tx, .inl (cI, 90, .inl t))] := hD
          refine va_put (D := D) (ci := 4) (v := .int ((rdV t n ((rdV t n (q + 1) 2 0 15).2) 3 0 999).1)) (ty := .int) (C := RX4) (T := TX4) (N := 8) hx hb hts u6_X4 tyX4 tyX4_ok nmX4 hown hK hP hD hS 0 rfl rfl 7 (by decide) (hts _ (m6 231 rfl)) (fun _ h9 => h9) rfl (by decide +kernel) rfl rfl (Nat.le_of_ble_eq_true rfl) dX4_readCommand_99 (fun H locs hP hD hS => ?_)
          have hP : va_P D vwCl [(so, .inr (4, [.ref tx, .int (nI (n)), .int (nI ((rdV t n ((rdV t n (q + 1) 2 0 15).2) 3 0 999).2)), .int (bl), .int (lf), .int (coF (crV t n q)), .int ((rdV t n (q + 1) 2 0 15).1), .int ((rdV t n ((rdV t n (q + 1) 2 0 15).2) 3 0 999).1)])), (tx, .inl (cI, 90, .inl t))] H := hP
          have hD : va_D A [(so, .inr (4, [.ref tx, .int (nI (n)), .int (nI ((rdV t n ((rdV t n (q + 1) 2 0 15).2) 3 0 999).2)), .int (bl), .int (lf), .int (coF (crV t n q)), .int ((rdV t n (q + 1) 2 0 15).1), .int ((rdV t n ((rdV t n (q + 1) 2 0 15).2) 3 0 999).1)])), (tx, .inl (cI, 90, .inl t))] := hD
          refine lv_goto (tgt := 148) hx hb dX4_readCommand_102 (by decide) ?_
          refine lv_aload_n hx hb dX4_readCommand_148 rfl (lv_at hl 0 rfl) ?_
          refine va_get (D := D) (ci := 4) (v := .int ((rdV t n ((rdV t n (q + 1) 2 0 15).2) 3 0 999).1)) (C := RX4) (T := TX4) (N := 8) hx hb hts u6_X4 hown hK hP 0 rfl rfl 7 (by decide) (hts _ (m6 231 rfl)) (fun _ h9 => h9) rfl dX4_readCommand_149 ?_
          refine lv_bipush (v := (-9)) hx hb dX4_readCommand_152 (by decide) ?_
          refine lv_icmp_eq (tgt := 161) hx hb dX4_readCommand_154 (by decide) (fun c154_10 => ?_) (fun c154_10 => ?_)
          · skip
            refine lv_iconst (v := 0) hx hb dX4_readCommand_161 (by decide) ?_
            have hP : va_P D vwCl [(so, .inr (4, [.ref tx, .int (nI (n)), .int (nI ((rcF t n q ky nu).1.2)), .int (bl), .int (lf), .int ((rcF t n q ky nu).2.1), .int ((rcF t n q ky nu).2.2.1), .int ((rcF t n q ky nu).2.2.2)])), (tx, .inl (cI, 90, .inl t))] H := by
              rw [show ((rcF t n q ky nu).2.2.2 : Int32) = (rdV t n ((rdV t n (q + 1) 2 0 15).2) 3 0 999).1 from by rw [rcF, if_neg c17_1, if_pos (Or.inl c47_2), if_neg c76_3, rcN, if_pos c86_4]]
              rw [show ((rcF t n q ky nu).2.2.1 : Int32) = (rdV t n (q + 1) 2 0 15).1 from by rw [rcF, if_neg c17_1, if_pos (Or.inl c47_2), if_neg c76_3, rcN, if_pos c86_4]]
              rw [show ((rcF t n q ky nu).2.1 : Int32) = coF (crV t n q) from by rw [rcF, if_neg c17_1, if_pos (Or.inl c47_2), if_neg c76_3, rcN, if_pos c86_4]]
              rw [show (nI ((rcF t n q ky nu).1.2) : Int32) = nI ((rdV t n ((rdV t n (q + 1) 2 0 15).2) 3 0 999).2) from by rw [rcF, if_neg c17_1, if_pos (Or.inl c47_2), if_neg c76_3, rcN, if_pos c86_4]]
              exact hP
            exact gp_retz hX hr hlocks hS hP (P := (rcF t n q ky nu).1.1 = true) ((bI_0 (by rw [rcF, if_neg c17_1, if_pos (Or.inl c47_2), if_neg c76_3, rcN, if_pos c86_4]; try simp [c154_10])).symm) ⟨(bI_0 (by rw [rcF, if_neg c17_1, if_pos (Or.inl c47_2), if_neg c76_3, rcN, if_pos c86_4]; try simp [c154_10])).symm, rfl⟩ dX4_readCommand_162
          · skip
            refine lv_iconst (v := 1) hx hb dX4_readCommand_157 (by decide) ?_
            refine lv_goto (tgt := 162) hx hb dX4_readCommand_158 (by decide) ?_
            have hP : va_P D vwCl [(so, .inr (4, [.ref tx, .int (nI (n)), .int (nI ((rcF t n q ky nu).1.2)), .int (bl), .int (lf), .int ((rcF t n q ky nu).2.1), .int ((rcF t n q ky nu).2.2.1), .int ((rcF t n q ky nu).2.2.2)])), (tx, .inl (cI, 90, .inl t))] H := by
              rw [show ((rcF t n q ky nu).2.2.2 : Int32) = (rdV t n ((rdV t n (q + 1) 2 0 15).2) 3 0 999).1 from by rw [rcF, if_neg c17_1, if_pos (Or.inl c47_2), if_neg c76_3, rcN, if_pos c86_4]]
              rw [show ((rcF t n q ky nu).2.2.1 : Int32) = (rdV t n (q + 1) 2 0 15).1 from by rw [rcF, if_neg c17_1, if_pos (Or.inl c47_2), if_neg c76_3, rcN, if_pos c86_4]]
              rw [show ((rcF t n q ky nu).2.1 : Int32) = coF (crV t n q) from by rw [rcF, if_neg c17_1, if_pos (Or.inl c47_2), if_neg c76_3, rcN, if_pos c86_4]]
              rw [show (nI ((rcF t n q ky nu).1.2) : Int32) = nI ((rdV t n ((rdV t n (q + 1) 2 0 15).2) 3 0 999).2) from by rw [rcF, if_neg c17_1, if_pos (Or.inl c47_2), if_neg c76_3, rcN, if_pos c86_4]]
              exact hP
            exact gp_retz hX hr hlocks hS hP (P := (rcF t n q ky nu).1.1 = true) ((bI_1 (by rw [rcF, if_neg c17_1, if_pos (Or.inl c47_2), if_neg c76_3, rcN, if_pos c86_4]; try simp [c154_10])).symm) ⟨(bI_1 (by rw [rcF, if_neg c17_1, if_pos (Or.inl c47_2), if_neg c76_3, rcN, if_pos c86_4]; try simp [c154_10])).symm, rfl⟩ dX4_readCommand_162
      · skip
        refine lv_iconst (v := 0) hx hb dX4_readCommand_79 (by decide) ?_
        have hP : va_P D vwCl [(so, .inr (4, [.ref tx, .int (nI (n)), .int (nI ((rcF t n q ky nu).1.2)), .int (bl), .int (lf), .int ((rcF t n q ky nu).2.1), .int ((rcF t n q ky nu).2.2.1), .int ((rcF t n q ky nu).2.2.2)])), (tx, .inl (cI, 90, .inl t))] H := by
          rw [show ((rcF t n q ky nu).2.2.2 : Int32) = 0 from by rw [rcF, if_neg c17_1, if_pos (Or.inl c47_2), if_pos c76_3]]
          rw [show ((rcF t n q ky nu).2.2.1 : Int32) = (rdV t n (q + 1) 2 0 15).1 from by rw [rcF, if_neg c17_1, if_pos (Or.inl c47_2), if_pos c76_3]]
          rw [show ((rcF t n q ky nu).2.1 : Int32) = coF (crV t n q) from by rw [rcF, if_neg c17_1, if_pos (Or.inl c47_2), if_pos c76_3]]
          rw [show (nI ((rcF t n q ky nu).1.2) : Int32) = nI ((rdV t n (q + 1) 2 0 15).2) from by rw [rcF, if_neg c17_1, if_pos (Or.inl c47_2), if_pos c76_3]]
          exact hP
        exact gp_retz hX hr hlocks hS hP (P := (rcF t n q ky nu).1.1 = true) ((bI_0 (by rw [rcF, if_neg c17_1, if_pos (Or.inl c47_2), if_pos c76_3]; try simp)).symm) ⟨(bI_0 (by rw [rcF, if_neg c17_1, if_pos (Or.inl c47_2), if_pos c76_3]; try simp)).symm, rfl⟩ dX4_readCommand_80
    · skip
      refine lv_aload_n hx hb dX4_readCommand_50 rfl (lv_at hl 0 rfl) ?_
      refine va_get (D := D) (ci := 4) (v := .int (coF (crV t n q))) (C := RX4) (T := TX4) (N := 8) hx hb hts u6_X4 hown hK hP 0 rfl rfl 5 (by decide) (hts _ (m6 229 rfl)) (fun _ h9 => h9) rfl dX4_readCommand_51 ?_
      refine lv_iconst (v := 2) hx hb dX4_readCommand_54 (by decide) ?_
      refine lv_icmp_ne (tgt := 81) hx hb dX4_readCommand_55 (by decide) (fun c55_11 => ?_) (fun c55_11 => ?_)
      · skip
        refine lv_aload_n hx hb dX4_readCommand_81 rfl (lv_at hl 0 rfl) ?_
        refine va_get (D := D) (ci := 4) (v := .int (coF (crV t n q))) (C := RX4) (T := TX4) (N := 8) hx hb hts u6_X4 hown hK hP 0 rfl rfl 5 (by decide) (hts _ (m6 229 rfl)) (fun _ h9 => h9) rfl dX4_readCommand_82 ?_
        refine lv_iconst (v := 1) hx hb dX4_readCommand_85 (by decide) ?_
        refine lv_icmp_ne (tgt := 105) hx hb dX4_readCommand_86 (by decide) (fun c86_12 => ?_) (fun c86_12 => ?_)
        · skip
          refine lv_aload_n hx hb dX4_readCommand_105 rfl (lv_at hl 0 rfl) ?_
          refine va_get (D := D) (ci := 4) (v := .int (coF (crV t n q))) (C := RX4) (T := TX4) (N := 8) hx hb hts u6_X4 hown hK hP 0 rfl rfl 5 (by decide) (hts _ (m6 229 rfl)) (fun _ h9 => h9) rfl dX4_readCommand_106 ?_
          refine lv_iconst (v := 4) hx hb dX4_readCommand_109 (by decide) ?_
          refine lv_icmp_ne (tgt := 128) hx hb dX4_readCommand_110 (by decide) (fun c110_13 => ?_) (fun c110_13 => ?_)
          · skip
            refine lv_aload_n hx hb dX4_readCommand_128 rfl (lv_at hl 0 rfl) ?_
            refine va_get (D := D) (ci := 4) (v := .int (coF (crV t n q))) (C := RX4) (T := TX4) (N := 8) hx hb hts u6_X4 hown hK hP 0 rfl rfl 5 (by decide) (hts _ (m6 229 rfl)) (fun _ h9 => h9) rfl dX4_readCommand_129 ?_
            refine lv_bipush (v := 9) hx hb dX4_readCommand_132 (by decide) ?_
            refine lv_icmp_ne (tgt := 148) hx hb dX4_readCommand_134 (by decide) (fun c134_14 => ?_) (fun c134_14 => ?_)
            · skip
              refine lv_aload_n hx hb dX4_readCommand_148 rfl (lv_at hl 0 rfl) ?_
              refine va_get (D := D) (ci := 4) (v := .int (0)) (C := RX4) (T := TX4) (N := 8) hx hb hts u6_X4 hown hK hP 0 rfl rfl 7 (by decide) (hts _ (m6 231 rfl)) (fun _ h9 => h9) rfl dX4_readCommand_149 ?_
              refine lv_bipush (v := (-9)) hx hb dX4_readCommand_152 (by decide) ?_
              refine lv_icmp_eq (tgt := 161) hx hb dX4_readCommand_154 (by decide) (fun c154_15 => ?_) (fun c154_15 => ?_)
              · skip
                exact absurd c154_15 (by decide)
              · skip
                refine lv_iconst (v := 1) hx hb dX4_readCommand_157 (by decide) ?_
                refine lv_goto (tgt := 162) hx hb dX4_readCommand_158 (by decide) ?_
                have hP : va_P D vwCl [(so, .inr (4, [.ref tx, .int (nI (n)), .int (nI ((rcF t n q ky nu).1.2)), .int (bl), .int (lf), .int ((rcF t n q ky nu).2.1), .int ((rcF t n q ky nu).2.2.1), .int ((rcF t n q ky nu).2.2.2)])), (tx, .inl (cI, 90, .inl t))] H := by
                  rw [show ((rcF t n q ky nu).2.2.2 : Int32) = 0 from by rw [rcF, if_neg c17_1, if_neg (fun z => z.elim c47_2 c55_11), rcN, if_neg c86_12, if_neg c110_13, if_neg c134_14]]
                  rw [show ((rcF t n q ky nu).2.2.1 : Int32) = 0 from by rw [rcF, if_neg c17_1, if_neg (fun z => z.elim c47_2 c55_11), rcN, if_neg c86_12, if_neg c110_13, if_neg c134_14]]
                  rw [show ((rcF t n q ky nu).2.1 : Int32) = coF (crV t n q) from by rw [rcF, if_neg c17_1, if_neg (fun z => z.elim c47_2 c55_11), rcN, if_neg c86_12, if_neg c110_13, if_neg c134_14]]
                  rw [show (nI ((rcF t n q ky nu).1.2) : Int32) = nI (q + 1) from by rw [rcF, if_neg c17_1, if_neg (fun z => z.elim c47_2 c55_11), rcN, if_neg c86_12, if_neg c110_13, if_neg c134_14]]
                  exact hP
                exact gp_retz hX hr hlocks hS hP (P := (rcF t n q ky nu).1.1 = true) ((bI_1 (by rw [rcF, if_neg c17_1, if_neg (fun z => z.elim c47_2 c55_11), rcN, if_neg c86_12, if_neg c110_13, if_neg c134_14]; try simp [c154_15])).symm) ⟨(bI_1 (by rw [rcF, if_neg c17_1, if_neg (fun z => z.elim c47_2 c55_11), rcN, if_neg c86_12, if_neg c110_13, if_neg c134_14]; try simp [c154_15])).symm, rfl⟩ dX4_readCommand_162
            · skip
              refine lv_aload_n hx hb dX4_readCommand_137 rfl (lv_at hl 0 rfl) ?_
              refine lv_aload_n hx hb dX4_readCommand_138 rfl (lv_at hl 0 rfl) ?_
              refine lv_iconst (v := 1) hx hb dX4_readCommand_139 (by decide) ?_
              refine lv_iconst (v := 0) hx hb dX4_readCommand_140 (by decide) ?_
              refine lv_iconst (v := 2) hx hb dX4_readCommand_141 (by decide) ?_
              refine gp_backi (gq_runV hX good6 (m6 221 rfl) (c4_readNumber l D cI so tx t n hn (q + 1) (by omega) bl lf (coF (crV t n q)) 0 0 1 (by omega) 0 2) q4_readNumber rfl (m6 225 rfl) (m6 226 rfl) (m6 227 rfl) ⟨Nat.le_of_ble_eq_true rfl, Nat.le_of_ble_eq_true rfl⟩ hK hN [0] rfl hP hD [0, 1] (by decide) rfl (ci := 4) (q0 := 0) rfl rfl rfl hl.1 rfl (Nat.le_of_ble_eq_true rfl) dX4_readCommand_142 ⟨Nat.zero_le _, Nat.zero_le _⟩) hP hD hS [0, 1] rfl (fun r u h => by rw [h.2]; simp only [List.map_cons, List.map_nil]) (fun r9 u H locs hpost hP hD hS => ?_)
              obtain ⟨hr9, rfl⟩ := hpost
              refine lv_as hr9 ?_
              have hP : va_P D vwCl [(so, .inr (4, [.ref tx, .int (nI (n)), .int (nI ((rdV t n (q + 1) 1 0 2).2)), .int (bl), .int (lf), .int (coF (crV t n q)), .int (0), .int (0)])), (tx, .inl (cI, 90, .inl t))] H := hP
              have hD : va_D A [(so, .inr (4, [.ref tx, .int (nI (n)), .int (nI ((rdV t n (q + 1) 1 0 2).2)), .int (bl), .int (lf), .int (coF (crV t n q)), .int (0), .int (0)])), (tx, .inl (cI, 90, .inl t))] := hD
              refine va_put (D := D) (ci := 4) (v := .int ((rdV t n (q + 1) 1 0 2).1)) (ty := .int) (C := RX4) (T := TX4) (N := 8) hx hb hts u6_X4 tyX4 tyX4_ok nmX4 hown hK hP hD hS 0 rfl rfl 7 (by decide) (hts _ (m6 231 rfl)) (fun _ h9 => h9) rfl (by decide +kernel) rfl rfl (Nat.le_of_ble_eq_true rfl) dX4_readCommand_145 (fun H locs hP hD hS => ?_)
              have hP : va_P D vwCl [(so, .inr (4, [.ref tx, .int (nI (n)), .int (nI ((rdV t n (q + 1) 1 0 2).2)), .int (bl), .int (lf), .int (coF (crV t n q)), .int (0), .int ((rdV t n (q + 1) 1 0 2).1)])), (tx, .inl (cI, 90, .inl t))] H := hP
              have hD : va_D A [(so, .inr (4, [.ref tx, .int (nI (n)), .int (nI ((rdV t n (q + 1) 1 0 2).2)), .int (bl), .int (lf), .int (coF (crV t n q)), .int (0), .int ((rdV t n (q + 1) 1 0 2).1)])), (tx, .inl (cI, 90, .inl t))] := hD
              refine lv_aload_n hx hb dX4_readCommand_148 rfl (lv_at hl 0 rfl) ?_
              refine va_get (D := D) (ci := 4) (v := .int ((rdV t n (q + 1) 1 0 2).1)) (C := RX4) (T := TX4) (N := 8) hx hb hts u6_X4 hown hK hP 0 rfl rfl 7 (by decide) (hts _ (m6 231 rfl)) (fun _ h9 => h9) rfl dX4_readCommand_149 ?_
              refine lv_bipush (v := (-9)) hx hb dX4_readCommand_152 (by decide) ?_
              refine lv_icmp_eq (tgt := 161) hx hb dX4_readCommand_154 (by decide) (fun c154_16 => ?_) (fun c154_16 => ?_)
              · skip
                refine lv_iconst (v := 0) hx hb dX4_readCommand_161 (by decide) ?_
                have hP : va_P D vwCl [(so, .inr (4, [.ref tx, .int (nI (n)), .int (nI ((rcF t n q ky nu).1.2)), .int (bl), .int (lf), .int ((rcF t n q ky nu).2.1), .int ((rcF t n q ky nu).2.2.1), .int ((rcF t n q ky nu).2.2.2)])), (tx, .inl (cI, 90, .inl t))] H := by
                  rw [show ((rcF t n q ky nu).2.2.2 : Int32) = (rdV t n (q + 1) 1 0 2).1 from by rw [rcF, if_neg c17_1, if_neg (fun z => z.elim c47_2 c55_11), rcN, if_neg c86_12, if_neg c110_13, if_pos c134_14]]
                  rw [show ((rcF t n q ky nu).2.2.1 : Int32) = 0 from by rw [rcF, if_neg c17_1, if_neg (fun z => z.elim c47_2 c55_11), rcN, if_neg c86_12, if_neg c110_13, if_pos c134_14]]
                  rw [show ((rcF t n q ky nu).2.1 : Int32) = coF (crV t n q) from by rw [rcF, if_neg c17_1, if_neg (fun z => z.elim c47_2 c55_11), rcN, if_neg c86_12, if_neg c110_13, if_pos c134_14]]
                  rw [show (nI ((rcF t n q ky nu).1.2) : Int32) = nI ((rdV t n (q + 1) 1 0 2).2) from by rw [rcF, if_neg c17_1, if_neg (fun z => z.elim c47_2 c55_11), rcN, if_neg c86_12, if_neg c110_13, if_pos c134_14]]
                  exact hP
                exact gp_retz hX hr hlocks hS hP (P := (rcF t n q ky nu).1.1 = true) ((bI_0 (by rw [rcF, if_neg c17_1, if_neg (fun z => z.elim c47_2 c55_11), rcN, if_neg c86_12, if_neg c110_13, if_pos c134_14]; try simp [c154_16])).symm) ⟨(bI_0 (by rw [rcF, if_neg c17_1, if_neg (fun z => z.elim c47_2 c55_11), rcN, if_neg c86_12, if_neg c110_13, if_pos c134_14]; try simp [c154_16])).symm, rfl⟩ dX4_readCommand_162
              · skip
                refine lv_iconst (v := 1) hx hb dX4_readCommand_157 (by decide) ?_
                refine lv_goto (tgt := 162) hx hb dX4_readCommand_158 (by decide) ?_
                have hP : va_P D vwCl [(so, .inr (4, [.ref tx, .int (nI (n)), .int (nI ((rcF t n q ky nu).1.2)), .int (bl), .int (lf), .int ((rcF t n q ky nu).2.1), .int ((rcF t n q ky nu).2.2.1), .int ((rcF t n q ky nu).2.2.2)])), (tx, .inl (cI, 90, .inl t))] H := by
                  rw [show ((rcF t n q ky nu).2.2.2 : Int32) = (rdV t n (q + 1) 1 0 2).1 from by rw [rcF, if_neg c17_1, if_neg (fun z => z.elim c47_2 c55_11), rcN, if_neg c86_12, if_neg c110_13, if_pos c134_14]]
                  rw [show ((rcF t n q ky nu).2.2.1 : Int32) = 0 from by rw [rcF, if_neg c17_1, if_neg (fun z => z.elim c47_2 c55_11), rcN, if_neg c86_12, if_neg c110_13, if_pos c134_14]]
                  rw [show ((rcF t n q ky nu).2.1 : Int32) = coF (crV t n q) from by rw [rcF, if_neg c17_1, if_neg (fun z => z.elim c47_2 c55_11), rcN, if_neg c86_12, if_neg c110_13, if_pos c134_14]]
                  rw [show (nI ((rcF t n q ky nu).1.2) : Int32) = nI ((rdV t n (q + 1) 1 0 2).2) from by rw [rcF, if_neg c17_1, if_neg (fun z => z.elim c47_2 c55_11), rcN, if_neg c86_12, if_neg c110_13, if_pos c134_14]]
                  exact hP
                exact gp_retz hX hr hlocks hS hP (P := (rcF t n q ky nu).1.1 = true) ((bI_1 (by rw [rcF, if_neg c17_1, if_neg (fun z => z.elim c47_2 c55_11), rcN, if_neg c86_12, if_neg c110_13, if_pos c134_14]; try simp [c154_16])).symm) ⟨(bI_1 (by rw [rcF, if_neg c17_1, if_neg (fun z => z.elim c47_2 c55_11), rcN, if_neg c86_12, if_neg c110_13, if_pos c134_14]; try simp [c154_16])).symm, rfl⟩ dX4_readCommand_162
          · skip
            refine lv_aload_n hx hb dX4_readCommand_113 rfl (lv_at hl 0 rfl) ?_
            refine lv_aload_n hx hb dX4_readCommand_114 rfl (lv_at hl 0 rfl) ?_
            refine lv_iconst (v := 2) hx hb dX4_readCommand_115 (by decide) ?_
            refine lv_iconst (v := 0) hx hb dX4_readCommand_116 (by decide) ?_
            refine lv_bipush (v := 99) hx hb dX4_readCommand_117 (by decide) ?_
            refine gp_backi (gq_runV hX good6 (m6 221 rfl) (c4_readNumber l D cI so tx t n hn (q + 1) (by omega) bl lf (coF (crV t n q)) 0 0 2 (by omega) 0 99) q4_readNumber rfl (m6 225 rfl) (m6 226 rfl) (m6 227 rfl) ⟨Nat.le_of_ble_eq_true rfl, Nat.le_of_ble_eq_true rfl⟩ hK hN [0] rfl hP hD [0, 1] (by decide) rfl (ci := 4) (q0 := 0) rfl rfl rfl hl.1 rfl (Nat.le_of_ble_eq_true rfl) dX4_readCommand_119 ⟨Nat.zero_le _, Nat.zero_le _⟩) hP hD hS [0, 1] rfl (fun r u h => by rw [h.2]; simp only [List.map_cons, List.map_nil]) (fun r9 u H locs hpost hP hD hS => ?_)
            obtain ⟨hr9, rfl⟩ := hpost
            refine lv_as hr9 ?_
            have hP : va_P D vwCl [(so, .inr (4, [.ref tx, .int (nI (n)), .int (nI ((rdV t n (q + 1) 2 0 99).2)), .int (bl), .int (lf), .int (coF (crV t n q)), .int (0), .int (0)])), (tx, .inl (cI, 90, .inl t))] H := hP
            have hD : va_D A [(so, .inr (4, [.ref tx, .int (nI (n)), .int (nI ((rdV t n (q + 1) 2 0 99).2)), .int (bl), .int (lf), .int (coF (crV t n q)), .int (0), .int (0)])), (tx, .inl (cI, 90, .inl t))] := hD
            refine va_put (D := D) (ci := 4) (v := .int ((rdV t n (q + 1) 2 0 99).1)) (ty := .int) (C := RX4) (T := TX4) (N := 8) hx hb hts u6_X4 tyX4 tyX4_ok nmX4 hown hK hP hD hS 0 rfl rfl 7 (by decide) (hts _ (m6 231 rfl)) (fun _ h9 => h9) rfl (by decide +kernel) rfl rfl (Nat.le_of_ble_eq_true rfl) dX4_readCommand_122 (fun H locs hP hD hS => ?_)
            have hP : va_P D vwCl [(so, .inr (4, [.ref tx, .int (nI (n)), .int (nI ((rdV t n (q + 1) 2 0 99).2)), .int (bl), .int (lf), .int (coF (crV t n q)), .int (0), .int ((rdV t n (q + 1) 2 0 99).1)])), (tx, .inl (cI, 90, .inl t))] H := hP
            have hD : va_D A [(so, .inr (4, [.ref tx, .int (nI (n)), .int (nI ((rdV t n (q + 1) 2 0 99).2)), .int (bl), .int (lf), .int (coF (crV t n q)), .int (0), .int ((rdV t n (q + 1) 2 0 99).1)])), (tx, .inl (cI, 90, .inl t))] := hD
            refine lv_goto (tgt := 148) hx hb dX4_readCommand_125 (by decide) ?_
            refine lv_aload_n hx hb dX4_readCommand_148 rfl (lv_at hl 0 rfl) ?_
            refine va_get (D := D) (ci := 4) (v := .int ((rdV t n (q + 1) 2 0 99).1)) (C := RX4) (T := TX4) (N := 8) hx hb hts u6_X4 hown hK hP 0 rfl rfl 7 (by decide) (hts _ (m6 231 rfl)) (fun _ h9 => h9) rfl dX4_readCommand_149 ?_
            refine lv_bipush (v := (-9)) hx hb dX4_readCommand_152 (by decide) ?_
            refine lv_icmp_eq (tgt := 161) hx hb dX4_readCommand_154 (by decide) (fun c154_17 => ?_) (fun c154_17 => ?_)
            · skip
              refine lv_iconst (v := 0) hx hb dX4_readCommand_161 (by decide) ?_
              have hP : va_P D vwCl [(so, .inr (4, [.ref tx, .int (nI (n)), .int (nI ((rcF t n q ky nu).1.2)), .int (bl), .int (lf), .int ((rcF t n q ky nu).2.1), .int ((rcF t n q ky nu).2.2.1), .int ((rcF t n q ky nu).2.2.2)])), (tx, .inl (cI, 90, .inl t))] H := by
                rw [show ((rcF t n q ky nu).2.2.2 : Int32) = (rdV t n (q + 1) 2 0 99).1 from by rw [rcF, if_neg c17_1, if_neg (fun z => z.elim c47_2 c55_11), rcN, if_neg c86_12, if_pos c110_13]]
                rw [show ((rcF t n q ky nu).2.2.1 : Int32) = 0 from by rw [rcF, if_neg c17_1, if_neg (fun z => z.elim c47_2 c55_11), rcN, if_neg c86_12, if_pos c110_13]]
                rw [show ((rcF t n q ky nu).2.1 : Int32) = coF (crV t n q) from by rw [rcF, if_neg c17_1, if_neg (fun z => z.elim c47_2 c55_11), rcN, if_neg c86_12, if_pos c110_13]]
                rw [show (nI ((rcF t n q ky nu).1.2) : Int32) = nI ((rdV t n (q + 1) 2 0 99).2) from by rw [rcF, if_neg c17_1, if_neg (fun z => z.elim c47_2 c55_11), rcN, if_neg c86_12, if_pos c110_13]]
                exact hP
              exact gp_retz hX hr hlocks hS hP (P := (rcF t n q ky nu).1.1 = true) ((bI_0 (by rw [rcF, if_neg c17_1, if_neg (fun z => z.elim c47_2 c55_11), rcN, if_neg c86_12, if_pos c110_13]; try simp [c154_17])).symm) ⟨(bI_0 (by rw [rcF, if_neg c17_1, if_neg (fun z => z.elim c47_2 c55_11), rcN, if_neg c86_12, if_pos c110_13]; try simp [c154_17])).symm, rfl⟩ dX4_readCommand_162
            · skip
              refine lv_iconst (v := 1) hx hb dX4_readCommand_157 (by decide) ?_
              refine lv_goto (tgt := 162) hx hb dX4_readCommand_158 (by decide) ?_
              have hP : va_P D vwCl [(so, .inr (4, [.ref tx, .int (nI (n)), .int (nI ((rcF t n q ky nu).1.2)), .int (bl), .int (lf), .int ((rcF t n q ky nu).2.1), .int ((rcF t n q ky nu).2.2.1), .int ((rcF t n q ky nu).2.2.2)])), (tx, .inl (cI, 90, .inl t))] H := by
                rw [show ((rcF t n q ky nu).2.2.2 : Int32) = (rdV t n (q + 1) 2 0 99).1 from by rw [rcF, if_neg c17_1, if_neg (fun z => z.elim c47_2 c55_11), rcN, if_neg c86_12, if_pos c110_13]]
                rw [show ((rcF t n q ky nu).2.2.1 : Int32) = 0 from by rw [rcF, if_neg c17_1, if_neg (fun z => z.elim c47_2 c55_11), rcN, if_neg c86_12, if_pos c110_13]]
                rw [show ((rcF t n q ky nu).2.1 : Int32) = coF (crV t n q) from by rw [rcF, if_neg c17_1, if_neg (fun z => z.elim c47_2 c55_11), rcN, if_neg c86_12, if_pos c110_13]]
                rw [show (nI ((rcF t n q ky nu).1.2) : Int32) = nI ((rdV t n (q + 1) 2 0 99).2) from by rw [rcF, if_neg c17_1, if_neg (fun z => z.elim c47_2 c55_11), rcN, if_neg c86_12, if_pos c110_13]]
                exact hP
              exact gp_retz hX hr hlocks hS hP (P := (rcF t n q ky nu).1.1 = true) ((bI_1 (by rw [rcF, if_neg c17_1, if_neg (fun z => z.elim c47_2 c55_11), rcN, if_neg c86_12, if_pos c110_13]; try simp [c154_17])).symm) ⟨(bI_1 (by rw [rcF, if_neg c17_1, if_neg (fun z => z.elim c47_2 c55_11), rcN, if_neg c86_12, if_pos c110_13]; try simp [c154_17])).symm, rfl⟩ dX4_readCommand_162
        · skip
          refine lv_aload_n hx hb dX4_readCommand_89 rfl (lv_at hl 0 rfl) ?_
          refine lv_aload_n hx hb dX4_readCommand_90 rfl (lv_at hl 0 rfl) ?_
          refine lv_iconst (v := 3) hx hb dX4_readCommand_91 (by decide) ?_
          refine lv_iconst (v := 0) hx hb dX4_readCommand_92 (by decide) ?_
          refine lv_sipush (v := 999) hx hb dX4_readCommand_93 (by decide) ?_
          refine gp_backi (gq_runV hX good6 (m6 221 rfl) (c4_readNumber l D cI so tx t n hn (q + 1) (by omega) bl lf (coF (crV t n q)) 0 0 3 (by omega) 0 999) q4_readNumber rfl (m6 225 rfl) (m6 226 rfl) (m6 227 rfl) ⟨Nat.le_of_ble_eq_true rfl, Nat.le_of_ble_eq_true rfl⟩ hK hN [0] rfl hP hD [0, 1] (by decide) rfl (ci := 4) (q0 := 0) rfl rfl rfl hl.1 rfl (Nat.le_of_ble_eq_true rfl) dX4_readCommand_96 ⟨Nat.zero_le _, Nat.zero_le _⟩) hP hD hS [0, 1] rfl (fun r u h => by rw [h.2]; simp only [List.map_cons, List.map_nil]) (fun r9 u H locs hpost hP hD hS => ?_)
          obtain ⟨hr9, rfl⟩ := hpost
          refine lv_as hr9 ?_
          have hP : va_P D vwCl [(so, .inr (4, [.ref tx, .int (nI (n)), .int (nI ((rdV t n (q + 1) 3 0 999).2)), .int (bl), .int (lf), .int (coF (crV t n q)), .int (0), .int (0)])), (tx, .inl (cI, 90, .inl t))] H := hP
          have hD : va_D A [(so, .inr (4, [.ref tx, .int (nI (n)), .int (nI ((rdV t n (q + 1) 3 0 999).2)), .int (bl), .int (lf), .int (coF (crV t n q)), .int (0), .int (0)])), (tx, .inl (cI, 90, .inl t))] := hD
          refine va_put (D := D) (ci := 4) (v := .int ((rdV t n (q + 1) 3 0 999).1)) (ty := .int) (C := RX4) (T := TX4) (N := 8) hx hb hts u6_X4 tyX4 tyX4_ok nmX4 hown hK hP hD hS 0 rfl rfl 7 (by decide) (hts _ (m6 231 rfl)) (fun _ h9 => h9) rfl (by decide +kernel) rfl rfl (Nat.le_of_ble_eq_true rfl) dX4_readCommand_99 (fun H locs hP hD hS => ?_)
          have hP : va_P D vwCl [(so, .inr (4, [.ref tx, .int (nI (n)), .int (nI ((rdV t n (q + 1) 3 0 999).2)), .int (bl), .int (lf), .int (coF (crV t n q)), .int (0), .int ((rdV t n (q + 1) 3 0 999).1)])), (tx, .inl (cI, 90, .inl t))] H := hP
          have hD : va_D A [(so, .inr (4, [.ref tx, .int (nI (n)), .int (nI ((rdV t n (q + 1) 3 0 999).2)), .int (bl), .int (lf), .int (coF (crV t n q)), .int (0), .int ((rdV t n (q + 1) 3 0 999).1)])), (tx, .inl (cI, 90, .inl t))] := hD
          refine lv_goto (tgt := 148) hx hb dX4_readCommand_102 (by decide) ?_
          refine lv_aload_n hx hb dX4_readCommand_148 rfl (lv_at hl 0 rfl) ?_
          refine va_get (D := D) (ci := 4) (v := .int ((rdV t n (q + 1) 3 0 999).1)) (C := RX4) (T := TX4) (N := 8) hx hb hts u6_X4 hown hK hP 0 rfl rfl 7 (by decide) (hts _ (m6 231 rfl)) (fun _ h9 => h9) rfl dX4_readCommand_149 ?_
          refine lv_bipush (v := (-9)) hx hb dX4_readCommand_152 (by decide) ?_
          refine lv_icmp_eq (tgt := 161) hx hb dX4_readCommand_154 (by decide) (fun c154_18 => ?_) (fun c154_18 => ?_)
          · skip
            refine lv_iconst (v := 0) hx hb dX4_readCommand_161 (by decide) ?_
            have hP : va_P D vwCl [(so, .inr (4, [.ref tx, .int (nI (n)), .int (nI ((rcF t n q ky nu).1.2)), .int (bl), .int (lf), .int ((rcF t n q ky nu).2.1), .int ((rcF t n q ky nu).2.2.1), .int ((rcF t n q ky nu).2.2.2)])), (tx, .inl (cI, 90, .inl t))] H := by
              rw [show ((rcF t n q ky nu).2.2.2 : Int32) = (rdV t n (q + 1) 3 0 999).1 from by rw [rcF, if_neg c17_1, if_neg (fun z => z.elim c47_2 c55_11), rcN, if_pos c86_12]]
              rw [show ((rcF t n q ky nu).2.2.1 : Int32) = 0 from by rw [rcF, if_neg c17_1, if_neg (fun z => z.elim c47_2 c55_11), rcN, if_pos c86_12]]
              rw [show ((rcF t n q ky nu).2.1 : Int32) = coF (crV t n q) from by rw [rcF, if_neg c17_1, if_neg (fun z => z.elim c47_2 c55_11), rcN, if_pos c86_12]]
              rw [show (nI ((rcF t n q ky nu).1.2) : Int32) = nI ((rdV t n (q + 1) 3 0 999).2) from by rw [rcF, if_neg c17_1, if_neg (fun z => z.elim c47_2 c55_11), rcN, if_pos c86_12]]
              exact hP
            exact gp_retz hX hr hlocks hS hP (P := (rcF t n q ky nu).1.1 = true) ((bI_0 (by rw [rcF, if_neg c17_1, if_neg (fun z => z.elim c47_2 c55_11), rcN, if_pos c86_12]; try simp [c154_18])).symm) ⟨(bI_0 (by rw [rcF, if_neg c17_1, if_neg (fun z => z.elim c47_2 c55_11), rcN, if_pos c86_12]; try simp [c154_18])).symm, rfl⟩ dX4_readCommand_162
          · skip
            refine lv_iconst (v := 1) hx hb dX4_readCommand_157 (by decide) ?_
            refine lv_goto (tgt := 162) hx hb dX4_readCommand_158 (by decide) ?_
            have hP : va_P D vwCl [(so, .inr (4, [.ref tx, .int (nI (n)), .int (nI ((rcF t n q ky nu).1.2)), .int (bl), .int (lf), .int ((rcF t n q ky nu).2.1), .int ((rcF t n q ky nu).2.2.1), .int ((rcF t n q ky nu).2.2.2)])), (tx, .inl (cI, 90, .inl t))] H := by
              rw [show ((rcF t n q ky nu).2.2.2 : Int32) = (rdV t n (q + 1) 3 0 999).1 from by rw [rcF, if_neg c17_1, if_neg (fun z => z.elim c47_2 c55_11), rcN, if_pos c86_12]]
              rw [show ((rcF t n q ky nu).2.2.1 : Int32) = 0 from by rw [rcF, if_neg c17_1, if_neg (fun z => z.elim c47_2 c55_11), rcN, if_pos c86_12]]
              rw [show ((rcF t n q ky nu).2.1 : Int32) = coF (crV t n q) from by rw [rcF, if_neg c17_1, if_neg (fun z => z.elim c47_2 c55_11), rcN, if_pos c86_12]]
              rw [show (nI ((rcF t n q ky nu).1.2) : Int32) = nI ((rdV t n (q + 1) 3 0 999).2) from by rw [rcF, if_neg c17_1, if_neg (fun z => z.elim c47_2 c55_11), rcN, if_pos c86_12]]
              exact hP
            exact gp_retz hX hr hlocks hS hP (P := (rcF t n q ky nu).1.1 = true) ((bI_1 (by rw [rcF, if_neg c17_1, if_neg (fun z => z.elim c47_2 c55_11), rcN, if_pos c86_12]; try simp [c154_18])).symm) ⟨(bI_1 (by rw [rcF, if_neg c17_1, if_neg (fun z => z.elim c47_2 c55_11), rcN, if_pos c86_12]; try simp [c154_18])).symm, rfl⟩ dX4_readCommand_162
      · skip
        refine lv_aload_n hx hb dX4_readCommand_58 rfl (lv_at hl 0 rfl) ?_
        refine lv_aload_n hx hb dX4_readCommand_59 rfl (lv_at hl 0 rfl) ?_
        refine lv_iconst (v := 2) hx hb dX4_readCommand_60 (by decide) ?_
        refine lv_iconst (v := 0) hx hb dX4_readCommand_61 (by decide) ?_
        refine lv_bipush (v := 15) hx hb dX4_readCommand_62 (by decide) ?_
        refine gp_backi (gq_runV hX good6 (m6 221 rfl) (c4_readNumber l D cI so tx t n hn (q + 1) (by omega) bl lf (coF (crV t n q)) 0 0 2 (by omega) 0 15) q4_readNumber rfl (m6 225 rfl) (m6 226 rfl) (m6 227 rfl) ⟨Nat.le_of_ble_eq_true rfl, Nat.le_of_ble_eq_true rfl⟩ hK hN [0] rfl hP hD [0, 1] (by decide) rfl (ci := 4) (q0 := 0) rfl rfl rfl hl.1 rfl (Nat.le_of_ble_eq_true rfl) dX4_readCommand_64 ⟨Nat.zero_le _, Nat.zero_le _⟩) hP hD hS [0, 1] rfl (fun r u h => by rw [h.2]; simp only [List.map_cons, List.map_nil]) (fun r9 u H locs hpost hP hD hS => ?_)
        obtain ⟨hr9, rfl⟩ := hpost
        refine lv_as hr9 ?_
        have hP : va_P D vwCl [(so, .inr (4, [.ref tx, .int (nI (n)), .int (nI ((rdV t n (q + 1) 2 0 15).2)), .int (bl), .int (lf), .int (coF (crV t n q)), .int (0), .int (0)])), (tx, .inl (cI, 90, .inl t))] H := hP
        have hD : va_D A [(so, .inr (4, [.ref tx, .int (nI (n)), .int (nI ((rdV t n (q + 1) 2 0 15).2)), .int (bl), .int (lf), .int (coF (crV t n q)), .int (0), .int (0)])), (tx, .inl (cI, 90, .inl t))] := hD
        refine va_put (D := D) (ci := 4) (v := .int ((rdV t n (q + 1) 2 0 15).1)) (ty := .int) (C := RX4) (T := TX4) (N := 8) hx hb hts u6_X4 tyX4 tyX4_ok nmX4 hown hK hP hD hS 0 rfl rfl 6 (by decide) (hts _ (m6 230 rfl)) (fun _ h9 => h9) rfl (by decide +kernel) rfl rfl (Nat.le_of_ble_eq_true rfl) dX4_readCommand_67 (fun H locs hP hD hS => ?_)
        have hP : va_P D vwCl [(so, .inr (4, [.ref tx, .int (nI (n)), .int (nI ((rdV t n (q + 1) 2 0 15).2)), .int (bl), .int (lf), .int (coF (crV t n q)), .int ((rdV t n (q + 1) 2 0 15).1), .int (0)])), (tx, .inl (cI, 90, .inl t))] H := hP
        have hD : va_D A [(so, .inr (4, [.ref tx, .int (nI (n)), .int (nI ((rdV t n (q + 1) 2 0 15).2)), .int (bl), .int (lf), .int (coF (crV t n q)), .int ((rdV t n (q + 1) 2 0 15).1), .int (0)])), (tx, .inl (cI, 90, .inl t))] := hD
        refine lv_aload_n hx hb dX4_readCommand_70 rfl (lv_at hl 0 rfl) ?_
        refine va_get (D := D) (ci := 4) (v := .int ((rdV t n (q + 1) 2 0 15).1)) (C := RX4) (T := TX4) (N := 8) hx hb hts u6_X4 hown hK hP 0 rfl rfl 6 (by decide) (hts _ (m6 230 rfl)) (fun _ h9 => h9) rfl dX4_readCommand_71 ?_
        refine lv_bipush (v := (-9)) hx hb dX4_readCommand_74 (by decide) ?_
        refine lv_icmp_ne (tgt := 81) hx hb dX4_readCommand_76 (by decide) (fun c76_19 => ?_) (fun c76_19 => ?_)
        · skip
          refine lv_aload_n hx hb dX4_readCommand_81 rfl (lv_at hl 0 rfl) ?_
          refine va_get (D := D) (ci := 4) (v := .int (coF (crV t n q))) (C := RX4) (T := TX4) (N := 8) hx hb hts u6_X4 hown hK hP 0 rfl rfl 5 (by decide) (hts _ (m6 229 rfl)) (fun _ h9 => h9) rfl dX4_readCommand_82 ?_
          refine lv_iconst (v := 1) hx hb dX4_readCommand_85 (by decide) ?_
          refine lv_icmp_ne (tgt := 105) hx hb dX4_readCommand_86 (by decide) (fun c86_20 => ?_) (fun c86_20 => ?_)
          · skip
            refine lv_aload_n hx hb dX4_readCommand_105 rfl (lv_at hl 0 rfl) ?_
            refine va_get (D := D) (ci := 4) (v := .int (coF (crV t n q))) (C := RX4) (T := TX4) (N := 8) hx hb hts u6_X4 hown hK hP 0 rfl rfl 5 (by decide) (hts _ (m6 229 rfl)) (fun _ h9 => h9) rfl dX4_readCommand_106 ?_
            refine lv_iconst (v := 4) hx hb dX4_readCommand_109 (by decide) ?_
            refine lv_icmp_ne (tgt := 128) hx hb dX4_readCommand_110 (by decide) (fun c110_21 => ?_) (fun c110_21 => ?_)
            · skip
              refine lv_aload_n hx hb dX4_readCommand_128 rfl (lv_at hl 0 rfl) ?_
              refine va_get (D := D) (ci := 4) (v := .int (coF (crV t n q))) (C := RX4) (T := TX4) (N := 8) hx hb hts u6_X4 hown hK hP 0 rfl rfl 5 (by decide) (hts _ (m6 229 rfl)) (fun _ h9 => h9) rfl dX4_readCommand_129 ?_
              refine lv_bipush (v := 9) hx hb dX4_readCommand_132 (by decide) ?_
              refine lv_icmp_ne (tgt := 148) hx hb dX4_readCommand_134 (by decide) (fun c134_22 => ?_) (fun c134_22 => ?_)
              · skip
                refine lv_aload_n hx hb dX4_readCommand_148 rfl (lv_at hl 0 rfl) ?_
                refine va_get (D := D) (ci := 4) (v := .int (0)) (C := RX4) (T := TX4) (N := 8) hx hb hts u6_X4 hown hK hP 0 rfl rfl 7 (by decide) (hts _ (m6 231 rfl)) (fun _ h9 => h9) rfl dX4_readCommand_149 ?_
                refine lv_bipush (v := (-9)) hx hb dX4_readCommand_152 (by decide) ?_
                refine lv_icmp_eq (tgt := 161) hx hb dX4_readCommand_154 (by decide) (fun c154_23 => ?_) (fun c154_23 => ?_)
                · skip
                  exact absurd c154_23 (by decide)
                · skip
                  refine lv_iconst (v := 1) hx hb dX4_readCommand_157 (by decide) ?_
                  refine lv_goto (tgt := 162) hx hb dX4_readCommand_158 (by decide) ?_
                  have hP : va_P D vwCl [(so, .inr (4, [.ref tx, .int (nI (n)), .int (nI ((rcF t n q ky nu).1.2)), .int (bl), .int (lf), .int ((rcF t n q ky nu).2.1), .int ((rcF t n q ky nu).2.2.1), .int ((rcF t n q ky nu).2.2.2)])), (tx, .inl (cI, 90, .inl t))] H := by
                    rw [show ((rcF t n q ky nu).2.2.2 : Int32) = 0 from by rw [rcF, if_neg c17_1, if_pos (Or.inr c55_11), if_neg c76_19, rcN, if_neg c86_20, if_neg c110_21, if_neg c134_22]]
                    rw [show ((rcF t n q ky nu).2.2.1 : Int32) = (rdV t n (q + 1) 2 0 15).1 from by rw [rcF, if_neg c17_1, if_pos (Or.inr c55_11), if_neg c76_19, rcN, if_neg c86_20, if_neg c110_21, if_neg c134_22]]
                    rw [show ((rcF t n q ky nu).2.1 : Int32) = coF (crV t n q) from by rw [rcF, if_neg c17_1, if_pos (Or.inr c55_11), if_neg c76_19, rcN, if_neg c86_20, if_neg c110_21, if_neg c134_22]]
                    rw [show (nI ((rcF t n q ky nu).1.2) : Int32) = nI ((rdV t n (q + 1) 2 0 15).2) from by rw [rcF, if_neg c17_1, if_pos (Or.inr c55_11), if_neg c76_19, rcN, if_neg c86_20, if_neg c110_21, if_neg c134_22]]
                    exact hP
                  exact gp_retz hX hr hlocks hS hP (P := (rcF t n q ky nu).1.1 = true) ((bI_1 (by rw [rcF, if_neg c17_1, if_pos (Or.inr c55_11), if_neg c76_19, rcN, if_neg c86_20, if_neg c110_21, if_neg c134_22]; try simp [c154_23])).symm) ⟨(bI_1 (by rw [rcF, if_neg c17_1, if_pos (Or.inr c55_11), if_neg c76_19, rcN, if_neg c86_20, if_neg c110_21, if_neg c134_22]; try simp [c154_23])).symm, rfl⟩ dX4_readCommand_162
              · skip
                refine lv_aload_n hx hb dX4_readCommand_137 rfl (lv_at hl 0 rfl) ?_
                refine lv_aload_n hx hb dX4_readCommand_138 rfl (lv_at hl 0 rfl) ?_
                refine lv_iconst (v := 1) hx hb dX4_readCommand_139 (by decide) ?_
                refine lv_iconst (v := 0) hx hb dX4_readCommand_140 (by decide) ?_
                refine lv_iconst (v := 2) hx hb dX4_readCommand_141 (by decide) ?_
                refine gp_backi (gq_runV hX good6 (m6 221 rfl) (c4_readNumber l D cI so tx t n hn ((rdV t n (q + 1) 2 0 15).2) (rdN_le (by omega)) bl lf (coF (crV t n q)) ((rdV t n (q + 1) 2 0 15).1) 0 1 (by omega) 0 2) q4_readNumber rfl (m6 225 rfl) (m6 226 rfl) (m6 227 rfl) ⟨Nat.le_of_ble_eq_true rfl, Nat.le_of_ble_eq_true rfl⟩ hK hN [0] rfl hP hD [0, 1] (by decide) rfl (ci := 4) (q0 := 0) rfl rfl rfl hl.1 rfl (Nat.le_of_ble_eq_true rfl) dX4_readCommand_142 ⟨Nat.zero_le _, Nat.zero_le _⟩) hP hD hS [0, 1] rfl (fun r u h => by rw [h.2]; simp only [List.map_cons, List.map_nil]) (fun r9 u H locs hpost hP hD hS => ?_)
                obtain ⟨hr9, rfl⟩ := hpost
                refine lv_as hr9 ?_
                have hP : va_P D vwCl [(so, .inr (4, [.ref tx, .int (nI (n)), .int (nI ((rdV t n ((rdV t n (q + 1) 2 0 15).2) 1 0 2).2)), .int (bl), .int (lf), .int (coF (crV t n q)), .int ((rdV t n (q + 1) 2 0 15).1), .int (0)])), (tx, .inl (cI, 90, .inl t))] H := hP
                have hD : va_D A [(so, .inr (4, [.ref tx, .int (nI (n)), .int (nI ((rdV t n ((rdV t n (q + 1) 2 0 15).2) 1 0 2).2)), .int (bl), .int (lf), .int (coF (crV t n q)), .int ((rdV t n (q + 1) 2 0 15).1), .int (0)])), (tx, .inl (cI, 90, .inl t))] := hD
                refine va_put (D := D) (ci := 4) (v := .int ((rdV t n ((rdV t n (q + 1) 2 0 15).2) 1 0 2).1)) (ty := .int) (C := RX4) (T := TX4) (N := 8) hx hb hts u6_X4 tyX4 tyX4_ok nmX4 hown hK hP hD hS 0 rfl rfl 7 (by decide) (hts _ (m6 231 rfl)) (fun _ h9 => h9) rfl (by decide +kernel) rfl rfl (Nat.le_of_ble_eq_true rfl) dX4_readCommand_145 (fun H locs hP hD hS => ?_)
                have hP : va_P D vwCl [(so, .inr (4, [.ref tx, .int (nI (n)), .int (nI ((rdV t n ((rdV t n (q + 1) 2 0 15).2) 1 0 2).2)), .int (bl), .int (lf), .int (coF (crV t n q)), .int ((rdV t n (q + 1) 2 0 15).1), .int ((rdV t n ((rdV t n (q + 1) 2 0 15).2) 1 0 2).1)])), (tx, .inl (cI, 90, .inl t))] H := hP
                have hD : va_D A [(so, .inr (4, [.ref tx, .int (nI (n)), .int (nI ((rdV t n ((rdV t n (q + 1) 2 0 15).2) 1 0 2).2)), .int (bl), .int (lf), .int (coF (crV t n q)), .int ((rdV t n (q + 1) 2 0 15).1), .int ((rdV t n ((rdV t n (q + 1) 2 0 15).2) 1 0 2).1)])), (tx, .inl (cI, 90, .inl t))] := hD
                refine lv_aload_n hx hb dX4_readCommand_148 rfl (lv_at hl 0 rfl) ?_
                refine va_get (D := D) (ci := 4) (v := .int ((rdV t n ((rdV t n (q + 1) 2 0 15).2) 1 0 2).1)) (C := RX4) (T := TX4) (N := 8) hx hb hts u6_X4 hown hK hP 0 rfl rfl 7 (by decide) (hts _ (m6 231 rfl)) (fun _ h9 => h9) rfl dX4_readCommand_149 ?_
                refine lv_bipush (v := (-9)) hx hb dX4_readCommand_152 (by decide) ?_
                refine lv_icmp_eq (tgt := 161) hx hb dX4_readCommand_154 (by decide) (fun c154_24 => ?_) (fun c154_24 => ?_)
                · skip
                  refine lv_iconst (v := 0) hx hb dX4_readCommand_161 (by decide) ?_
                  have hP : va_P D vwCl [(so, .inr (4, [.ref tx, .int (nI (n)), .int (nI ((rcF t n q ky nu).1.2)), .int (bl), .int (lf), .int ((rcF t n q ky nu).2.1), .int ((rcF t n q ky nu).2.2.1), .int ((rcF t n q ky nu).2.2.2)])), (tx, .inl (cI, 90, .inl t))] H := by
                    rw [show ((rcF t n q ky nu).2.2.2 : Int32) = (rdV t n ((rdV t n (q + 1) 2 0 15).2) 1 0 2).1 from by rw [rcF, if_neg c17_1, if_pos (Or.inr c55_11), if_neg c76_19, rcN, if_neg c86_20, if_neg c110_21, if_pos c134_22]]
                    rw [show ((rcF t n q ky nu).2.2.1 : Int32) = (rdV t n (q + 1) 2 0 15).1 from by rw [rcF, if_neg c17_1, if_pos (Or.inr c55_11), if_neg c76_19, rcN, if_neg c86_20, if_neg c110_21, if_pos c134_22]]
                    rw [show ((rcF t n q ky nu).2.1 : Int32) = coF (crV t n q) from by rw [rcF, if_neg c17_1, if_pos (Or.inr c55_11), if_neg c76_19, rcN, if_neg c86_20, if_neg c110_21, if_pos c134_22]]
                    rw [show (nI ((rcF t n q ky nu).1.2) : Int32) = nI ((rdV t n ((rdV t n (q + 1) 2 0 15).2) 1 0 2).2) from by rw [rcF, if_neg c17_1, if_pos (Or.inr c55_11), if_neg c76_19, rcN, if_neg c86_20, if_neg c110_21, if_pos c134_22]]
                    exact hP
                  exact gp_retz hX hr hlocks hS hP (P := (rcF t n q ky nu).1.1 = true) ((bI_0 (by rw [rcF, if_neg c17_1, if_pos (Or.inr c55_11), if_neg c76_19, rcN, if_neg c86_20, if_neg c110_21, if_pos c134_22]; try simp [c154_24])).symm) ⟨(bI_0 (by rw [rcF, if_neg c17_1, if_pos (Or.inr c55_11), if_neg c76_19, rcN, if_neg c86_20, if_neg c110_21, if_pos c134_22]; try simp [c154_24])).symm, rfl⟩ dX4_readCommand_162
                · skip
                  refine lv_iconst (v := 1) hx hb dX4_readCommand_157 (by decide) ?_
                  refine lv_goto (tgt := 162) hx hb dX4_readCommand_158 (by decide) ?_
                  have hP : va_P D vwCl [(so, .inr (4, [.ref tx, .int (nI (n)), .int (nI ((rcF t n q ky nu).1.2)), .int (bl), .int (lf), .int ((rcF t n q ky nu).2.1), .int ((rcF t n q ky nu).2.2.1), .int ((rcF t n q ky nu).2.2.2)])), (tx, .inl (cI, 90, .inl t))] H := by
                    rw [show ((rcF t n q ky nu).2.2.2 : Int32) = (rdV t n ((rdV t n (q + 1) 2 0 15).2) 1 0 2).1 from by rw [rcF, if_neg c17_1, if_pos (Or.inr c55_11), if_neg c76_19, rcN, if_neg c86_20, if_neg c110_21, if_pos c134_22]]
                    rw [show ((rcF t n q ky nu).2.2.1 : Int32) = (rdV t n (q + 1) 2 0 15).1 from by rw [rcF, if_neg c17_1, if_pos (Or.inr c55_11), if_neg c76_19, rcN, if_neg c86_20, if_neg c110_21, if_pos c134_22]]
                    rw [show ((rcF t n q ky nu).2.1 : Int32) = coF (crV t n q) from by rw [rcF, if_neg c17_1, if_pos (Or.inr c55_11), if_neg c76_19, rcN, if_neg c86_20, if_neg c110_21, if_pos c134_22]]
                    rw [show (nI ((rcF t n q ky nu).1.2) : Int32) = nI ((rdV t n ((rdV t n (q + 1) 2 0 15).2) 1 0 2).2) from by rw [rcF, if_neg c17_1, if_pos (Or.inr c55_11), if_neg c76_19, rcN, if_neg c86_20, if_neg c110_21, if_pos c134_22]]
                    exact hP
                  exact gp_retz hX hr hlocks hS hP (P := (rcF t n q ky nu).1.1 = true) ((bI_1 (by rw [rcF, if_neg c17_1, if_pos (Or.inr c55_11), if_neg c76_19, rcN, if_neg c86_20, if_neg c110_21, if_pos c134_22]; try simp [c154_24])).symm) ⟨(bI_1 (by rw [rcF, if_neg c17_1, if_pos (Or.inr c55_11), if_neg c76_19, rcN, if_neg c86_20, if_neg c110_21, if_pos c134_22]; try simp [c154_24])).symm, rfl⟩ dX4_readCommand_162
            · skip
              refine lv_aload_n hx hb dX4_readCommand_113 rfl (lv_at hl 0 rfl) ?_
              refine lv_aload_n hx hb dX4_readCommand_114 rfl (lv_at hl 0 rfl) ?_
              refine lv_iconst (v := 2) hx hb dX4_readCommand_115 (by decide) ?_
              refine lv_iconst (v := 0) hx hb dX4_readCommand_116 (by decide) ?_
              refine lv_bipush (v := 99) hx hb dX4_readCommand_117 (by decide) ?_
              refine gp_backi (gq_runV hX good6 (m6 221 rfl) (c4_readNumber l D cI so tx t n hn ((rdV t n (q + 1) 2 0 15).2) (rdN_le (by omega)) bl lf (coF (crV t n q)) ((rdV t n (q + 1) 2 0 15).1) 0 2 (by omega) 0 99) q4_readNumber rfl (m6 225 rfl) (m6 226 rfl) (m6 227 rfl) ⟨Nat.le_of_ble_eq_true rfl, Nat.le_of_ble_eq_true rfl⟩ hK hN [0] rfl hP hD [0, 1] (by decide) rfl (ci := 4) (q0 := 0) rfl rfl rfl hl.1 rfl (Nat.le_of_ble_eq_true rfl) dX4_readCommand_119 ⟨Nat.zero_le _, Nat.zero_le _⟩) hP hD hS [0, 1] rfl (fun r u h => by rw [h.2]; simp only [List.map_cons, List.map_nil]) (fun r9 u H locs hpost hP hD hS => ?_)
              obtain ⟨hr9, rfl⟩ := hpost
              refine lv_as hr9 ?_
              have hP : va_P D vwCl [(so, .inr (4, [.ref tx, .int (nI (n)), .int (nI ((rdV t n ((rdV t n (q + 1) 2 0 15).2) 2 0 99).2)), .int (bl), .int (lf), .int (coF (crV t n q)), .int ((rdV t n (q + 1) 2 0 15).1), .int (0)])), (tx, .inl (cI, 90, .inl t))] H := hP
              have hD : va_D A [(so, .inr (4, [.ref tx, .int (nI (n)), .int (nI ((rdV t n ((rdV t n (q + 1) 2 0 15).2) 2 0 99).2)), .int (bl), .int (lf), .int (coF (crV t n q)), .int ((rdV t n (q + 1) 2 0 15).1), .int (0)])), (tx, .inl (cI, 90, .inl t))] := hD
              refine va_put (D := D) (ci := 4) (v := .int ((rdV t n ((rdV t n (q + 1) 2 0 15).2) 2 0 99).1)) (ty := .int) (C := RX4) (T := TX4) (N := 8) hx hb hts u6_X4 tyX4 tyX4_ok nmX4 hown hK hP hD hS 0 rfl rfl 7 (by decide) (hts _ (m6 231 rfl)) (fun _ h9 => h9) rfl (by decide +kernel) rfl rfl (Nat.le_of_ble_eq_true rfl) dX4_readCommand_122 (fun H locs hP hD hS => ?_)
              have hP : va_P D vwCl [(so, .inr (4, [.ref tx, .int (nI (n)), .int (nI ((rdV t n ((rdV t n (q + 1) 2 0 15).2) 2 0 99).2)), .int (bl), .int (lf), .int (coF (crV t n q)), .int ((rdV t n (q + 1) 2 0 15).1), .int ((rdV t n ((rdV t n (q + 1) 2 0 15).2) 2 0 99).1)])), (tx, .inl (cI, 90, .inl t))] H := hP
              have hD : va_D A [(so, .inr (4, [.ref tx, .int (nI (n)), .int (nI ((rdV t n ((rdV t n (q + 1) 2 0 15).2) 2 0 99).2)), .int (bl), .int (lf), .int (coF (crV t n q)), .int ((rdV t n (q + 1) 2 0 15).1), .int ((rdV t n ((rdV t n (q + 1) 2 0 15).2) 2 0 99).1)])), (tx, .inl (cI, 90, .inl t))] := hD
              refine lv_goto (tgt := 148) hx hb dX4_readCommand_125 (by decide) ?_
              refine lv_aload_n hx hb dX4_readCommand_148 rfl (lv_at hl 0 rfl) ?_
              refine va_get (D := D) (ci := 4) (v := .int ((rdV t n ((rdV t n (q + 1) 2 0 15).2) 2 0 99).1)) (C := RX4) (T := TX4) (N := 8) hx hb hts u6_X4 hown hK hP 0 rfl rfl 7 (by decide) (hts _ (m6 231 rfl)) (fun _ h9 => h9) rfl dX4_readCommand_149 ?_
              refine lv_bipush (v := (-9)) hx hb dX4_readCommand_152 (by decide) ?_
              refine lv_icmp_eq (tgt := 161) hx hb dX4_readCommand_154 (by decide) (fun c154_25 => ?_) (fun c154_25 => ?_)
              · skip
                refine lv_iconst (v := 0) hx hb dX4_readCommand_161 (by decide) ?_
                have hP : va_P D vwCl [(so, .inr (4, [.ref tx, .int (nI (n)), .int (nI ((rcF t n q ky nu).1.2)), .int (bl), .int (lf), .int ((rcF t n q ky nu).2.1), .int ((rcF t n q ky nu).2.2.1), .int ((rcF t n q ky nu).2.2.2)])), (tx, .inl (cI, 90, .inl t))] H := by
                  rw [show ((rcF t n q ky nu).2.2.2 : Int32) = (rdV t n ((rdV t n (q + 1) 2 0 15).2) 2 0 99).1 from by rw [rcF, if_neg c17_1, if_pos (Or.inr c55_11), if_neg c76_19, rcN, if_neg c86_20, if_pos c110_21]]
                  rw [show ((rcF t n q ky nu).2.2.1 : Int32) = (rdV t n (q + 1) 2 0 15).1 from by rw [rcF, if_neg c17_1, if_pos (Or.inr c55_11), if_neg c76_19, rcN, if_neg c86_20, if_pos c110_21]]
                  rw [show ((rcF t n q ky nu).2.1 : Int32) = coF (crV t n q) from by rw [rcF, if_neg c17_1, if_pos (Or.inr c55_11), if_neg c76_19, rcN, if_neg c86_20, if_pos c110_21]]
                  rw [show (nI ((rcF t n q ky nu).1.2) : Int32) = nI ((rdV t n ((rdV t n (q + 1) 2 0 15).2) 2 0 99).2) from by rw [rcF, if_neg c17_1, if_pos (Or.inr c55_11), if_neg c76_19, rcN, if_neg c86_20, if_pos c110_21]]
                  exact hP
                exact gp_retz hX hr hlocks hS hP (P := (rcF t n q ky nu).1.1 = true) ((bI_0 (by rw [rcF, if_neg c17_1, if_pos (Or.inr c55_11), if_neg c76_19, rcN, if_neg c86_20, if_pos c110_21]; try simp [c154_25])).symm) ⟨(bI_0 (by rw [rcF, if_neg c17_1, if_pos (Or.inr c55_11), if_neg c76_19, rcN, if_neg c86_20, if_pos c110_21]; try simp [c154_25])).symm, rfl⟩ dX4_readCommand_162
              · skip
                refine lv_iconst (v := 1) hx hb dX4_readCommand_157 (by decide) ?_
                refine lv_goto (tgt := 162) hx hb dX4_readCommand_158 (by decide) ?_
                have hP : va_P D vwCl [(so, .inr (4, [.ref tx, .int (nI (n)), .int (nI ((rcF t n q ky nu).1.2)), .int (bl), .int (lf), .int ((rcF t n q ky nu).2.1), .int ((rcF t n q ky nu).2.2.1), .int ((rcF t n q ky nu).2.2.2)])), (tx, .inl (cI, 90, .inl t))] H := by
                  rw [show ((rcF t n q ky nu).2.2.2 : Int32) = (rdV t n ((rdV t n (q + 1) 2 0 15).2) 2 0 99).1 from by rw [rcF, if_neg c17_1, if_pos (Or.inr c55_11), if_neg c76_19, rcN, if_neg c86_20, if_pos c110_21]]
                  rw [show ((rcF t n q ky nu).2.2.1 : Int32) = (rdV t n (q + 1) 2 0 15).1 from by rw [rcF, if_neg c17_1, if_pos (Or.inr c55_11), if_neg c76_19, rcN, if_neg c86_20, if_pos c110_21]]
                  rw [show ((rcF t n q ky nu).2.1 : Int32) = coF (crV t n q) from by rw [rcF, if_neg c17_1, if_pos (Or.inr c55_11), if_neg c76_19, rcN, if_neg c86_20, if_pos c110_21]]
                  rw [show (nI ((rcF t n q ky nu).1.2) : Int32) = nI ((rdV t n ((rdV t n (q + 1) 2 0 15).2) 2 0 99).2) from by rw [rcF, if_neg c17_1, if_pos (Or.inr c55_11), if_neg c76_19, rcN, if_neg c86_20, if_pos c110_21]]
                  exact hP
                exact gp_retz hX hr hlocks hS hP (P := (rcF t n q ky nu).1.1 = true) ((bI_1 (by rw [rcF, if_neg c17_1, if_pos (Or.inr c55_11), if_neg c76_19, rcN, if_neg c86_20, if_pos c110_21]; try simp [c154_25])).symm) ⟨(bI_1 (by rw [rcF, if_neg c17_1, if_pos (Or.inr c55_11), if_neg c76_19, rcN, if_neg c86_20, if_pos c110_21]; try simp [c154_25])).symm, rfl⟩ dX4_readCommand_162
          · skip
            refine lv_aload_n hx hb dX4_readCommand_89 rfl (lv_at hl 0 rfl) ?_
            refine lv_aload_n hx hb dX4_readCommand_90 rfl (lv_at hl 0 rfl) ?_
            refine lv_iconst (v := 3) hx hb dX4_readCommand_91 (by decide) ?_
            refine lv_iconst (v := 0) hx hb dX4_readCommand_92 (by decide) ?_
            refine lv_sipush (v := 999) hx hb dX4_readCommand_93 (by decide) ?_
            refine gp_backi (gq_runV hX good6 (m6 221 rfl) (c4_readNumber l D cI so tx t n hn ((rdV t n (q + 1) 2 0 15).2) (rdN_le (by omega)) bl lf (coF (crV t n q)) ((rdV t n (q + 1) 2 0 15).1) 0 3 (by omega) 0 999) q4_readNumber rfl (m6 225 rfl) (m6 226 rfl) (m6 227 rfl) ⟨Nat.le_of_ble_eq_true rfl, Nat.le_of_ble_eq_true rfl⟩ hK hN [0] rfl hP hD [0, 1] (by decide) rfl (ci := 4) (q0 := 0) rfl rfl rfl hl.1 rfl (Nat.le_of_ble_eq_true rfl) dX4_readCommand_96 ⟨Nat.zero_le _, Nat.zero_le _⟩) hP hD hS [0, 1] rfl (fun r u h => by rw [h.2]; simp only [List.map_cons, List.map_nil]) (fun r9 u H locs hpost hP hD hS => ?_)
            obtain ⟨hr9, rfl⟩ := hpost
            refine lv_as hr9 ?_
            have hP : va_P D vwCl [(so, .inr (4, [.ref tx, .int (nI (n)), .int (nI ((rdV t n ((rdV t n (q + 1) 2 0 15).2) 3 0 999).2)), .int (bl), .int (lf), .int (coF (crV t n q)), .int ((rdV t n (q + 1) 2 0 15).1), .int (0)])), (tx, .inl (cI, 90, .inl t))] H := hP
            have hD : va_D A [(so, .inr (4, [.ref tx, .int (nI (n)), .int (nI ((rdV t n ((rdV t n (q + 1) 2 0 15).2) 3 0 999).2)), .int (bl), .int (lf), .int (coF (crV t n q)), .int ((rdV t n (q + 1) 2 0 15).1), .int (0)])), (tx, .inl (cI, 90, .inl t))] := hD
            refine va_put (D := D) (ci := 4) (v := .int ((rdV t n ((rdV t n (q + 1) 2 0 15).2) 3 0 999).1)) (ty := .int) (C := RX4) (T := TX4) (N := 8) hx hb hts u6_X4 tyX4 tyX4_ok nmX4 hown hK hP hD hS 0 rfl rfl 7 (by decide) (hts _ (m6 231 rfl)) (fun _ h9 => h9) rfl (by decide +kernel) rfl rfl (Nat.le_of_ble_eq_true rfl) dX4_readCommand_99 (fun H locs hP hD hS => ?_)
            have hP : va_P D vwCl [(so, .inr (4, [.ref tx, .int (nI (n)), .int (nI ((rdV t n ((rdV t n (q + 1) 2 0 15).2) 3 0 999).2)), .int (bl), .int (lf), .int (coF (crV t n q)), .int ((rdV t n (q + 1) 2 0 15).1), .int ((rdV t n ((rdV t n (q + 1) 2 0 15).2) 3 0 999).1)])), (tx, .inl (cI, 90, .inl t))] H := hP
            have hD : va_D A [(so, .inr (4, [.ref tx, .int (nI (n)), .int (nI ((rdV t n ((rdV t n (q + 1) 2 0 15).2) 3 0 999).2)), .int (bl), .int (lf), .int (coF (crV t n q)), .int ((rdV t n (q + 1) 2 0 15).1), .int ((rdV t n ((rdV t n (q + 1) 2 0 15).2) 3 0 999).1)])), (tx, .inl (cI, 90, .inl t))] := hD
            refine lv_goto (tgt := 148) hx hb dX4_readCommand_102 (by decide) ?_
            refine lv_aload_n hx hb dX4_readCommand_148 rfl (lv_at hl 0 rfl) ?_
            refine va_get (D := D) (ci := 4) (v := .int ((rdV t n ((rdV t n (q + 1) 2 0 15).2) 3 0 999).1)) (C := RX4) (T := TX4) (N := 8) hx hb hts u6_X4 hown hK hP 0 rfl rfl 7 (by decide) (hts _ (m6 231 rfl)) (fun _ h9 => h9) rfl dX4_readCommand_149 ?_
            refine lv_bipush (v := (-9)) hx hb dX4_readCommand_152 (by decide) ?_
            refine lv_icmp_eq (tgt := 161) hx hb dX4_readCommand_154 (by decide) (fun c154_26 => ?_) (fun c154_26 => ?_)
            · skip
              refine lv_iconst (v := 0) hx hb dX4_readCommand_161 (by decide) ?_
              have hP : va_P D vwCl [(so, .inr (4, [.ref tx, .int (nI (n)), .int (nI ((rcF t n q ky nu).1.2)), .int (bl), .int (lf), .int ((rcF t n q ky nu).2.1), .int ((rcF t n q ky nu).2.2.1), .int ((rcF t n q ky nu).2.2.2)])), (tx, .inl (cI, 90, .inl t))] H := by
                rw [show ((rcF t n q ky nu).2.2.2 : Int32) = (rdV t n ((rdV t n (q + 1) 2 0 15).2) 3 0 999).1 from by rw [rcF, if_neg c17_1, if_pos (Or.inr c55_11), if_neg c76_19, rcN, if_pos c86_20]]
                rw [show ((rcF t n q ky nu).2.2.1 : Int32) = (rdV t n (q + 1) 2 0 15).1 from by rw [rcF, if_neg c17_1, if_pos (Or.inr c55_11), if_neg c76_19, rcN, if_pos c86_20]]
                rw [show ((rcF t n q ky nu).2.1 : Int32) = coF (crV t n q) from by rw [rcF, if_neg c17_1, if_pos (Or.inr c55_11), if_neg c76_19, rcN, if_pos c86_20]]
                rw [show (nI ((rcF t n q ky nu).1.2) : Int32) = nI ((rdV t n ((rdV t n (q + 1) 2 0 15).2) 3 0 999).2) from by rw [rcF, if_neg c17_1, if_pos (Or.inr c55_11), if_neg c76_19, rcN, if_pos c86_20]]
                exact hP
              exact gp_retz hX hr hlocks hS hP (P := (rcF t n q ky nu).1.1 = true) ((bI_0 (by rw [rcF, if_neg c17_1, if_pos (Or.inr c55_11), if_neg c76_19, rcN, if_pos c86_20]; try simp [c154_26])).symm) ⟨(bI_0 (by rw [rcF, if_neg c17_1, if_pos (Or.inr c55_11), if_neg c76_19, rcN, if_pos c86_20]; try simp [c154_26])).symm, rfl⟩ dX4_readCommand_162
            · skip
              refine lv_iconst (v := 1) hx hb dX4_readCommand_157 (by decide) ?_
              refine lv_goto (tgt := 162) hx hb dX4_readCommand_158 (by decide) ?_
              have hP : va_P D vwCl [(so, .inr (4, [.ref tx, .int (nI (n)), .int (nI ((rcF t n q ky nu).1.2)), .int (bl), .int (lf), .int ((rcF t n q ky nu).2.1), .int ((rcF t n q ky nu).2.2.1), .int ((rcF t n q ky nu).2.2.2)])), (tx, .inl (cI, 90, .inl t))] H := by
                rw [show ((rcF t n q ky nu).2.2.2 : Int32) = (rdV t n ((rdV t n (q + 1) 2 0 15).2) 3 0 999).1 from by rw [rcF, if_neg c17_1, if_pos (Or.inr c55_11), if_neg c76_19, rcN, if_pos c86_20]]
                rw [show ((rcF t n q ky nu).2.2.1 : Int32) = (rdV t n (q + 1) 2 0 15).1 from by rw [rcF, if_neg c17_1, if_pos (Or.inr c55_11), if_neg c76_19, rcN, if_pos c86_20]]
                rw [show ((rcF t n q ky nu).2.1 : Int32) = coF (crV t n q) from by rw [rcF, if_neg c17_1, if_pos (Or.inr c55_11), if_neg c76_19, rcN, if_pos c86_20]]
                rw [show (nI ((rcF t n q ky nu).1.2) : Int32) = nI ((rdV t n ((rdV t n (q + 1) 2 0 15).2) 3 0 999).2) from by rw [rcF, if_neg c17_1, if_pos (Or.inr c55_11), if_neg c76_19, rcN, if_pos c86_20]]
                exact hP
              exact gp_retz hX hr hlocks hS hP (P := (rcF t n q ky nu).1.1 = true) ((bI_1 (by rw [rcF, if_neg c17_1, if_pos (Or.inr c55_11), if_neg c76_19, rcN, if_pos c86_20]; try simp [c154_26])).symm) ⟨(bI_1 (by rw [rcF, if_neg c17_1, if_pos (Or.inr c55_11), if_neg c76_19, rcN, if_pos c86_20]; try simp [c154_26])).symm, rfl⟩ dX4_readCommand_162
        · skip
          refine lv_iconst (v := 0) hx hb dX4_readCommand_79 (by decide) ?_
          have hP : va_P D vwCl [(so, .inr (4, [.ref tx, .int (nI (n)), .int (nI ((rcF t n q ky nu).1.2)), .int (bl), .int (lf), .int ((rcF t n q ky nu).2.1), .int ((rcF t n q ky nu).2.2.1), .int ((rcF t n q ky nu).2.2.2)])), (tx, .inl (cI, 90, .inl t))] H := by
            rw [show ((rcF t n q ky nu).2.2.2 : Int32) = 0 from by rw [rcF, if_neg c17_1, if_pos (Or.inr c55_11), if_pos c76_19]]
            rw [show ((rcF t n q ky nu).2.2.1 : Int32) = (rdV t n (q + 1) 2 0 15).1 from by rw [rcF, if_neg c17_1, if_pos (Or.inr c55_11), if_pos c76_19]]
            rw [show ((rcF t n q ky nu).2.1 : Int32) = coF (crV t n q) from by rw [rcF, if_neg c17_1, if_pos (Or.inr c55_11), if_pos c76_19]]
            rw [show (nI ((rcF t n q ky nu).1.2) : Int32) = nI ((rdV t n (q + 1) 2 0 15).2) from by rw [rcF, if_neg c17_1, if_pos (Or.inr c55_11), if_pos c76_19]]
            exact hP
          exact gp_retz hX hr hlocks hS hP (P := (rcF t n q ky nu).1.1 = true) ((bI_0 (by rw [rcF, if_neg c17_1, if_pos (Or.inr c55_11), if_pos c76_19]; try simp)).symm) ⟨(bI_0 (by rw [rcF, if_neg c17_1, if_pos (Or.inr c55_11), if_pos c76_19]; try simp)).symm, rfl⟩ dX4_readCommand_80
  · skip
    refine lv_iconst (v := 0) hx hb dX4_readCommand_20 (by decide) ?_
    have hP : va_P D vwCl [(so, .inr (4, [.ref tx, .int (nI (n)), .int (nI ((rcF t n q ky nu).1.2)), .int (bl), .int (lf), .int ((rcF t n q ky nu).2.1), .int ((rcF t n q ky nu).2.2.1), .int ((rcF t n q ky nu).2.2.2)])), (tx, .inl (cI, 90, .inl t))] H := by
      rw [show ((rcF t n q ky nu).2.2.2 : Int32) = nu from by rw [rcF, if_pos c17_1]]
      rw [show ((rcF t n q ky nu).2.2.1 : Int32) = ky from by rw [rcF, if_pos c17_1]]
      rw [show ((rcF t n q ky nu).2.1 : Int32) = coF (crV t n q) from by rw [rcF, if_pos c17_1]; exact c17_1.symm]
      rw [show (nI ((rcF t n q ky nu).1.2) : Int32) = nI (q) from by rw [rcF, if_pos c17_1]]
      exact hP
    exact gp_retz hX hr hlocks hS hP (P := (rcF t n q ky nu).1.1 = true) ((bI_0 (by rw [rcF, if_pos c17_1]; try simp)).symm) ⟨(bI_0 (by rw [rcF, if_pos c17_1]; try simp)).symm, rfl⟩ dX4_readCommand_21
theorem dX4_firstError_0 : decode cX4_firstError 0 = .ok (.aload_n 0, 1) := by decide +kernel
theorem dX4_firstError_1 : decode cX4_firstError 1 = .ok (.invokevirtual 19, 3) := by decide +kernel
theorem dX4_firstError_4 : decode cX4_firstError 4 = .ok (.istore_n 1, 1) := by decide +kernel
theorem dX4_firstError_5 : decode cX4_firstError 5 = .ok (.iconst 0, 1) := by decide +kernel
theorem dX4_firstError_6 : decode cX4_firstError 6 = .ok (.istore_n 2, 1) := by decide +kernel
theorem dX4_firstError_7 : decode cX4_firstError 7 = .ok (.iload_n 2, 1) := by decide +kernel
theorem dX4_firstError_8 : decode cX4_firstError 8 = .ok (.bipush 90, 2) := by decide +kernel
theorem dX4_firstError_10 : decode cX4_firstError 10 = .ok (.if_icmp .ge 25, 3) := by decide +kernel
theorem dX4_firstError_13 : decode cX4_firstError 13 = .ok (.iload_n 1, 1) := by decide +kernel
theorem dX4_firstError_14 : decode cX4_firstError 14 = .ok (.ifCond .eq 21, 3) := by decide +kernel
theorem dX4_firstError_17 : decode cX4_firstError 17 = .ok (.aload_n 0, 1) := by decide +kernel
theorem dX4_firstError_18 : decode cX4_firstError 18 = .ok (.invokevirtual 23, 3) := by decide +kernel
theorem dX4_firstError_21 : decode cX4_firstError 21 = .ok (.ifCond .eq 14, 3) := by decide +kernel
theorem dX4_firstError_24 : decode cX4_firstError 24 = .ok (.aload_n 0, 1) := by decide +kernel
theorem dX4_firstError_25 : decode cX4_firstError 25 = .ok (.invokevirtual 26, 3) := by decide +kernel
theorem dX4_firstError_28 : decode cX4_firstError 28 = .ok (.istore_n 1, 1) := by decide +kernel
theorem dX4_firstError_29 : decode cX4_firstError 29 = .ok (.iinc 2 1, 3) := by decide +kernel
theorem dX4_firstError_32 : decode cX4_firstError 32 = .ok (.goto (-25), 3) := by decide +kernel
theorem dX4_firstError_35 : decode cX4_firstError 35 = .ok (.iload_n 1, 1) := by decide +kernel
theorem dX4_firstError_36 : decode cX4_firstError 36 = .ok (.ifCond .eq 8, 3) := by decide +kernel
theorem dX4_firstError_39 : decode cX4_firstError 39 = .ok (.bipush (-9), 2) := by decide +kernel
theorem dX4_firstError_41 : decode cX4_firstError 41 = .ok (.goto 7, 3) := by decide +kernel
theorem dX4_firstError_44 : decode cX4_firstError 44 = .ok (.aload_n 0, 1) := by decide +kernel
theorem dX4_firstError_45 : decode cX4_firstError 45 = .ok (.getfield 29, 3) := by decide +kernel
theorem dX4_firstError_48 : decode cX4_firstError 48 = .ok (.ireturn, 1) := by decide +kernel
theorem q4_firstError : CQ W6 yX4_firstError cX4_firstError 3 (some .int) 0 := ⟨(m6 291 rfl), by decide, by decide, by decide +kernel⟩
set_option maxHeartbeats 4000000 in
set_option maxRecDepth 100000 in
theorem c4_firstError (l : Launch) (D : va_G) (cI : ClassId) (so tx : Nat) (t : Nat → Int32) (n : Nat) (hn : n ≤ 90) (q : Nat) (hq : q ≤ 90) (bl lf cm ky nu : Int32)  : GQi l yX4_firstError cX4_firstError 3 .int W6 3 68 D [(so, .inr (4, [.ref tx, .int (nI (n)), .int (nI (q)), .int (bl), .int (lf), .int (cm), .int (ky), .int (nu)])), (tx, .inl (cI, 90, .inl t))] [(cI, .int)] [.ref so] (fun (r9 : Int32) (u9 : va_W) => r9 = (feV (feR t n)) ∧ ∃ bl9 : Int32, ∃ lf9 : Int32, ∃ cm9 : Int32, ∃ ky9 : Int32, ∃ nu9 : Int32, u9 = [(so, .inr (4, [.ref tx, .int (nI (n)), .int (nI ((feR t n).2)), .int (bl9), .int (lf9), .int (cm9), .int (ky9), .int (nu9)])), (tx, .inl (cI, 90, .inl t))]) := by
  refine gq_of RX4 (by decide) rfl (Nat.le_of_ble_eq_true rfl) ?_
  intro p e s m below meth c ls H hX hr hlocks hK hN hP hD hS hl
  generalize gp_A [(so, .inr (4, [.ref tx, .int (nI (n)), .int (nI (q)), .int (bl), .int (lf), .int (cm), .int (ky), .int (nu)])), (tx, .inl (cI, 90, .inl t))] = A at hD hS ⊢
  have hx := hX.1
  have hb := hX.2.1
  have hown := hX.2.2.2.1
  have hts := hX.2.2.2.2
  have hl : lv_has ls 3 [(0, .ref so)] := hl
  refine lv_aload_n hx hb dX4_firstError_0 rfl (lv_at hl 0 rfl) ?_
  refine gp_backi (gq_runV hX good6 (m6 221 rfl) (c4_readChip l D cI so tx t n hn q (by omega) bl lf cm ky nu ) q4_readChip rfl (m6 235 rfl) (m6 236 rfl) (m6 237 rfl) ⟨Nat.le_of_ble_eq_true rfl, Nat.le_of_ble_eq_true rfl⟩ hK hN [0] rfl hP hD [0, 1] (by decide) rfl (ci := 4) (q0 := 0) rfl rfl rfl hl.1 rfl (Nat.le_of_ble_eq_true rfl) dX4_firstError_1 ⟨Nat.zero_le _, Nat.zero_le _⟩) hP hD hS [0, 1] rfl (fun r u h => by rw [h.2]; simp only [List.map_cons, List.map_nil]) (fun r9 u H locs hpost hP hD hS => ?_)
  obtain ⟨hr9, rfl⟩ := hpost
  refine lv_as hr9 ?_
  have hP : va_P D vwCl [(so, .inr (4, [.ref tx, .int (nI (n)), .int (nI ((rch t n bl lf).1.2)), .int ((rch t n bl lf).2.1), .int ((rch t n bl lf).2.2), .int (cm), .int (ky), .int (nu)])), (tx, .inl (cI, 90, .inl t))] H := hP
  have hD : va_D A [(so, .inr (4, [.ref tx, .int (nI (n)), .int (nI ((rch t n bl lf).1.2)), .int ((rch t n bl lf).2.1), .int ((rch t n bl lf).2.2), .int (cm), .int (ky), .int (nu)])), (tx, .inl (cI, 90, .inl t))] := hD
  refine lv_istore_n (lv' := [(1, .int (bI ((rch t n bl lf).1.1 = true))), (0, .ref so)]) hx hb dX4_firstError_4 rfl hl (by decide) rfl (fun ls hl => ?_)
  refine lv_iconst (v := 0) hx hb dX4_firstError_5 (by decide) ?_
  refine lv_istore_n (lv' := [(2, .int (0)), (1, .int (bI ((rch t n bl lf).1.1 = true))), (0, .ref so)]) hx hb dX4_firstError_6 rfl hl (by decide) rfl (fun ls hl => ?_)
  have LP7 : ∀ n9 : Nat, ∀ (i9 : Nat) (fs9 : Bool × Nat) (bl8 : Int32) (lf8 : Int32) (cm8 : Int32) (ky8 : Int32) (nu8 : Int32), (hi : i9 ≤ 90) → (hq8 : fs9.2 ≤ n) → (hs8 : feL t n (90 - i9) fs9 = feR t n) → 90 - i9 < n9 → ∀ (H : Heap) (locs : List Loc), va_P D vwCl [(so, .inr (4, [.ref tx, .int (nI (n)), .int (nI (fs9.2)), .int (bl8), .int (lf8), .int (cm8), .int (ky8), .int (nu8)])), (tx, .inl (cI, 90, .inl t))] H → va_D A [(so, .inr (4, [.ref tx, .int (nI (n)), .int (nI (fs9.2)), .int (bl8), .int (lf8), .int (cm8), .int (ky8), .int (nu8)])), (tx, .inl (cI, 90, .inl t))] → va_S A s.heap H locs → ∀ ls : Array Slot, lv_has ls 3 [(0, .ref so), (1, .int (bI (fs9.1 = true))), (2, .int (nI (i9)))] → W p l e ({ frames := 3, cells := 0, slots := 0, locals := 68 } : Room) s m ([.ref so] : List Value).toArray below meth c H locs 0 0 (MQ below (va_Qi (fun (r9 : Int32) (u9 : va_W) => r9 = (feV (feR t n)) ∧ ∃ bl9 : Int32, ∃ lf9 : Int32, ∃ cm9 : Int32, ∃ ky9 : Int32, ∃ nu9 : Int32, u9 = [(so, .inr (4, [.ref tx, .int (nI (n)), .int (nI ((feR t n).2)), .int (bl9), .int (lf9), .int (cm9), .int (ky9), .int (nu9)])), (tx, .inl (cI, 90, .inl t))]) (fun u t => va_P D vwCl u t.heap) A) ([.ref so] : List Value).toArray s 0 0 A) (F0 m 7 ls []) := by
    intro n9
    induction n9 with
    | zero => intros; omega
    | succ n9 ih7 =>
      intro i9 fs9 bl8 lf8 cm8 ky8 nu8 hi hq8 hs8 hm9 H locs hP hD hS ls hl
      refine lv_iload_n hx hb dX4_firstError_7 rfl (lv_at hl 2 rfl) ?_
      refine lv_bipush (v := 90) hx hb dX4_firstError_8 (by decide) ?_
      refine lv_icmp_ge (tgt := 35) hx hb dX4_firstError_10 (by decide) (fun c10_1 => ?_) (fun c10_1 => ?_)
      · skip
        have c10_1 := cn_le (a := 90) (b := i9) (by omega) (by omega) c10_1
        rw [show 90 - i9 = 0 by omega, feL] at hs8
        refine lv_iload_n hx hb dX4_firstError_35 rfl (lv_at hl 1 rfl) ?_
        refine lv_if_eq (tgt := 44) hx hb dX4_firstError_36 (by decide) (fun c36_2 => ?_) (fun c36_2 => ?_)
        · skip
          have c36_2 := bI_f c36_2
          refine lv_aload_n hx hb dX4_firstError_44 rfl (lv_at hl 0 rfl) ?_
          refine va_get (D := D) (ci := 4) (v := .int (nI (fs9.2))) (C := RX4) (T := TX4) (N := 8) hx hb hts u6_X4 hown hK hP 0 rfl rfl 2 (by decide) (hts _ (m6 217 rfl)) (fun _ h9 => h9) rfl dX4_firstError_45 ?_
          have hP : va_P D vwCl [(so, .inr (4, [.ref tx, .int (nI (n)), .int (nI ((feR t n).2)), .int (bl8), .int (lf8), .int (cm8), .int (ky8), .int (nu8)])), (tx, .inl (cI, 90, .inl t))] H := by
            rw [show (nI ((feR t n).2) : Int32) = nI (fs9.2) from by rw [← hs8]]
            exact hP
          exact gp_reti hX hr hlocks hS hP ⟨by rw [← hs8, feV, if_neg c36_2], _, _, _, _, _, rfl⟩ dX4_firstError_48
        · skip
          have c36_2 := bI_t c36_2
          refine lv_bipush (v := (-9)) hx hb dX4_firstError_39 (by decide) ?_
          refine lv_goto (tgt := 48) hx hb dX4_firstError_41 (by decide) ?_
          have hP : va_P D vwCl [(so, .inr (4, [.ref tx, .int (nI (n)), .int (nI ((feR t n).2)), .int (bl8), .int (lf8), .int (cm8), .int (ky8), .int (nu8)])), (tx, .inl (cI, 90, .inl t))] H := by
            rw [show (nI ((feR t n).2) : Int32) = nI (fs9.2) from by rw [← hs8]]
            exact hP
          exact gp_reti hX hr hlocks hS hP ⟨by rw [← hs8, feV, if_pos c36_2], _, _, _, _, _, rfl⟩ dX4_firstError_48
      · skip
        have c10_1 := cn_nle (a := 90) (b := i9) (by omega) (by omega) c10_1
        have hm : 90 - i9 = (89 - i9) + 1 := by omega
        have hm3 : 89 - i9 = 90 - (i9 + 1) := by omega
        refine lv_iload_n hx hb dX4_firstError_13 rfl (lv_at hl 1 rfl) ?_
        refine lv_if_eq (tgt := 35) hx hb dX4_firstError_14 (by decide) (fun c14_3 => ?_) (fun c14_3 => ?_)
        · skip
          have c14_3 := bI_f c14_3
          rw [show 90 - i9 = (89 - i9) + 1 by omega, feL, if_neg (fun z => c14_3 z.1)] at hs8
          refine lv_iload_n hx hb dX4_firstError_35 rfl (lv_at hl 1 rfl) ?_
          refine lv_if_eq (tgt := 44) hx hb dX4_firstError_36 (by decide) (fun c36_4 => ?_) (fun c36_4 => ?_)
          · skip
            have c36_4 := bI_f c36_4
            refine lv_aload_n hx hb dX4_firstError_44 rfl (lv_at hl 0 rfl) ?_
            refine va_get (D := D) (ci := 4) (v := .int (nI (fs9.2))) (C := RX4) (T := TX4) (N := 8) hx hb hts u6_X4 hown hK hP 0 rfl rfl 2 (by decide) (hts _ (m6 217 rfl)) (fun _ h9 => h9) rfl dX4_firstError_45 ?_
            have hP : va_P D vwCl [(so, .inr (4, [.ref tx, .int (nI (n)), .int (nI ((feR t n).2)), .int (bl8), .int (lf8), .int (cm8), .int (ky8), .int (nu8)])), (tx, .inl (cI, 90, .inl t))] H := by
              rw [show (nI ((feR t n).2) : Int32) = nI (fs9.2) from by rw [← hs8]]
              exact hP
            exact gp_reti hX hr hlocks hS hP ⟨by rw [← hs8, feV, if_neg c36_4], _, _, _, _, _, rfl⟩ dX4_firstError_48
          · skip
            have c36_4 := bI_t c36_4
            exact absurd c36_4 c14_3
        · skip
          have c14_3 := bI_t c14_3
          refine lv_aload_n hx hb dX4_firstError_17 rfl (lv_at hl 0 rfl) ?_
          refine rq_callV hX good6 (m6 221 rfl) (c4_hasMore l D cI so tx t n hn fs9.2 (by omega) bl8 lf8 cm8 ky8 nu8 ) q4_hasMore rfl (m6 239 rfl) (m6 240 rfl) (m6 241 rfl) ⟨Nat.le_of_ble_eq_true rfl, Nat.le_of_ble_eq_true rfl⟩ hK hN [0] rfl hP [0, 1] rfl (ci := 4) (q0 := 0) rfl rfl rfl hS hl.1 rfl (Nat.le_of_ble_eq_true rfl) dX4_firstError_18 ⟨Nat.zero_le _, Nat.zero_le _⟩ (fun H locs hP hS => ?_)
          refine lv_if_eq (tgt := 35) hx hb dX4_firstError_21 (by decide) (fun c21_5 => ?_) (fun c21_5 => ?_)
          · skip
            have c21_5 := bI_f c21_5
            rw [hm, feL, if_neg (fun z => c21_5 z.2)] at hs8
            refine lv_iload_n hx hb dX4_firstError_35 rfl (lv_at hl 1 rfl) ?_
            refine lv_if_eq (tgt := 44) hx hb dX4_firstError_36 (by decide) (fun c36_6 => ?_) (fun c36_6 => ?_)
            · skip
              have c36_6 := bI_f c36_6
              exact absurd c14_3 c36_6
            · skip
              have c36_6 := bI_t c36_6
              refine lv_bipush (v := (-9)) hx hb dX4_firstError_39 (by decide) ?_
              refine lv_goto (tgt := 48) hx hb dX4_firstError_41 (by decide) ?_
              have hP : va_P D vwCl [(so, .inr (4, [.ref tx, .int (nI (n)), .int (nI ((feR t n).2)), .int (bl8), .int (lf8), .int (cm8), .int (ky8), .int (nu8)])), (tx, .inl (cI, 90, .inl t))] H := by
                rw [show (nI ((feR t n).2) : Int32) = nI (fs9.2) from by rw [← hs8]]
                exact hP
              exact gp_reti hX hr hlocks hS hP ⟨by rw [← hs8, feV, if_pos c36_6], _, _, _, _, _, rfl⟩ dX4_firstError_48
          · skip
            have c21_5 := bI_t c21_5
            refine lv_aload_n hx hb dX4_firstError_24 rfl (lv_at hl 0 rfl) ?_
            refine gp_backi (gq_runV hX good6 (m6 221 rfl) (c4_readCommand l D cI so tx t n hn fs9.2 (by omega) bl8 lf8 cm8 ky8 nu8 ) q4_readCommand rfl (m6 243 rfl) (m6 244 rfl) (m6 245 rfl) ⟨Nat.le_of_ble_eq_true rfl, Nat.le_of_ble_eq_true rfl⟩ hK hN [0] rfl hP hD [0, 1] (by decide) rfl (ci := 4) (q0 := 0) rfl rfl rfl hl.1 rfl (Nat.le_of_ble_eq_true rfl) dX4_firstError_25 ⟨Nat.zero_le _, Nat.zero_le _⟩) hP hD hS [0, 1] rfl (fun r u h => by rw [h.2]; simp only [List.map_cons, List.map_nil]) (fun r9 u H locs hpost hP hD hS => ?_)
            obtain ⟨hr9, rfl⟩ := hpost
            refine lv_as hr9 ?_
            have hP : va_P D vwCl [(so, .inr (4, [.ref tx, .int (nI (n)), .int (nI ((rcF t n fs9.2 ky8 nu8).1.2)), .int (bl8), .int (lf8), .int ((rcF t n fs9.2 ky8 nu8).2.1), .int ((rcF t n fs9.2 ky8 nu8).2.2.1), .int ((rcF t n fs9.2 ky8 nu8).2.2.2)])), (tx, .inl (cI, 90, .inl t))] H := hP
            have hD : va_D A [(so, .inr (4, [.ref tx, .int (nI (n)), .int (nI ((rcF t n fs9.2 ky8 nu8).1.2)), .int (bl8), .int (lf8), .int ((rcF t n fs9.2 ky8 nu8).2.1), .int ((rcF t n fs9.2 ky8 nu8).2.2.1), .int ((rcF t n fs9.2 ky8 nu8).2.2.2)])), (tx, .inl (cI, 90, .inl t))] := hD
            refine lv_istore_n (lv' := [(1, .int (bI ((rcF t n fs9.2 ky8 nu8).1.1 = true))), (0, .ref so), (2, .int (nI (i9)))]) hx hb dX4_firstError_28 rfl hl (by decide) rfl (fun ls hl => ?_)
            refine lv_iinc (v := nI (i9 + 1)) (lv' := [(2, .int (nI (i9 + 1))), (1, .int (bI ((rcF t n fs9.2 ky8 nu8).1.1 = true))), (0, .ref so)]) hx hb dX4_firstError_29 hl (k := 2) rfl (nI_add _ 1) (by decide) rfl (fun ls hl => ?_)
            refine lv_goto (tgt := 7) hx hb dX4_firstError_32 (by decide) ?_
            have hl : lv_has ls 3 [(2, .int (nI (i9 + 1))), (1, .int (bI (((rcF t n fs9.2 ky8 nu8).1).1 = true))), (0, .ref so)] := lv_re hl 1 rfl (show (bI ((rcF t n fs9.2 ky8 nu8).1.1 = true)) = bI (((rcF t n fs9.2 ky8 nu8).1).1 = true) from rfl)
            have hl : lv_has ls 3 [(2, .int (nI ((i9 + 1)))), (1, .int (bI (((rcF t n fs9.2 ky8 nu8).1).1 = true))), (0, .ref so)] := lv_re hl 0 rfl (show (nI (i9 + 1)) = nI ((i9 + 1)) from rfl)
            have hP : va_P D vwCl [(so, .inr (4, [.ref tx, .int (nI (n)), .int (nI (((rcF t n fs9.2 ky8 nu8).1).2)), .int (bl8), .int (lf8), .int (((rcF t n fs9.2 ky8 nu8).2.1)), .int (((rcF t n fs9.2 ky8 nu8).2.2.1)), .int (((rcF t n fs9.2 ky8 nu8).2.2.2))])), (tx, .inl (cI, 90, .inl t))] H := by
              exact hP
            have hD : va_D A [(so, .inr (4, [.ref tx, .int (nI (n)), .int (nI (((rcF t n fs9.2 ky8 nu8).1).2)), .int (bl8), .int (lf8), .int (((rcF t n fs9.2 ky8 nu8).2.1)), .int (((rcF t n fs9.2 ky8 nu8).2.2.1)), .int (((rcF t n fs9.2 ky8 nu8).2.2.2))])), (tx, .inl (cI, 90, .inl t))] := gp_D hD (by simp only [List.map_cons, List.map_nil])
            have hP : va_P D vwCl [(so, .inr (4, [.ref tx, .int (nI (n)), .int (nI (((rcF t n fs9.2 ky8 nu8).1).2)), .int (bl8), .int (lf8), .int (((rcF t n fs9.2 ky8 nu8).2.1)), .int (((rcF t n fs9.2 ky8 nu8).2.2.1)), .int (((rcF t n fs9.2 ky8 nu8).2.2.2))])), (tx, .inl (cI, 90, .inl t))] H := hP
            have hD : va_D A [(so, .inr (4, [.ref tx, .int (nI (n)), .int (nI (((rcF t n fs9.2 ky8 nu8).1).2)), .int (bl8), .int (lf8), .int (((rcF t n fs9.2 ky8 nu8).2.1)), .int (((rcF t n fs9.2 ky8 nu8).2.2.1)), .int (((rcF t n fs9.2 ky8 nu8).2.2.2))])), (tx, .inl (cI, 90, .inl t))] := hD
            exact ih7 (i9 + 1) ((rcF t n fs9.2 ky8 nu8).1) bl8 lf8 ((rcF t n fs9.2 ky8 nu8).2.1) ((rcF t n fs9.2 ky8 nu8).2.2.1) ((rcF t n fs9.2 ky8 nu8).2.2.2) (by omega) (rcF_le hq8) (by rw [rcF_1 (ky2 := 0) (nu2 := 0)]; rw [hm, feL, if_pos ⟨c14_3, c21_5⟩, hm3] at hs8; exact hs8) (by omega) _ _ hP hD hS _ (lv_sub hl [2, 1, 0] rfl)
  have hl : lv_has ls 3 [(2, .int (0)), (1, .int (bI (((rch t n bl lf).1).1 = true))), (0, .ref so)] := lv_re hl 1 rfl (show (bI ((rch t n bl lf).1.1 = true)) = bI (((rch t n bl lf).1).1 = true) from rfl)
  have hl : lv_has ls 3 [(2, .int (nI (0))), (1, .int (bI (((rch t n bl lf).1).1 = true))), (0, .ref so)] := lv_re hl 0 rfl (show 0 = nI (0) from rfl)
  have hP : va_P D vwCl [(so, .inr (4, [.ref tx, .int (nI (n)), .int (nI (((rch t n bl lf).1).2)), .int (((rch t n bl lf).2.1)), .int (((rch t n bl lf).2.2)), .int (cm), .int (ky), .int (nu)])), (tx, .inl (cI, 90, .inl t))] H := by
    exact hP
  have hD : va_D A [(so, .inr (4, [.ref tx, .int (nI (n)), .int (nI (((rch t n bl lf).1).2)), .int (((rch t n bl lf).2.1)), .int (((rch t n bl lf).2.2)), .int (cm), .int (ky), .int (nu)])), (tx, .inl (cI, 90, .inl t))] := gp_D hD (by simp only [List.map_cons, List.map_nil])
  have hP : va_P D vwCl [(so, .inr (4, [.ref tx, .int (nI (n)), .int (nI (((rch t n bl lf).1).2)), .int (((rch t n bl lf).2.1)), .int (((rch t n bl lf).2.2)), .int (cm), .int (ky), .int (nu)])), (tx, .inl (cI, 90, .inl t))] H := hP
  have hD : va_D A [(so, .inr (4, [.ref tx, .int (nI (n)), .int (nI (((rch t n bl lf).1).2)), .int (((rch t n bl lf).2.1)), .int (((rch t n bl lf).2.2)), .int (cm), .int (ky), .int (nu)])), (tx, .inl (cI, 90, .inl t))] := hD
  exact LP7 ((90 - 0) + 1) 0 ((rch t n bl lf).1) ((rch t n bl lf).2.1) ((rch t n bl lf).2.2) cm ky nu (by omega) (rch_le) (by rw [feR, rch_1 (bl2 := 0) (lf2 := 0)]) (by omega) _ _ hP hD hS _ (lv_sub hl [2, 1, 0] rfl)
theorem dX4_init_0 : decode cX4_init 0 = .ok (.aload_n 0, 1) := by decide +kernel
theorem dX4_init_1 : decode cX4_init 1 = .ok (.invokespecial 3, 3) := by decide +kernel
theorem dX4_init_4 : decode cX4_init 4 = .ok (.aload_n 0, 1) := by decide +kernel
theorem dX4_init_5 : decode cX4_init 5 = .ok (.bipush 90, 2) := by decide +kernel
theorem dX4_init_7 : decode cX4_init 7 = .ok (.newarray .int, 2) := by decide +kernel
theorem dX4_init_9 : decode cX4_init 9 = .ok (.putfield 11, 3) := by decide +kernel
theorem dX4_init_12 : decode cX4_init 12 = .ok (.return_, 1) := by decide +kernel
theorem q4_init : CQ W6 yX4_init cX4_init 1 none 0 := ⟨(m6 264 rfl), by decide, by decide, by decide +kernel⟩
set_option maxHeartbeats 4000000 in
set_option maxRecDepth 100000 in
theorem c4_init (l : Launch) (D : va_G) (cI : ClassId) (so sz : Nat)  : GM l yX4_init cX4_init 1 W6 1 12 1 90 D [(so, .inr (4, [.null, .int (0), .int (0), .int (0), .int (0), .int (0), .int (0), .int (0)]))] [(cI, .int)] [.ref so] sz (fun u9 : va_W => ∃ tx : Nat, u9 = [(so, .inr (4, [.ref tx, .int (0), .int (0), .int (0), .int (0), .int (0), .int (0), .int (0)])), (tx, .inl (cI, 90, .inl (fun _ => 0)))]) := by
  refine gm_of RX4 (by decide) rfl (Nat.le_of_ble_eq_true rfl) ?_
  intro p e s m below meth c ls H A hX hr hlocks hname hK hN hP hD hS hA hl
  have hx := hX.1
  have hb := hX.2.1
  have hown := hX.2.2.2.1
  have hts := hX.2.2.2.2
  have hl : lv_has ls 1 [(0, .ref so)] := hl
  refine lv_aload_n hx hb dX4_init_0 rfl (lv_at hl 0 rfl) ?_
  refine gn_obj hX (m6 214 rfl) (m6 1 rfl) (m6 2 rfl) hl.1 dX4_init_1 (Nat.le_of_ble_eq_true rfl) (Nat.le_of_ble_eq_true rfl) ?_
  refine lv_aload_n hx hb dX4_init_4 rfl (lv_at hl 0 rfl) ?_
  refine lv_bipush (v := 90) hx hb dX4_init_5 (by decide) ?_
  refine ra_newi (n := 90) hX (m6 3 rfl) hK 0 rfl hP hD hS hA (by decide) (Nat.le_of_ble_eq_true rfl) (Nat.le_of_ble_eq_true rfl) dX4_init_7 (fun q7 H hP hD hS => ?_)
  have hP : va_P D vwCl [(so, .inr (4, [.null, .int (0), .int (0), .int (0), .int (0), .int (0), .int (0), .int (0)])), (q7, .inl (cI, 90, .inl (fun _ => 0)))] H := hP
  have hD : va_D A [(so, .inr (4, [.null, .int (0), .int (0), .int (0), .int (0), .int (0), .int (0), .int (0)])), (q7, .inl (cI, 90, .inl (fun _ => 0)))] := hD
  refine va_putF (D := D) (ci := 4) (v := .ref q7) (ty := (.array .int)) (C := RX4) (T := TX4) (N := 8) hx hb hts u6_X4 tyX4 tyX4_ok nmX4 hown hK hP hD hS 0 rfl rfl 0 (by decide) (hts _ (m6 215 rfl)) (fun _ h9 => h9) rfl hname rfl (by decide +kernel) rfl rfl (Nat.le_of_ble_eq_true rfl) dX4_init_9 (fun H locs hP hD hS => ?_)
  have hP : va_P D vwCl [(so, .inr (4, [.ref q7, .int (0), .int (0), .int (0), .int (0), .int (0), .int (0), .int (0)])), (q7, .inl (cI, 90, .inl (fun _ => 0)))] H := hP
  have hD : va_D A [(so, .inr (4, [.ref q7, .int (0), .int (0), .int (0), .int (0), .int (0), .int (0), .int (0)])), (q7, .inl (cI, 90, .inl (fun _ => 0)))] := hD
  exact gn_ret hX hr hlocks hS hP hD ⟨_, rfl⟩ (Nat.le_of_ble_eq_true rfl) (Nat.le_of_ble_eq_true rfl) dX4_init_12
