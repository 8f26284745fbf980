theorem dX6_put_0 : decode cX6_put 0 = .ok (.iload_n 1, 1) := by decide +kernel
theorem dX6_put_1 : decode cX6_put 1 = .ok (.invokestatic 153, 3) := by decide +kernel
theorem dX6_put_4 : decode cX6_put 4 = .ok (.ifCond .eq 10, 3) := by decide +kernel
theorem dX6_put_7 : decode cX6_put 7 = .ok (.iload_n 2, 1) := by decide +kernel
theorem dX6_put_8 : decode cX6_put 8 = .ok (.invokestatic 177, 3) := by decide +kernel
theorem dX6_put_11 : decode cX6_put 11 = .ok (.ifCond .ne 13, 3) := by decide +kernel
theorem dX6_put_14 : decode cX6_put 14 = .ok (.new 43, 3) := by decide +kernel
theorem dX6_put_17 : decode cX6_put 17 = .ok (.dup, 1) := by decide +kernel
theorem dX6_put_18 : decode cX6_put 18 = .ok (.ldc 180, 2) := by decide +kernel
theorem dX6_put_20 : decode cX6_put 20 = .ok (.invokespecial 47, 3) := by decide +kernel
theorem dX6_put_23 : decode cX6_put 23 = .ok (.athrow, 1) := by decide +kernel
theorem dX6_put_24 : decode cX6_put 24 = .ok (.aload_n 0, 1) := by decide +kernel
theorem dX6_put_25 : decode cX6_put 25 = .ok (.aload_n 0, 1) := by decide +kernel
theorem dX6_put_26 : decode cX6_put 26 = .ok (.getfield 33, 3) := by decide +kernel
theorem dX6_put_29 : decode cX6_put 29 = .ok (.invokevirtual 182, 3) := by decide +kernel
theorem dX6_put_32 : decode cX6_put 32 = .ok (.ifCond .ne 13, 3) := by decide +kernel
theorem dX6_put_35 : decode cX6_put 35 = .ok (.new 54, 3) := by decide +kernel
theorem dX6_put_38 : decode cX6_put 38 = .ok (.dup, 1) := by decide +kernel
theorem dX6_put_39 : decode cX6_put 39 = .ok (.ldc 186, 2) := by decide +kernel
theorem dX6_put_41 : decode cX6_put 41 = .ok (.invokespecial 58, 3) := by decide +kernel
theorem dX6_put_44 : decode cX6_put 44 = .ok (.athrow, 1) := by decide +kernel
theorem dX6_put_45 : decode cX6_put 45 = .ok (.aload_n 0, 1) := by decide +kernel
theorem dX6_put_46 : decode cX6_put 46 = .ok (.getfield 19, 3) := by decide +kernel
theorem dX6_put_49 : decode cX6_put 49 = .ok (.aload_n 0, 1) := by decide +kernel
theorem dX6_put_50 : decode cX6_put 50 = .ok (.getfield 33, 3) := by decide +kernel
theorem dX6_put_53 : decode cX6_put 53 = .ok (.invokevirtual 188, 3) := by decide +kernel
theorem dX6_put_56 : decode cX6_put 56 = .ok (.aload_n 0, 1) := by decide +kernel
theorem dX6_put_57 : decode cX6_put 57 = .ok (.getfield 33, 3) := by decide +kernel
theorem dX6_put_60 : decode cX6_put 60 = .ok (.iload_n 1, 1) := by decide +kernel
theorem dX6_put_61 : decode cX6_put 61 = .ok (.iload_n 2, 1) := by decide +kernel
theorem dX6_put_62 : decode cX6_put 62 = .ok (.invokevirtual 192, 3) := by decide +kernel
theorem dX6_put_65 : decode cX6_put 65 = .ok (.ireturn, 1) := by decide +kernel
set_option maxHeartbeats 4000000 in
set_option maxRecDepth 100000 in
theorem c6_put (l : Launch) (hst : l.stackTraces = false)  (D : va_G) (cI cL : ClassId) (ob so ho sl : Nat) (dg dc dt : Nat → Nat) (z : LgS) (hz : Inv z) (zt : LgS) (hBt : zt.1.2 ≤ 8) (sa : Nat) (sf : Nat → Option Nat) (nx ct : Nat) (hnx : nx < 14) (hct : ct ≤ 14) (dh : Nat → Nat) (zh : LgS) (hBh : zh.1.2 ≤ 8) (hsf : sf nx = some (dh 0)) (x v : Int32) : GE l yX6_put cX6_put 3 6 144 D [[(ob, .inr (6, [.ref so, .ref ho, .ref sl, .ref (dg 0), .ref (dc 0), .ref (dt 0)]))], zL cI dg z, zL cI dt zt, [(ho, .inr (1, [.ref sa, .int (nI (nx)), .int (nI (ct))]))], [(sa, .inl (cL, 14, .inr (.inr (.inr (.inr sf)))))], zL cI dh zh] [(cI, .int), (cL, (.object "TornPageLog$Log"))] [.ref ob, .int (x), .int (v)] (fun (r9 : Int32) (u9 : List va_W) => (c6put z x v) = 0 ∧ r9 = ((stT x.toNatClampNeg v z).1) ∧ ∃ zt9 : LgS, (zt9.1.2 ≤ 8) ∧ u9 = [[(ob, .inr (6, [.ref so, .ref ho, .ref sl, .ref (dg 0), .ref (dc 0), .ref (dt 0)]))], zL cI dg ((stT x.toNatClampNeg v z).2), zL cI dt zt9, [(ho, .inr (1, [.ref sa, .int (nI ((nx + 1) % 14)), .int (nI (if 14 < ct + 1 then 14 else ct + 1))]))], [(sa, .inl (cL, 14, .inr (.inr (.inr (.inr sf)))))], zL cI dh z]) (fun (e9 : String) (u9 : List va_W) => ((e9 = xIA ∧ (c6put z x v) = 1) ∨ (e9 = xIS ∧ (c6put z x v) = 2)) ∧ ∃ zt9 : LgS, (zt9.1.2 ≤ 8) ∧ u9 = [[(ob, .inr (6, [.ref so, .ref ho, .ref sl, .ref (dg 0), .ref (dc 0), .ref (dt 0)]))], zL cI dg z, zL cI dt zt9, [(ho, .inr (1, [.ref sa, .int (nI (nx)), .int (nI (ct))]))], [(sa, .inl (cL, 14, .inr (.inr (.inr (.inr sf)))))], zL cI dh zh]) := by
  refine ge_of (by decide) rfl (Nat.le_of_ble_eq_true rfl) ?_
  intro p e s m below meth c ls H hX hEx hnt hr hlocks hK hN hE hSW hZ hP hD hS hl
  generalize gp_A (bw [[(ob, .inr (6, [.ref so, .ref ho, .ref sl, .ref (dg 0), .ref (dc 0), .ref (dt 0)]))], zL cI dg z, zL cI dt zt, [(ho, .inr (1, [.ref sa, .int (nI (nx)), .int (nI (ct))]))], [(sa, .inl (cL, 14, .inr (.inr (.inr (.inr sf)))))], zL cI dh zh]) = A at hZ hD hS ⊢
  have hx := hX.1
  have hb := hX.2.1
  have hown := hX.2.2.2.1
  have hts := hX.2.2.2.2
  have hl : lv_has ls 3 [(0, .ref ob), (1, .int (x)), (2, .int (v))] := hl
  refine lv_iload_n hx hb dX6_put_0 rfl (lv_at hl 1 rfl) ?_
  refine rq_callS hX good6 (m6 31 rfl) (c6_isKey l D x) q6_isKey rfl (m6 356 rfl) (m6 357 rfl) ⟨Nat.le_of_ble_eq_true rfl, Nat.le_of_ble_eq_true rfl⟩ hK hN [] rfl hP [] rfl hS hl.1 rfl (Nat.le_of_ble_eq_true rfl) dX6_put_1 ⟨Nat.zero_le _, Nat.zero_le _⟩ (fun H locs hP hS => ?_)
  refine lv_if_eq (tgt := 14) hx hb dX6_put_4 (by decide) (fun c4_1 => ?_) (fun c4_1 => ?_)
  · skip
    have c4_1 := bI_f c4_1
    exact ge_tia hst hX hEx hnt hlocks hE hSW hZ hS hP (m6 272 rfl) (m6 273 rfl) (show (180, _) ∈ xT from List.mem_of_getElem? (i := 12) rfl) ⟨Or.inl ⟨rfl, by rw [c6put, if_neg (fun y => c4_1 y.1)]⟩, _, hBt, rfl⟩ hl.1 dX6_put_14 dX6_put_17 dX6_put_18 dX6_put_20 dX6_put_23 (Nat.le_of_ble_eq_true rfl) (Nat.le_of_ble_eq_true rfl) (Nat.le_of_ble_eq_true rfl) (Nat.le_of_ble_eq_true rfl) (Nat.le_of_ble_eq_true rfl) (Nat.le_of_ble_eq_true rfl)
  · skip
    have c4_1 := bI_t c4_1
    refine lv_iload_n hx hb dX6_put_7 rfl (lv_at hl 2 rfl) ?_
    refine rq_callS hX good6 (m6 31 rfl) (c6_isValue l D v) q6_isValue rfl (m6 364 rfl) (m6 365 rfl) ⟨Nat.le_of_ble_eq_true rfl, Nat.le_of_ble_eq_true rfl⟩ hK hN [] rfl hP [] rfl hS hl.1 rfl (Nat.le_of_ble_eq_true rfl) dX6_put_8 ⟨Nat.zero_le _, Nat.zero_le _⟩ (fun H locs hP hS => ?_)
    refine lv_if_ne (tgt := 24) hx hb dX6_put_11 (by decide) (fun c11_2 => ?_) (fun c11_2 => ?_)
    · skip
      have c11_2 := bI_t c11_2
      refine lv_aload_n hx hb dX6_put_24 rfl (lv_at hl 0 rfl) ?_
      refine lv_aload_n hx hb dX6_put_25 rfl (lv_at hl 0 rfl) ?_
      refine va_get (D := D) (ci := 6) (v := .ref (dg 0)) (C := RX6) (T := TX6) (N := 6) hx hb hts u6_X6 hown hK hP 0 rfl rfl 3 (by decide) (hts _ (m6 260 rfl)) (fun _ h9 => h9) rfl dX6_put_26 ?_
      refine bq_backi (bq_runV hX good6 (m6 31 rfl) (c6_costOfRecord l D cI ob so ho sl dg dc dt zt hBt dg z hz) q6_costOfRecord rfl (m6 303 rfl) (m6 304 rfl) (m6 305 rfl) ⟨Nat.le_of_ble_eq_true rfl, Nat.le_of_ble_eq_true rfl⟩ hK hN [0] rfl hP hD [0, 2, 1] (by decide) rfl (ci := 6) (q0 := 0) rfl rfl rfl hl.1 rfl (Nat.le_of_ble_eq_true rfl) dX6_put_29 ⟨Nat.zero_le _, Nat.zero_le _⟩) hP hD hS [0, 2, 1] rfl (fun r u h => by obtain ⟨-, x3, hx4, rfl⟩ := h; rfl) (fun r9 u H locs hpost hP hD hS => ?_)
      obtain ⟨hr9, x3, hx4, rfl⟩ := hpost
      refine lv_as hr9 ?_
      have hP : va_P D vwCl (bw [[(ob, .inr (6, [.ref so, .ref ho, .ref sl, .ref (dg 0), .ref (dc 0), .ref (dt 0)]))], zL cI dg z, zL cI dt x3, [(ho, .inr (1, [.ref sa, .int (nI (nx)), .int (nI (ct))]))], [(sa, .inl (cL, 14, .inr (.inr (.inr (.inr sf)))))], zL cI dh zh]) H := hP
      have hD : va_D A (bw [[(ob, .inr (6, [.ref so, .ref ho, .ref sl, .ref (dg 0), .ref (dc 0), .ref (dt 0)]))], zL cI dg z, zL cI dt x3, [(ho, .inr (1, [.ref sa, .int (nI (nx)), .int (nI (ct))]))], [(sa, .inl (cL, 14, .inr (.inr (.inr (.inr sf)))))], zL cI dh zh]) := hD
      refine lv_if_ne (tgt := 45) hx hb dX6_put_32 (by decide) (fun c32_5 => ?_) (fun c32_5 => ?_)
      · skip
        refine lv_aload_n hx hb dX6_put_45 rfl (lv_at hl 0 rfl) ?_
        refine va_get (D := D) (ci := 6) (v := .ref ho) (C := RX6) (T := TX6) (N := 6) hx hb hts u6_X6 hown hK hP 0 rfl rfl 1 (by decide) (hts _ (m6 254 rfl)) (fun _ h9 => h9) rfl dX6_put_46 ?_
        refine lv_aload_n hx hb dX6_put_49 rfl (lv_at hl 0 rfl) ?_
        refine va_get (D := D) (ci := 6) (v := .ref (dg 0)) (C := RX6) (T := TX6) (N := 6) hx hb hts u6_X6 hown hK hP 0 rfl rfl 3 (by decide) (hts _ (m6 260 rfl)) (fun _ h9 => h9) rfl dX6_put_50 ?_
        refine bq_backv (bq_runV hX good6 (m6 253 rfl) (c1_remember l D cI cL ho sa sf nx ct hnx hct dh dg zh z hBh (inv_B hz) hsf) q1_remember rfl (m6 367 rfl) (m6 368 rfl) (m6 369 rfl) ⟨Nat.le_of_ble_eq_true rfl, Nat.le_of_ble_eq_true rfl⟩ hK hN [0, 1] rfl hP hD [3, 4, 5, 1] (by decide) rfl (ci := 1) (q0 := 0) rfl rfl rfl hl.1 rfl (Nat.le_of_ble_eq_true rfl) dX6_put_53 ⟨Nat.zero_le _, Nat.zero_le _⟩) hP hD hS [3, 4, 5, 1] rfl (fun u h => by rw [h]; rfl) (fun u H locs hpost hP hD hS => ?_)
        subst hpost
        have hP : va_P D vwCl (bw [[(ob, .inr (6, [.ref so, .ref ho, .ref sl, .ref (dg 0), .ref (dc 0), .ref (dt 0)]))], zL cI dg z, zL cI dt x3, [(ho, .inr (1, [.ref sa, .int (nI ((nx + 1) % 14)), .int (nI (if 14 < ct + 1 then 14 else ct + 1))]))], [(sa, .inl (cL, 14, .inr (.inr (.inr (.inr sf)))))], zL cI dh z]) H := hP
        have hD : va_D A (bw [[(ob, .inr (6, [.ref so, .ref ho, .ref sl, .ref (dg 0), .ref (dc 0), .ref (dt 0)]))], zL cI dg z, zL cI dt x3, [(ho, .inr (1, [.ref sa, .int (nI ((nx + 1) % 14)), .int (nI (if 14 < ct + 1 then 14 else ct + 1))]))], [(sa, .inl (cL, 14, .inr (.inr (.inr (.inr sf)))))], zL cI dh z]) := hD
        obtain ⟨en1, hn1⟩ := num_in (x := x) (j := 16) (by decide) c4_1
        have hl : lv_has ls 3 [(0, .ref ob), (1, .int (nI (x.toNatClampNeg))), (2, .int (v))] := lv_re hl 1 rfl en1
        refine lv_aload_n hx hb dX6_put_56 rfl (lv_at hl 0 rfl) ?_
        refine va_get (D := D) (ci := 6) (v := .ref (dg 0)) (C := RX6) (T := TX6) (N := 6) hx hb hts u6_X6 hown hK hP 0 rfl rfl 3 (by decide) (hts _ (m6 260 rfl)) (fun _ h9 => h9) rfl dX6_put_57 ?_
        refine lv_iload_n hx hb dX6_put_60 rfl (lv_at hl 1 rfl) ?_
        refine lv_iload_n hx hb dX6_put_61 rfl (lv_at hl 2 rfl) ?_
        have hs1 := inv_st (k := x.toNatClampNeg) (x := v) hz (cs_ne c32_5) hn1 (Or.inl (fun y => absurd (y ▸ c11_2.1) (by decide)))
        refine bq_backi (bq_runV hX good6 (m6 83 rfl) (b2_store l D cI dg z (inv_B hz) x.toNatClampNeg (by omega) v (stT x.toNatClampNeg v z).1 (stT x.toNatClampNeg v z).2 hs1.1) q2_store rfl (m6 297 rfl) (m6 298 rfl) (m6 299 rfl) ⟨Nat.le_of_ble_eq_true rfl, Nat.le_of_ble_eq_true rfl⟩ hK hN [0] rfl hP hD [1] (by decide) rfl (ci := 2) (q0 := 0) rfl rfl rfl hl.1 rfl (Nat.le_of_ble_eq_true rfl) dX6_put_62 ⟨Nat.zero_le _, Nat.zero_le _⟩) hP hD hS [1] rfl (fun r u h => by obtain ⟨-, rfl⟩ := h; rfl) (fun r9 u H locs hpost hP hD hS => ?_)
        obtain ⟨hr9, rfl⟩ := hpost
        refine lv_as hr9 ?_
        have hP : va_P D vwCl (bw [[(ob, .inr (6, [.ref so, .ref ho, .ref sl, .ref (dg 0), .ref (dc 0), .ref (dt 0)]))], zL cI dg ((stT x.toNatClampNeg v z).2), zL cI dt x3, [(ho, .inr (1, [.ref sa, .int (nI ((nx + 1) % 14)), .int (nI (if 14 < ct + 1 then 14 else ct + 1))]))], [(sa, .inl (cL, 14, .inr (.inr (.inr (.inr sf)))))], zL cI dh z]) H := hP
        have hD : va_D A (bw [[(ob, .inr (6, [.ref so, .ref ho, .ref sl, .ref (dg 0), .ref (dc 0), .ref (dt 0)]))], zL cI dg ((stT x.toNatClampNeg v z).2), zL cI dt x3, [(ho, .inr (1, [.ref sa, .int (nI ((nx + 1) % 14)), .int (nI (if 14 < ct + 1 then 14 else ct + 1))]))], [(sa, .inl (cL, 14, .inr (.inr (.inr (.inr sf)))))], zL cI dh z]) := hD
        exact ge_ret hX hr hlocks hS hP ⟨by rw [c6put, if_pos ⟨c4_1, c11_2⟩, if_neg c32_5], rfl, _, hx4, rfl⟩ (Nat.le_of_ble_eq_true rfl) (Nat.le_of_ble_eq_true rfl) dX6_put_65
      · skip
        exact ge_tis hst hX hEx hnt hlocks hE hSW hZ hS hP (m6 274 rfl) (m6 275 rfl) (show (186, _) ∈ xT from List.mem_of_getElem? (i := 13) rfl) ⟨Or.inr (⟨rfl, by rw [c6put, if_pos ⟨c4_1, c11_2⟩, if_pos c32_5]⟩), _, hx4, rfl⟩ hl.1 dX6_put_35 dX6_put_38 dX6_put_39 dX6_put_41 dX6_put_44 (Nat.le_of_ble_eq_true rfl) (Nat.le_of_ble_eq_true rfl) (Nat.le_of_ble_eq_true rfl) (Nat.le_of_ble_eq_true rfl) (Nat.le_of_ble_eq_true rfl) (Nat.le_of_ble_eq_true rfl)
    · skip
      have c11_2 := bI_f c11_2
      exact ge_tia hst hX hEx hnt hlocks hE hSW hZ hS hP (m6 272 rfl) (m6 273 rfl) (show (180, _) ∈ xT from List.mem_of_getElem? (i := 12) rfl) ⟨Or.inl ⟨rfl, by rw [c6put, if_neg (fun y => c11_2 y.2)]⟩, _, hBt, rfl⟩ hl.1 dX6_put_14 dX6_put_17 dX6_put_18 dX6_put_20 dX6_put_23 (Nat.le_of_ble_eq_true rfl) (Nat.le_of_ble_eq_true rfl) (Nat.le_of_ble_eq_true rfl) (Nat.le_of_ble_eq_true rfl) (Nat.le_of_ble_eq_true rfl) (Nat.le_of_ble_eq_true rfl)
theorem dX6_remove_0 : decode cX6_remove 0 = .ok (.iload_n 1, 1) := by decide +kernel
theorem dX6_remove_1 : decode cX6_remove 1 = .ok (.invokestatic 153, 3) := by decide +kernel
theorem dX6_remove_4 : decode cX6_remove 4 = .ok (.ifCond .ne 13, 3) := by decide +kernel
theorem dX6_remove_7 : decode cX6_remove 7 = .ok (.new 43, 3) := by decide +kernel
theorem dX6_remove_10 : decode cX6_remove 10 = .ok (.dup, 1) := by decide +kernel
theorem dX6_remove_11 : decode cX6_remove 11 = .ok (.ldc 156, 2) := by decide +kernel
theorem dX6_remove_13 : decode cX6_remove 13 = .ok (.invokespecial 47, 3) := by decide +kernel
theorem dX6_remove_16 : decode cX6_remove 16 = .ok (.athrow, 1) := by decide +kernel
theorem dX6_remove_17 : decode cX6_remove 17 = .ok (.aload_n 0, 1) := by decide +kernel
theorem dX6_remove_18 : decode cX6_remove 18 = .ok (.getfield 33, 3) := by decide +kernel
theorem dX6_remove_21 : decode cX6_remove 21 = .ok (.getfield 122, 3) := by decide +kernel
theorem dX6_remove_24 : decode cX6_remove 24 = .ok (.iload_n 1, 1) := by decide +kernel
theorem dX6_remove_25 : decode cX6_remove 25 = .ok (.invokevirtual 164, 3) := by decide +kernel
theorem dX6_remove_28 : decode cX6_remove 28 = .ok (.bipush (-9), 2) := by decide +kernel
theorem dX6_remove_30 : decode cX6_remove 30 = .ok (.if_icmp .eq 14, 3) := by decide +kernel
theorem dX6_remove_33 : decode cX6_remove 33 = .ok (.aload_n 0, 1) := by decide +kernel
theorem dX6_remove_34 : decode cX6_remove 34 = .ok (.aload_n 0, 1) := by decide +kernel
theorem dX6_remove_35 : decode cX6_remove 35 = .ok (.getfield 33, 3) := by decide +kernel
theorem dX6_remove_38 : decode cX6_remove 38 = .ok (.invokevirtual 182, 3) := by decide +kernel
theorem dX6_remove_41 : decode cX6_remove 41 = .ok (.ifCond .ne 13, 3) := by decide +kernel
theorem dX6_remove_44 : decode cX6_remove 44 = .ok (.new 54, 3) := by decide +kernel
theorem dX6_remove_47 : decode cX6_remove 47 = .ok (.dup, 1) := by decide +kernel
theorem dX6_remove_48 : decode cX6_remove 48 = .ok (.ldc 195, 2) := by decide +kernel
theorem dX6_remove_50 : decode cX6_remove 50 = .ok (.invokespecial 58, 3) := by decide +kernel
theorem dX6_remove_53 : decode cX6_remove 53 = .ok (.athrow, 1) := by decide +kernel
theorem dX6_remove_54 : decode cX6_remove 54 = .ok (.aload_n 0, 1) := by decide +kernel
theorem dX6_remove_55 : decode cX6_remove 55 = .ok (.getfield 19, 3) := by decide +kernel
theorem dX6_remove_58 : decode cX6_remove 58 = .ok (.aload_n 0, 1) := by decide +kernel
theorem dX6_remove_59 : decode cX6_remove 59 = .ok (.getfield 33, 3) := by decide +kernel
theorem dX6_remove_62 : decode cX6_remove 62 = .ok (.invokevirtual 188, 3) := by decide +kernel
theorem dX6_remove_65 : decode cX6_remove 65 = .ok (.aload_n 0, 1) := by decide +kernel
theorem dX6_remove_66 : decode cX6_remove 66 = .ok (.getfield 33, 3) := by decide +kernel
theorem dX6_remove_69 : decode cX6_remove 69 = .ok (.iload_n 1, 1) := by decide +kernel
theorem dX6_remove_70 : decode cX6_remove 70 = .ok (.bipush (-9), 2) := by decide +kernel
theorem dX6_remove_72 : decode cX6_remove 72 = .ok (.invokevirtual 192, 3) := by decide +kernel
theorem dX6_remove_75 : decode cX6_remove 75 = .ok (.ireturn, 1) := by decide +kernel
set_option maxHeartbeats 4000000 in
set_option maxRecDepth 100000 in
theorem c6_remove (l : Launch) (hst : l.stackTraces = false)  (D : va_G) (cI cL : ClassId) (ob so ho sl : Nat) (dg dc dt : Nat → Nat) (z : LgS) (hz : Inv z) (zt : LgS) (hBt : zt.1.2 ≤ 8) (sa : Nat) (sf : Nat → Option Nat) (nx ct : Nat) (hnx : nx < 14) (hct : ct ≤ 14) (dh : Nat → Nat) (zh : LgS) (hBh : zh.1.2 ≤ 8) (hsf : sf nx = some (dh 0)) (x : Int32) : GE l yX6_remove cX6_remove 2 6 144 D [[(ob, .inr (6, [.ref so, .ref ho, .ref sl, .ref (dg 0), .ref (dc 0), .ref (dt 0)]))], zL cI dg z, zL cI dt zt, [(ho, .inr (1, [.ref sa, .int (nI (nx)), .int (nI (ct))]))], [(sa, .inl (cL, 14, .inr (.inr (.inr (.inr sf)))))], zL cI dh zh] [(cI, .int), (cL, (.object "TornPageLog$Log"))] [.ref ob, .int (x)] (fun (r9 : Int32) (u9 : List va_W) => (c6rem z x) = 0 ∧ r9 = ((stT x.toNatClampNeg (-9) z).1) ∧ ∃ zt9 : LgS, (zt9.1.2 ≤ 8) ∧ u9 = [[(ob, .inr (6, [.ref so, .ref ho, .ref sl, .ref (dg 0), .ref (dc 0), .ref (dt 0)]))], zL cI dg ((stT x.toNatClampNeg (-9) z).2), zL cI dt zt9, [(ho, .inr (1, [.ref sa, .int (nI ((nx + 1) % 14)), .int (nI (if 14 < ct + 1 then 14 else ct + 1))]))], [(sa, .inl (cL, 14, .inr (.inr (.inr (.inr sf)))))], zL cI dh z]) (fun (e9 : String) (u9 : List va_W) => ((e9 = xIA ∧ (c6rem z x) = 1) ∨ (e9 = xIS ∧ (c6rem z x) = 2)) ∧ ∃ zt9 : LgS, (zt9.1.2 ≤ 8) ∧ u9 = [[(ob, .inr (6, [.ref so, .ref ho, .ref sl, .ref (dg 0), .ref (dc 0), .ref (dt 0)]))], zL cI dg z, zL cI dt zt9, [(ho, .inr (1, [.ref sa, .int (nI (nx)), .int (nI (ct))]))], [(sa, .inl (cL, 14, .inr (.inr (.inr (.inr sf)))))], zL cI dh zh]) := by
  refine ge_of (by decide) rfl (Nat.le_of_ble_eq_true rfl) ?_
  intro p e s m below meth c ls H hX hEx hnt hr hlocks hK hN hE hSW hZ hP hD hS hl
  generalize gp_A (bw [[(ob, .inr (6, [.ref so, .ref ho, .ref sl, .ref (dg 0), .ref (dc 0), .ref (dt 0)]))], zL cI dg z, zL cI dt zt, [(ho, .inr (1, [.ref sa, .int (nI (nx)), .int (nI (ct))]))], [(sa, .inl (cL, 14, .inr (.inr (.inr (.inr sf)))))], zL cI dh zh]) = A at hZ hD hS ⊢
  have hx := hX.1
  have hb := hX.2.1
  have hown := hX.2.2.2.1
  have hts := hX.2.2.2.2
  have hl : lv_has ls 2 [(0, .ref ob), (1, .int (x))] := hl
  refine lv_iload_n hx hb dX6_remove_0 rfl (lv_at hl 1 rfl) ?_
  refine rq_callS hX good6 (m6 31 rfl) (c6_isKey l D x) q6_isKey rfl (m6 356 rfl) (m6 357 rfl) ⟨Nat.le_of_ble_eq_true rfl, Nat.le_of_ble_eq_true rfl⟩ hK hN [] rfl hP [] rfl hS hl.1 rfl (Nat.le_of_ble_eq_true rfl) dX6_remove_1 ⟨Nat.zero_le _, Nat.zero_le _⟩ (fun H locs hP hS => ?_)
  refine lv_if_ne (tgt := 17) hx hb dX6_remove_4 (by decide) (fun c4_1 => ?_) (fun c4_1 => ?_)
  · skip
    have c4_1 := bI_t c4_1
    refine lv_aload_n hx hb dX6_remove_17 rfl (lv_at hl 0 rfl) ?_
    refine va_get (D := D) (ci := 6) (v := .ref (dg 0)) (C := RX6) (T := TX6) (N := 6) hx hb hts u6_X6 hown hK hP 0 rfl rfl 3 (by decide) (hts _ (m6 260 rfl)) (fun _ h9 => h9) rfl dX6_remove_18 ?_
    refine va_get (D := D) (ci := 2) (v := .ref (dg 1)) (C := RX2) (T := TX2) (N := 8) hx hb hts u6_X2 hown hK hP 1 rfl rfl 0 (by decide) (hts _ (m6 301 rfl)) (fun _ h9 => h9) rfl dX6_remove_21 ?_
    refine lv_iload_n hx hb dX6_remove_24 rfl (lv_at hl 1 rfl) ?_
    refine bq_readV hX good6 (m6 23 rfl) (b0_valueOf l D cI dg z (inv_B hz) x) q0_valueOf rfl (m6 307 rfl) (m6 42 rfl) (m6 43 rfl) ⟨Nat.le_of_ble_eq_true rfl, Nat.le_of_ble_eq_true rfl⟩ hK hN [0] rfl hP [1] rfl (ci := 0) (q0 := 1) rfl rfl rfl hS hl.1 rfl (Nat.le_of_ble_eq_true rfl) dX6_remove_25 ⟨Nat.zero_le _, Nat.zero_le _⟩ (fun H locs hP hS => ?_)
    refine lv_bipush (v := (-9)) hx hb dX6_remove_28 (by decide) ?_
    refine lv_icmp_eq (tgt := 44) hx hb dX6_remove_30 (by decide) (fun c30_2 => ?_) (fun c30_2 => ?_)
    · skip
      exact ge_tis hst hX hEx hnt hlocks hE hSW hZ hS hP (m6 274 rfl) (m6 275 rfl) (show (195, _) ∈ xT from List.mem_of_getElem? (i := 14) rfl) ⟨Or.inr (⟨rfl, by rw [c6rem, if_pos c4_1, if_pos (Or.inl c30_2)]⟩), _, hBt, rfl⟩ hl.1 dX6_remove_44 dX6_remove_47 dX6_remove_48 dX6_remove_50 dX6_remove_53 (Nat.le_of_ble_eq_true rfl) (Nat.le_of_ble_eq_true rfl) (Nat.le_of_ble_eq_true rfl) (Nat.le_of_ble_eq_true rfl) (Nat.le_of_ble_eq_true rfl) (Nat.le_of_ble_eq_true rfl)
    · skip
      refine lv_aload_n hx hb dX6_remove_33 rfl (lv_at hl 0 rfl) ?_
      refine lv_aload_n hx hb dX6_remove_34 rfl (lv_at hl 0 rfl) ?_
      refine va_get (D := D) (ci := 6) (v := .ref (dg 0)) (C := RX6) (T := TX6) (N := 6) hx hb hts u6_X6 hown hK hP 0 rfl rfl 3 (by decide) (hts _ (m6 260 rfl)) (fun _ h9 => h9) rfl dX6_remove_35 ?_
      refine bq_backi (bq_runV hX good6 (m6 31 rfl) (c6_costOfRecord l D cI ob so ho sl dg dc dt zt hBt dg z hz) q6_costOfRecord rfl (m6 303 rfl) (m6 304 rfl) (m6 305 rfl) ⟨Nat.le_of_ble_eq_true rfl, Nat.le_of_ble_eq_true rfl⟩ hK hN [0] rfl hP hD [0, 2, 1] (by decide) rfl (ci := 6) (q0 := 0) rfl rfl rfl hl.1 rfl (Nat.le_of_ble_eq_true rfl) dX6_remove_38 ⟨Nat.zero_le _, Nat.zero_le _⟩) hP hD hS [0, 2, 1] rfl (fun r u h => by obtain ⟨-, x3, hx4, rfl⟩ := h; rfl) (fun r9 u H locs hpost hP hD hS => ?_)
      obtain ⟨hr9, x3, hx4, rfl⟩ := hpost
      refine lv_as hr9 ?_
      have hP : va_P D vwCl (bw [[(ob, .inr (6, [.ref so, .ref ho, .ref sl, .ref (dg 0), .ref (dc 0), .ref (dt 0)]))], zL cI dg z, zL cI dt x3, [(ho, .inr (1, [.ref sa, .int (nI (nx)), .int (nI (ct))]))], [(sa, .inl (cL, 14, .inr (.inr (.inr (.inr sf)))))], zL cI dh zh]) H := hP
      have hD : va_D A (bw [[(ob, .inr (6, [.ref so, .ref ho, .ref sl, .ref (dg 0), .ref (dc 0), .ref (dt 0)]))], zL cI dg z, zL cI dt x3, [(ho, .inr (1, [.ref sa, .int (nI (nx)), .int (nI (ct))]))], [(sa, .inl (cL, 14, .inr (.inr (.inr (.inr sf)))))], zL cI dh zh]) := hD
      refine lv_if_ne (tgt := 54) hx hb dX6_remove_41 (by decide) (fun c41_5 => ?_) (fun c41_5 => ?_)
      · skip
        refine lv_aload_n hx hb dX6_remove_54 rfl (lv_at hl 0 rfl) ?_
        refine va_get (D := D) (ci := 6) (v := .ref ho) (C := RX6) (T := TX6) (N := 6) hx hb hts u6_X6 hown hK hP 0 rfl rfl 1 (by decide) (hts _ (m6 254 rfl)) (fun _ h9 => h9) rfl dX6_remove_55 ?_
        refine lv_aload_n hx hb dX6_remove_58 rfl (lv_at hl 0 rfl) ?_
        refine va_get (D := D) (ci := 6) (v := .ref (dg 0)) (C := RX6) (T := TX6) (N := 6) hx hb hts u6_X6 hown hK hP 0 rfl rfl 3 (by decide) (hts _ (m6 260 rfl)) (fun _ h9 => h9) rfl dX6_remove_59 ?_
        refine bq_backv (bq_runV hX good6 (m6 253 rfl) (c1_remember l D cI cL ho sa sf nx ct hnx hct dh dg zh z hBh (inv_B hz) hsf) q1_remember rfl (m6 367 rfl) (m6 368 rfl) (m6 369 rfl) ⟨Nat.le_of_ble_eq_true rfl, Nat.le_of_ble_eq_true rfl⟩ hK hN [0, 1] rfl hP hD [3, 4, 5, 1] (by decide) rfl (ci := 1) (q0 := 0) rfl rfl rfl hl.1 rfl (Nat.le_of_ble_eq_true rfl) dX6_remove_62 ⟨Nat.zero_le _, Nat.zero_le _⟩) hP hD hS [3, 4, 5, 1] rfl (fun u h => by rw [h]; rfl) (fun u H locs hpost hP hD hS => ?_)
        subst hpost
        have hP : va_P D vwCl (bw [[(ob, .inr (6, [.ref so, .ref ho, .ref sl, .ref (dg 0), .ref (dc 0), .ref (dt 0)]))], zL cI dg z, zL cI dt x3, [(ho, .inr (1, [.ref sa, .int (nI ((nx + 1) % 14)), .int (nI (if 14 < ct + 1 then 14 else ct + 1))]))], [(sa, .inl (cL, 14, .inr (.inr (.inr (.inr sf)))))], zL cI dh z]) H := hP
        have hD : va_D A (bw [[(ob, .inr (6, [.ref so, .ref ho, .ref sl, .ref (dg 0), .ref (dc 0), .ref (dt 0)]))], zL cI dg z, zL cI dt x3, [(ho, .inr (1, [.ref sa, .int (nI ((nx + 1) % 14)), .int (nI (if 14 < ct + 1 then 14 else ct + 1))]))], [(sa, .inl (cL, 14, .inr (.inr (.inr (.inr sf)))))], zL cI dh z]) := hD
        obtain ⟨en1, hn1⟩ := num_in (x := x) (j := 16) (by decide) c4_1
        have hl : lv_has ls 2 [(0, .ref ob), (1, .int (nI (x.toNatClampNeg)))] := lv_re hl 1 rfl en1
        refine lv_aload_n hx hb dX6_remove_65 rfl (lv_at hl 0 rfl) ?_
        refine va_get (D := D) (ci := 6) (v := .ref (dg 0)) (C := RX6) (T := TX6) (N := 6) hx hb hts u6_X6 hown hK hP 0 rfl rfl 3 (by decide) (hts _ (m6 260 rfl)) (fun _ h9 => h9) rfl dX6_remove_66 ?_
        refine lv_iload_n hx hb dX6_remove_69 rfl (lv_at hl 1 rfl) ?_
        refine lv_bipush (v := (-9)) hx hb dX6_remove_70 (by decide) ?_
        have hs1 := inv_st (k := x.toNatClampNeg) (x := -9) hz (cs_ne c41_5) hn1 (Or.inr (by rw [← en1]; exact c30_2))
        refine bq_backi (bq_runV hX good6 (m6 83 rfl) (b2_store l D cI dg z (inv_B hz) x.toNatClampNeg (by omega) (-9) (stT x.toNatClampNeg (-9) z).1 (stT x.toNatClampNeg (-9) z).2 hs1.1) q2_store rfl (m6 297 rfl) (m6 298 rfl) (m6 299 rfl) ⟨Nat.le_of_ble_eq_true rfl, Nat.le_of_ble_eq_true rfl⟩ hK hN [0] rfl hP hD [1] (by decide) rfl (ci := 2) (q0 := 0) rfl rfl rfl hl.1 rfl (Nat.le_of_ble_eq_true rfl) dX6_remove_72 ⟨Nat.zero_le _, Nat.zero_le _⟩) hP hD hS [1] rfl (fun r u h => by obtain ⟨-, rfl⟩ := h; rfl) (fun r9 u H locs hpost hP hD hS => ?_)
        obtain ⟨hr9, rfl⟩ := hpost
        refine lv_as hr9 ?_
        have hP : va_P D vwCl (bw [[(ob, .inr (6, [.ref so, .ref ho, .ref sl, .ref (dg 0), .ref (dc 0), .ref (dt 0)]))], zL cI dg ((stT x.toNatClampNeg (-9) z).2), zL cI dt x3, [(ho, .inr (1, [.ref sa, .int (nI ((nx + 1) % 14)), .int (nI (if 14 < ct + 1 then 14 else ct + 1))]))], [(sa, .inl (cL, 14, .inr (.inr (.inr (.inr sf)))))], zL cI dh z]) H := hP
        have hD : va_D A (bw [[(ob, .inr (6, [.ref so, .ref ho, .ref sl, .ref (dg 0), .ref (dc 0), .ref (dt 0)]))], zL cI dg ((stT x.toNatClampNeg (-9) z).2), zL cI dt x3, [(ho, .inr (1, [.ref sa, .int (nI ((nx + 1) % 14)), .int (nI (if 14 < ct + 1 then 14 else ct + 1))]))], [(sa, .inl (cL, 14, .inr (.inr (.inr (.inr sf)))))], zL cI dh z]) := hD
        exact ge_ret hX hr hlocks hS hP ⟨by rw [c6rem, if_pos c4_1, if_neg (fun y => y.elim c30_2 c41_5)], rfl, _, hx4, rfl⟩ (Nat.le_of_ble_eq_true rfl) (Nat.le_of_ble_eq_true rfl) dX6_remove_75
      · skip
        exact ge_tis hst hX hEx hnt hlocks hE hSW hZ hS hP (m6 274 rfl) (m6 275 rfl) (show (195, _) ∈ xT from List.mem_of_getElem? (i := 14) rfl) ⟨Or.inr (⟨rfl, by rw [c6rem, if_pos c4_1, if_pos (Or.inr c41_5)]⟩), _, hx4, rfl⟩ hl.1 dX6_remove_44 dX6_remove_47 dX6_remove_48 dX6_remove_50 dX6_remove_53 (Nat.le_of_ble_eq_true rfl) (Nat.le_of_ble_eq_true rfl) (Nat.le_of_ble_eq_true rfl) (Nat.le_of_ble_eq_true rfl) (Nat.le_of_ble_eq_true rfl) (Nat.le_of_ble_eq_true rfl)
  · skip
    have c4_1 := bI_f c4_1
    exact ge_tia hst hX hEx hnt hlocks hE hSW hZ hS hP (m6 272 rfl) (m6 273 rfl) (show (156, _) ∈ xT from List.mem_of_getElem? (i := 8) rfl) ⟨Or.inl ⟨rfl, by rw [c6rem, if_neg c4_1]⟩, _, hBt, rfl⟩ hl.1 dX6_remove_7 dX6_remove_10 dX6_remove_11 dX6_remove_13 dX6_remove_16 (Nat.le_of_ble_eq_true rfl) (Nat.le_of_ble_eq_true rfl) (Nat.le_of_ble_eq_true rfl) (Nat.le_of_ble_eq_true rfl) (Nat.le_of_ble_eq_true rfl) (Nat.le_of_ble_eq_true rfl)
theorem dX6_sweep_0 : decode cX6_sweep 0 = .ok (.aload_n 0, 1) := by decide +kernel
theorem dX6_sweep_1 : decode cX6_sweep 1 = .ok (.getfield 33, 3) := by decide +kernel
theorem dX6_sweep_4 : decode cX6_sweep 4 = .ok (.invokevirtual 197, 3) := by decide +kernel
theorem dX6_sweep_7 : decode cX6_sweep 7 = .ok (.istore_n 1, 1) := by decide +kernel
theorem dX6_sweep_8 : decode cX6_sweep 8 = .ok (.iload_n 1, 1) := by decide +kernel
theorem dX6_sweep_9 : decode cX6_sweep 9 = .ok (.bipush (-9), 2) := by decide +kernel
theorem dX6_sweep_11 : decode cX6_sweep 11 = .ok (.if_icmp .ne 13, 3) := by decide +kernel
theorem dX6_sweep_14 : decode cX6_sweep 14 = .ok (.new 54, 3) := by decide +kernel
theorem dX6_sweep_17 : decode cX6_sweep 17 = .ok (.dup, 1) := by decide +kernel
theorem dX6_sweep_18 : decode cX6_sweep 18 = .ok (.ldc 200, 2) := by decide +kernel
theorem dX6_sweep_20 : decode cX6_sweep 20 = .ok (.invokespecial 58, 3) := by decide +kernel
theorem dX6_sweep_23 : decode cX6_sweep 23 = .ok (.athrow, 1) := by decide +kernel
theorem dX6_sweep_24 : decode cX6_sweep 24 = .ok (.aload_n 0, 1) := by decide +kernel
theorem dX6_sweep_25 : decode cX6_sweep 25 = .ok (.getfield 19, 3) := by decide +kernel
theorem dX6_sweep_28 : decode cX6_sweep 28 = .ok (.aload_n 0, 1) := by decide +kernel
theorem dX6_sweep_29 : decode cX6_sweep 29 = .ok (.getfield 33, 3) := by decide +kernel
theorem dX6_sweep_32 : decode cX6_sweep 32 = .ok (.invokevirtual 188, 3) := by decide +kernel
theorem dX6_sweep_35 : decode cX6_sweep 35 = .ok (.aload_n 0, 1) := by decide +kernel
theorem dX6_sweep_36 : decode cX6_sweep 36 = .ok (.getfield 33, 3) := by decide +kernel
theorem dX6_sweep_39 : decode cX6_sweep 39 = .ok (.iload_n 1, 1) := by decide +kernel
theorem dX6_sweep_40 : decode cX6_sweep 40 = .ok (.invokevirtual 202, 3) := by decide +kernel
theorem dX6_sweep_43 : decode cX6_sweep 43 = .ok (.ireturn, 1) := by decide +kernel
set_option maxHeartbeats 4000000 in
set_option maxRecDepth 100000 in
theorem c6_sweep (l : Launch) (hst : l.stackTraces = false)  (D : va_G) (cI cL : ClassId) (ob so ho sl : Nat) (dg dc dt : Nat → Nat) (z : LgS) (hz : Inv z) (sa : Nat) (sf : Nat → Option Nat) (nx ct : Nat) (hnx : nx < 14) (hct : ct ≤ 14) (dh : Nat → Nat) (zh : LgS) (hBh : zh.1.2 ≤ 8) (hsf : sf nx = some (dh 0))  : GE l yX6_sweep cX6_sweep 2 6 144 D [[(ob, .inr (6, [.ref so, .ref ho, .ref sl, .ref (dg 0), .ref (dc 0), .ref (dt 0)]))], zL cI dg z, [(ho, .inr (1, [.ref sa, .int (nI (nx)), .int (nI (ct))]))], [(sa, .inl (cL, 14, .inr (.inr (.inr (.inr sf)))))], zL cI dh zh] [(cI, .int), (cL, (.object "TornPageLog$Log"))] [.ref ob] (fun (r9 : Int32) (u9 : List va_W) => (c6swp z) = 0 ∧ r9 = ((sbT (oI (cvZ z)).toNatClampNeg z).1) ∧ u9 = [[(ob, .inr (6, [.ref so, .ref ho, .ref sl, .ref (dg 0), .ref (dc 0), .ref (dt 0)]))], zL cI dg ((sbT (oI (cvZ z)).toNatClampNeg z).2), [(ho, .inr (1, [.ref sa, .int (nI ((nx + 1) % 14)), .int (nI (if 14 < ct + 1 then 14 else ct + 1))]))], [(sa, .inl (cL, 14, .inr (.inr (.inr (.inr sf)))))], zL cI dh z]) (fun (e9 : String) (u9 : List va_W) => ((e9 = xIS ∧ (c6swp z) = 1)) ∧ u9 = [[(ob, .inr (6, [.ref so, .ref ho, .ref sl, .ref (dg 0), .ref (dc 0), .ref (dt 0)]))], zL cI dg z, [(ho, .inr (1, [.ref sa, .int (nI (nx)), .int (nI (ct))]))], [(sa, .inl (cL, 14, .inr (.inr (.inr (.inr sf)))))], zL cI dh zh]) := by
  refine ge_of (by decide) rfl (Nat.le_of_ble_eq_true rfl) ?_
  intro p e s m below meth c ls H hX hEx hnt hr hlocks hK hN hE hSW hZ hP hD hS hl
  generalize gp_A (bw [[(ob, .inr (6, [.ref so, .ref ho, .ref sl, .ref (dg 0), .ref (dc 0), .ref (dt 0)]))], zL cI dg z, [(ho, .inr (1, [.ref sa, .int (nI (nx)), .int (nI (ct))]))], [(sa, .inl (cL, 14, .inr (.inr (.inr (.inr sf)))))], zL cI dh zh]) = A at hZ hD hS ⊢
  have hx := hX.1
  have hb := hX.2.1
  have hown := hX.2.2.2.1
  have hts := hX.2.2.2.2
  have hl : lv_has ls 2 [(0, .ref ob)] := hl
  refine lv_aload_n hx hb dX6_sweep_0 rfl (lv_at hl 0 rfl) ?_
  refine va_get (D := D) (ci := 6) (v := .ref (dg 0)) (C := RX6) (T := TX6) (N := 6) hx hb hts u6_X6 hown hK hP 0 rfl rfl 3 (by decide) (hts _ (m6 260 rfl)) (fun _ h9 => h9) rfl dX6_sweep_1 ?_
  refine bq_readV hX good6 (m6 83 rfl) (b2_chooseVictim l D cI dg z (inv_B hz) ) q2_chooseVictim rfl (m6 308 rfl) (m6 200 rfl) (m6 201 rfl) ⟨Nat.le_of_ble_eq_true rfl, Nat.le_of_ble_eq_true rfl⟩ hK hN [0] rfl hP [1] rfl (ci := 2) (q0 := 0) rfl rfl rfl hS hl.1 rfl (Nat.le_of_ble_eq_true rfl) dX6_sweep_4 ⟨Nat.zero_le _, Nat.zero_le _⟩ (fun H locs hP hS => ?_)
  refine lv_istore_n (lv' := [(1, .int (oI (cvZ z))), (0, .ref ob)]) hx hb dX6_sweep_7 rfl hl (by decide) rfl (fun ls hl => ?_)
  obtain ⟨v9, hO9⟩ : ∃ v9, cvZ z = v9 := ⟨_, rfl⟩
  rcases v9 with _ | o9
  · skip
    have hl : lv_has ls 2 [(1, .int ((-9))), (0, .ref ob)] := by rw [hO9] at hl; exact hl
    refine lv_iload_n hx hb dX6_sweep_8 rfl (lv_at hl 0 rfl) ?_
    refine lv_bipush (v := (-9)) hx hb dX6_sweep_9 (by decide) ?_
    refine lv_icmp_ne (tgt := 24) hx hb dX6_sweep_11 (by decide) (fun c11_1 => ?_) (fun c11_1 => ?_)
    · skip
      exact absurd c11_1 (by decide)
    · skip
      exact ge_tis hst hX hEx hnt hlocks hE hSW hZ hS hP (m6 274 rfl) (m6 275 rfl) (show (200, _) ∈ xT from List.mem_of_getElem? (i := 15) rfl) ⟨⟨rfl, by rw [c6swp, if_pos (show oI (cvZ z) = -9 by rw [hO9]; rfl)]⟩, rfl⟩ hl.1 dX6_sweep_14 dX6_sweep_17 dX6_sweep_18 dX6_sweep_20 dX6_sweep_23 (Nat.le_of_ble_eq_true rfl) (Nat.le_of_ble_eq_true rfl) (Nat.le_of_ble_eq_true rfl) (Nat.le_of_ble_eq_true rfl) (Nat.le_of_ble_eq_true rfl) (Nat.le_of_ble_eq_true rfl)
  · skip
    have hl : lv_has ls 2 [(1, .int (nI (o9))), (0, .ref ob)] := by rw [hO9] at hl; exact hl
    have ho9 := cvF_lt hO9
    have hB9 := inv_B hz
    have hcv := cvZ_o hO9 hB9
    refine lv_iload_n hx hb dX6_sweep_8 rfl (lv_at hl 0 rfl) ?_
    refine lv_bipush (v := (-9)) hx hb dX6_sweep_9 (by decide) ?_
    refine lv_icmp_ne (tgt := 24) hx hb dX6_sweep_11 (by decide) (fun c11_2 => ?_) (fun c11_2 => ?_)
    · skip
      refine lv_aload_n hx hb dX6_sweep_24 rfl (lv_at hl 1 rfl) ?_
      refine va_get (D := D) (ci := 6) (v := .ref ho) (C := RX6) (T := TX6) (N := 6) hx hb hts u6_X6 hown hK hP 0 rfl rfl 1 (by decide) (hts _ (m6 254 rfl)) (fun _ h9 => h9) rfl dX6_sweep_25 ?_
      refine lv_aload_n hx hb dX6_sweep_28 rfl (lv_at hl 1 rfl) ?_
      refine va_get (D := D) (ci := 6) (v := .ref (dg 0)) (C := RX6) (T := TX6) (N := 6) hx hb hts u6_X6 hown hK hP 0 rfl rfl 3 (by decide) (hts _ (m6 260 rfl)) (fun _ h9 => h9) rfl dX6_sweep_29 ?_
      refine bq_backv (bq_runV hX good6 (m6 253 rfl) (c1_remember l D cI cL ho sa sf nx ct hnx hct dh dg zh z hBh (inv_B hz) hsf) q1_remember rfl (m6 367 rfl) (m6 368 rfl) (m6 369 rfl) ⟨Nat.le_of_ble_eq_true rfl, Nat.le_of_ble_eq_true rfl⟩ hK hN [0, 1] rfl hP hD [2, 3, 4, 1] (by decide) rfl (ci := 1) (q0 := 0) rfl rfl rfl hl.1 rfl (Nat.le_of_ble_eq_true rfl) dX6_sweep_32 ⟨Nat.zero_le _, Nat.zero_le _⟩) hP hD hS [2, 3, 4, 1] rfl (fun u h => by rw [h]; rfl) (fun u H locs hpost hP hD hS => ?_)
      subst hpost
      have hP : va_P D vwCl (bw [[(ob, .inr (6, [.ref so, .ref ho, .ref sl, .ref (dg 0), .ref (dc 0), .ref (dt 0)]))], zL cI dg z, [(ho, .inr (1, [.ref sa, .int (nI ((nx + 1) % 14)), .int (nI (if 14 < ct + 1 then 14 else ct + 1))]))], [(sa, .inl (cL, 14, .inr (.inr (.inr (.inr sf)))))], zL cI dh z]) H := hP
      have hD : va_D A (bw [[(ob, .inr (6, [.ref so, .ref ho, .ref sl, .ref (dg 0), .ref (dc 0), .ref (dt 0)]))], zL cI dg z, [(ho, .inr (1, [.ref sa, .int (nI ((nx + 1) % 14)), .int (nI (if 14 < ct + 1 then 14 else ct + 1))]))], [(sa, .inl (cL, 14, .inr (.inr (.inr (.inr sf)))))], zL cI dh z]) := hD
      refine lv_aload_n hx hb dX6_sweep_35 rfl (lv_at hl 1 rfl) ?_
      refine va_get (D := D) (ci := 6) (v := .ref (dg 0)) (C := RX6) (T := TX6) (N := 6) hx hb hts u6_X6 hown hK hP 0 rfl rfl 3 (by decide) (hts _ (m6 260 rfl)) (fun _ h9 => h9) rfl dX6_sweep_36 ?_
      refine lv_iload_n hx hb dX6_sweep_39 rfl (lv_at hl 0 rfl) ?_
      have hs1 := inv_sb hz hO9
      refine bq_backi (bq_runV hX good6 (m6 83 rfl) (b2_sweepBlock l D cI dg z (inv_B hz) o9 (by omega) (sbT o9 z).1 (sbT o9 z).2 hs1.1) q2_sweepBlock rfl (m6 309 rfl) (m6 204 rfl) (m6 205 rfl) ⟨Nat.le_of_ble_eq_true rfl, Nat.le_of_ble_eq_true rfl⟩ hK hN [0] rfl hP hD [1] (by decide) rfl (ci := 2) (q0 := 0) rfl rfl rfl hl.1 rfl (Nat.le_of_ble_eq_true rfl) dX6_sweep_40 ⟨Nat.zero_le _, Nat.zero_le _⟩) hP hD hS [1] rfl (fun r u h => by obtain ⟨-, rfl⟩ := h; rfl) (fun r9 u H locs hpost hP hD hS => ?_)
      obtain ⟨hr9, rfl⟩ := hpost
      refine lv_as hr9 ?_
      have hP : va_P D vwCl (bw [[(ob, .inr (6, [.ref so, .ref ho, .ref sl, .ref (dg 0), .ref (dc 0), .ref (dt 0)]))], zL cI dg ((sbT o9 z).2), [(ho, .inr (1, [.ref sa, .int (nI ((nx + 1) % 14)), .int (nI (if 14 < ct + 1 then 14 else ct + 1))]))], [(sa, .inl (cL, 14, .inr (.inr (.inr (.inr sf)))))], zL cI dh z]) H := hP
      have hD : va_D A (bw [[(ob, .inr (6, [.ref so, .ref ho, .ref sl, .ref (dg 0), .ref (dc 0), .ref (dt 0)]))], zL cI dg ((sbT o9 z).2), [(ho, .inr (1, [.ref sa, .int (nI ((nx + 1) % 14)), .int (nI (if 14 < ct + 1 then 14 else ct + 1))]))], [(sa, .inl (cL, 14, .inr (.inr (.inr (.inr sf)))))], zL cI dh z]) := hD
      have hP : va_P D vwCl (bw [[(ob, .inr (6, [.ref so, .ref ho, .ref sl, .ref (dg 0), .ref (dc 0), .ref (dt 0)]))], zL cI dg ((sbT (oI (cvZ z)).toNatClampNeg z).2), [(ho, .inr (1, [.ref sa, .int (nI ((nx + 1) % 14)), .int (nI (if 14 < ct + 1 then 14 else ct + 1))]))], [(sa, .inl (cL, 14, .inr (.inr (.inr (.inr sf)))))], zL cI dh z]) H := by
        rw [show ((sbT (oI (cvZ z)).toNatClampNeg z).2) = ((sbT o9 z).2) from by rw [hcv.1]]
        exact hP
      have hD : va_D A (bw [[(ob, .inr (6, [.ref so, .ref ho, .ref sl, .ref (dg 0), .ref (dc 0), .ref (dt 0)]))], zL cI dg ((sbT (oI (cvZ z)).toNatClampNeg z).2), [(ho, .inr (1, [.ref sa, .int (nI ((nx + 1) % 14)), .int (nI (if 14 < ct + 1 then 14 else ct + 1))]))], [(sa, .inl (cL, 14, .inr (.inr (.inr (.inr sf)))))], zL cI dh z]) := by
        rw [show ((sbT (oI (cvZ z)).toNatClampNeg z).2) = ((sbT o9 z).2) from by rw [hcv.1]]
        exact hD
      exact ge_ret hX hr hlocks hS hP ⟨by rw [c6swp, if_neg hcv.2], by rw [hcv.1], rfl⟩ (Nat.le_of_ble_eq_true rfl) (Nat.le_of_ble_eq_true rfl) dX6_sweep_43
    · skip
      exact absurd c11_2 (oI_ne (by omega))
theorem dX6_cut_0 : decode cX6_cut 0 = .ok (.iload_n 1, 1) := by decide +kernel
theorem dX6_cut_1 : decode cX6_cut 1 = .ok (.ifCond .lt 9, 3) := by decide +kernel
theorem dX6_cut_4 : decode cX6_cut 4 = .ok (.iload_n 1, 1) := by decide +kernel
theorem dX6_cut_5 : decode cX6_cut 5 = .ok (.bipush 99, 2) := by decide +kernel
theorem dX6_cut_7 : decode cX6_cut 7 = .ok (.if_icmp .le 13, 3) := by decide +kernel
theorem dX6_cut_10 : decode cX6_cut 10 = .ok (.new 43, 3) := by decide +kernel
theorem dX6_cut_13 : decode cX6_cut 13 = .ok (.dup, 1) := by decide +kernel
theorem dX6_cut_14 : decode cX6_cut 14 = .ok (.ldc 205, 2) := by decide +kernel
theorem dX6_cut_16 : decode cX6_cut 16 = .ok (.invokespecial 47, 3) := by decide +kernel
theorem dX6_cut_19 : decode cX6_cut 19 = .ok (.athrow, 1) := by decide +kernel
theorem dX6_cut_20 : decode cX6_cut 20 = .ok (.aload_n 0, 1) := by decide +kernel
theorem dX6_cut_21 : decode cX6_cut 21 = .ok (.getfield 33, 3) := by decide +kernel
theorem dX6_cut_24 : decode cX6_cut 24 = .ok (.getfield 158, 3) := by decide +kernel
theorem dX6_cut_27 : decode cX6_cut 27 = .ok (.ifCond .ne 13, 3) := by decide +kernel
theorem dX6_cut_30 : decode cX6_cut 30 = .ok (.new 54, 3) := by decide +kernel
theorem dX6_cut_33 : decode cX6_cut 33 = .ok (.dup, 1) := by decide +kernel
theorem dX6_cut_34 : decode cX6_cut 34 = .ok (.ldc 162, 2) := by decide +kernel
theorem dX6_cut_36 : decode cX6_cut 36 = .ok (.invokespecial 58, 3) := by decide +kernel
theorem dX6_cut_39 : decode cX6_cut 39 = .ok (.athrow, 1) := by decide +kernel
theorem dX6_cut_40 : decode cX6_cut 40 = .ok (.aload_n 0, 1) := by decide +kernel
theorem dX6_cut_41 : decode cX6_cut 41 = .ok (.getfield 19, 3) := by decide +kernel
theorem dX6_cut_44 : decode cX6_cut 44 = .ok (.aload_n 0, 1) := by decide +kernel
theorem dX6_cut_45 : decode cX6_cut 45 = .ok (.getfield 33, 3) := by decide +kernel
theorem dX6_cut_48 : decode cX6_cut 48 = .ok (.invokevirtual 188, 3) := by decide +kernel
theorem dX6_cut_51 : decode cX6_cut 51 = .ok (.aload_n 0, 1) := by decide +kernel
theorem dX6_cut_52 : decode cX6_cut 52 = .ok (.getfield 33, 3) := by decide +kernel
theorem dX6_cut_55 : decode cX6_cut 55 = .ok (.getfield 207, 3) := by decide +kernel
theorem dX6_cut_58 : decode cX6_cut 58 = .ok (.istore_n 2, 1) := by decide +kernel
theorem dX6_cut_59 : decode cX6_cut 59 = .ok (.aload_n 0, 1) := by decide +kernel
theorem dX6_cut_60 : decode cX6_cut 60 = .ok (.getfield 33, 3) := by decide +kernel
theorem dX6_cut_63 : decode cX6_cut 63 = .ok (.iload_n 1, 1) := by decide +kernel
theorem dX6_cut_64 : decode cX6_cut 64 = .ok (.putfield 207, 3) := by decide +kernel
theorem dX6_cut_67 : decode cX6_cut 67 = .ok (.iload_n 2, 1) := by decide +kernel
theorem dX6_cut_68 : decode cX6_cut 68 = .ok (.ireturn, 1) := by decide +kernel
set_option maxHeartbeats 4000000 in
set_option maxRecDepth 100000 in
theorem c6_cut (l : Launch) (hst : l.stackTraces = false)  (D : va_G) (cI cL : ClassId) (ob so ho sl : Nat) (dg dc dt : Nat → Nat) (z : LgS) (hz : Inv z) (sa : Nat) (sf : Nat → Option Nat) (nx ct : Nat) (hnx : nx < 14) (hct : ct ≤ 14) (dh : Nat → Nat) (zh : LgS) (hBh : zh.1.2 ≤ 8) (hsf : sf nx = some (dh 0)) (x : Int32) : GE l yX6_cut cX6_cut 3 6 144 D [[(ob, .inr (6, [.ref so, .ref ho, .ref sl, .ref (dg 0), .ref (dc 0), .ref (dt 0)]))], zL cI dg z, [(ho, .inr (1, [.ref sa, .int (nI (nx)), .int (nI (ct))]))], [(sa, .inl (cL, 14, .inr (.inr (.inr (.inr sf)))))], zL cI dh zh] [(cI, .int), (cL, (.object "TornPageLog$Log"))] [.ref ob, .int (x)] (fun (r9 : Int32) (u9 : List va_W) => (c6cut z x) = 0 ∧ r9 = (z.2.1 1) ∧ u9 = [[(ob, .inr (6, [.ref so, .ref ho, .ref sl, .ref (dg 0), .ref (dc 0), .ref (dt 0)]))], zL cI dg (zC z x), [(ho, .inr (1, [.ref sa, .int (nI ((nx + 1) % 14)), .int (nI (if 14 < ct + 1 then 14 else ct + 1))]))], [(sa, .inl (cL, 14, .inr (.inr (.inr (.inr sf)))))], zL cI dh z]) (fun (e9 : String) (u9 : List va_W) => ((e9 = xIA ∧ (c6cut z x) = 1) ∨ (e9 = xIS ∧ (c6cut z x) = 2)) ∧ u9 = [[(ob, .inr (6, [.ref so, .ref ho, .ref sl, .ref (dg 0), .ref (dc 0), .ref (dt 0)]))], zL cI dg z, [(ho, .inr (1, [.ref sa, .int (nI (nx)), .int (nI (ct))]))], [(sa, .inl (cL, 14, .inr (.inr (.inr (.inr sf)))))], zL cI dh zh]) := by
  refine ge_of (by decide) rfl (Nat.le_of_ble_eq_true rfl) ?_
  intro p e s m below meth c ls H hX hEx hnt hr hlocks hK hN hE hSW hZ hP hD hS hl
  generalize gp_A (bw [[(ob, .inr (6, [.ref so, .ref ho, .ref sl, .ref (dg 0), .ref (dc 0), .ref (dt 0)]))], zL cI dg z, [(ho, .inr (1, [.ref sa, .int (nI (nx)), .int (nI (ct))]))], [(sa, .inl (cL, 14, .inr (.inr (.inr (.inr sf)))))], zL cI dh zh]) = A at hZ hD hS ⊢
  have hx := hX.1
  have hb := hX.2.1
  have hown := hX.2.2.2.1
  have hts := hX.2.2.2.2
  have hl : lv_has ls 3 [(0, .ref ob), (1, .int (x))] := hl
  refine lv_iload_n hx hb dX6_cut_0 rfl (lv_at hl 1 rfl) ?_
  refine lv_if_lt (tgt := 10) hx hb dX6_cut_1 (by decide) (fun c1_1 => ?_) (fun c1_1 => ?_)
  · skip
    exact ge_tia hst hX hEx hnt hlocks hE hSW hZ hS hP (m6 272 rfl) (m6 273 rfl) (show (205, _) ∈ xT from List.mem_of_getElem? (i := 16) rfl) ⟨Or.inl ⟨rfl, by rw [c6cut, if_neg (fun y => y.1 c1_1)]⟩, rfl⟩ hl.1 dX6_cut_10 dX6_cut_13 dX6_cut_14 dX6_cut_16 dX6_cut_19 (Nat.le_of_ble_eq_true rfl) (Nat.le_of_ble_eq_true rfl) (Nat.le_of_ble_eq_true rfl) (Nat.le_of_ble_eq_true rfl) (Nat.le_of_ble_eq_true rfl) (Nat.le_of_ble_eq_true rfl)
  · skip
    refine lv_iload_n hx hb dX6_cut_4 rfl (lv_at hl 1 rfl) ?_
    refine lv_bipush (v := 99) hx hb dX6_cut_5 (by decide) ?_
    refine lv_icmp_le (tgt := 20) hx hb dX6_cut_7 (by decide) (fun c7_2 => ?_) (fun c7_2 => ?_)
    · skip
      have c7_2 := i_nlt c7_2
      refine lv_aload_n hx hb dX6_cut_20 rfl (lv_at hl 0 rfl) ?_
      refine va_get (D := D) (ci := 6) (v := .ref (dg 0)) (C := RX6) (T := TX6) (N := 6) hx hb hts u6_X6 hown hK hP 0 rfl rfl 3 (by decide) (hts _ (m6 260 rfl)) (fun _ h9 => h9) rfl dX6_cut_21 ?_
      refine va_get (D := D) (ci := 2) (v := .int (bI (z.1.1 = true))) (C := RX2) (T := TX2) (N := 8) hx hb hts u6_X2 hown hK hP 1 rfl rfl 2 (by decide) (hts _ (m6 292 rfl)) (fun _ h9 => h9) rfl dX6_cut_24 ?_
      refine lv_if_ne (tgt := 40) hx hb dX6_cut_27 (by decide) (fun c27_3 => ?_) (fun c27_3 => ?_)
      · skip
        have c27_3 := bI_t c27_3
        refine lv_aload_n hx hb dX6_cut_40 rfl (lv_at hl 0 rfl) ?_
        refine va_get (D := D) (ci := 6) (v := .ref ho) (C := RX6) (T := TX6) (N := 6) hx hb hts u6_X6 hown hK hP 0 rfl rfl 1 (by decide) (hts _ (m6 254 rfl)) (fun _ h9 => h9) rfl dX6_cut_41 ?_
        refine lv_aload_n hx hb dX6_cut_44 rfl (lv_at hl 0 rfl) ?_
        refine va_get (D := D) (ci := 6) (v := .ref (dg 0)) (C := RX6) (T := TX6) (N := 6) hx hb hts u6_X6 hown hK hP 0 rfl rfl 3 (by decide) (hts _ (m6 260 rfl)) (fun _ h9 => h9) rfl dX6_cut_45 ?_
        refine bq_backv (bq_runV hX good6 (m6 253 rfl) (c1_remember l D cI cL ho sa sf nx ct hnx hct dh dg zh z hBh (inv_B hz) hsf) q1_remember rfl (m6 367 rfl) (m6 368 rfl) (m6 369 rfl) ⟨Nat.le_of_ble_eq_true rfl, Nat.le_of_ble_eq_true rfl⟩ hK hN [0, 1] rfl hP hD [2, 3, 4, 1] (by decide) rfl (ci := 1) (q0 := 0) rfl rfl rfl hl.1 rfl (Nat.le_of_ble_eq_true rfl) dX6_cut_48 ⟨Nat.zero_le _, Nat.zero_le _⟩) hP hD hS [2, 3, 4, 1] rfl (fun u h => by rw [h]; rfl) (fun u H locs hpost hP hD hS => ?_)
        subst hpost
        have hP : va_P D vwCl (bw [[(ob, .inr (6, [.ref so, .ref ho, .ref sl, .ref (dg 0), .ref (dc 0), .ref (dt 0)]))], zL cI dg z, [(ho, .inr (1, [.ref sa, .int (nI ((nx + 1) % 14)), .int (nI (if 14 < ct + 1 then 14 else ct + 1))]))], [(sa, .inl (cL, 14, .inr (.inr (.inr (.inr sf)))))], zL cI dh z]) H := hP
        have hD : va_D A (bw [[(ob, .inr (6, [.ref so, .ref ho, .ref sl, .ref (dg 0), .ref (dc 0), .ref (dt 0)]))], zL cI dg z, [(ho, .inr (1, [.ref sa, .int (nI ((nx + 1) % 14)), .int (nI (if 14 < ct + 1 then 14 else ct + 1))]))], [(sa, .inl (cL, 14, .inr (.inr (.inr (.inr sf)))))], zL cI dh z]) := hD
        refine lv_aload_n hx hb dX6_cut_51 rfl (lv_at hl 0 rfl) ?_
        refine va_get (D := D) (ci := 6) (v := .ref (dg 0)) (C := RX6) (T := TX6) (N := 6) hx hb hts u6_X6 hown hK hP 0 rfl rfl 3 (by decide) (hts _ (m6 260 rfl)) (fun _ h9 => h9) rfl dX6_cut_52 ?_
        refine va_get (D := D) (ci := 2) (v := .int (z.2.1 1)) (C := RX2) (T := TX2) (N := 8) hx hb hts u6_X2 hown hK hP 1 rfl rfl 4 (by decide) (hts _ (m6 293 rfl)) (fun _ h9 => h9) rfl dX6_cut_55 ?_
        refine lv_istore_n (lv' := [(2, .int (z.2.1 1)), (0, .ref ob), (1, .int (x))]) hx hb dX6_cut_58 rfl hl (by decide) rfl (fun ls hl => ?_)
        refine lv_aload_n hx hb dX6_cut_59 rfl (lv_at hl 1 rfl) ?_
        refine va_get (D := D) (ci := 6) (v := .ref (dg 0)) (C := RX6) (T := TX6) (N := 6) hx hb hts u6_X6 hown hK hP 0 rfl rfl 3 (by decide) (hts _ (m6 260 rfl)) (fun _ h9 => h9) rfl dX6_cut_60 ?_
        refine lv_iload_n hx hb dX6_cut_63 rfl (lv_at hl 2 rfl) ?_
        refine va_put (D := D) (ci := 2) (v := .int (x)) (ty := .int) (C := RX2) (T := TX2) (N := 8) hx hb hts u6_X2 tyX2 tyX2_ok nmX2 hown hK hP hD hS 1 rfl rfl 4 (by decide) (hts _ (m6 293 rfl)) (fun _ h9 => h9) rfl (by decide +kernel) rfl rfl (Nat.le_of_ble_eq_true rfl) dX6_cut_64 (fun H locs hP hD hS => ?_)
        have hP : va_P D vwCl (bw [[(ob, .inr (6, [.ref so, .ref ho, .ref sl, .ref (dg 0), .ref (dc 0), .ref (dt 0)]))], zL cI dg (zC z x), [(ho, .inr (1, [.ref sa, .int (nI ((nx + 1) % 14)), .int (nI (if 14 < ct + 1 then 14 else ct + 1))]))], [(sa, .inl (cL, 14, .inr (.inr (.inr (.inr sf)))))], zL cI dh z]) H := hP
        have hD : va_D A (bw [[(ob, .inr (6, [.ref so, .ref ho, .ref sl, .ref (dg 0), .ref (dc 0), .ref (dt 0)]))], zL cI dg (zC z x), [(ho, .inr (1, [.ref sa, .int (nI ((nx + 1) % 14)), .int (nI (if 14 < ct + 1 then 14 else ct + 1))]))], [(sa, .inl (cL, 14, .inr (.inr (.inr (.inr sf)))))], zL cI dh z]) := hD
        refine lv_iload_n hx hb dX6_cut_67 rfl (lv_at hl 0 rfl) ?_
        exact ge_ret hX hr hlocks hS hP ⟨by rw [c6cut, if_pos ⟨c1_1, c7_2⟩, if_pos c27_3], rfl, rfl⟩ (Nat.le_of_ble_eq_true rfl) (Nat.le_of_ble_eq_true rfl) dX6_cut_68
      · skip
        have c27_3 := bI_f c27_3
        exact ge_tis hst hX hEx hnt hlocks hE hSW hZ hS hP (m6 274 rfl) (m6 275 rfl) (show (162, _) ∈ xT from List.mem_of_getElem? (i := 9) rfl) ⟨Or.inr (⟨rfl, by rw [c6cut, if_pos ⟨c1_1, c7_2⟩, if_neg c27_3]⟩), rfl⟩ hl.1 dX6_cut_30 dX6_cut_33 dX6_cut_34 dX6_cut_36 dX6_cut_39 (Nat.le_of_ble_eq_true rfl) (Nat.le_of_ble_eq_true rfl) (Nat.le_of_ble_eq_true rfl) (Nat.le_of_ble_eq_true rfl) (Nat.le_of_ble_eq_true rfl) (Nat.le_of_ble_eq_true rfl)
    · skip
      have c7_2 := i_lt c7_2
      exact ge_tia hst hX hEx hnt hlocks hE hSW hZ hS hP (m6 272 rfl) (m6 273 rfl) (show (205, _) ∈ xT from List.mem_of_getElem? (i := 16) rfl) ⟨Or.inl ⟨rfl, by rw [c6cut, if_neg (fun y => y.2 c7_2)]⟩, rfl⟩ hl.1 dX6_cut_10 dX6_cut_13 dX6_cut_14 dX6_cut_16 dX6_cut_19 (Nat.le_of_ble_eq_true rfl) (Nat.le_of_ble_eq_true rfl) (Nat.le_of_ble_eq_true rfl) (Nat.le_of_ble_eq_true rfl) (Nat.le_of_ble_eq_true rfl) (Nat.le_of_ble_eq_true rfl)
theorem dX6_start_0 : decode cX6_start 0 = .ok (.aload_n 0, 1) := by decide +kernel
theorem dX6_start_1 : decode cX6_start 1 = .ok (.getfield 33, 3) := by decide +kernel
theorem dX6_start_4 : decode cX6_start 4 = .ok (.getfield 158, 3) := by decide +kernel
theorem dX6_start_7 : decode cX6_start 7 = .ok (.ifCond .eq 13, 3) := by decide +kernel
theorem dX6_start_10 : decode cX6_start 10 = .ok (.new 54, 3) := by decide +kernel
theorem dX6_start_13 : decode cX6_start 13 = .ok (.dup, 1) := by decide +kernel
theorem dX6_start_14 : decode cX6_start 14 = .ok (.ldc 210, 2) := by decide +kernel
theorem dX6_start_16 : decode cX6_start 16 = .ok (.invokespecial 58, 3) := by decide +kernel
theorem dX6_start_19 : decode cX6_start 19 = .ok (.athrow, 1) := by decide +kernel
theorem dX6_start_20 : decode cX6_start 20 = .ok (.aload_n 0, 1) := by decide +kernel
theorem dX6_start_21 : decode cX6_start 21 = .ok (.getfield 19, 3) := by decide +kernel
theorem dX6_start_24 : decode cX6_start 24 = .ok (.aload_n 0, 1) := by decide +kernel
theorem dX6_start_25 : decode cX6_start 25 = .ok (.getfield 33, 3) := by decide +kernel
theorem dX6_start_28 : decode cX6_start 28 = .ok (.invokevirtual 188, 3) := by decide +kernel
theorem dX6_start_31 : decode cX6_start 31 = .ok (.aload_n 0, 1) := by decide +kernel
theorem dX6_start_32 : decode cX6_start 32 = .ok (.getfield 33, 3) := by decide +kernel
theorem dX6_start_35 : decode cX6_start 35 = .ok (.invokevirtual 212, 3) := by decide +kernel
theorem dX6_start_38 : decode cX6_start 38 = .ok (.pop, 1) := by decide +kernel
theorem dX6_start_39 : decode cX6_start 39 = .ok (.aload_n 0, 1) := by decide +kernel
theorem dX6_start_40 : decode cX6_start 40 = .ok (.getfield 33, 3) := by decide +kernel
theorem dX6_start_43 : decode cX6_start 43 = .ok (.getfield 122, 3) := by decide +kernel
theorem dX6_start_46 : decode cX6_start 46 = .ok (.invokevirtual 215, 3) := by decide +kernel
theorem dX6_start_49 : decode cX6_start 49 = .ok (.ireturn, 1) := by decide +kernel
set_option maxHeartbeats 4000000 in
set_option maxRecDepth 100000 in
theorem c6_start (l : Launch) (hst : l.stackTraces = false)  (D : va_G) (cI cL : ClassId) (ob so ho sl : Nat) (dg dc dt : Nat → Nat) (z : LgS) (hz : Inv z) (sa : Nat) (sf : Nat → Option Nat) (nx ct : Nat) (hnx : nx < 14) (hct : ct ≤ 14) (dh : Nat → Nat) (zh : LgS) (hBh : zh.1.2 ≤ 8) (hsf : sf nx = some (dh 0))  : GE l yX6_start cX6_start 1 6 144 D [[(ob, .inr (6, [.ref so, .ref ho, .ref sl, .ref (dg 0), .ref (dc 0), .ref (dt 0)]))], zL cI dg z, [(ho, .inr (1, [.ref sa, .int (nI (nx)), .int (nI (ct))]))], [(sa, .inl (cL, 14, .inr (.inr (.inr (.inr sf)))))], zL cI dh zh] [(cI, .int), (cL, (.object "TornPageLog$Log"))] [.ref ob] (fun (r9 : Int32) (u9 : List va_W) => (c6sta z) = 0 ∧ r9 = (nI (ckZ (zSw z) 16)) ∧ u9 = [[(ob, .inr (6, [.ref so, .ref ho, .ref sl, .ref (dg 0), .ref (dc 0), .ref (dt 0)]))], zL cI dg (zSw z), [(ho, .inr (1, [.ref sa, .int (nI ((nx + 1) % 14)), .int (nI (if 14 < ct + 1 then 14 else ct + 1))]))], [(sa, .inl (cL, 14, .inr (.inr (.inr (.inr sf)))))], zL cI dh z]) (fun (e9 : String) (u9 : List va_W) => ((e9 = xIS ∧ (c6sta z) = 1)) ∧ u9 = [[(ob, .inr (6, [.ref so, .ref ho, .ref sl, .ref (dg 0), .ref (dc 0), .ref (dt 0)]))], zL cI dg z, [(ho, .inr (1, [.ref sa, .int (nI (nx)), .int (nI (ct))]))], [(sa, .inl (cL, 14, .inr (.inr (.inr (.inr sf)))))], zL cI dh zh]) := by
  refine ge_of (by decide) rfl (Nat.le_of_ble_eq_true rfl) ?_
  intro p e s m below meth c ls H hX hEx hnt hr hlocks hK hN hE hSW hZ hP hD hS hl
  generalize gp_A (bw [[(ob, .inr (6, [.ref so, .ref ho, .ref sl, .ref (dg 0), .ref (dc 0), .ref (dt 0)]))], zL cI dg z, [(ho, .inr (1, [.ref sa, .int (nI (nx)), .int (nI (ct))]))], [(sa, .inl (cL, 14, .inr (.inr (.inr (.inr sf)))))], zL cI dh zh]) = A at hZ hD hS ⊢
  have hx := hX.1
  have hb := hX.2.1
  have hown := hX.2.2.2.1
  have hts := hX.2.2.2.2
  have hl : lv_has ls 1 [(0, .ref ob)] := hl
  refine lv_aload_n hx hb dX6_start_0 rfl (lv_at hl 0 rfl) ?_
  refine va_get (D := D) (ci := 6) (v := .ref (dg 0)) (C := RX6) (T := TX6) (N := 6) hx hb hts u6_X6 hown hK hP 0 rfl rfl 3 (by decide) (hts _ (m6 260 rfl)) (fun _ h9 => h9) rfl dX6_start_1 ?_
  refine va_get (D := D) (ci := 2) (v := .int (bI (z.1.1 = true))) (C := RX2) (T := TX2) (N := 8) hx hb hts u6_X2 hown hK hP 1 rfl rfl 2 (by decide) (hts _ (m6 292 rfl)) (fun _ h9 => h9) rfl dX6_start_4 ?_
  refine lv_if_eq (tgt := 20) hx hb dX6_start_7 (by decide) (fun c7_1 => ?_) (fun c7_1 => ?_)
  · skip
    have c7_1 := bI_f c7_1
    refine lv_aload_n hx hb dX6_start_20 rfl (lv_at hl 0 rfl) ?_
    refine va_get (D := D) (ci := 6) (v := .ref ho) (C := RX6) (T := TX6) (N := 6) hx hb hts u6_X6 hown hK hP 0 rfl rfl 1 (by decide) (hts _ (m6 254 rfl)) (fun _ h9 => h9) rfl dX6_start_21 ?_
    refine lv_aload_n hx hb dX6_start_24 rfl (lv_at hl 0 rfl) ?_
    refine va_get (D := D) (ci := 6) (v := .ref (dg 0)) (C := RX6) (T := TX6) (N := 6) hx hb hts u6_X6 hown hK hP 0 rfl rfl 3 (by decide) (hts _ (m6 260 rfl)) (fun _ h9 => h9) rfl dX6_start_25 ?_
    refine bq_backv (bq_runV hX good6 (m6 253 rfl) (c1_remember l D cI cL ho sa sf nx ct hnx hct dh dg zh z hBh (inv_B hz) hsf) q1_remember rfl (m6 367 rfl) (m6 368 rfl) (m6 369 rfl) ⟨Nat.le_of_ble_eq_true rfl, Nat.le_of_ble_eq_true rfl⟩ hK hN [0, 1] rfl hP hD [2, 3, 4, 1] (by decide) rfl (ci := 1) (q0 := 0) rfl rfl rfl hl.1 rfl (Nat.le_of_ble_eq_true rfl) dX6_start_28 ⟨Nat.zero_le _, Nat.zero_le _⟩) hP hD hS [2, 3, 4, 1] rfl (fun u h => by rw [h]; rfl) (fun u H locs hpost hP hD hS => ?_)
    subst hpost
    have hP : va_P D vwCl (bw [[(ob, .inr (6, [.ref so, .ref ho, .ref sl, .ref (dg 0), .ref (dc 0), .ref (dt 0)]))], zL cI dg z, [(ho, .inr (1, [.ref sa, .int (nI ((nx + 1) % 14)), .int (nI (if 14 < ct + 1 then 14 else ct + 1))]))], [(sa, .inl (cL, 14, .inr (.inr (.inr (.inr sf)))))], zL cI dh z]) H := hP
    have hD : va_D A (bw [[(ob, .inr (6, [.ref so, .ref ho, .ref sl, .ref (dg 0), .ref (dc 0), .ref (dt 0)]))], zL cI dg z, [(ho, .inr (1, [.ref sa, .int (nI ((nx + 1) % 14)), .int (nI (if 14 < ct + 1 then 14 else ct + 1))]))], [(sa, .inl (cL, 14, .inr (.inr (.inr (.inr sf)))))], zL cI dh z]) := hD
    refine lv_aload_n hx hb dX6_start_31 rfl (lv_at hl 0 rfl) ?_
    refine va_get (D := D) (ci := 6) (v := .ref (dg 0)) (C := RX6) (T := TX6) (N := 6) hx hb hts u6_X6 hown hK hP 0 rfl rfl 3 (by decide) (hts _ (m6 260 rfl)) (fun _ h9 => h9) rfl dX6_start_32 ?_
    refine bq_backi (bq_runV hX good6 (m6 83 rfl) (b2_switchOn l D cI dg z (inv_B hz)) q2_switchOn rfl (m6 310 rfl) (m6 311 rfl) (m6 312 rfl) ⟨Nat.le_of_ble_eq_true rfl, Nat.le_of_ble_eq_true rfl⟩ hK hN [0] rfl hP hD [1] (by decide) rfl (ci := 2) (q0 := 0) rfl rfl rfl hl.1 rfl (Nat.le_of_ble_eq_true rfl) dX6_start_35 ⟨Nat.zero_le _, Nat.zero_le _⟩) hP hD hS [1] rfl (fun r u h => by obtain ⟨-, rfl⟩ := h; rfl) (fun r9 u H locs hpost hP hD hS => ?_)
    obtain ⟨hr9, rfl⟩ := hpost
    refine lv_as hr9 ?_
    have hP : va_P D vwCl (bw [[(ob, .inr (6, [.ref so, .ref ho, .ref sl, .ref (dg 0), .ref (dc 0), .ref (dt 0)]))], zL cI dg (zSw z), [(ho, .inr (1, [.ref sa, .int (nI ((nx + 1) % 14)), .int (nI (if 14 < ct + 1 then 14 else ct + 1))]))], [(sa, .inl (cL, 14, .inr (.inr (.inr (.inr sf)))))], zL cI dh z]) H := hP
    have hD : va_D A (bw [[(ob, .inr (6, [.ref so, .ref ho, .ref sl, .ref (dg 0), .ref (dc 0), .ref (dt 0)]))], zL cI dg (zSw z), [(ho, .inr (1, [.ref sa, .int (nI ((nx + 1) % 14)), .int (nI (if 14 < ct + 1 then 14 else ct + 1))]))], [(sa, .inl (cL, 14, .inr (.inr (.inr (.inr sf)))))], zL cI dh z]) := hD
    refine lv_pop hx hb dX6_start_38 rfl ?_
    refine lv_aload_n hx hb dX6_start_39 rfl (lv_at hl 0 rfl) ?_
    refine va_get (D := D) (ci := 6) (v := .ref (dg 0)) (C := RX6) (T := TX6) (N := 6) hx hb hts u6_X6 hown hK hP 0 rfl rfl 3 (by decide) (hts _ (m6 260 rfl)) (fun _ h9 => h9) rfl dX6_start_40 ?_
    refine va_get (D := D) (ci := 2) (v := .ref (dg 1)) (C := RX2) (T := TX2) (N := 8) hx hb hts u6_X2 hown hK hP 1 rfl rfl 0 (by decide) (hts _ (m6 301 rfl)) (fun _ h9 => h9) rfl dX6_start_43 ?_
    refine bq_readV hX good6 (m6 23 rfl) (b0_countKeys l D cI dg (zSw z) (inv_B (inv_zSw hz)) ) q0_countKeys rfl (m6 371 rfl) (m6 120 rfl) (m6 121 rfl) ⟨Nat.le_of_ble_eq_true rfl, Nat.le_of_ble_eq_true rfl⟩ hK hN [0] rfl hP [1] rfl (ci := 0) (q0 := 1) rfl rfl rfl hS hl.1 rfl (Nat.le_of_ble_eq_true rfl) dX6_start_46 ⟨Nat.zero_le _, Nat.zero_le _⟩ (fun H locs hP hS => ?_)
    exact ge_ret hX hr hlocks hS hP ⟨by rw [c6sta, if_neg c7_1], rfl, rfl⟩ (Nat.le_of_ble_eq_true rfl) (Nat.le_of_ble_eq_true rfl) dX6_start_49
  · skip
    have c7_1 := bI_t c7_1
    exact ge_tis hst hX hEx hnt hlocks hE hSW hZ hS hP (m6 274 rfl) (m6 275 rfl) (show (210, _) ∈ xT from List.mem_of_getElem? (i := 17) rfl) ⟨⟨rfl, by rw [c6sta, if_pos c7_1]⟩, rfl⟩ hl.1 dX6_start_10 dX6_start_13 dX6_start_14 dX6_start_16 dX6_start_19 (Nat.le_of_ble_eq_true rfl) (Nat.le_of_ble_eq_true rfl) (Nat.le_of_ble_eq_true rfl) (Nat.le_of_ble_eq_true rfl) (Nat.le_of_ble_eq_true rfl) (Nat.le_of_ble_eq_true rfl)
theorem dX6_setPolicy_0 : decode cX6_setPolicy 0 = .ok (.iload_n 1, 1) := by decide +kernel
theorem dX6_setPolicy_1 : decode cX6_setPolicy 1 = .ok (.ifCond .lt 8, 3) := by decide +kernel
theorem dX6_setPolicy_4 : decode cX6_setPolicy 4 = .ok (.iload_n 1, 1) := by decide +kernel
theorem dX6_setPolicy_5 : decode cX6_setPolicy 5 = .ok (.iconst 2, 1) := by decide +kernel
theorem dX6_setPolicy_6 : decode cX6_setPolicy 6 = .ok (.if_icmp .le 13, 3) := by decide +kernel
theorem dX6_setPolicy_9 : decode cX6_setPolicy 9 = .ok (.new 43, 3) := by decide +kernel
theorem dX6_setPolicy_12 : decode cX6_setPolicy 12 = .ok (.dup, 1) := by decide +kernel
theorem dX6_setPolicy_13 : decode cX6_setPolicy 13 = .ok (.ldc 218, 2) := by decide +kernel
theorem dX6_setPolicy_15 : decode cX6_setPolicy 15 = .ok (.invokespecial 47, 3) := by decide +kernel
theorem dX6_setPolicy_18 : decode cX6_setPolicy 18 = .ok (.athrow, 1) := by decide +kernel
theorem dX6_setPolicy_19 : decode cX6_setPolicy 19 = .ok (.aload_n 0, 1) := by decide +kernel
theorem dX6_setPolicy_20 : decode cX6_setPolicy 20 = .ok (.getfield 19, 3) := by decide +kernel
theorem dX6_setPolicy_23 : decode cX6_setPolicy 23 = .ok (.aload_n 0, 1) := by decide +kernel
theorem dX6_setPolicy_24 : decode cX6_setPolicy 24 = .ok (.getfield 33, 3) := by decide +kernel
theorem dX6_setPolicy_27 : decode cX6_setPolicy 27 = .ok (.invokevirtual 188, 3) := by decide +kernel
theorem dX6_setPolicy_30 : decode cX6_setPolicy 30 = .ok (.aload_n 0, 1) := by decide +kernel
theorem dX6_setPolicy_31 : decode cX6_setPolicy 31 = .ok (.getfield 33, 3) := by decide +kernel
theorem dX6_setPolicy_34 : decode cX6_setPolicy 34 = .ok (.getfield 220, 3) := by decide +kernel
theorem dX6_setPolicy_37 : decode cX6_setPolicy 37 = .ok (.istore_n 2, 1) := by decide +kernel
theorem dX6_setPolicy_38 : decode cX6_setPolicy 38 = .ok (.aload_n 0, 1) := by decide +kernel
theorem dX6_setPolicy_39 : decode cX6_setPolicy 39 = .ok (.getfield 33, 3) := by decide +kernel
theorem dX6_setPolicy_42 : decode cX6_setPolicy 42 = .ok (.iload_n 1, 1) := by decide +kernel
theorem dX6_setPolicy_43 : decode cX6_setPolicy 43 = .ok (.putfield 220, 3) := by decide +kernel
theorem dX6_setPolicy_46 : decode cX6_setPolicy 46 = .ok (.iload_n 2, 1) := by decide +kernel
theorem dX6_setPolicy_47 : decode cX6_setPolicy 47 = .ok (.ireturn, 1) := by decide +kernel
set_option maxHeartbeats 4000000 in
set_option maxRecDepth 100000 in
theorem c6_setPolicy (l : Launch) (hst : l.stackTraces = false)  (D : va_G) (cI cL : ClassId) (ob so ho sl : Nat) (dg dc dt : Nat → Nat) (z : LgS) (hz : Inv z) (sa : Nat) (sf : Nat → Option Nat) (nx ct : Nat) (hnx : nx < 14) (hct : ct ≤ 14) (dh : Nat → Nat) (zh : LgS) (hBh : zh.1.2 ≤ 8) (hsf : sf nx = some (dh 0)) (x : Int32) : GE l yX6_setPolicy cX6_setPolicy 3 6 144 D [[(ob, .inr (6, [.ref so, .ref ho, .ref sl, .ref (dg 0), .ref (dc 0), .ref (dt 0)]))], zL cI dg z, [(ho, .inr (1, [.ref sa, .int (nI (nx)), .int (nI (ct))]))], [(sa, .inl (cL, 14, .inr (.inr (.inr (.inr sf)))))], zL cI dh zh] [(cI, .int), (cL, (.object "TornPageLog$Log"))] [.ref ob, .int (x)] (fun (r9 : Int32) (u9 : List va_W) => (c6r x 2) = 0 ∧ r9 = (z.2.1 0) ∧ u9 = [[(ob, .inr (6, [.ref so, .ref ho, .ref sl, .ref (dg 0), .ref (dc 0), .ref (dt 0)]))], zL cI dg (zPo z x), [(ho, .inr (1, [.ref sa, .int (nI ((nx + 1) % 14)), .int (nI (if 14 < ct + 1 then 14 else ct + 1))]))], [(sa, .inl (cL, 14, .inr (.inr (.inr (.inr sf)))))], zL cI dh z]) (fun (e9 : String) (u9 : List va_W) => ((e9 = xIA ∧ (c6r x 2) = 1)) ∧ u9 = [[(ob, .inr (6, [.ref so, .ref ho, .ref sl, .ref (dg 0), .ref (dc 0), .ref (dt 0)]))], zL cI dg z, [(ho, .inr (1, [.ref sa, .int (nI (nx)), .int (nI (ct))]))], [(sa, .inl (cL, 14, .inr (.inr (.inr (.inr sf)))))], zL cI dh zh]) := by
  refine ge_of (by decide) rfl (Nat.le_of_ble_eq_true rfl) ?_
  intro p e s m below meth c ls H hX hEx hnt hr hlocks hK hN hE hSW hZ hP hD hS hl
  generalize gp_A (bw [[(ob, .inr (6, [.ref so, .ref ho, .ref sl, .ref (dg 0), .ref (dc 0), .ref (dt 0)]))], zL cI dg z, [(ho, .inr (1, [.ref sa, .int (nI (nx)), .int (nI (ct))]))], [(sa, .inl (cL, 14, .inr (.inr (.inr (.inr sf)))))], zL cI dh zh]) = A at hZ hD hS ⊢
  have hx := hX.1
  have hb := hX.2.1
  have hown := hX.2.2.2.1
  have hts := hX.2.2.2.2
  have hl : lv_has ls 3 [(0, .ref ob), (1, .int (x))] := hl
  refine lv_iload_n hx hb dX6_setPolicy_0 rfl (lv_at hl 1 rfl) ?_
  refine lv_if_lt (tgt := 9) hx hb dX6_setPolicy_1 (by decide) (fun c1_1 => ?_) (fun c1_1 => ?_)
  · skip
    exact ge_tia hst hX hEx hnt hlocks hE hSW hZ hS hP (m6 272 rfl) (m6 273 rfl) (show (218, _) ∈ xT from List.mem_of_getElem? (i := 18) rfl) ⟨⟨rfl, by rw [c6r, if_neg (fun y => y.1 c1_1)]⟩, rfl⟩ hl.1 dX6_setPolicy_9 dX6_setPolicy_12 dX6_setPolicy_13 dX6_setPolicy_15 dX6_setPolicy_18 (Nat.le_of_ble_eq_true rfl) (Nat.le_of_ble_eq_true rfl) (Nat.le_of_ble_eq_true rfl) (Nat.le_of_ble_eq_true rfl) (Nat.le_of_ble_eq_true rfl) (Nat.le_of_ble_eq_true rfl)
  · skip
    refine lv_iload_n hx hb dX6_setPolicy_4 rfl (lv_at hl 1 rfl) ?_
    refine lv_iconst (v := 2) hx hb dX6_setPolicy_5 (by decide) ?_
    refine lv_icmp_le (tgt := 19) hx hb dX6_setPolicy_6 (by decide) (fun c6_2 => ?_) (fun c6_2 => ?_)
    · skip
      have c6_2 := i_nlt c6_2
      refine lv_aload_n hx hb dX6_setPolicy_19 rfl (lv_at hl 0 rfl) ?_
      refine va_get (D := D) (ci := 6) (v := .ref ho) (C := RX6) (T := TX6) (N := 6) hx hb hts u6_X6 hown hK hP 0 rfl rfl 1 (by decide) (hts _ (m6 254 rfl)) (fun _ h9 => h9) rfl dX6_setPolicy_20 ?_
      refine lv_aload_n hx hb dX6_setPolicy_23 rfl (lv_at hl 0 rfl) ?_
      refine va_get (D := D) (ci := 6) (v := .ref (dg 0)) (C := RX6) (T := TX6) (N := 6) hx hb hts u6_X6 hown hK hP 0 rfl rfl 3 (by decide) (hts _ (m6 260 rfl)) (fun _ h9 => h9) rfl dX6_setPolicy_24 ?_
      refine bq_backv (bq_runV hX good6 (m6 253 rfl) (c1_remember l D cI cL ho sa sf nx ct hnx hct dh dg zh z hBh (inv_B hz) hsf) q1_remember rfl (m6 367 rfl) (m6 368 rfl) (m6 369 rfl) ⟨Nat.le_of_ble_eq_true rfl, Nat.le_of_ble_eq_true rfl⟩ hK hN [0, 1] rfl hP hD [2, 3, 4, 1] (by decide) rfl (ci := 1) (q0 := 0) rfl rfl rfl hl.1 rfl (Nat.le_of_ble_eq_true rfl) dX6_setPolicy_27 ⟨Nat.zero_le _, Nat.zero_le _⟩) hP hD hS [2, 3, 4, 1] rfl (fun u h => by rw [h]; rfl) (fun u H locs hpost hP hD hS => ?_)
      subst hpost
      have hP : va_P D vwCl (bw [[(ob, .inr (6, [.ref so, .ref ho, .ref sl, .ref (dg 0), .ref (dc 0), .ref (dt 0)]))], zL cI dg z, [(ho, .inr (1, [.ref sa, .int (nI ((nx + 1) % 14)), .int (nI (if 14 < ct + 1 then 14 else ct + 1))]))], [(sa, .inl (cL, 14, .inr (.inr (.inr (.inr sf)))))], zL cI dh z]) H := hP
      have hD : va_D A (bw [[(ob, .inr (6, [.ref so, .ref ho, .ref sl, .ref (dg 0), .ref (dc 0), .ref (dt 0)]))], zL cI dg z, [(ho, .inr (1, [.ref sa, .int (nI ((nx + 1) % 14)), .int (nI (if 14 < ct + 1 then 14 else ct + 1))]))], [(sa, .inl (cL, 14, .inr (.inr (.inr (.inr sf)))))], zL cI dh z]) := hD
      refine lv_aload_n hx hb dX6_setPolicy_30 rfl (lv_at hl 0 rfl) ?_
      refine va_get (D := D) (ci := 6) (v := .ref (dg 0)) (C := RX6) (T := TX6) (N := 6) hx hb hts u6_X6 hown hK hP 0 rfl rfl 3 (by decide) (hts _ (m6 260 rfl)) (fun _ h9 => h9) rfl dX6_setPolicy_31 ?_
      refine va_get (D := D) (ci := 2) (v := .int (z.2.1 0)) (C := RX2) (T := TX2) (N := 8) hx hb hts u6_X2 hown hK hP 1 rfl rfl 3 (by decide) (hts _ (m6 302 rfl)) (fun _ h9 => h9) rfl dX6_setPolicy_34 ?_
      refine lv_istore_n (lv' := [(2, .int (z.2.1 0)), (0, .ref ob), (1, .int (x))]) hx hb dX6_setPolicy_37 rfl hl (by decide) rfl (fun ls hl => ?_)
      refine lv_aload_n hx hb dX6_setPolicy_38 rfl (lv_at hl 1 rfl) ?_
      refine va_get (D := D) (ci := 6) (v := .ref (dg 0)) (C := RX6) (T := TX6) (N := 6) hx hb hts u6_X6 hown hK hP 0 rfl rfl 3 (by decide) (hts _ (m6 260 rfl)) (fun _ h9 => h9) rfl dX6_setPolicy_39 ?_
      refine lv_iload_n hx hb dX6_setPolicy_42 rfl (lv_at hl 2 rfl) ?_
      refine va_put (D := D) (ci := 2) (v := .int (x)) (ty := .int) (C := RX2) (T := TX2) (N := 8) hx hb hts u6_X2 tyX2 tyX2_ok nmX2 hown hK hP hD hS 1 rfl rfl 3 (by decide) (hts _ (m6 302 rfl)) (fun _ h9 => h9) rfl (by decide +kernel) rfl rfl (Nat.le_of_ble_eq_true rfl) dX6_setPolicy_43 (fun H locs hP hD hS => ?_)
      have hP : va_P D vwCl (bw [[(ob, .inr (6, [.ref so, .ref ho, .ref sl, .ref (dg 0), .ref (dc 0), .ref (dt 0)]))], zL cI dg (zPo z x), [(ho, .inr (1, [.ref sa, .int (nI ((nx + 1) % 14)), .int (nI (if 14 < ct + 1 then 14 else ct + 1))]))], [(sa, .inl (cL, 14, .inr (.inr (.inr (.inr sf)))))], zL cI dh z]) H := hP
      have hD : va_D A (bw [[(ob, .inr (6, [.ref so, .ref ho, .ref sl, .ref (dg 0), .ref (dc 0), .ref (dt 0)]))], zL cI dg (zPo z x), [(ho, .inr (1, [.ref sa, .int (nI ((nx + 1) % 14)), .int (nI (if 14 < ct + 1 then 14 else ct + 1))]))], [(sa, .inl (cL, 14, .inr (.inr (.inr (.inr sf)))))], zL cI dh z]) := hD
      refine lv_iload_n hx hb dX6_setPolicy_46 rfl (lv_at hl 0 rfl) ?_
      exact ge_ret hX hr hlocks hS hP ⟨by rw [c6r, if_pos ⟨c1_1, c6_2⟩], rfl, rfl⟩ (Nat.le_of_ble_eq_true rfl) (Nat.le_of_ble_eq_true rfl) dX6_setPolicy_47
    · skip
      have c6_2 := i_lt c6_2
      exact ge_tia hst hX hEx hnt hlocks hE hSW hZ hS hP (m6 272 rfl) (m6 273 rfl) (show (218, _) ∈ xT from List.mem_of_getElem? (i := 18) rfl) ⟨⟨rfl, by rw [c6r, if_neg (fun y => y.2 c6_2)]⟩, rfl⟩ hl.1 dX6_setPolicy_9 dX6_setPolicy_12 dX6_setPolicy_13 dX6_setPolicy_15 dX6_setPolicy_18 (Nat.le_of_ble_eq_true rfl) (Nat.le_of_ble_eq_true rfl) (Nat.le_of_ble_eq_true rfl) (Nat.le_of_ble_eq_true rfl) (Nat.le_of_ble_eq_true rfl) (Nat.le_of_ble_eq_true rfl)
theorem dX6_undo_0 : decode cX6_undo 0 = .ok (.aload_n 0, 1) := by decide +kernel
theorem dX6_undo_1 : decode cX6_undo 1 = .ok (.getfield 19, 3) := by decide +kernel
theorem dX6_undo_4 : decode cX6_undo 4 = .ok (.getfield 223, 3) := by decide +kernel
theorem dX6_undo_7 : decode cX6_undo 7 = .ok (.ifCond .ne 13, 3) := by decide +kernel
theorem dX6_undo_10 : decode cX6_undo 10 = .ok (.new 54, 3) := by decide +kernel
theorem dX6_undo_13 : decode cX6_undo 13 = .ok (.dup, 1) := by decide +kernel
theorem dX6_undo_14 : decode cX6_undo 14 = .ok (.ldc 226, 2) := by decide +kernel
theorem dX6_undo_16 : decode cX6_undo 16 = .ok (.invokespecial 58, 3) := by decide +kernel
theorem dX6_undo_19 : decode cX6_undo 19 = .ok (.athrow, 1) := by decide +kernel
theorem dX6_undo_20 : decode cX6_undo 20 = .ok (.aload_n 0, 1) := by decide +kernel
theorem dX6_undo_21 : decode cX6_undo 21 = .ok (.getfield 19, 3) := by decide +kernel
theorem dX6_undo_24 : decode cX6_undo 24 = .ok (.aload_n 0, 1) := by decide +kernel
theorem dX6_undo_25 : decode cX6_undo 25 = .ok (.getfield 33, 3) := by decide +kernel
theorem dX6_undo_28 : decode cX6_undo 28 = .ok (.invokevirtual 228, 3) := by decide +kernel
theorem dX6_undo_31 : decode cX6_undo 31 = .ok (.aload_n 0, 1) := by decide +kernel
theorem dX6_undo_32 : decode cX6_undo 32 = .ok (.getfield 19, 3) := by decide +kernel
theorem dX6_undo_35 : decode cX6_undo 35 = .ok (.getfield 223, 3) := by decide +kernel
theorem dX6_undo_38 : decode cX6_undo 38 = .ok (.ireturn, 1) := by decide +kernel
set_option maxHeartbeats 4000000 in
set_option maxRecDepth 100000 in
theorem c6_undo (l : Launch) (hst : l.stackTraces = false)  (D : va_G) (cI cL : ClassId) (ob so ho sl : Nat) (dg dc dt : Nat → Nat) (z : LgS) (hz : Inv z) (sa : Nat) (sf : Nat → Option Nat) (nx ct : Nat) (hnx : nx < 14) (hct : ct ≤ 14) (dh : Nat → Nat) (zh : LgS) (hBh : zh.1.2 ≤ 8) (hsf : sf ((nx + 14 - 1) % 14) = some (dh 0))  : GE l yX6_undo cX6_undo 1 6 144 D [[(ob, .inr (6, [.ref so, .ref ho, .ref sl, .ref (dg 0), .ref (dc 0), .ref (dt 0)]))], zL cI dg z, [(ho, .inr (1, [.ref sa, .int (nI (nx)), .int (nI (ct))]))], [(sa, .inl (cL, 14, .inr (.inr (.inr (.inr sf)))))], zL cI dh zh] [(cI, .int), (cL, (.object "TornPageLog$Log"))] [.ref ob] (fun (r9 : Int32) (u9 : List va_W) => (c6und ct) = 0 ∧ r9 = (nI (ct - 1)) ∧ u9 = [[(ob, .inr (6, [.ref so, .ref ho, .ref sl, .ref (dg 0), .ref (dc 0), .ref (dt 0)]))], zL cI dg zh, [(ho, .inr (1, [.ref sa, .int (nI ((nx + 14 - 1) % 14)), .int (nI (ct - 1))]))], [(sa, .inl (cL, 14, .inr (.inr (.inr (.inr sf)))))], zL cI dh zh]) (fun (e9 : String) (u9 : List va_W) => ((e9 = xIS ∧ (c6und ct) = 1)) ∧ u9 = [[(ob, .inr (6, [.ref so, .ref ho, .ref sl, .ref (dg 0), .ref (dc 0), .ref (dt 0)]))], zL cI dg z, [(ho, .inr (1, [.ref sa, .int (nI (nx)), .int (nI (ct))]))], [(sa, .inl (cL, 14, .inr (.inr (.inr (.inr sf)))))], zL cI dh zh]) := by
  refine ge_of (by decide) rfl (Nat.le_of_ble_eq_true rfl) ?_
  intro p e s m below meth c ls H hX hEx hnt hr hlocks hK hN hE hSW hZ hP hD hS hl
  generalize gp_A (bw [[(ob, .inr (6, [.ref so, .ref ho, .ref sl, .ref (dg 0), .ref (dc 0), .ref (dt 0)]))], zL cI dg z, [(ho, .inr (1, [.ref sa, .int (nI (nx)), .int (nI (ct))]))], [(sa, .inl (cL, 14, .inr (.inr (.inr (.inr sf)))))], zL cI dh zh]) = A at hZ hD hS ⊢
  have hx := hX.1
  have hb := hX.2.1
  have hown := hX.2.2.2.1
  have hts := hX.2.2.2.2
  have hl : lv_has ls 1 [(0, .ref ob)] := hl
  refine lv_aload_n hx hb dX6_undo_0 rfl (lv_at hl 0 rfl) ?_
  refine va_get (D := D) (ci := 6) (v := .ref ho) (C := RX6) (T := TX6) (N := 6) hx hb hts u6_X6 hown hK hP 0 rfl rfl 1 (by decide) (hts _ (m6 254 rfl)) (fun _ h9 => h9) rfl dX6_undo_1 ?_
  refine va_get (D := D) (ci := 1) (v := .int (nI (ct))) (C := RX1) (T := TX1) (N := 3) hx hb hts u6_X1 hown hK hP 12 rfl rfl 2 (by decide) (hts _ (m6 372 rfl)) (fun _ h9 => h9) rfl dX6_undo_4 ?_
  refine lv_if_ne (tgt := 20) hx hb dX6_undo_7 (by decide) (fun c7_1 => ?_) (fun c7_1 => ?_)
  · skip
    have c7_1 := cn_ne (a := ct) (b := 0) (by omega) (by omega) c7_1
    refine lv_aload_n hx hb dX6_undo_20 rfl (lv_at hl 0 rfl) ?_
    refine va_get (D := D) (ci := 6) (v := .ref ho) (C := RX6) (T := TX6) (N := 6) hx hb hts u6_X6 hown hK hP 0 rfl rfl 1 (by decide) (hts _ (m6 254 rfl)) (fun _ h9 => h9) rfl dX6_undo_21 ?_
    refine lv_aload_n hx hb dX6_undo_24 rfl (lv_at hl 0 rfl) ?_
    refine va_get (D := D) (ci := 6) (v := .ref (dg 0)) (C := RX6) (T := TX6) (N := 6) hx hb hts u6_X6 hown hK hP 0 rfl rfl 3 (by decide) (hts _ (m6 260 rfl)) (fun _ h9 => h9) rfl dX6_undo_25 ?_
    refine bq_backv (bq_runV hX good6 (m6 253 rfl) (c1_takeBack l D cI cL ho sa sf nx ct hnx (by omega) hct dh dg zh z hBh (inv_B hz) hsf) q1_takeBack rfl (m6 373 rfl) (m6 374 rfl) (m6 375 rfl) ⟨Nat.le_of_ble_eq_true rfl, Nat.le_of_ble_eq_true rfl⟩ hK hN [0, 1] rfl hP hD [2, 3, 4, 1] (by decide) rfl (ci := 1) (q0 := 0) rfl rfl rfl hl.1 rfl (Nat.le_of_ble_eq_true rfl) dX6_undo_28 ⟨Nat.zero_le _, Nat.zero_le _⟩) hP hD hS [2, 3, 4, 1] rfl (fun u h => by rw [h]; rfl) (fun u H locs hpost hP hD hS => ?_)
    subst hpost
    have hP : va_P D vwCl (bw [[(ob, .inr (6, [.ref so, .ref ho, .ref sl, .ref (dg 0), .ref (dc 0), .ref (dt 0)]))], zL cI dg zh, [(ho, .inr (1, [.ref sa, .int (nI ((nx + 14 - 1) % 14)), .int (nI (ct - 1))]))], [(sa, .inl (cL, 14, .inr (.inr (.inr (.inr sf)))))], zL cI dh zh]) H := hP
    have hD : va_D A (bw [[(ob, .inr (6, [.ref so, .ref ho, .ref sl, .ref (dg 0), .ref (dc 0), .ref (dt 0)]))], zL cI dg zh, [(ho, .inr (1, [.ref sa, .int (nI ((nx + 14 - 1) % 14)), .int (nI (ct - 1))]))], [(sa, .inl (cL, 14, .inr (.inr (.inr (.inr sf)))))], zL cI dh zh]) := hD
    refine lv_aload_n hx hb dX6_undo_31 rfl (lv_at hl 0 rfl) ?_
    refine va_get (D := D) (ci := 6) (v := .ref ho) (C := RX6) (T := TX6) (N := 6) hx hb hts u6_X6 hown hK hP 0 rfl rfl 1 (by decide) (hts _ (m6 254 rfl)) (fun _ h9 => h9) rfl dX6_undo_32 ?_
    refine va_get (D := D) (ci := 1) (v := .int (nI (ct - 1))) (C := RX1) (T := TX1) (N := 3) hx hb hts u6_X1 hown hK hP 12 rfl rfl 2 (by decide) (hts _ (m6 372 rfl)) (fun _ h9 => h9) rfl dX6_undo_35 ?_
    exact ge_ret hX hr hlocks hS hP ⟨by rw [c6und, if_neg c7_1], rfl, rfl⟩ (Nat.le_of_ble_eq_true rfl) (Nat.le_of_ble_eq_true rfl) dX6_undo_38
  · skip
    have c7_1 := cn_eq (a := ct) (b := 0) (by omega) (by omega) c7_1
    exact ge_tis hst hX hEx hnt hlocks hE hSW hZ hS hP (m6 274 rfl) (m6 275 rfl) (show (226, _) ∈ xT from List.mem_of_getElem? (i := 19) rfl) ⟨⟨rfl, by rw [c6und, if_pos c7_1]⟩, rfl⟩ hl.1 dX6_undo_10 dX6_undo_13 dX6_undo_14 dX6_undo_16 dX6_undo_19 (Nat.le_of_ble_eq_true rfl) (Nat.le_of_ble_eq_true rfl) (Nat.le_of_ble_eq_true rfl) (Nat.le_of_ble_eq_true rfl) (Nat.le_of_ble_eq_true rfl) (Nat.le_of_ble_eq_true rfl)
theorem dX6_afterCut_0 : decode cX6_afterCut 0 = .ok (.iload_n 1, 1) := by decide +kernel
theorem dX6_afterCut_1 : decode cX6_afterCut 1 = .ok (.invokestatic 153, 3) := by decide +kernel
theorem dX6_afterCut_4 : decode cX6_afterCut 4 = .ok (.ifCond .eq 21, 3) := by decide +kernel
theorem dX6_afterCut_7 : decode cX6_afterCut 7 = .ok (.iload_n 2, 1) := by decide +kernel
theorem dX6_afterCut_8 : decode cX6_afterCut 8 = .ok (.invokestatic 177, 3) := by decide +kernel
theorem dX6_afterCut_11 : decode cX6_afterCut 11 = .ok (.ifCond .eq 14, 3) := by decide +kernel
theorem dX6_afterCut_14 : decode cX6_afterCut 14 = .ok (.iload_n 3, 1) := by decide +kernel
theorem dX6_afterCut_15 : decode cX6_afterCut 15 = .ok (.iconst 1, 1) := by decide +kernel
theorem dX6_afterCut_16 : decode cX6_afterCut 16 = .ok (.if_icmp .lt 9, 3) := by decide +kernel
theorem dX6_afterCut_19 : decode cX6_afterCut 19 = .ok (.iload_n 3, 1) := by decide +kernel
theorem dX6_afterCut_20 : decode cX6_afterCut 20 = .ok (.bipush 99, 2) := by decide +kernel
theorem dX6_afterCut_22 : decode cX6_afterCut 22 = .ok (.if_icmp .le 13, 3) := by decide +kernel
theorem dX6_afterCut_25 : decode cX6_afterCut 25 = .ok (.new 43, 3) := by decide +kernel
theorem dX6_afterCut_28 : decode cX6_afterCut 28 = .ok (.dup, 1) := by decide +kernel
theorem dX6_afterCut_29 : decode cX6_afterCut 29 = .ok (.ldc 234, 2) := by decide +kernel
theorem dX6_afterCut_31 : decode cX6_afterCut 31 = .ok (.invokespecial 47, 3) := by decide +kernel
theorem dX6_afterCut_34 : decode cX6_afterCut 34 = .ok (.athrow, 1) := by decide +kernel
theorem dX6_afterCut_35 : decode cX6_afterCut 35 = .ok (.aload_n 0, 1) := by decide +kernel
theorem dX6_afterCut_36 : decode cX6_afterCut 36 = .ok (.aload_n 0, 1) := by decide +kernel
theorem dX6_afterCut_37 : decode cX6_afterCut 37 = .ok (.getfield 33, 3) := by decide +kernel
theorem dX6_afterCut_40 : decode cX6_afterCut 40 = .ok (.invokevirtual 182, 3) := by decide +kernel
theorem dX6_afterCut_43 : decode cX6_afterCut 43 = .ok (.ifCond .ne 13, 3) := by decide +kernel
theorem dX6_afterCut_46 : decode cX6_afterCut 46 = .ok (.new 54, 3) := by decide +kernel
theorem dX6_afterCut_49 : decode cX6_afterCut 49 = .ok (.dup, 1) := by decide +kernel
theorem dX6_afterCut_50 : decode cX6_afterCut 50 = .ok (.ldc 186, 2) := by decide +kernel
theorem dX6_afterCut_52 : decode cX6_afterCut 52 = .ok (.invokespecial 58, 3) := by decide +kernel
theorem dX6_afterCut_55 : decode cX6_afterCut 55 = .ok (.athrow, 1) := by decide +kernel
theorem dX6_afterCut_56 : decode cX6_afterCut 56 = .ok (.aload_n 0, 1) := by decide +kernel
theorem dX6_afterCut_57 : decode cX6_afterCut 57 = .ok (.getfield 37, 3) := by decide +kernel
theorem dX6_afterCut_60 : decode cX6_afterCut 60 = .ok (.aload_n 0, 1) := by decide +kernel
theorem dX6_afterCut_61 : decode cX6_afterCut 61 = .ok (.getfield 33, 3) := by decide +kernel
theorem dX6_afterCut_64 : decode cX6_afterCut 64 = .ok (.invokevirtual 236, 3) := by decide +kernel
theorem dX6_afterCut_67 : decode cX6_afterCut 67 = .ok (.aload_n 0, 1) := by decide +kernel
theorem dX6_afterCut_68 : decode cX6_afterCut 68 = .ok (.getfield 37, 3) := by decide +kernel
theorem dX6_afterCut_71 : decode cX6_afterCut 71 = .ok (.iload_n 3, 1) := by decide +kernel
theorem dX6_afterCut_72 : decode cX6_afterCut 72 = .ok (.putfield 207, 3) := by decide +kernel
theorem dX6_afterCut_75 : decode cX6_afterCut 75 = .ok (.aload_n 0, 1) := by decide +kernel
theorem dX6_afterCut_76 : decode cX6_afterCut 76 = .ok (.getfield 37, 3) := by decide +kernel
theorem dX6_afterCut_79 : decode cX6_afterCut 79 = .ok (.iload_n 1, 1) := by decide +kernel
theorem dX6_afterCut_80 : decode cX6_afterCut 80 = .ok (.iload_n 2, 1) := by decide +kernel
theorem dX6_afterCut_81 : decode cX6_afterCut 81 = .ok (.invokevirtual 192, 3) := by decide +kernel
theorem dX6_afterCut_84 : decode cX6_afterCut 84 = .ok (.pop, 1) := by decide +kernel
theorem dX6_afterCut_85 : decode cX6_afterCut 85 = .ok (.aload_n 0, 1) := by decide +kernel
theorem dX6_afterCut_86 : decode cX6_afterCut 86 = .ok (.getfield 37, 3) := by decide +kernel
theorem dX6_afterCut_89 : decode cX6_afterCut 89 = .ok (.getfield 158, 3) := by decide +kernel
theorem dX6_afterCut_92 : decode cX6_afterCut 92 = .ok (.ifCond .ne 11, 3) := by decide +kernel
theorem dX6_afterCut_95 : decode cX6_afterCut 95 = .ok (.aload_n 0, 1) := by decide +kernel
theorem dX6_afterCut_96 : decode cX6_afterCut 96 = .ok (.getfield 37, 3) := by decide +kernel
theorem dX6_afterCut_99 : decode cX6_afterCut 99 = .ok (.invokevirtual 212, 3) := by decide +kernel
theorem dX6_afterCut_102 : decode cX6_afterCut 102 = .ok (.pop, 1) := by decide +kernel
theorem dX6_afterCut_103 : decode cX6_afterCut 103 = .ok (.aload_n 0, 1) := by decide +kernel
theorem dX6_afterCut_104 : decode cX6_afterCut 104 = .ok (.getfield 37, 3) := by decide +kernel
theorem dX6_afterCut_107 : decode cX6_afterCut 107 = .ok (.getfield 122, 3) := by decide +kernel
theorem dX6_afterCut_110 : decode cX6_afterCut 110 = .ok (.iload_n 1, 1) := by decide +kernel
theorem dX6_afterCut_111 : decode cX6_afterCut 111 = .ok (.invokevirtual 164, 3) := by decide +kernel
theorem dX6_afterCut_114 : decode cX6_afterCut 114 = .ok (.ireturn, 1) := by decide +kernel
set_option maxHeartbeats 4000000 in
set_option maxRecDepth 100000 in
theorem c6_afterCut (l : Launch) (hst : l.stackTraces = false)  (D : va_G) (cI : ClassId) (ob so ho sl : Nat) (dg dc dt : Nat → Nat) (z : LgS) (hz : Inv z) (zc : LgS) (hBc : zc.1.2 ≤ 8) (zt : LgS) (hBt : zt.1.2 ≤ 8) (x v w : Int32) : GE l yX6_afterCut cX6_afterCut 4 6 144 D [[(ob, .inr (6, [.ref so, .ref ho, .ref sl, .ref (dg 0), .ref (dc 0), .ref (dt 0)]))], zL cI dg z, zL cI dc zc, zL cI dt zt] [(cI, .int)] [.ref ob, .int (x), .int (v), .int (w)] (fun (r9 : Int32) (u9 : List va_W) => (c6afc z x v w) = 0 ∧ r9 = (vaZ (afZ z x.toNatClampNeg v w.toNatClampNeg) x) ∧ ∃ zc9 : LgS, ∃ zt9 : LgS, (zc9.1.2 ≤ 8) ∧ (zt9.1.2 ≤ 8) ∧ u9 = [[(ob, .inr (6, [.ref so, .ref ho, .ref sl, .ref (dg 0), .ref (dc 0), .ref (dt 0)]))], zL cI dg z, zL cI dc zc9, zL cI dt zt9]) (fun (e9 : String) (u9 : List va_W) => ((e9 = xIA ∧ (c6afc z x v w) = 1) ∨ (e9 = xIS ∧ (c6afc z x v w) = 2)) ∧ ∃ zc9 : LgS, ∃ zt9 : LgS, (zc9.1.2 ≤ 8) ∧ (zt9.1.2 ≤ 8) ∧ u9 = [[(ob, .inr (6, [.ref so, .ref ho, .ref sl, .ref (dg 0), .ref (dc 0), .ref (dt 0)]))], zL cI dg z, zL cI dc zc9, zL cI dt zt9]) := by
  refine ge_of (by decide) rfl (Nat.le_of_ble_eq_true rfl) ?_
  intro p e s m below meth c ls H hX hEx hnt hr hlocks hK hN hE hSW hZ hP hD hS hl
  generalize gp_A (bw [[(ob, .inr (6, [.ref so, .ref ho, .ref sl, .ref (dg 0), .ref (dc 0), .ref (dt 0)]))], zL cI dg z, zL cI dc zc, zL cI dt zt]) = A at hZ hD hS ⊢
  have hx := hX.1
  have hb := hX.2.1
  have hown := hX.2.2.2.1
  have hts := hX.2.2.2.2
  have hl : lv_has ls 4 [(0, .ref ob), (1, .int (x)), (2, .int (v)), (3, .int (w))] := hl
  refine lv_iload_n hx hb dX6_afterCut_0 rfl (lv_at hl 1 rfl) ?_
  refine rq_callS hX good6 (m6 31 rfl) (c6_isKey l D x) q6_isKey rfl (m6 356 rfl) (m6 357 rfl) ⟨Nat.le_of_ble_eq_true rfl, Nat.le_of_ble_eq_true rfl⟩ hK hN [] rfl hP [] rfl hS hl.1 rfl (Nat.le_of_ble_eq_true rfl) dX6_afterCut_1 ⟨Nat.zero_le _, Nat.zero_le _⟩ (fun H locs hP hS => ?_)
  refine lv_if_eq (tgt := 25) hx hb dX6_afterCut_4 (by decide) (fun c4_1 => ?_) (fun c4_1 => ?_)
  · skip
    have c4_1 := bI_f c4_1
    exact ge_tia hst hX hEx hnt hlocks hE hSW hZ hS hP (m6 272 rfl) (m6 273 rfl) (show (234, _) ∈ xT from List.mem_of_getElem? (i := 20) rfl) ⟨Or.inl ⟨rfl, by rw [c6afc, if_neg (fun y => c4_1 y.1)]⟩, _, _, hBc, hBt, rfl⟩ hl.1 dX6_afterCut_25 dX6_afterCut_28 dX6_afterCut_29 dX6_afterCut_31 dX6_afterCut_34 (Nat.le_of_ble_eq_true rfl) (Nat.le_of_ble_eq_true rfl) (Nat.le_of_ble_eq_true rfl) (Nat.le_of_ble_eq_true rfl) (Nat.le_of_ble_eq_true rfl) (Nat.le_of_ble_eq_true rfl)
  · skip
    have c4_1 := bI_t c4_1
    refine lv_iload_n hx hb dX6_afterCut_7 rfl (lv_at hl 2 rfl) ?_
    refine rq_callS hX good6 (m6 31 rfl) (c6_isValue l D v) q6_isValue rfl (m6 364 rfl) (m6 365 rfl) ⟨Nat.le_of_ble_eq_true rfl, Nat.le_of_ble_eq_true rfl⟩ hK hN [] rfl hP [] rfl hS hl.1 rfl (Nat.le_of_ble_eq_true rfl) dX6_afterCut_8 ⟨Nat.zero_le _, Nat.zero_le _⟩ (fun H locs hP hS => ?_)
    refine lv_if_eq (tgt := 25) hx hb dX6_afterCut_11 (by decide) (fun c11_2 => ?_) (fun c11_2 => ?_)
    · skip
      have c11_2 := bI_f c11_2
      exact ge_tia hst hX hEx hnt hlocks hE hSW hZ hS hP (m6 272 rfl) (m6 273 rfl) (show (234, _) ∈ xT from List.mem_of_getElem? (i := 20) rfl) ⟨Or.inl ⟨rfl, by rw [c6afc, if_neg (fun y => c11_2 y.2.1)]⟩, _, _, hBc, hBt, rfl⟩ hl.1 dX6_afterCut_25 dX6_afterCut_28 dX6_afterCut_29 dX6_afterCut_31 dX6_afterCut_34 (Nat.le_of_ble_eq_true rfl) (Nat.le_of_ble_eq_true rfl) (Nat.le_of_ble_eq_true rfl) (Nat.le_of_ble_eq_true rfl) (Nat.le_of_ble_eq_true rfl) (Nat.le_of_ble_eq_true rfl)
    · skip
      have c11_2 := bI_t c11_2
      refine lv_iload_n hx hb dX6_afterCut_14 rfl (lv_at hl 3 rfl) ?_
      refine lv_iconst (v := 1) hx hb dX6_afterCut_15 (by decide) ?_
      refine lv_icmp_lt (tgt := 25) hx hb dX6_afterCut_16 (by decide) (fun c16_3 => ?_) (fun c16_3 => ?_)
      · skip
        exact ge_tia hst hX hEx hnt hlocks hE hSW hZ hS hP (m6 272 rfl) (m6 273 rfl) (show (234, _) ∈ xT from List.mem_of_getElem? (i := 20) rfl) ⟨Or.inl ⟨rfl, by rw [c6afc, if_neg (fun y => y.2.2.1 c16_3)]⟩, _, _, hBc, hBt, rfl⟩ hl.1 dX6_afterCut_25 dX6_afterCut_28 dX6_afterCut_29 dX6_afterCut_31 dX6_afterCut_34 (Nat.le_of_ble_eq_true rfl) (Nat.le_of_ble_eq_true rfl) (Nat.le_of_ble_eq_true rfl) (Nat.le_of_ble_eq_true rfl) (Nat.le_of_ble_eq_true rfl) (Nat.le_of_ble_eq_true rfl)
      · skip
        refine lv_iload_n hx hb dX6_afterCut_19 rfl (lv_at hl 3 rfl) ?_
        refine lv_bipush (v := 99) hx hb dX6_afterCut_20 (by decide) ?_
        refine lv_icmp_le (tgt := 35) hx hb dX6_afterCut_22 (by decide) (fun c22_4 => ?_) (fun c22_4 => ?_)
        · skip
          have c22_4 := i_nlt c22_4
          refine lv_aload_n hx hb dX6_afterCut_35 rfl (lv_at hl 0 rfl) ?_
          refine lv_aload_n hx hb dX6_afterCut_36 rfl (lv_at hl 0 rfl) ?_
          refine va_get (D := D) (ci := 6) (v := .ref (dg 0)) (C := RX6) (T := TX6) (N := 6) hx hb hts u6_X6 hown hK hP 0 rfl rfl 3 (by decide) (hts _ (m6 260 rfl)) (fun _ h9 => h9) rfl dX6_afterCut_37 ?_
          refine bq_backi (bq_runV hX good6 (m6 31 rfl) (c6_costOfRecord l D cI ob so ho sl dg dc dt zt hBt dg z hz) q6_costOfRecord rfl (m6 303 rfl) (m6 304 rfl) (m6 305 rfl) ⟨Nat.le_of_ble_eq_true rfl, Nat.le_of_ble_eq_true rfl⟩ hK hN [0] rfl hP hD [0, 3, 1] (by decide) rfl (ci := 6) (q0 := 0) rfl rfl rfl hl.1 rfl (Nat.le_of_ble_eq_true rfl) dX6_afterCut_40 ⟨Nat.zero_le _, Nat.zero_le _⟩) hP hD hS [0, 3, 1] rfl (fun r u h => by obtain ⟨-, x5, hx6, rfl⟩ := h; rfl) (fun r9 u H locs hpost hP hD hS => ?_)
          obtain ⟨hr9, x5, hx6, rfl⟩ := hpost
          refine lv_as hr9 ?_
          have hP : va_P D vwCl (bw [[(ob, .inr (6, [.ref so, .ref ho, .ref sl, .ref (dg 0), .ref (dc 0), .ref (dt 0)]))], zL cI dg z, zL cI dc zc, zL cI dt x5]) H := hP
          have hD : va_D A (bw [[(ob, .inr (6, [.ref so, .ref ho, .ref sl, .ref (dg 0), .ref (dc 0), .ref (dt 0)]))], zL cI dg z, zL cI dc zc, zL cI dt x5]) := hD
          refine lv_if_ne (tgt := 56) hx hb dX6_afterCut_43 (by decide) (fun c43_7 => ?_) (fun c43_7 => ?_)
          · skip
            obtain ⟨en1, hn1⟩ := num_in (x := x) (j := 16) (by decide) c4_1
            have hl : lv_has ls 4 [(0, .ref ob), (1, .int (nI (x.toNatClampNeg))), (2, .int (v)), (3, .int (w))] := lv_re hl 1 rfl en1
            obtain ⟨en3, h31, hn3⟩ := n_one c16_3 c22_4
            have hl : lv_has ls 4 [(0, .ref ob), (1, .int (nI (x.toNatClampNeg))), (2, .int (v)), (3, .int (nI (w.toNatClampNeg)))] := lv_re hl 3 rfl en3
            refine lv_aload_n hx hb dX6_afterCut_56 rfl (lv_at hl 0 rfl) ?_
            refine va_get (D := D) (ci := 6) (v := .ref (dc 0)) (C := RX6) (T := TX6) (N := 6) hx hb hts u6_X6 hown hK hP 0 rfl rfl 4 (by decide) (hts _ (m6 261 rfl)) (fun _ h9 => h9) rfl dX6_afterCut_57 ?_
            refine lv_aload_n hx hb dX6_afterCut_60 rfl (lv_at hl 0 rfl) ?_
            refine va_get (D := D) (ci := 6) (v := .ref (dg 0)) (C := RX6) (T := TX6) (N := 6) hx hb hts u6_X6 hown hK hP 0 rfl rfl 3 (by decide) (hts _ (m6 260 rfl)) (fun _ h9 => h9) rfl dX6_afterCut_61 ?_
            refine bq_backv (bq_runV hX good6 (m6 83 rfl) (b2_copyFrom l D cI dc dg zc z hBc (inv_B hz)) q2_copyFrom rfl (m6 296 rfl) (m6 104 rfl) (m6 105 rfl) ⟨Nat.le_of_ble_eq_true rfl, Nat.le_of_ble_eq_true rfl⟩ hK hN [0] rfl hP hD [2, 1] (by decide) rfl (ci := 2) (q0 := 0) rfl rfl rfl hl.1 rfl (Nat.le_of_ble_eq_true rfl) dX6_afterCut_64 ⟨Nat.zero_le _, Nat.zero_le _⟩) hP hD hS [2, 1] rfl (fun u h => by rw [h]; rfl) (fun u H locs hpost hP hD hS => ?_)
            subst hpost
            have hP : va_P D vwCl (bw [[(ob, .inr (6, [.ref so, .ref ho, .ref sl, .ref (dg 0), .ref (dc 0), .ref (dt 0)]))], zL cI dg z, zL cI dc z, zL cI dt x5]) H := hP
            have hD : va_D A (bw [[(ob, .inr (6, [.ref so, .ref ho, .ref sl, .ref (dg 0), .ref (dc 0), .ref (dt 0)]))], zL cI dg z, zL cI dc z, zL cI dt x5]) := hD
            refine lv_aload_n hx hb dX6_afterCut_67 rfl (lv_at hl 0 rfl) ?_
            refine va_get (D := D) (ci := 6) (v := .ref (dc 0)) (C := RX6) (T := TX6) (N := 6) hx hb hts u6_X6 hown hK hP 0 rfl rfl 4 (by decide) (hts _ (m6 261 rfl)) (fun _ h9 => h9) rfl dX6_afterCut_68 ?_
            refine lv_iload_n hx hb dX6_afterCut_71 rfl (lv_at hl 3 rfl) ?_
            refine va_put (D := D) (ci := 2) (v := .int (nI (w.toNatClampNeg))) (ty := .int) (C := RX2) (T := TX2) (N := 8) hx hb hts u6_X2 tyX2 tyX2_ok nmX2 hown hK hP hD hS 12 rfl rfl 4 (by decide) (hts _ (m6 293 rfl)) (fun _ h9 => h9) rfl (by decide +kernel) rfl rfl (Nat.le_of_ble_eq_true rfl) dX6_afterCut_72 (fun H locs hP hD hS => ?_)
            have hP : va_P D vwCl (bw [[(ob, .inr (6, [.ref so, .ref ho, .ref sl, .ref (dg 0), .ref (dc 0), .ref (dt 0)]))], zL cI dg z, zL cI dc (zC z (nI (w.toNatClampNeg))), zL cI dt x5]) H := hP
            have hD : va_D A (bw [[(ob, .inr (6, [.ref so, .ref ho, .ref sl, .ref (dg 0), .ref (dc 0), .ref (dt 0)]))], zL cI dg z, zL cI dc (zC z (nI (w.toNatClampNeg))), zL cI dt x5]) := hD
            refine lv_aload_n hx hb dX6_afterCut_75 rfl (lv_at hl 0 rfl) ?_
            refine va_get (D := D) (ci := 6) (v := .ref (dc 0)) (C := RX6) (T := TX6) (N := 6) hx hb hts u6_X6 hown hK hP 0 rfl rfl 4 (by decide) (hts _ (m6 261 rfl)) (fun _ h9 => h9) rfl dX6_afterCut_76 ?_
            refine lv_iload_n hx hb dX6_afterCut_79 rfl (lv_at hl 1 rfl) ?_
            refine lv_iload_n hx hb dX6_afterCut_80 rfl (lv_at hl 2 rfl) ?_
            have hs1 := inv_st (k := x.toNatClampNeg) (x := v) (inv_zC (c := w.toNatClampNeg) hz (by omega)) (show (zC z (nI w.toNatClampNeg)).1.1 = true from cs_ne (z := z) c43_7) hn1 (Or.inl (fun y => absurd (y ▸ c11_2.1) (by decide)))
            refine bq_backi (bq_runV hX good6 (m6 83 rfl) (b2_store l D cI dc (zC z (nI (w.toNatClampNeg))) (inv_B (inv_zC (c := w.toNatClampNeg) hz (by omega))) x.toNatClampNeg (by omega) v (stT x.toNatClampNeg v (zC z (nI (w.toNatClampNeg)))).1 (stT x.toNatClampNeg v (zC z (nI (w.toNatClampNeg)))).2 hs1.1) q2_store rfl (m6 297 rfl) (m6 298 rfl) (m6 299 rfl) ⟨Nat.le_of_ble_eq_true rfl, Nat.le_of_ble_eq_true rfl⟩ hK hN [0] rfl hP hD [2] (by decide) rfl (ci := 2) (q0 := 0) rfl rfl rfl hl.1 rfl (Nat.le_of_ble_eq_true rfl) dX6_afterCut_81 ⟨Nat.zero_le _, Nat.zero_le _⟩) hP hD hS [2] rfl (fun r u h => by obtain ⟨-, rfl⟩ := h; rfl) (fun r9 u H locs hpost hP hD hS => ?_)
            obtain ⟨hr9, rfl⟩ := hpost
            refine lv_as hr9 ?_
            have hP : va_P D vwCl (bw [[(ob, .inr (6, [.ref so, .ref ho, .ref sl, .ref (dg 0), .ref (dc 0), .ref (dt 0)]))], zL cI dg z, zL cI dc ((stT x.toNatClampNeg v (zC z (nI (w.toNatClampNeg)))).2), zL cI dt x5]) H := hP
            have hD : va_D A (bw [[(ob, .inr (6, [.ref so, .ref ho, .ref sl, .ref (dg 0), .ref (dc 0), .ref (dt 0)]))], zL cI dg z, zL cI dc ((stT x.toNatClampNeg v (zC z (nI (w.toNatClampNeg)))).2), zL cI dt x5]) := hD
            refine lv_pop hx hb dX6_afterCut_84 rfl ?_
            refine lv_aload_n hx hb dX6_afterCut_85 rfl (lv_at hl 0 rfl) ?_
            refine va_get (D := D) (ci := 6) (v := .ref (dc 0)) (C := RX6) (T := TX6) (N := 6) hx hb hts u6_X6 hown hK hP 0 rfl rfl 4 (by decide) (hts _ (m6 261 rfl)) (fun _ h9 => h9) rfl dX6_afterCut_86 ?_
            refine va_get (D := D) (ci := 2) (v := .int (bI (((stT x.toNatClampNeg v (zC z (nI (w.toNatClampNeg)))).2).1.1 = true))) (C := RX2) (T := TX2) (N := 8) hx hb hts u6_X2 hown hK hP 12 rfl rfl 2 (by decide) (hts _ (m6 292 rfl)) (fun _ h9 => h9) rfl dX6_afterCut_89 ?_
            refine lv_if_ne (tgt := 103) hx hb dX6_afterCut_92 (by decide) (fun c92_8 => ?_) (fun c92_8 => ?_)
            · skip
              have c92_8 := bI_t c92_8
              refine lv_aload_n hx hb dX6_afterCut_103 rfl (lv_at hl 0 rfl) ?_
              refine va_get (D := D) (ci := 6) (v := .ref (dc 0)) (C := RX6) (T := TX6) (N := 6) hx hb hts u6_X6 hown hK hP 0 rfl rfl 4 (by decide) (hts _ (m6 261 rfl)) (fun _ h9 => h9) rfl dX6_afterCut_104 ?_
              refine va_get (D := D) (ci := 2) (v := .ref (dc 1)) (C := RX2) (T := TX2) (N := 8) hx hb hts u6_X2 hown hK hP 12 rfl rfl 0 (by decide) (hts _ (m6 301 rfl)) (fun _ h9 => h9) rfl dX6_afterCut_107 ?_
              refine lv_iload_n hx hb dX6_afterCut_110 rfl (lv_at hl 1 rfl) ?_
              refine bq_readV hX good6 (m6 23 rfl) (b0_valueOf l D cI dc ((stT x.toNatClampNeg v (zC z (nI (w.toNatClampNeg)))).2) (inv_B hs1.2) (nI (x.toNatClampNeg))) q0_valueOf rfl (m6 307 rfl) (m6 42 rfl) (m6 43 rfl) ⟨Nat.le_of_ble_eq_true rfl, Nat.le_of_ble_eq_true rfl⟩ hK hN [0] rfl hP [2] rfl (ci := 0) (q0 := 1) rfl rfl rfl hS hl.1 rfl (Nat.le_of_ble_eq_true rfl) dX6_afterCut_111 ⟨Nat.zero_le _, Nat.zero_le _⟩ (fun H locs hP hS => ?_)
              exact ge_ret hX hr hlocks hS hP ⟨by rw [c6afc, if_pos ⟨c4_1, c11_2, c16_3, c22_4⟩, if_neg c43_7], by rw [afZ, zSw_on c92_8, ← en1], _, _, (inv_B hs1.2), hx6, rfl⟩ (Nat.le_of_ble_eq_true rfl) (Nat.le_of_ble_eq_true rfl) dX6_afterCut_114
            · skip
              have c92_8 := bI_f c92_8
              refine lv_aload_n hx hb dX6_afterCut_95 rfl (lv_at hl 0 rfl) ?_
              refine va_get (D := D) (ci := 6) (v := .ref (dc 0)) (C := RX6) (T := TX6) (N := 6) hx hb hts u6_X6 hown hK hP 0 rfl rfl 4 (by decide) (hts _ (m6 261 rfl)) (fun _ h9 => h9) rfl dX6_afterCut_96 ?_
              refine bq_backi (bq_runV hX good6 (m6 83 rfl) (b2_switchOn l D cI dc ((stT x.toNatClampNeg v (zC z (nI (w.toNatClampNeg)))).2) (inv_B hs1.2)) q2_switchOn rfl (m6 310 rfl) (m6 311 rfl) (m6 312 rfl) ⟨Nat.le_of_ble_eq_true rfl, Nat.le_of_ble_eq_true rfl⟩ hK hN [0] rfl hP hD [2] (by decide) rfl (ci := 2) (q0 := 0) rfl rfl rfl hl.1 rfl (Nat.le_of_ble_eq_true rfl) dX6_afterCut_99 ⟨Nat.zero_le _, Nat.zero_le _⟩) hP hD hS [2] rfl (fun r u h => by obtain ⟨-, rfl⟩ := h; rfl) (fun r9 u H locs hpost hP hD hS => ?_)
              obtain ⟨hr9, rfl⟩ := hpost
              refine lv_as hr9 ?_
              have hP : va_P D vwCl (bw [[(ob, .inr (6, [.ref so, .ref ho, .ref sl, .ref (dg 0), .ref (dc 0), .ref (dt 0)]))], zL cI dg z, zL cI dc (zSw ((stT x.toNatClampNeg v (zC z (nI (w.toNatClampNeg)))).2)), zL cI dt x5]) H := hP
              have hD : va_D A (bw [[(ob, .inr (6, [.ref so, .ref ho, .ref sl, .ref (dg 0), .ref (dc 0), .ref (dt 0)]))], zL cI dg z, zL cI dc (zSw ((stT x.toNatClampNeg v (zC z (nI (w.toNatClampNeg)))).2)), zL cI dt x5]) := hD
              refine lv_pop hx hb dX6_afterCut_102 rfl ?_
              refine lv_aload_n hx hb dX6_afterCut_103 rfl (lv_at hl 0 rfl) ?_
              refine va_get (D := D) (ci := 6) (v := .ref (dc 0)) (C := RX6) (T := TX6) (N := 6) hx hb hts u6_X6 hown hK hP 0 rfl rfl 4 (by decide) (hts _ (m6 261 rfl)) (fun _ h9 => h9) rfl dX6_afterCut_104 ?_
              refine va_get (D := D) (ci := 2) (v := .ref (dc 1)) (C := RX2) (T := TX2) (N := 8) hx hb hts u6_X2 hown hK hP 12 rfl rfl 0 (by decide) (hts _ (m6 301 rfl)) (fun _ h9 => h9) rfl dX6_afterCut_107 ?_
              refine lv_iload_n hx hb dX6_afterCut_110 rfl (lv_at hl 1 rfl) ?_
              refine bq_readV hX good6 (m6 23 rfl) (b0_valueOf l D cI dc (zSw ((stT x.toNatClampNeg v (zC z (nI (w.toNatClampNeg)))).2)) (inv_B (inv_zSw hs1.2)) (nI (x.toNatClampNeg))) q0_valueOf rfl (m6 307 rfl) (m6 42 rfl) (m6 43 rfl) ⟨Nat.le_of_ble_eq_true rfl, Nat.le_of_ble_eq_true rfl⟩ hK hN [0] rfl hP [2] rfl (ci := 0) (q0 := 1) rfl rfl rfl hS hl.1 rfl (Nat.le_of_ble_eq_true rfl) dX6_afterCut_111 ⟨Nat.zero_le _, Nat.zero_le _⟩ (fun H locs hP hS => ?_)
              exact ge_ret hX hr hlocks hS hP ⟨by rw [c6afc, if_pos ⟨c4_1, c11_2, c16_3, c22_4⟩, if_neg c43_7], by rw [afZ, ← en1], _, _, (inv_B (inv_zSw hs1.2)), hx6, rfl⟩ (Nat.le_of_ble_eq_true rfl) (Nat.le_of_ble_eq_true rfl) dX6_afterCut_114
          · skip
            exact ge_tis hst hX hEx hnt hlocks hE hSW hZ hS hP (m6 274 rfl) (m6 275 rfl) (show (186, _) ∈ xT from List.mem_of_getElem? (i := 13) rfl) ⟨Or.inr (⟨rfl, by rw [c6afc, if_pos ⟨c4_1, c11_2, c16_3, c22_4⟩, if_pos c43_7]⟩), _, _, hBc, hx6, rfl⟩ hl.1 dX6_afterCut_46 dX6_afterCut_49 dX6_afterCut_50 dX6_afterCut_52 dX6_afterCut_55 (Nat.le_of_ble_eq_true rfl) (Nat.le_of_ble_eq_true rfl) (Nat.le_of_ble_eq_true rfl) (Nat.le_of_ble_eq_true rfl) (Nat.le_of_ble_eq_true rfl) (Nat.le_of_ble_eq_true rfl)
        · skip
          have c22_4 := i_lt c22_4
          exact ge_tia hst hX hEx hnt hlocks hE hSW hZ hS hP (m6 272 rfl) (m6 273 rfl) (show (234, _) ∈ xT from List.mem_of_getElem? (i := 20) rfl) ⟨Or.inl ⟨rfl, by rw [c6afc, if_neg (fun y => y.2.2.2 c22_4)]⟩, _, _, hBc, hBt, rfl⟩ hl.1 dX6_afterCut_25 dX6_afterCut_28 dX6_afterCut_29 dX6_afterCut_31 dX6_afterCut_34 (Nat.le_of_ble_eq_true rfl) (Nat.le_of_ble_eq_true rfl) (Nat.le_of_ble_eq_true rfl) (Nat.le_of_ble_eq_true rfl) (Nat.le_of_ble_eq_true rfl) (Nat.le_of_ble_eq_true rfl)
theorem dX6_lasts_0 : decode cX6_lasts 0 = .ok (.iload_n 1, 1) := by decide +kernel
theorem dX6_lasts_1 : decode cX6_lasts 1 = .ok (.invokestatic 153, 3) := by decide +kernel
theorem dX6_lasts_4 : decode cX6_lasts 4 = .ok (.ifCond .ne 13, 3) := by decide +kernel
theorem dX6_lasts_7 : decode cX6_lasts 7 = .ok (.new 43, 3) := by decide +kernel
theorem dX6_lasts_10 : decode cX6_lasts 10 = .ok (.dup, 1) := by decide +kernel
theorem dX6_lasts_11 : decode cX6_lasts 11 = .ok (.ldc 156, 2) := by decide +kernel
theorem dX6_lasts_13 : decode cX6_lasts 13 = .ok (.invokespecial 47, 3) := by decide +kernel
theorem dX6_lasts_16 : decode cX6_lasts 16 = .ok (.athrow, 1) := by decide +kernel
theorem dX6_lasts_17 : decode cX6_lasts 17 = .ok (.aload_n 0, 1) := by decide +kernel
theorem dX6_lasts_18 : decode cX6_lasts 18 = .ok (.getfield 33, 3) := by decide +kernel
theorem dX6_lasts_21 : decode cX6_lasts 21 = .ok (.getfield 158, 3) := by decide +kernel
theorem dX6_lasts_24 : decode cX6_lasts 24 = .ok (.ifCond .ne 5, 3) := by decide +kernel
theorem dX6_lasts_27 : decode cX6_lasts 27 = .ok (.iconst 0, 1) := by decide +kernel
theorem dX6_lasts_28 : decode cX6_lasts 28 = .ok (.ireturn, 1) := by decide +kernel
theorem dX6_lasts_29 : decode cX6_lasts 29 = .ok (.aload_n 0, 1) := by decide +kernel
theorem dX6_lasts_30 : decode cX6_lasts 30 = .ok (.getfield 37, 3) := by decide +kernel
theorem dX6_lasts_33 : decode cX6_lasts 33 = .ok (.aload_n 0, 1) := by decide +kernel
theorem dX6_lasts_34 : decode cX6_lasts 34 = .ok (.getfield 33, 3) := by decide +kernel
theorem dX6_lasts_37 : decode cX6_lasts 37 = .ok (.invokevirtual 236, 3) := by decide +kernel
theorem dX6_lasts_40 : decode cX6_lasts 40 = .ok (.aload_n 0, 1) := by decide +kernel
theorem dX6_lasts_41 : decode cX6_lasts 41 = .ok (.getfield 37, 3) := by decide +kernel
theorem dX6_lasts_44 : decode cX6_lasts 44 = .ok (.iconst 0, 1) := by decide +kernel
theorem dX6_lasts_45 : decode cX6_lasts 45 = .ok (.putfield 207, 3) := by decide +kernel
theorem dX6_lasts_48 : decode cX6_lasts 48 = .ok (.iconst 0, 1) := by decide +kernel
theorem dX6_lasts_49 : decode cX6_lasts 49 = .ok (.istore_n 2, 1) := by decide +kernel
theorem dX6_lasts_50 : decode cX6_lasts 50 = .ok (.iload_n 2, 1) := by decide +kernel
theorem dX6_lasts_51 : decode cX6_lasts 51 = .ok (.sipush 300, 3) := by decide +kernel
theorem dX6_lasts_54 : decode cX6_lasts 54 = .ok (.if_icmp .ge 23, 3) := by decide +kernel
theorem dX6_lasts_57 : decode cX6_lasts 57 = .ok (.aload_n 0, 1) := by decide +kernel
theorem dX6_lasts_58 : decode cX6_lasts 58 = .ok (.getfield 37, 3) := by decide +kernel
theorem dX6_lasts_61 : decode cX6_lasts 61 = .ok (.iload_n 1, 1) := by decide +kernel
theorem dX6_lasts_62 : decode cX6_lasts 62 = .ok (.iconst 0, 1) := by decide +kernel
theorem dX6_lasts_63 : decode cX6_lasts 63 = .ok (.invokevirtual 192, 3) := by decide +kernel
theorem dX6_lasts_66 : decode cX6_lasts 66 = .ok (.bipush (-9), 2) := by decide +kernel
theorem dX6_lasts_68 : decode cX6_lasts 68 = .ok (.if_icmp .eq 9, 3) := by decide +kernel
theorem dX6_lasts_71 : decode cX6_lasts 71 = .ok (.iinc 2 1, 3) := by decide +kernel
theorem dX6_lasts_74 : decode cX6_lasts 74 = .ok (.goto (-24), 3) := by decide +kernel
theorem dX6_lasts_77 : decode cX6_lasts 77 = .ok (.iload_n 2, 1) := by decide +kernel
theorem dX6_lasts_78 : decode cX6_lasts 78 = .ok (.ireturn, 1) := by decide +kernel
set_option maxHeartbeats 4000000 in
set_option maxRecDepth 100000 in
theorem c6_lasts (l : Launch) (hst : l.stackTraces = false)  (D : va_G) (cI : ClassId) (ob so ho sl : Nat) (dg dc dt : Nat → Nat) (z : LgS) (hz : Inv z) (zc : LgS) (hBc : zc.1.2 ≤ 8) (x : Int32) : GE l yX6_lasts cX6_lasts 3 6 123 D [[(ob, .inr (6, [.ref so, .ref ho, .ref sl, .ref (dg 0), .ref (dc 0), .ref (dt 0)]))], zL cI dg z, zL cI dc zc] [(cI, .int)] [.ref ob, .int (x)] (fun (r9 : Int32) (u9 : List va_W) => (c6key x) = 0 ∧ r9 = (laV z x.toNatClampNeg) ∧ ∃ zc9 : LgS, (zc9.1.2 ≤ 8) ∧ u9 = [[(ob, .inr (6, [.ref so, .ref ho, .ref sl, .ref (dg 0), .ref (dc 0), .ref (dt 0)]))], zL cI dg z, zL cI dc zc9]) (fun (e9 : String) (u9 : List va_W) => ((e9 = xIA ∧ (c6key x) = 1)) ∧ ∃ zc9 : LgS, (zc9.1.2 ≤ 8) ∧ u9 = [[(ob, .inr (6, [.ref so, .ref ho, .ref sl, .ref (dg 0), .ref (dc 0), .ref (dt 0)]))], zL cI dg z, zL cI dc zc9]) := by
  refine ge_of (by decide) rfl (Nat.le_of_ble_eq_true rfl) ?_
  intro p e s m below meth c ls H hX hEx hnt hr hlocks hK hN hE hSW hZ hP hD hS hl
  generalize gp_A (bw [[(ob, .inr (6, [.ref so, .ref ho, .ref sl, .ref (dg 0), .ref (dc 0), .ref (dt 0)]))], zL cI dg z, zL cI dc zc]) = A at hZ hD hS ⊢
  have hx := hX.1
  have hb := hX.2.1
  have hown := hX.2.2.2.1
  have hts := hX.2.2.2.2
  have hl : lv_has ls 3 [(0, .ref ob), (1, .int (x))] := hl
  refine lv_iload_n hx hb dX6_lasts_0 rfl (lv_at hl 1 rfl) ?_
  refine rq_callS hX good6 (m6 31 rfl) (c6_isKey l D x) q6_isKey rfl (m6 356 rfl) (m6 357 rfl) ⟨Nat.le_of_ble_eq_true rfl, Nat.le_of_ble_eq_true rfl⟩ hK hN [] rfl hP [] rfl hS hl.1 rfl (Nat.le_of_ble_eq_true rfl) dX6_lasts_1 ⟨Nat.zero_le _, Nat.zero_le _⟩ (fun H locs hP hS => ?_)
  refine lv_if_ne (tgt := 17) hx hb dX6_lasts_4 (by decide) (fun c4_1 => ?_) (fun c4_1 => ?_)
  · skip
    have c4_1 := bI_t c4_1
    refine lv_aload_n hx hb dX6_lasts_17 rfl (lv_at hl 0 rfl) ?_
    refine va_get (D := D) (ci := 6) (v := .ref (dg 0)) (C := RX6) (T := TX6) (N := 6) hx hb hts u6_X6 hown hK hP 0 rfl rfl 3 (by decide) (hts _ (m6 260 rfl)) (fun _ h9 => h9) rfl dX6_lasts_18 ?_
    refine va_get (D := D) (ci := 2) (v := .int (bI (z.1.1 = true))) (C := RX2) (T := TX2) (N := 8) hx hb hts u6_X2 hown hK hP 1 rfl rfl 2 (by decide) (hts _ (m6 292 rfl)) (fun _ h9 => h9) rfl dX6_lasts_21 ?_
    refine lv_if_ne (tgt := 29) hx hb dX6_lasts_24 (by decide) (fun c24_2 => ?_) (fun c24_2 => ?_)
    · skip
      have c24_2 := bI_t c24_2
      obtain ⟨en1, hn1⟩ := num_in (x := x) (j := 16) (by decide) c4_1
      have hl : lv_has ls 3 [(0, .ref ob), (1, .int (nI (x.toNatClampNeg)))] := lv_re hl 1 rfl en1
      refine lv_aload_n hx hb dX6_lasts_29 rfl (lv_at hl 0 rfl) ?_
      refine va_get (D := D) (ci := 6) (v := .ref (dc 0)) (C := RX6) (T := TX6) (N := 6) hx hb hts u6_X6 hown hK hP 0 rfl rfl 4 (by decide) (hts _ (m6 261 rfl)) (fun _ h9 => h9) rfl dX6_lasts_30 ?_
      refine lv_aload_n hx hb dX6_lasts_33 rfl (lv_at hl 0 rfl) ?_
      refine va_get (D := D) (ci := 6) (v := .ref (dg 0)) (C := RX6) (T := TX6) (N := 6) hx hb hts u6_X6 hown hK hP 0 rfl rfl 3 (by decide) (hts _ (m6 260 rfl)) (fun _ h9 => h9) rfl dX6_lasts_34 ?_
      refine bq_backv (bq_runV hX good6 (m6 83 rfl) (b2_copyFrom l D cI dc dg zc z hBc (inv_B hz)) q2_copyFrom rfl (m6 296 rfl) (m6 104 rfl) (m6 105 rfl) ⟨Nat.le_of_ble_eq_true rfl, Nat.le_of_ble_eq_true rfl⟩ hK hN [0] rfl hP hD [2, 1] (by decide) rfl (ci := 2) (q0 := 0) rfl rfl rfl hl.1 rfl (Nat.le_of_ble_eq_true rfl) dX6_lasts_37 ⟨Nat.zero_le _, Nat.zero_le _⟩) hP hD hS [2, 1] rfl (fun u h => by rw [h]; rfl) (fun u H locs hpost hP hD hS => ?_)
      subst hpost
      have hP : va_P D vwCl (bw [[(ob, .inr (6, [.ref so, .ref ho, .ref sl, .ref (dg 0), .ref (dc 0), .ref (dt 0)]))], zL cI dg z, zL cI dc z]) H := hP
      have hD : va_D A (bw [[(ob, .inr (6, [.ref so, .ref ho, .ref sl, .ref (dg 0), .ref (dc 0), .ref (dt 0)]))], zL cI dg z, zL cI dc z]) := hD
      refine lv_aload_n hx hb dX6_lasts_40 rfl (lv_at hl 0 rfl) ?_
      refine va_get (D := D) (ci := 6) (v := .ref (dc 0)) (C := RX6) (T := TX6) (N := 6) hx hb hts u6_X6 hown hK hP 0 rfl rfl 4 (by decide) (hts _ (m6 261 rfl)) (fun _ h9 => h9) rfl dX6_lasts_41 ?_
      refine lv_iconst (v := 0) hx hb dX6_lasts_44 (by decide) ?_
      refine va_put (D := D) (ci := 2) (v := .int (0)) (ty := .int) (C := RX2) (T := TX2) (N := 8) hx hb hts u6_X2 tyX2 tyX2_ok nmX2 hown hK hP hD hS 12 rfl rfl 4 (by decide) (hts _ (m6 293 rfl)) (fun _ h9 => h9) rfl (by decide +kernel) rfl rfl (Nat.le_of_ble_eq_true rfl) dX6_lasts_45 (fun H locs hP hD hS => ?_)
      have hP : va_P D vwCl (bw [[(ob, .inr (6, [.ref so, .ref ho, .ref sl, .ref (dg 0), .ref (dc 0), .ref (dt 0)]))], zL cI dg z, zL cI dc (zC z 0)]) H := hP
      have hD : va_D A (bw [[(ob, .inr (6, [.ref so, .ref ho, .ref sl, .ref (dg 0), .ref (dc 0), .ref (dt 0)]))], zL cI dg z, zL cI dc (zC z 0)]) := hD
      refine lv_iconst (v := 0) hx hb dX6_lasts_48 (by decide) ?_
      refine lv_istore_n (lv' := [(2, .int (0)), (0, .ref ob), (1, .int (nI (x.toNatClampNeg)))]) hx hb dX6_lasts_49 rfl hl (by decide) rfl (fun ls hl => ?_)
      have LP50 : ∀ n9 : Nat, ∀ (j : Nat) (z8 : LgS), (hj : j ≤ 300) → (hI8 : Inv z8) → (hon8 : z8.1.1 = true ∧ z8.2.1 1 = 0) → (hs8 : j + laZ x.toNatClampNeg (300 - j) z8 = laZ x.toNatClampNeg 300 (zC z 0)) → 300 - j < n9 → ∀ (H : Heap) (locs : List Loc), va_P D vwCl (bw [[(ob, .inr (6, [.ref so, .ref ho, .ref sl, .ref (dg 0), .ref (dc 0), .ref (dt 0)]))], zL cI dg z, zL cI dc z8]) H → va_D A (bw [[(ob, .inr (6, [.ref so, .ref ho, .ref sl, .ref (dg 0), .ref (dc 0), .ref (dt 0)]))], zL cI dg z, zL cI dc z8]) → va_S A s.heap H locs → ∀ ls : Array Slot, lv_has ls 3 [(0, .ref ob), (1, .int (nI (x.toNatClampNeg))), (2, .int (nI (j)))] → W p l e ({ frames := 6, cells := 1, slots := 6, locals := 123 } : Room) s m ([.ref ob, .int (x)] : List Value).toArray below meth c H locs 0 0 (vx_MQ below (va_Qi (fun (r9 : Int32) (u9 : List va_W) => (c6key x) = 0 ∧ r9 = (laV z x.toNatClampNeg) ∧ ∃ zc9 : LgS, (zc9.1.2 ≤ 8) ∧ u9 = [[(ob, .inr (6, [.ref so, .ref ho, .ref sl, .ref (dg 0), .ref (dc 0), .ref (dt 0)]))], zL cI dg z, zL cI dc zc9]) (fun u t => va_P D vwCl (bw u) t.heap) A) (ge_X (fun (e9 : String) (u9 : List va_W) => ((e9 = xIA ∧ (c6key x) = 1)) ∧ ∃ zc9 : LgS, (zc9.1.2 ≤ 8) ∧ u9 = [[(ob, .inr (6, [.ref so, .ref ho, .ref sl, .ref (dg 0), .ref (dc 0), .ref (dt 0)]))], zL cI dg z, zL cI dc zc9]) D A) ([.ref ob, .int (x)] : List Value).toArray s 1 6 A) (F0 m 50 ls []) := by
        intro n9
        induction n9 with
        | zero => intros; omega
        | succ n9 ih50 =>
          intro j z8 hj hI8 hon8 hs8 hm9 H locs hP hD hS ls hl
          refine lv_iload_n hx hb dX6_lasts_50 rfl (lv_at hl 2 rfl) ?_
          refine lv_sipush (v := 300) hx hb dX6_lasts_51 (by decide) ?_
          refine lv_icmp_ge (tgt := 77) hx hb dX6_lasts_54 (by decide) (fun c54_3 => ?_) (fun c54_3 => ?_)
          · skip
            have c54_3 := cn_le (a := 300) (b := j) (by omega) (by omega) c54_3
            refine lv_iload_n hx hb dX6_lasts_77 rfl (lv_at hl 2 rfl) ?_
            exact ge_ret hX hr hlocks hS hP ⟨by rw [c6key, if_pos c4_1], by rw [show 300 - j = 0 by omega, laZ] at hs8; rw [laV, if_pos c24_2, ← hs8]; rfl, _, (inv_B hI8), rfl⟩ (Nat.le_of_ble_eq_true rfl) (Nat.le_of_ble_eq_true rfl) dX6_lasts_78
          · skip
            have c54_3 := cn_nle (a := 300) (b := j) (by omega) (by omega) c54_3
            refine lv_aload_n hx hb dX6_lasts_57 rfl (lv_at hl 0 rfl) ?_
            refine va_get (D := D) (ci := 6) (v := .ref (dc 0)) (C := RX6) (T := TX6) (N := 6) hx hb hts u6_X6 hown hK hP 0 rfl rfl 4 (by decide) (hts _ (m6 261 rfl)) (fun _ h9 => h9) rfl dX6_lasts_58 ?_
            refine lv_iload_n hx hb dX6_lasts_61 rfl (lv_at hl 1 rfl) ?_
            refine lv_iconst (v := 0) hx hb dX6_lasts_62 (by decide) ?_
            have hs1 := inv_st (k := x.toNatClampNeg) (x := 0) hI8 hon8.1 hn1 (Or.inl (by decide))
            have hs2 := st_on (k := x.toNatClampNeg) (x := 0) hI8 hon8.1 hon8.2 hn1 (Or.inl (by decide))
            obtain ⟨mq, hm⟩ : ∃ mq, 300 - j = mq + 1 := ⟨299 - j, by omega⟩
            have hm3 : mq = 300 - (j + 1) := by omega
            rw [hm, laZ] at hs8
            refine bq_backi (bq_runV hX good6 (m6 83 rfl) (b2_store l D cI dc z8 (inv_B hI8) x.toNatClampNeg (by omega) 0 (stT x.toNatClampNeg 0 z8).1 (stT x.toNatClampNeg 0 z8).2 hs1.1) q2_store rfl (m6 297 rfl) (m6 298 rfl) (m6 299 rfl) ⟨Nat.le_of_ble_eq_true rfl, Nat.le_of_ble_eq_true rfl⟩ hK hN [0] rfl hP hD [2] (by decide) rfl (ci := 2) (q0 := 0) rfl rfl rfl hl.1 rfl (Nat.le_of_ble_eq_true rfl) dX6_lasts_63 ⟨Nat.zero_le _, Nat.zero_le _⟩) hP hD hS [2] rfl (fun r u h => by obtain ⟨-, rfl⟩ := h; rfl) (fun r9 u H locs hpost hP hD hS => ?_)
            obtain ⟨hr9, rfl⟩ := hpost
            refine lv_as hr9 ?_
            have hP : va_P D vwCl (bw [[(ob, .inr (6, [.ref so, .ref ho, .ref sl, .ref (dg 0), .ref (dc 0), .ref (dt 0)]))], zL cI dg z, zL cI dc ((stT x.toNatClampNeg 0 z8).2)]) H := hP
            have hD : va_D A (bw [[(ob, .inr (6, [.ref so, .ref ho, .ref sl, .ref (dg 0), .ref (dc 0), .ref (dt 0)]))], zL cI dg z, zL cI dc ((stT x.toNatClampNeg 0 z8).2)]) := hD
            refine lv_bipush (v := (-9)) hx hb dX6_lasts_66 (by decide) ?_
            refine lv_icmp_eq (tgt := 77) hx hb dX6_lasts_68 (by decide) (fun c68_4 => ?_) (fun c68_4 => ?_)
            · skip
              refine lv_iload_n hx hb dX6_lasts_77 rfl (lv_at hl 2 rfl) ?_
              exact ge_ret hX hr hlocks hS hP ⟨by rw [c6key, if_pos c4_1], by rw [if_pos c68_4] at hs8; rw [laV, if_pos c24_2, ← hs8]; rfl, _, (inv_B hs1.2), rfl⟩ (Nat.le_of_ble_eq_true rfl) (Nat.le_of_ble_eq_true rfl) dX6_lasts_78
            · skip
              refine lv_iinc (v := nI (j + 1)) (lv' := [(2, .int (nI (j + 1))), (0, .ref ob), (1, .int (nI (x.toNatClampNeg)))]) hx hb dX6_lasts_71 hl (k := 2) rfl (nI_add _ 1) (by decide) rfl (fun ls hl => ?_)
              refine lv_goto (tgt := 50) hx hb dX6_lasts_74 (by decide) ?_
              have hl : lv_has ls 3 [(2, .int (nI ((j + 1)))), (0, .ref ob), (1, .int (nI (x.toNatClampNeg)))] := lv_re hl 0 rfl (show (nI (j + 1)) = nI ((j + 1)) from rfl)
              exact ih50 (j + 1) ((stT x.toNatClampNeg 0 z8).2) (by omega) (hs1.2) (hs2) (by rw [if_neg c68_4, hm3] at hs8; omega) (by omega) _ _ hP hD hS _ (lv_sub hl [1, 2, 0] rfl)
      have hl : lv_has ls 3 [(2, .int (nI (0))), (0, .ref ob), (1, .int (nI (x.toNatClampNeg)))] := lv_re hl 0 rfl (show 0 = nI (0) from rfl)
      exact LP50 ((300 - 0) + 1) 0 (zC z 0) (by omega) (inv_zC (c := 0) hz (by omega)) (⟨c24_2, rfl⟩) (by rw [Nat.zero_add]) (by omega) _ _ hP hD hS _ (lv_sub hl [1, 2, 0] rfl)
    · skip
      have c24_2 := bI_f c24_2
      refine lv_iconst (v := 0) hx hb dX6_lasts_27 (by decide) ?_
      exact ge_ret hX hr hlocks hS hP ⟨by rw [c6key, if_pos c4_1], by rw [laV, if_neg c24_2], _, hBc, rfl⟩ (Nat.le_of_ble_eq_true rfl) (Nat.le_of_ble_eq_true rfl) dX6_lasts_28
  · skip
    have c4_1 := bI_f c4_1
    exact ge_tia hst hX hEx hnt hlocks hE hSW hZ hS hP (m6 272 rfl) (m6 273 rfl) (show (156, _) ∈ xT from List.mem_of_getElem? (i := 8) rfl) ⟨⟨rfl, by rw [c6key, if_neg c4_1]⟩, _, hBc, rfl⟩ hl.1 dX6_lasts_7 dX6_lasts_10 dX6_lasts_11 dX6_lasts_13 dX6_lasts_16 (Nat.le_of_ble_eq_true rfl) (Nat.le_of_ble_eq_true rfl) (Nat.le_of_ble_eq_true rfl) (Nat.le_of_ble_eq_true rfl) (Nat.le_of_ble_eq_true rfl) (Nat.le_of_ble_eq_true rfl)
theorem dX6_save_0 : decode cX6_save 0 = .ok (.iload_n 1, 1) := by decide +kernel
theorem dX6_save_1 : decode cX6_save 1 = .ok (.ifCond .lt 8, 3) := by decide +kernel
theorem dX6_save_4 : decode cX6_save 4 = .ok (.iload_n 1, 1) := by decide +kernel
theorem dX6_save_5 : decode cX6_save 5 = .ok (.iconst 2, 1) := by decide +kernel
theorem dX6_save_6 : decode cX6_save 6 = .ok (.if_icmp .lt 14, 3) := by decide +kernel
theorem dX6_save_9 : decode cX6_save 9 = .ok (.new 132, 3) := by decide +kernel
theorem dX6_save_12 : decode cX6_save 12 = .ok (.dup, 1) := by decide +kernel
theorem dX6_save_13 : decode cX6_save 13 = .ok (.ldc_w 266, 3) := by decide +kernel
theorem dX6_save_16 : decode cX6_save 16 = .ok (.invokespecial 136, 3) := by decide +kernel
theorem dX6_save_19 : decode cX6_save 19 = .ok (.athrow, 1) := by decide +kernel
theorem dX6_save_20 : decode cX6_save 20 = .ok (.aload_n 0, 1) := by decide +kernel
theorem dX6_save_21 : decode cX6_save 21 = .ok (.getfield 26, 3) := by decide +kernel
theorem dX6_save_24 : decode cX6_save 24 = .ok (.iload_n 1, 1) := by decide +kernel
theorem dX6_save_25 : decode cX6_save 25 = .ok (.aload_n 0, 1) := by decide +kernel
theorem dX6_save_26 : decode cX6_save 26 = .ok (.getfield 33, 3) := by decide +kernel
theorem dX6_save_29 : decode cX6_save 29 = .ok (.invokevirtual 268, 3) := by decide +kernel
theorem dX6_save_32 : decode cX6_save 32 = .ok (.aload_n 0, 1) := by decide +kernel
theorem dX6_save_33 : decode cX6_save 33 = .ok (.getfield 33, 3) := by decide +kernel
theorem dX6_save_36 : decode cX6_save 36 = .ok (.getfield 122, 3) := by decide +kernel
theorem dX6_save_39 : decode cX6_save 39 = .ok (.invokevirtual 215, 3) := by decide +kernel
theorem dX6_save_42 : decode cX6_save 42 = .ok (.ireturn, 1) := by decide +kernel
set_option maxHeartbeats 4000000 in
set_option maxRecDepth 100000 in
theorem c6_save (l : Launch) (hst : l.stackTraces = false)  (D : va_G) (cI cL cZ : ClassId) (ob so ho sl : Nat) (dg dc dt : Nat → Nat) (z : LgS) (hz : Inv z) (sb ua : Nat) (sg : Nat → Option Nat) (uf : Nat → Int32) (ds : Nat → Nat) (zs : LgS) (hBs : zs.1.2 ≤ 8) (x : Int32) (hsg0 : inN x 2 → sg x.toNatClampNeg = some (ds 0))  : GE l yX6_save cX6_save 2 6 145 D [[(ob, .inr (6, [.ref so, .ref ho, .ref sl, .ref (dg 0), .ref (dc 0), .ref (dt 0)]))], zL cI dg z, [(sl, .inr (3, [.ref sb, .ref ua]))], [(sb, .inl (cL, 2, .inr (.inr (.inr (.inr sg)))))], [(ua, .inl (cZ, 2, .inl uf))], zL cI ds zs] [(cI, .int), (cL, (.object "TornPageLog$Log")), (cZ, .boolean)] [.ref ob, .int (x)] (fun (r9 : Int32) (u9 : List va_W) => (c6sav x) = 0 ∧ r9 = (nI (ckZ z 16)) ∧ u9 = [[(ob, .inr (6, [.ref so, .ref ho, .ref sl, .ref (dg 0), .ref (dc 0), .ref (dt 0)]))], zL cI dg z, [(sl, .inr (3, [.ref sb, .ref ua]))], [(sb, .inl (cL, 2, .inr (.inr (.inr (.inr sg)))))], [(ua, .inl (cZ, 2, .inl (upd uf x.toNatClampNeg 1)))], zL cI ds z]) (fun (e9 : String) (u9 : List va_W) => ((e9 = xOB ∧ (c6sav x) = 1)) ∧ u9 = [[(ob, .inr (6, [.ref so, .ref ho, .ref sl, .ref (dg 0), .ref (dc 0), .ref (dt 0)]))], zL cI dg z, [(sl, .inr (3, [.ref sb, .ref ua]))], [(sb, .inl (cL, 2, .inr (.inr (.inr (.inr sg)))))], [(ua, .inl (cZ, 2, .inl uf))], zL cI ds zs]) := by
  refine ge_of (by decide) rfl (Nat.le_of_ble_eq_true rfl) ?_
  intro p e s m below meth c ls H hX hEx hnt hr hlocks hK hN hE hSW hZ hP hD hS hl
  generalize gp_A (bw [[(ob, .inr (6, [.ref so, .ref ho, .ref sl, .ref (dg 0), .ref (dc 0), .ref (dt 0)]))], zL cI dg z, [(sl, .inr (3, [.ref sb, .ref ua]))], [(sb, .inl (cL, 2, .inr (.inr (.inr (.inr sg)))))], [(ua, .inl (cZ, 2, .inl uf))], zL cI ds zs]) = A at hZ hD hS ⊢
  have hx := hX.1
  have hb := hX.2.1
  have hown := hX.2.2.2.1
  have hts := hX.2.2.2.2
  have hl : lv_has ls 2 [(0, .ref ob), (1, .int (x))] := hl
  refine lv_iload_n hx hb dX6_save_0 rfl (lv_at hl 1 rfl) ?_
  refine lv_if_lt (tgt := 9) hx hb dX6_save_1 (by decide) (fun c1_1 => ?_) (fun c1_1 => ?_)
  · skip
    exact ge_tobW hst hX hEx hnt hlocks hE hSW hZ hS hP (m6 348 rfl) (m6 349 rfl) (show (266, _) ∈ xT from List.mem_of_getElem? (i := 24) rfl) ⟨⟨rfl, by rw [c6sav, if_neg (fun y => y.1 c1_1)]⟩, rfl⟩ hl.1 dX6_save_9 dX6_save_12 dX6_save_13 dX6_save_16 dX6_save_19 (Nat.le_of_ble_eq_true rfl) (Nat.le_of_ble_eq_true rfl) (Nat.le_of_ble_eq_true rfl) (Nat.le_of_ble_eq_true rfl) (Nat.le_of_ble_eq_true rfl) (Nat.le_of_ble_eq_true rfl)
  · skip
    refine lv_iload_n hx hb dX6_save_4 rfl (lv_at hl 1 rfl) ?_
    refine lv_iconst (v := 2) hx hb dX6_save_5 (by decide) ?_
    refine lv_icmp_lt (tgt := 20) hx hb dX6_save_6 (by decide) (fun c6_2 => ?_) (fun c6_2 => ?_)
    · skip
      obtain ⟨en1, hn1⟩ := num0 (k := 2) (by decide) c1_1 c6_2
      have hl : lv_has ls 2 [(0, .ref ob), (1, .int (nI (x.toNatClampNeg)))] := lv_re hl 1 rfl en1
      have hsg := hsg0 ⟨c1_1, c6_2⟩
      refine lv_aload_n hx hb dX6_save_20 rfl (lv_at hl 0 rfl) ?_
      refine va_get (D := D) (ci := 6) (v := .ref sl) (C := RX6) (T := TX6) (N := 6) hx hb hts u6_X6 hown hK hP 0 rfl rfl 2 (by decide) (hts _ (m6 258 rfl)) (fun _ h9 => h9) rfl dX6_save_21 ?_
      refine lv_iload_n hx hb dX6_save_24 rfl (lv_at hl 1 rfl) ?_
      refine lv_aload_n hx hb dX6_save_25 rfl (lv_at hl 0 rfl) ?_
      refine va_get (D := D) (ci := 6) (v := .ref (dg 0)) (C := RX6) (T := TX6) (N := 6) hx hb hts u6_X6 hown hK hP 0 rfl rfl 3 (by decide) (hts _ (m6 260 rfl)) (fun _ h9 => h9) rfl dX6_save_26 ?_
      refine bq_backv (bq_runV hX good6 (m6 257 rfl) (c3_keep l D cI cL cZ sl sb ua sg uf x.toNatClampNeg (by omega) ds dg zs z hBs (inv_B hz) hsg) q3_keep rfl (m6 391 rfl) (m6 392 rfl) (m6 393 rfl) ⟨Nat.le_of_ble_eq_true rfl, Nat.le_of_ble_eq_true rfl⟩ hK hN [0, 1, 2] rfl hP hD [2, 3, 4, 5, 1] (by decide) rfl (ci := 3) (q0 := 0) rfl rfl rfl hl.1 rfl (Nat.le_of_ble_eq_true rfl) dX6_save_29 ⟨Nat.zero_le _, Nat.zero_le _⟩) hP hD hS [2, 3, 4, 5, 1] rfl (fun u h => by rw [h]; rfl) (fun u H locs hpost hP hD hS => ?_)
      subst hpost
      have hP : va_P D vwCl (bw [[(ob, .inr (6, [.ref so, .ref ho, .ref sl, .ref (dg 0), .ref (dc 0), .ref (dt 0)]))], zL cI dg z, [(sl, .inr (3, [.ref sb, .ref ua]))], [(sb, .inl (cL, 2, .inr (.inr (.inr (.inr sg)))))], [(ua, .inl (cZ, 2, .inl (upd uf x.toNatClampNeg 1)))], zL cI ds z]) H := hP
      have hD : va_D A (bw [[(ob, .inr (6, [.ref so, .ref ho, .ref sl, .ref (dg 0), .ref (dc 0), .ref (dt 0)]))], zL cI dg z, [(sl, .inr (3, [.ref sb, .ref ua]))], [(sb, .inl (cL, 2, .inr (.inr (.inr (.inr sg)))))], [(ua, .inl (cZ, 2, .inl (upd uf x.toNatClampNeg 1)))], zL cI ds z]) := hD
      refine lv_aload_n hx hb dX6_save_32 rfl (lv_at hl 0 rfl) ?_
      refine va_get (D := D) (ci := 6) (v := .ref (dg 0)) (C := RX6) (T := TX6) (N := 6) hx hb hts u6_X6 hown hK hP 0 rfl rfl 3 (by decide) (hts _ (m6 260 rfl)) (fun _ h9 => h9) rfl dX6_save_33 ?_
      refine va_get (D := D) (ci := 2) (v := .ref (dg 1)) (C := RX2) (T := TX2) (N := 8) hx hb hts u6_X2 hown hK hP 1 rfl rfl 0 (by decide) (hts _ (m6 301 rfl)) (fun _ h9 => h9) rfl dX6_save_36 ?_
      refine bq_readV hX good6 (m6 23 rfl) (b0_countKeys l D cI dg z (inv_B hz) ) q0_countKeys rfl (m6 371 rfl) (m6 120 rfl) (m6 121 rfl) ⟨Nat.le_of_ble_eq_true rfl, Nat.le_of_ble_eq_true rfl⟩ hK hN [0] rfl hP [1] rfl (ci := 0) (q0 := 1) rfl rfl rfl hS hl.1 rfl (Nat.le_of_ble_eq_true rfl) dX6_save_39 ⟨Nat.zero_le _, Nat.zero_le _⟩ (fun H locs hP hS => ?_)
      exact ge_ret hX hr hlocks hS hP ⟨by rw [c6sav, if_pos ⟨c1_1, c6_2⟩], rfl, rfl⟩ (Nat.le_of_ble_eq_true rfl) (Nat.le_of_ble_eq_true rfl) dX6_save_42
    · skip
      exact ge_tobW hst hX hEx hnt hlocks hE hSW hZ hS hP (m6 348 rfl) (m6 349 rfl) (show (266, _) ∈ xT from List.mem_of_getElem? (i := 24) rfl) ⟨⟨rfl, by rw [c6sav, if_neg (fun y => c6_2 y.2)]⟩, rfl⟩ hl.1 dX6_save_9 dX6_save_12 dX6_save_13 dX6_save_16 dX6_save_19 (Nat.le_of_ble_eq_true rfl) (Nat.le_of_ble_eq_true rfl) (Nat.le_of_ble_eq_true rfl) (Nat.le_of_ble_eq_true rfl) (Nat.le_of_ble_eq_true rfl) (Nat.le_of_ble_eq_true rfl)
theorem dX6_restore_0 : decode cX6_restore 0 = .ok (.iload_n 1, 1) := by decide +kernel
theorem dX6_restore_1 : decode cX6_restore 1 = .ok (.ifCond .lt 8, 3) := by decide +kernel
theorem dX6_restore_4 : decode cX6_restore 4 = .ok (.iload_n 1, 1) := by decide +kernel
theorem dX6_restore_5 : decode cX6_restore 5 = .ok (.iconst 2, 1) := by decide +kernel
theorem dX6_restore_6 : decode cX6_restore 6 = .ok (.if_icmp .lt 14, 3) := by decide +kernel
theorem dX6_restore_9 : decode cX6_restore 9 = .ok (.new 132, 3) := by decide +kernel
theorem dX6_restore_12 : decode cX6_restore 12 = .ok (.dup, 1) := by decide +kernel
theorem dX6_restore_13 : decode cX6_restore 13 = .ok (.ldc_w 266, 3) := by decide +kernel
theorem dX6_restore_16 : decode cX6_restore 16 = .ok (.invokespecial 136, 3) := by decide +kernel
theorem dX6_restore_19 : decode cX6_restore 19 = .ok (.athrow, 1) := by decide +kernel
theorem dX6_restore_20 : decode cX6_restore 20 = .ok (.aload_n 0, 1) := by decide +kernel
theorem dX6_restore_21 : decode cX6_restore 21 = .ok (.getfield 26, 3) := by decide +kernel
theorem dX6_restore_24 : decode cX6_restore 24 = .ok (.iload_n 1, 1) := by decide +kernel
theorem dX6_restore_25 : decode cX6_restore 25 = .ok (.invokevirtual 272, 3) := by decide +kernel
theorem dX6_restore_28 : decode cX6_restore 28 = .ok (.ifCond .ne 14, 3) := by decide +kernel
theorem dX6_restore_31 : decode cX6_restore 31 = .ok (.new 54, 3) := by decide +kernel
theorem dX6_restore_34 : decode cX6_restore 34 = .ok (.dup, 1) := by decide +kernel
theorem dX6_restore_35 : decode cX6_restore 35 = .ok (.ldc_w 275, 3) := by decide +kernel
theorem dX6_restore_38 : decode cX6_restore 38 = .ok (.invokespecial 58, 3) := by decide +kernel
theorem dX6_restore_41 : decode cX6_restore 41 = .ok (.athrow, 1) := by decide +kernel
theorem dX6_restore_42 : decode cX6_restore 42 = .ok (.aload_n 0, 1) := by decide +kernel
theorem dX6_restore_43 : decode cX6_restore 43 = .ok (.getfield 26, 3) := by decide +kernel
theorem dX6_restore_46 : decode cX6_restore 46 = .ok (.iload_n 1, 1) := by decide +kernel
theorem dX6_restore_47 : decode cX6_restore 47 = .ok (.aload_n 0, 1) := by decide +kernel
theorem dX6_restore_48 : decode cX6_restore 48 = .ok (.getfield 33, 3) := by decide +kernel
theorem dX6_restore_51 : decode cX6_restore 51 = .ok (.invokevirtual 277, 3) := by decide +kernel
theorem dX6_restore_54 : decode cX6_restore 54 = .ok (.aload_n 0, 1) := by decide +kernel
theorem dX6_restore_55 : decode cX6_restore 55 = .ok (.getfield 19, 3) := by decide +kernel
theorem dX6_restore_58 : decode cX6_restore 58 = .ok (.invokevirtual 86, 3) := by decide +kernel
theorem dX6_restore_61 : decode cX6_restore 61 = .ok (.aload_n 0, 1) := by decide +kernel
theorem dX6_restore_62 : decode cX6_restore 62 = .ok (.getfield 33, 3) := by decide +kernel
theorem dX6_restore_65 : decode cX6_restore 65 = .ok (.getfield 122, 3) := by decide +kernel
theorem dX6_restore_68 : decode cX6_restore 68 = .ok (.invokevirtual 215, 3) := by decide +kernel
theorem dX6_restore_71 : decode cX6_restore 71 = .ok (.ireturn, 1) := by decide +kernel
set_option maxHeartbeats 4000000 in
set_option maxRecDepth 100000 in
theorem c6_restore (l : Launch) (hst : l.stackTraces = false)  (D : va_G) (cI cL cZ : ClassId) (ob so ho sl : Nat) (dg dc dt : Nat → Nat) (z : LgS) (hz : Inv z) (sb ua : Nat) (sg : Nat → Option Nat) (uf : Nat → Int32) (ds : Nat → Nat) (zs : LgS) (hBs : zs.1.2 ≤ 8) (sa nx ct : Nat) (x : Int32) (hsg0 : inN x 2 → sg x.toNatClampNeg = some (ds 0))  : GE l yX6_restore cX6_restore 2 6 145 D [[(ob, .inr (6, [.ref so, .ref ho, .ref sl, .ref (dg 0), .ref (dc 0), .ref (dt 0)]))], zL cI dg z, [(sl, .inr (3, [.ref sb, .ref ua]))], [(sb, .inl (cL, 2, .inr (.inr (.inr (.inr sg)))))], [(ua, .inl (cZ, 2, .inl uf))], zL cI ds zs, [(ho, .inr (1, [.ref sa, .int (nI (nx)), .int (nI (ct))]))]] [(cI, .int), (cL, (.object "TornPageLog$Log")), (cZ, .boolean)] [.ref ob, .int (x)] (fun (r9 : Int32) (u9 : List va_W) => (c6rst uf x) = 0 ∧ r9 = (nI (ckZ zs 16)) ∧ u9 = [[(ob, .inr (6, [.ref so, .ref ho, .ref sl, .ref (dg 0), .ref (dc 0), .ref (dt 0)]))], zL cI dg zs, [(sl, .inr (3, [.ref sb, .ref ua]))], [(sb, .inl (cL, 2, .inr (.inr (.inr (.inr sg)))))], [(ua, .inl (cZ, 2, .inl uf))], zL cI ds zs, [(ho, .inr (1, [.ref sa, .int (nI (nx)), .int (0)]))]]) (fun (e9 : String) (u9 : List va_W) => ((e9 = xOB ∧ (c6rst uf x) = 1) ∨ (e9 = xIS ∧ (c6rst uf x) = 2)) ∧ u9 = [[(ob, .inr (6, [.ref so, .ref ho, .ref sl, .ref (dg 0), .ref (dc 0), .ref (dt 0)]))], zL cI dg z, [(sl, .inr (3, [.ref sb, .ref ua]))], [(sb, .inl (cL, 2, .inr (.inr (.inr (.inr sg)))))], [(ua, .inl (cZ, 2, .inl uf))], zL cI ds zs, [(ho, .inr (1, [.ref sa, .int (nI (nx)), .int (nI (ct))]))]]) := by
  refine ge_of (by decide) rfl (Nat.le_of_ble_eq_true rfl) ?_
  intro p e s m below meth c ls H hX hEx hnt hr hlocks hK hN hE hSW hZ hP hD hS hl
  generalize gp_A (bw [[(ob, .inr (6, [.ref so, .ref ho, .ref sl, .ref (dg 0), .ref (dc 0), .ref (dt 0)]))], zL cI dg z, [(sl, .inr (3, [.ref sb, .ref ua]))], [(sb, .inl (cL, 2, .inr (.inr (.inr (.inr sg)))))], [(ua, .inl (cZ, 2, .inl uf))], zL cI ds zs, [(ho, .inr (1, [.ref sa, .int (nI (nx)), .int (nI (ct))]))]]) = A at hZ hD hS ⊢
  have hx := hX.1
  have hb := hX.2.1
  have hown := hX.2.2.2.1
  have hts := hX.2.2.2.2
  have hl : lv_has ls 2 [(0, .ref ob), (1, .int (x))] := hl
  refine lv_iload_n hx hb dX6_restore_0 rfl (lv_at hl 1 rfl) ?_
  refine lv_if_lt (tgt := 9) hx hb dX6_restore_1 (by decide) (fun c1_1 => ?_) (fun c1_1 => ?_)
  · skip
    exact ge_tobW hst hX hEx hnt hlocks hE hSW hZ hS hP (m6 348 rfl) (m6 349 rfl) (show (266, _) ∈ xT from List.mem_of_getElem? (i := 24) rfl) ⟨Or.inl ⟨rfl, by rw [c6rst, if_neg (fun y => y.1 c1_1)]⟩, rfl⟩ hl.1 dX6_restore_9 dX6_restore_12 dX6_restore_13 dX6_restore_16 dX6_restore_19 (Nat.le_of_ble_eq_true rfl) (Nat.le_of_ble_eq_true rfl) (Nat.le_of_ble_eq_true rfl) (Nat.le_of_ble_eq_true rfl) (Nat.le_of_ble_eq_true rfl) (Nat.le_of_ble_eq_true rfl)
  · skip
    refine lv_iload_n hx hb dX6_restore_4 rfl (lv_at hl 1 rfl) ?_
    refine lv_iconst (v := 2) hx hb dX6_restore_5 (by decide) ?_
    refine lv_icmp_lt (tgt := 20) hx hb dX6_restore_6 (by decide) (fun c6_2 => ?_) (fun c6_2 => ?_)
    · skip
      obtain ⟨en1, hn1⟩ := num0 (k := 2) (by decide) c1_1 c6_2
      have hl : lv_has ls 2 [(0, .ref ob), (1, .int (nI (x.toNatClampNeg)))] := lv_re hl 1 rfl en1
      have hsg := hsg0 ⟨c1_1, c6_2⟩
      refine lv_aload_n hx hb dX6_restore_20 rfl (lv_at hl 0 rfl) ?_
      refine va_get (D := D) (ci := 6) (v := .ref sl) (C := RX6) (T := TX6) (N := 6) hx hb hts u6_X6 hown hK hP 0 rfl rfl 2 (by decide) (hts _ (m6 258 rfl)) (fun _ h9 => h9) rfl dX6_restore_21 ?_
      refine lv_iload_n hx hb dX6_restore_24 rfl (lv_at hl 1 rfl) ?_
      refine bq_readV hX good6 (m6 257 rfl) (c3_isUsed l D cZ sl sb ua uf x.toNatClampNeg (by omega)) q3_isUsed rfl (m6 395 rfl) (m6 396 rfl) (m6 397 rfl) ⟨Nat.le_of_ble_eq_true rfl, Nat.le_of_ble_eq_true rfl⟩ hK hN [2] rfl hP [2, 4] rfl (ci := 3) (q0 := 0) rfl rfl rfl hS hl.1 rfl (Nat.le_of_ble_eq_true rfl) dX6_restore_25 ⟨Nat.zero_le _, Nat.zero_le _⟩ (fun H locs hP hS => ?_)
      refine lv_if_ne (tgt := 42) hx hb dX6_restore_28 (by decide) (fun c28_3 => ?_) (fun c28_3 => ?_)
      · skip
        have c28_3 := bI_t c28_3
        refine lv_aload_n hx hb dX6_restore_42 rfl (lv_at hl 0 rfl) ?_
        refine va_get (D := D) (ci := 6) (v := .ref sl) (C := RX6) (T := TX6) (N := 6) hx hb hts u6_X6 hown hK hP 0 rfl rfl 2 (by decide) (hts _ (m6 258 rfl)) (fun _ h9 => h9) rfl dX6_restore_43 ?_
        refine lv_iload_n hx hb dX6_restore_46 rfl (lv_at hl 1 rfl) ?_
        refine lv_aload_n hx hb dX6_restore_47 rfl (lv_at hl 0 rfl) ?_
        refine va_get (D := D) (ci := 6) (v := .ref (dg 0)) (C := RX6) (T := TX6) (N := 6) hx hb hts u6_X6 hown hK hP 0 rfl rfl 3 (by decide) (hts _ (m6 260 rfl)) (fun _ h9 => h9) rfl dX6_restore_48 ?_
        refine bq_backv (bq_runV hX good6 (m6 257 rfl) (c3_bringBack l D cI cL cZ sl sb ua sg uf x.toNatClampNeg (by omega) ds dg zs z hBs (inv_B hz) hsg) q3_bringBack rfl (m6 399 rfl) (m6 400 rfl) (m6 401 rfl) ⟨Nat.le_of_ble_eq_true rfl, Nat.le_of_ble_eq_true rfl⟩ hK hN [0, 1] rfl hP hD [2, 3, 5, 1] (by decide) rfl (ci := 3) (q0 := 0) rfl rfl rfl hl.1 rfl (Nat.le_of_ble_eq_true rfl) dX6_restore_51 ⟨Nat.zero_le _, Nat.zero_le _⟩) hP hD hS [2, 3, 5, 1] rfl (fun u h => by rw [h]; rfl) (fun u H locs hpost hP hD hS => ?_)
        subst hpost
        have hP : va_P D vwCl (bw [[(ob, .inr (6, [.ref so, .ref ho, .ref sl, .ref (dg 0), .ref (dc 0), .ref (dt 0)]))], zL cI dg zs, [(sl, .inr (3, [.ref sb, .ref ua]))], [(sb, .inl (cL, 2, .inr (.inr (.inr (.inr sg)))))], [(ua, .inl (cZ, 2, .inl uf))], zL cI ds zs, [(ho, .inr (1, [.ref sa, .int (nI (nx)), .int (nI (ct))]))]]) H := hP
        have hD : va_D A (bw [[(ob, .inr (6, [.ref so, .ref ho, .ref sl, .ref (dg 0), .ref (dc 0), .ref (dt 0)]))], zL cI dg zs, [(sl, .inr (3, [.ref sb, .ref ua]))], [(sb, .inl (cL, 2, .inr (.inr (.inr (.inr sg)))))], [(ua, .inl (cZ, 2, .inl uf))], zL cI ds zs, [(ho, .inr (1, [.ref sa, .int (nI (nx)), .int (nI (ct))]))]]) := hD
        refine lv_aload_n hx hb dX6_restore_54 rfl (lv_at hl 0 rfl) ?_
        refine va_get (D := D) (ci := 6) (v := .ref ho) (C := RX6) (T := TX6) (N := 6) hx hb hts u6_X6 hown hK hP 0 rfl rfl 1 (by decide) (hts _ (m6 254 rfl)) (fun _ h9 => h9) rfl dX6_restore_55 ?_
        refine bq_backv (bq_runV hX good6 (m6 253 rfl) (c1_forget l D ho sa nx ct) q1_forget rfl (m6 330 rfl) (m6 331 rfl) (m6 332 rfl) ⟨Nat.le_of_ble_eq_true rfl, Nat.le_of_ble_eq_true rfl⟩ hK hN [] rfl hP hD [6] (by decide) rfl (ci := 1) (q0 := 0) rfl rfl rfl hl.1 rfl (Nat.le_of_ble_eq_true rfl) dX6_restore_58 ⟨Nat.zero_le _, Nat.zero_le _⟩) hP hD hS [6] rfl (fun u h => by rw [h]; rfl) (fun u H locs hpost hP hD hS => ?_)
        subst hpost
        have hP : va_P D vwCl (bw [[(ob, .inr (6, [.ref so, .ref ho, .ref sl, .ref (dg 0), .ref (dc 0), .ref (dt 0)]))], zL cI dg zs, [(sl, .inr (3, [.ref sb, .ref ua]))], [(sb, .inl (cL, 2, .inr (.inr (.inr (.inr sg)))))], [(ua, .inl (cZ, 2, .inl uf))], zL cI ds zs, [(ho, .inr (1, [.ref sa, .int (nI (nx)), .int (0)]))]]) H := hP
        have hD : va_D A (bw [[(ob, .inr (6, [.ref so, .ref ho, .ref sl, .ref (dg 0), .ref (dc 0), .ref (dt 0)]))], zL cI dg zs, [(sl, .inr (3, [.ref sb, .ref ua]))], [(sb, .inl (cL, 2, .inr (.inr (.inr (.inr sg)))))], [(ua, .inl (cZ, 2, .inl uf))], zL cI ds zs, [(ho, .inr (1, [.ref sa, .int (nI (nx)), .int (0)]))]]) := hD
        refine lv_aload_n hx hb dX6_restore_61 rfl (lv_at hl 0 rfl) ?_
        refine va_get (D := D) (ci := 6) (v := .ref (dg 0)) (C := RX6) (T := TX6) (N := 6) hx hb hts u6_X6 hown hK hP 0 rfl rfl 3 (by decide) (hts _ (m6 260 rfl)) (fun _ h9 => h9) rfl dX6_restore_62 ?_
        refine va_get (D := D) (ci := 2) (v := .ref (dg 1)) (C := RX2) (T := TX2) (N := 8) hx hb hts u6_X2 hown hK hP 1 rfl rfl 0 (by decide) (hts _ (m6 301 rfl)) (fun _ h9 => h9) rfl dX6_restore_65 ?_
        refine bq_readV hX good6 (m6 23 rfl) (b0_countKeys l D cI dg zs hBs ) q0_countKeys rfl (m6 371 rfl) (m6 120 rfl) (m6 121 rfl) ⟨Nat.le_of_ble_eq_true rfl, Nat.le_of_ble_eq_true rfl⟩ hK hN [0] rfl hP [1] rfl (ci := 0) (q0 := 1) rfl rfl rfl hS hl.1 rfl (Nat.le_of_ble_eq_true rfl) dX6_restore_68 ⟨Nat.zero_le _, Nat.zero_le _⟩ (fun H locs hP hS => ?_)
        exact ge_ret hX hr hlocks hS hP ⟨by rw [c6rst, if_pos ⟨c1_1, c6_2⟩, if_neg c28_3], rfl, rfl⟩ (Nat.le_of_ble_eq_true rfl) (Nat.le_of_ble_eq_true rfl) dX6_restore_71
      · skip
        have c28_3 := bI_f c28_3
        exact ge_tisW hst hX hEx hnt hlocks hE hSW hZ hS hP (m6 274 rfl) (m6 275 rfl) (show (275, _) ∈ xT from List.mem_of_getElem? (i := 25) rfl) ⟨Or.inr (⟨rfl, by rw [c6rst, if_pos ⟨c1_1, c6_2⟩, if_pos (Classical.not_not.mp c28_3)]⟩), rfl⟩ hl.1 dX6_restore_31 dX6_restore_34 dX6_restore_35 dX6_restore_38 dX6_restore_41 (Nat.le_of_ble_eq_true rfl) (Nat.le_of_ble_eq_true rfl) (Nat.le_of_ble_eq_true rfl) (Nat.le_of_ble_eq_true rfl) (Nat.le_of_ble_eq_true rfl) (Nat.le_of_ble_eq_true rfl)
    · skip
      exact ge_tobW hst hX hEx hnt hlocks hE hSW hZ hS hP (m6 348 rfl) (m6 349 rfl) (show (266, _) ∈ xT from List.mem_of_getElem? (i := 24) rfl) ⟨Or.inl ⟨rfl, by rw [c6rst, if_neg (fun y => c6_2 y.2)]⟩, rfl⟩ hl.1 dX6_restore_9 dX6_restore_12 dX6_restore_13 dX6_restore_16 dX6_restore_19 (Nat.le_of_ble_eq_true rfl) (Nat.le_of_ble_eq_true rfl) (Nat.le_of_ble_eq_true rfl) (Nat.le_of_ble_eq_true rfl) (Nat.le_of_ble_eq_true rfl) (Nat.le_of_ble_eq_true rfl)
