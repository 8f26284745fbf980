theorem dX6_append_0 : decode cX6_append 0 = .ok (.iload_n 1, 1) := by decide +kernel
theorem dX6_append_1 : decode cX6_append 1 = .ok (.ifCond .lt 10, 3) := by decide +kernel
theorem dX6_append_4 : decode cX6_append 4 = .ok (.iload_n 1, 1) := by decide +kernel
theorem dX6_append_5 : decode cX6_append 5 = .ok (.sipush 255, 3) := by decide +kernel
theorem dX6_append_8 : decode cX6_append 8 = .ok (.if_icmp .le 13, 3) := by decide +kernel
theorem dX6_append_11 : decode cX6_append 11 = .ok (.new 43, 3) := by decide +kernel
theorem dX6_append_14 : decode cX6_append 14 = .ok (.dup, 1) := by decide +kernel
theorem dX6_append_15 : decode cX6_append 15 = .ok (.ldc 45, 2) := by decide +kernel
theorem dX6_append_17 : decode cX6_append 17 = .ok (.invokespecial 47, 3) := by decide +kernel
theorem dX6_append_20 : decode cX6_append 20 = .ok (.athrow, 1) := by decide +kernel
theorem dX6_append_21 : decode cX6_append 21 = .ok (.aload_n 0, 1) := by decide +kernel
theorem dX6_append_22 : decode cX6_append 22 = .ok (.getfield 12, 3) := by decide +kernel
theorem dX6_append_25 : decode cX6_append 25 = .ok (.invokevirtual 50, 3) := by decide +kernel
theorem dX6_append_28 : decode cX6_append 28 = .ok (.ifCond .eq 13, 3) := by decide +kernel
theorem dX6_append_31 : decode cX6_append 31 = .ok (.new 54, 3) := by decide +kernel
theorem dX6_append_34 : decode cX6_append 34 = .ok (.dup, 1) := by decide +kernel
theorem dX6_append_35 : decode cX6_append 35 = .ok (.ldc 56, 2) := by decide +kernel
theorem dX6_append_37 : decode cX6_append 37 = .ok (.invokespecial 58, 3) := by decide +kernel
theorem dX6_append_40 : decode cX6_append 40 = .ok (.athrow, 1) := by decide +kernel
theorem dX6_append_41 : decode cX6_append 41 = .ok (.aload_n 0, 1) := by decide +kernel
theorem dX6_append_42 : decode cX6_append 42 = .ok (.getfield 12, 3) := by decide +kernel
theorem dX6_append_45 : decode cX6_append 45 = .ok (.iload_n 1, 1) := by decide +kernel
theorem dX6_append_46 : decode cX6_append 46 = .ok (.invokevirtual 59, 3) := by decide +kernel
theorem dX6_append_49 : decode cX6_append 49 = .ok (.ireturn, 1) := by decide +kernel
set_option maxHeartbeats 4000000 in
set_option maxRecDepth 100000 in
theorem c6_append (l : Launch) (hst : l.stackTraces = false)  (D : va_G) (cI : ClassId) (ob so ho sl : Nat) (dg dc dt : Nat → Nat) (tx : Nat) (t : Nat → Int32) (n : Nat) (hn : n ≤ 90) (q : Nat) (hq : q ≤ 90) (v : Nat → Int32) (x : Int32) : GE l yX6_append cX6_append 2 6 90 D [[(ob, .inr (6, [.ref so, .ref ho, .ref sl, .ref (dg 0), .ref (dc 0), .ref (dt 0)]))], zS cI so tx t n q v] [(cI, .int)] [.ref ob, .int (x)] (fun (r9 : Int32) (u9 : List va_W) => (c6ap n x) = 0 ∧ r9 = (nI (n + 1)) ∧ u9 = [[(ob, .inr (6, [.ref so, .ref ho, .ref sl, .ref (dg 0), .ref (dc 0), .ref (dt 0)]))], zS cI so tx (upd t n x) (n + 1) q v]) (fun (e9 : String) (u9 : List va_W) => ((e9 = xIA ∧ (c6ap n x) = 1) ∨ (e9 = xIS ∧ (c6ap n x) = 2)) ∧ u9 = [[(ob, .inr (6, [.ref so, .ref ho, .ref sl, .ref (dg 0), .ref (dc 0), .ref (dt 0)]))], zS cI so tx t n q v]) := by
  refine ge_of (by decide) rfl (Nat.le_of_ble_eq_true rfl) ?_
  intro p e s m below meth c ls H hX hEx hnt hr hlocks hK hN hE hSW hZ hP hD hS hl
  generalize gp_A (bw [[(ob, .inr (6, [.ref so, .ref ho, .ref sl, .ref (dg 0), .ref (dc 0), .ref (dt 0)]))], zS cI so tx t n q v]) = A at hZ hD hS ⊢
  have hx := hX.1
  have hb := hX.2.1
  have hown := hX.2.2.2.1
  have hts := hX.2.2.2.2
  have hl : lv_has ls 2 [(0, .ref ob), (1, .int (x))] := hl
  refine lv_iload_n hx hb dX6_append_0 rfl (lv_at hl 1 rfl) ?_
  refine lv_if_lt (tgt := 11) hx hb dX6_append_1 (by decide) (fun c1_1 => ?_) (fun c1_1 => ?_)
  · skip
    exact ge_tia hst hX hEx hnt hlocks hE hSW hZ hS hP (m6 272 rfl) (m6 273 rfl) (show (45, _) ∈ xT from List.mem_of_getElem? (i := 0) rfl) ⟨Or.inl ⟨rfl, by rw [c6ap, if_neg (fun y => y.1 c1_1)]⟩, rfl⟩ hl.1 dX6_append_11 dX6_append_14 dX6_append_15 dX6_append_17 dX6_append_20 (Nat.le_of_ble_eq_true rfl) (Nat.le_of_ble_eq_true rfl) (Nat.le_of_ble_eq_true rfl) (Nat.le_of_ble_eq_true rfl) (Nat.le_of_ble_eq_true rfl) (Nat.le_of_ble_eq_true rfl)
  · skip
    refine lv_iload_n hx hb dX6_append_4 rfl (lv_at hl 1 rfl) ?_
    refine lv_sipush (v := 255) hx hb dX6_append_5 (by decide) ?_
    refine lv_icmp_le (tgt := 21) hx hb dX6_append_8 (by decide) (fun c8_2 => ?_) (fun c8_2 => ?_)
    · skip
      have c8_2 := i_nlt c8_2
      refine lv_aload_n hx hb dX6_append_21 rfl (lv_at hl 0 rfl) ?_
      refine va_get (D := D) (ci := 6) (v := .ref so) (C := RX6) (T := TX6) (N := 6) hx hb hts u6_X6 hown hK hP 0 rfl rfl 0 (by decide) (hts _ (m6 250 rfl)) (fun _ h9 => h9) rfl dX6_append_22 ?_
      refine bq_readV hX good6 (m6 221 rfl) (b4_isFull l D cI so tx t n hn q (by omega) v ) q4_isFull rfl (m6 276 rfl) (m6 277 rfl) (m6 278 rfl) ⟨Nat.le_of_ble_eq_true rfl, Nat.le_of_ble_eq_true rfl⟩ hK hN [0] rfl hP [1] rfl (ci := 4) (q0 := 0) rfl rfl rfl hS hl.1 rfl (Nat.le_of_ble_eq_true rfl) dX6_append_25 ⟨Nat.zero_le _, Nat.zero_le _⟩ (fun H locs hP hS => ?_)
      refine lv_if_eq (tgt := 41) hx hb dX6_append_28 (by decide) (fun c28_3 => ?_) (fun c28_3 => ?_)
      · skip
        have c28_3 := bI_f c28_3
        refine lv_aload_n hx hb dX6_append_41 rfl (lv_at hl 0 rfl) ?_
        refine va_get (D := D) (ci := 6) (v := .ref so) (C := RX6) (T := TX6) (N := 6) hx hb hts u6_X6 hown hK hP 0 rfl rfl 0 (by decide) (hts _ (m6 250 rfl)) (fun _ h9 => h9) rfl dX6_append_42 ?_
        refine lv_iload_n hx hb dX6_append_45 rfl (lv_at hl 1 rfl) ?_
        refine bq_backi (bq_runV hX good6 (m6 221 rfl) (b4_add l D cI so tx t n hn q (by omega) v x (by omega)) q4_add rfl (m6 280 rfl) (m6 281 rfl) (m6 282 rfl) ⟨Nat.le_of_ble_eq_true rfl, Nat.le_of_ble_eq_true rfl⟩ hK hN [0] rfl hP hD [1] (by decide) rfl (ci := 4) (q0 := 0) rfl rfl rfl hl.1 rfl (Nat.le_of_ble_eq_true rfl) dX6_append_46 ⟨Nat.zero_le _, Nat.zero_le _⟩) hP hD hS [1] rfl (fun r u h => by obtain ⟨-, rfl⟩ := h; rfl) (fun r9 u H locs hpost hP hD hS => ?_)
        obtain ⟨hr9, rfl⟩ := hpost
        refine lv_as hr9 ?_
        have hP : va_P D vwCl (bw [[(ob, .inr (6, [.ref so, .ref ho, .ref sl, .ref (dg 0), .ref (dc 0), .ref (dt 0)]))], zS cI so tx (upd t n x) (n + 1) q v]) H := hP
        have hD : va_D A (bw [[(ob, .inr (6, [.ref so, .ref ho, .ref sl, .ref (dg 0), .ref (dc 0), .ref (dt 0)]))], zS cI so tx (upd t n x) (n + 1) q v]) := hD
        exact ge_ret hX hr hlocks hS hP ⟨by rw [c6ap, if_pos ⟨c1_1, c8_2⟩, if_neg c28_3], rfl, rfl⟩ (Nat.le_of_ble_eq_true rfl) (Nat.le_of_ble_eq_true rfl) dX6_append_49
      · skip
        have c28_3 := bI_t c28_3
        exact ge_tis hst hX hEx hnt hlocks hE hSW hZ hS hP (m6 274 rfl) (m6 275 rfl) (show (56, _) ∈ xT from List.mem_of_getElem? (i := 1) rfl) ⟨Or.inr (⟨rfl, by rw [c6ap, if_pos ⟨c1_1, c8_2⟩, if_pos c28_3]⟩), rfl⟩ hl.1 dX6_append_31 dX6_append_34 dX6_append_35 dX6_append_37 dX6_append_40 (Nat.le_of_ble_eq_true rfl) (Nat.le_of_ble_eq_true rfl) (Nat.le_of_ble_eq_true rfl) (Nat.le_of_ble_eq_true rfl) (Nat.le_of_ble_eq_true rfl) (Nat.le_of_ble_eq_true rfl)
    · skip
      have c8_2 := i_lt c8_2
      exact ge_tia hst hX hEx hnt hlocks hE hSW hZ hS hP (m6 272 rfl) (m6 273 rfl) (show (45, _) ∈ xT from List.mem_of_getElem? (i := 0) rfl) ⟨Or.inl ⟨rfl, by rw [c6ap, if_neg (fun y => y.2 c8_2)]⟩, rfl⟩ hl.1 dX6_append_11 dX6_append_14 dX6_append_15 dX6_append_17 dX6_append_20 (Nat.le_of_ble_eq_true rfl) (Nat.le_of_ble_eq_true rfl) (Nat.le_of_ble_eq_true rfl) (Nat.le_of_ble_eq_true rfl) (Nat.le_of_ble_eq_true rfl) (Nat.le_of_ble_eq_true rfl)
theorem dX6_clearText_0 : decode cX6_clearText 0 = .ok (.aload_n 0, 1) := by decide +kernel
theorem dX6_clearText_1 : decode cX6_clearText 1 = .ok (.getfield 12, 3) := by decide +kernel
theorem dX6_clearText_4 : decode cX6_clearText 4 = .ok (.invokevirtual 63, 3) := by decide +kernel
theorem dX6_clearText_7 : decode cX6_clearText 7 = .ok (.ireturn, 1) := by decide +kernel
set_option maxHeartbeats 4000000 in
set_option maxRecDepth 100000 in
theorem c6_clearText (l : Launch) (D : va_G) (cI : ClassId) (ob so ho sl : Nat) (dg dc dt : Nat → Nat) (tx : Nat) (t : Nat → Int32) (n : Nat) (hn : n ≤ 90) (q : Nat) (hq : q ≤ 90) (v : Nat → Int32)  : BQi l yX6_clearText cX6_clearText 1 .int W6 1 21 D [[(ob, .inr (6, [.ref so, .ref ho, .ref sl, .ref (dg 0), .ref (dc 0), .ref (dt 0)]))], zS cI so tx t n q v] [(cI, .int)] [.ref ob] (fun (r9 : Int32) (u9 : List va_W) => r9 = (nI (n)) ∧ u9 = [[(ob, .inr (6, [.ref so, .ref ho, .ref sl, .ref (dg 0), .ref (dc 0), .ref (dt 0)]))], zS cI so tx t 0 q v]) := by
  refine gq_of RX6 (by decide) rfl (Nat.le_of_ble_eq_true rfl) ?_
  intro p e s m below meth c ls H hX hr hlocks hK hN hP hD hS hl
  generalize gp_A (bw [[(ob, .inr (6, [.ref so, .ref ho, .ref sl, .ref (dg 0), .ref (dc 0), .ref (dt 0)]))], zS cI so tx t n q v]) = A at hD hS ⊢
  have hx := hX.1
  have hb := hX.2.1
  have hown := hX.2.2.2.1
  have hts := hX.2.2.2.2
  have hl : lv_has ls 1 [(0, .ref ob)] := hl
  refine lv_aload_n hx hb dX6_clearText_0 rfl (lv_at hl 0 rfl) ?_
  refine va_get (D := D) (ci := 6) (v := .ref so) (C := RX6) (T := TX6) (N := 6) hx hb hts u6_X6 hown hK hP 0 rfl rfl 0 (by decide) (hts _ (m6 250 rfl)) (fun _ h9 => h9) rfl dX6_clearText_1 ?_
  refine bq_backi (bq_runV hX good6 (m6 221 rfl) (b4_empty l D cI so tx t n hn q (by omega) v ) q4_empty rfl (m6 284 rfl) (m6 285 rfl) (m6 286 rfl) ⟨Nat.le_of_ble_eq_true rfl, Nat.le_of_ble_eq_true rfl⟩ hK hN [0] rfl hP hD [1] (by decide) rfl (ci := 4) (q0 := 0) rfl rfl rfl hl.1 rfl (Nat.le_of_ble_eq_true rfl) dX6_clearText_4 ⟨Nat.zero_le _, Nat.zero_le _⟩) hP hD hS [1] rfl (fun r u h => by obtain ⟨-, rfl⟩ := h; rfl) (fun r9 u H locs hpost hP hD hS => ?_)
  obtain ⟨hr9, rfl⟩ := hpost
  refine lv_as hr9 ?_
  have hP : va_P D vwCl (bw [[(ob, .inr (6, [.ref so, .ref ho, .ref sl, .ref (dg 0), .ref (dc 0), .ref (dt 0)]))], zS cI so tx t 0 q v]) H := hP
  have hD : va_D A (bw [[(ob, .inr (6, [.ref so, .ref ho, .ref sl, .ref (dg 0), .ref (dc 0), .ref (dt 0)]))], zS cI so tx t 0 q v]) := hD
  exact bq_reti hX hr hlocks hS hP ⟨rfl, rfl⟩ dX6_clearText_7
theorem dX6_errorPosition_0 : decode cX6_errorPosition 0 = .ok (.aload_n 0, 1) := by decide +kernel
theorem dX6_errorPosition_1 : decode cX6_errorPosition 1 = .ok (.getfield 12, 3) := by decide +kernel
theorem dX6_errorPosition_4 : decode cX6_errorPosition 4 = .ok (.invokevirtual 67, 3) := by decide +kernel
theorem dX6_errorPosition_7 : decode cX6_errorPosition 7 = .ok (.ireturn, 1) := by decide +kernel
set_option maxHeartbeats 4000000 in
set_option maxRecDepth 100000 in
theorem c6_errorPosition (l : Launch) (D : va_G) (cI : ClassId) (ob so ho sl : Nat) (dg dc dt : Nat → Nat) (tx : Nat) (t : Nat → Int32) (n : Nat) (hn : n ≤ 90) (q : Nat) (hq : q ≤ 90) (v : Nat → Int32)  : BQi l yX6_errorPosition cX6_errorPosition 1 .int W6 4 90 D [[(ob, .inr (6, [.ref so, .ref ho, .ref sl, .ref (dg 0), .ref (dc 0), .ref (dt 0)]))], zS cI so tx t n q v] [(cI, .int)] [.ref ob] (fun (r9 : Int32) (u9 : List va_W) => r9 = (feV (feR t n)) ∧ ∃ v9 : Nat → Int32, u9 = [[(ob, .inr (6, [.ref so, .ref ho, .ref sl, .ref (dg 0), .ref (dc 0), .ref (dt 0)]))], zS cI so tx t n ((feR t n).2) v9]) := by
  refine gq_of RX6 (by decide) rfl (Nat.le_of_ble_eq_true rfl) ?_
  intro p e s m below meth c ls H hX hr hlocks hK hN hP hD hS hl
  generalize gp_A (bw [[(ob, .inr (6, [.ref so, .ref ho, .ref sl, .ref (dg 0), .ref (dc 0), .ref (dt 0)]))], zS cI so tx t n q v]) = A at hD hS ⊢
  have hx := hX.1
  have hb := hX.2.1
  have hown := hX.2.2.2.1
  have hts := hX.2.2.2.2
  have hl : lv_has ls 1 [(0, .ref ob)] := hl
  refine lv_aload_n hx hb dX6_errorPosition_0 rfl (lv_at hl 0 rfl) ?_
  refine va_get (D := D) (ci := 6) (v := .ref so) (C := RX6) (T := TX6) (N := 6) hx hb hts u6_X6 hown hK hP 0 rfl rfl 0 (by decide) (hts _ (m6 250 rfl)) (fun _ h9 => h9) rfl dX6_errorPosition_1 ?_
  refine bq_backi (bq_runV hX good6 (m6 221 rfl) (b4_firstError l D cI so tx t n hn q (by omega) v ) q4_firstError rfl (m6 288 rfl) (m6 289 rfl) (m6 290 rfl) ⟨Nat.le_of_ble_eq_true rfl, Nat.le_of_ble_eq_true rfl⟩ hK hN [0] rfl hP hD [1] (by decide) rfl (ci := 4) (q0 := 0) rfl rfl rfl hl.1 rfl (Nat.le_of_ble_eq_true rfl) dX6_errorPosition_4 ⟨Nat.zero_le _, Nat.zero_le _⟩) hP hD hS [1] rfl (fun r u h => by obtain ⟨-, x1, rfl⟩ := h; rfl) (fun r9 u H locs hpost hP hD hS => ?_)
  obtain ⟨hr9, x1, rfl⟩ := hpost
  refine lv_as hr9 ?_
  have hP : va_P D vwCl (bw [[(ob, .inr (6, [.ref so, .ref ho, .ref sl, .ref (dg 0), .ref (dc 0), .ref (dt 0)]))], zS cI so tx t n ((feR t n).2) x1]) H := hP
  have hD : va_D A (bw [[(ob, .inr (6, [.ref so, .ref ho, .ref sl, .ref (dg 0), .ref (dc 0), .ref (dt 0)]))], zS cI so tx t n ((feR t n).2) x1]) := hD
  exact bq_reti hX hr hlocks hS hP ⟨rfl, _, rfl⟩ dX6_errorPosition_7
theorem dX6_about_0 : decode cX6_about 0 = .ok (.iload_n 1, 1) := by decide +kernel
theorem dX6_about_1 : decode cX6_about 1 = .ok (.ifCond .lt 9, 3) := by decide +kernel
theorem dX6_about_4 : decode cX6_about 4 = .ok (.iload_n 1, 1) := by decide +kernel
theorem dX6_about_5 : decode cX6_about 5 = .ok (.bipush 13, 2) := by decide +kernel
theorem dX6_about_7 : decode cX6_about 7 = .ok (.if_icmp .le 13, 3) := by decide +kernel
theorem dX6_about_10 : decode cX6_about 10 = .ok (.new 43, 3) := by decide +kernel
theorem dX6_about_13 : decode cX6_about 13 = .ok (.dup, 1) := by decide +kernel
theorem dX6_about_14 : decode cX6_about 14 = .ok (.ldc 110, 2) := by decide +kernel
theorem dX6_about_16 : decode cX6_about 16 = .ok (.invokespecial 47, 3) := by decide +kernel
theorem dX6_about_19 : decode cX6_about 19 = .ok (.athrow, 1) := by decide +kernel
theorem dX6_about_20 : decode cX6_about 20 = .ok (.iload_n 1, 1) := by decide +kernel
theorem dX6_about_21 : decode cX6_about 21 = .ok (.bipush 6, 2) := by decide +kernel
theorem dX6_about_23 : decode cX6_about 23 = .ok (.if_icmp .lt 9, 3) := by decide +kernel
theorem dX6_about_26 : decode cX6_about 26 = .ok (.iload_n 1, 1) := by decide +kernel
theorem dX6_about_27 : decode cX6_about 27 = .ok (.bipush 10, 2) := by decide +kernel
theorem dX6_about_29 : decode cX6_about 29 = .ok (.if_icmp .le 14, 3) := by decide +kernel
theorem dX6_about_32 : decode cX6_about 32 = .ok (.aload_n 0, 1) := by decide +kernel
theorem dX6_about_33 : decode cX6_about 33 = .ok (.getfield 33, 3) := by decide +kernel
theorem dX6_about_36 : decode cX6_about 36 = .ok (.iload_n 1, 1) := by decide +kernel
theorem dX6_about_37 : decode cX6_about 37 = .ok (.invokevirtual 112, 3) := by decide +kernel
theorem dX6_about_40 : decode cX6_about 40 = .ok (.goto 14, 3) := by decide +kernel
theorem dX6_about_43 : decode cX6_about 43 = .ok (.aload_n 0, 1) := by decide +kernel
theorem dX6_about_44 : decode cX6_about 44 = .ok (.getfield 33, 3) := by decide +kernel
theorem dX6_about_47 : decode cX6_about 47 = .ok (.getfield 115, 3) := by decide +kernel
theorem dX6_about_50 : decode cX6_about 50 = .ok (.iload_n 1, 1) := by decide +kernel
theorem dX6_about_51 : decode cX6_about 51 = .ok (.invokevirtual 119, 3) := by decide +kernel
theorem dX6_about_54 : decode cX6_about 54 = .ok (.ireturn, 1) := by decide +kernel
set_option maxHeartbeats 4000000 in
set_option maxRecDepth 100000 in
theorem c6_about (l : Launch) (hst : l.stackTraces = false)  (D : va_G) (cI : ClassId) (ob so ho sl : Nat) (dg dc dt : Nat → Nat) (z : LgS) (hz : Inv z) (x : Int32) : GE l yX6_about cX6_about 2 6 90 D [[(ob, .inr (6, [.ref so, .ref ho, .ref sl, .ref (dg 0), .ref (dc 0), .ref (dt 0)]))], zL cI dg z] [(cI, .int)] [.ref ob, .int (x)] (fun (r9 : Int32) (u9 : List va_W) => (c6r x 13) = 0 ∧ r9 = (abZ z x.toNatClampNeg) ∧ u9 = [[(ob, .inr (6, [.ref so, .ref ho, .ref sl, .ref (dg 0), .ref (dc 0), .ref (dt 0)]))], zL cI dg z]) (fun (e9 : String) (u9 : List va_W) => ((e9 = xIA ∧ (c6r x 13) = 1)) ∧ u9 = [[(ob, .inr (6, [.ref so, .ref ho, .ref sl, .ref (dg 0), .ref (dc 0), .ref (dt 0)]))], zL cI dg z]) := by
  refine ge_of (by decide) rfl (Nat.le_of_ble_eq_true rfl) ?_
  intro p e s m below meth c ls H hX hEx hnt hr hlocks hK hN hE hSW hZ hP hD hS hl
  generalize gp_A (bw [[(ob, .inr (6, [.ref so, .ref ho, .ref sl, .ref (dg 0), .ref (dc 0), .ref (dt 0)]))], zL cI dg z]) = A at hZ hD hS ⊢
  have hx := hX.1
  have hb := hX.2.1
  have hown := hX.2.2.2.1
  have hts := hX.2.2.2.2
  have hl : lv_has ls 2 [(0, .ref ob), (1, .int (x))] := hl
  refine lv_iload_n hx hb dX6_about_0 rfl (lv_at hl 1 rfl) ?_
  refine lv_if_lt (tgt := 10) hx hb dX6_about_1 (by decide) (fun c1_1 => ?_) (fun c1_1 => ?_)
  · skip
    exact ge_tia hst hX hEx hnt hlocks hE hSW hZ hS hP (m6 272 rfl) (m6 273 rfl) (show (110, _) ∈ xT from List.mem_of_getElem? (i := 3) rfl) ⟨⟨rfl, by rw [c6r, if_neg (fun y => y.1 c1_1)]⟩, rfl⟩ hl.1 dX6_about_10 dX6_about_13 dX6_about_14 dX6_about_16 dX6_about_19 (Nat.le_of_ble_eq_true rfl) (Nat.le_of_ble_eq_true rfl) (Nat.le_of_ble_eq_true rfl) (Nat.le_of_ble_eq_true rfl) (Nat.le_of_ble_eq_true rfl) (Nat.le_of_ble_eq_true rfl)
  · skip
    refine lv_iload_n hx hb dX6_about_4 rfl (lv_at hl 1 rfl) ?_
    refine lv_bipush (v := 13) hx hb dX6_about_5 (by decide) ?_
    refine lv_icmp_le (tgt := 20) hx hb dX6_about_7 (by decide) (fun c7_2 => ?_) (fun c7_2 => ?_)
    · skip
      have c7_2 := i_nlt c7_2
      obtain ⟨en1, hn1⟩ := num_le (x := x) (a := 13) (by decide) c1_1 c7_2
      have hl : lv_has ls 2 [(0, .ref ob), (1, .int (nI (x.toNatClampNeg)))] := lv_re hl 1 rfl en1
      refine lv_iload_n hx hb dX6_about_20 rfl (lv_at hl 1 rfl) ?_
      refine lv_bipush (v := 6) hx hb dX6_about_21 (by decide) ?_
      refine lv_icmp_lt (tgt := 32) hx hb dX6_about_23 (by decide) (fun c23_3 => ?_) (fun c23_3 => ?_)
      · skip
        have c23_3 := cn_lt (a := x.toNatClampNeg) (b := 6) (by omega) (by omega) c23_3
        refine lv_aload_n hx hb dX6_about_32 rfl (lv_at hl 0 rfl) ?_
        refine va_get (D := D) (ci := 6) (v := .ref (dg 0)) (C := RX6) (T := TX6) (N := 6) hx hb hts u6_X6 hown hK hP 0 rfl rfl 3 (by decide) (hts _ (m6 260 rfl)) (fun _ h9 => h9) rfl dX6_about_33 ?_
        refine lv_iload_n hx hb dX6_about_36 rfl (lv_at hl 1 rfl) ?_
        refine bq_readV hX good6 (m6 83 rfl) (b2_tell l D cI dg z (inv_B hz) x.toNatClampNeg (by omega)) q2_tell rfl (m6 319 rfl) (m6 320 rfl) (m6 321 rfl) ⟨Nat.le_of_ble_eq_true rfl, Nat.le_of_ble_eq_true rfl⟩ hK hN [0] rfl hP [1] rfl (ci := 2) (q0 := 0) rfl rfl rfl hS hl.1 rfl (Nat.le_of_ble_eq_true rfl) dX6_about_37 ⟨Nat.zero_le _, Nat.zero_le _⟩ (fun H locs hP hS => ?_)
        refine lv_goto (tgt := 54) hx hb dX6_about_40 (by decide) ?_
        exact ge_ret hX hr hlocks hS hP ⟨by rw [c6r, if_pos ⟨c1_1, c7_2⟩], by rw [abZ, if_pos (by omega)], rfl⟩ (Nat.le_of_ble_eq_true rfl) (Nat.le_of_ble_eq_true rfl) dX6_about_54
      · skip
        have c23_3 := cn_nlt (a := x.toNatClampNeg) (b := 6) (by omega) (by omega) c23_3
        refine lv_iload_n hx hb dX6_about_26 rfl (lv_at hl 1 rfl) ?_
        refine lv_bipush (v := 10) hx hb dX6_about_27 (by decide) ?_
        refine lv_icmp_le (tgt := 43) hx hb dX6_about_29 (by decide) (fun c29_4 => ?_) (fun c29_4 => ?_)
        · skip
          have c29_4 := cn_le (a := x.toNatClampNeg) (b := 10) (by omega) (by omega) c29_4
          refine lv_aload_n hx hb dX6_about_43 rfl (lv_at hl 0 rfl) ?_
          refine va_get (D := D) (ci := 6) (v := .ref (dg 0)) (C := RX6) (T := TX6) (N := 6) hx hb hts u6_X6 hown hK hP 0 rfl rfl 3 (by decide) (hts _ (m6 260 rfl)) (fun _ h9 => h9) rfl dX6_about_44 ?_
          refine va_get (D := D) (ci := 2) (v := .ref (dg 10)) (C := RX2) (T := TX2) (N := 8) hx hb hts u6_X2 hown hK hP 1 rfl rfl 1 (by decide) (hts _ (m6 294 rfl)) (fun _ h9 => h9) rfl dX6_about_47 ?_
          refine lv_iload_n hx hb dX6_about_50 rfl (lv_at hl 1 rfl) ?_
          refine bq_readV hX good6 (m6 69 rfl) (b5_tell l D cI dg z (inv_B hz) x.toNatClampNeg (by omega) (by omega)) q5_tell rfl (m6 344 rfl) (m6 345 rfl) (m6 346 rfl) ⟨Nat.le_of_ble_eq_true rfl, Nat.le_of_ble_eq_true rfl⟩ hK hN [0] rfl hP [1] rfl (ci := 5) (q0 := 10) rfl rfl rfl hS hl.1 rfl (Nat.le_of_ble_eq_true rfl) dX6_about_51 ⟨Nat.zero_le _, Nat.zero_le _⟩ (fun H locs hP hS => ?_)
          exact ge_ret hX hr hlocks hS hP ⟨by rw [c6r, if_pos ⟨c1_1, c7_2⟩], by rw [abZ, if_neg (by omega)], rfl⟩ (Nat.le_of_ble_eq_true rfl) (Nat.le_of_ble_eq_true rfl) dX6_about_54
        · skip
          have c29_4 := cn_nle (a := x.toNatClampNeg) (b := 10) (by omega) (by omega) c29_4
          refine lv_aload_n hx hb dX6_about_32 rfl (lv_at hl 0 rfl) ?_
          refine va_get (D := D) (ci := 6) (v := .ref (dg 0)) (C := RX6) (T := TX6) (N := 6) hx hb hts u6_X6 hown hK hP 0 rfl rfl 3 (by decide) (hts _ (m6 260 rfl)) (fun _ h9 => h9) rfl dX6_about_33 ?_
          refine lv_iload_n hx hb dX6_about_36 rfl (lv_at hl 1 rfl) ?_
          refine bq_readV hX good6 (m6 83 rfl) (b2_tell l D cI dg z (inv_B hz) x.toNatClampNeg (by omega)) q2_tell rfl (m6 319 rfl) (m6 320 rfl) (m6 321 rfl) ⟨Nat.le_of_ble_eq_true rfl, Nat.le_of_ble_eq_true rfl⟩ hK hN [0] rfl hP [1] rfl (ci := 2) (q0 := 0) rfl rfl rfl hS hl.1 rfl (Nat.le_of_ble_eq_true rfl) dX6_about_37 ⟨Nat.zero_le _, Nat.zero_le _⟩ (fun H locs hP hS => ?_)
          refine lv_goto (tgt := 54) hx hb dX6_about_40 (by decide) ?_
          exact ge_ret hX hr hlocks hS hP ⟨by rw [c6r, if_pos ⟨c1_1, c7_2⟩], by rw [abZ, if_pos (by omega)], rfl⟩ (Nat.le_of_ble_eq_true rfl) (Nat.le_of_ble_eq_true rfl) dX6_about_54
    · skip
      have c7_2 := i_lt c7_2
      exact ge_tia hst hX hEx hnt hlocks hE hSW hZ hS hP (m6 272 rfl) (m6 273 rfl) (show (110, _) ∈ xT from List.mem_of_getElem? (i := 3) rfl) ⟨⟨rfl, by rw [c6r, if_neg (fun y => y.2 c7_2)]⟩, rfl⟩ hl.1 dX6_about_10 dX6_about_13 dX6_about_14 dX6_about_16 dX6_about_19 (Nat.le_of_ble_eq_true rfl) (Nat.le_of_ble_eq_true rfl) (Nat.le_of_ble_eq_true rfl) (Nat.le_of_ble_eq_true rfl) (Nat.le_of_ble_eq_true rfl) (Nat.le_of_ble_eq_true rfl)
theorem dX6_page_0 : decode cX6_page 0 = .ok (.aload_n 0, 1) := by decide +kernel
theorem dX6_page_1 : decode cX6_page 1 = .ok (.getfield 33, 3) := by decide +kernel
theorem dX6_page_4 : decode cX6_page 4 = .ok (.getfield 122, 3) := by decide +kernel
theorem dX6_page_7 : decode cX6_page 7 = .ok (.iload_n 1, 1) := by decide +kernel
theorem dX6_page_8 : decode cX6_page 8 = .ok (.invokevirtual 126, 3) := by decide +kernel
theorem dX6_page_11 : decode cX6_page 11 = .ok (.ifCond .ne 13, 3) := by decide +kernel
theorem dX6_page_14 : decode cX6_page 14 = .ok (.new 132, 3) := by decide +kernel
theorem dX6_page_17 : decode cX6_page 17 = .ok (.dup, 1) := by decide +kernel
theorem dX6_page_18 : decode cX6_page 18 = .ok (.ldc 134, 2) := by decide +kernel
theorem dX6_page_20 : decode cX6_page 20 = .ok (.invokespecial 136, 3) := by decide +kernel
theorem dX6_page_23 : decode cX6_page 23 = .ok (.athrow, 1) := by decide +kernel
theorem dX6_page_24 : decode cX6_page 24 = .ok (.iload_n 2, 1) := by decide +kernel
theorem dX6_page_25 : decode cX6_page 25 = .ok (.ifCond .lt 8, 3) := by decide +kernel
theorem dX6_page_28 : decode cX6_page 28 = .ok (.iload_n 2, 1) := by decide +kernel
theorem dX6_page_29 : decode cX6_page 29 = .ok (.iconst 4, 1) := by decide +kernel
theorem dX6_page_30 : decode cX6_page 30 = .ok (.if_icmp .le 13, 3) := by decide +kernel
theorem dX6_page_33 : decode cX6_page 33 = .ok (.new 43, 3) := by decide +kernel
theorem dX6_page_36 : decode cX6_page 36 = .ok (.dup, 1) := by decide +kernel
theorem dX6_page_37 : decode cX6_page 37 = .ok (.ldc 137, 2) := by decide +kernel
theorem dX6_page_39 : decode cX6_page 39 = .ok (.invokespecial 47, 3) := by decide +kernel
theorem dX6_page_42 : decode cX6_page 42 = .ok (.athrow, 1) := by decide +kernel
theorem dX6_page_43 : decode cX6_page 43 = .ok (.aload_n 0, 1) := by decide +kernel
theorem dX6_page_44 : decode cX6_page 44 = .ok (.getfield 33, 3) := by decide +kernel
theorem dX6_page_47 : decode cX6_page 47 = .ok (.getfield 122, 3) := by decide +kernel
theorem dX6_page_50 : decode cX6_page 50 = .ok (.iload_n 1, 1) := by decide +kernel
theorem dX6_page_51 : decode cX6_page 51 = .ok (.iload_n 2, 1) := by decide +kernel
theorem dX6_page_52 : decode cX6_page 52 = .ok (.invokevirtual 139, 3) := by decide +kernel
theorem dX6_page_55 : decode cX6_page 55 = .ok (.ireturn, 1) := by decide +kernel
set_option maxHeartbeats 4000000 in
set_option maxRecDepth 100000 in
theorem c6_page (l : Launch) (hst : l.stackTraces = false)  (D : va_G) (cI : ClassId) (ob so ho sl : Nat) (dg dc dt : Nat → Nat) (z : LgS) (hz : Inv z) (x w : Int32) : GE l yX6_page cX6_page 3 6 90 D [[(ob, .inr (6, [.ref so, .ref ho, .ref sl, .ref (dg 0), .ref (dc 0), .ref (dt 0)]))], zL cI dg z] [(cI, .int)] [.ref ob, .int (x), .int (w)] (fun (r9 : Int32) (u9 : List va_W) => (c6pg z x w) = 0 ∧ r9 = (tpZ z x w) ∧ u9 = [[(ob, .inr (6, [.ref so, .ref ho, .ref sl, .ref (dg 0), .ref (dc 0), .ref (dt 0)]))], zL cI dg z]) (fun (e9 : String) (u9 : List va_W) => ((e9 = xOB ∧ (c6pg z x w) = 1) ∨ (e9 = xIA ∧ (c6pg z x w) = 2)) ∧ u9 = [[(ob, .inr (6, [.ref so, .ref ho, .ref sl, .ref (dg 0), .ref (dc 0), .ref (dt 0)]))], zL cI dg z]) := by
  refine ge_of (by decide) rfl (Nat.le_of_ble_eq_true rfl) ?_
  intro p e s m below meth c ls H hX hEx hnt hr hlocks hK hN hE hSW hZ hP hD hS hl
  generalize gp_A (bw [[(ob, .inr (6, [.ref so, .ref ho, .ref sl, .ref (dg 0), .ref (dc 0), .ref (dt 0)]))], zL cI dg z]) = A at hZ hD hS ⊢
  have hx := hX.1
  have hb := hX.2.1
  have hown := hX.2.2.2.1
  have hts := hX.2.2.2.2
  have hl : lv_has ls 3 [(0, .ref ob), (1, .int (x)), (2, .int (w))] := hl
  refine lv_aload_n hx hb dX6_page_0 rfl (lv_at hl 0 rfl) ?_
  refine va_get (D := D) (ci := 6) (v := .ref (dg 0)) (C := RX6) (T := TX6) (N := 6) hx hb hts u6_X6 hown hK hP 0 rfl rfl 3 (by decide) (hts _ (m6 260 rfl)) (fun _ h9 => h9) rfl dX6_page_1 ?_
  refine va_get (D := D) (ci := 2) (v := .ref (dg 1)) (C := RX2) (T := TX2) (N := 8) hx hb hts u6_X2 hown hK hP 1 rfl rfl 0 (by decide) (hts _ (m6 301 rfl)) (fun _ h9 => h9) rfl dX6_page_4 ?_
  refine lv_iload_n hx hb dX6_page_7 rfl (lv_at hl 1 rfl) ?_
  refine bq_readV hX good6 (m6 23 rfl) (b0_hasPage l D cI dg z (inv_B hz) x) q0_hasPage rfl (m6 350 rfl) (m6 38 rfl) (m6 39 rfl) ⟨Nat.le_of_ble_eq_true rfl, Nat.le_of_ble_eq_true rfl⟩ hK hN [0] rfl hP [1] rfl (ci := 0) (q0 := 1) rfl rfl rfl hS hl.1 rfl (Nat.le_of_ble_eq_true rfl) dX6_page_8 ⟨Nat.zero_le _, Nat.zero_le _⟩ (fun H locs hP hS => ?_)
  refine lv_if_ne (tgt := 24) hx hb dX6_page_11 (by decide) (fun c11_1 => ?_) (fun c11_1 => ?_)
  · skip
    have c11_1 := bI_t c11_1
    refine lv_iload_n hx hb dX6_page_24 rfl (lv_at hl 2 rfl) ?_
    refine lv_if_lt (tgt := 33) hx hb dX6_page_25 (by decide) (fun c25_2 => ?_) (fun c25_2 => ?_)
    · skip
      exact ge_tia hst hX hEx hnt hlocks hE hSW hZ hS hP (m6 272 rfl) (m6 273 rfl) (show (137, _) ∈ xT from List.mem_of_getElem? (i := 5) rfl) ⟨Or.inr (⟨rfl, by rw [c6pg, if_pos c11_1, if_neg (fun y => y.1 c25_2)]⟩), rfl⟩ hl.1 dX6_page_33 dX6_page_36 dX6_page_37 dX6_page_39 dX6_page_42 (Nat.le_of_ble_eq_true rfl) (Nat.le_of_ble_eq_true rfl) (Nat.le_of_ble_eq_true rfl) (Nat.le_of_ble_eq_true rfl) (Nat.le_of_ble_eq_true rfl) (Nat.le_of_ble_eq_true rfl)
    · skip
      refine lv_iload_n hx hb dX6_page_28 rfl (lv_at hl 2 rfl) ?_
      refine lv_iconst (v := 4) hx hb dX6_page_29 (by decide) ?_
      refine lv_icmp_le (tgt := 43) hx hb dX6_page_30 (by decide) (fun c30_3 => ?_) (fun c30_3 => ?_)
      · skip
        have c30_3 := i_nlt c30_3
        refine lv_aload_n hx hb dX6_page_43 rfl (lv_at hl 0 rfl) ?_
        refine va_get (D := D) (ci := 6) (v := .ref (dg 0)) (C := RX6) (T := TX6) (N := 6) hx hb hts u6_X6 hown hK hP 0 rfl rfl 3 (by decide) (hts _ (m6 260 rfl)) (fun _ h9 => h9) rfl dX6_page_44 ?_
        refine va_get (D := D) (ci := 2) (v := .ref (dg 1)) (C := RX2) (T := TX2) (N := 8) hx hb hts u6_X2 hown hK hP 1 rfl rfl 0 (by decide) (hts _ (m6 301 rfl)) (fun _ h9 => h9) rfl dX6_page_47 ?_
        refine lv_iload_n hx hb dX6_page_50 rfl (lv_at hl 1 rfl) ?_
        refine lv_iload_n hx hb dX6_page_51 rfl (lv_at hl 2 rfl) ?_
        refine bq_readV hX good6 (m6 23 rfl) (b0_tellPage l D cI dg z (inv_B hz) x w) q0_tellPage rfl (m6 351 rfl) (m6 184 rfl) (m6 185 rfl) ⟨Nat.le_of_ble_eq_true rfl, Nat.le_of_ble_eq_true rfl⟩ hK hN [0] rfl hP [1] rfl (ci := 0) (q0 := 1) rfl rfl rfl hS hl.1 rfl (Nat.le_of_ble_eq_true rfl) dX6_page_52 ⟨Nat.zero_le _, Nat.zero_le _⟩ (fun H locs hP hS => ?_)
        exact ge_ret hX hr hlocks hS hP ⟨by rw [c6pg, if_pos c11_1, if_pos ⟨c25_2, c30_3⟩], rfl, rfl⟩ (Nat.le_of_ble_eq_true rfl) (Nat.le_of_ble_eq_true rfl) dX6_page_55
      · skip
        have c30_3 := i_lt c30_3
        exact ge_tia hst hX hEx hnt hlocks hE hSW hZ hS hP (m6 272 rfl) (m6 273 rfl) (show (137, _) ∈ xT from List.mem_of_getElem? (i := 5) rfl) ⟨Or.inr (⟨rfl, by rw [c6pg, if_pos c11_1, if_neg (fun y => y.2 c30_3)]⟩), rfl⟩ hl.1 dX6_page_33 dX6_page_36 dX6_page_37 dX6_page_39 dX6_page_42 (Nat.le_of_ble_eq_true rfl) (Nat.le_of_ble_eq_true rfl) (Nat.le_of_ble_eq_true rfl) (Nat.le_of_ble_eq_true rfl) (Nat.le_of_ble_eq_true rfl) (Nat.le_of_ble_eq_true rfl)
  · skip
    have c11_1 := bI_f c11_1
    exact ge_tob hst hX hEx hnt hlocks hE hSW hZ hS hP (m6 348 rfl) (m6 349 rfl) (show (134, _) ∈ xT from List.mem_of_getElem? (i := 4) rfl) ⟨Or.inl ⟨rfl, by rw [c6pg, if_neg c11_1]⟩, rfl⟩ hl.1 dX6_page_14 dX6_page_17 dX6_page_18 dX6_page_20 dX6_page_23 (Nat.le_of_ble_eq_true rfl) (Nat.le_of_ble_eq_true rfl) (Nat.le_of_ble_eq_true rfl) (Nat.le_of_ble_eq_true rfl) (Nat.le_of_ble_eq_true rfl) (Nat.le_of_ble_eq_true rfl)
theorem dX6_block_0 : decode cX6_block 0 = .ok (.aload_n 0, 1) := by decide +kernel
theorem dX6_block_1 : decode cX6_block 1 = .ok (.getfield 33, 3) := by decide +kernel
theorem dX6_block_4 : decode cX6_block 4 = .ok (.getfield 122, 3) := by decide +kernel
theorem dX6_block_7 : decode cX6_block 7 = .ok (.iload_n 1, 1) := by decide +kernel
theorem dX6_block_8 : decode cX6_block 8 = .ok (.invokevirtual 143, 3) := by decide +kernel
theorem dX6_block_11 : decode cX6_block 11 = .ok (.ifCond .ne 13, 3) := by decide +kernel
theorem dX6_block_14 : decode cX6_block 14 = .ok (.new 132, 3) := by decide +kernel
theorem dX6_block_17 : decode cX6_block 17 = .ok (.dup, 1) := by decide +kernel
theorem dX6_block_18 : decode cX6_block 18 = .ok (.ldc 146, 2) := by decide +kernel
theorem dX6_block_20 : decode cX6_block 20 = .ok (.invokespecial 136, 3) := by decide +kernel
theorem dX6_block_23 : decode cX6_block 23 = .ok (.athrow, 1) := by decide +kernel
theorem dX6_block_24 : decode cX6_block 24 = .ok (.iload_n 2, 1) := by decide +kernel
theorem dX6_block_25 : decode cX6_block 25 = .ok (.ifCond .lt 8, 3) := by decide +kernel
theorem dX6_block_28 : decode cX6_block 28 = .ok (.iload_n 2, 1) := by decide +kernel
theorem dX6_block_29 : decode cX6_block 29 = .ok (.iconst 5, 1) := by decide +kernel
theorem dX6_block_30 : decode cX6_block 30 = .ok (.if_icmp .le 13, 3) := by decide +kernel
theorem dX6_block_33 : decode cX6_block 33 = .ok (.new 43, 3) := by decide +kernel
theorem dX6_block_36 : decode cX6_block 36 = .ok (.dup, 1) := by decide +kernel
theorem dX6_block_37 : decode cX6_block 37 = .ok (.ldc 148, 2) := by decide +kernel
theorem dX6_block_39 : decode cX6_block 39 = .ok (.invokespecial 47, 3) := by decide +kernel
theorem dX6_block_42 : decode cX6_block 42 = .ok (.athrow, 1) := by decide +kernel
theorem dX6_block_43 : decode cX6_block 43 = .ok (.aload_n 0, 1) := by decide +kernel
theorem dX6_block_44 : decode cX6_block 44 = .ok (.getfield 33, 3) := by decide +kernel
theorem dX6_block_47 : decode cX6_block 47 = .ok (.iload_n 1, 1) := by decide +kernel
theorem dX6_block_48 : decode cX6_block 48 = .ok (.iload_n 2, 1) := by decide +kernel
theorem dX6_block_49 : decode cX6_block 49 = .ok (.invokevirtual 150, 3) := by decide +kernel
theorem dX6_block_52 : decode cX6_block 52 = .ok (.ireturn, 1) := by decide +kernel
set_option maxHeartbeats 4000000 in
set_option maxRecDepth 100000 in
theorem c6_block (l : Launch) (hst : l.stackTraces = false)  (D : va_G) (cI : ClassId) (ob so ho sl : Nat) (dg dc dt : Nat → Nat) (z : LgS) (hz : Inv z) (x w : Int32) : GE l yX6_block cX6_block 3 6 90 D [[(ob, .inr (6, [.ref so, .ref ho, .ref sl, .ref (dg 0), .ref (dc 0), .ref (dt 0)]))], zL cI dg z] [(cI, .int)] [.ref ob, .int (x), .int (w)] (fun (r9 : Int32) (u9 : List va_W) => (c6bl z x w) = 0 ∧ r9 = (blZ z x w.toNatClampNeg) ∧ u9 = [[(ob, .inr (6, [.ref so, .ref ho, .ref sl, .ref (dg 0), .ref (dc 0), .ref (dt 0)]))], zL cI dg z]) (fun (e9 : String) (u9 : List va_W) => ((e9 = xOB ∧ (c6bl z x w) = 1) ∨ (e9 = xIA ∧ (c6bl z x w) = 2)) ∧ u9 = [[(ob, .inr (6, [.ref so, .ref ho, .ref sl, .ref (dg 0), .ref (dc 0), .ref (dt 0)]))], zL cI dg z]) := by
  refine ge_of (by decide) rfl (Nat.le_of_ble_eq_true rfl) ?_
  intro p e s m below meth c ls H hX hEx hnt hr hlocks hK hN hE hSW hZ hP hD hS hl
  generalize gp_A (bw [[(ob, .inr (6, [.ref so, .ref ho, .ref sl, .ref (dg 0), .ref (dc 0), .ref (dt 0)]))], zL cI dg z]) = A at hZ hD hS ⊢
  have hx := hX.1
  have hb := hX.2.1
  have hown := hX.2.2.2.1
  have hts := hX.2.2.2.2
  have hl : lv_has ls 3 [(0, .ref ob), (1, .int (x)), (2, .int (w))] := hl
  refine lv_aload_n hx hb dX6_block_0 rfl (lv_at hl 0 rfl) ?_
  refine va_get (D := D) (ci := 6) (v := .ref (dg 0)) (C := RX6) (T := TX6) (N := 6) hx hb hts u6_X6 hown hK hP 0 rfl rfl 3 (by decide) (hts _ (m6 260 rfl)) (fun _ h9 => h9) rfl dX6_block_1 ?_
  refine va_get (D := D) (ci := 2) (v := .ref (dg 1)) (C := RX2) (T := TX2) (N := 8) hx hb hts u6_X2 hown hK hP 1 rfl rfl 0 (by decide) (hts _ (m6 301 rfl)) (fun _ h9 => h9) rfl dX6_block_4 ?_
  refine lv_iload_n hx hb dX6_block_7 rfl (lv_at hl 1 rfl) ?_
  refine bq_readV hX good6 (m6 23 rfl) (b0_hasBlock l D cI dg z (inv_B hz) x) q0_hasBlock rfl (m6 314 rfl) (m6 315 rfl) (m6 316 rfl) ⟨Nat.le_of_ble_eq_true rfl, Nat.le_of_ble_eq_true rfl⟩ hK hN [0] rfl hP [1] rfl (ci := 0) (q0 := 1) rfl rfl rfl hS hl.1 rfl (Nat.le_of_ble_eq_true rfl) dX6_block_8 ⟨Nat.zero_le _, Nat.zero_le _⟩ (fun H locs hP hS => ?_)
  refine lv_if_ne (tgt := 24) hx hb dX6_block_11 (by decide) (fun c11_1 => ?_) (fun c11_1 => ?_)
  · skip
    have c11_1 := bI_t c11_1
    refine lv_iload_n hx hb dX6_block_24 rfl (lv_at hl 2 rfl) ?_
    refine lv_if_lt (tgt := 33) hx hb dX6_block_25 (by decide) (fun c25_2 => ?_) (fun c25_2 => ?_)
    · skip
      exact ge_tia hst hX hEx hnt hlocks hE hSW hZ hS hP (m6 272 rfl) (m6 273 rfl) (show (148, _) ∈ xT from List.mem_of_getElem? (i := 7) rfl) ⟨Or.inr (⟨rfl, by rw [c6bl, if_pos c11_1, if_neg (fun y => y.1 c25_2)]⟩), rfl⟩ hl.1 dX6_block_33 dX6_block_36 dX6_block_37 dX6_block_39 dX6_block_42 (Nat.le_of_ble_eq_true rfl) (Nat.le_of_ble_eq_true rfl) (Nat.le_of_ble_eq_true rfl) (Nat.le_of_ble_eq_true rfl) (Nat.le_of_ble_eq_true rfl) (Nat.le_of_ble_eq_true rfl)
    · skip
      refine lv_iload_n hx hb dX6_block_28 rfl (lv_at hl 2 rfl) ?_
      refine lv_iconst (v := 5) hx hb dX6_block_29 (by decide) ?_
      refine lv_icmp_le (tgt := 43) hx hb dX6_block_30 (by decide) (fun c30_3 => ?_) (fun c30_3 => ?_)
      · skip
        have c30_3 := i_nlt c30_3
        obtain ⟨en2, hn2⟩ := num_le (x := w) (a := 5) (by decide) c25_2 c30_3
        have hl : lv_has ls 3 [(0, .ref ob), (1, .int (x)), (2, .int (nI (w.toNatClampNeg)))] := lv_re hl 2 rfl en2
        refine lv_aload_n hx hb dX6_block_43 rfl (lv_at hl 0 rfl) ?_
        refine va_get (D := D) (ci := 6) (v := .ref (dg 0)) (C := RX6) (T := TX6) (N := 6) hx hb hts u6_X6 hown hK hP 0 rfl rfl 3 (by decide) (hts _ (m6 260 rfl)) (fun _ h9 => h9) rfl dX6_block_44 ?_
        refine lv_iload_n hx hb dX6_block_47 rfl (lv_at hl 1 rfl) ?_
        refine lv_iload_n hx hb dX6_block_48 rfl (lv_at hl 2 rfl) ?_
        refine bq_readV hX good6 (m6 83 rfl) (b2_tellBlock l D cI dg z (inv_B hz) x w.toNatClampNeg (by omega)) q2_tellBlock rfl (m6 352 rfl) (m6 353 rfl) (m6 354 rfl) ⟨Nat.le_of_ble_eq_true rfl, Nat.le_of_ble_eq_true rfl⟩ hK hN [0] rfl hP [1] rfl (ci := 2) (q0 := 0) rfl rfl rfl hS hl.1 rfl (Nat.le_of_ble_eq_true rfl) dX6_block_49 ⟨Nat.zero_le _, Nat.zero_le _⟩ (fun H locs hP hS => ?_)
        exact ge_ret hX hr hlocks hS hP ⟨by rw [c6bl, if_pos c11_1, if_pos ⟨c25_2, c30_3⟩], rfl, rfl⟩ (Nat.le_of_ble_eq_true rfl) (Nat.le_of_ble_eq_true rfl) dX6_block_52
      · skip
        have c30_3 := i_lt c30_3
        exact ge_tia hst hX hEx hnt hlocks hE hSW hZ hS hP (m6 272 rfl) (m6 273 rfl) (show (148, _) ∈ xT from List.mem_of_getElem? (i := 7) rfl) ⟨Or.inr (⟨rfl, by rw [c6bl, if_pos c11_1, if_neg (fun y => y.2 c30_3)]⟩), rfl⟩ hl.1 dX6_block_33 dX6_block_36 dX6_block_37 dX6_block_39 dX6_block_42 (Nat.le_of_ble_eq_true rfl) (Nat.le_of_ble_eq_true rfl) (Nat.le_of_ble_eq_true rfl) (Nat.le_of_ble_eq_true rfl) (Nat.le_of_ble_eq_true rfl) (Nat.le_of_ble_eq_true rfl)
  · skip
    have c11_1 := bI_f c11_1
    exact ge_tob hst hX hEx hnt hlocks hE hSW hZ hS hP (m6 348 rfl) (m6 349 rfl) (show (146, _) ∈ xT from List.mem_of_getElem? (i := 6) rfl) ⟨Or.inl ⟨rfl, by rw [c6bl, if_neg c11_1]⟩, rfl⟩ hl.1 dX6_block_14 dX6_block_17 dX6_block_18 dX6_block_20 dX6_block_23 (Nat.le_of_ble_eq_true rfl) (Nat.le_of_ble_eq_true rfl) (Nat.le_of_ble_eq_true rfl) (Nat.le_of_ble_eq_true rfl) (Nat.le_of_ble_eq_true rfl) (Nat.le_of_ble_eq_true rfl)
theorem dX6_get_0 : decode cX6_get 0 = .ok (.iload_n 1, 1) := by decide +kernel
theorem dX6_get_1 : decode cX6_get 1 = .ok (.invokestatic 153, 3) := by decide +kernel
theorem dX6_get_4 : decode cX6_get 4 = .ok (.ifCond .ne 13, 3) := by decide +kernel
theorem dX6_get_7 : decode cX6_get 7 = .ok (.new 43, 3) := by decide +kernel
theorem dX6_get_10 : decode cX6_get 10 = .ok (.dup, 1) := by decide +kernel
theorem dX6_get_11 : decode cX6_get 11 = .ok (.ldc 156, 2) := by decide +kernel
theorem dX6_get_13 : decode cX6_get 13 = .ok (.invokespecial 47, 3) := by decide +kernel
theorem dX6_get_16 : decode cX6_get 16 = .ok (.athrow, 1) := by decide +kernel
theorem dX6_get_17 : decode cX6_get 17 = .ok (.aload_n 0, 1) := by decide +kernel
theorem dX6_get_18 : decode cX6_get 18 = .ok (.getfield 33, 3) := by decide +kernel
theorem dX6_get_21 : decode cX6_get 21 = .ok (.getfield 158, 3) := by decide +kernel
theorem dX6_get_24 : decode cX6_get 24 = .ok (.ifCond .ne 13, 3) := by decide +kernel
theorem dX6_get_27 : decode cX6_get 27 = .ok (.new 54, 3) := by decide +kernel
theorem dX6_get_30 : decode cX6_get 30 = .ok (.dup, 1) := by decide +kernel
theorem dX6_get_31 : decode cX6_get 31 = .ok (.ldc 162, 2) := by decide +kernel
theorem dX6_get_33 : decode cX6_get 33 = .ok (.invokespecial 58, 3) := by decide +kernel
theorem dX6_get_36 : decode cX6_get 36 = .ok (.athrow, 1) := by decide +kernel
theorem dX6_get_37 : decode cX6_get 37 = .ok (.aload_n 0, 1) := by decide +kernel
theorem dX6_get_38 : decode cX6_get 38 = .ok (.getfield 33, 3) := by decide +kernel
theorem dX6_get_41 : decode cX6_get 41 = .ok (.getfield 122, 3) := by decide +kernel
theorem dX6_get_44 : decode cX6_get 44 = .ok (.iload_n 1, 1) := by decide +kernel
theorem dX6_get_45 : decode cX6_get 45 = .ok (.invokevirtual 164, 3) := by decide +kernel
theorem dX6_get_48 : decode cX6_get 48 = .ok (.ireturn, 1) := by decide +kernel
set_option maxHeartbeats 4000000 in
set_option maxRecDepth 100000 in
theorem c6_get (l : Launch) (hst : l.stackTraces = false)  (D : va_G) (cI : ClassId) (ob so ho sl : Nat) (dg dc dt : Nat → Nat) (z : LgS) (hz : Inv z) (x : Int32) : GE l yX6_get cX6_get 2 6 90 D [[(ob, .inr (6, [.ref so, .ref ho, .ref sl, .ref (dg 0), .ref (dc 0), .ref (dt 0)]))], zL cI dg z] [(cI, .int)] [.ref ob, .int (x)] (fun (r9 : Int32) (u9 : List va_W) => (c6get z x) = 0 ∧ r9 = (vaZ z x) ∧ u9 = [[(ob, .inr (6, [.ref so, .ref ho, .ref sl, .ref (dg 0), .ref (dc 0), .ref (dt 0)]))], zL cI dg z]) (fun (e9 : String) (u9 : List va_W) => ((e9 = xIA ∧ (c6get z x) = 1) ∨ (e9 = xIS ∧ (c6get z x) = 2)) ∧ u9 = [[(ob, .inr (6, [.ref so, .ref ho, .ref sl, .ref (dg 0), .ref (dc 0), .ref (dt 0)]))], zL cI dg z]) := by
  refine ge_of (by decide) rfl (Nat.le_of_ble_eq_true rfl) ?_
  intro p e s m below meth c ls H hX hEx hnt hr hlocks hK hN hE hSW hZ hP hD hS hl
  generalize gp_A (bw [[(ob, .inr (6, [.ref so, .ref ho, .ref sl, .ref (dg 0), .ref (dc 0), .ref (dt 0)]))], zL cI dg z]) = A at hZ hD hS ⊢
  have hx := hX.1
  have hb := hX.2.1
  have hown := hX.2.2.2.1
  have hts := hX.2.2.2.2
  have hl : lv_has ls 2 [(0, .ref ob), (1, .int (x))] := hl
  refine lv_iload_n hx hb dX6_get_0 rfl (lv_at hl 1 rfl) ?_
  refine rq_callS hX good6 (m6 31 rfl) (c6_isKey l D x) q6_isKey rfl (m6 356 rfl) (m6 357 rfl) ⟨Nat.le_of_ble_eq_true rfl, Nat.le_of_ble_eq_true rfl⟩ hK hN [] rfl hP [] rfl hS hl.1 rfl (Nat.le_of_ble_eq_true rfl) dX6_get_1 ⟨Nat.zero_le _, Nat.zero_le _⟩ (fun H locs hP hS => ?_)
  refine lv_if_ne (tgt := 17) hx hb dX6_get_4 (by decide) (fun c4_1 => ?_) (fun c4_1 => ?_)
  · skip
    have c4_1 := bI_t c4_1
    refine lv_aload_n hx hb dX6_get_17 rfl (lv_at hl 0 rfl) ?_
    refine va_get (D := D) (ci := 6) (v := .ref (dg 0)) (C := RX6) (T := TX6) (N := 6) hx hb hts u6_X6 hown hK hP 0 rfl rfl 3 (by decide) (hts _ (m6 260 rfl)) (fun _ h9 => h9) rfl dX6_get_18 ?_
    refine va_get (D := D) (ci := 2) (v := .int (bI (z.1.1 = true))) (C := RX2) (T := TX2) (N := 8) hx hb hts u6_X2 hown hK hP 1 rfl rfl 2 (by decide) (hts _ (m6 292 rfl)) (fun _ h9 => h9) rfl dX6_get_21 ?_
    refine lv_if_ne (tgt := 37) hx hb dX6_get_24 (by decide) (fun c24_2 => ?_) (fun c24_2 => ?_)
    · skip
      have c24_2 := bI_t c24_2
      refine lv_aload_n hx hb dX6_get_37 rfl (lv_at hl 0 rfl) ?_
      refine va_get (D := D) (ci := 6) (v := .ref (dg 0)) (C := RX6) (T := TX6) (N := 6) hx hb hts u6_X6 hown hK hP 0 rfl rfl 3 (by decide) (hts _ (m6 260 rfl)) (fun _ h9 => h9) rfl dX6_get_38 ?_
      refine va_get (D := D) (ci := 2) (v := .ref (dg 1)) (C := RX2) (T := TX2) (N := 8) hx hb hts u6_X2 hown hK hP 1 rfl rfl 0 (by decide) (hts _ (m6 301 rfl)) (fun _ h9 => h9) rfl dX6_get_41 ?_
      refine lv_iload_n hx hb dX6_get_44 rfl (lv_at hl 1 rfl) ?_
      refine bq_readV hX good6 (m6 23 rfl) (b0_valueOf l D cI dg z (inv_B hz) x) q0_valueOf rfl (m6 307 rfl) (m6 42 rfl) (m6 43 rfl) ⟨Nat.le_of_ble_eq_true rfl, Nat.le_of_ble_eq_true rfl⟩ hK hN [0] rfl hP [1] rfl (ci := 0) (q0 := 1) rfl rfl rfl hS hl.1 rfl (Nat.le_of_ble_eq_true rfl) dX6_get_45 ⟨Nat.zero_le _, Nat.zero_le _⟩ (fun H locs hP hS => ?_)
      exact ge_ret hX hr hlocks hS hP ⟨by rw [c6get, if_pos c4_1, if_pos c24_2], rfl, rfl⟩ (Nat.le_of_ble_eq_true rfl) (Nat.le_of_ble_eq_true rfl) dX6_get_48
    · skip
      have c24_2 := bI_f c24_2
      exact ge_tis hst hX hEx hnt hlocks hE hSW hZ hS hP (m6 274 rfl) (m6 275 rfl) (show (162, _) ∈ xT from List.mem_of_getElem? (i := 9) rfl) ⟨Or.inr (⟨rfl, by rw [c6get, if_pos c4_1, if_neg c24_2]⟩), rfl⟩ hl.1 dX6_get_27 dX6_get_30 dX6_get_31 dX6_get_33 dX6_get_36 (Nat.le_of_ble_eq_true rfl) (Nat.le_of_ble_eq_true rfl) (Nat.le_of_ble_eq_true rfl) (Nat.le_of_ble_eq_true rfl) (Nat.le_of_ble_eq_true rfl) (Nat.le_of_ble_eq_true rfl)
  · skip
    have c4_1 := bI_f c4_1
    exact ge_tia hst hX hEx hnt hlocks hE hSW hZ hS hP (m6 272 rfl) (m6 273 rfl) (show (156, _) ∈ xT from List.mem_of_getElem? (i := 8) rfl) ⟨Or.inl ⟨rfl, by rw [c6get, if_neg c4_1]⟩, rfl⟩ hl.1 dX6_get_7 dX6_get_10 dX6_get_11 dX6_get_13 dX6_get_16 (Nat.le_of_ble_eq_true rfl) (Nat.le_of_ble_eq_true rfl) (Nat.le_of_ble_eq_true rfl) (Nat.le_of_ble_eq_true rfl) (Nat.le_of_ble_eq_true rfl) (Nat.le_of_ble_eq_true rfl)
theorem dX6_keyAt_0 : decode cX6_keyAt 0 = .ok (.iload_n 1, 1) := by decide +kernel
theorem dX6_keyAt_1 : decode cX6_keyAt 1 = .ok (.ifCond .ge 13, 3) := by decide +kernel
theorem dX6_keyAt_4 : decode cX6_keyAt 4 = .ok (.new 43, 3) := by decide +kernel
theorem dX6_keyAt_7 : decode cX6_keyAt 7 = .ok (.dup, 1) := by decide +kernel
theorem dX6_keyAt_8 : decode cX6_keyAt 8 = .ok (.ldc 167, 2) := by decide +kernel
theorem dX6_keyAt_10 : decode cX6_keyAt 10 = .ok (.invokespecial 47, 3) := by decide +kernel
theorem dX6_keyAt_13 : decode cX6_keyAt 13 = .ok (.athrow, 1) := by decide +kernel
theorem dX6_keyAt_14 : decode cX6_keyAt 14 = .ok (.iconst 0, 1) := by decide +kernel
theorem dX6_keyAt_15 : decode cX6_keyAt 15 = .ok (.istore_n 2, 1) := by decide +kernel
theorem dX6_keyAt_16 : decode cX6_keyAt 16 = .ok (.iconst 0, 1) := by decide +kernel
theorem dX6_keyAt_17 : decode cX6_keyAt 17 = .ok (.istore_n 3, 1) := by decide +kernel
theorem dX6_keyAt_18 : decode cX6_keyAt 18 = .ok (.iload_n 3, 1) := by decide +kernel
theorem dX6_keyAt_19 : decode cX6_keyAt 19 = .ok (.bipush 16, 2) := by decide +kernel
theorem dX6_keyAt_21 : decode cX6_keyAt 21 = .ok (.if_icmp .ge 35, 3) := by decide +kernel
theorem dX6_keyAt_24 : decode cX6_keyAt 24 = .ok (.aload_n 0, 1) := by decide +kernel
theorem dX6_keyAt_25 : decode cX6_keyAt 25 = .ok (.getfield 33, 3) := by decide +kernel
theorem dX6_keyAt_28 : decode cX6_keyAt 28 = .ok (.getfield 122, 3) := by decide +kernel
theorem dX6_keyAt_31 : decode cX6_keyAt 31 = .ok (.iload_n 3, 1) := by decide +kernel
theorem dX6_keyAt_32 : decode cX6_keyAt 32 = .ok (.invokevirtual 164, 3) := by decide +kernel
theorem dX6_keyAt_35 : decode cX6_keyAt 35 = .ok (.bipush (-9), 2) := by decide +kernel
theorem dX6_keyAt_37 : decode cX6_keyAt 37 = .ok (.if_icmp .eq 13, 3) := by decide +kernel
theorem dX6_keyAt_40 : decode cX6_keyAt 40 = .ok (.iload_n 2, 1) := by decide +kernel
theorem dX6_keyAt_41 : decode cX6_keyAt 41 = .ok (.iload_n 1, 1) := by decide +kernel
theorem dX6_keyAt_42 : decode cX6_keyAt 42 = .ok (.if_icmp .ne 5, 3) := by decide +kernel
theorem dX6_keyAt_45 : decode cX6_keyAt 45 = .ok (.iload_n 3, 1) := by decide +kernel
theorem dX6_keyAt_46 : decode cX6_keyAt 46 = .ok (.ireturn, 1) := by decide +kernel
theorem dX6_keyAt_47 : decode cX6_keyAt 47 = .ok (.iinc 2 1, 3) := by decide +kernel
theorem dX6_keyAt_50 : decode cX6_keyAt 50 = .ok (.iinc 3 1, 3) := by decide +kernel
theorem dX6_keyAt_53 : decode cX6_keyAt 53 = .ok (.goto (-35), 3) := by decide +kernel
theorem dX6_keyAt_56 : decode cX6_keyAt 56 = .ok (.bipush (-9), 2) := by decide +kernel
theorem dX6_keyAt_58 : decode cX6_keyAt 58 = .ok (.ireturn, 1) := by decide +kernel
set_option maxHeartbeats 4000000 in
set_option maxRecDepth 100000 in
theorem c6_keyAt (l : Launch) (hst : l.stackTraces = false)  (D : va_G) (cI : ClassId) (ob so ho sl : Nat) (dg dc dt : Nat → Nat) (z : LgS) (hz : Inv z) (x : Int32) : GE l yX6_keyAt cX6_keyAt 4 6 90 D [[(ob, .inr (6, [.ref so, .ref ho, .ref sl, .ref (dg 0), .ref (dc 0), .ref (dt 0)]))], zL cI dg z] [(cI, .int)] [.ref ob, .int (x)] (fun (r9 : Int32) (u9 : List va_W) => (c6kat x) = 0 ∧ r9 = (oI (kaF z x 16)) ∧ u9 = [[(ob, .inr (6, [.ref so, .ref ho, .ref sl, .ref (dg 0), .ref (dc 0), .ref (dt 0)]))], zL cI dg z]) (fun (e9 : String) (u9 : List va_W) => ((e9 = xIA ∧ (c6kat x) = 1)) ∧ u9 = [[(ob, .inr (6, [.ref so, .ref ho, .ref sl, .ref (dg 0), .ref (dc 0), .ref (dt 0)]))], zL cI dg z]) := by
  refine ge_of (by decide) rfl (Nat.le_of_ble_eq_true rfl) ?_
  intro p e s m below meth c ls H hX hEx hnt hr hlocks hK hN hE hSW hZ hP hD hS hl
  generalize gp_A (bw [[(ob, .inr (6, [.ref so, .ref ho, .ref sl, .ref (dg 0), .ref (dc 0), .ref (dt 0)]))], zL cI dg z]) = A at hZ hD hS ⊢
  have hx := hX.1
  have hb := hX.2.1
  have hown := hX.2.2.2.1
  have hts := hX.2.2.2.2
  have hl : lv_has ls 4 [(0, .ref ob), (1, .int (x))] := hl
  refine lv_iload_n hx hb dX6_keyAt_0 rfl (lv_at hl 1 rfl) ?_
  refine lv_if_ge (tgt := 14) hx hb dX6_keyAt_1 (by decide) (fun c1_1 => ?_) (fun c1_1 => ?_)
  · skip
    have c1_1 := i_nlt c1_1
    refine lv_iconst (v := 0) hx hb dX6_keyAt_14 (by decide) ?_
    refine lv_istore_n (lv' := [(2, .int (0)), (0, .ref ob), (1, .int (x))]) hx hb dX6_keyAt_15 rfl hl (by decide) rfl (fun ls hl => ?_)
    refine lv_iconst (v := 0) hx hb dX6_keyAt_16 (by decide) ?_
    refine lv_istore_n (lv' := [(3, .int (0)), (2, .int (0)), (0, .ref ob), (1, .int (x))]) hx hb dX6_keyAt_17 rfl hl (by decide) rfl (fun ls hl => ?_)
    have LP18 : ∀ n9 : Nat, ∀ (j : Nat), (hj : j ≤ 16) → (hj0 : kaF z x j = none) → 16 - j < n9 → ∀ (H : Heap) (locs : List Loc), va_P D vwCl (bw [[(ob, .inr (6, [.ref so, .ref ho, .ref sl, .ref (dg 0), .ref (dc 0), .ref (dt 0)]))], zL cI dg z]) H → va_D A (bw [[(ob, .inr (6, [.ref so, .ref ho, .ref sl, .ref (dg 0), .ref (dc 0), .ref (dt 0)]))], zL cI dg z]) → va_S A s.heap H locs → ∀ ls : Array Slot, lv_has ls 4 [(0, .ref ob), (1, .int (x)), (2, .int (nI (ckZ z j))), (3, .int (nI (j)))] → W p l e ({ frames := 6, cells := 1, slots := 6, locals := 90 } : Room) s m ([.ref ob, .int (x)] : List Value).toArray below meth c H locs 0 0 (vx_MQ below (va_Qi (fun (r9 : Int32) (u9 : List va_W) => (c6kat x) = 0 ∧ r9 = (oI (kaF z x 16)) ∧ u9 = [[(ob, .inr (6, [.ref so, .ref ho, .ref sl, .ref (dg 0), .ref (dc 0), .ref (dt 0)]))], zL cI dg z]) (fun u t => va_P D vwCl (bw u) t.heap) A) (ge_X (fun (e9 : String) (u9 : List va_W) => ((e9 = xIA ∧ (c6kat x) = 1)) ∧ u9 = [[(ob, .inr (6, [.ref so, .ref ho, .ref sl, .ref (dg 0), .ref (dc 0), .ref (dt 0)]))], zL cI dg z]) D A) ([.ref ob, .int (x)] : List Value).toArray s 1 6 A) (F0 m 18 ls []) := by
      intro n9
      induction n9 with
      | zero => intros; omega
      | succ n9 ih18 =>
        intro j hj hj0 hm9 H locs hP hD hS ls hl
        refine lv_iload_n hx hb dX6_keyAt_18 rfl (lv_at hl 3 rfl) ?_
        refine lv_bipush (v := 16) hx hb dX6_keyAt_19 (by decide) ?_
        refine lv_icmp_ge (tgt := 56) hx hb dX6_keyAt_21 (by decide) (fun c21_2 => ?_) (fun c21_2 => ?_)
        · skip
          have c21_2 := cn_le (a := 16) (b := j) (by omega) (by omega) c21_2
          refine lv_bipush (v := (-9)) hx hb dX6_keyAt_56 (by decide) ?_
          exact ge_ret hX hr hlocks hS hP ⟨by rw [c6kat, if_neg c1_1], by rw [show j = 16 by omega] at hj0; rw [hj0]; rfl, rfl⟩ (Nat.le_of_ble_eq_true rfl) (Nat.le_of_ble_eq_true rfl) dX6_keyAt_58
        · skip
          have c21_2 := cn_nle (a := 16) (b := j) (by omega) (by omega) c21_2
          refine lv_aload_n hx hb dX6_keyAt_24 rfl (lv_at hl 0 rfl) ?_
          refine va_get (D := D) (ci := 6) (v := .ref (dg 0)) (C := RX6) (T := TX6) (N := 6) hx hb hts u6_X6 hown hK hP 0 rfl rfl 3 (by decide) (hts _ (m6 260 rfl)) (fun _ h9 => h9) rfl dX6_keyAt_25 ?_
          refine va_get (D := D) (ci := 2) (v := .ref (dg 1)) (C := RX2) (T := TX2) (N := 8) hx hb hts u6_X2 hown hK hP 1 rfl rfl 0 (by decide) (hts _ (m6 301 rfl)) (fun _ h9 => h9) rfl dX6_keyAt_28 ?_
          refine lv_iload_n hx hb dX6_keyAt_31 rfl (lv_at hl 3 rfl) ?_
          refine bq_readV hX good6 (m6 23 rfl) (b0_valueOf l D cI dg z (inv_B hz) (nI (j))) q0_valueOf rfl (m6 307 rfl) (m6 42 rfl) (m6 43 rfl) ⟨Nat.le_of_ble_eq_true rfl, Nat.le_of_ble_eq_true rfl⟩ hK hN [0] rfl hP [1] rfl (ci := 0) (q0 := 1) rfl rfl rfl hS hl.1 rfl (Nat.le_of_ble_eq_true rfl) dX6_keyAt_32 ⟨Nat.zero_le _, Nat.zero_le _⟩ (fun H locs hP hS => ?_)
          refine lv_bipush (v := (-9)) hx hb dX6_keyAt_35 (by decide) ?_
          refine lv_icmp_eq (tgt := 50) hx hb dX6_keyAt_37 (by decide) (fun c37_3 => ?_) (fun c37_3 => ?_)
          · skip
            refine lv_iinc (v := nI (j + 1)) (lv' := [(3, .int (nI (j + 1))), (0, .ref ob), (1, .int (x)), (2, .int (nI (ckZ z j)))]) hx hb dX6_keyAt_50 hl (k := 3) rfl (nI_add _ 1) (by decide) rfl (fun ls hl => ?_)
            refine lv_goto (tgt := 18) hx hb dX6_keyAt_53 (by decide) ?_
            have hl : lv_has ls 4 [(3, .int (nI (j + 1))), (0, .ref ob), (1, .int (x)), (2, .int (nI (ckZ z (j + 1))))] := lv_re hl 3 rfl (show (nI (ckZ z j)) = nI (ckZ z (j + 1)) from by rw [show ckZ z (j + 1) = ckZ z j + 0 from by simp only [ckZ, ckV]; rw [if_pos c37_3]]; rfl)
            have hl : lv_has ls 4 [(3, .int (nI ((j + 1)))), (0, .ref ob), (1, .int (x)), (2, .int (nI (ckZ z (j + 1))))] := lv_re hl 0 rfl (show (nI (j + 1)) = nI ((j + 1)) from rfl)
            exact ih18 (j + 1) (by omega) (by rw [kaF, hj0]; exact if_neg (fun y => y.1 c37_3)) (by omega) _ _ hP hD hS _ (lv_sub hl [1, 2, 3, 0] rfl)
          · skip
            refine lv_iload_n hx hb dX6_keyAt_40 rfl (lv_at hl 2 rfl) ?_
            refine lv_iload_n hx hb dX6_keyAt_41 rfl (lv_at hl 1 rfl) ?_
            refine lv_icmp_ne (tgt := 47) hx hb dX6_keyAt_42 (by decide) (fun c42_4 => ?_) (fun c42_4 => ?_)
            · skip
              refine lv_iinc (v := nI (ckZ z j + 1)) (lv' := [(2, .int (nI (ckZ z j + 1))), (0, .ref ob), (1, .int (x)), (3, .int (nI (j)))]) hx hb dX6_keyAt_47 hl (k := 2) rfl (nI_add _ 1) (by decide) rfl (fun ls hl => ?_)
              refine lv_iinc (v := nI (j + 1)) (lv' := [(3, .int (nI (j + 1))), (2, .int (nI (ckZ z j + 1))), (0, .ref ob), (1, .int (x))]) hx hb dX6_keyAt_50 hl (k := 3) rfl (nI_add _ 1) (by decide) rfl (fun ls hl => ?_)
              refine lv_goto (tgt := 18) hx hb dX6_keyAt_53 (by decide) ?_
              have hl : lv_has ls 4 [(3, .int (nI (j + 1))), (2, .int (nI (ckZ z (j + 1)))), (0, .ref ob), (1, .int (x))] := lv_re hl 1 rfl (show (nI (ckZ z j + 1)) = nI (ckZ z (j + 1)) from by rw [show ckZ z (j + 1) = ckZ z j + 1 from by simp only [ckZ, ckV]; rw [if_neg c37_3]])
              have hl : lv_has ls 4 [(3, .int (nI ((j + 1)))), (2, .int (nI (ckZ z (j + 1)))), (0, .ref ob), (1, .int (x))] := lv_re hl 0 rfl (show (nI (j + 1)) = nI ((j + 1)) from rfl)
              exact ih18 (j + 1) (by omega) (by rw [kaF, hj0]; exact if_neg (fun y => c42_4 y.2)) (by omega) _ _ hP hD hS _ (lv_sub hl [2, 3, 1, 0] rfl)
            · skip
              refine lv_iload_n hx hb dX6_keyAt_45 rfl (lv_at hl 3 rfl) ?_
              exact ge_ret hX hr hlocks hS hP ⟨by rw [c6kat, if_neg c1_1], by rw [kaF_at (j := j) (by omega) hj0 c37_3 c42_4]; rfl, rfl⟩ (Nat.le_of_ble_eq_true rfl) (Nat.le_of_ble_eq_true rfl) dX6_keyAt_46
    have hl : lv_has ls 4 [(3, .int (0)), (2, .int (nI (ckZ z 0))), (0, .ref ob), (1, .int (x))] := lv_re hl 1 rfl (show 0 = nI (ckZ z 0) from rfl)
    have hl : lv_has ls 4 [(3, .int (nI (0))), (2, .int (nI (ckZ z 0))), (0, .ref ob), (1, .int (x))] := lv_re hl 0 rfl (show 0 = nI (0) from rfl)
    exact LP18 ((16 - 0) + 1) 0 (by omega) (rfl) (by omega) _ _ hP hD hS _ (lv_sub hl [2, 3, 1, 0] rfl)
  · skip
    have c1_1 := i_lt c1_1
    exact ge_tia hst hX hEx hnt hlocks hE hSW hZ hS hP (m6 272 rfl) (m6 273 rfl) (show (167, _) ∈ xT from List.mem_of_getElem? (i := 10) rfl) ⟨⟨rfl, by rw [c6kat, if_pos c1_1]⟩, rfl⟩ hl.1 dX6_keyAt_4 dX6_keyAt_7 dX6_keyAt_8 dX6_keyAt_10 dX6_keyAt_13 (Nat.le_of_ble_eq_true rfl) (Nat.le_of_ble_eq_true rfl) (Nat.le_of_ble_eq_true rfl) (Nat.le_of_ble_eq_true rfl) (Nat.le_of_ble_eq_true rfl) (Nat.le_of_ble_eq_true rfl)
theorem dX6_newest_0 : decode cX6_newest 0 = .ok (.iload_n 1, 1) := by decide +kernel
theorem dX6_newest_1 : decode cX6_newest 1 = .ok (.invokestatic 153, 3) := by decide +kernel
theorem dX6_newest_4 : decode cX6_newest 4 = .ok (.ifCond .ne 13, 3) := by decide +kernel
theorem dX6_newest_7 : decode cX6_newest 7 = .ok (.new 43, 3) := by decide +kernel
theorem dX6_newest_10 : decode cX6_newest 10 = .ok (.dup, 1) := by decide +kernel
theorem dX6_newest_11 : decode cX6_newest 11 = .ok (.ldc 156, 2) := by decide +kernel
theorem dX6_newest_13 : decode cX6_newest 13 = .ok (.invokespecial 47, 3) := by decide +kernel
theorem dX6_newest_16 : decode cX6_newest 16 = .ok (.athrow, 1) := by decide +kernel
theorem dX6_newest_17 : decode cX6_newest 17 = .ok (.aload_n 0, 1) := by decide +kernel
theorem dX6_newest_18 : decode cX6_newest 18 = .ok (.getfield 33, 3) := by decide +kernel
theorem dX6_newest_21 : decode cX6_newest 21 = .ok (.getfield 122, 3) := by decide +kernel
theorem dX6_newest_24 : decode cX6_newest 24 = .ok (.iload_n 1, 1) := by decide +kernel
theorem dX6_newest_25 : decode cX6_newest 25 = .ok (.invokevirtual 169, 3) := by decide +kernel
theorem dX6_newest_28 : decode cX6_newest 28 = .ok (.ireturn, 1) := by decide +kernel
set_option maxHeartbeats 4000000 in
set_option maxRecDepth 100000 in
theorem c6_newest (l : Launch) (hst : l.stackTraces = false)  (D : va_G) (cI : ClassId) (ob so ho sl : Nat) (dg dc dt : Nat → Nat) (z : LgS) (hz : Inv z) (x : Int32) : GE l yX6_newest cX6_newest 2 6 90 D [[(ob, .inr (6, [.ref so, .ref ho, .ref sl, .ref (dg 0), .ref (dc 0), .ref (dt 0)]))], zL cI dg z] [(cI, .int)] [.ref ob, .int (x)] (fun (r9 : Int32) (u9 : List va_W) => (c6key x) = 0 ∧ r9 = (at_ (z.2.2 6) 16 (-9) x) ∧ u9 = [[(ob, .inr (6, [.ref so, .ref ho, .ref sl, .ref (dg 0), .ref (dc 0), .ref (dt 0)]))], zL cI dg z]) (fun (e9 : String) (u9 : List va_W) => ((e9 = xIA ∧ (c6key x) = 1)) ∧ u9 = [[(ob, .inr (6, [.ref so, .ref ho, .ref sl, .ref (dg 0), .ref (dc 0), .ref (dt 0)]))], zL cI dg z]) := by
  refine ge_of (by decide) rfl (Nat.le_of_ble_eq_true rfl) ?_
  intro p e s m below meth c ls H hX hEx hnt hr hlocks hK hN hE hSW hZ hP hD hS hl
  generalize gp_A (bw [[(ob, .inr (6, [.ref so, .ref ho, .ref sl, .ref (dg 0), .ref (dc 0), .ref (dt 0)]))], zL cI dg z]) = A at hZ hD hS ⊢
  have hx := hX.1
  have hb := hX.2.1
  have hown := hX.2.2.2.1
  have hts := hX.2.2.2.2
  have hl : lv_has ls 2 [(0, .ref ob), (1, .int (x))] := hl
  refine lv_iload_n hx hb dX6_newest_0 rfl (lv_at hl 1 rfl) ?_
  refine rq_callS hX good6 (m6 31 rfl) (c6_isKey l D x) q6_isKey rfl (m6 356 rfl) (m6 357 rfl) ⟨Nat.le_of_ble_eq_true rfl, Nat.le_of_ble_eq_true rfl⟩ hK hN [] rfl hP [] rfl hS hl.1 rfl (Nat.le_of_ble_eq_true rfl) dX6_newest_1 ⟨Nat.zero_le _, Nat.zero_le _⟩ (fun H locs hP hS => ?_)
  refine lv_if_ne (tgt := 17) hx hb dX6_newest_4 (by decide) (fun c4_1 => ?_) (fun c4_1 => ?_)
  · skip
    have c4_1 := bI_t c4_1
    refine lv_aload_n hx hb dX6_newest_17 rfl (lv_at hl 0 rfl) ?_
    refine va_get (D := D) (ci := 6) (v := .ref (dg 0)) (C := RX6) (T := TX6) (N := 6) hx hb hts u6_X6 hown hK hP 0 rfl rfl 3 (by decide) (hts _ (m6 260 rfl)) (fun _ h9 => h9) rfl dX6_newest_18 ?_
    refine va_get (D := D) (ci := 2) (v := .ref (dg 1)) (C := RX2) (T := TX2) (N := 8) hx hb hts u6_X2 hown hK hP 1 rfl rfl 0 (by decide) (hts _ (m6 301 rfl)) (fun _ h9 => h9) rfl dX6_newest_21 ?_
    refine lv_iload_n hx hb dX6_newest_24 rfl (lv_at hl 1 rfl) ?_
    refine bq_readV hX good6 (m6 23 rfl) (b0_newestOf l D cI dg z (inv_B hz) x) q0_newestOf rfl (m6 359 rfl) (m6 34 rfl) (m6 35 rfl) ⟨Nat.le_of_ble_eq_true rfl, Nat.le_of_ble_eq_true rfl⟩ hK hN [0] rfl hP [1] rfl (ci := 0) (q0 := 1) rfl rfl rfl hS hl.1 rfl (Nat.le_of_ble_eq_true rfl) dX6_newest_25 ⟨Nat.zero_le _, Nat.zero_le _⟩ (fun H locs hP hS => ?_)
    exact ge_ret hX hr hlocks hS hP ⟨by rw [c6key, if_pos c4_1], rfl, rfl⟩ (Nat.le_of_ble_eq_true rfl) (Nat.le_of_ble_eq_true rfl) dX6_newest_28
  · skip
    have c4_1 := bI_f c4_1
    exact ge_tia hst hX hEx hnt hlocks hE hSW hZ hS hP (m6 272 rfl) (m6 273 rfl) (show (156, _) ∈ xT from List.mem_of_getElem? (i := 8) rfl) ⟨⟨rfl, by rw [c6key, if_neg c4_1]⟩, rfl⟩ hl.1 dX6_newest_7 dX6_newest_10 dX6_newest_11 dX6_newest_13 dX6_newest_16 (Nat.le_of_ble_eq_true rfl) (Nat.le_of_ble_eq_true rfl) (Nat.le_of_ble_eq_true rfl) (Nat.le_of_ble_eq_true rfl) (Nat.le_of_ble_eq_true rfl) (Nat.le_of_ble_eq_true rfl)
theorem dX6_lastCut_0 : decode cX6_lastCut 0 = .ok (.iload_n 1, 1) := by decide +kernel
theorem dX6_lastCut_1 : decode cX6_lastCut 1 = .ok (.ifCond .lt 8, 3) := by decide +kernel
theorem dX6_lastCut_4 : decode cX6_lastCut 4 = .ok (.iload_n 1, 1) := by decide +kernel
theorem dX6_lastCut_5 : decode cX6_lastCut 5 = .ok (.iconst 2, 1) := by decide +kernel
theorem dX6_lastCut_6 : decode cX6_lastCut 6 = .ok (.if_icmp .le 13, 3) := by decide +kernel
theorem dX6_lastCut_9 : decode cX6_lastCut 9 = .ok (.new 43, 3) := by decide +kernel
theorem dX6_lastCut_12 : decode cX6_lastCut 12 = .ok (.dup, 1) := by decide +kernel
theorem dX6_lastCut_13 : decode cX6_lastCut 13 = .ok (.ldc 172, 2) := by decide +kernel
theorem dX6_lastCut_15 : decode cX6_lastCut 15 = .ok (.invokespecial 47, 3) := by decide +kernel
theorem dX6_lastCut_18 : decode cX6_lastCut 18 = .ok (.athrow, 1) := by decide +kernel
theorem dX6_lastCut_19 : decode cX6_lastCut 19 = .ok (.aload_n 0, 1) := by decide +kernel
theorem dX6_lastCut_20 : decode cX6_lastCut 20 = .ok (.getfield 33, 3) := by decide +kernel
theorem dX6_lastCut_23 : decode cX6_lastCut 23 = .ok (.getfield 115, 3) := by decide +kernel
theorem dX6_lastCut_26 : decode cX6_lastCut 26 = .ok (.iload_n 1, 1) := by decide +kernel
theorem dX6_lastCut_27 : decode cX6_lastCut 27 = .ok (.invokevirtual 174, 3) := by decide +kernel
theorem dX6_lastCut_30 : decode cX6_lastCut 30 = .ok (.ireturn, 1) := by decide +kernel
set_option maxHeartbeats 4000000 in
set_option maxRecDepth 100000 in
theorem c6_lastCut (l : Launch) (hst : l.stackTraces = false)  (D : va_G) (cI : ClassId) (ob so ho sl : Nat) (dg dc dt : Nat → Nat) (z : LgS) (hz : Inv z) (x : Int32) : GE l yX6_lastCut cX6_lastCut 2 6 90 D [[(ob, .inr (6, [.ref so, .ref ho, .ref sl, .ref (dg 0), .ref (dc 0), .ref (dt 0)]))], zL cI dg z] [(cI, .int)] [.ref ob, .int (x)] (fun (r9 : Int32) (u9 : List va_W) => (c6r x 2) = 0 ∧ r9 = (tcF (z.2.1 10) (z.2.1 11) (z.2.1 12) x.toNatClampNeg) ∧ u9 = [[(ob, .inr (6, [.ref so, .ref ho, .ref sl, .ref (dg 0), .ref (dc 0), .ref (dt 0)]))], zL cI dg z]) (fun (e9 : String) (u9 : List va_W) => ((e9 = xIA ∧ (c6r x 2) = 1)) ∧ u9 = [[(ob, .inr (6, [.ref so, .ref ho, .ref sl, .ref (dg 0), .ref (dc 0), .ref (dt 0)]))], zL cI dg z]) := by
  refine ge_of (by decide) rfl (Nat.le_of_ble_eq_true rfl) ?_
  intro p e s m below meth c ls H hX hEx hnt hr hlocks hK hN hE hSW hZ hP hD hS hl
  generalize gp_A (bw [[(ob, .inr (6, [.ref so, .ref ho, .ref sl, .ref (dg 0), .ref (dc 0), .ref (dt 0)]))], zL cI dg z]) = A at hZ hD hS ⊢
  have hx := hX.1
  have hb := hX.2.1
  have hown := hX.2.2.2.1
  have hts := hX.2.2.2.2
  have hl : lv_has ls 2 [(0, .ref ob), (1, .int (x))] := hl
  refine lv_iload_n hx hb dX6_lastCut_0 rfl (lv_at hl 1 rfl) ?_
  refine lv_if_lt (tgt := 9) hx hb dX6_lastCut_1 (by decide) (fun c1_1 => ?_) (fun c1_1 => ?_)
  · skip
    exact ge_tia hst hX hEx hnt hlocks hE hSW hZ hS hP (m6 272 rfl) (m6 273 rfl) (show (172, _) ∈ xT from List.mem_of_getElem? (i := 11) rfl) ⟨⟨rfl, by rw [c6r, if_neg (fun y => y.1 c1_1)]⟩, rfl⟩ hl.1 dX6_lastCut_9 dX6_lastCut_12 dX6_lastCut_13 dX6_lastCut_15 dX6_lastCut_18 (Nat.le_of_ble_eq_true rfl) (Nat.le_of_ble_eq_true rfl) (Nat.le_of_ble_eq_true rfl) (Nat.le_of_ble_eq_true rfl) (Nat.le_of_ble_eq_true rfl) (Nat.le_of_ble_eq_true rfl)
  · skip
    refine lv_iload_n hx hb dX6_lastCut_4 rfl (lv_at hl 1 rfl) ?_
    refine lv_iconst (v := 2) hx hb dX6_lastCut_5 (by decide) ?_
    refine lv_icmp_le (tgt := 19) hx hb dX6_lastCut_6 (by decide) (fun c6_2 => ?_) (fun c6_2 => ?_)
    · skip
      have c6_2 := i_nlt c6_2
      obtain ⟨en1, hn1⟩ := num_le (x := x) (a := 2) (by decide) c1_1 c6_2
      have hl : lv_has ls 2 [(0, .ref ob), (1, .int (nI (x.toNatClampNeg)))] := lv_re hl 1 rfl en1
      refine lv_aload_n hx hb dX6_lastCut_19 rfl (lv_at hl 0 rfl) ?_
      refine va_get (D := D) (ci := 6) (v := .ref (dg 0)) (C := RX6) (T := TX6) (N := 6) hx hb hts u6_X6 hown hK hP 0 rfl rfl 3 (by decide) (hts _ (m6 260 rfl)) (fun _ h9 => h9) rfl dX6_lastCut_20 ?_
      refine va_get (D := D) (ci := 2) (v := .ref (dg 10)) (C := RX2) (T := TX2) (N := 8) hx hb hts u6_X2 hown hK hP 1 rfl rfl 1 (by decide) (hts _ (m6 294 rfl)) (fun _ h9 => h9) rfl dX6_lastCut_23 ?_
      refine lv_iload_n hx hb dX6_lastCut_26 rfl (lv_at hl 1 rfl) ?_
      refine bq_readV hX good6 (m6 69 rfl) (b5_tellCut l D cI dg z (inv_B hz) x.toNatClampNeg (by omega)) q5_tellCut rfl (m6 360 rfl) (m6 361 rfl) (m6 362 rfl) ⟨Nat.le_of_ble_eq_true rfl, Nat.le_of_ble_eq_true rfl⟩ hK hN [0] rfl hP [1] rfl (ci := 5) (q0 := 10) rfl rfl rfl hS hl.1 rfl (Nat.le_of_ble_eq_true rfl) dX6_lastCut_27 ⟨Nat.zero_le _, Nat.zero_le _⟩ (fun H locs hP hS => ?_)
      exact ge_ret hX hr hlocks hS hP ⟨by rw [c6r, if_pos ⟨c1_1, c6_2⟩], rfl, rfl⟩ (Nat.le_of_ble_eq_true rfl) (Nat.le_of_ble_eq_true rfl) dX6_lastCut_30
    · skip
      have c6_2 := i_lt c6_2
      exact ge_tia hst hX hEx hnt hlocks hE hSW hZ hS hP (m6 272 rfl) (m6 273 rfl) (show (172, _) ∈ xT from List.mem_of_getElem? (i := 11) rfl) ⟨⟨rfl, by rw [c6r, if_neg (fun y => y.2 c6_2)]⟩, rfl⟩ hl.1 dX6_lastCut_9 dX6_lastCut_12 dX6_lastCut_13 dX6_lastCut_15 dX6_lastCut_18 (Nat.le_of_ble_eq_true rfl) (Nat.le_of_ble_eq_true rfl) (Nat.le_of_ble_eq_true rfl) (Nat.le_of_ble_eq_true rfl) (Nat.le_of_ble_eq_true rfl) (Nat.le_of_ble_eq_true rfl)
theorem dX6_victim_0 : decode cX6_victim 0 = .ok (.aload_n 0, 1) := by decide +kernel
theorem dX6_victim_1 : decode cX6_victim 1 = .ok (.getfield 33, 3) := by decide +kernel
theorem dX6_victim_4 : decode cX6_victim 4 = .ok (.invokevirtual 197, 3) := by decide +kernel
theorem dX6_victim_7 : decode cX6_victim 7 = .ok (.ireturn, 1) := by decide +kernel
set_option maxHeartbeats 4000000 in
set_option maxRecDepth 100000 in
theorem c6_victim (l : Launch) (D : va_G) (cI : ClassId) (ob so ho sl : Nat) (dg dc dt : Nat → Nat) (z : LgS) (hz : Inv z)  : RQ l yX6_victim cX6_victim 1 .int W6 3 69 D (bw [[(ob, .inr (6, [.ref so, .ref ho, .ref sl, .ref (dg 0), .ref (dc 0), .ref (dt 0)]))], zL cI dg z]) [(cI, .int)] [.ref ob] (oI (cvZ z)) := by
  refine rq_of RX6 (by decide) rfl (Nat.le_of_ble_eq_true rfl) ?_
  intro p e s m below meth c ls hX hr hlocks hK hN hP hS hl
  have hx := hX.1
  have hb := hX.2.1
  have hown := hX.2.2.2.1
  have hts := hX.2.2.2.2
  have hl : lv_has ls 1 [(0, .ref ob)] := hl
  refine lv_aload_n hx hb dX6_victim_0 rfl (lv_at hl 0 rfl) ?_
  refine va_get (D := D) (ci := 6) (v := .ref (dg 0)) (C := RX6) (T := TX6) (N := 6) hx hb hts u6_X6 hown hK hP 0 rfl rfl 3 (by decide) (hts _ (m6 260 rfl)) (fun _ h9 => h9) rfl dX6_victim_1 ?_
  refine bq_readV hX good6 (m6 83 rfl) (b2_chooseVictim l D cI dg z (inv_B hz) ) q2_chooseVictim rfl (m6 308 rfl) (m6 200 rfl) (m6 201 rfl) ⟨Nat.le_of_ble_eq_true rfl, Nat.le_of_ble_eq_true rfl⟩ hK hN [0] rfl hP [1] rfl (ci := 2) (q0 := 0) rfl rfl rfl hS hl.1 rfl (Nat.le_of_ble_eq_true rfl) dX6_victim_4 ⟨Nat.zero_le _, Nat.zero_le _⟩ (fun H locs hP hS => ?_)
  exact rp_ret hX hr hlocks hS (rfl) dX6_victim_7
theorem dX6_whyNoRoom_0 : decode cX6_whyNoRoom 0 = .ok (.aload_n 0, 1) := by decide +kernel
theorem dX6_whyNoRoom_1 : decode cX6_whyNoRoom 1 = .ok (.getfield 33, 3) := by decide +kernel
theorem dX6_whyNoRoom_4 : decode cX6_whyNoRoom 4 = .ok (.getfield 158, 3) := by decide +kernel
theorem dX6_whyNoRoom_7 : decode cX6_whyNoRoom 7 = .ok (.ifCond .ne 5, 3) := by decide +kernel
theorem dX6_whyNoRoom_10 : decode cX6_whyNoRoom 10 = .ok (.iconst 1, 1) := by decide +kernel
theorem dX6_whyNoRoom_11 : decode cX6_whyNoRoom 11 = .ok (.ireturn, 1) := by decide +kernel
theorem dX6_whyNoRoom_12 : decode cX6_whyNoRoom 12 = .ok (.aload_n 0, 1) := by decide +kernel
theorem dX6_whyNoRoom_13 : decode cX6_whyNoRoom 13 = .ok (.aload_n 0, 1) := by decide +kernel
theorem dX6_whyNoRoom_14 : decode cX6_whyNoRoom 14 = .ok (.getfield 33, 3) := by decide +kernel
theorem dX6_whyNoRoom_17 : decode cX6_whyNoRoom 17 = .ok (.invokevirtual 182, 3) := by decide +kernel
theorem dX6_whyNoRoom_20 : decode cX6_whyNoRoom 20 = .ok (.ifCond .le 5, 3) := by decide +kernel
theorem dX6_whyNoRoom_23 : decode cX6_whyNoRoom 23 = .ok (.iconst 0, 1) := by decide +kernel
theorem dX6_whyNoRoom_24 : decode cX6_whyNoRoom 24 = .ok (.ireturn, 1) := by decide +kernel
theorem dX6_whyNoRoom_25 : decode cX6_whyNoRoom 25 = .ok (.aload_n 0, 1) := by decide +kernel
theorem dX6_whyNoRoom_26 : decode cX6_whyNoRoom 26 = .ok (.getfield 33, 3) := by decide +kernel
theorem dX6_whyNoRoom_29 : decode cX6_whyNoRoom 29 = .ok (.invokevirtual 231, 3) := by decide +kernel
theorem dX6_whyNoRoom_32 : decode cX6_whyNoRoom 32 = .ok (.ifCond .eq 7, 3) := by decide +kernel
theorem dX6_whyNoRoom_35 : decode cX6_whyNoRoom 35 = .ok (.iconst 3, 1) := by decide +kernel
theorem dX6_whyNoRoom_36 : decode cX6_whyNoRoom 36 = .ok (.goto 4, 3) := by decide +kernel
theorem dX6_whyNoRoom_39 : decode cX6_whyNoRoom 39 = .ok (.iconst 2, 1) := by decide +kernel
theorem dX6_whyNoRoom_40 : decode cX6_whyNoRoom 40 = .ok (.ireturn, 1) := by decide +kernel
set_option maxHeartbeats 4000000 in
set_option maxRecDepth 100000 in
theorem c6_whyNoRoom (l : Launch) (D : va_G) (cI : ClassId) (ob so ho sl : Nat) (dg dc dt : Nat → Nat) (z : LgS) (hz : Inv z) (zt : LgS) (hBt : zt.1.2 ≤ 8)  : BQi l yX6_whyNoRoom cX6_whyNoRoom 1 .int W6 5 144 D [[(ob, .inr (6, [.ref so, .ref ho, .ref sl, .ref (dg 0), .ref (dc 0), .ref (dt 0)]))], zL cI dg z, zL cI dt zt] [(cI, .int)] [.ref ob] (fun (r9 : Int32) (u9 : List va_W) => r9 = (wnV z) ∧ ∃ zt9 : LgS, (zt9.1.2 ≤ 8) ∧ u9 = [[(ob, .inr (6, [.ref so, .ref ho, .ref sl, .ref (dg 0), .ref (dc 0), .ref (dt 0)]))], zL cI dg z, zL cI dt zt9]) := by
  refine gq_of RX6 (by decide) rfl (Nat.le_of_ble_eq_true rfl) ?_
  intro p e s m below meth c ls H hX hr hlocks hK hN hP hD hS hl
  generalize gp_A (bw [[(ob, .inr (6, [.ref so, .ref ho, .ref sl, .ref (dg 0), .ref (dc 0), .ref (dt 0)]))], zL cI dg z, zL cI dt zt]) = A at hD hS ⊢
  have hx := hX.1
  have hb := hX.2.1
  have hown := hX.2.2.2.1
  have hts := hX.2.2.2.2
  have hl : lv_has ls 1 [(0, .ref ob)] := hl
  refine lv_aload_n hx hb dX6_whyNoRoom_0 rfl (lv_at hl 0 rfl) ?_
  refine va_get (D := D) (ci := 6) (v := .ref (dg 0)) (C := RX6) (T := TX6) (N := 6) hx hb hts u6_X6 hown hK hP 0 rfl rfl 3 (by decide) (hts _ (m6 260 rfl)) (fun _ h9 => h9) rfl dX6_whyNoRoom_1 ?_
  refine va_get (D := D) (ci := 2) (v := .int (bI (z.1.1 = true))) (C := RX2) (T := TX2) (N := 8) hx hb hts u6_X2 hown hK hP 1 rfl rfl 2 (by decide) (hts _ (m6 292 rfl)) (fun _ h9 => h9) rfl dX6_whyNoRoom_4 ?_
  refine lv_if_ne (tgt := 12) hx hb dX6_whyNoRoom_7 (by decide) (fun c7_1 => ?_) (fun c7_1 => ?_)
  · skip
    have c7_1 := bI_t c7_1
    refine lv_aload_n hx hb dX6_whyNoRoom_12 rfl (lv_at hl 0 rfl) ?_
    refine lv_aload_n hx hb dX6_whyNoRoom_13 rfl (lv_at hl 0 rfl) ?_
    refine va_get (D := D) (ci := 6) (v := .ref (dg 0)) (C := RX6) (T := TX6) (N := 6) hx hb hts u6_X6 hown hK hP 0 rfl rfl 3 (by decide) (hts _ (m6 260 rfl)) (fun _ h9 => h9) rfl dX6_whyNoRoom_14 ?_
    refine bq_backi (bq_runV hX good6 (m6 31 rfl) (c6_costOfRecord l D cI ob so ho sl dg dc dt zt hBt dg z hz) q6_costOfRecord rfl (m6 303 rfl) (m6 304 rfl) (m6 305 rfl) ⟨Nat.le_of_ble_eq_true rfl, Nat.le_of_ble_eq_true rfl⟩ hK hN [0] rfl hP hD [0, 2, 1] (by decide) rfl (ci := 6) (q0 := 0) rfl rfl rfl hl.1 rfl (Nat.le_of_ble_eq_true rfl) dX6_whyNoRoom_17 ⟨Nat.zero_le _, Nat.zero_le _⟩) hP hD hS [0, 2, 1] rfl (fun r u h => by obtain ⟨-, x2, hx3, rfl⟩ := h; rfl) (fun r9 u H locs hpost hP hD hS => ?_)
    obtain ⟨hr9, x2, hx3, rfl⟩ := hpost
    refine lv_as hr9 ?_
    have hP : va_P D vwCl (bw [[(ob, .inr (6, [.ref so, .ref ho, .ref sl, .ref (dg 0), .ref (dc 0), .ref (dt 0)]))], zL cI dg z, zL cI dt x2]) H := hP
    have hD : va_D A (bw [[(ob, .inr (6, [.ref so, .ref ho, .ref sl, .ref (dg 0), .ref (dc 0), .ref (dt 0)]))], zL cI dg z, zL cI dt x2]) := hD
    refine lv_if_le (tgt := 25) hx hb dX6_whyNoRoom_20 (by decide) (fun c20_4 => ?_) (fun c20_4 => ?_)
    · skip
      have c20_4 := i_nlt c20_4
      refine lv_aload_n hx hb dX6_whyNoRoom_25 rfl (lv_at hl 0 rfl) ?_
      refine va_get (D := D) (ci := 6) (v := .ref (dg 0)) (C := RX6) (T := TX6) (N := 6) hx hb hts u6_X6 hown hK hP 0 rfl rfl 3 (by decide) (hts _ (m6 260 rfl)) (fun _ h9 => h9) rfl dX6_whyNoRoom_26 ?_
      refine bq_readV hX good6 (m6 83 rfl) (b2_hasSomethingToSweep l D cI dg z (inv_B hz) ) q2_hasSomethingToSweep rfl (m6 377 rfl) (m6 378 rfl) (m6 379 rfl) ⟨Nat.le_of_ble_eq_true rfl, Nat.le_of_ble_eq_true rfl⟩ hK hN [0] rfl hP [1] rfl (ci := 2) (q0 := 0) rfl rfl rfl hS hl.1 rfl (Nat.le_of_ble_eq_true rfl) dX6_whyNoRoom_29 ⟨Nat.zero_le _, Nat.zero_le _⟩ (fun H locs hP hS => ?_)
      refine lv_if_eq (tgt := 39) hx hb dX6_whyNoRoom_32 (by decide) (fun c32_5 => ?_) (fun c32_5 => ?_)
      · skip
        have c32_5 := bI_f c32_5
        refine lv_iconst (v := 2) hx hb dX6_whyNoRoom_39 (by decide) ?_
        exact bq_reti hX hr hlocks hS hP ⟨by rw [wnV, if_pos c7_1, if_neg c20_4, if_neg c32_5], _, hx3, rfl⟩ dX6_whyNoRoom_40
      · skip
        have c32_5 := bI_t c32_5
        refine lv_iconst (v := 3) hx hb dX6_whyNoRoom_35 (by decide) ?_
        refine lv_goto (tgt := 40) hx hb dX6_whyNoRoom_36 (by decide) ?_
        exact bq_reti hX hr hlocks hS hP ⟨by rw [wnV, if_pos c7_1, if_neg c20_4, if_pos c32_5], _, hx3, rfl⟩ dX6_whyNoRoom_40
    · skip
      have c20_4 := i_lt c20_4
      refine lv_iconst (v := 0) hx hb dX6_whyNoRoom_23 (by decide) ?_
      exact bq_reti hX hr hlocks hS hP ⟨by rw [wnV, if_pos c7_1, if_pos c20_4], _, hx3, rfl⟩ dX6_whyNoRoom_24
  · skip
    have c7_1 := bI_f c7_1
    refine lv_iconst (v := 1) hx hb dX6_whyNoRoom_10 (by decide) ?_
    exact bq_reti hX hr hlocks hS hP ⟨by rw [wnV, if_neg c7_1], _, hBt, rfl⟩ dX6_whyNoRoom_11
theorem dX6_oldest_0 : decode cX6_oldest 0 = .ok (.bipush (-9), 2) := by decide +kernel
theorem dX6_oldest_2 : decode cX6_oldest 2 = .ok (.istore_n 1, 1) := by decide +kernel
theorem dX6_oldest_3 : decode cX6_oldest 3 = .ok (.iconst 0, 1) := by decide +kernel
theorem dX6_oldest_4 : decode cX6_oldest 4 = .ok (.istore_n 2, 1) := by decide +kernel
theorem dX6_oldest_5 : decode cX6_oldest 5 = .ok (.iconst 0, 1) := by decide +kernel
theorem dX6_oldest_6 : decode cX6_oldest 6 = .ok (.istore_n 3, 1) := by decide +kernel
theorem dX6_oldest_7 : decode cX6_oldest 7 = .ok (.iload_n 3, 1) := by decide +kernel
theorem dX6_oldest_8 : decode cX6_oldest 8 = .ok (.bipush 16, 2) := by decide +kernel
theorem dX6_oldest_10 : decode cX6_oldest 10 = .ok (.if_icmp .ge 66, 3) := by decide +kernel
theorem dX6_oldest_13 : decode cX6_oldest 13 = .ok (.aload_n 0, 1) := by decide +kernel
theorem dX6_oldest_14 : decode cX6_oldest 14 = .ok (.getfield 33, 3) := by decide +kernel
theorem dX6_oldest_17 : decode cX6_oldest 17 = .ok (.getfield 122, 3) := by decide +kernel
theorem dX6_oldest_20 : decode cX6_oldest 20 = .ok (.iload_n 3, 1) := by decide +kernel
theorem dX6_oldest_21 : decode cX6_oldest 21 = .ok (.invokevirtual 164, 3) := by decide +kernel
theorem dX6_oldest_24 : decode cX6_oldest 24 = .ok (.bipush (-9), 2) := by decide +kernel
theorem dX6_oldest_26 : decode cX6_oldest 26 = .ok (.if_icmp .eq 44, 3) := by decide +kernel
theorem dX6_oldest_29 : decode cX6_oldest 29 = .ok (.aload_n 0, 1) := by decide +kernel
theorem dX6_oldest_30 : decode cX6_oldest 30 = .ok (.getfield 33, 3) := by decide +kernel
theorem dX6_oldest_33 : decode cX6_oldest 33 = .ok (.getfield 122, 3) := by decide +kernel
theorem dX6_oldest_36 : decode cX6_oldest 36 = .ok (.aload_n 0, 1) := by decide +kernel
theorem dX6_oldest_37 : decode cX6_oldest 37 = .ok (.getfield 33, 3) := by decide +kernel
theorem dX6_oldest_40 : decode cX6_oldest 40 = .ok (.getfield 122, 3) := by decide +kernel
theorem dX6_oldest_43 : decode cX6_oldest 43 = .ok (.iload_n 3, 1) := by decide +kernel
theorem dX6_oldest_44 : decode cX6_oldest 44 = .ok (.invokevirtual 169, 3) := by decide +kernel
theorem dX6_oldest_47 : decode cX6_oldest 47 = .ok (.iconst 3, 1) := by decide +kernel
theorem dX6_oldest_48 : decode cX6_oldest 48 = .ok (.invokevirtual 139, 3) := by decide +kernel
theorem dX6_oldest_51 : decode cX6_oldest 51 = .ok (.istore 4, 2) := by decide +kernel
theorem dX6_oldest_53 : decode cX6_oldest 53 = .ok (.iload_n 1, 1) := by decide +kernel
theorem dX6_oldest_54 : decode cX6_oldest 54 = .ok (.bipush (-9), 2) := by decide +kernel
theorem dX6_oldest_56 : decode cX6_oldest 56 = .ok (.if_icmp .eq 9, 3) := by decide +kernel
theorem dX6_oldest_59 : decode cX6_oldest 59 = .ok (.iload 4, 2) := by decide +kernel
theorem dX6_oldest_61 : decode cX6_oldest 61 = .ok (.iload_n 2, 1) := by decide +kernel
theorem dX6_oldest_62 : decode cX6_oldest 62 = .ok (.if_icmp .ge 8, 3) := by decide +kernel
theorem dX6_oldest_65 : decode cX6_oldest 65 = .ok (.iload_n 3, 1) := by decide +kernel
theorem dX6_oldest_66 : decode cX6_oldest 66 = .ok (.istore_n 1, 1) := by decide +kernel
theorem dX6_oldest_67 : decode cX6_oldest 67 = .ok (.iload 4, 2) := by decide +kernel
theorem dX6_oldest_69 : decode cX6_oldest 69 = .ok (.istore_n 2, 1) := by decide +kernel
theorem dX6_oldest_70 : decode cX6_oldest 70 = .ok (.iinc 3 1, 3) := by decide +kernel
theorem dX6_oldest_73 : decode cX6_oldest 73 = .ok (.goto (-66), 3) := by decide +kernel
theorem dX6_oldest_76 : decode cX6_oldest 76 = .ok (.iload_n 1, 1) := by decide +kernel
theorem dX6_oldest_77 : decode cX6_oldest 77 = .ok (.ireturn, 1) := by decide +kernel
set_option maxHeartbeats 4000000 in
set_option maxRecDepth 100000 in
theorem c6_oldest (l : Launch) (D : va_G) (cI : ClassId) (ob so ho sl : Nat) (dg dc dt : Nat → Nat) (z : LgS) (hz : Inv z)  : RQ l yX6_oldest cX6_oldest 5 .int W6 2 43 D (bw [[(ob, .inr (6, [.ref so, .ref ho, .ref sl, .ref (dg 0), .ref (dc 0), .ref (dt 0)]))], zL cI dg z]) [(cI, .int)] [.ref ob] (oI (olF z 16)) := by
  refine rq_of RX6 (by decide) rfl (Nat.le_of_ble_eq_true rfl) ?_
  intro p e s m below meth c ls hX hr hlocks hK hN hP hS hl
  have hx := hX.1
  have hb := hX.2.1
  have hown := hX.2.2.2.1
  have hts := hX.2.2.2.2
  have hl : lv_has ls 5 [(0, .ref ob)] := hl
  refine lv_bipush (v := (-9)) hx hb dX6_oldest_0 (by decide) ?_
  refine lv_istore_n (lv' := [(1, .int ((-9))), (0, .ref ob)]) hx hb dX6_oldest_2 rfl hl (by decide) rfl (fun ls hl => ?_)
  refine lv_iconst (v := 0) hx hb dX6_oldest_3 (by decide) ?_
  refine lv_istore_n (lv' := [(2, .int (0)), (1, .int ((-9))), (0, .ref ob)]) hx hb dX6_oldest_4 rfl hl (by decide) rfl (fun ls hl => ?_)
  refine lv_iconst (v := 0) hx hb dX6_oldest_5 (by decide) ?_
  refine lv_istore_n (lv' := [(3, .int (0)), (2, .int (0)), (1, .int ((-9))), (0, .ref ob)]) hx hb dX6_oldest_6 rfl hl (by decide) rfl (fun ls hl => ?_)
  have LP7 : ∀ n9 : Nat, ∀ (j : Nat), (hj : j ≤ 16) → 16 - j < n9 → ∀ (H : Heap) (locs : List Loc), va_P D vwCl (bw [[(ob, .inr (6, [.ref so, .ref ho, .ref sl, .ref (dg 0), .ref (dc 0), .ref (dt 0)]))], zL cI dg z]) H → va_S (fun _ => False) s.heap H locs → ∀ ls : Array Slot, lv_has ls 5 [(0, .ref ob), (1, .int (oI (olF z j))), (2, .int (olM z (olF z j))), (3, .int (nI (j)))] → W p l e ({ frames := 2, cells := 0, slots := 0, locals := 43 } : Room) s m ([.ref ob] : List Value).toArray below meth c H locs 0 0 (MQ below (rp_Qi (oI (olF z 16))) ([.ref ob] : List Value).toArray s 0 0 (fun _ => False)) (F0 m 7 ls []) := by
    intro n9
    induction n9 with
    | zero => intros; omega
    | succ n9 ih7 =>
      intro j hj hm9 H locs hP hS ls hl
      refine lv_iload_n hx hb dX6_oldest_7 rfl (lv_at hl 3 rfl) ?_
      refine lv_bipush (v := 16) hx hb dX6_oldest_8 (by decide) ?_
      refine lv_icmp_ge (tgt := 76) hx hb dX6_oldest_10 (by decide) (fun c10_1 => ?_) (fun c10_1 => ?_)
      · skip
        have c10_1 := cn_le (a := 16) (b := j) (by omega) (by omega) c10_1
        refine lv_iload_n hx hb dX6_oldest_76 rfl (lv_at hl 1 rfl) ?_
        exact rp_ret hX hr hlocks hS (by rw [show j = 16 by omega]) dX6_oldest_77
      · skip
        have c10_1 := cn_nle (a := 16) (b := j) (by omega) (by omega) c10_1
        refine lv_aload_n hx hb dX6_oldest_13 rfl (lv_at hl 0 rfl) ?_
        refine va_get (D := D) (ci := 6) (v := .ref (dg 0)) (C := RX6) (T := TX6) (N := 6) hx hb hts u6_X6 hown hK hP 0 rfl rfl 3 (by decide) (hts _ (m6 260 rfl)) (fun _ h9 => h9) rfl dX6_oldest_14 ?_
        refine va_get (D := D) (ci := 2) (v := .ref (dg 1)) (C := RX2) (T := TX2) (N := 8) hx hb hts u6_X2 hown hK hP 1 rfl rfl 0 (by decide) (hts _ (m6 301 rfl)) (fun _ h9 => h9) rfl dX6_oldest_17 ?_
        refine lv_iload_n hx hb dX6_oldest_20 rfl (lv_at hl 3 rfl) ?_
        refine bq_readV hX good6 (m6 23 rfl) (b0_valueOf l D cI dg z (inv_B hz) (nI (j))) q0_valueOf rfl (m6 307 rfl) (m6 42 rfl) (m6 43 rfl) ⟨Nat.le_of_ble_eq_true rfl, Nat.le_of_ble_eq_true rfl⟩ hK hN [0] rfl hP [1] rfl (ci := 0) (q0 := 1) rfl rfl rfl hS hl.1 rfl (Nat.le_of_ble_eq_true rfl) dX6_oldest_21 ⟨Nat.zero_le _, Nat.zero_le _⟩ (fun H locs hP hS => ?_)
        refine lv_bipush (v := (-9)) hx hb dX6_oldest_24 (by decide) ?_
        refine lv_icmp_eq (tgt := 70) hx hb dX6_oldest_26 (by decide) (fun c26_2 => ?_) (fun c26_2 => ?_)
        · skip
          refine lv_iinc (v := nI (j + 1)) (lv' := [(3, .int (nI (j + 1))), (0, .ref ob), (1, .int (oI (olF z j))), (2, .int (olM z (olF z j)))]) hx hb dX6_oldest_70 hl (k := 3) rfl (nI_add _ 1) (by decide) rfl (fun ls hl => ?_)
          refine lv_goto (tgt := 7) hx hb dX6_oldest_73 (by decide) ?_
          have hl : lv_has ls 5 [(3, .int (nI (j + 1))), (0, .ref ob), (1, .int (oI (olF z (j + 1)))), (2, .int (olM z (olF z j)))] := lv_re hl 2 rfl (show (oI (olF z j)) = oI (olF z (j + 1)) from by rw [olF_n c26_2])
          have hl : lv_has ls 5 [(3, .int (nI (j + 1))), (0, .ref ob), (1, .int (oI (olF z (j + 1)))), (2, .int (olM z (olF z (j + 1))))] := lv_re hl 3 rfl (show (olM z (olF z j)) = olM z (olF z (j + 1)) from by rw [olF_n c26_2])
          have hl : lv_has ls 5 [(3, .int (nI ((j + 1)))), (0, .ref ob), (1, .int (oI (olF z (j + 1)))), (2, .int (olM z (olF z (j + 1))))] := lv_re hl 0 rfl (show (nI (j + 1)) = nI ((j + 1)) from rfl)
          exact ih7 (j + 1) (by omega) (by omega) _ _ hP hS _ (lv_sub hl [1, 2, 3, 0] rfl)
        · skip
          refine lv_aload_n hx hb dX6_oldest_29 rfl (lv_at hl 0 rfl) ?_
          refine va_get (D := D) (ci := 6) (v := .ref (dg 0)) (C := RX6) (T := TX6) (N := 6) hx hb hts u6_X6 hown hK hP 0 rfl rfl 3 (by decide) (hts _ (m6 260 rfl)) (fun _ h9 => h9) rfl dX6_oldest_30 ?_
          refine va_get (D := D) (ci := 2) (v := .ref (dg 1)) (C := RX2) (T := TX2) (N := 8) hx hb hts u6_X2 hown hK hP 1 rfl rfl 0 (by decide) (hts _ (m6 301 rfl)) (fun _ h9 => h9) rfl dX6_oldest_33 ?_
          refine lv_aload_n hx hb dX6_oldest_36 rfl (lv_at hl 0 rfl) ?_
          refine va_get (D := D) (ci := 6) (v := .ref (dg 0)) (C := RX6) (T := TX6) (N := 6) hx hb hts u6_X6 hown hK hP 0 rfl rfl 3 (by decide) (hts _ (m6 260 rfl)) (fun _ h9 => h9) rfl dX6_oldest_37 ?_
          refine va_get (D := D) (ci := 2) (v := .ref (dg 1)) (C := RX2) (T := TX2) (N := 8) hx hb hts u6_X2 hown hK hP 1 rfl rfl 0 (by decide) (hts _ (m6 301 rfl)) (fun _ h9 => h9) rfl dX6_oldest_40 ?_
          refine lv_iload_n hx hb dX6_oldest_43 rfl (lv_at hl 3 rfl) ?_
          refine bq_readV hX good6 (m6 23 rfl) (b0_newestOf l D cI dg z (inv_B hz) (nI (j))) q0_newestOf rfl (m6 359 rfl) (m6 34 rfl) (m6 35 rfl) ⟨Nat.le_of_ble_eq_true rfl, Nat.le_of_ble_eq_true rfl⟩ hK hN [0] rfl hP [1] rfl (ci := 0) (q0 := 1) rfl rfl rfl hS hl.1 rfl (Nat.le_of_ble_eq_true rfl) dX6_oldest_44 ⟨Nat.zero_le _, Nat.zero_le _⟩ (fun H locs hP hS => ?_)
          refine lv_iconst (v := 3) hx hb dX6_oldest_47 (by decide) ?_
          refine bq_readV hX good6 (m6 23 rfl) (b0_tellPage l D cI dg z (inv_B hz) (at_ (z.2.2 6) 16 (-9) (nI (j))) 3) q0_tellPage rfl (m6 351 rfl) (m6 184 rfl) (m6 185 rfl) ⟨Nat.le_of_ble_eq_true rfl, Nat.le_of_ble_eq_true rfl⟩ hK hN [0] rfl hP [1] rfl (ci := 0) (q0 := 1) rfl rfl rfl hS hl.1 rfl (Nat.le_of_ble_eq_true rfl) dX6_oldest_48 ⟨Nat.zero_le _, Nat.zero_le _⟩ (fun H locs hP hS => ?_)
          refine lv_istore (lv' := [(4, .int (tpZ z (at_ (z.2.2 6) 16 (-9) (nI (j))) 3)), (0, .ref ob), (1, .int (oI (olF z j))), (2, .int (olM z (olF z j))), (3, .int (nI (j)))]) hx hb dX6_oldest_51 hl (by decide) rfl (fun ls hl => ?_)
          have hl : lv_has ls 5 [(4, .int (mkZ z (nI j))), (0, .ref ob), (1, .int (oI (olF z j))), (2, .int (olM z (olF z j))), (3, .int (nI (j)))] := hl
          obtain ⟨v9, hO9⟩ : ∃ v9, olF z j = v9 := ⟨_, rfl⟩
          rcases v9 with _ | o9
          · skip
            have hl : lv_has ls 5 [(4, .int (mkZ z (nI j))), (0, .ref ob), (1, .int ((-9))), (2, .int (0)), (3, .int (nI (j)))] := by rw [hO9] at hl; exact hl
            refine lv_iload_n hx hb dX6_oldest_53 rfl (lv_at hl 2 rfl) ?_
            refine lv_bipush (v := (-9)) hx hb dX6_oldest_54 (by decide) ?_
            refine lv_icmp_eq (tgt := 65) hx hb dX6_oldest_56 (by decide) (fun c56_3 => ?_) (fun c56_3 => ?_)
            · skip
              refine lv_iload_n hx hb dX6_oldest_65 rfl (lv_at hl 4 rfl) ?_
              refine lv_istore_n (lv' := [(1, .int (nI (j))), (4, .int (mkZ z (nI j))), (0, .ref ob), (2, .int (0)), (3, .int (nI (j)))]) hx hb dX6_oldest_66 rfl hl (by decide) rfl (fun ls hl => ?_)
              refine lv_iload hx hb dX6_oldest_67 (lv_at hl 1 rfl) ?_
              refine lv_istore_n (lv' := [(2, .int (mkZ z (nI j))), (1, .int (nI (j))), (4, .int (mkZ z (nI j))), (0, .ref ob), (3, .int (nI (j)))]) hx hb dX6_oldest_69 rfl hl (by decide) rfl (fun ls hl => ?_)
              refine lv_iinc (v := nI (j + 1)) (lv' := [(3, .int (nI (j + 1))), (2, .int (mkZ z (nI j))), (1, .int (nI (j))), (4, .int (mkZ z (nI j))), (0, .ref ob)]) hx hb dX6_oldest_70 hl (k := 4) rfl (nI_add _ 1) (by decide) rfl (fun ls hl => ?_)
              refine lv_goto (tgt := 7) hx hb dX6_oldest_73 (by decide) ?_
              have hl : lv_has ls 5 [(3, .int (nI (j + 1))), (2, .int (mkZ z (nI j))), (1, .int (oI (olF z (j + 1)))), (4, .int (mkZ z (nI j))), (0, .ref ob)] := lv_re hl 2 rfl (show (nI (j)) = oI (olF z (j + 1)) from by rw [olF, hO9]; dsimp only; rw [if_pos c26_2]; rfl)
              have hl : lv_has ls 5 [(3, .int (nI (j + 1))), (2, .int (olM z (olF z (j + 1)))), (1, .int (oI (olF z (j + 1)))), (4, .int (mkZ z (nI j))), (0, .ref ob)] := lv_re hl 1 rfl (show (mkZ z (nI j)) = olM z (olF z (j + 1)) from by rw [olF, hO9]; dsimp only; rw [if_pos c26_2]; rfl)
              have hl : lv_has ls 5 [(3, .int (nI ((j + 1)))), (2, .int (olM z (olF z (j + 1)))), (1, .int (oI (olF z (j + 1)))), (4, .int (mkZ z (nI j))), (0, .ref ob)] := lv_re hl 0 rfl (show (nI (j + 1)) = nI ((j + 1)) from rfl)
              exact ih7 (j + 1) (by omega) (by omega) _ _ hP hS _ (lv_sub hl [4, 2, 1, 0] rfl)
            · skip
              exact absurd c56_3 (by decide)
          · skip
            have hl : lv_has ls 5 [(4, .int (mkZ z (nI j))), (0, .ref ob), (1, .int (nI (o9))), (2, .int (mkZ z (nI o9))), (3, .int (nI (j)))] := by rw [hO9] at hl; exact hl
            have ho9 := olF_lt hO9
            refine lv_iload_n hx hb dX6_oldest_53 rfl (lv_at hl 2 rfl) ?_
            refine lv_bipush (v := (-9)) hx hb dX6_oldest_54 (by decide) ?_
            refine lv_icmp_eq (tgt := 65) hx hb dX6_oldest_56 (by decide) (fun c56_4 => ?_) (fun c56_4 => ?_)
            · skip
              exact absurd c56_4 (oI_ne (by omega))
            · skip
              refine lv_iload hx hb dX6_oldest_59 (lv_at hl 0 rfl) ?_
              refine lv_iload_n hx hb dX6_oldest_61 rfl (lv_at hl 3 rfl) ?_
              refine lv_icmp_ge (tgt := 70) hx hb dX6_oldest_62 (by decide) (fun c62_5 => ?_) (fun c62_5 => ?_)
              · skip
                have c62_5 := i_nlt c62_5
                refine lv_iinc (v := nI (j + 1)) (lv' := [(3, .int (nI (j + 1))), (4, .int (mkZ z (nI j))), (0, .ref ob), (1, .int (nI (o9))), (2, .int (mkZ z (nI o9)))]) hx hb dX6_oldest_70 hl (k := 4) rfl (nI_add _ 1) (by decide) rfl (fun ls hl => ?_)
                refine lv_goto (tgt := 7) hx hb dX6_oldest_73 (by decide) ?_
                have hl : lv_has ls 5 [(3, .int (nI (j + 1))), (4, .int (mkZ z (nI j))), (0, .ref ob), (1, .int (oI (olF z (j + 1)))), (2, .int (mkZ z (nI o9)))] := lv_re hl 3 rfl (show (nI (o9)) = oI (olF z (j + 1)) from by rw [olF, hO9]; dsimp only; rw [if_neg (fun y => c62_5 y.2)]; rfl)
                have hl : lv_has ls 5 [(3, .int (nI (j + 1))), (4, .int (mkZ z (nI j))), (0, .ref ob), (1, .int (oI (olF z (j + 1)))), (2, .int (olM z (olF z (j + 1))))] := lv_re hl 4 rfl (show (mkZ z (nI o9)) = olM z (olF z (j + 1)) from by rw [olF, hO9]; dsimp only; rw [if_neg (fun y => c62_5 y.2)]; rfl)
                have hl : lv_has ls 5 [(3, .int (nI ((j + 1)))), (4, .int (mkZ z (nI j))), (0, .ref ob), (1, .int (oI (olF z (j + 1)))), (2, .int (olM z (olF z (j + 1))))] := lv_re hl 0 rfl (show (nI (j + 1)) = nI ((j + 1)) from rfl)
                exact ih7 (j + 1) (by omega) (by omega) _ _ hP hS _ (lv_sub hl [2, 3, 4, 0] rfl)
              · skip
                have c62_5 := i_lt c62_5
                refine lv_iload_n hx hb dX6_oldest_65 rfl (lv_at hl 4 rfl) ?_
                refine lv_istore_n (lv' := [(1, .int (nI (j))), (4, .int (mkZ z (nI j))), (0, .ref ob), (2, .int (mkZ z (nI o9))), (3, .int (nI (j)))]) hx hb dX6_oldest_66 rfl hl (by decide) rfl (fun ls hl => ?_)
                refine lv_iload hx hb dX6_oldest_67 (lv_at hl 1 rfl) ?_
                refine lv_istore_n (lv' := [(2, .int (mkZ z (nI j))), (1, .int (nI (j))), (4, .int (mkZ z (nI j))), (0, .ref ob), (3, .int (nI (j)))]) hx hb dX6_oldest_69 rfl hl (by decide) rfl (fun ls hl => ?_)
                refine lv_iinc (v := nI (j + 1)) (lv' := [(3, .int (nI (j + 1))), (2, .int (mkZ z (nI j))), (1, .int (nI (j))), (4, .int (mkZ z (nI j))), (0, .ref ob)]) hx hb dX6_oldest_70 hl (k := 4) rfl (nI_add _ 1) (by decide) rfl (fun ls hl => ?_)
                refine lv_goto (tgt := 7) hx hb dX6_oldest_73 (by decide) ?_
                have hl : lv_has ls 5 [(3, .int (nI (j + 1))), (2, .int (mkZ z (nI j))), (1, .int (oI (olF z (j + 1)))), (4, .int (mkZ z (nI j))), (0, .ref ob)] := lv_re hl 2 rfl (show (nI (j)) = oI (olF z (j + 1)) from by rw [olF, hO9]; dsimp only; rw [if_pos ⟨c26_2, c62_5⟩]; rfl)
                have hl : lv_has ls 5 [(3, .int (nI (j + 1))), (2, .int (olM z (olF z (j + 1)))), (1, .int (oI (olF z (j + 1)))), (4, .int (mkZ z (nI j))), (0, .ref ob)] := lv_re hl 1 rfl (show (mkZ z (nI j)) = olM z (olF z (j + 1)) from by rw [olF, hO9]; dsimp only; rw [if_pos ⟨c26_2, c62_5⟩]; rfl)
                have hl : lv_has ls 5 [(3, .int (nI ((j + 1)))), (2, .int (olM z (olF z (j + 1)))), (1, .int (oI (olF z (j + 1)))), (4, .int (mkZ z (nI j))), (0, .ref ob)] := lv_re hl 0 rfl (show (nI (j + 1)) = nI ((j + 1)) from rfl)
                exact ih7 (j + 1) (by omega) (by omega) _ _ hP hS _ (lv_sub hl [4, 2, 1, 0] rfl)
  have hl : lv_has ls 5 [(3, .int (0)), (2, .int (0)), (1, .int (oI (olF z 0))), (0, .ref ob)] := lv_re hl 2 rfl (show (-9) = oI (olF z 0) from rfl)
  have hl : lv_has ls 5 [(3, .int (0)), (2, .int (olM z (olF z 0))), (1, .int (oI (olF z 0))), (0, .ref ob)] := lv_re hl 1 rfl (show 0 = olM z (olF z 0) from rfl)
  have hl : lv_has ls 5 [(3, .int (nI (0))), (2, .int (olM z (olF z 0))), (1, .int (oI (olF z 0))), (0, .ref ob)] := lv_re hl 0 rfl (show 0 = nI (0) from rfl)
  exact LP7 ((16 - 0) + 1) 0 (by omega) (by omega) _ _ hP hS _ (lv_sub hl [3, 2, 1, 0] rfl)
theorem dX6_operations_0 : decode cX6_operations 0 = .ok (.aload_n 0, 1) := by decide +kernel
theorem dX6_operations_1 : decode cX6_operations 1 = .ok (.aload_n 0, 1) := by decide +kernel
theorem dX6_operations_2 : decode cX6_operations 2 = .ok (.getfield 33, 3) := by decide +kernel
theorem dX6_operations_5 : decode cX6_operations 5 = .ok (.invokevirtual 182, 3) := by decide +kernel
theorem dX6_operations_8 : decode cX6_operations 8 = .ok (.istore_n 1, 1) := by decide +kernel
theorem dX6_operations_9 : decode cX6_operations 9 = .ok (.iload_n 1, 1) := by decide +kernel
theorem dX6_operations_10 : decode cX6_operations 10 = .ok (.ifCond .ne 13, 3) := by decide +kernel
theorem dX6_operations_13 : decode cX6_operations 13 = .ok (.new 54, 3) := by decide +kernel
theorem dX6_operations_16 : decode cX6_operations 16 = .ok (.dup, 1) := by decide +kernel
theorem dX6_operations_17 : decode cX6_operations 17 = .ok (.ldc 186, 2) := by decide +kernel
theorem dX6_operations_19 : decode cX6_operations 19 = .ok (.invokespecial 58, 3) := by decide +kernel
theorem dX6_operations_22 : decode cX6_operations 22 = .ok (.athrow, 1) := by decide +kernel
theorem dX6_operations_23 : decode cX6_operations 23 = .ok (.iload_n 1, 1) := by decide +kernel
theorem dX6_operations_24 : decode cX6_operations 24 = .ok (.ireturn, 1) := by decide +kernel
set_option maxHeartbeats 4000000 in
set_option maxRecDepth 100000 in
theorem c6_operations (l : Launch) (hst : l.stackTraces = false)  (D : va_G) (cI : ClassId) (ob so ho sl : Nat) (dg dc dt : Nat → Nat) (z : LgS) (hz : Inv z) (zt : LgS) (hBt : zt.1.2 ≤ 8)  : GE l yX6_operations cX6_operations 2 6 144 D [[(ob, .inr (6, [.ref so, .ref ho, .ref sl, .ref (dg 0), .ref (dc 0), .ref (dt 0)]))], zL cI dg z, zL cI dt zt] [(cI, .int)] [.ref ob] (fun (r9 : Int32) (u9 : List va_W) => (c6ops z) = 0 ∧ r9 = (csV z) ∧ ∃ zt9 : LgS, (zt9.1.2 ≤ 8) ∧ u9 = [[(ob, .inr (6, [.ref so, .ref ho, .ref sl, .ref (dg 0), .ref (dc 0), .ref (dt 0)]))], zL cI dg z, zL cI dt zt9]) (fun (e9 : String) (u9 : List va_W) => ((e9 = xIS ∧ (c6ops z) = 1)) ∧ ∃ zt9 : LgS, (zt9.1.2 ≤ 8) ∧ u9 = [[(ob, .inr (6, [.ref so, .ref ho, .ref sl, .ref (dg 0), .ref (dc 0), .ref (dt 0)]))], zL cI dg z, zL cI dt zt9]) := by
  refine ge_of (by decide) rfl (Nat.le_of_ble_eq_true rfl) ?_
  intro p e s m below meth c ls H hX hEx hnt hr hlocks hK hN hE hSW hZ hP hD hS hl
  generalize gp_A (bw [[(ob, .inr (6, [.ref so, .ref ho, .ref sl, .ref (dg 0), .ref (dc 0), .ref (dt 0)]))], zL cI dg z, zL cI dt zt]) = A at hZ hD hS ⊢
  have hx := hX.1
  have hb := hX.2.1
  have hown := hX.2.2.2.1
  have hts := hX.2.2.2.2
  have hl : lv_has ls 2 [(0, .ref ob)] := hl
  refine lv_aload_n hx hb dX6_operations_0 rfl (lv_at hl 0 rfl) ?_
  refine lv_aload_n hx hb dX6_operations_1 rfl (lv_at hl 0 rfl) ?_
  refine va_get (D := D) (ci := 6) (v := .ref (dg 0)) (C := RX6) (T := TX6) (N := 6) hx hb hts u6_X6 hown hK hP 0 rfl rfl 3 (by decide) (hts _ (m6 260 rfl)) (fun _ h9 => h9) rfl dX6_operations_2 ?_
  refine bq_backi (bq_runV hX good6 (m6 31 rfl) (c6_costOfRecord l D cI ob so ho sl dg dc dt zt hBt dg z hz) q6_costOfRecord rfl (m6 303 rfl) (m6 304 rfl) (m6 305 rfl) ⟨Nat.le_of_ble_eq_true rfl, Nat.le_of_ble_eq_true rfl⟩ hK hN [0] rfl hP hD [0, 2, 1] (by decide) rfl (ci := 6) (q0 := 0) rfl rfl rfl hl.1 rfl (Nat.le_of_ble_eq_true rfl) dX6_operations_5 ⟨Nat.zero_le _, Nat.zero_le _⟩) hP hD hS [0, 2, 1] rfl (fun r u h => by obtain ⟨-, x1, hx2, rfl⟩ := h; rfl) (fun r9 u H locs hpost hP hD hS => ?_)
  obtain ⟨hr9, x1, hx2, rfl⟩ := hpost
  refine lv_as hr9 ?_
  have hP : va_P D vwCl (bw [[(ob, .inr (6, [.ref so, .ref ho, .ref sl, .ref (dg 0), .ref (dc 0), .ref (dt 0)]))], zL cI dg z, zL cI dt x1]) H := hP
  have hD : va_D A (bw [[(ob, .inr (6, [.ref so, .ref ho, .ref sl, .ref (dg 0), .ref (dc 0), .ref (dt 0)]))], zL cI dg z, zL cI dt x1]) := hD
  refine lv_istore_n (lv' := [(1, .int (csV z)), (0, .ref ob)]) hx hb dX6_operations_8 rfl hl (by decide) rfl (fun ls hl => ?_)
  refine lv_iload_n hx hb dX6_operations_9 rfl (lv_at hl 0 rfl) ?_
  refine lv_if_ne (tgt := 23) hx hb dX6_operations_10 (by decide) (fun c10_3 => ?_) (fun c10_3 => ?_)
  · skip
    refine lv_iload_n hx hb dX6_operations_23 rfl (lv_at hl 0 rfl) ?_
    exact ge_ret hX hr hlocks hS hP ⟨by rw [c6ops, if_neg c10_3], rfl, _, hx2, rfl⟩ (Nat.le_of_ble_eq_true rfl) (Nat.le_of_ble_eq_true rfl) dX6_operations_24
  · skip
    exact ge_tis hst hX hEx hnt hlocks hE hSW hZ hS hP (m6 274 rfl) (m6 275 rfl) (show (186, _) ∈ xT from List.mem_of_getElem? (i := 13) rfl) ⟨⟨rfl, by rw [c6ops, if_pos c10_3]⟩, _, hx2, rfl⟩ hl.1 dX6_operations_13 dX6_operations_16 dX6_operations_17 dX6_operations_19 dX6_operations_22 (Nat.le_of_ble_eq_true rfl) (Nat.le_of_ble_eq_true rfl) (Nat.le_of_ble_eq_true rfl) (Nat.le_of_ble_eq_true rfl) (Nat.le_of_ble_eq_true rfl) (Nat.le_of_ble_eq_true rfl)
