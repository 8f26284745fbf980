theorem dX6_load_0 : decode cX6_load 0 = .ok (.aload_n 0, 1) := by decide +kernel
theorem dX6_load_1 : decode cX6_load 1 = .ok (.getfield 12, 3) := by decide +kernel
theorem dX6_load_4 : decode cX6_load 4 = .ok (.invokevirtual 67, 3) := by decide +kernel
theorem dX6_load_7 : decode cX6_load 7 = .ok (.bipush (-9), 2) := by decide +kernel
theorem dX6_load_9 : decode cX6_load 9 = .ok (.if_icmp .eq 13, 3) := by decide +kernel
theorem dX6_load_12 : decode cX6_load 12 = .ok (.new 54, 3) := by decide +kernel
theorem dX6_load_15 : decode cX6_load 15 = .ok (.dup, 1) := by decide +kernel
theorem dX6_load_16 : decode cX6_load 16 = .ok (.ldc 70, 2) := by decide +kernel
theorem dX6_load_18 : decode cX6_load 18 = .ok (.invokespecial 58, 3) := by decide +kernel
theorem dX6_load_21 : decode cX6_load 21 = .ok (.athrow, 1) := by decide +kernel
theorem dX6_load_22 : decode cX6_load 22 = .ok (.aload_n 0, 1) := by decide +kernel
theorem dX6_load_23 : decode cX6_load 23 = .ok (.getfield 12, 3) := by decide +kernel
theorem dX6_load_26 : decode cX6_load 26 = .ok (.invokevirtual 72, 3) := by decide +kernel
theorem dX6_load_29 : decode cX6_load 29 = .ok (.pop, 1) := by decide +kernel
theorem dX6_load_30 : decode cX6_load 30 = .ok (.aload_n 0, 1) := by decide +kernel
theorem dX6_load_31 : decode cX6_load 31 = .ok (.getfield 33, 3) := by decide +kernel
theorem dX6_load_34 : decode cX6_load 34 = .ok (.aload_n 0, 1) := by decide +kernel
theorem dX6_load_35 : decode cX6_load 35 = .ok (.getfield 12, 3) := by decide +kernel
theorem dX6_load_38 : decode cX6_load 38 = .ok (.getfield 75, 3) := by decide +kernel
theorem dX6_load_41 : decode cX6_load 41 = .ok (.aload_n 0, 1) := by decide +kernel
theorem dX6_load_42 : decode cX6_load 42 = .ok (.getfield 12, 3) := by decide +kernel
theorem dX6_load_45 : decode cX6_load 45 = .ok (.getfield 79, 3) := by decide +kernel
theorem dX6_load_48 : decode cX6_load 48 = .ok (.invokevirtual 82, 3) := by decide +kernel
theorem dX6_load_51 : decode cX6_load 51 = .ok (.aload_n 0, 1) := by decide +kernel
theorem dX6_load_52 : decode cX6_load 52 = .ok (.getfield 19, 3) := by decide +kernel
theorem dX6_load_55 : decode cX6_load 55 = .ok (.invokevirtual 86, 3) := by decide +kernel
theorem dX6_load_58 : decode cX6_load 58 = .ok (.aload_n 0, 1) := by decide +kernel
theorem dX6_load_59 : decode cX6_load 59 = .ok (.getfield 26, 3) := by decide +kernel
theorem dX6_load_62 : decode cX6_load 62 = .ok (.invokevirtual 89, 3) := by decide +kernel
theorem dX6_load_65 : decode cX6_load 65 = .ok (.iconst 0, 1) := by decide +kernel
theorem dX6_load_66 : decode cX6_load 66 = .ok (.istore_n 1, 1) := by decide +kernel
theorem dX6_load_67 : decode cX6_load 67 = .ok (.iconst 0, 1) := by decide +kernel
theorem dX6_load_68 : decode cX6_load 68 = .ok (.istore_n 2, 1) := by decide +kernel
theorem dX6_load_69 : decode cX6_load 69 = .ok (.iload_n 2, 1) := by decide +kernel
theorem dX6_load_70 : decode cX6_load 70 = .ok (.bipush 90, 2) := by decide +kernel
theorem dX6_load_72 : decode cX6_load 72 = .ok (.if_icmp .ge 62, 3) := by decide +kernel
theorem dX6_load_75 : decode cX6_load 75 = .ok (.aload_n 0, 1) := by decide +kernel
theorem dX6_load_76 : decode cX6_load 76 = .ok (.getfield 12, 3) := by decide +kernel
theorem dX6_load_79 : decode cX6_load 79 = .ok (.invokevirtual 91, 3) := by decide +kernel
theorem dX6_load_82 : decode cX6_load 82 = .ok (.ifCond .eq 52, 3) := by decide +kernel
theorem dX6_load_85 : decode cX6_load 85 = .ok (.aload_n 0, 1) := by decide +kernel
theorem dX6_load_86 : decode cX6_load 86 = .ok (.getfield 12, 3) := by decide +kernel
theorem dX6_load_89 : decode cX6_load 89 = .ok (.invokevirtual 94, 3) := by decide +kernel
theorem dX6_load_92 : decode cX6_load 92 = .ok (.pop, 1) := by decide +kernel
theorem dX6_load_93 : decode cX6_load 93 = .ok (.aload_n 0, 1) := by decide +kernel
theorem dX6_load_94 : decode cX6_load 94 = .ok (.aload_n 0, 1) := by decide +kernel
theorem dX6_load_95 : decode cX6_load 95 = .ok (.getfield 33, 3) := by decide +kernel
theorem dX6_load_98 : decode cX6_load 98 = .ok (.aload_n 0, 1) := by decide +kernel
theorem dX6_load_99 : decode cX6_load 99 = .ok (.getfield 12, 3) := by decide +kernel
theorem dX6_load_102 : decode cX6_load 102 = .ok (.getfield 97, 3) := by decide +kernel
theorem dX6_load_105 : decode cX6_load 105 = .ok (.aload_n 0, 1) := by decide +kernel
theorem dX6_load_106 : decode cX6_load 106 = .ok (.getfield 12, 3) := by decide +kernel
theorem dX6_load_109 : decode cX6_load 109 = .ok (.getfield 100, 3) := by decide +kernel
theorem dX6_load_112 : decode cX6_load 112 = .ok (.aload_n 0, 1) := by decide +kernel
theorem dX6_load_113 : decode cX6_load 113 = .ok (.getfield 12, 3) := by decide +kernel
theorem dX6_load_116 : decode cX6_load 116 = .ok (.getfield 103, 3) := by decide +kernel
theorem dX6_load_119 : decode cX6_load 119 = .ok (.invokevirtual 106, 3) := by decide +kernel
theorem dX6_load_122 : decode cX6_load 122 = .ok (.ifCond .ne 6, 3) := by decide +kernel
theorem dX6_load_125 : decode cX6_load 125 = .ok (.iinc 1 1, 3) := by decide +kernel
theorem dX6_load_128 : decode cX6_load 128 = .ok (.iinc 2 1, 3) := by decide +kernel
theorem dX6_load_131 : decode cX6_load 131 = .ok (.goto (-62), 3) := by decide +kernel
theorem dX6_load_134 : decode cX6_load 134 = .ok (.iload_n 1, 1) := by decide +kernel
theorem dX6_load_135 : decode cX6_load 135 = .ok (.ireturn, 1) := by decide +kernel
set_option maxHeartbeats 4000000 in
set_option maxRecDepth 100000 in
theorem c6_load (l : Launch) (hst : l.stackTraces = false)  (D : va_G) (cI cZ : ClassId) (ob so ho sl : Nat) (dg dc dt : Nat → Nat) (tx : Nat) (t : Nat → Int32) (n : Nat) (hn : n ≤ 90) (q : Nat) (hq : q ≤ 90) (v : Nat → Int32) (z : LgS) (hz : Inv z) (zt : LgS) (hBt : zt.1.2 ≤ 8) (sa nx ct sb ua : Nat) (uf : Nat → Int32)  : GE l yX6_load cX6_load 3 6 169 D [[(ob, .inr (6, [.ref so, .ref ho, .ref sl, .ref (dg 0), .ref (dc 0), .ref (dt 0)]))], zS cI so tx t n q v, zL cI dg z, zL cI dt zt, [(ho, .inr (1, [.ref sa, .int (nI (nx)), .int (nI (ct))]))], [(sl, .inr (3, [.ref sb, .ref ua]))], [(ua, .inl (cZ, 2, .inl uf))]] [(cI, .int), (cZ, .boolean)] [.ref ob] (fun (r9 : Int32) (u9 : List va_W) => (c6ld t n) = 0 ∧ r9 = (nI ((ldR t n z).2)) ∧ ∃ q9 : Nat, ∃ v9 : Nat → Int32, ∃ zt9 : LgS, (q9 ≤ 90) ∧ (zt9.1.2 ≤ 8) ∧ u9 = [[(ob, .inr (6, [.ref so, .ref ho, .ref sl, .ref (dg 0), .ref (dc 0), .ref (dt 0)]))], zS cI so tx t n q9 v9, zL cI dg ((ldR t n z).1), zL cI dt zt9, [(ho, .inr (1, [.ref sa, .int (nI (nx)), .int (0)]))], [(sl, .inr (3, [.ref sb, .ref ua]))], [(ua, .inl (cZ, 2, .inl (upd (upd uf 0 0) 1 0)))]]) (fun (e9 : String) (u9 : List va_W) => ((e9 = xIS ∧ (c6ld t n) = 1)) ∧ ∃ q9 : Nat, ∃ v9 : Nat → Int32, (q9 ≤ 90) ∧ u9 = [[(ob, .inr (6, [.ref so, .ref ho, .ref sl, .ref (dg 0), .ref (dc 0), .ref (dt 0)]))], zS cI so tx t n q9 v9, zL cI dg z, zL cI dt zt, [(ho, .inr (1, [.ref sa, .int (nI (nx)), .int (nI (ct))]))], [(sl, .inr (3, [.ref sb, .ref ua]))], [(ua, .inl (cZ, 2, .inl uf))]]) := by
  refine ge_of (by decide) rfl (Nat.le_of_ble_eq_true rfl) ?_
  intro p e s m below meth c ls H hX hEx hnt hr hlocks hK hN hE hSW hZ hP hD hS hl
  generalize gp_A (bw [[(ob, .inr (6, [.ref so, .ref ho, .ref sl, .ref (dg 0), .ref (dc 0), .ref (dt 0)]))], zS cI so tx t n q v, zL cI dg z, zL cI dt zt, [(ho, .inr (1, [.ref sa, .int (nI (nx)), .int (nI (ct))]))], [(sl, .inr (3, [.ref sb, .ref ua]))], [(ua, .inl (cZ, 2, .inl uf))]]) = A at hZ hD hS ⊢
  have hx := hX.1
  have hb := hX.2.1
  have hown := hX.2.2.2.1
  have hts := hX.2.2.2.2
  have hl : lv_has ls 3 [(0, .ref ob)] := hl
  refine lv_aload_n hx hb dX6_load_0 rfl (lv_at hl 0 rfl) ?_
  refine va_get (D := D) (ci := 6) (v := .ref so) (C := RX6) (T := TX6) (N := 6) hx hb hts u6_X6 hown hK hP 0 rfl rfl 0 (by decide) (hts _ (m6 250 rfl)) (fun _ h9 => h9) rfl dX6_load_1 ?_
  refine bq_backi (bq_runV hX good6 (m6 221 rfl) (b4_firstError l D cI so tx t n hn q (by omega) v ) q4_firstError rfl (m6 288 rfl) (m6 289 rfl) (m6 290 rfl) ⟨Nat.le_of_ble_eq_true rfl, Nat.le_of_ble_eq_true rfl⟩ hK hN [0] rfl hP hD [1] (by decide) rfl (ci := 4) (q0 := 0) rfl rfl rfl hl.1 rfl (Nat.le_of_ble_eq_true rfl) dX6_load_4 ⟨Nat.zero_le _, Nat.zero_le _⟩) hP hD hS [1] rfl (fun r u h => by obtain ⟨-, x1, rfl⟩ := h; rfl) (fun r9 u H locs hpost hP hD hS => ?_)
  obtain ⟨hr9, x1, rfl⟩ := hpost
  refine lv_as hr9 ?_
  have hP : va_P D vwCl (bw [[(ob, .inr (6, [.ref so, .ref ho, .ref sl, .ref (dg 0), .ref (dc 0), .ref (dt 0)]))], zS cI so tx t n ((feR t n).2) x1, zL cI dg z, zL cI dt zt, [(ho, .inr (1, [.ref sa, .int (nI (nx)), .int (nI (ct))]))], [(sl, .inr (3, [.ref sb, .ref ua]))], [(ua, .inl (cZ, 2, .inl uf))]]) H := hP
  have hD : va_D A (bw [[(ob, .inr (6, [.ref so, .ref ho, .ref sl, .ref (dg 0), .ref (dc 0), .ref (dt 0)]))], zS cI so tx t n ((feR t n).2) x1, zL cI dg z, zL cI dt zt, [(ho, .inr (1, [.ref sa, .int (nI (nx)), .int (nI (ct))]))], [(sl, .inr (3, [.ref sb, .ref ua]))], [(ua, .inl (cZ, 2, .inl uf))]]) := hD
  refine lv_bipush (v := (-9)) hx hb dX6_load_7 (by decide) ?_
  refine lv_icmp_eq (tgt := 22) hx hb dX6_load_9 (by decide) (fun c9_2 => ?_) (fun c9_2 => ?_)
  · skip
    refine lv_aload_n hx hb dX6_load_22 rfl (lv_at hl 0 rfl) ?_
    refine va_get (D := D) (ci := 6) (v := .ref so) (C := RX6) (T := TX6) (N := 6) hx hb hts u6_X6 hown hK hP 0 rfl rfl 0 (by decide) (hts _ (m6 250 rfl)) (fun _ h9 => h9) rfl dX6_load_23 ?_
    have hfl9 := feR_le (t := t) (n := n)
    refine bq_backi (bq_runV hX good6 (m6 221 rfl) (b4_readChip l D cI so tx t n hn ((feR t n).2) (by omega) x1 ) q4_readChip rfl (m6 328 rfl) (m6 236 rfl) (m6 237 rfl) ⟨Nat.le_of_ble_eq_true rfl, Nat.le_of_ble_eq_true rfl⟩ hK hN [0] rfl hP hD [1] (by decide) rfl (ci := 4) (q0 := 0) rfl rfl rfl hl.1 rfl (Nat.le_of_ble_eq_true rfl) dX6_load_26 ⟨Nat.zero_le _, Nat.zero_le _⟩) hP hD hS [1] rfl (fun r u h => by obtain ⟨-, rfl⟩ := h; rfl) (fun r9 u H locs hpost hP hD hS => ?_)
    obtain ⟨hr9, rfl⟩ := hpost
    refine lv_as hr9 ?_
    have hP : va_P D vwCl (bw [[(ob, .inr (6, [.ref so, .ref ho, .ref sl, .ref (dg 0), .ref (dc 0), .ref (dt 0)]))], zS cI so tx t n ((rch t n (x1 0) (x1 1)).1.2) (upd (upd x1 0 (rch t n (x1 0) (x1 1)).2.1) 1 (rch t n (x1 0) (x1 1)).2.2), zL cI dg z, zL cI dt zt, [(ho, .inr (1, [.ref sa, .int (nI (nx)), .int (nI (ct))]))], [(sl, .inr (3, [.ref sb, .ref ua]))], [(ua, .inl (cZ, 2, .inl uf))]]) H := hP
    have hD : va_D A (bw [[(ob, .inr (6, [.ref so, .ref ho, .ref sl, .ref (dg 0), .ref (dc 0), .ref (dt 0)]))], zS cI so tx t n ((rch t n (x1 0) (x1 1)).1.2) (upd (upd x1 0 (rch t n (x1 0) (x1 1)).2.1) 1 (rch t n (x1 0) (x1 1)).2.2), zL cI dg z, zL cI dt zt, [(ho, .inr (1, [.ref sa, .int (nI (nx)), .int (nI (ct))]))], [(sl, .inr (3, [.ref sb, .ref ua]))], [(ua, .inl (cZ, 2, .inl uf))]]) := hD
    obtain ⟨hch, hb3, hb8, hl1, hl9, hq9, hfe0⟩ := ld_chip hn (Classical.not_not.mp (fun y => y c9_2)) (x1 0) (x1 1)
    rw [hch] at hP hD
    have hP : va_P D vwCl (bw [[(ob, .inr (6, [.ref so, .ref ho, .ref sl, .ref (dg 0), .ref (dc 0), .ref (dt 0)]))], zS cI so tx t n (chQ t n) (upd (upd x1 0 (nI (chB t n))) 1 (nI (chL t n))), zL cI dg z, zL cI dt zt, [(ho, .inr (1, [.ref sa, .int (nI (nx)), .int (nI (ct))]))], [(sl, .inr (3, [.ref sb, .ref ua]))], [(ua, .inl (cZ, 2, .inl uf))]]) H := hP
    have hD : va_D A (bw [[(ob, .inr (6, [.ref so, .ref ho, .ref sl, .ref (dg 0), .ref (dc 0), .ref (dt 0)]))], zS cI so tx t n (chQ t n) (upd (upd x1 0 (nI (chB t n))) 1 (nI (chL t n))), zL cI dg z, zL cI dt zt, [(ho, .inr (1, [.ref sa, .int (nI (nx)), .int (nI (ct))]))], [(sl, .inr (3, [.ref sb, .ref ua]))], [(ua, .inl (cZ, 2, .inl uf))]]) := hD
    refine lv_pop hx hb dX6_load_29 rfl ?_
    refine lv_aload_n hx hb dX6_load_30 rfl (lv_at hl 0 rfl) ?_
    refine va_get (D := D) (ci := 6) (v := .ref (dg 0)) (C := RX6) (T := TX6) (N := 6) hx hb hts u6_X6 hown hK hP 0 rfl rfl 3 (by decide) (hts _ (m6 260 rfl)) (fun _ h9 => h9) rfl dX6_load_31 ?_
    refine lv_aload_n hx hb dX6_load_34 rfl (lv_at hl 0 rfl) ?_
    refine va_get (D := D) (ci := 6) (v := .ref so) (C := RX6) (T := TX6) (N := 6) hx hb hts u6_X6 hown hK hP 0 rfl rfl 0 (by decide) (hts _ (m6 250 rfl)) (fun _ h9 => h9) rfl dX6_load_35 ?_
    refine va_get (D := D) (ci := 4) (v := .int ((upd (upd x1 0 (nI (chB t n))) 1 (nI (chL t n))) 0)) (C := RX4) (T := TX4) (N := 8) hx hb hts u6_X4 hown hK hP 1 rfl rfl 3 (by decide) (hts _ (m6 323 rfl)) (fun _ h9 => h9) rfl dX6_load_38 ?_
    refine lv_as (show (upd (upd x1 0 (nI (chB t n))) 1 (nI (chL t n))) 0 = nI (chB t n) from rfl) ?_
    refine lv_aload_n hx hb dX6_load_41 rfl (lv_at hl 0 rfl) ?_
    refine va_get (D := D) (ci := 6) (v := .ref so) (C := RX6) (T := TX6) (N := 6) hx hb hts u6_X6 hown hK hP 0 rfl rfl 0 (by decide) (hts _ (m6 250 rfl)) (fun _ h9 => h9) rfl dX6_load_42 ?_
    refine va_get (D := D) (ci := 4) (v := .int ((upd (upd x1 0 (nI (chB t n))) 1 (nI (chL t n))) 1)) (C := RX4) (T := TX4) (N := 8) hx hb hts u6_X4 hown hK hP 1 rfl rfl 4 (by decide) (hts _ (m6 324 rfl)) (fun _ h9 => h9) rfl dX6_load_45 ?_
    refine lv_as (show (upd (upd x1 0 (nI (chB t n))) 1 (nI (chL t n))) 1 = nI (chL t n) from rfl) ?_
    refine bq_backv (bq_runV hX good6 (m6 83 rfl) (b2_renew l D cI dg z (inv_B hz) (chB t n) (by omega) (nI (chL t n))) q2_renew rfl (m6 329 rfl) (m6 81 rfl) (m6 82 rfl) ⟨Nat.le_of_ble_eq_true rfl, Nat.le_of_ble_eq_true rfl⟩ hK hN [0] rfl hP hD [2] (by decide) rfl (ci := 2) (q0 := 0) rfl rfl rfl hl.1 rfl (Nat.le_of_ble_eq_true rfl) dX6_load_48 ⟨Nat.zero_le _, Nat.zero_le _⟩) hP hD hS [2] rfl (fun u h => by rw [h]; rfl) (fun u H locs hpost hP hD hS => ?_)
    subst hpost
    have hP : va_P D vwCl (bw [[(ob, .inr (6, [.ref so, .ref ho, .ref sl, .ref (dg 0), .ref (dc 0), .ref (dt 0)]))], zS cI so tx t n (chQ t n) (upd (upd x1 0 (nI (chB t n))) 1 (nI (chL t n))), zL cI dg (zNew (chB t n) (nI (chL t n)) z), zL cI dt zt, [(ho, .inr (1, [.ref sa, .int (nI (nx)), .int (nI (ct))]))], [(sl, .inr (3, [.ref sb, .ref ua]))], [(ua, .inl (cZ, 2, .inl uf))]]) H := hP
    have hD : va_D A (bw [[(ob, .inr (6, [.ref so, .ref ho, .ref sl, .ref (dg 0), .ref (dc 0), .ref (dt 0)]))], zS cI so tx t n (chQ t n) (upd (upd x1 0 (nI (chB t n))) 1 (nI (chL t n))), zL cI dg (zNew (chB t n) (nI (chL t n)) z), zL cI dt zt, [(ho, .inr (1, [.ref sa, .int (nI (nx)), .int (nI (ct))]))], [(sl, .inr (3, [.ref sb, .ref ua]))], [(ua, .inl (cZ, 2, .inl uf))]]) := hD
    refine lv_aload_n hx hb dX6_load_51 rfl (lv_at hl 0 rfl) ?_
    refine va_get (D := D) (ci := 6) (v := .ref ho) (C := RX6) (T := TX6) (N := 6) hx hb hts u6_X6 hown hK hP 0 rfl rfl 1 (by decide) (hts _ (m6 254 rfl)) (fun _ h9 => h9) rfl dX6_load_52 ?_
    refine bq_backv (bq_runV hX good6 (m6 253 rfl) (c1_forget l D ho sa nx ct) q1_forget rfl (m6 330 rfl) (m6 331 rfl) (m6 332 rfl) ⟨Nat.le_of_ble_eq_true rfl, Nat.le_of_ble_eq_true rfl⟩ hK hN [] rfl hP hD [4] (by decide) rfl (ci := 1) (q0 := 0) rfl rfl rfl hl.1 rfl (Nat.le_of_ble_eq_true rfl) dX6_load_55 ⟨Nat.zero_le _, Nat.zero_le _⟩) hP hD hS [4] rfl (fun u h => by rw [h]; rfl) (fun u H locs hpost hP hD hS => ?_)
    subst hpost
    have hP : va_P D vwCl (bw [[(ob, .inr (6, [.ref so, .ref ho, .ref sl, .ref (dg 0), .ref (dc 0), .ref (dt 0)]))], zS cI so tx t n (chQ t n) (upd (upd x1 0 (nI (chB t n))) 1 (nI (chL t n))), zL cI dg (zNew (chB t n) (nI (chL t n)) z), zL cI dt zt, [(ho, .inr (1, [.ref sa, .int (nI (nx)), .int (0)]))], [(sl, .inr (3, [.ref sb, .ref ua]))], [(ua, .inl (cZ, 2, .inl uf))]]) H := hP
    have hD : va_D A (bw [[(ob, .inr (6, [.ref so, .ref ho, .ref sl, .ref (dg 0), .ref (dc 0), .ref (dt 0)]))], zS cI so tx t n (chQ t n) (upd (upd x1 0 (nI (chB t n))) 1 (nI (chL t n))), zL cI dg (zNew (chB t n) (nI (chL t n)) z), zL cI dt zt, [(ho, .inr (1, [.ref sa, .int (nI (nx)), .int (0)]))], [(sl, .inr (3, [.ref sb, .ref ua]))], [(ua, .inl (cZ, 2, .inl uf))]]) := hD
    refine lv_aload_n hx hb dX6_load_58 rfl (lv_at hl 0 rfl) ?_
    refine va_get (D := D) (ci := 6) (v := .ref sl) (C := RX6) (T := TX6) (N := 6) hx hb hts u6_X6 hown hK hP 0 rfl rfl 2 (by decide) (hts _ (m6 258 rfl)) (fun _ h9 => h9) rfl dX6_load_59 ?_
    refine bq_backv (bq_runV hX good6 (m6 257 rfl) (c3_empty l D cZ sl sb ua uf) q3_empty rfl (m6 334 rfl) (m6 335 rfl) (m6 336 rfl) ⟨Nat.le_of_ble_eq_true rfl, Nat.le_of_ble_eq_true rfl⟩ hK hN [1] rfl hP hD [5, 6] (by decide) rfl (ci := 3) (q0 := 0) rfl rfl rfl hl.1 rfl (Nat.le_of_ble_eq_true rfl) dX6_load_62 ⟨Nat.zero_le _, Nat.zero_le _⟩) hP hD hS [5, 6] rfl (fun u h => by rw [h]; rfl) (fun u H locs hpost hP hD hS => ?_)
    subst hpost
    have hP : va_P D vwCl (bw [[(ob, .inr (6, [.ref so, .ref ho, .ref sl, .ref (dg 0), .ref (dc 0), .ref (dt 0)]))], zS cI so tx t n (chQ t n) (upd (upd x1 0 (nI (chB t n))) 1 (nI (chL t n))), zL cI dg (zNew (chB t n) (nI (chL t n)) z), zL cI dt zt, [(ho, .inr (1, [.ref sa, .int (nI (nx)), .int (0)]))], [(sl, .inr (3, [.ref sb, .ref ua]))], [(ua, .inl (cZ, 2, .inl (upd (upd uf 0 0) 1 0)))]]) H := hP
    have hD : va_D A (bw [[(ob, .inr (6, [.ref so, .ref ho, .ref sl, .ref (dg 0), .ref (dc 0), .ref (dt 0)]))], zS cI so tx t n (chQ t n) (upd (upd x1 0 (nI (chB t n))) 1 (nI (chL t n))), zL cI dg (zNew (chB t n) (nI (chL t n)) z), zL cI dt zt, [(ho, .inr (1, [.ref sa, .int (nI (nx)), .int (0)]))], [(sl, .inr (3, [.ref sb, .ref ua]))], [(ua, .inl (cZ, 2, .inl (upd (upd uf 0 0) 1 0)))]]) := hD
    have hft := fe_true (Classical.not_not.mp (fun y => y c9_2)) hn
    refine lv_iconst (v := 0) hx hb dX6_load_65 (by decide) ?_
    refine lv_istore_n (lv' := [(1, .int (0)), (0, .ref ob)]) hx hb dX6_load_66 rfl hl (by decide) rfl (fun ls hl => ?_)
    refine lv_iconst (v := 0) hx hb dX6_load_67 (by decide) ?_
    refine lv_istore_n (lv' := [(2, .int (0)), (1, .int (0)), (0, .ref ob)]) hx hb dX6_load_68 rfl hl (by decide) rfl (fun ls hl => ?_)
    have LP69 : ∀ n9 : Nat, ∀ (i9 : Nat) (q8 : Nat) (v8 : Nat → Int32) (z8 : LgS) (zt8 : LgS) (l8 : Nat), (hi : i9 ≤ 90) → (hq8 : q8 ≤ n) → (hI8 : Inv z8) → (hB8t : zt8.1.2 ≤ 8) → (hfe8 : feL t n (90 - i9) (true, q8) = feR t n) → (hs8 : ldz t n (90 - i9) q8 z8 l8 = ldR t n z) → 90 - i9 < n9 → ∀ (H : Heap) (locs : List Loc), va_P D vwCl (bw [[(ob, .inr (6, [.ref so, .ref ho, .ref sl, .ref (dg 0), .ref (dc 0), .ref (dt 0)]))], zS cI so tx t n q8 v8, zL cI dg z8, zL cI dt zt8, [(ho, .inr (1, [.ref sa, .int (nI (nx)), .int (0)]))], [(sl, .inr (3, [.ref sb, .ref ua]))], [(ua, .inl (cZ, 2, .inl (upd (upd uf 0 0) 1 0)))]]) H → va_D A (bw [[(ob, .inr (6, [.ref so, .ref ho, .ref sl, .ref (dg 0), .ref (dc 0), .ref (dt 0)]))], zS cI so tx t n q8 v8, zL cI dg z8, zL cI dt zt8, [(ho, .inr (1, [.ref sa, .int (nI (nx)), .int (0)]))], [(sl, .inr (3, [.ref sb, .ref ua]))], [(ua, .inl (cZ, 2, .inl (upd (upd uf 0 0) 1 0)))]]) → va_S A s.heap H locs → ∀ ls : Array Slot, lv_has ls 3 [(0, .ref ob), (1, .int (nI (l8))), (2, .int (nI (i9)))] → W p l e ({ frames := 6, cells := 1, slots := 6, locals := 169 } : Room) s m ([.ref ob] : List Value).toArray below meth c H locs 0 0 (vx_MQ below (va_Qi (fun (r9 : Int32) (u9 : List va_W) => (c6ld t n) = 0 ∧ r9 = (nI ((ldR t n z).2)) ∧ ∃ q9 : Nat, ∃ v9 : Nat → Int32, ∃ zt9 : LgS, (q9 ≤ 90) ∧ (zt9.1.2 ≤ 8) ∧ u9 = [[(ob, .inr (6, [.ref so, .ref ho, .ref sl, .ref (dg 0), .ref (dc 0), .ref (dt 0)]))], zS cI so tx t n q9 v9, zL cI dg ((ldR t n z).1), zL cI dt zt9, [(ho, .inr (1, [.ref sa, .int (nI (nx)), .int (0)]))], [(sl, .inr (3, [.ref sb, .ref ua]))], [(ua, .inl (cZ, 2, .inl (upd (upd uf 0 0) 1 0)))]]) (fun u t => va_P D vwCl (bw u) t.heap) A) (ge_X (fun (e9 : String) (u9 : List va_W) => ((e9 = xIS ∧ (c6ld t n) = 1)) ∧ ∃ q9 : Nat, ∃ v9 : Nat → Int32, (q9 ≤ 90) ∧ u9 = [[(ob, .inr (6, [.ref so, .ref ho, .ref sl, .ref (dg 0), .ref (dc 0), .ref (dt 0)]))], zS cI so tx t n q9 v9, zL cI dg z, zL cI dt zt, [(ho, .inr (1, [.ref sa, .int (nI (nx)), .int (nI (ct))]))], [(sl, .inr (3, [.ref sb, .ref ua]))], [(ua, .inl (cZ, 2, .inl uf))]]) D A) ([.ref ob] : List Value).toArray s 1 6 A) (F0 m 69 ls []) := by
      intro n9
      induction n9 with
      | zero => intros; omega
      | succ n9 ih69 =>
        intro i9 q8 v8 z8 zt8 l8 hi hq8 hI8 hB8t hfe8 hs8 hm9 H locs hP hD hS ls hl
        refine lv_iload_n hx hb dX6_load_69 rfl (lv_at hl 2 rfl) ?_
        refine lv_bipush (v := 90) hx hb dX6_load_70 (by decide) ?_
        refine lv_icmp_ge (tgt := 134) hx hb dX6_load_72 (by decide) (fun c72_3 => ?_) (fun c72_3 => ?_)
        · skip
          have c72_3 := cn_le (a := 90) (b := i9) (by omega) (by omega) c72_3
          rw [show 90 - i9 = 0 by omega, ldz] at hs8
          refine lv_iload_n hx hb dX6_load_134 rfl (lv_at hl 1 rfl) ?_
          have hP : va_P D vwCl (bw [[(ob, .inr (6, [.ref so, .ref ho, .ref sl, .ref (dg 0), .ref (dc 0), .ref (dt 0)]))], zS cI so tx t n q8 v8, zL cI dg ((ldR t n z).1), zL cI dt zt8, [(ho, .inr (1, [.ref sa, .int (nI (nx)), .int (0)]))], [(sl, .inr (3, [.ref sb, .ref ua]))], [(ua, .inl (cZ, 2, .inl (upd (upd uf 0 0) 1 0)))]]) H := by
            rw [show ((ldR t n z).1) = z8 from by rw [← hs8]]
            exact hP
          have hD : va_D A (bw [[(ob, .inr (6, [.ref so, .ref ho, .ref sl, .ref (dg 0), .ref (dc 0), .ref (dt 0)]))], zS cI so tx t n q8 v8, zL cI dg ((ldR t n z).1), zL cI dt zt8, [(ho, .inr (1, [.ref sa, .int (nI (nx)), .int (0)]))], [(sl, .inr (3, [.ref sb, .ref ua]))], [(ua, .inl (cZ, 2, .inl (upd (upd uf 0 0) 1 0)))]]) := by
            rw [show ((ldR t n z).1) = z8 from by rw [← hs8]]
            exact hD
          exact ge_ret hX hr hlocks hS hP ⟨by rw [c6ld, if_pos (Classical.not_not.mp (fun y => y c9_2))], by rw [← hs8], _, _, _, (by omega), hB8t, rfl⟩ (Nat.le_of_ble_eq_true rfl) (Nat.le_of_ble_eq_true rfl) dX6_load_135
        · skip
          have c72_3 := cn_nle (a := 90) (b := i9) (by omega) (by omega) c72_3
          refine lv_aload_n hx hb dX6_load_75 rfl (lv_at hl 0 rfl) ?_
          refine va_get (D := D) (ci := 6) (v := .ref so) (C := RX6) (T := TX6) (N := 6) hx hb hts u6_X6 hown hK hP 0 rfl rfl 0 (by decide) (hts _ (m6 250 rfl)) (fun _ h9 => h9) rfl dX6_load_76 ?_
          refine bq_readV hX good6 (m6 221 rfl) (b4_hasMore l D cI so tx t n hn q8 (by omega) v8 ) q4_hasMore rfl (m6 338 rfl) (m6 240 rfl) (m6 241 rfl) ⟨Nat.le_of_ble_eq_true rfl, Nat.le_of_ble_eq_true rfl⟩ hK hN [0] rfl hP [1] rfl (ci := 4) (q0 := 0) rfl rfl rfl hS hl.1 rfl (Nat.le_of_ble_eq_true rfl) dX6_load_79 ⟨Nat.zero_le _, Nat.zero_le _⟩ (fun H locs hP hS => ?_)
          refine lv_if_eq (tgt := 134) hx hb dX6_load_82 (by decide) (fun c82_4 => ?_) (fun c82_4 => ?_)
          · skip
            have c82_4 := bI_f c82_4
            obtain ⟨mq, hm0⟩ : ∃ mq, 90 - i9 = mq + 1 := ⟨89 - i9, by omega⟩
            rw [hm0, ldz, if_neg c82_4] at hs8
            refine lv_iload_n hx hb dX6_load_134 rfl (lv_at hl 1 rfl) ?_
            have hP : va_P D vwCl (bw [[(ob, .inr (6, [.ref so, .ref ho, .ref sl, .ref (dg 0), .ref (dc 0), .ref (dt 0)]))], zS cI so tx t n q8 v8, zL cI dg ((ldR t n z).1), zL cI dt zt8, [(ho, .inr (1, [.ref sa, .int (nI (nx)), .int (0)]))], [(sl, .inr (3, [.ref sb, .ref ua]))], [(ua, .inl (cZ, 2, .inl (upd (upd uf 0 0) 1 0)))]]) H := by
              rw [show ((ldR t n z).1) = z8 from by rw [← hs8]]
              exact hP
            have hD : va_D A (bw [[(ob, .inr (6, [.ref so, .ref ho, .ref sl, .ref (dg 0), .ref (dc 0), .ref (dt 0)]))], zS cI so tx t n q8 v8, zL cI dg ((ldR t n z).1), zL cI dt zt8, [(ho, .inr (1, [.ref sa, .int (nI (nx)), .int (0)]))], [(sl, .inr (3, [.ref sb, .ref ua]))], [(ua, .inl (cZ, 2, .inl (upd (upd uf 0 0) 1 0)))]]) := by
              rw [show ((ldR t n z).1) = z8 from by rw [← hs8]]
              exact hD
            exact ge_ret hX hr hlocks hS hP ⟨by rw [c6ld, if_pos (Classical.not_not.mp (fun y => y c9_2))], by rw [← hs8], _, _, _, (by omega), hB8t, rfl⟩ (Nat.le_of_ble_eq_true rfl) (Nat.le_of_ble_eq_true rfl) dX6_load_135
          · skip
            have c82_4 := bI_t c82_4
            refine lv_aload_n hx hb dX6_load_85 rfl (lv_at hl 0 rfl) ?_
            refine va_get (D := D) (ci := 6) (v := .ref so) (C := RX6) (T := TX6) (N := 6) hx hb hts u6_X6 hown hK hP 0 rfl rfl 0 (by decide) (hts _ (m6 250 rfl)) (fun _ h9 => h9) rfl dX6_load_86 ?_
            obtain ⟨mq, hm⟩ : ∃ mq, 90 - i9 = mq + 1 := ⟨89 - i9, by omega⟩
            have hm3 : mq = 90 - (i9 + 1) := by omega
            obtain ⟨hrc, hc1, hc9, hk9, hn9, hj9, hqn9, hfe9⟩ := ld_cmd (m := mq) (q := q8) (by rw [← hm, hfe8]; exact hft) c82_4 (v8 3) (v8 4)
            refine bq_backi (bq_runV hX good6 (m6 221 rfl) (b4_readCommand l D cI so tx t n hn q8 (by omega) v8 ) q4_readCommand rfl (m6 339 rfl) (m6 244 rfl) (m6 245 rfl) ⟨Nat.le_of_ble_eq_true rfl, Nat.le_of_ble_eq_true rfl⟩ hK hN [0] rfl hP hD [1] (by decide) rfl (ci := 4) (q0 := 0) rfl rfl rfl hl.1 rfl (Nat.le_of_ble_eq_true rfl) dX6_load_89 ⟨Nat.zero_le _, Nat.zero_le _⟩) hP hD hS [1] rfl (fun r u h => by obtain ⟨-, rfl⟩ := h; rfl) (fun r9 u H locs hpost hP hD hS => ?_)
            obtain ⟨hr9, rfl⟩ := hpost
            refine lv_as hr9 ?_
            have hP : va_P D vwCl (bw [[(ob, .inr (6, [.ref so, .ref ho, .ref sl, .ref (dg 0), .ref (dc 0), .ref (dt 0)]))], zS cI so tx t n ((rcF t n q8 (v8 3) (v8 4)).1.2) (upd (upd (upd v8 2 (rcF t n q8 (v8 3) (v8 4)).2.1) 3 (rcF t n q8 (v8 3) (v8 4)).2.2.1) 4 (rcF t n q8 (v8 3) (v8 4)).2.2.2), zL cI dg z8, zL cI dt zt8, [(ho, .inr (1, [.ref sa, .int (nI (nx)), .int (0)]))], [(sl, .inr (3, [.ref sb, .ref ua]))], [(ua, .inl (cZ, 2, .inl (upd (upd uf 0 0) 1 0)))]]) H := hP
            have hD : va_D A (bw [[(ob, .inr (6, [.ref so, .ref ho, .ref sl, .ref (dg 0), .ref (dc 0), .ref (dt 0)]))], zS cI so tx t n ((rcF t n q8 (v8 3) (v8 4)).1.2) (upd (upd (upd v8 2 (rcF t n q8 (v8 3) (v8 4)).2.1) 3 (rcF t n q8 (v8 3) (v8 4)).2.2.1) 4 (rcF t n q8 (v8 3) (v8 4)).2.2.2), zL cI dg z8, zL cI dt zt8, [(ho, .inr (1, [.ref sa, .int (nI (nx)), .int (0)]))], [(sl, .inr (3, [.ref sb, .ref ua]))], [(ua, .inl (cZ, 2, .inl (upd (upd uf 0 0) 1 0)))]]) := hD
            rw [hrc] at hP hD
            have hP : va_P D vwCl (bw [[(ob, .inr (6, [.ref so, .ref ho, .ref sl, .ref (dg 0), .ref (dc 0), .ref (dt 0)]))], zS cI so tx t n (rcQ t n q8) (upd (upd (upd v8 2 (nI (rcC t n q8))) 3 (nI (rcK t n q8))) 4 (rcX t n q8)), zL cI dg z8, zL cI dt zt8, [(ho, .inr (1, [.ref sa, .int (nI (nx)), .int (0)]))], [(sl, .inr (3, [.ref sb, .ref ua]))], [(ua, .inl (cZ, 2, .inl (upd (upd uf 0 0) 1 0)))]]) H := hP
            have hD : va_D A (bw [[(ob, .inr (6, [.ref so, .ref ho, .ref sl, .ref (dg 0), .ref (dc 0), .ref (dt 0)]))], zS cI so tx t n (rcQ t n q8) (upd (upd (upd v8 2 (nI (rcC t n q8))) 3 (nI (rcK t n q8))) 4 (rcX t n q8)), zL cI dg z8, zL cI dt zt8, [(ho, .inr (1, [.ref sa, .int (nI (nx)), .int (0)]))], [(sl, .inr (3, [.ref sb, .ref ua]))], [(ua, .inl (cZ, 2, .inl (upd (upd uf 0 0) 1 0)))]]) := hD
            refine lv_pop hx hb dX6_load_92 rfl ?_
            refine lv_aload_n hx hb dX6_load_93 rfl (lv_at hl 0 rfl) ?_
            refine lv_aload_n hx hb dX6_load_94 rfl (lv_at hl 0 rfl) ?_
            refine va_get (D := D) (ci := 6) (v := .ref (dg 0)) (C := RX6) (T := TX6) (N := 6) hx hb hts u6_X6 hown hK hP 0 rfl rfl 3 (by decide) (hts _ (m6 260 rfl)) (fun _ h9 => h9) rfl dX6_load_95 ?_
            refine lv_aload_n hx hb dX6_load_98 rfl (lv_at hl 0 rfl) ?_
            refine va_get (D := D) (ci := 6) (v := .ref so) (C := RX6) (T := TX6) (N := 6) hx hb hts u6_X6 hown hK hP 0 rfl rfl 0 (by decide) (hts _ (m6 250 rfl)) (fun _ h9 => h9) rfl dX6_load_99 ?_
            refine va_get (D := D) (ci := 4) (v := .int ((upd (upd (upd v8 2 (nI (rcC t n q8))) 3 (nI (rcK t n q8))) 4 (rcX t n q8)) 2)) (C := RX4) (T := TX4) (N := 8) hx hb hts u6_X4 hown hK hP 1 rfl rfl 5 (by decide) (hts _ (m6 325 rfl)) (fun _ h9 => h9) rfl dX6_load_102 ?_
            refine lv_as (show (upd (upd (upd v8 2 (nI (rcC t n q8))) 3 (nI (rcK t n q8))) 4 (rcX t n q8)) 2 = nI (rcC t n q8) from rfl) ?_
            refine lv_aload_n hx hb dX6_load_105 rfl (lv_at hl 0 rfl) ?_
            refine va_get (D := D) (ci := 6) (v := .ref so) (C := RX6) (T := TX6) (N := 6) hx hb hts u6_X6 hown hK hP 0 rfl rfl 0 (by decide) (hts _ (m6 250 rfl)) (fun _ h9 => h9) rfl dX6_load_106 ?_
            refine va_get (D := D) (ci := 4) (v := .int ((upd (upd (upd v8 2 (nI (rcC t n q8))) 3 (nI (rcK t n q8))) 4 (rcX t n q8)) 3)) (C := RX4) (T := TX4) (N := 8) hx hb hts u6_X4 hown hK hP 1 rfl rfl 6 (by decide) (hts _ (m6 326 rfl)) (fun _ h9 => h9) rfl dX6_load_109 ?_
            refine lv_as (show (upd (upd (upd v8 2 (nI (rcC t n q8))) 3 (nI (rcK t n q8))) 4 (rcX t n q8)) 3 = nI (rcK t n q8) from rfl) ?_
            refine lv_aload_n hx hb dX6_load_112 rfl (lv_at hl 0 rfl) ?_
            refine va_get (D := D) (ci := 6) (v := .ref so) (C := RX6) (T := TX6) (N := 6) hx hb hts u6_X6 hown hK hP 0 rfl rfl 0 (by decide) (hts _ (m6 250 rfl)) (fun _ h9 => h9) rfl dX6_load_113 ?_
            refine va_get (D := D) (ci := 4) (v := .int ((upd (upd (upd v8 2 (nI (rcC t n q8))) 3 (nI (rcK t n q8))) 4 (rcX t n q8)) 4)) (C := RX4) (T := TX4) (N := 8) hx hb hts u6_X4 hown hK hP 1 rfl rfl 7 (by decide) (hts _ (m6 327 rfl)) (fun _ h9 => h9) rfl dX6_load_116 ?_
            refine lv_as (show (upd (upd (upd v8 2 (nI (rcC t n q8))) 3 (nI (rcK t n q8))) 4 (rcX t n q8)) 4 = rcX t n q8 from rfl) ?_
            refine bq_backi (bq_runV hX good6 (m6 31 rfl) (c6_perform l D cI ob so ho sl dg dc dt zt8 hB8t dg z8 hI8 (rcC t n q8) (rcK t n q8) (by omega) (by omega) hk9 (rcX t n q8) hn9) q6_perform rfl (m6 340 rfl) (m6 341 rfl) (m6 342 rfl) ⟨Nat.le_of_ble_eq_true rfl, Nat.le_of_ble_eq_true rfl⟩ hK hN [0] rfl hP hD [0, 3, 2] (by decide) rfl (ci := 6) (q0 := 0) rfl rfl rfl hl.1 rfl (Nat.le_of_ble_eq_true rfl) dX6_load_119 ⟨Nat.zero_le _, Nat.zero_le _⟩) hP hD hS [0, 3, 2] rfl (fun r u h => by obtain ⟨-, x5, hx6, rfl⟩ := h; rfl) (fun r9 u H locs hpost hP hD hS => ?_)
            obtain ⟨hr9, x5, hx6, rfl⟩ := hpost
            refine lv_as hr9 ?_
            have hP : va_P D vwCl (bw [[(ob, .inr (6, [.ref so, .ref ho, .ref sl, .ref (dg 0), .ref (dc 0), .ref (dt 0)]))], zS cI so tx t n (rcQ t n q8) (upd (upd (upd v8 2 (nI (rcC t n q8))) 3 (nI (rcK t n q8))) 4 (rcX t n q8)), zL cI dg (pfZ z8 (rcC t n q8) (rcK t n q8) (rcX t n q8)), zL cI dt x5, [(ho, .inr (1, [.ref sa, .int (nI (nx)), .int (0)]))], [(sl, .inr (3, [.ref sb, .ref ua]))], [(ua, .inl (cZ, 2, .inl (upd (upd uf 0 0) 1 0)))]]) H := hP
            have hD : va_D A (bw [[(ob, .inr (6, [.ref so, .ref ho, .ref sl, .ref (dg 0), .ref (dc 0), .ref (dt 0)]))], zS cI so tx t n (rcQ t n q8) (upd (upd (upd v8 2 (nI (rcC t n q8))) 3 (nI (rcK t n q8))) 4 (rcX t n q8)), zL cI dg (pfZ z8 (rcC t n q8) (rcK t n q8) (rcX t n q8)), zL cI dt x5, [(ho, .inr (1, [.ref sa, .int (nI (nx)), .int (0)]))], [(sl, .inr (3, [.ref sb, .ref ua]))], [(ua, .inl (cZ, 2, .inl (upd (upd uf 0 0) 1 0)))]]) := hD
            refine lv_if_ne (tgt := 128) hx hb dX6_load_122 (by decide) (fun c122_7 => ?_) (fun c122_7 => ?_)
            · skip
              have c122_7 := bI_t c122_7
              refine lv_iinc (v := nI (i9 + 1)) (lv' := [(2, .int (nI (i9 + 1))), (0, .ref ob), (1, .int (nI (l8)))]) hx hb dX6_load_128 hl (k := 2) rfl (nI_add _ 1) (by decide) rfl (fun ls hl => ?_)
              refine lv_goto (tgt := 69) hx hb dX6_load_131 (by decide) ?_
              have hl : lv_has ls 3 [(2, .int (nI ((i9 + 1)))), (0, .ref ob), (1, .int (nI (l8)))] := lv_re hl 0 rfl (show (nI (i9 + 1)) = nI ((i9 + 1)) from rfl)
              exact ih69 (i9 + 1) (rcQ t n q8) (upd (upd (upd v8 2 (nI (rcC t n q8))) 3 (nI (rcK t n q8))) 4 (rcX t n q8)) (pfZ z8 (rcC t n q8) (rcK t n q8) (rcX t n q8)) x5 l8 (by omega) (hqn9) (inv_pf hI8 hk9 hn9 (fun y => hj9 (by omega))) (hx6) (by rw [← hm3, hfe9, ← hm]; exact hfe8) (by rw [hm, ldz, if_pos c82_4, if_pos c122_7, hm3] at hs8; exact hs8) (by omega) _ _ hP hD hS _ (lv_sub hl [1, 2, 0] rfl)
            · skip
              have c122_7 := bI_f c122_7
              refine lv_iinc (v := nI (l8 + 1)) (lv' := [(1, .int (nI (l8 + 1))), (0, .ref ob), (2, .int (nI (i9)))]) hx hb dX6_load_125 hl (k := 1) rfl (nI_add _ 1) (by decide) rfl (fun ls hl => ?_)
              refine lv_iinc (v := nI (i9 + 1)) (lv' := [(2, .int (nI (i9 + 1))), (1, .int (nI (l8 + 1))), (0, .ref ob)]) hx hb dX6_load_128 hl (k := 2) rfl (nI_add _ 1) (by decide) rfl (fun ls hl => ?_)
              refine lv_goto (tgt := 69) hx hb dX6_load_131 (by decide) ?_
              have hl : lv_has ls 3 [(2, .int (nI (i9 + 1))), (1, .int (nI ((l8 + 1)))), (0, .ref ob)] := lv_re hl 1 rfl (show (nI (l8 + 1)) = nI ((l8 + 1)) from rfl)
              have hl : lv_has ls 3 [(2, .int (nI ((i9 + 1)))), (1, .int (nI ((l8 + 1)))), (0, .ref ob)] := lv_re hl 0 rfl (show (nI (i9 + 1)) = nI ((i9 + 1)) from rfl)
              exact ih69 (i9 + 1) (rcQ t n q8) (upd (upd (upd v8 2 (nI (rcC t n q8))) 3 (nI (rcK t n q8))) 4 (rcX t n q8)) (pfZ z8 (rcC t n q8) (rcK t n q8) (rcX t n q8)) x5 (l8 + 1) (by omega) (hqn9) (inv_pf hI8 hk9 hn9 (fun y => hj9 (by omega))) (hx6) (by rw [← hm3, hfe9, ← hm]; exact hfe8) (by rw [hm, ldz, if_pos c82_4, if_neg c122_7, hm3] at hs8; exact hs8) (by omega) _ _ hP hD hS _ (lv_sub hl [2, 1, 0] rfl)
    have hl : lv_has ls 3 [(2, .int (0)), (1, .int (nI (0))), (0, .ref ob)] := lv_re hl 1 rfl (show 0 = nI (0) from rfl)
    have hl : lv_has ls 3 [(2, .int (nI (0))), (1, .int (nI (0))), (0, .ref ob)] := lv_re hl 0 rfl (show 0 = nI (0) from rfl)
    exact LP69 ((90 - 0) + 1) 0 (chQ t n) (upd (upd x1 0 (nI (chB t n))) 1 (nI (chL t n))) (zNew (chB t n) (nI (chL t n)) z) zt 0 (by omega) (by omega) (inv_zNew hb3 hb8 hl1 hl9) (hBt) (hfe0) (rfl) (by omega) _ _ hP hD hS _ (lv_sub hl [2, 1, 0] rfl)
  · skip
    exact ge_tis hst hX hEx hnt hlocks hE hSW hZ hS hP (m6 274 rfl) (m6 275 rfl) (show (70, _) ∈ xT from List.mem_of_getElem? (i := 2) rfl) ⟨⟨rfl, by rw [c6ld, if_neg c9_2]⟩, _, _, (Nat.le_trans feR_le hn), rfl⟩ hl.1 dX6_load_12 dX6_load_15 dX6_load_16 dX6_load_18 dX6_load_21 (Nat.le_of_ble_eq_true rfl) (Nat.le_of_ble_eq_true rfl) (Nat.le_of_ble_eq_true rfl) (Nat.le_of_ble_eq_true rfl) (Nat.le_of_ble_eq_true rfl) (Nat.le_of_ble_eq_true rfl)
