theorem dX4_isFull_0 : decode cX4_isFull 0 = .ok (.aload_n 0, 1) := by decide +kernel
theorem dX4_isFull_1 : decode cX4_isFull 1 = .ok (.getfield 15, 3) := by decide +kernel
theorem dX4_isFull_4 : decode cX4_isFull 4 = .ok (.bipush 90, 2) := by decide +kernel
theorem dX4_isFull_6 : decode cX4_isFull 6 = .ok (.if_icmp .lt 7, 3) := by decide +kernel
theorem dX4_isFull_9 : decode cX4_isFull 9 = .ok (.iconst 1, 1) := by decide +kernel
theorem dX4_isFull_10 : decode cX4_isFull 10 = .ok (.goto 4, 3) := by decide +kernel
theorem dX4_isFull_13 : decode cX4_isFull 13 = .ok (.iconst 0, 1) := by decide +kernel
theorem dX4_isFull_14 : decode cX4_isFull 14 = .ok (.ireturn, 1) := by decide +kernel
theorem q4_isFull : CQ W6 yX4_isFull cX4_isFull 1 (some .boolean) 0 := ⟨(m6 279 rfl), by decide, by decide, by decide +kernel⟩
set_option maxHeartbeats 4000000 in
set_option maxRecDepth 100000 in
theorem c4_isFull (l : Launch) (D : va_G) (cI : ClassId) (so tx : Nat) (t : Nat → Int32) (n : Nat) (hn : n ≤ 90) (q : Nat) (hq : q ≤ 90) (bl lf cm ky nu : Int32)  : RQ l yX4_isFull cX4_isFull 1 .boolean W6 0 0 D [(so, .inr (4, [.ref tx, .int (nI (n)), .int (nI (q)), .int (bl), .int (lf), .int (cm), .int (ky), .int (nu)])), (tx, .inl (cI, 90, .inl t))] [(cI, .int)] [.ref so] (bI (90 ≤ n)) := by
  refine rq_of RX4 (by decide) rfl (Nat.le_of_ble_eq_true rfl) ?_
  intro p e s m below meth c ls hX hr hlocks hK hN hP hS hl
  have hx := hX.1
  have hb := hX.2.1
  have hown := hX.2.2.2.1
  have hts := hX.2.2.2.2
  have hl : lv_has ls 1 [(0, .ref so)] := hl
  refine lv_aload_n hx hb dX4_isFull_0 rfl (lv_at hl 0 rfl) ?_
  refine va_get (D := D) (ci := 4) (v := .int (nI (n))) (C := RX4) (T := TX4) (N := 8) hx hb hts u6_X4 hown hK hP 0 rfl rfl 1 (by decide) (hts _ (m6 216 rfl)) (fun _ h9 => h9) rfl dX4_isFull_1 ?_
  refine lv_bipush (v := 90) hx hb dX4_isFull_4 (by decide) ?_
  refine lv_icmp_lt (tgt := 13) hx hb dX4_isFull_6 (by decide) (fun c6_1 => ?_) (fun c6_1 => ?_)
  · skip
    have c6_1 := cn_lt (a := n) (b := 90) (by omega) (by omega) c6_1
    refine lv_iconst (v := 0) hx hb dX4_isFull_13 (by decide) ?_
    exact rp_retz hX hr hlocks hS ((bI_0 (by omega)).symm) dX4_isFull_14
  · skip
    have c6_1 := cn_nlt (a := n) (b := 90) (by omega) (by omega) c6_1
    refine lv_iconst (v := 1) hx hb dX4_isFull_9 (by decide) ?_
    refine lv_goto (tgt := 14) hx hb dX4_isFull_10 (by decide) ?_
    exact rp_retz hX hr hlocks hS ((bI_1 (by omega)).symm) dX4_isFull_14
theorem dX4_add_0 : decode cX4_add 0 = .ok (.aload_n 0, 1) := by decide +kernel
theorem dX4_add_1 : decode cX4_add 1 = .ok (.getfield 15, 3) := by decide +kernel
theorem dX4_add_4 : decode cX4_add 4 = .ok (.ifCond .lt 32, 3) := by decide +kernel
theorem dX4_add_7 : decode cX4_add 7 = .ok (.aload_n 0, 1) := by decide +kernel
theorem dX4_add_8 : decode cX4_add 8 = .ok (.getfield 15, 3) := by decide +kernel
theorem dX4_add_11 : decode cX4_add 11 = .ok (.bipush 90, 2) := by decide +kernel
theorem dX4_add_13 : decode cX4_add 13 = .ok (.if_icmp .ge 23, 3) := by decide +kernel
theorem dX4_add_16 : decode cX4_add 16 = .ok (.aload_n 0, 1) := by decide +kernel
theorem dX4_add_17 : decode cX4_add 17 = .ok (.getfield 11, 3) := by decide +kernel
theorem dX4_add_20 : decode cX4_add 20 = .ok (.aload_n 0, 1) := by decide +kernel
theorem dX4_add_21 : decode cX4_add 21 = .ok (.getfield 15, 3) := by decide +kernel
theorem dX4_add_24 : decode cX4_add 24 = .ok (.iload_n 1, 1) := by decide +kernel
theorem dX4_add_25 : decode cX4_add 25 = .ok (.iastore, 1) := by decide +kernel
theorem dX4_add_26 : decode cX4_add 26 = .ok (.aload_n 0, 1) := by decide +kernel
theorem dX4_add_27 : decode cX4_add 27 = .ok (.dup, 1) := by decide +kernel
theorem dX4_add_28 : decode cX4_add 28 = .ok (.getfield 15, 3) := by decide +kernel
theorem dX4_add_31 : decode cX4_add 31 = .ok (.iconst 1, 1) := by decide +kernel
theorem dX4_add_32 : decode cX4_add 32 = .ok (.iadd, 1) := by decide +kernel
theorem dX4_add_33 : decode cX4_add 33 = .ok (.putfield 15, 3) := by decide +kernel
theorem dX4_add_36 : decode cX4_add 36 = .ok (.aload_n 0, 1) := by decide +kernel
theorem dX4_add_37 : decode cX4_add 37 = .ok (.getfield 15, 3) := by decide +kernel
theorem dX4_add_40 : decode cX4_add 40 = .ok (.ireturn, 1) := by decide +kernel
theorem q4_add : CQ W6 yX4_add cX4_add 2 (some .int) 1 := ⟨(m6 283 rfl), by decide, by decide, by decide +kernel⟩
set_option maxHeartbeats 4000000 in
set_option maxRecDepth 100000 in
theorem c4_add (l : Launch) (D : va_G) (cI : ClassId) (so tx : Nat) (t : Nat → Int32) (n : Nat) (hn : n ≤ 90) (q : Nat) (hq : q ≤ 90) (bl lf cm ky nu : Int32) (c0 : Int32) (hn9 : n < 90) : GQi l yX4_add cX4_add 2 .int W6 0 0 D [(so, .inr (4, [.ref tx, .int (nI (n)), .int (nI (q)), .int (bl), .int (lf), .int (cm), .int (ky), .int (nu)])), (tx, .inl (cI, 90, .inl t))] [(cI, .int)] [.ref so, .int (c0)] (fun (r9 : Int32) (u9 : va_W) => r9 = (nI (n + 1)) ∧ u9 = [(so, .inr (4, [.ref tx, .int (nI (n + 1)), .int (nI (q)), .int (bl), .int (lf), .int (cm), .int (ky), .int (nu)])), (tx, .inl (cI, 90, .inl (upd t n c0)))]) := by
  refine gq_of RX4 (by decide) rfl (Nat.le_of_ble_eq_true rfl) ?_
  intro p e s m below meth c ls H hX hr hlocks hK hN hP hD hS hl
  generalize gp_A [(so, .inr (4, [.ref tx, .int (nI (n)), .int (nI (q)), .int (bl), .int (lf), .int (cm), .int (ky), .int (nu)])), (tx, .inl (cI, 90, .inl t))] = A at hD hS ⊢
  have hx := hX.1
  have hb := hX.2.1
  have hown := hX.2.2.2.1
  have hts := hX.2.2.2.2
  have hl : lv_has ls 2 [(0, .ref so), (1, .int (c0))] := hl
  refine lv_aload_n hx hb dX4_add_0 rfl (lv_at hl 0 rfl) ?_
  refine va_get (D := D) (ci := 4) (v := .int (nI (n))) (C := RX4) (T := TX4) (N := 8) hx hb hts u6_X4 hown hK hP 0 rfl rfl 1 (by decide) (hts _ (m6 216 rfl)) (fun _ h9 => h9) rfl dX4_add_1 ?_
  refine lv_if_lt (tgt := 36) hx hb dX4_add_4 (by decide) (fun c4_1 => ?_) (fun c4_1 => ?_)
  · skip
    have c4_1 := cn_lt (a := n) (b := 0) (by omega) (by omega) c4_1
    omega
  · skip
    have c4_1 := cn_nlt (a := n) (b := 0) (by omega) (by omega) c4_1
    refine lv_aload_n hx hb dX4_add_7 rfl (lv_at hl 0 rfl) ?_
    refine va_get (D := D) (ci := 4) (v := .int (nI (n))) (C := RX4) (T := TX4) (N := 8) hx hb hts u6_X4 hown hK hP 0 rfl rfl 1 (by decide) (hts _ (m6 216 rfl)) (fun _ h9 => h9) rfl dX4_add_8 ?_
    refine lv_bipush (v := 90) hx hb dX4_add_11 (by decide) ?_
    refine lv_icmp_ge (tgt := 36) hx hb dX4_add_13 (by decide) (fun c13_2 => ?_) (fun c13_2 => ?_)
    · skip
      have c13_2 := cn_le (a := 90) (b := n) (by omega) (by omega) c13_2
      omega
    · skip
      have c13_2 := cn_nle (a := 90) (b := n) (by omega) (by omega) c13_2
      refine lv_aload_n hx hb dX4_add_16 rfl (lv_at hl 0 rfl) ?_
      refine va_get (D := D) (ci := 4) (v := .ref tx) (C := RX4) (T := TX4) (N := 8) hx hb hts u6_X4 hown hK hP 0 rfl rfl 0 (by decide) (hts _ (m6 215 rfl)) (fun _ h9 => h9) rfl dX4_add_17 ?_
      refine lv_aload_n hx hb dX4_add_20 rfl (lv_at hl 0 rfl) ?_
      refine va_get (D := D) (ci := 4) (v := .int (nI (n))) (C := RX4) (T := TX4) (N := 8) hx hb hts u6_X4 hown hK hP 0 rfl rfl 1 (by decide) (hts _ (m6 216 rfl)) (fun _ h9 => h9) rfl dX4_add_21 ?_
      refine lv_iload_n hx hb dX4_add_24 rfl (lv_at hl 1 rfl) ?_
      refine ra_iast (i := n) hx hb hK hP hD hS 1 0 rfl rfl (by omega) (by decide) dX4_add_25 (fun H locs hP hD hS => ?_)
      have hP : va_P D vwCl [(so, .inr (4, [.ref tx, .int (nI (n)), .int (nI (q)), .int (bl), .int (lf), .int (cm), .int (ky), .int (nu)])), (tx, .inl (cI, 90, .inl (upd t n c0)))] H := hP
      have hD : va_D A [(so, .inr (4, [.ref tx, .int (nI (n)), .int (nI (q)), .int (bl), .int (lf), .int (cm), .int (ky), .int (nu)])), (tx, .inl (cI, 90, .inl (upd t n c0)))] := hD
      refine lv_aload_n hx hb dX4_add_26 rfl (lv_at hl 0 rfl) ?_
      refine lv_dup hx hb dX4_add_27 rfl ?_
      refine va_get (D := D) (ci := 4) (v := .int (nI (n))) (C := RX4) (T := TX4) (N := 8) hx hb hts u6_X4 hown hK hP 0 rfl rfl 1 (by decide) (hts _ (m6 216 rfl)) (fun _ h9 => h9) rfl dX4_add_28 ?_
      refine lv_iconst (v := 1) hx hb dX4_add_31 (by decide) ?_
      refine lv_iadd hx hb dX4_add_32 ?_
      refine lv_as (y := nI (n + 1)) (nI_add (n) (1)) ?_
      refine va_put (D := D) (ci := 4) (v := .int (nI (n + 1))) (ty := .int) (C := RX4) (T := TX4) (N := 8) hx hb hts u6_X4 tyX4 tyX4_ok nmX4 hown hK hP hD hS 0 rfl rfl 1 (by decide) (hts _ (m6 216 rfl)) (fun _ h9 => h9) rfl (by decide +kernel) rfl rfl (Nat.le_of_ble_eq_true rfl) dX4_add_33 (fun H locs hP hD hS => ?_)
      have hP : va_P D vwCl [(so, .inr (4, [.ref tx, .int (nI (n + 1)), .int (nI (q)), .int (bl), .int (lf), .int (cm), .int (ky), .int (nu)])), (tx, .inl (cI, 90, .inl (upd t n c0)))] H := hP
      have hD : va_D A [(so, .inr (4, [.ref tx, .int (nI (n + 1)), .int (nI (q)), .int (bl), .int (lf), .int (cm), .int (ky), .int (nu)])), (tx, .inl (cI, 90, .inl (upd t n c0)))] := hD
      refine lv_aload_n hx hb dX4_add_36 rfl (lv_at hl 0 rfl) ?_
      refine va_get (D := D) (ci := 4) (v := .int (nI (n + 1))) (C := RX4) (T := TX4) (N := 8) hx hb hts u6_X4 hown hK hP 0 rfl rfl 1 (by decide) (hts _ (m6 216 rfl)) (fun _ h9 => h9) rfl dX4_add_37 ?_
      exact gp_reti hX hr hlocks hS hP ⟨rfl, rfl⟩ dX4_add_40
theorem dX4_empty_0 : decode cX4_empty 0 = .ok (.aload_n 0, 1) := by decide +kernel
theorem dX4_empty_1 : decode cX4_empty 1 = .ok (.getfield 15, 3) := by decide +kernel
theorem dX4_empty_4 : decode cX4_empty 4 = .ok (.istore_n 1, 1) := by decide +kernel
theorem dX4_empty_5 : decode cX4_empty 5 = .ok (.aload_n 0, 1) := by decide +kernel
theorem dX4_empty_6 : decode cX4_empty 6 = .ok (.iconst 0, 1) := by decide +kernel
theorem dX4_empty_7 : decode cX4_empty 7 = .ok (.putfield 15, 3) := by decide +kernel
theorem dX4_empty_10 : decode cX4_empty 10 = .ok (.iload_n 1, 1) := by decide +kernel
theorem dX4_empty_11 : decode cX4_empty 11 = .ok (.ireturn, 1) := by decide +kernel
theorem q4_empty : CQ W6 yX4_empty cX4_empty 2 (some .int) 0 := ⟨(m6 287 rfl), by decide, by decide, by decide +kernel⟩
set_option maxHeartbeats 4000000 in
set_option maxRecDepth 100000 in
theorem c4_empty (l : Launch) (D : va_G) (cI : ClassId) (so tx : Nat) (t : Nat → Int32) (n : Nat) (hn : n ≤ 90) (q : Nat) (hq : q ≤ 90) (bl lf cm ky nu : Int32)  : GQi l yX4_empty cX4_empty 2 .int W6 0 0 D [(so, .inr (4, [.ref tx, .int (nI (n)), .int (nI (q)), .int (bl), .int (lf), .int (cm), .int (ky), .int (nu)])), (tx, .inl (cI, 90, .inl t))] [(cI, .int)] [.ref so] (fun (r9 : Int32) (u9 : va_W) => r9 = (nI (n)) ∧ u9 = [(so, .inr (4, [.ref tx, .int (0), .int (nI (q)), .int (bl), .int (lf), .int (cm), .int (ky), .int (nu)])), (tx, .inl (cI, 90, .inl t))]) := by
  refine gq_of RX4 (by decide) rfl (Nat.le_of_ble_eq_true rfl) ?_
  intro p e s m below meth c ls H hX hr hlocks hK hN hP hD hS hl
  generalize gp_A [(so, .inr (4, [.ref tx, .int (nI (n)), .int (nI (q)), .int (bl), .int (lf), .int (cm), .int (ky), .int (nu)])), (tx, .inl (cI, 90, .inl t))] = A at hD hS ⊢
  have hx := hX.1
  have hb := hX.2.1
  have hown := hX.2.2.2.1
  have hts := hX.2.2.2.2
  have hl : lv_has ls 2 [(0, .ref so)] := hl
  refine lv_aload_n hx hb dX4_empty_0 rfl (lv_at hl 0 rfl) ?_
  refine va_get (D := D) (ci := 4) (v := .int (nI (n))) (C := RX4) (T := TX4) (N := 8) hx hb hts u6_X4 hown hK hP 0 rfl rfl 1 (by decide) (hts _ (m6 216 rfl)) (fun _ h9 => h9) rfl dX4_empty_1 ?_
  refine lv_istore_n (lv' := [(1, .int (nI (n))), (0, .ref so)]) hx hb dX4_empty_4 rfl hl (by decide) rfl (fun ls hl => ?_)
  refine lv_aload_n hx hb dX4_empty_5 rfl (lv_at hl 1 rfl) ?_
  refine lv_iconst (v := 0) hx hb dX4_empty_6 (by decide) ?_
  refine va_put (D := D) (ci := 4) (v := .int (0)) (ty := .int) (C := RX4) (T := TX4) (N := 8) hx hb hts u6_X4 tyX4 tyX4_ok nmX4 hown hK hP hD hS 0 rfl rfl 1 (by decide) (hts _ (m6 216 rfl)) (fun _ h9 => h9) rfl (by decide +kernel) rfl rfl (Nat.le_of_ble_eq_true rfl) dX4_empty_7 (fun H locs hP hD hS => ?_)
  have hP : va_P D vwCl [(so, .inr (4, [.ref tx, .int (0), .int (nI (q)), .int (bl), .int (lf), .int (cm), .int (ky), .int (nu)])), (tx, .inl (cI, 90, .inl t))] H := hP
  have hD : va_D A [(so, .inr (4, [.ref tx, .int (0), .int (nI (q)), .int (bl), .int (lf), .int (cm), .int (ky), .int (nu)])), (tx, .inl (cI, 90, .inl t))] := hD
  refine lv_iload_n hx hb dX4_empty_10 rfl (lv_at hl 0 rfl) ?_
  exact gp_reti hX hr hlocks hS hP ⟨rfl, rfl⟩ dX4_empty_11
theorem dX4_hasMore_0 : decode cX4_hasMore 0 = .ok (.aload_n 0, 1) := by decide +kernel
theorem dX4_hasMore_1 : decode cX4_hasMore 1 = .ok (.getfield 29, 3) := by decide +kernel
theorem dX4_hasMore_4 : decode cX4_hasMore 4 = .ok (.aload_n 0, 1) := by decide +kernel
theorem dX4_hasMore_5 : decode cX4_hasMore 5 = .ok (.getfield 15, 3) := by decide +kernel
theorem dX4_hasMore_8 : decode cX4_hasMore 8 = .ok (.if_icmp .ge 7, 3) := by decide +kernel
theorem dX4_hasMore_11 : decode cX4_hasMore 11 = .ok (.iconst 1, 1) := by decide +kernel
theorem dX4_hasMore_12 : decode cX4_hasMore 12 = .ok (.goto 4, 3) := by decide +kernel
theorem dX4_hasMore_15 : decode cX4_hasMore 15 = .ok (.iconst 0, 1) := by decide +kernel
theorem dX4_hasMore_16 : decode cX4_hasMore 16 = .ok (.ireturn, 1) := by decide +kernel
theorem q4_hasMore : CQ W6 yX4_hasMore cX4_hasMore 1 (some .boolean) 0 := ⟨(m6 242 rfl), by decide, by decide, by decide +kernel⟩
set_option maxHeartbeats 4000000 in
set_option maxRecDepth 100000 in
theorem c4_hasMore (l : Launch) (D : va_G) (cI : ClassId) (so tx : Nat) (t : Nat → Int32) (n : Nat) (hn : n ≤ 90) (q : Nat) (hq : q ≤ n) (bl lf cm ky nu : Int32)  : RQ l yX4_hasMore cX4_hasMore 1 .boolean W6 0 0 D [(so, .inr (4, [.ref tx, .int (nI (n)), .int (nI (q)), .int (bl), .int (lf), .int (cm), .int (ky), .int (nu)])), (tx, .inl (cI, 90, .inl t))] [(cI, .int)] [.ref so] (bI (q < n)) := by
  refine rq_of RX4 (by decide) rfl (Nat.le_of_ble_eq_true rfl) ?_
  intro p e s m below meth c ls hX hr hlocks hK hN hP hS hl
  have hx := hX.1
  have hb := hX.2.1
  have hown := hX.2.2.2.1
  have hts := hX.2.2.2.2
  have hl : lv_has ls 1 [(0, .ref so)] := hl
  refine lv_aload_n hx hb dX4_hasMore_0 rfl (lv_at hl 0 rfl) ?_
  refine va_get (D := D) (ci := 4) (v := .int (nI (q))) (C := RX4) (T := TX4) (N := 8) hx hb hts u6_X4 hown hK hP 0 rfl rfl 2 (by decide) (hts _ (m6 217 rfl)) (fun _ h9 => h9) rfl dX4_hasMore_1 ?_
  refine lv_aload_n hx hb dX4_hasMore_4 rfl (lv_at hl 0 rfl) ?_
  refine va_get (D := D) (ci := 4) (v := .int (nI (n))) (C := RX4) (T := TX4) (N := 8) hx hb hts u6_X4 hown hK hP 0 rfl rfl 1 (by decide) (hts _ (m6 216 rfl)) (fun _ h9 => h9) rfl dX4_hasMore_5 ?_
  refine lv_icmp_ge (tgt := 15) hx hb dX4_hasMore_8 (by decide) (fun c8_1 => ?_) (fun c8_1 => ?_)
  · skip
    have c8_1 := cn_le (a := n) (b := q) (by omega) (by omega) c8_1
    refine lv_iconst (v := 0) hx hb dX4_hasMore_15 (by decide) ?_
    exact rp_retz hX hr hlocks hS ((bI_0 (by simp_all)).symm) dX4_hasMore_16
  · skip
    have c8_1 := cn_nle (a := n) (b := q) (by omega) (by omega) c8_1
    refine lv_iconst (v := 1) hx hb dX4_hasMore_11 (by decide) ?_
    refine lv_goto (tgt := 16) hx hb dX4_hasMore_12 (by decide) ?_
    exact rp_retz hX hr hlocks hS ((bI_1 (by simp_all)).symm) dX4_hasMore_16
theorem dX4_current_0 : decode cX4_current 0 = .ok (.aload_n 0, 1) := by decide +kernel
theorem dX4_current_1 : decode cX4_current 1 = .ok (.getfield 29, 3) := by decide +kernel
theorem dX4_current_4 : decode cX4_current 4 = .ok (.ifCond .lt 35, 3) := by decide +kernel
theorem dX4_current_7 : decode cX4_current 7 = .ok (.aload_n 0, 1) := by decide +kernel
theorem dX4_current_8 : decode cX4_current 8 = .ok (.getfield 29, 3) := by decide +kernel
theorem dX4_current_11 : decode cX4_current 11 = .ok (.aload_n 0, 1) := by decide +kernel
theorem dX4_current_12 : decode cX4_current 12 = .ok (.getfield 15, 3) := by decide +kernel
theorem dX4_current_15 : decode cX4_current 15 = .ok (.if_icmp .ge 24, 3) := by decide +kernel
theorem dX4_current_18 : decode cX4_current 18 = .ok (.aload_n 0, 1) := by decide +kernel
theorem dX4_current_19 : decode cX4_current 19 = .ok (.getfield 29, 3) := by decide +kernel
theorem dX4_current_22 : decode cX4_current 22 = .ok (.bipush 90, 2) := by decide +kernel
theorem dX4_current_24 : decode cX4_current 24 = .ok (.if_icmp .ge 15, 3) := by decide +kernel
theorem dX4_current_27 : decode cX4_current 27 = .ok (.aload_n 0, 1) := by decide +kernel
theorem dX4_current_28 : decode cX4_current 28 = .ok (.getfield 11, 3) := by decide +kernel
theorem dX4_current_31 : decode cX4_current 31 = .ok (.aload_n 0, 1) := by decide +kernel
theorem dX4_current_32 : decode cX4_current 32 = .ok (.getfield 29, 3) := by decide +kernel
theorem dX4_current_35 : decode cX4_current 35 = .ok (.iaload, 1) := by decide +kernel
theorem dX4_current_36 : decode cX4_current 36 = .ok (.goto 5, 3) := by decide +kernel
theorem dX4_current_39 : decode cX4_current 39 = .ok (.bipush (-9), 2) := by decide +kernel
theorem dX4_current_41 : decode cX4_current 41 = .ok (.ireturn, 1) := by decide +kernel
theorem q4_current : CQ W6 yX4_current cX4_current 1 (some .int) 0 := ⟨(m6 222 rfl), by decide, by decide, by decide +kernel⟩
set_option maxHeartbeats 4000000 in
set_option maxRecDepth 100000 in
theorem c4_current (l : Launch) (D : va_G) (cI : ClassId) (so tx : Nat) (t : Nat → Int32) (n : Nat) (hn : n ≤ 90) (q : Nat) (hq : q ≤ n) (bl lf cm ky nu : Int32)  : RQ l yX4_current cX4_current 1 .int W6 0 0 D [(so, .inr (4, [.ref tx, .int (nI (n)), .int (nI (q)), .int (bl), .int (lf), .int (cm), .int (ky), .int (nu)])), (tx, .inl (cI, 90, .inl t))] [(cI, .int)] [.ref so] (crV t n q) := by
  refine rq_of RX4 (by decide) rfl (Nat.le_of_ble_eq_true rfl) ?_
  intro p e s m below meth c ls hX hr hlocks hK hN hP hS hl
  have hx := hX.1
  have hb := hX.2.1
  have hown := hX.2.2.2.1
  have hts := hX.2.2.2.2
  have hl : lv_has ls 1 [(0, .ref so)] := hl
  refine lv_aload_n hx hb dX4_current_0 rfl (lv_at hl 0 rfl) ?_
  refine va_get (D := D) (ci := 4) (v := .int (nI (q))) (C := RX4) (T := TX4) (N := 8) hx hb hts u6_X4 hown hK hP 0 rfl rfl 2 (by decide) (hts _ (m6 217 rfl)) (fun _ h9 => h9) rfl dX4_current_1 ?_
  refine lv_if_lt (tgt := 39) hx hb dX4_current_4 (by decide) (fun c4_1 => ?_) (fun c4_1 => ?_)
  · skip
    have c4_1 := cn_lt (a := q) (b := 0) (by omega) (by omega) c4_1
    omega
  · skip
    have c4_1 := cn_nlt (a := q) (b := 0) (by omega) (by omega) c4_1
    refine lv_aload_n hx hb dX4_current_7 rfl (lv_at hl 0 rfl) ?_
    refine va_get (D := D) (ci := 4) (v := .int (nI (q))) (C := RX4) (T := TX4) (N := 8) hx hb hts u6_X4 hown hK hP 0 rfl rfl 2 (by decide) (hts _ (m6 217 rfl)) (fun _ h9 => h9) rfl dX4_current_8 ?_
    refine lv_aload_n hx hb dX4_current_11 rfl (lv_at hl 0 rfl) ?_
    refine va_get (D := D) (ci := 4) (v := .int (nI (n))) (C := RX4) (T := TX4) (N := 8) hx hb hts u6_X4 hown hK hP 0 rfl rfl 1 (by decide) (hts _ (m6 216 rfl)) (fun _ h9 => h9) rfl dX4_current_12 ?_
    refine lv_icmp_ge (tgt := 39) hx hb dX4_current_15 (by decide) (fun c15_2 => ?_) (fun c15_2 => ?_)
    · skip
      have c15_2 := cn_le (a := n) (b := q) (by omega) (by omega) c15_2
      refine lv_bipush (v := (-9)) hx hb dX4_current_39 (by decide) ?_
      exact rp_ret hX hr hlocks hS (by rw [crV, if_neg (by omega)]) dX4_current_41
    · skip
      have c15_2 := cn_nle (a := n) (b := q) (by omega) (by omega) c15_2
      refine lv_aload_n hx hb dX4_current_18 rfl (lv_at hl 0 rfl) ?_
      refine va_get (D := D) (ci := 4) (v := .int (nI (q))) (C := RX4) (T := TX4) (N := 8) hx hb hts u6_X4 hown hK hP 0 rfl rfl 2 (by decide) (hts _ (m6 217 rfl)) (fun _ h9 => h9) rfl dX4_current_19 ?_
      refine lv_bipush (v := 90) hx hb dX4_current_22 (by decide) ?_
      refine lv_icmp_ge (tgt := 39) hx hb dX4_current_24 (by decide) (fun c24_3 => ?_) (fun c24_3 => ?_)
      · skip
        have c24_3 := cn_le (a := 90) (b := q) (by omega) (by omega) c24_3
        omega
      · skip
        have c24_3 := cn_nle (a := 90) (b := q) (by omega) (by omega) c24_3
        refine lv_aload_n hx hb dX4_current_27 rfl (lv_at hl 0 rfl) ?_
        refine va_get (D := D) (ci := 4) (v := .ref tx) (C := RX4) (T := TX4) (N := 8) hx hb hts u6_X4 hown hK hP 0 rfl rfl 0 (by decide) (hts _ (m6 215 rfl)) (fun _ h9 => h9) rfl dX4_current_28 ?_
        refine lv_aload_n hx hb dX4_current_31 rfl (lv_at hl 0 rfl) ?_
        refine va_get (D := D) (ci := 4) (v := .int (nI (q))) (C := RX4) (T := TX4) (N := 8) hx hb hts u6_X4 hown hK hP 0 rfl rfl 2 (by decide) (hts _ (m6 217 rfl)) (fun _ h9 => h9) rfl dX4_current_32 ?_
        refine ra_iald (i := q) hx hb hK hP 1 0 rfl rfl (by omega) (by decide) dX4_current_35 ?_
        refine lv_goto (tgt := 41) hx hb dX4_current_36 (by decide) ?_
        exact rp_ret hX hr hlocks hS (by rw [crV, if_pos (by omega)]) dX4_current_41
theorem dX4_commandOf_0 : decode cX4_commandOf 0 = .ok (.iload_n 0, 1) := by decide +kernel
theorem dX4_commandOf_1 : decode cX4_commandOf 1 = .ok (.lookupswitch 72 #[(99, 65), (100, 61), (112, 59), (113, 69), (115, 67), (119, 63)], 59) := by decide +kernel
theorem dX4_commandOf_60 : decode cX4_commandOf 60 = .ok (.iconst 1, 1) := by decide +kernel
theorem dX4_commandOf_61 : decode cX4_commandOf 61 = .ok (.ireturn, 1) := by decide +kernel
theorem dX4_commandOf_62 : decode cX4_commandOf 62 = .ok (.iconst 2, 1) := by decide +kernel
theorem dX4_commandOf_63 : decode cX4_commandOf 63 = .ok (.ireturn, 1) := by decide +kernel
theorem dX4_commandOf_64 : decode cX4_commandOf 64 = .ok (.iconst 3, 1) := by decide +kernel
theorem dX4_commandOf_65 : decode cX4_commandOf 65 = .ok (.ireturn, 1) := by decide +kernel
theorem dX4_commandOf_66 : decode cX4_commandOf 66 = .ok (.iconst 4, 1) := by decide +kernel
theorem dX4_commandOf_67 : decode cX4_commandOf 67 = .ok (.ireturn, 1) := by decide +kernel
theorem dX4_commandOf_68 : decode cX4_commandOf 68 = .ok (.iconst 5, 1) := by decide +kernel
theorem dX4_commandOf_69 : decode cX4_commandOf 69 = .ok (.ireturn, 1) := by decide +kernel
theorem dX4_commandOf_70 : decode cX4_commandOf 70 = .ok (.bipush 9, 2) := by decide +kernel
theorem dX4_commandOf_72 : decode cX4_commandOf 72 = .ok (.ireturn, 1) := by decide +kernel
theorem dX4_commandOf_73 : decode cX4_commandOf 73 = .ok (.bipush (-9), 2) := by decide +kernel
theorem dX4_commandOf_75 : decode cX4_commandOf 75 = .ok (.ireturn, 1) := by decide +kernel
theorem q4_commandOf : CQ W6 yX4_commandOf cX4_commandOf 1 (some .int) 1 := ⟨(m6 234 rfl), by decide, by decide, by decide +kernel⟩
set_option maxHeartbeats 4000000 in
set_option maxRecDepth 100000 in
theorem c4_commandOf (l : Launch) (D : va_G) (x : Int32) : RQ l yX4_commandOf cX4_commandOf 1 .int W6 0 0 D [] [] [.int (x)] (coF x) := by
  refine rq_of RX4 (by decide) rfl (Nat.le_of_ble_eq_true rfl) ?_
  intro p e s m below meth c ls hX hr hlocks hK hN hP hS hl
  have hx := hX.1
  have hb := hX.2.1
  have hown := hX.2.2.2.1
  have hts := hX.2.2.2.2
  have hl : lv_has ls 1 [(0, .int (x))] := hl
  refine lv_iload_n hx hb dX4_commandOf_0 rfl (lv_at hl 0 rfl) ?_
  rcases co6 x with h | h | h | h | h | h | ⟨h1, h2, h3, h4, h5, h6⟩
  · skip
    refine lv_as (show x = 99 from h) ?_
    refine lv_lookup (off := 65) (tgt := 66) hx hb dX4_commandOf_1 (by decide) (by decide) (by decide) ?_
    refine lv_iconst (v := 4) hx hb dX4_commandOf_66 (by decide) ?_
    exact rp_ret hX hr hlocks hS (by rw [h]; rfl) dX4_commandOf_67
  · skip
    refine lv_as (show x = 100 from h) ?_
    refine lv_lookup (off := 61) (tgt := 62) hx hb dX4_commandOf_1 (by decide) (by decide) (by decide) ?_
    refine lv_iconst (v := 2) hx hb dX4_commandOf_62 (by decide) ?_
    exact rp_ret hX hr hlocks hS (by rw [h]; rfl) dX4_commandOf_63
  · skip
    refine lv_as (show x = 112 from h) ?_
    refine lv_lookup (off := 59) (tgt := 60) hx hb dX4_commandOf_1 (by decide) (by decide) (by decide) ?_
    refine lv_iconst (v := 1) hx hb dX4_commandOf_60 (by decide) ?_
    exact rp_ret hX hr hlocks hS (by rw [h]; rfl) dX4_commandOf_61
  · skip
    refine lv_as (show x = 113 from h) ?_
    refine lv_lookup (off := 69) (tgt := 70) hx hb dX4_commandOf_1 (by decide) (by decide) (by decide) ?_
    refine lv_bipush (v := 9) hx hb dX4_commandOf_70 (by decide) ?_
    exact rp_ret hX hr hlocks hS (by rw [h]; rfl) dX4_commandOf_72
  · skip
    refine lv_as (show x = 115 from h) ?_
    refine lv_lookup (off := 67) (tgt := 68) hx hb dX4_commandOf_1 (by decide) (by decide) (by decide) ?_
    refine lv_iconst (v := 5) hx hb dX4_commandOf_68 (by decide) ?_
    exact rp_ret hX hr hlocks hS (by rw [h]; rfl) dX4_commandOf_69
  · skip
    refine lv_as (show x = 119 from h) ?_
    refine lv_lookup (off := 63) (tgt := 64) hx hb dX4_commandOf_1 (by decide) (by decide) (by decide) ?_
    refine lv_iconst (v := 3) hx hb dX4_commandOf_64 (by decide) ?_
    exact rp_ret hX hr hlocks hS (by rw [h]; rfl) dX4_commandOf_65
  · skip
    refine lv_lookup (off := 72) (tgt := 73) hx hb dX4_commandOf_1 (by decide) ((lv_osw h1 (by decide)).trans ((lv_osw h2 (by decide)).trans ((lv_osw h3 (by decide)).trans ((lv_osw h4 (by decide)).trans ((lv_osw h5 (by decide)).trans ((lv_osw h6 (by decide)).trans (rfl))))))) (by decide) ?_
    refine lv_bipush (v := (-9)) hx hb dX4_commandOf_73 (by decide) ?_
    exact rp_ret hX hr hlocks hS (by rw [coF, if_neg h3, if_neg h2, if_neg h6, if_neg h1, if_neg h5, if_neg h4]) dX4_commandOf_75
theorem dX4_readNumber_0 : decode cX4_readNumber 0 = .ok (.iconst 1, 1) := by decide +kernel
theorem dX4_readNumber_1 : decode cX4_readNumber 1 = .ok (.istore 4, 2) := by decide +kernel
theorem dX4_readNumber_3 : decode cX4_readNumber 3 = .ok (.iconst 0, 1) := by decide +kernel
theorem dX4_readNumber_4 : decode cX4_readNumber 4 = .ok (.istore 5, 2) := by decide +kernel
theorem dX4_readNumber_6 : decode cX4_readNumber 6 = .ok (.iload 5, 2) := by decide +kernel
theorem dX4_readNumber_8 : decode cX4_readNumber 8 = .ok (.iload_n 1, 1) := by decide +kernel
theorem dX4_readNumber_9 : decode cX4_readNumber 9 = .ok (.if_icmp .ge 16, 3) := by decide +kernel
theorem dX4_readNumber_12 : decode cX4_readNumber 12 = .ok (.iload 4, 2) := by decide +kernel
theorem dX4_readNumber_14 : decode cX4_readNumber 14 = .ok (.bipush 10, 2) := by decide +kernel
theorem dX4_readNumber_16 : decode cX4_readNumber 16 = .ok (.imul, 1) := by decide +kernel
theorem dX4_readNumber_17 : decode cX4_readNumber 17 = .ok (.istore 4, 2) := by decide +kernel
theorem dX4_readNumber_19 : decode cX4_readNumber 19 = .ok (.iinc 5 1, 3) := by decide +kernel
theorem dX4_readNumber_22 : decode cX4_readNumber 22 = .ok (.goto (-16), 3) := by decide +kernel
theorem dX4_readNumber_25 : decode cX4_readNumber 25 = .ok (.iconst 0, 1) := by decide +kernel
theorem dX4_readNumber_26 : decode cX4_readNumber 26 = .ok (.istore 5, 2) := by decide +kernel
theorem dX4_readNumber_28 : decode cX4_readNumber 28 = .ok (.iconst 0, 1) := by decide +kernel
theorem dX4_readNumber_29 : decode cX4_readNumber 29 = .ok (.istore 6, 2) := by decide +kernel
theorem dX4_readNumber_31 : decode cX4_readNumber 31 = .ok (.iload 6, 2) := by decide +kernel
theorem dX4_readNumber_33 : decode cX4_readNumber 33 = .ok (.iload_n 1, 1) := by decide +kernel
theorem dX4_readNumber_34 : decode cX4_readNumber 34 = .ok (.if_icmp .ge 90, 3) := by decide +kernel
theorem dX4_readNumber_37 : decode cX4_readNumber 37 = .ok (.aload_n 0, 1) := by decide +kernel
theorem dX4_readNumber_38 : decode cX4_readNumber 38 = .ok (.invokevirtual 32, 3) := by decide +kernel
theorem dX4_readNumber_41 : decode cX4_readNumber 41 = .ok (.bipush 48, 2) := by decide +kernel
theorem dX4_readNumber_43 : decode cX4_readNumber 43 = .ok (.isub, 1) := by decide +kernel
theorem dX4_readNumber_44 : decode cX4_readNumber 44 = .ok (.istore 7, 2) := by decide +kernel
theorem dX4_readNumber_46 : decode cX4_readNumber 46 = .ok (.iload 7, 2) := by decide +kernel
theorem dX4_readNumber_48 : decode cX4_readNumber 48 = .ok (.ifCond .lt 10, 3) := by decide +kernel
theorem dX4_readNumber_51 : decode cX4_readNumber 51 = .ok (.iload 7, 2) := by decide +kernel
theorem dX4_readNumber_53 : decode cX4_readNumber 53 = .ok (.bipush 9, 2) := by decide +kernel
theorem dX4_readNumber_55 : decode cX4_readNumber 55 = .ok (.if_icmp .le 6, 3) := by decide +kernel
theorem dX4_readNumber_58 : decode cX4_readNumber 58 = .ok (.bipush (-9), 2) := by decide +kernel
theorem dX4_readNumber_60 : decode cX4_readNumber 60 = .ok (.ireturn, 1) := by decide +kernel
theorem dX4_readNumber_61 : decode cX4_readNumber 61 = .ok (.iload 4, 2) := by decide +kernel
theorem dX4_readNumber_63 : decode cX4_readNumber 63 = .ok (.bipush 10, 2) := by decide +kernel
theorem dX4_readNumber_65 : decode cX4_readNumber 65 = .ok (.idiv, 1) := by decide +kernel
theorem dX4_readNumber_66 : decode cX4_readNumber 66 = .ok (.istore 4, 2) := by decide +kernel
theorem dX4_readNumber_68 : decode cX4_readNumber 68 = .ok (.iload 5, 2) := by decide +kernel
theorem dX4_readNumber_70 : decode cX4_readNumber 70 = .ok (.iload 7, 2) := by decide +kernel
theorem dX4_readNumber_72 : decode cX4_readNumber 72 = .ok (.iadd, 1) := by decide +kernel
theorem dX4_readNumber_73 : decode cX4_readNumber 73 = .ok (.iload 4, 2) := by decide +kernel
theorem dX4_readNumber_75 : decode cX4_readNumber 75 = .ok (.imul, 1) := by decide +kernel
theorem dX4_readNumber_76 : decode cX4_readNumber 76 = .ok (.istore 8, 2) := by decide +kernel
theorem dX4_readNumber_78 : decode cX4_readNumber 78 = .ok (.iload 8, 2) := by decide +kernel
theorem dX4_readNumber_80 : decode cX4_readNumber 80 = .ok (.iload_n 3, 1) := by decide +kernel
theorem dX4_readNumber_81 : decode cX4_readNumber 81 = .ok (.if_icmp .gt 14, 3) := by decide +kernel
theorem dX4_readNumber_84 : decode cX4_readNumber 84 = .ok (.iload 8, 2) := by decide +kernel
theorem dX4_readNumber_86 : decode cX4_readNumber 86 = .ok (.iload 4, 2) := by decide +kernel
theorem dX4_readNumber_88 : decode cX4_readNumber 88 = .ok (.iadd, 1) := by decide +kernel
theorem dX4_readNumber_89 : decode cX4_readNumber 89 = .ok (.iconst 1, 1) := by decide +kernel
theorem dX4_readNumber_90 : decode cX4_readNumber 90 = .ok (.isub, 1) := by decide +kernel
theorem dX4_readNumber_91 : decode cX4_readNumber 91 = .ok (.iload_n 2, 1) := by decide +kernel
theorem dX4_readNumber_92 : decode cX4_readNumber 92 = .ok (.if_icmp .ge 6, 3) := by decide +kernel
theorem dX4_readNumber_95 : decode cX4_readNumber 95 = .ok (.bipush (-9), 2) := by decide +kernel
theorem dX4_readNumber_97 : decode cX4_readNumber 97 = .ok (.ireturn, 1) := by decide +kernel
theorem dX4_readNumber_98 : decode cX4_readNumber 98 = .ok (.iload 5, 2) := by decide +kernel
theorem dX4_readNumber_100 : decode cX4_readNumber 100 = .ok (.iload 7, 2) := by decide +kernel
theorem dX4_readNumber_102 : decode cX4_readNumber 102 = .ok (.iadd, 1) := by decide +kernel
theorem dX4_readNumber_103 : decode cX4_readNumber 103 = .ok (.bipush 10, 2) := by decide +kernel
theorem dX4_readNumber_105 : decode cX4_readNumber 105 = .ok (.imul, 1) := by decide +kernel
theorem dX4_readNumber_106 : decode cX4_readNumber 106 = .ok (.istore 5, 2) := by decide +kernel
theorem dX4_readNumber_108 : decode cX4_readNumber 108 = .ok (.aload_n 0, 1) := by decide +kernel
theorem dX4_readNumber_109 : decode cX4_readNumber 109 = .ok (.dup, 1) := by decide +kernel
theorem dX4_readNumber_110 : decode cX4_readNumber 110 = .ok (.getfield 29, 3) := by decide +kernel
theorem dX4_readNumber_113 : decode cX4_readNumber 113 = .ok (.iconst 1, 1) := by decide +kernel
theorem dX4_readNumber_114 : decode cX4_readNumber 114 = .ok (.iadd, 1) := by decide +kernel
theorem dX4_readNumber_115 : decode cX4_readNumber 115 = .ok (.putfield 29, 3) := by decide +kernel
theorem dX4_readNumber_118 : decode cX4_readNumber 118 = .ok (.iinc 6 1, 3) := by decide +kernel
theorem dX4_readNumber_121 : decode cX4_readNumber 121 = .ok (.goto (-90), 3) := by decide +kernel
theorem dX4_readNumber_124 : decode cX4_readNumber 124 = .ok (.iload 5, 2) := by decide +kernel
theorem dX4_readNumber_126 : decode cX4_readNumber 126 = .ok (.bipush 10, 2) := by decide +kernel
theorem dX4_readNumber_128 : decode cX4_readNumber 128 = .ok (.idiv, 1) := by decide +kernel
theorem dX4_readNumber_129 : decode cX4_readNumber 129 = .ok (.ireturn, 1) := by decide +kernel
theorem q4_readNumber : CQ W6 yX4_readNumber cX4_readNumber 9 (some .int) 3 := ⟨(m6 228 rfl), by decide, by decide, by decide +kernel⟩
set_option maxHeartbeats 4000000 in
set_option maxRecDepth 100000 in
theorem c4_readNumber (l : Launch) (D : va_G) (cI : ClassId) (so tx : Nat) (t : Nat → Int32) (n : Nat) (hn : n ≤ 90) (q : Nat) (hq : q ≤ n) (bl lf cm ky nu : Int32) (dg9 : Nat) (hdg : dg9 ≤ 9) (lo9 hi9 : Int32) : GQi l yX4_readNumber cX4_readNumber 9 .int W6 1 20 D [(so, .inr (4, [.ref tx, .int (nI (n)), .int (nI (q)), .int (bl), .int (lf), .int (cm), .int (ky), .int (nu)])), (tx, .inl (cI, 90, .inl t))] [(cI, .int)] [.ref so, .int (nI (dg9)), .int (lo9), .int (hi9)] (fun (r9 : Int32) (u9 : va_W) => r9 = ((rdV t n q dg9 lo9 hi9).1) ∧ u9 = [(so, .inr (4, [.ref tx, .int (nI (n)), .int (nI ((rdV t n q dg9 lo9 hi9).2)), .int (bl), .int (lf), .int (cm), .int (ky), .int (nu)])), (tx, .inl (cI, 90, .inl t))]) := by
  refine gq_of RX4 (by decide) rfl (Nat.le_of_ble_eq_true rfl) ?_
  intro p e s m below meth c ls H hX hr hlocks hK hN hP hD hS hl
  generalize gp_A [(so, .inr (4, [.ref tx, .int (nI (n)), .int (nI (q)), .int (bl), .int (lf), .int (cm), .int (ky), .int (nu)])), (tx, .inl (cI, 90, .inl t))] = A at hD hS ⊢
  have hx := hX.1
  have hb := hX.2.1
  have hown := hX.2.2.2.1
  have hts := hX.2.2.2.2
  have hl : lv_has ls 9 [(0, .ref so), (1, .int (nI (dg9))), (2, .int (lo9)), (3, .int (hi9))] := hl
  refine lv_iconst (v := 1) hx hb dX4_readNumber_0 (by decide) ?_
  refine lv_istore (lv' := [(4, .int (1)), (0, .ref so), (1, .int (nI (dg9))), (2, .int (lo9)), (3, .int (hi9))]) hx hb dX4_readNumber_1 hl (by decide) rfl (fun ls hl => ?_)
  refine lv_iconst (v := 0) hx hb dX4_readNumber_3 (by decide) ?_
  refine lv_istore (lv' := [(5, .int (0)), (4, .int (1)), (0, .ref so), (1, .int (nI (dg9))), (2, .int (lo9)), (3, .int (hi9))]) hx hb dX4_readNumber_4 hl (by decide) rfl (fun ls hl => ?_)
  have LP6 : ∀ n9 : Nat, ∀ (i9 : Nat), (hi : i9 ≤ dg9) → dg9 - i9 < n9 → ∀ (H : Heap) (locs : List Loc), va_P D vwCl [(so, .inr (4, [.ref tx, .int (nI (n)), .int (nI (q)), .int (bl), .int (lf), .int (cm), .int (ky), .int (nu)])), (tx, .inl (cI, 90, .inl t))] H → va_D A [(so, .inr (4, [.ref tx, .int (nI (n)), .int (nI (q)), .int (bl), .int (lf), .int (cm), .int (ky), .int (nu)])), (tx, .inl (cI, 90, .inl t))] → va_S A s.heap H locs → ∀ ls : Array Slot, lv_has ls 9 [(0, .ref so), (1, .int (nI (dg9))), (2, .int (lo9)), (3, .int (hi9)), (4, .int (pw10 i9)), (5, .int (nI (i9)))] → W p l e ({ frames := 1, cells := 0, slots := 0, locals := 20 } : Room) s m ([.ref so, .int (nI (dg9)), .int (lo9), .int (hi9)] : List Value).toArray below meth c H locs 0 0 (MQ below (va_Qi (fun (r9 : Int32) (u9 : va_W) => r9 = ((rdV t n q dg9 lo9 hi9).1) ∧ u9 = [(so, .inr (4, [.ref tx, .int (nI (n)), .int (nI ((rdV t n q dg9 lo9 hi9).2)), .int (bl), .int (lf), .int (cm), .int (ky), .int (nu)])), (tx, .inl (cI, 90, .inl t))]) (fun u t => va_P D vwCl u t.heap) A) ([.ref so, .int (nI (dg9)), .int (lo9), .int (hi9)] : List Value).toArray s 0 0 A) (F0 m 6 ls []) := by
    intro n9
    induction n9 with
    | zero => intros; omega
    | succ n9 ih6 =>
      intro i9 hi hm9 H locs hP hD hS ls hl
      refine lv_iload hx hb dX4_readNumber_6 (lv_at hl 5 rfl) ?_
      refine lv_iload_n hx hb dX4_readNumber_8 rfl (lv_at hl 1 rfl) ?_
      refine lv_icmp_ge (tgt := 25) hx hb dX4_readNumber_9 (by decide) (fun c9_1 => ?_) (fun c9_1 => ?_)
      · skip
        have c9_1 := cn_le (a := dg9) (b := i9) (by omega) (by omega) c9_1
        refine lv_iconst (v := 0) hx hb dX4_readNumber_25 (by decide) ?_
        refine lv_istore (lv' := [(5, .int (0)), (0, .ref so), (1, .int (nI (dg9))), (2, .int (lo9)), (3, .int (hi9)), (4, .int (pw10 i9))]) hx hb dX4_readNumber_26 hl (by decide) rfl (fun ls hl => ?_)
        refine lv_iconst (v := 0) hx hb dX4_readNumber_28 (by decide) ?_
        refine lv_istore (lv' := [(6, .int (0)), (5, .int (0)), (0, .ref so), (1, .int (nI (dg9))), (2, .int (lo9)), (3, .int (hi9)), (4, .int (pw10 i9))]) hx hb dX4_readNumber_29 hl (by decide) rfl (fun ls hl => ?_)
        have LP31 : ∀ n9 : Nat, ∀ (i9 : Nat) (sp : Int32) (rd : Int32) (q8 : Nat), (hi : i9 ≤ dg9) → (hq8 : q8 ≤ n) → (hs8 : rdN t n lo9 hi9 (dg9 - i9) sp rd q8 = ((rdV t n q dg9 lo9 hi9).1, (rdV t n q dg9 lo9 hi9).2)) → dg9 - i9 < n9 → ∀ (H : Heap) (locs : List Loc), va_P D vwCl [(so, .inr (4, [.ref tx, .int (nI (n)), .int (nI (q8)), .int (bl), .int (lf), .int (cm), .int (ky), .int (nu)])), (tx, .inl (cI, 90, .inl t))] H → va_D A [(so, .inr (4, [.ref tx, .int (nI (n)), .int (nI (q8)), .int (bl), .int (lf), .int (cm), .int (ky), .int (nu)])), (tx, .inl (cI, 90, .inl t))] → va_S A s.heap H locs → ∀ ls : Array Slot, lv_has ls 9 [(0, .ref so), (1, .int (nI (dg9))), (2, .int (lo9)), (3, .int (hi9)), (4, .int (sp)), (5, .int (rd)), (6, .int (nI (i9)))] → W p l e ({ frames := 1, cells := 0, slots := 0, locals := 20 } : Room) s m ([.ref so, .int (nI (dg9)), .int (lo9), .int (hi9)] : List Value).toArray below meth c H locs 0 0 (MQ below (va_Qi (fun (r9 : Int32) (u9 : va_W) => r9 = ((rdV t n q dg9 lo9 hi9).1) ∧ u9 = [(so, .inr (4, [.ref tx, .int (nI (n)), .int (nI ((rdV t n q dg9 lo9 hi9).2)), .int (bl), .int (lf), .int (cm), .int (ky), .int (nu)])), (tx, .inl (cI, 90, .inl t))]) (fun u t => va_P D vwCl u t.heap) A) ([.ref so, .int (nI (dg9)), .int (lo9), .int (hi9)] : List Value).toArray s 0 0 A) (F0 m 31 ls []) := by
          intro n9
          induction n9 with
          | zero => intros; omega
          | succ n9 ih31 =>
            intro i9 sp rd q8 hi hq8 hs8 hm9 H locs hP hD hS ls hl
            refine lv_iload hx hb dX4_readNumber_31 (lv_at hl 6 rfl) ?_
            refine lv_iload_n hx hb dX4_readNumber_33 rfl (lv_at hl 1 rfl) ?_
            refine lv_icmp_ge (tgt := 124) hx hb dX4_readNumber_34 (by decide) (fun c34_2 => ?_) (fun c34_2 => ?_)
            · skip
              have c34_2 := cn_le (a := dg9) (b := i9) (by omega) (by omega) c34_2
              rw [show dg9 - i9 = 0 by omega, rdN] at hs8
              obtain ⟨hv9, hq9⟩ := Prod.mk.inj hs8
              refine lv_iload hx hb dX4_readNumber_124 (lv_at hl 5 rfl) ?_
              refine lv_bipush (v := 10) hx hb dX4_readNumber_126 (by decide) ?_
              refine lv_idiv hx hb dX4_readNumber_128 (by decide) ?_
              have hP : va_P D vwCl [(so, .inr (4, [.ref tx, .int (nI (n)), .int (nI ((rdV t n q dg9 lo9 hi9).2)), .int (bl), .int (lf), .int (cm), .int (ky), .int (nu)])), (tx, .inl (cI, 90, .inl t))] H := by
                rw [show (nI ((rdV t n q dg9 lo9 hi9).2) : Int32) = nI (q8) from by rw [hq9]]
                exact hP
              exact gp_reti hX hr hlocks hS hP ⟨hv9, rfl⟩ dX4_readNumber_129
            · skip
              have c34_2 := cn_nle (a := dg9) (b := i9) (by omega) (by omega) c34_2
              obtain ⟨mq, hm⟩ : ∃ mq, dg9 - i9 = mq + 1 := ⟨dg9 - i9 - 1, by omega⟩
              have hm3 : mq = dg9 - (i9 + 1) := by omega
              rw [hm, rdN] at hs8
              refine lv_aload_n hx hb dX4_readNumber_37 rfl (lv_at hl 0 rfl) ?_
              refine rq_callV hX good6 (m6 221 rfl) (c4_current l D cI so tx t n hn q8 (by omega) bl lf cm ky nu ) q4_current rfl (m6 218 rfl) (m6 219 rfl) (m6 220 rfl) ⟨Nat.le_of_ble_eq_true rfl, Nat.le_of_ble_eq_true rfl⟩ hK hN [0] rfl hP [0, 1] rfl (ci := 4) (q0 := 0) rfl rfl rfl hS hl.1 rfl (Nat.le_of_ble_eq_true rfl) dX4_readNumber_38 ⟨Nat.zero_le _, Nat.zero_le _⟩ (fun H locs hP hS => ?_)
              refine lv_bipush (v := 48) hx hb dX4_readNumber_41 (by decide) ?_
              refine lv_isub hx hb dX4_readNumber_43 ?_
              refine lv_istore (lv' := [(7, .int ((crV t n q8) - 48)), (0, .ref so), (1, .int (nI (dg9))), (2, .int (lo9)), (3, .int (hi9)), (4, .int (sp)), (5, .int (rd)), (6, .int (nI (i9)))]) hx hb dX4_readNumber_44 hl (by decide) rfl (fun ls hl => ?_)
              refine lv_iload hx hb dX4_readNumber_46 (lv_at hl 0 rfl) ?_
              refine lv_if_lt (tgt := 58) hx hb dX4_readNumber_48 (by decide) (fun c48_3 => ?_) (fun c48_3 => ?_)
              · skip
                rw [if_pos c48_3] at hs8
                obtain ⟨hv9, hq9⟩ := Prod.mk.inj hs8
                refine lv_bipush (v := (-9)) hx hb dX4_readNumber_58 (by decide) ?_
                have hP : va_P D vwCl [(so, .inr (4, [.ref tx, .int (nI (n)), .int (nI ((rdV t n q dg9 lo9 hi9).2)), .int (bl), .int (lf), .int (cm), .int (ky), .int (nu)])), (tx, .inl (cI, 90, .inl t))] H := by
                  rw [show (nI ((rdV t n q dg9 lo9 hi9).2) : Int32) = nI (q8) from by rw [hq9]]
                  exact hP
                exact gp_reti hX hr hlocks hS hP ⟨hv9, rfl⟩ dX4_readNumber_60
              · skip
                refine lv_iload hx hb dX4_readNumber_51 (lv_at hl 0 rfl) ?_
                refine lv_bipush (v := 9) hx hb dX4_readNumber_53 (by decide) ?_
                refine lv_icmp_le (tgt := 61) hx hb dX4_readNumber_55 (by decide) (fun c55_4 => ?_) (fun c55_4 => ?_)
                · skip
                  have c55_4 := i_nlt c55_4
                  refine lv_iload hx hb dX4_readNumber_61 (lv_at hl 5 rfl) ?_
                  refine lv_bipush (v := 10) hx hb dX4_readNumber_63 (by decide) ?_
                  refine lv_idiv hx hb dX4_readNumber_65 (by decide) ?_
                  refine lv_istore (lv' := [(4, .int (sp / 10)), (7, .int ((crV t n q8) - 48)), (0, .ref so), (1, .int (nI (dg9))), (2, .int (lo9)), (3, .int (hi9)), (5, .int (rd)), (6, .int (nI (i9)))]) hx hb dX4_readNumber_66 hl (by decide) rfl (fun ls hl => ?_)
                  refine lv_iload hx hb dX4_readNumber_68 (lv_at hl 6 rfl) ?_
                  refine lv_iload hx hb dX4_readNumber_70 (lv_at hl 1 rfl) ?_
                  refine lv_iadd hx hb dX4_readNumber_72 ?_
                  refine lv_iload hx hb dX4_readNumber_73 (lv_at hl 0 rfl) ?_
                  refine lv_imul hx hb dX4_readNumber_75 ?_
                  refine lv_istore (lv' := [(8, .int ((rd + ((crV t n q8) - 48)) * (sp / 10))), (4, .int (sp / 10)), (7, .int ((crV t n q8) - 48)), (0, .ref so), (1, .int (nI (dg9))), (2, .int (lo9)), (3, .int (hi9)), (5, .int (rd)), (6, .int (nI (i9)))]) hx hb dX4_readNumber_76 hl (by decide) rfl (fun ls hl => ?_)
                  refine lv_iload hx hb dX4_readNumber_78 (lv_at hl 0 rfl) ?_
                  refine lv_iload_n hx hb dX4_readNumber_80 rfl (lv_at hl 6 rfl) ?_
                  refine lv_icmp_gt (tgt := 95) hx hb dX4_readNumber_81 (by decide) (fun c81_5 => ?_) (fun c81_5 => ?_)
                  · skip
                    rw [if_neg c48_3, if_neg c55_4, if_pos c81_5] at hs8
                    obtain ⟨hv9, hq9⟩ := Prod.mk.inj hs8
                    refine lv_bipush (v := (-9)) hx hb dX4_readNumber_95 (by decide) ?_
                    have hP : va_P D vwCl [(so, .inr (4, [.ref tx, .int (nI (n)), .int (nI ((rdV t n q dg9 lo9 hi9).2)), .int (bl), .int (lf), .int (cm), .int (ky), .int (nu)])), (tx, .inl (cI, 90, .inl t))] H := by
                      rw [show (nI ((rdV t n q dg9 lo9 hi9).2) : Int32) = nI (q8) from by rw [hq9]]
                      exact hP
                    exact gp_reti hX hr hlocks hS hP ⟨hv9, rfl⟩ dX4_readNumber_97
                  · skip
                    refine lv_iload hx hb dX4_readNumber_84 (lv_at hl 0 rfl) ?_
                    refine lv_iload hx hb dX4_readNumber_86 (lv_at hl 1 rfl) ?_
                    refine lv_iadd hx hb dX4_readNumber_88 ?_
                    refine lv_iconst (v := 1) hx hb dX4_readNumber_89 (by decide) ?_
                    refine lv_isub hx hb dX4_readNumber_90 ?_
                    refine lv_iload_n hx hb dX4_readNumber_91 rfl (lv_at hl 5 rfl) ?_
                    refine lv_icmp_ge (tgt := 98) hx hb dX4_readNumber_92 (by decide) (fun c92_6 => ?_) (fun c92_6 => ?_)
                    · skip
                      have c92_6 := i_nlt c92_6
                      refine lv_iload hx hb dX4_readNumber_98 (lv_at hl 7 rfl) ?_
                      refine lv_iload hx hb dX4_readNumber_100 (lv_at hl 2 rfl) ?_
                      refine lv_iadd hx hb dX4_readNumber_102 ?_
                      refine lv_bipush (v := 10) hx hb dX4_readNumber_103 (by decide) ?_
                      refine lv_imul hx hb dX4_readNumber_105 ?_
                      refine lv_istore (lv' := [(5, .int ((rd + ((crV t n q8) - 48)) * 10)), (8, .int ((rd + ((crV t n q8) - 48)) * (sp / 10))), (4, .int (sp / 10)), (7, .int ((crV t n q8) - 48)), (0, .ref so), (1, .int (nI (dg9))), (2, .int (lo9)), (3, .int (hi9)), (6, .int (nI (i9)))]) hx hb dX4_readNumber_106 hl (by decide) rfl (fun ls hl => ?_)
                      refine lv_aload_n hx hb dX4_readNumber_108 rfl (lv_at hl 4 rfl) ?_
                      refine lv_dup hx hb dX4_readNumber_109 rfl ?_
                      refine va_get (D := D) (ci := 4) (v := .int (nI (q8))) (C := RX4) (T := TX4) (N := 8) hx hb hts u6_X4 hown hK hP 0 rfl rfl 2 (by decide) (hts _ (m6 217 rfl)) (fun _ h9 => h9) rfl dX4_readNumber_110 ?_
                      refine lv_iconst (v := 1) hx hb dX4_readNumber_113 (by decide) ?_
                      refine lv_iadd hx hb dX4_readNumber_114 ?_
                      refine lv_as (y := nI (q8 + 1)) (nI_add (q8) (1)) ?_
                      refine va_put (D := D) (ci := 4) (v := .int (nI (q8 + 1))) (ty := .int) (C := RX4) (T := TX4) (N := 8) hx hb hts u6_X4 tyX4 tyX4_ok nmX4 hown hK hP hD hS 0 rfl rfl 2 (by decide) (hts _ (m6 217 rfl)) (fun _ h9 => h9) rfl (by decide +kernel) rfl rfl (Nat.le_of_ble_eq_true rfl) dX4_readNumber_115 (fun H locs hP hD hS => ?_)
                      have hP : va_P D vwCl [(so, .inr (4, [.ref tx, .int (nI (n)), .int (nI (q8 + 1)), .int (bl), .int (lf), .int (cm), .int (ky), .int (nu)])), (tx, .inl (cI, 90, .inl t))] H := hP
                      have hD : va_D A [(so, .inr (4, [.ref tx, .int (nI (n)), .int (nI (q8 + 1)), .int (bl), .int (lf), .int (cm), .int (ky), .int (nu)])), (tx, .inl (cI, 90, .inl t))] := hD
                      refine lv_iinc (v := nI (i9 + 1)) (lv' := [(6, .int (nI (i9 + 1))), (5, .int ((rd + ((crV t n q8) - 48)) * 10)), (8, .int ((rd + ((crV t n q8) - 48)) * (sp / 10))), (4, .int (sp / 10)), (7, .int ((crV t n q8) - 48)), (0, .ref so), (1, .int (nI (dg9))), (2, .int (lo9)), (3, .int (hi9))]) hx hb dX4_readNumber_118 hl (k := 8) rfl (nI_add _ 1) (by decide) rfl (fun ls hl => ?_)
                      refine lv_goto (tgt := 31) hx hb dX4_readNumber_121 (by decide) ?_
                      have hl : lv_has ls 9 [(6, .int (nI (i9 + 1))), (5, .int ((rd + ((crV t n q8) - 48)) * 10)), (8, .int ((rd + ((crV t n q8) - 48)) * (sp / 10))), (4, .int ((sp / 10))), (7, .int ((crV t n q8) - 48)), (0, .ref so), (1, .int (nI (dg9))), (2, .int (lo9)), (3, .int (hi9))] := lv_re hl 3 rfl (show (sp / 10) = (sp / 10) from rfl)
                      have hl : lv_has ls 9 [(6, .int (nI (i9 + 1))), (5, .int (((rd + ((crV t n q8) - 48)) * 10))), (8, .int ((rd + ((crV t n q8) - 48)) * (sp / 10))), (4, .int ((sp / 10))), (7, .int ((crV t n q8) - 48)), (0, .ref so), (1, .int (nI (dg9))), (2, .int (lo9)), (3, .int (hi9))] := lv_re hl 1 rfl (show ((rd + ((crV t n q8) - 48)) * 10) = ((rd + ((crV t n q8) - 48)) * 10) from rfl)
                      have hl : lv_has ls 9 [(6, .int (nI ((i9 + 1)))), (5, .int (((rd + ((crV t n q8) - 48)) * 10))), (8, .int ((rd + ((crV t n q8) - 48)) * (sp / 10))), (4, .int ((sp / 10))), (7, .int ((crV t n q8) - 48)), (0, .ref so), (1, .int (nI (dg9))), (2, .int (lo9)), (3, .int (hi9))] := lv_re hl 0 rfl (show (nI (i9 + 1)) = nI ((i9 + 1)) from rfl)
                      have hP : va_P D vwCl [(so, .inr (4, [.ref tx, .int (nI (n)), .int (nI ((q8 + 1))), .int (bl), .int (lf), .int (cm), .int (ky), .int (nu)])), (tx, .inl (cI, 90, .inl t))] H := by
                        exact hP
                      have hD : va_D A [(so, .inr (4, [.ref tx, .int (nI (n)), .int (nI ((q8 + 1))), .int (bl), .int (lf), .int (cm), .int (ky), .int (nu)])), (tx, .inl (cI, 90, .inl t))] := gp_D hD (by simp only [List.map_cons, List.map_nil])
                      have hP : va_P D vwCl [(so, .inr (4, [.ref tx, .int (nI (n)), .int (nI ((q8 + 1))), .int (bl), .int (lf), .int (cm), .int (ky), .int (nu)])), (tx, .inl (cI, 90, .inl t))] H := hP
                      have hD : va_D A [(so, .inr (4, [.ref tx, .int (nI (n)), .int (nI ((q8 + 1))), .int (bl), .int (lf), .int (cm), .int (ky), .int (nu)])), (tx, .inl (cI, 90, .inl t))] := hD
                      exact ih31 (i9 + 1) (sp / 10) ((rd + ((crV t n q8) - 48)) * 10) (q8 + 1) (by omega) (crV_in c48_3) (by rw [if_neg c48_3, if_neg c55_4, if_neg c81_5, if_neg c92_6, hm3] at hs8; exact hs8) (by omega) _ _ hP hD hS _ (lv_sub hl [5, 6, 7, 8, 3, 1, 0] rfl)
                    · skip
                      have c92_6 := i_lt c92_6
                      rw [if_neg c48_3, if_neg c55_4, if_neg c81_5, if_pos c92_6] at hs8
                      obtain ⟨hv9, hq9⟩ := Prod.mk.inj hs8
                      refine lv_bipush (v := (-9)) hx hb dX4_readNumber_95 (by decide) ?_
                      have hP : va_P D vwCl [(so, .inr (4, [.ref tx, .int (nI (n)), .int (nI ((rdV t n q dg9 lo9 hi9).2)), .int (bl), .int (lf), .int (cm), .int (ky), .int (nu)])), (tx, .inl (cI, 90, .inl t))] H := by
                        rw [show (nI ((rdV t n q dg9 lo9 hi9).2) : Int32) = nI (q8) from by rw [hq9]]
                        exact hP
                      exact gp_reti hX hr hlocks hS hP ⟨hv9, rfl⟩ dX4_readNumber_97
                · skip
                  have c55_4 := i_lt c55_4
                  rw [if_neg c48_3, if_pos c55_4] at hs8
                  obtain ⟨hv9, hq9⟩ := Prod.mk.inj hs8
                  refine lv_bipush (v := (-9)) hx hb dX4_readNumber_58 (by decide) ?_
                  have hP : va_P D vwCl [(so, .inr (4, [.ref tx, .int (nI (n)), .int (nI ((rdV t n q dg9 lo9 hi9).2)), .int (bl), .int (lf), .int (cm), .int (ky), .int (nu)])), (tx, .inl (cI, 90, .inl t))] H := by
                    rw [show (nI ((rdV t n q dg9 lo9 hi9).2) : Int32) = nI (q8) from by rw [hq9]]
                    exact hP
                  exact gp_reti hX hr hlocks hS hP ⟨hv9, rfl⟩ dX4_readNumber_60
        have hl : lv_has ls 9 [(6, .int (0)), (5, .int (0)), (0, .ref so), (1, .int (nI (dg9))), (2, .int (lo9)), (3, .int (hi9)), (4, .int ((pw10 dg9)))] := lv_re hl 6 rfl (show (pw10 i9) = (pw10 dg9) from by rw [← show i9 = dg9 by omega])
        have hl : lv_has ls 9 [(6, .int (nI (0))), (5, .int (0)), (0, .ref so), (1, .int (nI (dg9))), (2, .int (lo9)), (3, .int (hi9)), (4, .int ((pw10 dg9)))] := lv_re hl 0 rfl (show 0 = nI (0) from rfl)
        exact LP31 ((dg9 - 0) + 1) 0 (pw10 dg9) 0 q (by omega) (hq) (rfl) (by omega) _ _ hP hD hS _ (lv_sub hl [2, 3, 4, 5, 6, 1, 0] rfl)
      · skip
        have c9_1 := cn_nle (a := dg9) (b := i9) (by omega) (by omega) c9_1
        refine lv_iload hx hb dX4_readNumber_12 (lv_at hl 4 rfl) ?_
        refine lv_bipush (v := 10) hx hb dX4_readNumber_14 (by decide) ?_
        refine lv_imul hx hb dX4_readNumber_16 ?_
        refine lv_istore (lv' := [(4, .int ((pw10 i9) * 10)), (0, .ref so), (1, .int (nI (dg9))), (2, .int (lo9)), (3, .int (hi9)), (5, .int (nI (i9)))]) hx hb dX4_readNumber_17 hl (by decide) rfl (fun ls hl => ?_)
        refine lv_iinc (v := nI (i9 + 1)) (lv' := [(5, .int (nI (i9 + 1))), (4, .int ((pw10 i9) * 10)), (0, .ref so), (1, .int (nI (dg9))), (2, .int (lo9)), (3, .int (hi9))]) hx hb dX4_readNumber_19 hl (k := 5) rfl (nI_add _ 1) (by decide) rfl (fun ls hl => ?_)
        refine lv_goto (tgt := 6) hx hb dX4_readNumber_22 (by decide) ?_
        have hl : lv_has ls 9 [(5, .int (nI (i9 + 1))), (4, .int (pw10 (i9 + 1))), (0, .ref so), (1, .int (nI (dg9))), (2, .int (lo9)), (3, .int (hi9))] := lv_re hl 1 rfl (show ((pw10 i9) * 10) = pw10 (i9 + 1) from rfl)
        have hl : lv_has ls 9 [(5, .int (nI ((i9 + 1)))), (4, .int (pw10 (i9 + 1))), (0, .ref so), (1, .int (nI (dg9))), (2, .int (lo9)), (3, .int (hi9))] := lv_re hl 0 rfl (show (nI (i9 + 1)) = nI ((i9 + 1)) from rfl)
        exact ih6 (i9 + 1) (by omega) (by omega) _ _ hP hD hS _ (lv_sub hl [2, 3, 4, 5, 1, 0] rfl)
  have hl : lv_has ls 9 [(5, .int (0)), (4, .int (pw10 0)), (0, .ref so), (1, .int (nI (dg9))), (2, .int (lo9)), (3, .int (hi9))] := lv_re hl 1 rfl (show 1 = pw10 0 from rfl)
  have hl : lv_has ls 9 [(5, .int (nI (0))), (4, .int (pw10 0)), (0, .ref so), (1, .int (nI (dg9))), (2, .int (lo9)), (3, .int (hi9))] := lv_re hl 0 rfl (show 0 = nI (0) from rfl)
  exact LP6 ((dg9 - 0) + 1) 0 (by omega) (by omega) _ _ hP hD hS _ (lv_sub hl [2, 3, 4, 5, 1, 0] rfl)
