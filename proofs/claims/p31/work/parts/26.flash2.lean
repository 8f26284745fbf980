theorem dX0_leastWornCleanBlock_0 : decode cX0_leastWornCleanBlock 0 = .ok (.bipush (-9), 2) := by decide +kernel
theorem dX0_leastWornCleanBlock_2 : decode cX0_leastWornCleanBlock 2 = .ok (.istore_n 2, 1) := by decide +kernel
theorem dX0_leastWornCleanBlock_3 : decode cX0_leastWornCleanBlock 3 = .ok (.iconst 0, 1) := by decide +kernel
theorem dX0_leastWornCleanBlock_4 : decode cX0_leastWornCleanBlock 4 = .ok (.istore_n 3, 1) := by decide +kernel
theorem dX0_leastWornCleanBlock_5 : decode cX0_leastWornCleanBlock 5 = .ok (.iconst 0, 1) := by decide +kernel
theorem dX0_leastWornCleanBlock_6 : decode cX0_leastWornCleanBlock 6 = .ok (.istore 4, 2) := by decide +kernel
theorem dX0_leastWornCleanBlock_8 : decode cX0_leastWornCleanBlock 8 = .ok (.iload 4, 2) := by decide +kernel
theorem dX0_leastWornCleanBlock_10 : decode cX0_leastWornCleanBlock 10 = .ok (.aload_n 0, 1) := by decide +kernel
theorem dX0_leastWornCleanBlock_11 : decode cX0_leastWornCleanBlock 11 = .ok (.getfield 45, 3) := by decide +kernel
theorem dX0_leastWornCleanBlock_14 : decode cX0_leastWornCleanBlock 14 = .ok (.if_icmp .ge 61, 3) := by decide +kernel
theorem dX0_leastWornCleanBlock_17 : decode cX0_leastWornCleanBlock 17 = .ok (.iload 4, 2) := by decide +kernel
theorem dX0_leastWornCleanBlock_19 : decode cX0_leastWornCleanBlock 19 = .ok (.bipush 8, 2) := by decide +kernel
theorem dX0_leastWornCleanBlock_21 : decode cX0_leastWornCleanBlock 21 = .ok (.if_icmp .ge 54, 3) := by decide +kernel
theorem dX0_leastWornCleanBlock_24 : decode cX0_leastWornCleanBlock 24 = .ok (.iload 4, 2) := by decide +kernel
theorem dX0_leastWornCleanBlock_26 : decode cX0_leastWornCleanBlock 26 = .ok (.iload_n 1, 1) := by decide +kernel
theorem dX0_leastWornCleanBlock_27 : decode cX0_leastWornCleanBlock 27 = .ok (.if_icmp .eq 42, 3) := by decide +kernel
theorem dX0_leastWornCleanBlock_30 : decode cX0_leastWornCleanBlock 30 = .ok (.aload_n 0, 1) := by decide +kernel
theorem dX0_leastWornCleanBlock_31 : decode cX0_leastWornCleanBlock 31 = .ok (.getfield 33, 3) := by decide +kernel
theorem dX0_leastWornCleanBlock_34 : decode cX0_leastWornCleanBlock 34 = .ok (.iload 4, 2) := by decide +kernel
theorem dX0_leastWornCleanBlock_36 : decode cX0_leastWornCleanBlock 36 = .ok (.iaload, 1) := by decide +kernel
theorem dX0_leastWornCleanBlock_37 : decode cX0_leastWornCleanBlock 37 = .ok (.iconst 4, 1) := by decide +kernel
theorem dX0_leastWornCleanBlock_38 : decode cX0_leastWornCleanBlock 38 = .ok (.if_icmp .ne 31, 3) := by decide +kernel
theorem dX0_leastWornCleanBlock_41 : decode cX0_leastWornCleanBlock 41 = .ok (.iload_n 2, 1) := by decide +kernel
theorem dX0_leastWornCleanBlock_42 : decode cX0_leastWornCleanBlock 42 = .ok (.bipush (-9), 2) := by decide +kernel
theorem dX0_leastWornCleanBlock_44 : decode cX0_leastWornCleanBlock 44 = .ok (.if_icmp .eq 14, 3) := by decide +kernel
theorem dX0_leastWornCleanBlock_47 : decode cX0_leastWornCleanBlock 47 = .ok (.aload_n 0, 1) := by decide +kernel
theorem dX0_leastWornCleanBlock_48 : decode cX0_leastWornCleanBlock 48 = .ok (.getfield 24, 3) := by decide +kernel
theorem dX0_leastWornCleanBlock_51 : decode cX0_leastWornCleanBlock 51 = .ok (.iload 4, 2) := by decide +kernel
theorem dX0_leastWornCleanBlock_53 : decode cX0_leastWornCleanBlock 53 = .ok (.iaload, 1) := by decide +kernel
theorem dX0_leastWornCleanBlock_54 : decode cX0_leastWornCleanBlock 54 = .ok (.iload_n 3, 1) := by decide +kernel
theorem dX0_leastWornCleanBlock_55 : decode cX0_leastWornCleanBlock 55 = .ok (.if_icmp .ge 14, 3) := by decide +kernel
theorem dX0_leastWornCleanBlock_58 : decode cX0_leastWornCleanBlock 58 = .ok (.iload 4, 2) := by decide +kernel
theorem dX0_leastWornCleanBlock_60 : decode cX0_leastWornCleanBlock 60 = .ok (.istore_n 2, 1) := by decide +kernel
theorem dX0_leastWornCleanBlock_61 : decode cX0_leastWornCleanBlock 61 = .ok (.aload_n 0, 1) := by decide +kernel
theorem dX0_leastWornCleanBlock_62 : decode cX0_leastWornCleanBlock 62 = .ok (.getfield 24, 3) := by decide +kernel
theorem dX0_leastWornCleanBlock_65 : decode cX0_leastWornCleanBlock 65 = .ok (.iload 4, 2) := by decide +kernel
theorem dX0_leastWornCleanBlock_67 : decode cX0_leastWornCleanBlock 67 = .ok (.iaload, 1) := by decide +kernel
theorem dX0_leastWornCleanBlock_68 : decode cX0_leastWornCleanBlock 68 = .ok (.istore_n 3, 1) := by decide +kernel
theorem dX0_leastWornCleanBlock_69 : decode cX0_leastWornCleanBlock 69 = .ok (.iinc 4 1, 3) := by decide +kernel
theorem dX0_leastWornCleanBlock_72 : decode cX0_leastWornCleanBlock 72 = .ok (.goto (-64), 3) := by decide +kernel
theorem dX0_leastWornCleanBlock_75 : decode cX0_leastWornCleanBlock 75 = .ok (.iload_n 2, 1) := by decide +kernel
theorem dX0_leastWornCleanBlock_76 : decode cX0_leastWornCleanBlock 76 = .ok (.ireturn, 1) := by decide +kernel
theorem q0_leastWornCleanBlock : CQ W6 yX0_leastWornCleanBlock cX0_leastWornCleanBlock 5 (some .int) 1 := ⟨(m6 158 rfl), by decide, by decide, by decide +kernel⟩
set_option maxHeartbeats 4000000 in
set_option maxRecDepth 100000 in
theorem c0_leastWornCleanBlock (l : Launch) (D : va_G) (cI : ClassId) (fo a0 a1 a2 a3 a4 a5 a6 a7 : Nat) (kd ky vl mk wr lv nw fr : Nat → Int32) (B : Nat) (hB8 : B ≤ 8) (x : Int32) : RQ l yX0_leastWornCleanBlock cX0_leastWornCleanBlock 5 .int W6 0 0 D [(fo, .inr (0, [.ref a0, .ref a1, .ref a2, .ref a3, .ref a4, .ref a5, .ref a6, .ref a7, .int (nI (B))])), (a0, .inl (cI, 32, .inl kd)), (a1, .inl (cI, 32, .inl ky)), (a2, .inl (cI, 32, .inl vl)), (a3, .inl (cI, 32, .inl mk)), (a4, .inl (cI, 8, .inl wr)), (a5, .inl (cI, 32, .inl lv)), (a6, .inl (cI, 16, .inl nw)), (a7, .inl (cI, 8, .inl fr))] [(cI, .int)] [.ref fo, .int (x)] (oI (lwF fr wr x B)) := by
  refine rq_of RX0 (by decide) rfl (Nat.le_of_ble_eq_true rfl) ?_
  intro p e s m below meth c ls hX hr hlocks hK hN hP hS hl
  have hx := hX.1
  have hb := hX.2.1
  have hown := hX.2.2.2.1
  have hts := hX.2.2.2.2
  have hl : lv_has ls 5 [(0, .ref fo), (1, .int (x))] := hl
  refine lv_bipush (v := (-9)) hx hb dX0_leastWornCleanBlock_0 (by decide) ?_
  refine lv_istore_n (lv' := [(2, .int ((-9))), (0, .ref fo), (1, .int (x))]) hx hb dX0_leastWornCleanBlock_2 rfl hl (by decide) rfl (fun ls hl => ?_)
  refine lv_iconst (v := 0) hx hb dX0_leastWornCleanBlock_3 (by decide) ?_
  refine lv_istore_n (lv' := [(3, .int (0)), (2, .int ((-9))), (0, .ref fo), (1, .int (x))]) hx hb dX0_leastWornCleanBlock_4 rfl hl (by decide) rfl (fun ls hl => ?_)
  refine lv_iconst (v := 0) hx hb dX0_leastWornCleanBlock_5 (by decide) ?_
  refine lv_istore (lv' := [(4, .int (0)), (3, .int (0)), (2, .int ((-9))), (0, .ref fo), (1, .int (x))]) hx hb dX0_leastWornCleanBlock_6 hl (by decide) rfl (fun ls hl => ?_)
  have LP8 : ∀ n9 : Nat, ∀ (j : Nat), (hj : j ≤ B) → B - j < n9 → ∀ (H : Heap) (locs : List Loc), va_P D vwCl [(fo, .inr (0, [.ref a0, .ref a1, .ref a2, .ref a3, .ref a4, .ref a5, .ref a6, .ref a7, .int (nI (B))])), (a0, .inl (cI, 32, .inl kd)), (a1, .inl (cI, 32, .inl ky)), (a2, .inl (cI, 32, .inl vl)), (a3, .inl (cI, 32, .inl mk)), (a4, .inl (cI, 8, .inl wr)), (a5, .inl (cI, 32, .inl lv)), (a6, .inl (cI, 16, .inl nw)), (a7, .inl (cI, 8, .inl fr))] H → va_S (fun _ => False) s.heap H locs → ∀ ls : Array Slot, lv_has ls 5 [(0, .ref fo), (1, .int (x)), (2, .int (oI (lwF fr wr x j))), (3, .int (lwL wr (lwF fr wr x j))), (4, .int (nI (j)))] → W p l e ({ frames := 0, cells := 0, slots := 0, locals := 0 } : Room) s m ([.ref fo, .int (x)] : List Value).toArray below meth c H locs 0 0 (MQ below (rp_Qi (oI (lwF fr wr x B))) ([.ref fo, .int (x)] : List Value).toArray s 0 0 (fun _ => False)) (F0 m 8 ls []) := by
    intro n9
    induction n9 with
    | zero => intros; omega
    | succ n9 ih8 =>
      intro j hj hm9 H locs hP hS ls hl
      refine lv_iload hx hb dX0_leastWornCleanBlock_8 (lv_at hl 4 rfl) ?_
      refine lv_aload_n hx hb dX0_leastWornCleanBlock_10 rfl (lv_at hl 0 rfl) ?_
      refine va_get (D := D) (ci := 0) (v := .int (nI (B))) (C := RX0) (T := TX0) (N := 9) hx hb hts u6_X0 hown hK hP 0 rfl rfl 8 (by decide) (hts _ (m6 19 rfl)) (fun _ h9 => h9) rfl dX0_leastWornCleanBlock_11 ?_
      refine lv_icmp_ge (tgt := 75) hx hb dX0_leastWornCleanBlock_14 (by decide) (fun c14_1 => ?_) (fun c14_1 => ?_)
      · skip
        have c14_1 := cn_le (a := B) (b := j) (by omega) (by omega) c14_1
        refine lv_iload_n hx hb dX0_leastWornCleanBlock_75 rfl (lv_at hl 2 rfl) ?_
        exact rp_ret hX hr hlocks hS (by rw [show j = B by omega]) dX0_leastWornCleanBlock_76
      · skip
        have c14_1 := cn_nle (a := B) (b := j) (by omega) (by omega) c14_1
        rcases hO2 : lwF fr wr x j with _ | o2
        · skip
          have hl : lv_has ls 5 [(0, .ref fo), (1, .int (x)), (2, .int ((-9))), (3, .int (0)), (4, .int (nI (j)))] := by rw [hO2] at hl; exact hl
          refine lv_iload hx hb dX0_leastWornCleanBlock_17 (lv_at hl 4 rfl) ?_
          refine lv_bipush (v := 8) hx hb dX0_leastWornCleanBlock_19 (by decide) ?_
          refine lv_icmp_ge (tgt := 75) hx hb dX0_leastWornCleanBlock_21 (by decide) (fun c21_3 => ?_) (fun c21_3 => ?_)
          · skip
            have c21_3 := cn_le (a := 8) (b := j) (by omega) (by omega) c21_3
            refine lv_iload_n hx hb dX0_leastWornCleanBlock_75 rfl (lv_at hl 2 rfl) ?_
            exact rp_ret hX hr hlocks hS (by rw [← show j = B by omega, hO2]; rfl) dX0_leastWornCleanBlock_76
          · skip
            have c21_3 := cn_nle (a := 8) (b := j) (by omega) (by omega) c21_3
            refine lv_iload hx hb dX0_leastWornCleanBlock_24 (lv_at hl 4 rfl) ?_
            refine lv_iload_n hx hb dX0_leastWornCleanBlock_26 rfl (lv_at hl 1 rfl) ?_
            refine lv_icmp_eq (tgt := 69) hx hb dX0_leastWornCleanBlock_27 (by decide) (fun c27_4 => ?_) (fun c27_4 => ?_)
            · skip
              refine lv_iinc (v := nI (j + 1)) (lv' := [(4, .int (nI (j + 1))), (0, .ref fo), (1, .int (x)), (2, .int ((-9))), (3, .int (0))]) hx hb dX0_leastWornCleanBlock_69 hl (k := 4) rfl (nI_add _ 1) (by decide) rfl (fun ls hl => ?_)
              refine lv_goto (tgt := 8) hx hb dX0_leastWornCleanBlock_72 (by decide) ?_
              have hl : lv_has ls 5 [(4, .int (nI (j + 1))), (0, .ref fo), (1, .int (x)), (2, .int (oI (lwF fr wr x (j + 1)))), (3, .int (0))] := lv_re hl 3 rfl (show (-9) = oI (lwF fr wr x (j + 1)) from by rw [lwF, hO2]; dsimp only; rw [if_neg (fun z => z.1 c27_4)]; rfl)
              have hl : lv_has ls 5 [(4, .int (nI (j + 1))), (0, .ref fo), (1, .int (x)), (2, .int (oI (lwF fr wr x (j + 1)))), (3, .int (lwL wr (lwF fr wr x (j + 1))))] := lv_re hl 4 rfl (show 0 = lwL wr (lwF fr wr x (j + 1)) from by rw [lwF, hO2]; dsimp only; rw [if_neg (fun z => z.1 c27_4)]; rfl)
              have hl : lv_has ls 5 [(4, .int (nI ((j + 1)))), (0, .ref fo), (1, .int (x)), (2, .int (oI (lwF fr wr x (j + 1)))), (3, .int (lwL wr (lwF fr wr x (j + 1))))] := lv_re hl 0 rfl (show nI (j + 1) = nI ((j + 1)) from rfl)
              exact ih8 (j + 1) (by omega) (by omega) _ _ hP hS _ (lv_sub hl [1, 2, 3, 4, 0] rfl)
            · skip
              refine lv_aload_n hx hb dX0_leastWornCleanBlock_30 rfl (lv_at hl 0 rfl) ?_
              refine va_get (D := D) (ci := 0) (v := .ref a7) (C := RX0) (T := TX0) (N := 9) hx hb hts u6_X0 hown hK hP 0 rfl rfl 7 (by decide) (hts _ (m6 11 rfl)) (fun _ h9 => h9) rfl dX0_leastWornCleanBlock_31 ?_
              refine lv_iload hx hb dX0_leastWornCleanBlock_34 (lv_at hl 4 rfl) ?_
              refine ra_iald (i := j) hx hb hK hP 8 0 rfl rfl (by omega) (by decide) dX0_leastWornCleanBlock_36 ?_
              refine lv_iconst (v := 4) hx hb dX0_leastWornCleanBlock_37 (by decide) ?_
              refine lv_icmp_ne (tgt := 69) hx hb dX0_leastWornCleanBlock_38 (by decide) (fun c38_5 => ?_) (fun c38_5 => ?_)
              · skip
                refine lv_iinc (v := nI (j + 1)) (lv' := [(4, .int (nI (j + 1))), (0, .ref fo), (1, .int (x)), (2, .int ((-9))), (3, .int (0))]) hx hb dX0_leastWornCleanBlock_69 hl (k := 4) rfl (nI_add _ 1) (by decide) rfl (fun ls hl => ?_)
                refine lv_goto (tgt := 8) hx hb dX0_leastWornCleanBlock_72 (by decide) ?_
                have hl : lv_has ls 5 [(4, .int (nI (j + 1))), (0, .ref fo), (1, .int (x)), (2, .int (oI (lwF fr wr x (j + 1)))), (3, .int (0))] := lv_re hl 3 rfl (show (-9) = oI (lwF fr wr x (j + 1)) from by rw [lwF, hO2]; dsimp only; rw [if_neg (fun z => c38_5 z.2)]; rfl)
                have hl : lv_has ls 5 [(4, .int (nI (j + 1))), (0, .ref fo), (1, .int (x)), (2, .int (oI (lwF fr wr x (j + 1)))), (3, .int (lwL wr (lwF fr wr x (j + 1))))] := lv_re hl 4 rfl (show 0 = lwL wr (lwF fr wr x (j + 1)) from by rw [lwF, hO2]; dsimp only; rw [if_neg (fun z => c38_5 z.2)]; rfl)
                have hl : lv_has ls 5 [(4, .int (nI ((j + 1)))), (0, .ref fo), (1, .int (x)), (2, .int (oI (lwF fr wr x (j + 1)))), (3, .int (lwL wr (lwF fr wr x (j + 1))))] := lv_re hl 0 rfl (show nI (j + 1) = nI ((j + 1)) from rfl)
                exact ih8 (j + 1) (by omega) (by omega) _ _ hP hS _ (lv_sub hl [1, 2, 3, 4, 0] rfl)
              · skip
                refine lv_iload_n hx hb dX0_leastWornCleanBlock_41 rfl (lv_at hl 2 rfl) ?_
                refine lv_bipush (v := (-9)) hx hb dX0_leastWornCleanBlock_42 (by decide) ?_
                refine lv_icmp_eq (tgt := 58) hx hb dX0_leastWornCleanBlock_44 (by decide) (fun c44_6 => ?_) (fun c44_6 => ?_)
                · skip
                  refine lv_iload hx hb dX0_leastWornCleanBlock_58 (lv_at hl 4 rfl) ?_
                  refine lv_istore_n (lv' := [(2, .int (nI (j))), (0, .ref fo), (1, .int (x)), (3, .int (0)), (4, .int (nI (j)))]) hx hb dX0_leastWornCleanBlock_60 rfl hl (by decide) rfl (fun ls hl => ?_)
                  refine lv_aload_n hx hb dX0_leastWornCleanBlock_61 rfl (lv_at hl 1 rfl) ?_
                  refine va_get (D := D) (ci := 0) (v := .ref a4) (C := RX0) (T := TX0) (N := 9) hx hb hts u6_X0 hown hK hP 0 rfl rfl 4 (by decide) (hts _ (m6 8 rfl)) (fun _ h9 => h9) rfl dX0_leastWornCleanBlock_62 ?_
                  refine lv_iload hx hb dX0_leastWornCleanBlock_65 (lv_at hl 4 rfl) ?_
                  refine ra_iald (i := j) hx hb hK hP 5 0 rfl rfl (by omega) (by decide) dX0_leastWornCleanBlock_67 ?_
                  refine lv_istore_n (lv' := [(3, .int (wr (j))), (2, .int (nI (j))), (0, .ref fo), (1, .int (x)), (4, .int (nI (j)))]) hx hb dX0_leastWornCleanBlock_68 rfl hl (by decide) rfl (fun ls hl => ?_)
                  refine lv_iinc (v := nI (j + 1)) (lv' := [(4, .int (nI (j + 1))), (3, .int (wr (j))), (2, .int (nI (j))), (0, .ref fo), (1, .int (x))]) hx hb dX0_leastWornCleanBlock_69 hl (k := 4) rfl (nI_add _ 1) (by decide) rfl (fun ls hl => ?_)
                  refine lv_goto (tgt := 8) hx hb dX0_leastWornCleanBlock_72 (by decide) ?_
                  have hl : lv_has ls 5 [(4, .int (nI (j + 1))), (3, .int (wr (j))), (2, .int (oI (lwF fr wr x (j + 1)))), (0, .ref fo), (1, .int (x))] := lv_re hl 2 rfl (show nI (j) = oI (lwF fr wr x (j + 1)) from by rw [lwF, hO2]; dsimp only; rw [if_pos ⟨c27_4, c38_5⟩]; rfl)
                  have hl : lv_has ls 5 [(4, .int (nI (j + 1))), (3, .int (lwL wr (lwF fr wr x (j + 1)))), (2, .int (oI (lwF fr wr x (j + 1)))), (0, .ref fo), (1, .int (x))] := lv_re hl 1 rfl (show wr (j) = lwL wr (lwF fr wr x (j + 1)) from by rw [lwF, hO2]; dsimp only; rw [if_pos ⟨c27_4, c38_5⟩]; rfl)
                  have hl : lv_has ls 5 [(4, .int (nI ((j + 1)))), (3, .int (lwL wr (lwF fr wr x (j + 1)))), (2, .int (oI (lwF fr wr x (j + 1)))), (0, .ref fo), (1, .int (x))] := lv_re hl 0 rfl (show nI (j + 1) = nI ((j + 1)) from rfl)
                  exact ih8 (j + 1) (by omega) (by omega) _ _ hP hS _ (lv_sub hl [3, 4, 2, 1, 0] rfl)
                · skip
                  exact absurd c44_6 (by decide)
        · skip
          have hl : lv_has ls 5 [(0, .ref fo), (1, .int (x)), (2, .int (nI (o2))), (3, .int (wr o2)), (4, .int (nI (j)))] := by rw [hO2] at hl; exact hl
          have ho2 := lwF_lt hO2
          refine lv_iload hx hb dX0_leastWornCleanBlock_17 (lv_at hl 4 rfl) ?_
          refine lv_bipush (v := 8) hx hb dX0_leastWornCleanBlock_19 (by decide) ?_
          refine lv_icmp_ge (tgt := 75) hx hb dX0_leastWornCleanBlock_21 (by decide) (fun c21_7 => ?_) (fun c21_7 => ?_)
          · skip
            have c21_7 := cn_le (a := 8) (b := j) (by omega) (by omega) c21_7
            refine lv_iload_n hx hb dX0_leastWornCleanBlock_75 rfl (lv_at hl 2 rfl) ?_
            exact rp_ret hX hr hlocks hS (by rw [← show j = B by omega, hO2]; rfl) dX0_leastWornCleanBlock_76
          · skip
            have c21_7 := cn_nle (a := 8) (b := j) (by omega) (by omega) c21_7
            refine lv_iload hx hb dX0_leastWornCleanBlock_24 (lv_at hl 4 rfl) ?_
            refine lv_iload_n hx hb dX0_leastWornCleanBlock_26 rfl (lv_at hl 1 rfl) ?_
            refine lv_icmp_eq (tgt := 69) hx hb dX0_leastWornCleanBlock_27 (by decide) (fun c27_8 => ?_) (fun c27_8 => ?_)
            · skip
              refine lv_iinc (v := nI (j + 1)) (lv' := [(4, .int (nI (j + 1))), (0, .ref fo), (1, .int (x)), (2, .int (nI (o2))), (3, .int (wr o2))]) hx hb dX0_leastWornCleanBlock_69 hl (k := 4) rfl (nI_add _ 1) (by decide) rfl (fun ls hl => ?_)
              refine lv_goto (tgt := 8) hx hb dX0_leastWornCleanBlock_72 (by decide) ?_
              have hl : lv_has ls 5 [(4, .int (nI (j + 1))), (0, .ref fo), (1, .int (x)), (2, .int (oI (lwF fr wr x (j + 1)))), (3, .int (wr o2))] := lv_re hl 3 rfl (show nI (o2) = oI (lwF fr wr x (j + 1)) from by rw [lwF, hO2]; dsimp only; rw [if_neg (fun z => z.1.1 c27_8)]; rfl)
              have hl : lv_has ls 5 [(4, .int (nI (j + 1))), (0, .ref fo), (1, .int (x)), (2, .int (oI (lwF fr wr x (j + 1)))), (3, .int (lwL wr (lwF fr wr x (j + 1))))] := lv_re hl 4 rfl (show wr o2 = lwL wr (lwF fr wr x (j + 1)) from by rw [lwF, hO2]; dsimp only; rw [if_neg (fun z => z.1.1 c27_8)]; rfl)
              have hl : lv_has ls 5 [(4, .int (nI ((j + 1)))), (0, .ref fo), (1, .int (x)), (2, .int (oI (lwF fr wr x (j + 1)))), (3, .int (lwL wr (lwF fr wr x (j + 1))))] := lv_re hl 0 rfl (show nI (j + 1) = nI ((j + 1)) from rfl)
              exact ih8 (j + 1) (by omega) (by omega) _ _ hP hS _ (lv_sub hl [1, 2, 3, 4, 0] rfl)
            · skip
              refine lv_aload_n hx hb dX0_leastWornCleanBlock_30 rfl (lv_at hl 0 rfl) ?_
              refine va_get (D := D) (ci := 0) (v := .ref a7) (C := RX0) (T := TX0) (N := 9) hx hb hts u6_X0 hown hK hP 0 rfl rfl 7 (by decide) (hts _ (m6 11 rfl)) (fun _ h9 => h9) rfl dX0_leastWornCleanBlock_31 ?_
              refine lv_iload hx hb dX0_leastWornCleanBlock_34 (lv_at hl 4 rfl) ?_
              refine ra_iald (i := j) hx hb hK hP 8 0 rfl rfl (by omega) (by decide) dX0_leastWornCleanBlock_36 ?_
              refine lv_iconst (v := 4) hx hb dX0_leastWornCleanBlock_37 (by decide) ?_
              refine lv_icmp_ne (tgt := 69) hx hb dX0_leastWornCleanBlock_38 (by decide) (fun c38_9 => ?_) (fun c38_9 => ?_)
              · skip
                refine lv_iinc (v := nI (j + 1)) (lv' := [(4, .int (nI (j + 1))), (0, .ref fo), (1, .int (x)), (2, .int (nI (o2))), (3, .int (wr o2))]) hx hb dX0_leastWornCleanBlock_69 hl (k := 4) rfl (nI_add _ 1) (by decide) rfl (fun ls hl => ?_)
                refine lv_goto (tgt := 8) hx hb dX0_leastWornCleanBlock_72 (by decide) ?_
                have hl : lv_has ls 5 [(4, .int (nI (j + 1))), (0, .ref fo), (1, .int (x)), (2, .int (oI (lwF fr wr x (j + 1)))), (3, .int (wr o2))] := lv_re hl 3 rfl (show nI (o2) = oI (lwF fr wr x (j + 1)) from by rw [lwF, hO2]; dsimp only; rw [if_neg (fun z => c38_9 z.1.2)]; rfl)
                have hl : lv_has ls 5 [(4, .int (nI (j + 1))), (0, .ref fo), (1, .int (x)), (2, .int (oI (lwF fr wr x (j + 1)))), (3, .int (lwL wr (lwF fr wr x (j + 1))))] := lv_re hl 4 rfl (show wr o2 = lwL wr (lwF fr wr x (j + 1)) from by rw [lwF, hO2]; dsimp only; rw [if_neg (fun z => c38_9 z.1.2)]; rfl)
                have hl : lv_has ls 5 [(4, .int (nI ((j + 1)))), (0, .ref fo), (1, .int (x)), (2, .int (oI (lwF fr wr x (j + 1)))), (3, .int (lwL wr (lwF fr wr x (j + 1))))] := lv_re hl 0 rfl (show nI (j + 1) = nI ((j + 1)) from rfl)
                exact ih8 (j + 1) (by omega) (by omega) _ _ hP hS _ (lv_sub hl [1, 2, 3, 4, 0] rfl)
              · skip
                refine lv_iload_n hx hb dX0_leastWornCleanBlock_41 rfl (lv_at hl 2 rfl) ?_
                refine lv_bipush (v := (-9)) hx hb dX0_leastWornCleanBlock_42 (by decide) ?_
                refine lv_icmp_eq (tgt := 58) hx hb dX0_leastWornCleanBlock_44 (by decide) (fun c44_10 => ?_) (fun c44_10 => ?_)
                · skip
                  exact absurd c44_10 (oI_ne (by omega))
                · skip
                  refine lv_aload_n hx hb dX0_leastWornCleanBlock_47 rfl (lv_at hl 0 rfl) ?_
                  refine va_get (D := D) (ci := 0) (v := .ref a4) (C := RX0) (T := TX0) (N := 9) hx hb hts u6_X0 hown hK hP 0 rfl rfl 4 (by decide) (hts _ (m6 8 rfl)) (fun _ h9 => h9) rfl dX0_leastWornCleanBlock_48 ?_
                  refine lv_iload hx hb dX0_leastWornCleanBlock_51 (lv_at hl 4 rfl) ?_
                  refine ra_iald (i := j) hx hb hK hP 5 0 rfl rfl (by omega) (by decide) dX0_leastWornCleanBlock_53 ?_
                  refine lv_iload_n hx hb dX0_leastWornCleanBlock_54 rfl (lv_at hl 3 rfl) ?_
                  refine lv_icmp_ge (tgt := 69) hx hb dX0_leastWornCleanBlock_55 (by decide) (fun c55_11 => ?_) (fun c55_11 => ?_)
                  · skip
                    have c55_11 := i_nlt c55_11
                    refine lv_iinc (v := nI (j + 1)) (lv' := [(4, .int (nI (j + 1))), (0, .ref fo), (1, .int (x)), (2, .int (nI (o2))), (3, .int (wr o2))]) hx hb dX0_leastWornCleanBlock_69 hl (k := 4) rfl (nI_add _ 1) (by decide) rfl (fun ls hl => ?_)
                    refine lv_goto (tgt := 8) hx hb dX0_leastWornCleanBlock_72 (by decide) ?_
                    have hl : lv_has ls 5 [(4, .int (nI (j + 1))), (0, .ref fo), (1, .int (x)), (2, .int (oI (lwF fr wr x (j + 1)))), (3, .int (wr o2))] := lv_re hl 3 rfl (show nI (o2) = oI (lwF fr wr x (j + 1)) from by rw [lwF, hO2]; dsimp only; rw [if_neg (fun z => c55_11 z.2)]; rfl)
                    have hl : lv_has ls 5 [(4, .int (nI (j + 1))), (0, .ref fo), (1, .int (x)), (2, .int (oI (lwF fr wr x (j + 1)))), (3, .int (lwL wr (lwF fr wr x (j + 1))))] := lv_re hl 4 rfl (show wr o2 = lwL wr (lwF fr wr x (j + 1)) from by rw [lwF, hO2]; dsimp only; rw [if_neg (fun z => c55_11 z.2)]; rfl)
                    have hl : lv_has ls 5 [(4, .int (nI ((j + 1)))), (0, .ref fo), (1, .int (x)), (2, .int (oI (lwF fr wr x (j + 1)))), (3, .int (lwL wr (lwF fr wr x (j + 1))))] := lv_re hl 0 rfl (show nI (j + 1) = nI ((j + 1)) from rfl)
                    exact ih8 (j + 1) (by omega) (by omega) _ _ hP hS _ (lv_sub hl [1, 2, 3, 4, 0] rfl)
                  · skip
                    have c55_11 := i_lt c55_11
                    refine lv_iload hx hb dX0_leastWornCleanBlock_58 (lv_at hl 4 rfl) ?_
                    refine lv_istore_n (lv' := [(2, .int (nI (j))), (0, .ref fo), (1, .int (x)), (3, .int (wr o2)), (4, .int (nI (j)))]) hx hb dX0_leastWornCleanBlock_60 rfl hl (by decide) rfl (fun ls hl => ?_)
                    refine lv_aload_n hx hb dX0_leastWornCleanBlock_61 rfl (lv_at hl 1 rfl) ?_
                    refine va_get (D := D) (ci := 0) (v := .ref a4) (C := RX0) (T := TX0) (N := 9) hx hb hts u6_X0 hown hK hP 0 rfl rfl 4 (by decide) (hts _ (m6 8 rfl)) (fun _ h9 => h9) rfl dX0_leastWornCleanBlock_62 ?_
                    refine lv_iload hx hb dX0_leastWornCleanBlock_65 (lv_at hl 4 rfl) ?_
                    refine ra_iald (i := j) hx hb hK hP 5 0 rfl rfl (by omega) (by decide) dX0_leastWornCleanBlock_67 ?_
                    refine lv_istore_n (lv' := [(3, .int (wr (j))), (2, .int (nI (j))), (0, .ref fo), (1, .int (x)), (4, .int (nI (j)))]) hx hb dX0_leastWornCleanBlock_68 rfl hl (by decide) rfl (fun ls hl => ?_)
                    refine lv_iinc (v := nI (j + 1)) (lv' := [(4, .int (nI (j + 1))), (3, .int (wr (j))), (2, .int (nI (j))), (0, .ref fo), (1, .int (x))]) hx hb dX0_leastWornCleanBlock_69 hl (k := 4) rfl (nI_add _ 1) (by decide) rfl (fun ls hl => ?_)
                    refine lv_goto (tgt := 8) hx hb dX0_leastWornCleanBlock_72 (by decide) ?_
                    have hl : lv_has ls 5 [(4, .int (nI (j + 1))), (3, .int (wr (j))), (2, .int (oI (lwF fr wr x (j + 1)))), (0, .ref fo), (1, .int (x))] := lv_re hl 2 rfl (show nI (j) = oI (lwF fr wr x (j + 1)) from by rw [lwF, hO2]; dsimp only; rw [if_pos ⟨⟨c27_8, c38_9⟩, c55_11⟩]; rfl)
                    have hl : lv_has ls 5 [(4, .int (nI (j + 1))), (3, .int (lwL wr (lwF fr wr x (j + 1)))), (2, .int (oI (lwF fr wr x (j + 1)))), (0, .ref fo), (1, .int (x))] := lv_re hl 1 rfl (show wr (j) = lwL wr (lwF fr wr x (j + 1)) from by rw [lwF, hO2]; dsimp only; rw [if_pos ⟨⟨c27_8, c38_9⟩, c55_11⟩]; rfl)
                    have hl : lv_has ls 5 [(4, .int (nI ((j + 1)))), (3, .int (lwL wr (lwF fr wr x (j + 1)))), (2, .int (oI (lwF fr wr x (j + 1)))), (0, .ref fo), (1, .int (x))] := lv_re hl 0 rfl (show nI (j + 1) = nI ((j + 1)) from rfl)
                    exact ih8 (j + 1) (by omega) (by omega) _ _ hP hS _ (lv_sub hl [3, 4, 2, 1, 0] rfl)
  have hl : lv_has ls 5 [(4, .int (0)), (3, .int (0)), (2, .int (oI (lwF fr wr x 0))), (0, .ref fo), (1, .int (x))] := lv_re hl 2 rfl (show (-9) = oI (lwF fr wr x 0) from rfl)
  have hl : lv_has ls 5 [(4, .int (0)), (3, .int (lwL wr (lwF fr wr x 0))), (2, .int (oI (lwF fr wr x 0))), (0, .ref fo), (1, .int (x))] := lv_re hl 1 rfl (show 0 = lwL wr (lwF fr wr x 0) from rfl)
  have hl : lv_has ls 5 [(4, .int (nI (0))), (3, .int (lwL wr (lwF fr wr x 0))), (2, .int (oI (lwF fr wr x 0))), (0, .ref fo), (1, .int (x))] := lv_re hl 0 rfl (show 0 = nI (0) from rfl)
  exact LP8 ((B - 0) + 1) 0 (by omega) (by omega) _ _ hP hS _ (lv_sub hl [3, 4, 2, 1, 0] rfl)
theorem dX0_tellPage_0 : decode cX0_tellPage 0 = .ok (.iload_n 1, 1) := by decide +kernel
theorem dX0_tellPage_1 : decode cX0_tellPage 1 = .ok (.ifCond .lt 9, 3) := by decide +kernel
theorem dX0_tellPage_4 : decode cX0_tellPage 4 = .ok (.iload_n 1, 1) := by decide +kernel
theorem dX0_tellPage_5 : decode cX0_tellPage 5 = .ok (.bipush 32, 2) := by decide +kernel
theorem dX0_tellPage_7 : decode cX0_tellPage 7 = .ok (.if_icmp .lt 6, 3) := by decide +kernel
theorem dX0_tellPage_10 : decode cX0_tellPage 10 = .ok (.bipush (-9), 2) := by decide +kernel
theorem dX0_tellPage_12 : decode cX0_tellPage 12 = .ok (.ireturn, 1) := by decide +kernel
theorem dX0_tellPage_13 : decode cX0_tellPage 13 = .ok (.iload_n 2, 1) := by decide +kernel
theorem dX0_tellPage_14 : decode cX0_tellPage 14 = .ok (.ifCond .ne 10, 3) := by decide +kernel
theorem dX0_tellPage_17 : decode cX0_tellPage 17 = .ok (.aload_n 0, 1) := by decide +kernel
theorem dX0_tellPage_18 : decode cX0_tellPage 18 = .ok (.getfield 11, 3) := by decide +kernel
theorem dX0_tellPage_21 : decode cX0_tellPage 21 = .ok (.iload_n 1, 1) := by decide +kernel
theorem dX0_tellPage_22 : decode cX0_tellPage 22 = .ok (.iaload, 1) := by decide +kernel
theorem dX0_tellPage_23 : decode cX0_tellPage 23 = .ok (.ireturn, 1) := by decide +kernel
theorem dX0_tellPage_24 : decode cX0_tellPage 24 = .ok (.aload_n 0, 1) := by decide +kernel
theorem dX0_tellPage_25 : decode cX0_tellPage 25 = .ok (.getfield 11, 3) := by decide +kernel
theorem dX0_tellPage_28 : decode cX0_tellPage 28 = .ok (.iload_n 1, 1) := by decide +kernel
theorem dX0_tellPage_29 : decode cX0_tellPage 29 = .ok (.iaload, 1) := by decide +kernel
theorem dX0_tellPage_30 : decode cX0_tellPage 30 = .ok (.iconst 1, 1) := by decide +kernel
theorem dX0_tellPage_31 : decode cX0_tellPage 31 = .ok (.if_icmp .eq 6, 3) := by decide +kernel
theorem dX0_tellPage_34 : decode cX0_tellPage 34 = .ok (.bipush (-9), 2) := by decide +kernel
theorem dX0_tellPage_36 : decode cX0_tellPage 36 = .ok (.ireturn, 1) := by decide +kernel
theorem dX0_tellPage_37 : decode cX0_tellPage 37 = .ok (.iload_n 2, 1) := by decide +kernel
theorem dX0_tellPage_38 : decode cX0_tellPage 38 = .ok (.tableswitch 47 1 3 #[26, 33, 40], 26) := by decide +kernel
theorem dX0_tellPage_64 : decode cX0_tellPage 64 = .ok (.aload_n 0, 1) := by decide +kernel
theorem dX0_tellPage_65 : decode cX0_tellPage 65 = .ok (.getfield 15, 3) := by decide +kernel
theorem dX0_tellPage_68 : decode cX0_tellPage 68 = .ok (.iload_n 1, 1) := by decide +kernel
theorem dX0_tellPage_69 : decode cX0_tellPage 69 = .ok (.iaload, 1) := by decide +kernel
theorem dX0_tellPage_70 : decode cX0_tellPage 70 = .ok (.ireturn, 1) := by decide +kernel
theorem dX0_tellPage_71 : decode cX0_tellPage 71 = .ok (.aload_n 0, 1) := by decide +kernel
theorem dX0_tellPage_72 : decode cX0_tellPage 72 = .ok (.getfield 18, 3) := by decide +kernel
theorem dX0_tellPage_75 : decode cX0_tellPage 75 = .ok (.iload_n 1, 1) := by decide +kernel
theorem dX0_tellPage_76 : decode cX0_tellPage 76 = .ok (.iaload, 1) := by decide +kernel
theorem dX0_tellPage_77 : decode cX0_tellPage 77 = .ok (.ireturn, 1) := by decide +kernel
theorem dX0_tellPage_78 : decode cX0_tellPage 78 = .ok (.aload_n 0, 1) := by decide +kernel
theorem dX0_tellPage_79 : decode cX0_tellPage 79 = .ok (.getfield 21, 3) := by decide +kernel
theorem dX0_tellPage_82 : decode cX0_tellPage 82 = .ok (.iload_n 1, 1) := by decide +kernel
theorem dX0_tellPage_83 : decode cX0_tellPage 83 = .ok (.iaload, 1) := by decide +kernel
theorem dX0_tellPage_84 : decode cX0_tellPage 84 = .ok (.ireturn, 1) := by decide +kernel
theorem dX0_tellPage_85 : decode cX0_tellPage 85 = .ok (.aload_n 0, 1) := by decide +kernel
theorem dX0_tellPage_86 : decode cX0_tellPage 86 = .ok (.getfield 27, 3) := by decide +kernel
theorem dX0_tellPage_89 : decode cX0_tellPage 89 = .ok (.iload_n 1, 1) := by decide +kernel
theorem dX0_tellPage_90 : decode cX0_tellPage 90 = .ok (.iaload, 1) := by decide +kernel
theorem dX0_tellPage_91 : decode cX0_tellPage 91 = .ok (.ireturn, 1) := by decide +kernel
theorem q0_tellPage : CQ W6 yX0_tellPage cX0_tellPage 3 (some .int) 2 := ⟨(m6 186 rfl), by decide, by decide, by decide +kernel⟩
set_option maxHeartbeats 4000000 in
set_option maxRecDepth 100000 in
theorem c0_tellPage (l : Launch) (D : va_G) (cI : ClassId) (fo a0 a1 a2 a3 a4 a5 a6 a7 : Nat) (kd ky vl mk wr lv nw fr : Nat → Int32) (B : Nat) (hB8 : B ≤ 8) (x y : Int32) : RQ l yX0_tellPage cX0_tellPage 3 .int W6 0 0 D [(fo, .inr (0, [.ref a0, .ref a1, .ref a2, .ref a3, .ref a4, .ref a5, .ref a6, .ref a7, .int (nI (B))])), (a0, .inl (cI, 32, .inl kd)), (a1, .inl (cI, 32, .inl ky)), (a2, .inl (cI, 32, .inl vl)), (a3, .inl (cI, 32, .inl mk)), (a4, .inl (cI, 8, .inl wr)), (a5, .inl (cI, 32, .inl lv)), (a6, .inl (cI, 16, .inl nw)), (a7, .inl (cI, 8, .inl fr))] [(cI, .int)] [.ref fo, .int (x), .int (y)] (tpV kd ky vl mk lv x y) := by
  refine rq_of RX0 (by decide) rfl (Nat.le_of_ble_eq_true rfl) ?_
  intro p e s m below meth c ls hX hr hlocks hK hN hP hS hl
  have hx := hX.1
  have hb := hX.2.1
  have hown := hX.2.2.2.1
  have hts := hX.2.2.2.2
  have hl : lv_has ls 3 [(0, .ref fo), (1, .int (x)), (2, .int (y))] := hl
  refine lv_iload_n hx hb dX0_tellPage_0 rfl (lv_at hl 1 rfl) ?_
  refine lv_if_lt (tgt := 10) hx hb dX0_tellPage_1 (by decide) (fun c1_1 => ?_) (fun c1_1 => ?_)
  · skip
    refine lv_bipush (v := (-9)) hx hb dX0_tellPage_10 (by decide) ?_
    exact rp_ret hX hr hlocks hS (by rw [tpV, if_neg (fun z => z.1 c1_1)]) dX0_tellPage_12
  · skip
    refine lv_iload_n hx hb dX0_tellPage_4 rfl (lv_at hl 1 rfl) ?_
    refine lv_bipush (v := 32) hx hb dX0_tellPage_5 (by decide) ?_
    refine lv_icmp_lt (tgt := 13) hx hb dX0_tellPage_7 (by decide) (fun c7_2 => ?_) (fun c7_2 => ?_)
    · skip
      obtain ⟨en1, hn1⟩ := num0 (k := 32) (by decide) c1_1 c7_2
      have hl : lv_has ls 3 [(0, .ref fo), (1, .int (nI (x.toNatClampNeg))), (2, .int (y))] := lv_re hl 1 rfl en1
      refine lv_iload_n hx hb dX0_tellPage_13 rfl (lv_at hl 2 rfl) ?_
      refine lv_if_ne (tgt := 24) hx hb dX0_tellPage_14 (by decide) (fun c14_3 => ?_) (fun c14_3 => ?_)
      · skip
        refine lv_aload_n hx hb dX0_tellPage_24 rfl (lv_at hl 0 rfl) ?_
        refine va_get (D := D) (ci := 0) (v := .ref a0) (C := RX0) (T := TX0) (N := 9) hx hb hts u6_X0 hown hK hP 0 rfl rfl 0 (by decide) (hts _ (m6 4 rfl)) (fun _ h9 => h9) rfl dX0_tellPage_25 ?_
        refine lv_iload_n hx hb dX0_tellPage_28 rfl (lv_at hl 1 rfl) ?_
        refine ra_iald (i := x.toNatClampNeg) hx hb hK hP 1 0 rfl rfl (by omega) (by decide) dX0_tellPage_29 ?_
        refine lv_iconst (v := 1) hx hb dX0_tellPage_30 (by decide) ?_
        refine lv_icmp_eq (tgt := 37) hx hb dX0_tellPage_31 (by decide) (fun c31_4 => ?_) (fun c31_4 => ?_)
        · skip
          rcases (show y = 1 ∨ (¬ y = 1 ∧ y = 2) ∨ (¬ y = 1 ∧ ¬ y = 2 ∧ y = 3) ∨ (¬ y = 1 ∧ ¬ y = 2 ∧ ¬ y = 3) from by by_cases h1 : y = 1; exact Or.inl h1; by_cases h2 : y = 2; exact Or.inr (Or.inl ⟨h1, h2⟩); by_cases h3 : y = 3; exact Or.inr (Or.inr (Or.inl ⟨h1, h2, h3⟩)); exact Or.inr (Or.inr (Or.inr ⟨h1, h2, h3⟩))) with hw1 | ⟨hn1, hw2⟩ | ⟨hn1, hn2, hw3⟩ | ⟨hw1, hw2, hw3⟩
          · skip
            have hl : lv_has ls 3 [(0, .ref fo), (1, .int (nI (x.toNatClampNeg))), (2, .int (1))] := lv_re hl 2 rfl hw1
            refine lv_iload_n hx hb dX0_tellPage_37 rfl (lv_at hl 2 rfl) ?_
            refine lv_tableIn (off := 26) (tgt := 64) hx hb dX0_tellPage_38 (by decide) (by decide) (by decide) (by decide) ?_
            refine lv_aload_n hx hb dX0_tellPage_64 rfl (lv_at hl 0 rfl) ?_
            refine va_get (D := D) (ci := 0) (v := .ref a1) (C := RX0) (T := TX0) (N := 9) hx hb hts u6_X0 hown hK hP 0 rfl rfl 1 (by decide) (hts _ (m6 5 rfl)) (fun _ h9 => h9) rfl dX0_tellPage_65 ?_
            refine lv_iload_n hx hb dX0_tellPage_68 rfl (lv_at hl 1 rfl) ?_
            refine ra_iald (i := x.toNatClampNeg) hx hb hK hP 2 0 rfl rfl (by omega) (by decide) dX0_tellPage_69 ?_
            exact rp_ret hX hr hlocks hS (by rw [tpV, if_pos ⟨c1_1, c7_2⟩, tpF, if_neg c14_3, if_pos c31_4, if_pos hw1]) dX0_tellPage_70
          · skip
            have hl : lv_has ls 3 [(0, .ref fo), (1, .int (nI (x.toNatClampNeg))), (2, .int (2))] := lv_re hl 2 rfl hw2
            refine lv_iload_n hx hb dX0_tellPage_37 rfl (lv_at hl 2 rfl) ?_
            refine lv_tableIn (off := 33) (tgt := 71) hx hb dX0_tellPage_38 (by decide) (by decide) (by decide) (by decide) ?_
            refine lv_aload_n hx hb dX0_tellPage_71 rfl (lv_at hl 0 rfl) ?_
            refine va_get (D := D) (ci := 0) (v := .ref a2) (C := RX0) (T := TX0) (N := 9) hx hb hts u6_X0 hown hK hP 0 rfl rfl 2 (by decide) (hts _ (m6 6 rfl)) (fun _ h9 => h9) rfl dX0_tellPage_72 ?_
            refine lv_iload_n hx hb dX0_tellPage_75 rfl (lv_at hl 1 rfl) ?_
            refine ra_iald (i := x.toNatClampNeg) hx hb hK hP 3 0 rfl rfl (by omega) (by decide) dX0_tellPage_76 ?_
            exact rp_ret hX hr hlocks hS (by rw [tpV, if_pos ⟨c1_1, c7_2⟩, tpF, if_neg c14_3, if_pos c31_4, if_neg hn1, if_pos hw2]) dX0_tellPage_77
          · skip
            have hl : lv_has ls 3 [(0, .ref fo), (1, .int (nI (x.toNatClampNeg))), (2, .int (3))] := lv_re hl 2 rfl hw3
            refine lv_iload_n hx hb dX0_tellPage_37 rfl (lv_at hl 2 rfl) ?_
            refine lv_tableIn (off := 40) (tgt := 78) hx hb dX0_tellPage_38 (by decide) (by decide) (by decide) (by decide) ?_
            refine lv_aload_n hx hb dX0_tellPage_78 rfl (lv_at hl 0 rfl) ?_
            refine va_get (D := D) (ci := 0) (v := .ref a3) (C := RX0) (T := TX0) (N := 9) hx hb hts u6_X0 hown hK hP 0 rfl rfl 3 (by decide) (hts _ (m6 7 rfl)) (fun _ h9 => h9) rfl dX0_tellPage_79 ?_
            refine lv_iload_n hx hb dX0_tellPage_82 rfl (lv_at hl 1 rfl) ?_
            refine ra_iald (i := x.toNatClampNeg) hx hb hK hP 4 0 rfl rfl (by omega) (by decide) dX0_tellPage_83 ?_
            exact rp_ret hX hr hlocks hS (by rw [tpV, if_pos ⟨c1_1, c7_2⟩, tpF, if_neg c14_3, if_pos c31_4, if_neg hn1, if_neg hn2, if_pos hw3]) dX0_tellPage_84
          · skip
            have hi1 := ne_int hw1
            have hi2 := ne_int hw2
            have hi3 := ne_int hw3
            have hi0 := ne_int c14_3
            have e1 : (1 : Int32).toInt = 1 := by decide
            have e2 : (2 : Int32).toInt = 2 := by decide
            have e3 : (3 : Int32).toInt = 3 := by decide
            refine lv_iload_n hx hb dX0_tellPage_37 rfl (lv_at hl 2 rfl) ?_
            refine lv_tableOut (tgt := 85) hx hb dX0_tellPage_38 (by omega) (by decide) ?_
            refine lv_aload_n hx hb dX0_tellPage_85 rfl (lv_at hl 0 rfl) ?_
            refine va_get (D := D) (ci := 0) (v := .ref a5) (C := RX0) (T := TX0) (N := 9) hx hb hts u6_X0 hown hK hP 0 rfl rfl 5 (by decide) (hts _ (m6 9 rfl)) (fun _ h9 => h9) rfl dX0_tellPage_86 ?_
            refine lv_iload_n hx hb dX0_tellPage_89 rfl (lv_at hl 1 rfl) ?_
            refine ra_iald (i := x.toNatClampNeg) hx hb hK hP 6 0 rfl rfl (by omega) (by decide) dX0_tellPage_90 ?_
            exact rp_ret hX hr hlocks hS (by rw [tpV, if_pos ⟨c1_1, c7_2⟩, tpF, if_neg c14_3, if_pos c31_4, if_neg hw1, if_neg hw2, if_neg hw3]) dX0_tellPage_91
        · skip
          refine lv_bipush (v := (-9)) hx hb dX0_tellPage_34 (by decide) ?_
          exact rp_ret hX hr hlocks hS (by rw [tpV, if_pos ⟨c1_1, c7_2⟩, tpF, if_neg c14_3, if_neg c31_4]) dX0_tellPage_36
      · skip
        refine lv_aload_n hx hb dX0_tellPage_17 rfl (lv_at hl 0 rfl) ?_
        refine va_get (D := D) (ci := 0) (v := .ref a0) (C := RX0) (T := TX0) (N := 9) hx hb hts u6_X0 hown hK hP 0 rfl rfl 0 (by decide) (hts _ (m6 4 rfl)) (fun _ h9 => h9) rfl dX0_tellPage_18 ?_
        refine lv_iload_n hx hb dX0_tellPage_21 rfl (lv_at hl 1 rfl) ?_
        refine ra_iald (i := x.toNatClampNeg) hx hb hK hP 1 0 rfl rfl (by omega) (by decide) dX0_tellPage_22 ?_
        exact rp_ret hX hr hlocks hS (by rw [tpV, if_pos ⟨c1_1, c7_2⟩, tpF, if_pos c14_3]) dX0_tellPage_23
    · skip
      refine lv_bipush (v := (-9)) hx hb dX0_tellPage_10 (by decide) ?_
      exact rp_ret hX hr hlocks hS (by rw [tpV, if_neg (fun z => c7_2 z.2)]) dX0_tellPage_12
theorem dX6_copyRow_0 : decode cX6_copyRow 0 = .ok (.aload_n 0, 1) := by decide +kernel
theorem dX6_copyRow_1 : decode cX6_copyRow 1 = .ok (.iconst 0, 1) := by decide +kernel
theorem dX6_copyRow_2 : decode cX6_copyRow 2 = .ok (.aload_n 1, 1) := by decide +kernel
theorem dX6_copyRow_3 : decode cX6_copyRow 3 = .ok (.iconst 0, 1) := by decide +kernel
theorem dX6_copyRow_4 : decode cX6_copyRow 4 = .ok (.aload_n 0, 1) := by decide +kernel
theorem dX6_copyRow_5 : decode cX6_copyRow 5 = .ok (.arraylength, 1) := by decide +kernel
theorem dX6_copyRow_6 : decode cX6_copyRow 6 = .ok (.aload_n 1, 1) := by decide +kernel
theorem dX6_copyRow_7 : decode cX6_copyRow 7 = .ok (.arraylength, 1) := by decide +kernel
theorem dX6_copyRow_8 : decode cX6_copyRow 8 = .ok (.invokestatic 283, 3) := by decide +kernel
theorem dX6_copyRow_11 : decode cX6_copyRow 11 = .ok (.invokestatic 286, 3) := by decide +kernel
theorem dX6_copyRow_14 : decode cX6_copyRow 14 = .ok (.return_, 1) := by decide +kernel
theorem q6_copyRow : CQ W6 yX6_copyRow cX6_copyRow 2 none 2 := ⟨(m6 32 rfl), by decide, by decide, by decide +kernel⟩
set_option maxHeartbeats 4000000 in
set_option maxRecDepth 100000 in
theorem c6_copyRow (l : Launch) (D : va_G) (cI : ClassId) (r1 r2 n1 : Nat) (f1 f2 : Nat → Int32) (hn : n1 < 100000) : GQv l yX6_copyRow cX6_copyRow 2 W6 1 60 D [(r1, .inl (cI, n1, .inl f1)), (r2, .inl (cI, n1, .inl f2))] [(cI, .int)] [.ref r1, .ref r2] (fun u9 : va_W => u9 = [(r1, .inl (cI, n1, .inl f1)), (r2, .inl (cI, n1, .inl f1))]) := by
  refine gq_of RX6 (by decide) rfl (Nat.le_of_ble_eq_true rfl) ?_
  intro p e s m below meth c ls H hX hr hlocks hK hN hP hD hS hl
  generalize gp_A [(r1, .inl (cI, n1, .inl f1)), (r2, .inl (cI, n1, .inl f2))] = A at hD hS ⊢
  have hx := hX.1
  have hb := hX.2.1
  have hown := hX.2.2.2.1
  have hts := hX.2.2.2.2
  have hl : lv_has ls 2 [(0, .ref r1), (1, .ref r2)] := hl
  refine lv_aload_n hx hb dX6_copyRow_0 rfl (lv_at hl 0 rfl) ?_
  refine lv_iconst (v := 0) hx hb dX6_copyRow_1 (by decide) ?_
  refine lv_aload_n hx hb dX6_copyRow_2 rfl (lv_at hl 1 rfl) ?_
  refine lv_iconst (v := 0) hx hb dX6_copyRow_3 (by decide) ?_
  refine lv_aload_n hx hb dX6_copyRow_4 rfl (lv_at hl 0 rfl) ?_
  refine va_alen (v := nI (n1)) hx hb hK hP 0 0 rfl rfl rfl dX6_copyRow_5 ?_
  refine lv_aload_n hx hb dX6_copyRow_6 rfl (lv_at hl 1 rfl) ?_
  refine va_alen (v := nI (n1)) hx hb hK hP 1 0 rfl rfl rfl dX6_copyRow_7 ?_
  refine va_mmin hx hb (hX.2.2.1.trans hl.1.symm) hown (hts _ (m6 25 rfl)) (hts _ (m6 13 rfl)) (hts _ (m6 14 rfl)) (hts _ (m6 15 rfl)) (Nat.le_of_ble_eq_true rfl) (Nat.le_of_ble_eq_true rfl) (Nat.le_of_ble_eq_true rfl) (Nat.le_of_ble_eq_true rfl) dX6_copyRow_8 ?_
  refine lv_as (y := nI (n1)) (by simp) ?_
  refine va_copyi hx hb (hX.2.2.1.trans hl.1.symm) hown (hts _ (m6 26 rfl)) (hts _ (m6 27 rfl)) (hts _ (m6 28 rfl)) (hts _ (m6 29 rfl)) hK hP hD hS 0 1 0 0 rfl rfl rfl rfl rfl (by decide) (by decide) (nI_pos (by omega)) (by rw [nI_clamp (by omega)]; simp) (by rw [nI_clamp (by omega)]; simp) (fun _ _ => rfl) (Nat.le_of_ble_eq_true rfl) (Nat.le_of_ble_eq_true rfl) dX6_copyRow_11 (fun H locs hP hD hS => ?_)
  have hP : va_P D vwCl [(r1, .inl (cI, n1, .inl f1)), (r2, .inl (cI, n1, .inl (va_cpy f1 f2 (0 : Int32).toNatClampNeg (0 : Int32).toNatClampNeg (nI n1).toNatClampNeg)))] H := hP
  have hD : va_D A [(r1, .inl (cI, n1, .inl f1)), (r2, .inl (cI, n1, .inl (va_cpy f1 f2 (0 : Int32).toNatClampNeg (0 : Int32).toNatClampNeg (nI n1).toNatClampNeg)))] := hD
  have hP : va_P D vwCl [(r1, .inl (cI, n1, .inl f1)), (r2, .inl (cI, n1, .inl f1))] H := gp_cell (A := A) hP 1 rfl (fun k hk => by rw [nI_clamp (by omega)]; exact cpy_all hk)
  have hD : va_D A [(r1, .inl (cI, n1, .inl f1)), (r2, .inl (cI, n1, .inl f1))] := gp_D hD (by simp only [List.map_cons, List.map_nil])
  exact gp_retv hX hr hlocks hS hP rfl dX6_copyRow_14
theorem dX0_findRecords_0 : decode cX0_findRecords 0 = .ok (.iconst 0, 1) := by decide +kernel
theorem dX0_findRecords_1 : decode cX0_findRecords 1 = .ok (.istore_n 1, 1) := by decide +kernel
theorem dX0_findRecords_2 : decode cX0_findRecords 2 = .ok (.iload_n 1, 1) := by decide +kernel
theorem dX0_findRecords_3 : decode cX0_findRecords 3 = .ok (.bipush 16, 2) := by decide +kernel
theorem dX0_findRecords_5 : decode cX0_findRecords 5 = .ok (.if_icmp .ge 17, 3) := by decide +kernel
theorem dX0_findRecords_8 : decode cX0_findRecords 8 = .ok (.aload_n 0, 1) := by decide +kernel
theorem dX0_findRecords_9 : decode cX0_findRecords 9 = .ok (.getfield 30, 3) := by decide +kernel
theorem dX0_findRecords_12 : decode cX0_findRecords 12 = .ok (.iload_n 1, 1) := by decide +kernel
theorem dX0_findRecords_13 : decode cX0_findRecords 13 = .ok (.bipush (-9), 2) := by decide +kernel
theorem dX0_findRecords_15 : decode cX0_findRecords 15 = .ok (.iastore, 1) := by decide +kernel
theorem dX0_findRecords_16 : decode cX0_findRecords 16 = .ok (.iinc 1 1, 3) := by decide +kernel
theorem dX0_findRecords_19 : decode cX0_findRecords 19 = .ok (.goto (-17), 3) := by decide +kernel
theorem dX0_findRecords_22 : decode cX0_findRecords 22 = .ok (.iconst 0, 1) := by decide +kernel
theorem dX0_findRecords_23 : decode cX0_findRecords 23 = .ok (.istore_n 1, 1) := by decide +kernel
theorem dX0_findRecords_24 : decode cX0_findRecords 24 = .ok (.iload_n 1, 1) := by decide +kernel
theorem dX0_findRecords_25 : decode cX0_findRecords 25 = .ok (.bipush 32, 2) := by decide +kernel
theorem dX0_findRecords_27 : decode cX0_findRecords 27 = .ok (.if_icmp .ge 82, 3) := by decide +kernel
theorem dX0_findRecords_30 : decode cX0_findRecords 30 = .ok (.aload_n 0, 1) := by decide +kernel
theorem dX0_findRecords_31 : decode cX0_findRecords 31 = .ok (.getfield 27, 3) := by decide +kernel
theorem dX0_findRecords_34 : decode cX0_findRecords 34 = .ok (.iload_n 1, 1) := by decide +kernel
theorem dX0_findRecords_35 : decode cX0_findRecords 35 = .ok (.iconst 0, 1) := by decide +kernel
theorem dX0_findRecords_36 : decode cX0_findRecords 36 = .ok (.iastore, 1) := by decide +kernel
theorem dX0_findRecords_37 : decode cX0_findRecords 37 = .ok (.aload_n 0, 1) := by decide +kernel
theorem dX0_findRecords_38 : decode cX0_findRecords 38 = .ok (.getfield 15, 3) := by decide +kernel
theorem dX0_findRecords_41 : decode cX0_findRecords 41 = .ok (.iload_n 1, 1) := by decide +kernel
theorem dX0_findRecords_42 : decode cX0_findRecords 42 = .ok (.iaload, 1) := by decide +kernel
theorem dX0_findRecords_43 : decode cX0_findRecords 43 = .ok (.istore_n 2, 1) := by decide +kernel
theorem dX0_findRecords_44 : decode cX0_findRecords 44 = .ok (.aload_n 0, 1) := by decide +kernel
theorem dX0_findRecords_45 : decode cX0_findRecords 45 = .ok (.getfield 11, 3) := by decide +kernel
theorem dX0_findRecords_48 : decode cX0_findRecords 48 = .ok (.iload_n 1, 1) := by decide +kernel
theorem dX0_findRecords_49 : decode cX0_findRecords 49 = .ok (.iaload, 1) := by decide +kernel
theorem dX0_findRecords_50 : decode cX0_findRecords 50 = .ok (.iconst 1, 1) := by decide +kernel
theorem dX0_findRecords_51 : decode cX0_findRecords 51 = .ok (.if_icmp .ne 52, 3) := by decide +kernel
theorem dX0_findRecords_54 : decode cX0_findRecords 54 = .ok (.iload_n 2, 1) := by decide +kernel
theorem dX0_findRecords_55 : decode cX0_findRecords 55 = .ok (.ifCond .lt 48, 3) := by decide +kernel
theorem dX0_findRecords_58 : decode cX0_findRecords 58 = .ok (.iload_n 2, 1) := by decide +kernel
theorem dX0_findRecords_59 : decode cX0_findRecords 59 = .ok (.bipush 16, 2) := by decide +kernel
theorem dX0_findRecords_61 : decode cX0_findRecords 61 = .ok (.if_icmp .ge 42, 3) := by decide +kernel
theorem dX0_findRecords_64 : decode cX0_findRecords 64 = .ok (.aload_n 0, 1) := by decide +kernel
theorem dX0_findRecords_65 : decode cX0_findRecords 65 = .ok (.getfield 30, 3) := by decide +kernel
theorem dX0_findRecords_68 : decode cX0_findRecords 68 = .ok (.iload_n 2, 1) := by decide +kernel
theorem dX0_findRecords_69 : decode cX0_findRecords 69 = .ok (.iaload, 1) := by decide +kernel
theorem dX0_findRecords_70 : decode cX0_findRecords 70 = .ok (.istore_n 3, 1) := by decide +kernel
theorem dX0_findRecords_71 : decode cX0_findRecords 71 = .ok (.iload_n 3, 1) := by decide +kernel
theorem dX0_findRecords_72 : decode cX0_findRecords 72 = .ok (.ifCond .lt 24, 3) := by decide +kernel
theorem dX0_findRecords_75 : decode cX0_findRecords 75 = .ok (.iload_n 3, 1) := by decide +kernel
theorem dX0_findRecords_76 : decode cX0_findRecords 76 = .ok (.bipush 32, 2) := by decide +kernel
theorem dX0_findRecords_78 : decode cX0_findRecords 78 = .ok (.if_icmp .ge 18, 3) := by decide +kernel
theorem dX0_findRecords_81 : decode cX0_findRecords 81 = .ok (.aload_n 0, 1) := by decide +kernel
theorem dX0_findRecords_82 : decode cX0_findRecords 82 = .ok (.getfield 21, 3) := by decide +kernel
theorem dX0_findRecords_85 : decode cX0_findRecords 85 = .ok (.iload_n 1, 1) := by decide +kernel
theorem dX0_findRecords_86 : decode cX0_findRecords 86 = .ok (.iaload, 1) := by decide +kernel
theorem dX0_findRecords_87 : decode cX0_findRecords 87 = .ok (.aload_n 0, 1) := by decide +kernel
theorem dX0_findRecords_88 : decode cX0_findRecords 88 = .ok (.getfield 21, 3) := by decide +kernel
theorem dX0_findRecords_91 : decode cX0_findRecords 91 = .ok (.iload_n 3, 1) := by decide +kernel
theorem dX0_findRecords_92 : decode cX0_findRecords 92 = .ok (.iaload, 1) := by decide +kernel
theorem dX0_findRecords_93 : decode cX0_findRecords 93 = .ok (.if_icmp .le 10, 3) := by decide +kernel
theorem dX0_findRecords_96 : decode cX0_findRecords 96 = .ok (.aload_n 0, 1) := by decide +kernel
theorem dX0_findRecords_97 : decode cX0_findRecords 97 = .ok (.getfield 30, 3) := by decide +kernel
theorem dX0_findRecords_100 : decode cX0_findRecords 100 = .ok (.iload_n 2, 1) := by decide +kernel
theorem dX0_findRecords_101 : decode cX0_findRecords 101 = .ok (.iload_n 1, 1) := by decide +kernel
theorem dX0_findRecords_102 : decode cX0_findRecords 102 = .ok (.iastore, 1) := by decide +kernel
theorem dX0_findRecords_103 : decode cX0_findRecords 103 = .ok (.iinc 1 1, 3) := by decide +kernel
theorem dX0_findRecords_106 : decode cX0_findRecords 106 = .ok (.goto (-82), 3) := by decide +kernel
theorem dX0_findRecords_109 : decode cX0_findRecords 109 = .ok (.iconst 0, 1) := by decide +kernel
theorem dX0_findRecords_110 : decode cX0_findRecords 110 = .ok (.istore_n 1, 1) := by decide +kernel
theorem dX0_findRecords_111 : decode cX0_findRecords 111 = .ok (.iload_n 1, 1) := by decide +kernel
theorem dX0_findRecords_112 : decode cX0_findRecords 112 = .ok (.bipush 32, 2) := by decide +kernel
theorem dX0_findRecords_114 : decode cX0_findRecords 114 = .ok (.if_icmp .ge 76, 3) := by decide +kernel
theorem dX0_findRecords_117 : decode cX0_findRecords 117 = .ok (.aload_n 0, 1) := by decide +kernel
theorem dX0_findRecords_118 : decode cX0_findRecords 118 = .ok (.getfield 15, 3) := by decide +kernel
theorem dX0_findRecords_121 : decode cX0_findRecords 121 = .ok (.iload_n 1, 1) := by decide +kernel
theorem dX0_findRecords_122 : decode cX0_findRecords 122 = .ok (.iaload, 1) := by decide +kernel
theorem dX0_findRecords_123 : decode cX0_findRecords 123 = .ok (.istore_n 2, 1) := by decide +kernel
theorem dX0_findRecords_124 : decode cX0_findRecords 124 = .ok (.aload_n 0, 1) := by decide +kernel
theorem dX0_findRecords_125 : decode cX0_findRecords 125 = .ok (.getfield 11, 3) := by decide +kernel
theorem dX0_findRecords_128 : decode cX0_findRecords 128 = .ok (.iload_n 1, 1) := by decide +kernel
theorem dX0_findRecords_129 : decode cX0_findRecords 129 = .ok (.iaload, 1) := by decide +kernel
theorem dX0_findRecords_130 : decode cX0_findRecords 130 = .ok (.iconst 1, 1) := by decide +kernel
theorem dX0_findRecords_131 : decode cX0_findRecords 131 = .ok (.if_icmp .ne 53, 3) := by decide +kernel
theorem dX0_findRecords_134 : decode cX0_findRecords 134 = .ok (.iload_n 2, 1) := by decide +kernel
theorem dX0_findRecords_135 : decode cX0_findRecords 135 = .ok (.ifCond .lt 49, 3) := by decide +kernel
theorem dX0_findRecords_138 : decode cX0_findRecords 138 = .ok (.iload_n 2, 1) := by decide +kernel
theorem dX0_findRecords_139 : decode cX0_findRecords 139 = .ok (.bipush 16, 2) := by decide +kernel
theorem dX0_findRecords_141 : decode cX0_findRecords 141 = .ok (.if_icmp .ge 43, 3) := by decide +kernel
theorem dX0_findRecords_144 : decode cX0_findRecords 144 = .ok (.aload_n 0, 1) := by decide +kernel
theorem dX0_findRecords_145 : decode cX0_findRecords 145 = .ok (.getfield 30, 3) := by decide +kernel
theorem dX0_findRecords_148 : decode cX0_findRecords 148 = .ok (.iload_n 2, 1) := by decide +kernel
theorem dX0_findRecords_149 : decode cX0_findRecords 149 = .ok (.iaload, 1) := by decide +kernel
theorem dX0_findRecords_150 : decode cX0_findRecords 150 = .ok (.istore_n 3, 1) := by decide +kernel
theorem dX0_findRecords_151 : decode cX0_findRecords 151 = .ok (.iload_n 3, 1) := by decide +kernel
theorem dX0_findRecords_152 : decode cX0_findRecords 152 = .ok (.ifCond .lt 32, 3) := by decide +kernel
theorem dX0_findRecords_155 : decode cX0_findRecords 155 = .ok (.iload_n 3, 1) := by decide +kernel
theorem dX0_findRecords_156 : decode cX0_findRecords 156 = .ok (.bipush 32, 2) := by decide +kernel
theorem dX0_findRecords_158 : decode cX0_findRecords 158 = .ok (.if_icmp .ge 26, 3) := by decide +kernel
theorem dX0_findRecords_161 : decode cX0_findRecords 161 = .ok (.iload_n 1, 1) := by decide +kernel
theorem dX0_findRecords_162 : decode cX0_findRecords 162 = .ok (.iload_n 3, 1) := by decide +kernel
theorem dX0_findRecords_163 : decode cX0_findRecords 163 = .ok (.if_icmp .ne 14, 3) := by decide +kernel
theorem dX0_findRecords_166 : decode cX0_findRecords 166 = .ok (.aload_n 0, 1) := by decide +kernel
theorem dX0_findRecords_167 : decode cX0_findRecords 167 = .ok (.getfield 18, 3) := by decide +kernel
theorem dX0_findRecords_170 : decode cX0_findRecords 170 = .ok (.iload_n 1, 1) := by decide +kernel
theorem dX0_findRecords_171 : decode cX0_findRecords 171 = .ok (.iaload, 1) := by decide +kernel
theorem dX0_findRecords_172 : decode cX0_findRecords 172 = .ok (.bipush (-9), 2) := by decide +kernel
theorem dX0_findRecords_174 : decode cX0_findRecords 174 = .ok (.if_icmp .eq 10, 3) := by decide +kernel
theorem dX0_findRecords_177 : decode cX0_findRecords 177 = .ok (.aload_n 0, 1) := by decide +kernel
theorem dX0_findRecords_178 : decode cX0_findRecords 178 = .ok (.getfield 27, 3) := by decide +kernel
theorem dX0_findRecords_181 : decode cX0_findRecords 181 = .ok (.iload_n 3, 1) := by decide +kernel
theorem dX0_findRecords_182 : decode cX0_findRecords 182 = .ok (.iconst 1, 1) := by decide +kernel
theorem dX0_findRecords_183 : decode cX0_findRecords 183 = .ok (.iastore, 1) := by decide +kernel
theorem dX0_findRecords_184 : decode cX0_findRecords 184 = .ok (.iinc 1 1, 3) := by decide +kernel
theorem dX0_findRecords_187 : decode cX0_findRecords 187 = .ok (.goto (-76), 3) := by decide +kernel
theorem dX0_findRecords_190 : decode cX0_findRecords 190 = .ok (.return_, 1) := by decide +kernel
theorem q0_findRecords : CQ W6 yX0_findRecords cX0_findRecords 4 none 0 := ⟨(m6 24 rfl), by decide, by decide, by decide +kernel⟩
set_option maxHeartbeats 4000000 in
set_option maxRecDepth 100000 in
theorem c0_findRecords (l : Launch) (D : va_G) (cI : ClassId) (fo a0 a1 a2 a3 a4 a5 a6 a7 : Nat) (kd ky vl mk wr lv nw fr : Nat → Int32) (B : Nat) (hB8 : B ≤ 8)  : GQv l yX0_findRecords cX0_findRecords 4 W6 0 0 D [(fo, .inr (0, [.ref a0, .ref a1, .ref a2, .ref a3, .ref a4, .ref a5, .ref a6, .ref a7, .int (nI (B))])), (a0, .inl (cI, 32, .inl kd)), (a1, .inl (cI, 32, .inl ky)), (a2, .inl (cI, 32, .inl vl)), (a3, .inl (cI, 32, .inl mk)), (a4, .inl (cI, 8, .inl wr)), (a5, .inl (cI, 32, .inl lv)), (a6, .inl (cI, 16, .inl nw)), (a7, .inl (cI, 8, .inl fr))] [(cI, .int)] [.ref fo] (fun u9 : va_W => u9 = [(fo, .inr (0, [.ref a0, .ref a1, .ref a2, .ref a3, .ref a4, .ref a5, .ref a6, .ref a7, .int (nI (B))])), (a0, .inl (cI, 32, .inl kd)), (a1, .inl (cI, 32, .inl ky)), (a2, .inl (cI, 32, .inl vl)), (a3, .inl (cI, 32, .inl mk)), (a4, .inl (cI, 8, .inl wr)), (a5, .inl (cI, 32, .inl (lvR kd ky vl mk))), (a6, .inl (cI, 16, .inl (nwR kd ky mk))), (a7, .inl (cI, 8, .inl fr))]) := by
  refine gq_of RX0 (by decide) rfl (Nat.le_of_ble_eq_true rfl) ?_
  intro p e s m below meth c ls H hX hr hlocks hK hN hP hD hS hl
  generalize gp_A [(fo, .inr (0, [.ref a0, .ref a1, .ref a2, .ref a3, .ref a4, .ref a5, .ref a6, .ref a7, .int (nI (B))])), (a0, .inl (cI, 32, .inl kd)), (a1, .inl (cI, 32, .inl ky)), (a2, .inl (cI, 32, .inl vl)), (a3, .inl (cI, 32, .inl mk)), (a4, .inl (cI, 8, .inl wr)), (a5, .inl (cI, 32, .inl lv)), (a6, .inl (cI, 16, .inl nw)), (a7, .inl (cI, 8, .inl fr))] = A at hD hS ⊢
  have hx := hX.1
  have hb := hX.2.1
  have hown := hX.2.2.2.1
  have hts := hX.2.2.2.2
  have hl : lv_has ls 4 [(0, .ref fo)] := hl
  refine lv_iconst (v := 0) hx hb dX0_findRecords_0 (by decide) ?_
  refine lv_istore_n (lv' := [(1, .int (0)), (0, .ref fo)]) hx hb dX0_findRecords_1 rfl hl (by decide) rfl (fun ls hl => ?_)
  have LP2 : ∀ n9 : Nat, ∀ (j : Nat), (hj : j ≤ 16) → 16 - j < n9 → ∀ (H : Heap) (locs : List Loc), va_P D vwCl [(fo, .inr (0, [.ref a0, .ref a1, .ref a2, .ref a3, .ref a4, .ref a5, .ref a6, .ref a7, .int (nI (B))])), (a0, .inl (cI, 32, .inl kd)), (a1, .inl (cI, 32, .inl ky)), (a2, .inl (cI, 32, .inl vl)), (a3, .inl (cI, 32, .inl mk)), (a4, .inl (cI, 8, .inl wr)), (a5, .inl (cI, 32, .inl lv)), (a6, .inl (cI, 16, .inl (cstF nw (-9) j))), (a7, .inl (cI, 8, .inl fr))] H → va_D A [(fo, .inr (0, [.ref a0, .ref a1, .ref a2, .ref a3, .ref a4, .ref a5, .ref a6, .ref a7, .int (nI (B))])), (a0, .inl (cI, 32, .inl kd)), (a1, .inl (cI, 32, .inl ky)), (a2, .inl (cI, 32, .inl vl)), (a3, .inl (cI, 32, .inl mk)), (a4, .inl (cI, 8, .inl wr)), (a5, .inl (cI, 32, .inl lv)), (a6, .inl (cI, 16, .inl (cstF nw (-9) j))), (a7, .inl (cI, 8, .inl fr))] → va_S A s.heap H locs → ∀ ls : Array Slot, lv_has ls 4 [(0, .ref fo), (1, .int (nI (j)))] → W p l e ({ frames := 0, cells := 0, slots := 0, locals := 0 } : Room) s m ([.ref fo] : List Value).toArray below meth c H locs 0 0 (MQ below (va_Qv (fun u9 : va_W => u9 = [(fo, .inr (0, [.ref a0, .ref a1, .ref a2, .ref a3, .ref a4, .ref a5, .ref a6, .ref a7, .int (nI (B))])), (a0, .inl (cI, 32, .inl kd)), (a1, .inl (cI, 32, .inl ky)), (a2, .inl (cI, 32, .inl vl)), (a3, .inl (cI, 32, .inl mk)), (a4, .inl (cI, 8, .inl wr)), (a5, .inl (cI, 32, .inl (lvR kd ky vl mk))), (a6, .inl (cI, 16, .inl (nwR kd ky mk))), (a7, .inl (cI, 8, .inl fr))]) (fun u t => va_P D vwCl u t.heap) A) ([.ref fo] : List Value).toArray s 0 0 A) (F0 m 2 ls []) := by
    intro n9
    induction n9 with
    | zero => intros; omega
    | succ n9 ih2 =>
      intro j hj hm9 H locs hP hD hS ls hl
      refine lv_iload_n hx hb dX0_findRecords_2 rfl (lv_at hl 1 rfl) ?_
      refine lv_bipush (v := 16) hx hb dX0_findRecords_3 (by decide) ?_
      refine lv_icmp_ge (tgt := 22) hx hb dX0_findRecords_5 (by decide) (fun c5_1 => ?_) (fun c5_1 => ?_)
      · skip
        have c5_1 := cn_le (a := 16) (b := j) (by omega) (by omega) c5_1
        have hP : va_P D vwCl [(fo, .inr (0, [.ref a0, .ref a1, .ref a2, .ref a3, .ref a4, .ref a5, .ref a6, .ref a7, .int (nI (B))])), (a0, .inl (cI, 32, .inl kd)), (a1, .inl (cI, 32, .inl ky)), (a2, .inl (cI, 32, .inl vl)), (a3, .inl (cI, 32, .inl mk)), (a4, .inl (cI, 8, .inl wr)), (a5, .inl (cI, 32, .inl lv)), (a6, .inl (cI, 16, .inl (fun _ => -9))), (a7, .inl (cI, 8, .inl fr))] H := gp_cell (A := A) hP 7 rfl (fun k hk => by rw [cstF, if_pos (by omega)])
        have hD : va_D A [(fo, .inr (0, [.ref a0, .ref a1, .ref a2, .ref a3, .ref a4, .ref a5, .ref a6, .ref a7, .int (nI (B))])), (a0, .inl (cI, 32, .inl kd)), (a1, .inl (cI, 32, .inl ky)), (a2, .inl (cI, 32, .inl vl)), (a3, .inl (cI, 32, .inl mk)), (a4, .inl (cI, 8, .inl wr)), (a5, .inl (cI, 32, .inl lv)), (a6, .inl (cI, 16, .inl (fun _ => -9))), (a7, .inl (cI, 8, .inl fr))] := gp_D hD (by simp only [List.map_cons, List.map_nil])
        refine lv_iconst (v := 0) hx hb dX0_findRecords_22 (by decide) ?_
        refine lv_istore_n (lv' := [(1, .int (0)), (0, .ref fo)]) hx hb dX0_findRecords_23 rfl hl (by decide) rfl (fun ls hl => ?_)
        have LP24 : ∀ n9 : Nat, ∀ (j : Nat), (hj : j ≤ 32) → 32 - j < n9 → ∀ (H : Heap) (locs : List Loc), va_P D vwCl [(fo, .inr (0, [.ref a0, .ref a1, .ref a2, .ref a3, .ref a4, .ref a5, .ref a6, .ref a7, .int (nI (B))])), (a0, .inl (cI, 32, .inl kd)), (a1, .inl (cI, 32, .inl ky)), (a2, .inl (cI, 32, .inl vl)), (a3, .inl (cI, 32, .inl mk)), (a4, .inl (cI, 8, .inl wr)), (a5, .inl (cI, 32, .inl (cstF lv 0 j))), (a6, .inl (cI, 16, .inl (frN kd ky mk j))), (a7, .inl (cI, 8, .inl fr))] H → va_D A [(fo, .inr (0, [.ref a0, .ref a1, .ref a2, .ref a3, .ref a4, .ref a5, .ref a6, .ref a7, .int (nI (B))])), (a0, .inl (cI, 32, .inl kd)), (a1, .inl (cI, 32, .inl ky)), (a2, .inl (cI, 32, .inl vl)), (a3, .inl (cI, 32, .inl mk)), (a4, .inl (cI, 8, .inl wr)), (a5, .inl (cI, 32, .inl (cstF lv 0 j))), (a6, .inl (cI, 16, .inl (frN kd ky mk j))), (a7, .inl (cI, 8, .inl fr))] → va_S A s.heap H locs → ∀ ls : Array Slot, lv_has ls 4 [(0, .ref fo), (1, .int (nI (j)))] → W p l e ({ frames := 0, cells := 0, slots := 0, locals := 0 } : Room) s m ([.ref fo] : List Value).toArray below meth c H locs 0 0 (MQ below (va_Qv (fun u9 : va_W => u9 = [(fo, .inr (0, [.ref a0, .ref a1, .ref a2, .ref a3, .ref a4, .ref a5, .ref a6, .ref a7, .int (nI (B))])), (a0, .inl (cI, 32, .inl kd)), (a1, .inl (cI, 32, .inl ky)), (a2, .inl (cI, 32, .inl vl)), (a3, .inl (cI, 32, .inl mk)), (a4, .inl (cI, 8, .inl wr)), (a5, .inl (cI, 32, .inl (lvR kd ky vl mk))), (a6, .inl (cI, 16, .inl (nwR kd ky mk))), (a7, .inl (cI, 8, .inl fr))]) (fun u t => va_P D vwCl u t.heap) A) ([.ref fo] : List Value).toArray s 0 0 A) (F0 m 24 ls []) := by
          intro n9
          induction n9 with
          | zero => intros; omega
          | succ n9 ih24 =>
            intro j hj hm9 H locs hP hD hS ls hl
            refine lv_iload_n hx hb dX0_findRecords_24 rfl (lv_at hl 1 rfl) ?_
            refine lv_bipush (v := 32) hx hb dX0_findRecords_25 (by decide) ?_
            refine lv_icmp_ge (tgt := 109) hx hb dX0_findRecords_27 (by decide) (fun c27_2 => ?_) (fun c27_2 => ?_)
            · skip
              have c27_2 := cn_le (a := 32) (b := j) (by omega) (by omega) c27_2
              have hP : va_P D vwCl [(fo, .inr (0, [.ref a0, .ref a1, .ref a2, .ref a3, .ref a4, .ref a5, .ref a6, .ref a7, .int (nI (B))])), (a0, .inl (cI, 32, .inl kd)), (a1, .inl (cI, 32, .inl ky)), (a2, .inl (cI, 32, .inl vl)), (a3, .inl (cI, 32, .inl mk)), (a4, .inl (cI, 8, .inl wr)), (a5, .inl (cI, 32, .inl (fun _ => 0))), (a6, .inl (cI, 16, .inl (frN kd ky mk j))), (a7, .inl (cI, 8, .inl fr))] H := gp_cell (A := A) hP 6 rfl (fun k hk => by rw [cstF, if_pos (by omega)])
              have hD : va_D A [(fo, .inr (0, [.ref a0, .ref a1, .ref a2, .ref a3, .ref a4, .ref a5, .ref a6, .ref a7, .int (nI (B))])), (a0, .inl (cI, 32, .inl kd)), (a1, .inl (cI, 32, .inl ky)), (a2, .inl (cI, 32, .inl vl)), (a3, .inl (cI, 32, .inl mk)), (a4, .inl (cI, 8, .inl wr)), (a5, .inl (cI, 32, .inl (fun _ => 0))), (a6, .inl (cI, 16, .inl (frN kd ky mk j))), (a7, .inl (cI, 8, .inl fr))] := gp_D hD (by simp only [List.map_cons, List.map_nil])
              have hP : va_P D vwCl [(fo, .inr (0, [.ref a0, .ref a1, .ref a2, .ref a3, .ref a4, .ref a5, .ref a6, .ref a7, .int (nI (B))])), (a0, .inl (cI, 32, .inl kd)), (a1, .inl (cI, 32, .inl ky)), (a2, .inl (cI, 32, .inl vl)), (a3, .inl (cI, 32, .inl mk)), (a4, .inl (cI, 8, .inl wr)), (a5, .inl (cI, 32, .inl (fun _ => 0))), (a6, .inl (cI, 16, .inl (nwR kd ky mk))), (a7, .inl (cI, 8, .inl fr))] H := gp_cell (A := A) hP 7 rfl (fun k hk => by rw [nwR, show j = 32 by omega])
              have hD : va_D A [(fo, .inr (0, [.ref a0, .ref a1, .ref a2, .ref a3, .ref a4, .ref a5, .ref a6, .ref a7, .int (nI (B))])), (a0, .inl (cI, 32, .inl kd)), (a1, .inl (cI, 32, .inl ky)), (a2, .inl (cI, 32, .inl vl)), (a3, .inl (cI, 32, .inl mk)), (a4, .inl (cI, 8, .inl wr)), (a5, .inl (cI, 32, .inl (fun _ => 0))), (a6, .inl (cI, 16, .inl (nwR kd ky mk))), (a7, .inl (cI, 8, .inl fr))] := gp_D hD (by simp only [List.map_cons, List.map_nil])
              refine lv_iconst (v := 0) hx hb dX0_findRecords_109 (by decide) ?_
              refine lv_istore_n (lv' := [(1, .int (0)), (0, .ref fo)]) hx hb dX0_findRecords_110 rfl hl (by decide) rfl (fun ls hl => ?_)
              have LP111 : ∀ n9 : Nat, ∀ (j : Nat), (hj : j ≤ 32) → 32 - j < n9 → ∀ (H : Heap) (locs : List Loc), va_P D vwCl [(fo, .inr (0, [.ref a0, .ref a1, .ref a2, .ref a3, .ref a4, .ref a5, .ref a6, .ref a7, .int (nI (B))])), (a0, .inl (cI, 32, .inl kd)), (a1, .inl (cI, 32, .inl ky)), (a2, .inl (cI, 32, .inl vl)), (a3, .inl (cI, 32, .inl mk)), (a4, .inl (cI, 8, .inl wr)), (a5, .inl (cI, 32, .inl (frV kd ky vl (nwR kd ky mk) j))), (a6, .inl (cI, 16, .inl (nwR kd ky mk))), (a7, .inl (cI, 8, .inl fr))] H → va_D A [(fo, .inr (0, [.ref a0, .ref a1, .ref a2, .ref a3, .ref a4, .ref a5, .ref a6, .ref a7, .int (nI (B))])), (a0, .inl (cI, 32, .inl kd)), (a1, .inl (cI, 32, .inl ky)), (a2, .inl (cI, 32, .inl vl)), (a3, .inl (cI, 32, .inl mk)), (a4, .inl (cI, 8, .inl wr)), (a5, .inl (cI, 32, .inl (frV kd ky vl (nwR kd ky mk) j))), (a6, .inl (cI, 16, .inl (nwR kd ky mk))), (a7, .inl (cI, 8, .inl fr))] → va_S A s.heap H locs → ∀ ls : Array Slot, lv_has ls 4 [(0, .ref fo), (1, .int (nI (j)))] → W p l e ({ frames := 0, cells := 0, slots := 0, locals := 0 } : Room) s m ([.ref fo] : List Value).toArray below meth c H locs 0 0 (MQ below (va_Qv (fun u9 : va_W => u9 = [(fo, .inr (0, [.ref a0, .ref a1, .ref a2, .ref a3, .ref a4, .ref a5, .ref a6, .ref a7, .int (nI (B))])), (a0, .inl (cI, 32, .inl kd)), (a1, .inl (cI, 32, .inl ky)), (a2, .inl (cI, 32, .inl vl)), (a3, .inl (cI, 32, .inl mk)), (a4, .inl (cI, 8, .inl wr)), (a5, .inl (cI, 32, .inl (lvR kd ky vl mk))), (a6, .inl (cI, 16, .inl (nwR kd ky mk))), (a7, .inl (cI, 8, .inl fr))]) (fun u t => va_P D vwCl u t.heap) A) ([.ref fo] : List Value).toArray s 0 0 A) (F0 m 111 ls []) := by
                intro n9
                induction n9 with
                | zero => intros; omega
                | succ n9 ih111 =>
                  intro j hj hm9 H locs hP hD hS ls hl
                  refine lv_iload_n hx hb dX0_findRecords_111 rfl (lv_at hl 1 rfl) ?_
                  refine lv_bipush (v := 32) hx hb dX0_findRecords_112 (by decide) ?_
                  refine lv_icmp_ge (tgt := 190) hx hb dX0_findRecords_114 (by decide) (fun c114_3 => ?_) (fun c114_3 => ?_)
                  · skip
                    have c114_3 := cn_le (a := 32) (b := j) (by omega) (by omega) c114_3
                    have hP : va_P D vwCl [(fo, .inr (0, [.ref a0, .ref a1, .ref a2, .ref a3, .ref a4, .ref a5, .ref a6, .ref a7, .int (nI (B))])), (a0, .inl (cI, 32, .inl kd)), (a1, .inl (cI, 32, .inl ky)), (a2, .inl (cI, 32, .inl vl)), (a3, .inl (cI, 32, .inl mk)), (a4, .inl (cI, 8, .inl wr)), (a5, .inl (cI, 32, .inl (lvR kd ky vl mk))), (a6, .inl (cI, 16, .inl (nwR kd ky mk))), (a7, .inl (cI, 8, .inl fr))] H := by
                      rw [show (lvR kd ky vl mk : Nat → Int32) = frV kd ky vl (nwR kd ky mk) j from by rw [lvR, show j = 32 by omega]]
                      exact hP
                    exact gp_retv hX hr hlocks hS hP rfl dX0_findRecords_190
                  · skip
                    have c114_3 := cn_nle (a := 32) (b := j) (by omega) (by omega) c114_3
                    refine lv_aload_n hx hb dX0_findRecords_117 rfl (lv_at hl 0 rfl) ?_
                    refine va_get (D := D) (ci := 0) (v := .ref a1) (C := RX0) (T := TX0) (N := 9) hx hb hts u6_X0 hown hK hP 0 rfl rfl 1 (by decide) (hts _ (m6 5 rfl)) (fun _ h9 => h9) rfl dX0_findRecords_118 ?_
                    refine lv_iload_n hx hb dX0_findRecords_121 rfl (lv_at hl 1 rfl) ?_
                    refine ra_iald (i := j) hx hb hK hP 2 0 rfl rfl (by omega) (by decide) dX0_findRecords_122 ?_
                    refine lv_istore_n (lv' := [(2, .int (ky (j))), (0, .ref fo), (1, .int (nI (j)))]) hx hb dX0_findRecords_123 rfl hl (by decide) rfl (fun ls hl => ?_)
                    refine lv_aload_n hx hb dX0_findRecords_124 rfl (lv_at hl 1 rfl) ?_
                    refine va_get (D := D) (ci := 0) (v := .ref a0) (C := RX0) (T := TX0) (N := 9) hx hb hts u6_X0 hown hK hP 0 rfl rfl 0 (by decide) (hts _ (m6 4 rfl)) (fun _ h9 => h9) rfl dX0_findRecords_125 ?_
                    refine lv_iload_n hx hb dX0_findRecords_128 rfl (lv_at hl 2 rfl) ?_
                    refine ra_iald (i := j) hx hb hK hP 1 0 rfl rfl (by omega) (by decide) dX0_findRecords_129 ?_
                    refine lv_iconst (v := 1) hx hb dX0_findRecords_130 (by decide) ?_
                    refine lv_icmp_ne (tgt := 184) hx hb dX0_findRecords_131 (by decide) (fun c131_4 => ?_) (fun c131_4 => ?_)
                    · skip
                      refine lv_iinc (v := nI (j + 1)) (lv' := [(1, .int (nI (j + 1))), (2, .int (ky (j))), (0, .ref fo)]) hx hb dX0_findRecords_184 hl (k := 2) rfl (nI_add _ 1) (by decide) rfl (fun ls hl => ?_)
                      refine lv_goto (tgt := 111) hx hb dX0_findRecords_187 (by decide) ?_
                      have hl : lv_has ls 4 [(1, .int (nI ((j + 1)))), (2, .int (ky (j))), (0, .ref fo)] := lv_re hl 0 rfl (show nI (j + 1) = nI ((j + 1)) from rfl)
                      have hP : va_P D vwCl [(fo, .inr (0, [.ref a0, .ref a1, .ref a2, .ref a3, .ref a4, .ref a5, .ref a6, .ref a7, .int (nI (B))])), (a0, .inl (cI, 32, .inl kd)), (a1, .inl (cI, 32, .inl ky)), (a2, .inl (cI, 32, .inl vl)), (a3, .inl (cI, 32, .inl mk)), (a4, .inl (cI, 8, .inl wr)), (a5, .inl (cI, 32, .inl (frV kd ky vl (nwR kd ky mk) (j + 1)))), (a6, .inl (cI, 16, .inl (nwR kd ky mk))), (a7, .inl (cI, 8, .inl fr))] H := by
                        rw [show (frV kd ky vl (nwR kd ky mk) (j + 1) : Nat → Int32) = frV kd ky vl (nwR kd ky mk) j from by rw [frV, if_neg (fun z => c131_4 z.1)]]
                        exact hP
                      have hD : va_D A [(fo, .inr (0, [.ref a0, .ref a1, .ref a2, .ref a3, .ref a4, .ref a5, .ref a6, .ref a7, .int (nI (B))])), (a0, .inl (cI, 32, .inl kd)), (a1, .inl (cI, 32, .inl ky)), (a2, .inl (cI, 32, .inl vl)), (a3, .inl (cI, 32, .inl mk)), (a4, .inl (cI, 8, .inl wr)), (a5, .inl (cI, 32, .inl (frV kd ky vl (nwR kd ky mk) (j + 1)))), (a6, .inl (cI, 16, .inl (nwR kd ky mk))), (a7, .inl (cI, 8, .inl fr))] := by
                        rw [show (frV kd ky vl (nwR kd ky mk) (j + 1) : Nat → Int32) = frV kd ky vl (nwR kd ky mk) j from by rw [frV, if_neg (fun z => c131_4 z.1)]]
                        exact hD
                      have hP : va_P D vwCl [(fo, .inr (0, [.ref a0, .ref a1, .ref a2, .ref a3, .ref a4, .ref a5, .ref a6, .ref a7, .int (nI (B))])), (a0, .inl (cI, 32, .inl kd)), (a1, .inl (cI, 32, .inl ky)), (a2, .inl (cI, 32, .inl vl)), (a3, .inl (cI, 32, .inl mk)), (a4, .inl (cI, 8, .inl wr)), (a5, .inl (cI, 32, .inl (frV kd ky vl (nwR kd ky mk) (j + 1)))), (a6, .inl (cI, 16, .inl (nwR kd ky mk))), (a7, .inl (cI, 8, .inl fr))] H := hP
                      have hD : va_D A [(fo, .inr (0, [.ref a0, .ref a1, .ref a2, .ref a3, .ref a4, .ref a5, .ref a6, .ref a7, .int (nI (B))])), (a0, .inl (cI, 32, .inl kd)), (a1, .inl (cI, 32, .inl ky)), (a2, .inl (cI, 32, .inl vl)), (a3, .inl (cI, 32, .inl mk)), (a4, .inl (cI, 8, .inl wr)), (a5, .inl (cI, 32, .inl (frV kd ky vl (nwR kd ky mk) (j + 1)))), (a6, .inl (cI, 16, .inl (nwR kd ky mk))), (a7, .inl (cI, 8, .inl fr))] := hD
                      exact ih111 (j + 1) (by omega) (by omega) _ _ hP hD hS _ (lv_sub hl [2, 0] rfl)
                    · skip
                      refine lv_iload_n hx hb dX0_findRecords_134 rfl (lv_at hl 0 rfl) ?_
                      refine lv_if_lt (tgt := 184) hx hb dX0_findRecords_135 (by decide) (fun c135_5 => ?_) (fun c135_5 => ?_)
                      · skip
                        refine lv_iinc (v := nI (j + 1)) (lv' := [(1, .int (nI (j + 1))), (2, .int (ky (j))), (0, .ref fo)]) hx hb dX0_findRecords_184 hl (k := 2) rfl (nI_add _ 1) (by decide) rfl (fun ls hl => ?_)
                        refine lv_goto (tgt := 111) hx hb dX0_findRecords_187 (by decide) ?_
                        have hl : lv_has ls 4 [(1, .int (nI ((j + 1)))), (2, .int (ky (j))), (0, .ref fo)] := lv_re hl 0 rfl (show nI (j + 1) = nI ((j + 1)) from rfl)
                        have hP : va_P D vwCl [(fo, .inr (0, [.ref a0, .ref a1, .ref a2, .ref a3, .ref a4, .ref a5, .ref a6, .ref a7, .int (nI (B))])), (a0, .inl (cI, 32, .inl kd)), (a1, .inl (cI, 32, .inl ky)), (a2, .inl (cI, 32, .inl vl)), (a3, .inl (cI, 32, .inl mk)), (a4, .inl (cI, 8, .inl wr)), (a5, .inl (cI, 32, .inl (frV kd ky vl (nwR kd ky mk) (j + 1)))), (a6, .inl (cI, 16, .inl (nwR kd ky mk))), (a7, .inl (cI, 8, .inl fr))] H := by
                          rw [show (frV kd ky vl (nwR kd ky mk) (j + 1) : Nat → Int32) = frV kd ky vl (nwR kd ky mk) j from by rw [frV, if_neg (fun z => z.2.1.1 c135_5)]]
                          exact hP
                        have hD : va_D A [(fo, .inr (0, [.ref a0, .ref a1, .ref a2, .ref a3, .ref a4, .ref a5, .ref a6, .ref a7, .int (nI (B))])), (a0, .inl (cI, 32, .inl kd)), (a1, .inl (cI, 32, .inl ky)), (a2, .inl (cI, 32, .inl vl)), (a3, .inl (cI, 32, .inl mk)), (a4, .inl (cI, 8, .inl wr)), (a5, .inl (cI, 32, .inl (frV kd ky vl (nwR kd ky mk) (j + 1)))), (a6, .inl (cI, 16, .inl (nwR kd ky mk))), (a7, .inl (cI, 8, .inl fr))] := by
                          rw [show (frV kd ky vl (nwR kd ky mk) (j + 1) : Nat → Int32) = frV kd ky vl (nwR kd ky mk) j from by rw [frV, if_neg (fun z => z.2.1.1 c135_5)]]
                          exact hD
                        have hP : va_P D vwCl [(fo, .inr (0, [.ref a0, .ref a1, .ref a2, .ref a3, .ref a4, .ref a5, .ref a6, .ref a7, .int (nI (B))])), (a0, .inl (cI, 32, .inl kd)), (a1, .inl (cI, 32, .inl ky)), (a2, .inl (cI, 32, .inl vl)), (a3, .inl (cI, 32, .inl mk)), (a4, .inl (cI, 8, .inl wr)), (a5, .inl (cI, 32, .inl (frV kd ky vl (nwR kd ky mk) (j + 1)))), (a6, .inl (cI, 16, .inl (nwR kd ky mk))), (a7, .inl (cI, 8, .inl fr))] H := hP
                        have hD : va_D A [(fo, .inr (0, [.ref a0, .ref a1, .ref a2, .ref a3, .ref a4, .ref a5, .ref a6, .ref a7, .int (nI (B))])), (a0, .inl (cI, 32, .inl kd)), (a1, .inl (cI, 32, .inl ky)), (a2, .inl (cI, 32, .inl vl)), (a3, .inl (cI, 32, .inl mk)), (a4, .inl (cI, 8, .inl wr)), (a5, .inl (cI, 32, .inl (frV kd ky vl (nwR kd ky mk) (j + 1)))), (a6, .inl (cI, 16, .inl (nwR kd ky mk))), (a7, .inl (cI, 8, .inl fr))] := hD
                        exact ih111 (j + 1) (by omega) (by omega) _ _ hP hD hS _ (lv_sub hl [2, 0] rfl)
                      · skip
                        refine lv_iload_n hx hb dX0_findRecords_138 rfl (lv_at hl 0 rfl) ?_
                        refine lv_bipush (v := 16) hx hb dX0_findRecords_139 (by decide) ?_
                        refine lv_icmp_ge (tgt := 184) hx hb dX0_findRecords_141 (by decide) (fun c141_6 => ?_) (fun c141_6 => ?_)
                        · skip
                          have c141_6 := i_nlt c141_6
                          refine lv_iinc (v := nI (j + 1)) (lv' := [(1, .int (nI (j + 1))), (2, .int (ky (j))), (0, .ref fo)]) hx hb dX0_findRecords_184 hl (k := 2) rfl (nI_add _ 1) (by decide) rfl (fun ls hl => ?_)
                          refine lv_goto (tgt := 111) hx hb dX0_findRecords_187 (by decide) ?_
                          have hl : lv_has ls 4 [(1, .int (nI ((j + 1)))), (2, .int (ky (j))), (0, .ref fo)] := lv_re hl 0 rfl (show nI (j + 1) = nI ((j + 1)) from rfl)
                          have hP : va_P D vwCl [(fo, .inr (0, [.ref a0, .ref a1, .ref a2, .ref a3, .ref a4, .ref a5, .ref a6, .ref a7, .int (nI (B))])), (a0, .inl (cI, 32, .inl kd)), (a1, .inl (cI, 32, .inl ky)), (a2, .inl (cI, 32, .inl vl)), (a3, .inl (cI, 32, .inl mk)), (a4, .inl (cI, 8, .inl wr)), (a5, .inl (cI, 32, .inl (frV kd ky vl (nwR kd ky mk) (j + 1)))), (a6, .inl (cI, 16, .inl (nwR kd ky mk))), (a7, .inl (cI, 8, .inl fr))] H := by
                            rw [show (frV kd ky vl (nwR kd ky mk) (j + 1) : Nat → Int32) = frV kd ky vl (nwR kd ky mk) j from by rw [frV, if_neg (fun z => c141_6 z.2.1.2)]]
                            exact hP
                          have hD : va_D A [(fo, .inr (0, [.ref a0, .ref a1, .ref a2, .ref a3, .ref a4, .ref a5, .ref a6, .ref a7, .int (nI (B))])), (a0, .inl (cI, 32, .inl kd)), (a1, .inl (cI, 32, .inl ky)), (a2, .inl (cI, 32, .inl vl)), (a3, .inl (cI, 32, .inl mk)), (a4, .inl (cI, 8, .inl wr)), (a5, .inl (cI, 32, .inl (frV kd ky vl (nwR kd ky mk) (j + 1)))), (a6, .inl (cI, 16, .inl (nwR kd ky mk))), (a7, .inl (cI, 8, .inl fr))] := by
                            rw [show (frV kd ky vl (nwR kd ky mk) (j + 1) : Nat → Int32) = frV kd ky vl (nwR kd ky mk) j from by rw [frV, if_neg (fun z => c141_6 z.2.1.2)]]
                            exact hD
                          have hP : va_P D vwCl [(fo, .inr (0, [.ref a0, .ref a1, .ref a2, .ref a3, .ref a4, .ref a5, .ref a6, .ref a7, .int (nI (B))])), (a0, .inl (cI, 32, .inl kd)), (a1, .inl (cI, 32, .inl ky)), (a2, .inl (cI, 32, .inl vl)), (a3, .inl (cI, 32, .inl mk)), (a4, .inl (cI, 8, .inl wr)), (a5, .inl (cI, 32, .inl (frV kd ky vl (nwR kd ky mk) (j + 1)))), (a6, .inl (cI, 16, .inl (nwR kd ky mk))), (a7, .inl (cI, 8, .inl fr))] H := hP
                          have hD : va_D A [(fo, .inr (0, [.ref a0, .ref a1, .ref a2, .ref a3, .ref a4, .ref a5, .ref a6, .ref a7, .int (nI (B))])), (a0, .inl (cI, 32, .inl kd)), (a1, .inl (cI, 32, .inl ky)), (a2, .inl (cI, 32, .inl vl)), (a3, .inl (cI, 32, .inl mk)), (a4, .inl (cI, 8, .inl wr)), (a5, .inl (cI, 32, .inl (frV kd ky vl (nwR kd ky mk) (j + 1)))), (a6, .inl (cI, 16, .inl (nwR kd ky mk))), (a7, .inl (cI, 8, .inl fr))] := hD
                          exact ih111 (j + 1) (by omega) (by omega) _ _ hP hD hS _ (lv_sub hl [2, 0] rfl)
                        · skip
                          have c141_6 := i_lt c141_6
                          obtain ⟨en2, hn2⟩ := num0 (k := 16) (by decide) c135_5 c141_6
                          have hl : lv_has ls 4 [(2, .int (nI ((ky (j)).toNatClampNeg))), (0, .ref fo), (1, .int (nI (j)))] := lv_re hl 0 rfl en2
                          refine lv_aload_n hx hb dX0_findRecords_144 rfl (lv_at hl 1 rfl) ?_
                          refine va_get (D := D) (ci := 0) (v := .ref a6) (C := RX0) (T := TX0) (N := 9) hx hb hts u6_X0 hown hK hP 0 rfl rfl 6 (by decide) (hts _ (m6 10 rfl)) (fun _ h9 => h9) rfl dX0_findRecords_145 ?_
                          refine lv_iload_n hx hb dX0_findRecords_148 rfl (lv_at hl 0 rfl) ?_
                          refine ra_iald (i := (ky (j)).toNatClampNeg) hx hb hK hP 7 0 rfl rfl (by omega) (by decide) dX0_findRecords_149 ?_
                          refine lv_istore_n (lv' := [(3, .int ((nwR kd ky mk) ((ky (j)).toNatClampNeg))), (2, .int (nI ((ky (j)).toNatClampNeg))), (0, .ref fo), (1, .int (nI (j)))]) hx hb dX0_findRecords_150 rfl hl (by decide) rfl (fun ls hl => ?_)
                          refine lv_iload_n hx hb dX0_findRecords_151 rfl (lv_at hl 0 rfl) ?_
                          refine lv_if_lt (tgt := 184) hx hb dX0_findRecords_152 (by decide) (fun c152_7 => ?_) (fun c152_7 => ?_)
                          · skip
                            refine lv_iinc (v := nI (j + 1)) (lv' := [(1, .int (nI (j + 1))), (3, .int ((nwR kd ky mk) ((ky (j)).toNatClampNeg))), (2, .int (nI ((ky (j)).toNatClampNeg))), (0, .ref fo)]) hx hb dX0_findRecords_184 hl (k := 3) rfl (nI_add _ 1) (by decide) rfl (fun ls hl => ?_)
                            refine lv_goto (tgt := 111) hx hb dX0_findRecords_187 (by decide) ?_
                            have hl : lv_has ls 4 [(1, .int (nI ((j + 1)))), (3, .int ((nwR kd ky mk) ((ky (j)).toNatClampNeg))), (2, .int (nI ((ky (j)).toNatClampNeg))), (0, .ref fo)] := lv_re hl 0 rfl (show nI (j + 1) = nI ((j + 1)) from rfl)
                            have hP : va_P D vwCl [(fo, .inr (0, [.ref a0, .ref a1, .ref a2, .ref a3, .ref a4, .ref a5, .ref a6, .ref a7, .int (nI (B))])), (a0, .inl (cI, 32, .inl kd)), (a1, .inl (cI, 32, .inl ky)), (a2, .inl (cI, 32, .inl vl)), (a3, .inl (cI, 32, .inl mk)), (a4, .inl (cI, 8, .inl wr)), (a5, .inl (cI, 32, .inl (frV kd ky vl (nwR kd ky mk) (j + 1)))), (a6, .inl (cI, 16, .inl (nwR kd ky mk))), (a7, .inl (cI, 8, .inl fr))] H := by
                              rw [show (frV kd ky vl (nwR kd ky mk) (j + 1) : Nat → Int32) = frV kd ky vl (nwR kd ky mk) j from by rw [frV, if_neg (fun z => z.2.2.1.1 c152_7)]]
                              exact hP
                            have hD : va_D A [(fo, .inr (0, [.ref a0, .ref a1, .ref a2, .ref a3, .ref a4, .ref a5, .ref a6, .ref a7, .int (nI (B))])), (a0, .inl (cI, 32, .inl kd)), (a1, .inl (cI, 32, .inl ky)), (a2, .inl (cI, 32, .inl vl)), (a3, .inl (cI, 32, .inl mk)), (a4, .inl (cI, 8, .inl wr)), (a5, .inl (cI, 32, .inl (frV kd ky vl (nwR kd ky mk) (j + 1)))), (a6, .inl (cI, 16, .inl (nwR kd ky mk))), (a7, .inl (cI, 8, .inl fr))] := by
                              rw [show (frV kd ky vl (nwR kd ky mk) (j + 1) : Nat → Int32) = frV kd ky vl (nwR kd ky mk) j from by rw [frV, if_neg (fun z => z.2.2.1.1 c152_7)]]
                              exact hD
                            have hP : va_P D vwCl [(fo, .inr (0, [.ref a0, .ref a1, .ref a2, .ref a3, .ref a4, .ref a5, .ref a6, .ref a7, .int (nI (B))])), (a0, .inl (cI, 32, .inl kd)), (a1, .inl (cI, 32, .inl ky)), (a2, .inl (cI, 32, .inl vl)), (a3, .inl (cI, 32, .inl mk)), (a4, .inl (cI, 8, .inl wr)), (a5, .inl (cI, 32, .inl (frV kd ky vl (nwR kd ky mk) (j + 1)))), (a6, .inl (cI, 16, .inl (nwR kd ky mk))), (a7, .inl (cI, 8, .inl fr))] H := hP
                            have hD : va_D A [(fo, .inr (0, [.ref a0, .ref a1, .ref a2, .ref a3, .ref a4, .ref a5, .ref a6, .ref a7, .int (nI (B))])), (a0, .inl (cI, 32, .inl kd)), (a1, .inl (cI, 32, .inl ky)), (a2, .inl (cI, 32, .inl vl)), (a3, .inl (cI, 32, .inl mk)), (a4, .inl (cI, 8, .inl wr)), (a5, .inl (cI, 32, .inl (frV kd ky vl (nwR kd ky mk) (j + 1)))), (a6, .inl (cI, 16, .inl (nwR kd ky mk))), (a7, .inl (cI, 8, .inl fr))] := hD
                            exact ih111 (j + 1) (by omega) (by omega) _ _ hP hD hS _ (lv_sub hl [3, 0] rfl)
                          · skip
                            refine lv_iload_n hx hb dX0_findRecords_155 rfl (lv_at hl 0 rfl) ?_
                            refine lv_bipush (v := 32) hx hb dX0_findRecords_156 (by decide) ?_
                            refine lv_icmp_ge (tgt := 184) hx hb dX0_findRecords_158 (by decide) (fun c158_8 => ?_) (fun c158_8 => ?_)
                            · skip
                              have c158_8 := i_nlt c158_8
                              refine lv_iinc (v := nI (j + 1)) (lv' := [(1, .int (nI (j + 1))), (3, .int ((nwR kd ky mk) ((ky (j)).toNatClampNeg))), (2, .int (nI ((ky (j)).toNatClampNeg))), (0, .ref fo)]) hx hb dX0_findRecords_184 hl (k := 3) rfl (nI_add _ 1) (by decide) rfl (fun ls hl => ?_)
                              refine lv_goto (tgt := 111) hx hb dX0_findRecords_187 (by decide) ?_
                              have hl : lv_has ls 4 [(1, .int (nI ((j + 1)))), (3, .int ((nwR kd ky mk) ((ky (j)).toNatClampNeg))), (2, .int (nI ((ky (j)).toNatClampNeg))), (0, .ref fo)] := lv_re hl 0 rfl (show nI (j + 1) = nI ((j + 1)) from rfl)
                              have hP : va_P D vwCl [(fo, .inr (0, [.ref a0, .ref a1, .ref a2, .ref a3, .ref a4, .ref a5, .ref a6, .ref a7, .int (nI (B))])), (a0, .inl (cI, 32, .inl kd)), (a1, .inl (cI, 32, .inl ky)), (a2, .inl (cI, 32, .inl vl)), (a3, .inl (cI, 32, .inl mk)), (a4, .inl (cI, 8, .inl wr)), (a5, .inl (cI, 32, .inl (frV kd ky vl (nwR kd ky mk) (j + 1)))), (a6, .inl (cI, 16, .inl (nwR kd ky mk))), (a7, .inl (cI, 8, .inl fr))] H := by
                                rw [show (frV kd ky vl (nwR kd ky mk) (j + 1) : Nat → Int32) = frV kd ky vl (nwR kd ky mk) j from by rw [frV, if_neg (fun z => c158_8 z.2.2.1.2)]]
                                exact hP
                              have hD : va_D A [(fo, .inr (0, [.ref a0, .ref a1, .ref a2, .ref a3, .ref a4, .ref a5, .ref a6, .ref a7, .int (nI (B))])), (a0, .inl (cI, 32, .inl kd)), (a1, .inl (cI, 32, .inl ky)), (a2, .inl (cI, 32, .inl vl)), (a3, .inl (cI, 32, .inl mk)), (a4, .inl (cI, 8, .inl wr)), (a5, .inl (cI, 32, .inl (frV kd ky vl (nwR kd ky mk) (j + 1)))), (a6, .inl (cI, 16, .inl (nwR kd ky mk))), (a7, .inl (cI, 8, .inl fr))] := by
                                rw [show (frV kd ky vl (nwR kd ky mk) (j + 1) : Nat → Int32) = frV kd ky vl (nwR kd ky mk) j from by rw [frV, if_neg (fun z => c158_8 z.2.2.1.2)]]
                                exact hD
                              have hP : va_P D vwCl [(fo, .inr (0, [.ref a0, .ref a1, .ref a2, .ref a3, .ref a4, .ref a5, .ref a6, .ref a7, .int (nI (B))])), (a0, .inl (cI, 32, .inl kd)), (a1, .inl (cI, 32, .inl ky)), (a2, .inl (cI, 32, .inl vl)), (a3, .inl (cI, 32, .inl mk)), (a4, .inl (cI, 8, .inl wr)), (a5, .inl (cI, 32, .inl (frV kd ky vl (nwR kd ky mk) (j + 1)))), (a6, .inl (cI, 16, .inl (nwR kd ky mk))), (a7, .inl (cI, 8, .inl fr))] H := hP
                              have hD : va_D A [(fo, .inr (0, [.ref a0, .ref a1, .ref a2, .ref a3, .ref a4, .ref a5, .ref a6, .ref a7, .int (nI (B))])), (a0, .inl (cI, 32, .inl kd)), (a1, .inl (cI, 32, .inl ky)), (a2, .inl (cI, 32, .inl vl)), (a3, .inl (cI, 32, .inl mk)), (a4, .inl (cI, 8, .inl wr)), (a5, .inl (cI, 32, .inl (frV kd ky vl (nwR kd ky mk) (j + 1)))), (a6, .inl (cI, 16, .inl (nwR kd ky mk))), (a7, .inl (cI, 8, .inl fr))] := hD
                              exact ih111 (j + 1) (by omega) (by omega) _ _ hP hD hS _ (lv_sub hl [3, 0] rfl)
                            · skip
                              have c158_8 := i_lt c158_8
                              refine lv_iload_n hx hb dX0_findRecords_161 rfl (lv_at hl 3 rfl) ?_
                              refine lv_iload_n hx hb dX0_findRecords_162 rfl (lv_at hl 0 rfl) ?_
                              refine lv_icmp_ne (tgt := 177) hx hb dX0_findRecords_163 (by decide) (fun c163_9 => ?_) (fun c163_9 => ?_)
                              · skip
                                obtain ⟨en3, hn3⟩ := num0 (k := 32) (by decide) c152_7 c158_8
                                have hl : lv_has ls 4 [(3, .int (nI (((nwR kd ky mk) ((ky (j)).toNatClampNeg)).toNatClampNeg))), (2, .int (nI ((ky (j)).toNatClampNeg))), (0, .ref fo), (1, .int (nI (j)))] := lv_re hl 0 rfl en3
                                refine lv_aload_n hx hb dX0_findRecords_177 rfl (lv_at hl 2 rfl) ?_
                                refine va_get (D := D) (ci := 0) (v := .ref a5) (C := RX0) (T := TX0) (N := 9) hx hb hts u6_X0 hown hK hP 0 rfl rfl 5 (by decide) (hts _ (m6 9 rfl)) (fun _ h9 => h9) rfl dX0_findRecords_178 ?_
                                refine lv_iload_n hx hb dX0_findRecords_181 rfl (lv_at hl 0 rfl) ?_
                                refine lv_iconst (v := 1) hx hb dX0_findRecords_182 (by decide) ?_
                                refine ra_iast (i := ((nwR kd ky mk) ((ky (j)).toNatClampNeg)).toNatClampNeg) hx hb hK hP hD hS 6 0 rfl rfl (by omega) (by decide) dX0_findRecords_183 (fun H locs hP hD hS => ?_)
                                have hP : va_P D vwCl [(fo, .inr (0, [.ref a0, .ref a1, .ref a2, .ref a3, .ref a4, .ref a5, .ref a6, .ref a7, .int (nI (B))])), (a0, .inl (cI, 32, .inl kd)), (a1, .inl (cI, 32, .inl ky)), (a2, .inl (cI, 32, .inl vl)), (a3, .inl (cI, 32, .inl mk)), (a4, .inl (cI, 8, .inl wr)), (a5, .inl (cI, 32, .inl (upd (frV kd ky vl (nwR kd ky mk) j) (((nwR kd ky mk) ((ky (j)).toNatClampNeg)).toNatClampNeg) 1))), (a6, .inl (cI, 16, .inl (nwR kd ky mk))), (a7, .inl (cI, 8, .inl fr))] H := hP
                                have hD : va_D A [(fo, .inr (0, [.ref a0, .ref a1, .ref a2, .ref a3, .ref a4, .ref a5, .ref a6, .ref a7, .int (nI (B))])), (a0, .inl (cI, 32, .inl kd)), (a1, .inl (cI, 32, .inl ky)), (a2, .inl (cI, 32, .inl vl)), (a3, .inl (cI, 32, .inl mk)), (a4, .inl (cI, 8, .inl wr)), (a5, .inl (cI, 32, .inl (upd (frV kd ky vl (nwR kd ky mk) j) (((nwR kd ky mk) ((ky (j)).toNatClampNeg)).toNatClampNeg) 1))), (a6, .inl (cI, 16, .inl (nwR kd ky mk))), (a7, .inl (cI, 8, .inl fr))] := hD
                                refine lv_iinc (v := nI (j + 1)) (lv' := [(1, .int (nI (j + 1))), (3, .int (nI (((nwR kd ky mk) ((ky (j)).toNatClampNeg)).toNatClampNeg))), (2, .int (nI ((ky (j)).toNatClampNeg))), (0, .ref fo)]) hx hb dX0_findRecords_184 hl (k := 3) rfl (nI_add _ 1) (by decide) rfl (fun ls hl => ?_)
                                refine lv_goto (tgt := 111) hx hb dX0_findRecords_187 (by decide) ?_
                                have hl : lv_has ls 4 [(1, .int (nI ((j + 1)))), (3, .int (nI (((nwR kd ky mk) ((ky (j)).toNatClampNeg)).toNatClampNeg))), (2, .int (nI ((ky (j)).toNatClampNeg))), (0, .ref fo)] := lv_re hl 0 rfl (show nI (j + 1) = nI ((j + 1)) from rfl)
                                have hP : va_P D vwCl [(fo, .inr (0, [.ref a0, .ref a1, .ref a2, .ref a3, .ref a4, .ref a5, .ref a6, .ref a7, .int (nI (B))])), (a0, .inl (cI, 32, .inl kd)), (a1, .inl (cI, 32, .inl ky)), (a2, .inl (cI, 32, .inl vl)), (a3, .inl (cI, 32, .inl mk)), (a4, .inl (cI, 8, .inl wr)), (a5, .inl (cI, 32, .inl (frV kd ky vl (nwR kd ky mk) (j + 1)))), (a6, .inl (cI, 16, .inl (nwR kd ky mk))), (a7, .inl (cI, 8, .inl fr))] H := by
                                  rw [show (frV kd ky vl (nwR kd ky mk) (j + 1) : Nat → Int32) = upd (frV kd ky vl (nwR kd ky mk) j) (((nwR kd ky mk) ((ky (j)).toNatClampNeg)).toNatClampNeg) 1 from by rw [frV, if_pos ⟨c131_4, ⟨c135_5, c141_6⟩, ⟨c152_7, c158_8⟩, Or.inl c163_9⟩]]
                                  exact hP
                                have hD : va_D A [(fo, .inr (0, [.ref a0, .ref a1, .ref a2, .ref a3, .ref a4, .ref a5, .ref a6, .ref a7, .int (nI (B))])), (a0, .inl (cI, 32, .inl kd)), (a1, .inl (cI, 32, .inl ky)), (a2, .inl (cI, 32, .inl vl)), (a3, .inl (cI, 32, .inl mk)), (a4, .inl (cI, 8, .inl wr)), (a5, .inl (cI, 32, .inl (frV kd ky vl (nwR kd ky mk) (j + 1)))), (a6, .inl (cI, 16, .inl (nwR kd ky mk))), (a7, .inl (cI, 8, .inl fr))] := by
                                  rw [show (frV kd ky vl (nwR kd ky mk) (j + 1) : Nat → Int32) = upd (frV kd ky vl (nwR kd ky mk) j) (((nwR kd ky mk) ((ky (j)).toNatClampNeg)).toNatClampNeg) 1 from by rw [frV, if_pos ⟨c131_4, ⟨c135_5, c141_6⟩, ⟨c152_7, c158_8⟩, Or.inl c163_9⟩]]
                                  exact hD
                                have hP : va_P D vwCl [(fo, .inr (0, [.ref a0, .ref a1, .ref a2, .ref a3, .ref a4, .ref a5, .ref a6, .ref a7, .int (nI (B))])), (a0, .inl (cI, 32, .inl kd)), (a1, .inl (cI, 32, .inl ky)), (a2, .inl (cI, 32, .inl vl)), (a3, .inl (cI, 32, .inl mk)), (a4, .inl (cI, 8, .inl wr)), (a5, .inl (cI, 32, .inl (frV kd ky vl (nwR kd ky mk) (j + 1)))), (a6, .inl (cI, 16, .inl (nwR kd ky mk))), (a7, .inl (cI, 8, .inl fr))] H := hP
                                have hD : va_D A [(fo, .inr (0, [.ref a0, .ref a1, .ref a2, .ref a3, .ref a4, .ref a5, .ref a6, .ref a7, .int (nI (B))])), (a0, .inl (cI, 32, .inl kd)), (a1, .inl (cI, 32, .inl ky)), (a2, .inl (cI, 32, .inl vl)), (a3, .inl (cI, 32, .inl mk)), (a4, .inl (cI, 8, .inl wr)), (a5, .inl (cI, 32, .inl (frV kd ky vl (nwR kd ky mk) (j + 1)))), (a6, .inl (cI, 16, .inl (nwR kd ky mk))), (a7, .inl (cI, 8, .inl fr))] := hD
                                exact ih111 (j + 1) (by omega) (by omega) _ _ hP hD hS _ (lv_sub hl [3, 0] rfl)
                              · skip
                                refine lv_aload_n hx hb dX0_findRecords_166 rfl (lv_at hl 2 rfl) ?_
                                refine va_get (D := D) (ci := 0) (v := .ref a2) (C := RX0) (T := TX0) (N := 9) hx hb hts u6_X0 hown hK hP 0 rfl rfl 2 (by decide) (hts _ (m6 6 rfl)) (fun _ h9 => h9) rfl dX0_findRecords_167 ?_
                                refine lv_iload_n hx hb dX0_findRecords_170 rfl (lv_at hl 3 rfl) ?_
                                refine ra_iald (i := j) hx hb hK hP 3 0 rfl rfl (by omega) (by decide) dX0_findRecords_171 ?_
                                refine lv_bipush (v := (-9)) hx hb dX0_findRecords_172 (by decide) ?_
                                refine lv_icmp_eq (tgt := 184) hx hb dX0_findRecords_174 (by decide) (fun c174_10 => ?_) (fun c174_10 => ?_)
                                · skip
                                  refine lv_iinc (v := nI (j + 1)) (lv' := [(1, .int (nI (j + 1))), (3, .int ((nwR kd ky mk) ((ky (j)).toNatClampNeg))), (2, .int (nI ((ky (j)).toNatClampNeg))), (0, .ref fo)]) hx hb dX0_findRecords_184 hl (k := 3) rfl (nI_add _ 1) (by decide) rfl (fun ls hl => ?_)
                                  refine lv_goto (tgt := 111) hx hb dX0_findRecords_187 (by decide) ?_
                                  have hl : lv_has ls 4 [(1, .int (nI ((j + 1)))), (3, .int ((nwR kd ky mk) ((ky (j)).toNatClampNeg))), (2, .int (nI ((ky (j)).toNatClampNeg))), (0, .ref fo)] := lv_re hl 0 rfl (show nI (j + 1) = nI ((j + 1)) from rfl)
                                  have hP : va_P D vwCl [(fo, .inr (0, [.ref a0, .ref a1, .ref a2, .ref a3, .ref a4, .ref a5, .ref a6, .ref a7, .int (nI (B))])), (a0, .inl (cI, 32, .inl kd)), (a1, .inl (cI, 32, .inl ky)), (a2, .inl (cI, 32, .inl vl)), (a3, .inl (cI, 32, .inl mk)), (a4, .inl (cI, 8, .inl wr)), (a5, .inl (cI, 32, .inl (frV kd ky vl (nwR kd ky mk) (j + 1)))), (a6, .inl (cI, 16, .inl (nwR kd ky mk))), (a7, .inl (cI, 8, .inl fr))] H := by
                                    rw [show (frV kd ky vl (nwR kd ky mk) (j + 1) : Nat → Int32) = frV kd ky vl (nwR kd ky mk) j from by rw [frV, if_neg (fun z => z.2.2.2.elim (fun y => y c163_9) (fun y => y c174_10))]]
                                    exact hP
                                  have hD : va_D A [(fo, .inr (0, [.ref a0, .ref a1, .ref a2, .ref a3, .ref a4, .ref a5, .ref a6, .ref a7, .int (nI (B))])), (a0, .inl (cI, 32, .inl kd)), (a1, .inl (cI, 32, .inl ky)), (a2, .inl (cI, 32, .inl vl)), (a3, .inl (cI, 32, .inl mk)), (a4, .inl (cI, 8, .inl wr)), (a5, .inl (cI, 32, .inl (frV kd ky vl (nwR kd ky mk) (j + 1)))), (a6, .inl (cI, 16, .inl (nwR kd ky mk))), (a7, .inl (cI, 8, .inl fr))] := by
                                    rw [show (frV kd ky vl (nwR kd ky mk) (j + 1) : Nat → Int32) = frV kd ky vl (nwR kd ky mk) j from by rw [frV, if_neg (fun z => z.2.2.2.elim (fun y => y c163_9) (fun y => y c174_10))]]
                                    exact hD
                                  have hP : va_P D vwCl [(fo, .inr (0, [.ref a0, .ref a1, .ref a2, .ref a3, .ref a4, .ref a5, .ref a6, .ref a7, .int (nI (B))])), (a0, .inl (cI, 32, .inl kd)), (a1, .inl (cI, 32, .inl ky)), (a2, .inl (cI, 32, .inl vl)), (a3, .inl (cI, 32, .inl mk)), (a4, .inl (cI, 8, .inl wr)), (a5, .inl (cI, 32, .inl (frV kd ky vl (nwR kd ky mk) (j + 1)))), (a6, .inl (cI, 16, .inl (nwR kd ky mk))), (a7, .inl (cI, 8, .inl fr))] H := hP
                                  have hD : va_D A [(fo, .inr (0, [.ref a0, .ref a1, .ref a2, .ref a3, .ref a4, .ref a5, .ref a6, .ref a7, .int (nI (B))])), (a0, .inl (cI, 32, .inl kd)), (a1, .inl (cI, 32, .inl ky)), (a2, .inl (cI, 32, .inl vl)), (a3, .inl (cI, 32, .inl mk)), (a4, .inl (cI, 8, .inl wr)), (a5, .inl (cI, 32, .inl (frV kd ky vl (nwR kd ky mk) (j + 1)))), (a6, .inl (cI, 16, .inl (nwR kd ky mk))), (a7, .inl (cI, 8, .inl fr))] := hD
                                  exact ih111 (j + 1) (by omega) (by omega) _ _ hP hD hS _ (lv_sub hl [3, 0] rfl)
                                · skip
                                  obtain ⟨en3, hn3⟩ := num0 (k := 32) (by decide) c152_7 c158_8
                                  have hl : lv_has ls 4 [(3, .int (nI (((nwR kd ky mk) ((ky (j)).toNatClampNeg)).toNatClampNeg))), (2, .int (nI ((ky (j)).toNatClampNeg))), (0, .ref fo), (1, .int (nI (j)))] := lv_re hl 0 rfl en3
                                  refine lv_aload_n hx hb dX0_findRecords_177 rfl (lv_at hl 2 rfl) ?_
                                  refine va_get (D := D) (ci := 0) (v := .ref a5) (C := RX0) (T := TX0) (N := 9) hx hb hts u6_X0 hown hK hP 0 rfl rfl 5 (by decide) (hts _ (m6 9 rfl)) (fun _ h9 => h9) rfl dX0_findRecords_178 ?_
                                  refine lv_iload_n hx hb dX0_findRecords_181 rfl (lv_at hl 0 rfl) ?_
                                  refine lv_iconst (v := 1) hx hb dX0_findRecords_182 (by decide) ?_
                                  refine ra_iast (i := ((nwR kd ky mk) ((ky (j)).toNatClampNeg)).toNatClampNeg) hx hb hK hP hD hS 6 0 rfl rfl (by omega) (by decide) dX0_findRecords_183 (fun H locs hP hD hS => ?_)
                                  have hP : va_P D vwCl [(fo, .inr (0, [.ref a0, .ref a1, .ref a2, .ref a3, .ref a4, .ref a5, .ref a6, .ref a7, .int (nI (B))])), (a0, .inl (cI, 32, .inl kd)), (a1, .inl (cI, 32, .inl ky)), (a2, .inl (cI, 32, .inl vl)), (a3, .inl (cI, 32, .inl mk)), (a4, .inl (cI, 8, .inl wr)), (a5, .inl (cI, 32, .inl (upd (frV kd ky vl (nwR kd ky mk) j) (((nwR kd ky mk) ((ky (j)).toNatClampNeg)).toNatClampNeg) 1))), (a6, .inl (cI, 16, .inl (nwR kd ky mk))), (a7, .inl (cI, 8, .inl fr))] H := hP
                                  have hD : va_D A [(fo, .inr (0, [.ref a0, .ref a1, .ref a2, .ref a3, .ref a4, .ref a5, .ref a6, .ref a7, .int (nI (B))])), (a0, .inl (cI, 32, .inl kd)), (a1, .inl (cI, 32, .inl ky)), (a2, .inl (cI, 32, .inl vl)), (a3, .inl (cI, 32, .inl mk)), (a4, .inl (cI, 8, .inl wr)), (a5, .inl (cI, 32, .inl (upd (frV kd ky vl (nwR kd ky mk) j) (((nwR kd ky mk) ((ky (j)).toNatClampNeg)).toNatClampNeg) 1))), (a6, .inl (cI, 16, .inl (nwR kd ky mk))), (a7, .inl (cI, 8, .inl fr))] := hD
                                  refine lv_iinc (v := nI (j + 1)) (lv' := [(1, .int (nI (j + 1))), (3, .int (nI (((nwR kd ky mk) ((ky (j)).toNatClampNeg)).toNatClampNeg))), (2, .int (nI ((ky (j)).toNatClampNeg))), (0, .ref fo)]) hx hb dX0_findRecords_184 hl (k := 3) rfl (nI_add _ 1) (by decide) rfl (fun ls hl => ?_)
                                  refine lv_goto (tgt := 111) hx hb dX0_findRecords_187 (by decide) ?_
                                  have hl : lv_has ls 4 [(1, .int (nI ((j + 1)))), (3, .int (nI (((nwR kd ky mk) ((ky (j)).toNatClampNeg)).toNatClampNeg))), (2, .int (nI ((ky (j)).toNatClampNeg))), (0, .ref fo)] := lv_re hl 0 rfl (show nI (j + 1) = nI ((j + 1)) from rfl)
                                  have hP : va_P D vwCl [(fo, .inr (0, [.ref a0, .ref a1, .ref a2, .ref a3, .ref a4, .ref a5, .ref a6, .ref a7, .int (nI (B))])), (a0, .inl (cI, 32, .inl kd)), (a1, .inl (cI, 32, .inl ky)), (a2, .inl (cI, 32, .inl vl)), (a3, .inl (cI, 32, .inl mk)), (a4, .inl (cI, 8, .inl wr)), (a5, .inl (cI, 32, .inl (frV kd ky vl (nwR kd ky mk) (j + 1)))), (a6, .inl (cI, 16, .inl (nwR kd ky mk))), (a7, .inl (cI, 8, .inl fr))] H := by
                                    rw [show (frV kd ky vl (nwR kd ky mk) (j + 1) : Nat → Int32) = upd (frV kd ky vl (nwR kd ky mk) j) (((nwR kd ky mk) ((ky (j)).toNatClampNeg)).toNatClampNeg) 1 from by rw [frV, if_pos ⟨c131_4, ⟨c135_5, c141_6⟩, ⟨c152_7, c158_8⟩, Or.inr c174_10⟩]]
                                    exact hP
                                  have hD : va_D A [(fo, .inr (0, [.ref a0, .ref a1, .ref a2, .ref a3, .ref a4, .ref a5, .ref a6, .ref a7, .int (nI (B))])), (a0, .inl (cI, 32, .inl kd)), (a1, .inl (cI, 32, .inl ky)), (a2, .inl (cI, 32, .inl vl)), (a3, .inl (cI, 32, .inl mk)), (a4, .inl (cI, 8, .inl wr)), (a5, .inl (cI, 32, .inl (frV kd ky vl (nwR kd ky mk) (j + 1)))), (a6, .inl (cI, 16, .inl (nwR kd ky mk))), (a7, .inl (cI, 8, .inl fr))] := by
                                    rw [show (frV kd ky vl (nwR kd ky mk) (j + 1) : Nat → Int32) = upd (frV kd ky vl (nwR kd ky mk) j) (((nwR kd ky mk) ((ky (j)).toNatClampNeg)).toNatClampNeg) 1 from by rw [frV, if_pos ⟨c131_4, ⟨c135_5, c141_6⟩, ⟨c152_7, c158_8⟩, Or.inr c174_10⟩]]
                                    exact hD
                                  have hP : va_P D vwCl [(fo, .inr (0, [.ref a0, .ref a1, .ref a2, .ref a3, .ref a4, .ref a5, .ref a6, .ref a7, .int (nI (B))])), (a0, .inl (cI, 32, .inl kd)), (a1, .inl (cI, 32, .inl ky)), (a2, .inl (cI, 32, .inl vl)), (a3, .inl (cI, 32, .inl mk)), (a4, .inl (cI, 8, .inl wr)), (a5, .inl (cI, 32, .inl (frV kd ky vl (nwR kd ky mk) (j + 1)))), (a6, .inl (cI, 16, .inl (nwR kd ky mk))), (a7, .inl (cI, 8, .inl fr))] H := hP
                                  have hD : va_D A [(fo, .inr (0, [.ref a0, .ref a1, .ref a2, .ref a3, .ref a4, .ref a5, .ref a6, .ref a7, .int (nI (B))])), (a0, .inl (cI, 32, .inl kd)), (a1, .inl (cI, 32, .inl ky)), (a2, .inl (cI, 32, .inl vl)), (a3, .inl (cI, 32, .inl mk)), (a4, .inl (cI, 8, .inl wr)), (a5, .inl (cI, 32, .inl (frV kd ky vl (nwR kd ky mk) (j + 1)))), (a6, .inl (cI, 16, .inl (nwR kd ky mk))), (a7, .inl (cI, 8, .inl fr))] := hD
                                  exact ih111 (j + 1) (by omega) (by omega) _ _ hP hD hS _ (lv_sub hl [3, 0] rfl)
              have hl : lv_has ls 4 [(1, .int (nI (0))), (0, .ref fo)] := lv_re hl 0 rfl (show 0 = nI (0) from rfl)
              have hP : va_P D vwCl [(fo, .inr (0, [.ref a0, .ref a1, .ref a2, .ref a3, .ref a4, .ref a5, .ref a6, .ref a7, .int (nI (B))])), (a0, .inl (cI, 32, .inl kd)), (a1, .inl (cI, 32, .inl ky)), (a2, .inl (cI, 32, .inl vl)), (a3, .inl (cI, 32, .inl mk)), (a4, .inl (cI, 8, .inl wr)), (a5, .inl (cI, 32, .inl (frV kd ky vl (nwR kd ky mk) 0))), (a6, .inl (cI, 16, .inl (nwR kd ky mk))), (a7, .inl (cI, 8, .inl fr))] H := by
                rw [show (frV kd ky vl (nwR kd ky mk) 0 : Nat → Int32) = fun _ => 0 from rfl]
                exact hP
              have hD : va_D A [(fo, .inr (0, [.ref a0, .ref a1, .ref a2, .ref a3, .ref a4, .ref a5, .ref a6, .ref a7, .int (nI (B))])), (a0, .inl (cI, 32, .inl kd)), (a1, .inl (cI, 32, .inl ky)), (a2, .inl (cI, 32, .inl vl)), (a3, .inl (cI, 32, .inl mk)), (a4, .inl (cI, 8, .inl wr)), (a5, .inl (cI, 32, .inl (frV kd ky vl (nwR kd ky mk) 0))), (a6, .inl (cI, 16, .inl (nwR kd ky mk))), (a7, .inl (cI, 8, .inl fr))] := by
                rw [show (frV kd ky vl (nwR kd ky mk) 0 : Nat → Int32) = fun _ => 0 from rfl]
                exact hD
              have hP : va_P D vwCl [(fo, .inr (0, [.ref a0, .ref a1, .ref a2, .ref a3, .ref a4, .ref a5, .ref a6, .ref a7, .int (nI (B))])), (a0, .inl (cI, 32, .inl kd)), (a1, .inl (cI, 32, .inl ky)), (a2, .inl (cI, 32, .inl vl)), (a3, .inl (cI, 32, .inl mk)), (a4, .inl (cI, 8, .inl wr)), (a5, .inl (cI, 32, .inl (frV kd ky vl (nwR kd ky mk) 0))), (a6, .inl (cI, 16, .inl (nwR kd ky mk))), (a7, .inl (cI, 8, .inl fr))] H := hP
              have hD : va_D A [(fo, .inr (0, [.ref a0, .ref a1, .ref a2, .ref a3, .ref a4, .ref a5, .ref a6, .ref a7, .int (nI (B))])), (a0, .inl (cI, 32, .inl kd)), (a1, .inl (cI, 32, .inl ky)), (a2, .inl (cI, 32, .inl vl)), (a3, .inl (cI, 32, .inl mk)), (a4, .inl (cI, 8, .inl wr)), (a5, .inl (cI, 32, .inl (frV kd ky vl (nwR kd ky mk) 0))), (a6, .inl (cI, 16, .inl (nwR kd ky mk))), (a7, .inl (cI, 8, .inl fr))] := hD
              exact LP111 ((32 - 0) + 1) 0 (by omega) (by omega) _ _ hP hD hS _ (lv_sub hl [1, 0] rfl)
            · skip
              have c27_2 := cn_nle (a := 32) (b := j) (by omega) (by omega) c27_2
              refine lv_aload_n hx hb dX0_findRecords_30 rfl (lv_at hl 0 rfl) ?_
              refine va_get (D := D) (ci := 0) (v := .ref a5) (C := RX0) (T := TX0) (N := 9) hx hb hts u6_X0 hown hK hP 0 rfl rfl 5 (by decide) (hts _ (m6 9 rfl)) (fun _ h9 => h9) rfl dX0_findRecords_31 ?_
              refine lv_iload_n hx hb dX0_findRecords_34 rfl (lv_at hl 1 rfl) ?_
              refine lv_iconst (v := 0) hx hb dX0_findRecords_35 (by decide) ?_
              refine ra_iast (i := j) hx hb hK hP hD hS 6 0 rfl rfl (by omega) (by decide) dX0_findRecords_36 (fun H locs hP hD hS => ?_)
              have hP : va_P D vwCl [(fo, .inr (0, [.ref a0, .ref a1, .ref a2, .ref a3, .ref a4, .ref a5, .ref a6, .ref a7, .int (nI (B))])), (a0, .inl (cI, 32, .inl kd)), (a1, .inl (cI, 32, .inl ky)), (a2, .inl (cI, 32, .inl vl)), (a3, .inl (cI, 32, .inl mk)), (a4, .inl (cI, 8, .inl wr)), (a5, .inl (cI, 32, .inl (upd (cstF lv 0 j) j 0))), (a6, .inl (cI, 16, .inl (frN kd ky mk j))), (a7, .inl (cI, 8, .inl fr))] H := hP
              have hD : va_D A [(fo, .inr (0, [.ref a0, .ref a1, .ref a2, .ref a3, .ref a4, .ref a5, .ref a6, .ref a7, .int (nI (B))])), (a0, .inl (cI, 32, .inl kd)), (a1, .inl (cI, 32, .inl ky)), (a2, .inl (cI, 32, .inl vl)), (a3, .inl (cI, 32, .inl mk)), (a4, .inl (cI, 8, .inl wr)), (a5, .inl (cI, 32, .inl (upd (cstF lv 0 j) j 0))), (a6, .inl (cI, 16, .inl (frN kd ky mk j))), (a7, .inl (cI, 8, .inl fr))] := hD
              refine lv_aload_n hx hb dX0_findRecords_37 rfl (lv_at hl 0 rfl) ?_
              refine va_get (D := D) (ci := 0) (v := .ref a1) (C := RX0) (T := TX0) (N := 9) hx hb hts u6_X0 hown hK hP 0 rfl rfl 1 (by decide) (hts _ (m6 5 rfl)) (fun _ h9 => h9) rfl dX0_findRecords_38 ?_
              refine lv_iload_n hx hb dX0_findRecords_41 rfl (lv_at hl 1 rfl) ?_
              refine ra_iald (i := j) hx hb hK hP 2 0 rfl rfl (by omega) (by decide) dX0_findRecords_42 ?_
              refine lv_istore_n (lv' := [(2, .int (ky (j))), (0, .ref fo), (1, .int (nI (j)))]) hx hb dX0_findRecords_43 rfl hl (by decide) rfl (fun ls hl => ?_)
              refine lv_aload_n hx hb dX0_findRecords_44 rfl (lv_at hl 1 rfl) ?_
              refine va_get (D := D) (ci := 0) (v := .ref a0) (C := RX0) (T := TX0) (N := 9) hx hb hts u6_X0 hown hK hP 0 rfl rfl 0 (by decide) (hts _ (m6 4 rfl)) (fun _ h9 => h9) rfl dX0_findRecords_45 ?_
              refine lv_iload_n hx hb dX0_findRecords_48 rfl (lv_at hl 2 rfl) ?_
              refine ra_iald (i := j) hx hb hK hP 1 0 rfl rfl (by omega) (by decide) dX0_findRecords_49 ?_
              refine lv_iconst (v := 1) hx hb dX0_findRecords_50 (by decide) ?_
              refine lv_icmp_ne (tgt := 103) hx hb dX0_findRecords_51 (by decide) (fun c51_11 => ?_) (fun c51_11 => ?_)
              · skip
                refine lv_iinc (v := nI (j + 1)) (lv' := [(1, .int (nI (j + 1))), (2, .int (ky (j))), (0, .ref fo)]) hx hb dX0_findRecords_103 hl (k := 2) rfl (nI_add _ 1) (by decide) rfl (fun ls hl => ?_)
                refine lv_goto (tgt := 24) hx hb dX0_findRecords_106 (by decide) ?_
                have hl : lv_has ls 4 [(1, .int (nI ((j + 1)))), (2, .int (ky (j))), (0, .ref fo)] := lv_re hl 0 rfl (show nI (j + 1) = nI ((j + 1)) from rfl)
                have hP : va_P D vwCl [(fo, .inr (0, [.ref a0, .ref a1, .ref a2, .ref a3, .ref a4, .ref a5, .ref a6, .ref a7, .int (nI (B))])), (a0, .inl (cI, 32, .inl kd)), (a1, .inl (cI, 32, .inl ky)), (a2, .inl (cI, 32, .inl vl)), (a3, .inl (cI, 32, .inl mk)), (a4, .inl (cI, 8, .inl wr)), (a5, .inl (cI, 32, .inl (cstF lv 0 (j + 1)))), (a6, .inl (cI, 16, .inl (frN kd ky mk j))), (a7, .inl (cI, 8, .inl fr))] H := by
                  rw [show (cstF lv 0 (j + 1) : Nat → Int32) = upd (cstF lv 0 j) j 0 from cstF_s _ _ _]
                  exact hP
                have hD : va_D A [(fo, .inr (0, [.ref a0, .ref a1, .ref a2, .ref a3, .ref a4, .ref a5, .ref a6, .ref a7, .int (nI (B))])), (a0, .inl (cI, 32, .inl kd)), (a1, .inl (cI, 32, .inl ky)), (a2, .inl (cI, 32, .inl vl)), (a3, .inl (cI, 32, .inl mk)), (a4, .inl (cI, 8, .inl wr)), (a5, .inl (cI, 32, .inl (cstF lv 0 (j + 1)))), (a6, .inl (cI, 16, .inl (frN kd ky mk j))), (a7, .inl (cI, 8, .inl fr))] := by
                  rw [show (cstF lv 0 (j + 1) : Nat → Int32) = upd (cstF lv 0 j) j 0 from cstF_s _ _ _]
                  exact hD
                have hP : va_P D vwCl [(fo, .inr (0, [.ref a0, .ref a1, .ref a2, .ref a3, .ref a4, .ref a5, .ref a6, .ref a7, .int (nI (B))])), (a0, .inl (cI, 32, .inl kd)), (a1, .inl (cI, 32, .inl ky)), (a2, .inl (cI, 32, .inl vl)), (a3, .inl (cI, 32, .inl mk)), (a4, .inl (cI, 8, .inl wr)), (a5, .inl (cI, 32, .inl (cstF lv 0 (j + 1)))), (a6, .inl (cI, 16, .inl (frN kd ky mk (j + 1)))), (a7, .inl (cI, 8, .inl fr))] H := by
                  rw [show (frN kd ky mk (j + 1) : Nat → Int32) = frN kd ky mk j from by rw [frN, if_neg (fun z => c51_11 z.1)]]
                  exact hP
                have hD : va_D A [(fo, .inr (0, [.ref a0, .ref a1, .ref a2, .ref a3, .ref a4, .ref a5, .ref a6, .ref a7, .int (nI (B))])), (a0, .inl (cI, 32, .inl kd)), (a1, .inl (cI, 32, .inl ky)), (a2, .inl (cI, 32, .inl vl)), (a3, .inl (cI, 32, .inl mk)), (a4, .inl (cI, 8, .inl wr)), (a5, .inl (cI, 32, .inl (cstF lv 0 (j + 1)))), (a6, .inl (cI, 16, .inl (frN kd ky mk (j + 1)))), (a7, .inl (cI, 8, .inl fr))] := by
                  rw [show (frN kd ky mk (j + 1) : Nat → Int32) = frN kd ky mk j from by rw [frN, if_neg (fun z => c51_11 z.1)]]
                  exact hD
                have hP : va_P D vwCl [(fo, .inr (0, [.ref a0, .ref a1, .ref a2, .ref a3, .ref a4, .ref a5, .ref a6, .ref a7, .int (nI (B))])), (a0, .inl (cI, 32, .inl kd)), (a1, .inl (cI, 32, .inl ky)), (a2, .inl (cI, 32, .inl vl)), (a3, .inl (cI, 32, .inl mk)), (a4, .inl (cI, 8, .inl wr)), (a5, .inl (cI, 32, .inl (cstF lv 0 (j + 1)))), (a6, .inl (cI, 16, .inl (frN kd ky mk (j + 1)))), (a7, .inl (cI, 8, .inl fr))] H := hP
                have hD : va_D A [(fo, .inr (0, [.ref a0, .ref a1, .ref a2, .ref a3, .ref a4, .ref a5, .ref a6, .ref a7, .int (nI (B))])), (a0, .inl (cI, 32, .inl kd)), (a1, .inl (cI, 32, .inl ky)), (a2, .inl (cI, 32, .inl vl)), (a3, .inl (cI, 32, .inl mk)), (a4, .inl (cI, 8, .inl wr)), (a5, .inl (cI, 32, .inl (cstF lv 0 (j + 1)))), (a6, .inl (cI, 16, .inl (frN kd ky mk (j + 1)))), (a7, .inl (cI, 8, .inl fr))] := hD
                exact ih24 (j + 1) (by omega) (by omega) _ _ hP hD hS _ (lv_sub hl [2, 0] rfl)
              · skip
                refine lv_iload_n hx hb dX0_findRecords_54 rfl (lv_at hl 0 rfl) ?_
                refine lv_if_lt (tgt := 103) hx hb dX0_findRecords_55 (by decide) (fun c55_12 => ?_) (fun c55_12 => ?_)
                · skip
                  refine lv_iinc (v := nI (j + 1)) (lv' := [(1, .int (nI (j + 1))), (2, .int (ky (j))), (0, .ref fo)]) hx hb dX0_findRecords_103 hl (k := 2) rfl (nI_add _ 1) (by decide) rfl (fun ls hl => ?_)
                  refine lv_goto (tgt := 24) hx hb dX0_findRecords_106 (by decide) ?_
                  have hl : lv_has ls 4 [(1, .int (nI ((j + 1)))), (2, .int (ky (j))), (0, .ref fo)] := lv_re hl 0 rfl (show nI (j + 1) = nI ((j + 1)) from rfl)
                  have hP : va_P D vwCl [(fo, .inr (0, [.ref a0, .ref a1, .ref a2, .ref a3, .ref a4, .ref a5, .ref a6, .ref a7, .int (nI (B))])), (a0, .inl (cI, 32, .inl kd)), (a1, .inl (cI, 32, .inl ky)), (a2, .inl (cI, 32, .inl vl)), (a3, .inl (cI, 32, .inl mk)), (a4, .inl (cI, 8, .inl wr)), (a5, .inl (cI, 32, .inl (cstF lv 0 (j + 1)))), (a6, .inl (cI, 16, .inl (frN kd ky mk j))), (a7, .inl (cI, 8, .inl fr))] H := by
                    rw [show (cstF lv 0 (j + 1) : Nat → Int32) = upd (cstF lv 0 j) j 0 from cstF_s _ _ _]
                    exact hP
                  have hD : va_D A [(fo, .inr (0, [.ref a0, .ref a1, .ref a2, .ref a3, .ref a4, .ref a5, .ref a6, .ref a7, .int (nI (B))])), (a0, .inl (cI, 32, .inl kd)), (a1, .inl (cI, 32, .inl ky)), (a2, .inl (cI, 32, .inl vl)), (a3, .inl (cI, 32, .inl mk)), (a4, .inl (cI, 8, .inl wr)), (a5, .inl (cI, 32, .inl (cstF lv 0 (j + 1)))), (a6, .inl (cI, 16, .inl (frN kd ky mk j))), (a7, .inl (cI, 8, .inl fr))] := by
                    rw [show (cstF lv 0 (j + 1) : Nat → Int32) = upd (cstF lv 0 j) j 0 from cstF_s _ _ _]
                    exact hD
                  have hP : va_P D vwCl [(fo, .inr (0, [.ref a0, .ref a1, .ref a2, .ref a3, .ref a4, .ref a5, .ref a6, .ref a7, .int (nI (B))])), (a0, .inl (cI, 32, .inl kd)), (a1, .inl (cI, 32, .inl ky)), (a2, .inl (cI, 32, .inl vl)), (a3, .inl (cI, 32, .inl mk)), (a4, .inl (cI, 8, .inl wr)), (a5, .inl (cI, 32, .inl (cstF lv 0 (j + 1)))), (a6, .inl (cI, 16, .inl (frN kd ky mk (j + 1)))), (a7, .inl (cI, 8, .inl fr))] H := by
                    rw [show (frN kd ky mk (j + 1) : Nat → Int32) = frN kd ky mk j from by rw [frN, if_neg (fun z => z.2.1.1 c55_12)]]
                    exact hP
                  have hD : va_D A [(fo, .inr (0, [.ref a0, .ref a1, .ref a2, .ref a3, .ref a4, .ref a5, .ref a6, .ref a7, .int (nI (B))])), (a0, .inl (cI, 32, .inl kd)), (a1, .inl (cI, 32, .inl ky)), (a2, .inl (cI, 32, .inl vl)), (a3, .inl (cI, 32, .inl mk)), (a4, .inl (cI, 8, .inl wr)), (a5, .inl (cI, 32, .inl (cstF lv 0 (j + 1)))), (a6, .inl (cI, 16, .inl (frN kd ky mk (j + 1)))), (a7, .inl (cI, 8, .inl fr))] := by
                    rw [show (frN kd ky mk (j + 1) : Nat → Int32) = frN kd ky mk j from by rw [frN, if_neg (fun z => z.2.1.1 c55_12)]]
                    exact hD
                  have hP : va_P D vwCl [(fo, .inr (0, [.ref a0, .ref a1, .ref a2, .ref a3, .ref a4, .ref a5, .ref a6, .ref a7, .int (nI (B))])), (a0, .inl (cI, 32, .inl kd)), (a1, .inl (cI, 32, .inl ky)), (a2, .inl (cI, 32, .inl vl)), (a3, .inl (cI, 32, .inl mk)), (a4, .inl (cI, 8, .inl wr)), (a5, .inl (cI, 32, .inl (cstF lv 0 (j + 1)))), (a6, .inl (cI, 16, .inl (frN kd ky mk (j + 1)))), (a7, .inl (cI, 8, .inl fr))] H := hP
                  have hD : va_D A [(fo, .inr (0, [.ref a0, .ref a1, .ref a2, .ref a3, .ref a4, .ref a5, .ref a6, .ref a7, .int (nI (B))])), (a0, .inl (cI, 32, .inl kd)), (a1, .inl (cI, 32, .inl ky)), (a2, .inl (cI, 32, .inl vl)), (a3, .inl (cI, 32, .inl mk)), (a4, .inl (cI, 8, .inl wr)), (a5, .inl (cI, 32, .inl (cstF lv 0 (j + 1)))), (a6, .inl (cI, 16, .inl (frN kd ky mk (j + 1)))), (a7, .inl (cI, 8, .inl fr))] := hD
                  exact ih24 (j + 1) (by omega) (by omega) _ _ hP hD hS _ (lv_sub hl [2, 0] rfl)
                · skip
                  refine lv_iload_n hx hb dX0_findRecords_58 rfl (lv_at hl 0 rfl) ?_
                  refine lv_bipush (v := 16) hx hb dX0_findRecords_59 (by decide) ?_
                  refine lv_icmp_ge (tgt := 103) hx hb dX0_findRecords_61 (by decide) (fun c61_13 => ?_) (fun c61_13 => ?_)
                  · skip
                    have c61_13 := i_nlt c61_13
                    refine lv_iinc (v := nI (j + 1)) (lv' := [(1, .int (nI (j + 1))), (2, .int (ky (j))), (0, .ref fo)]) hx hb dX0_findRecords_103 hl (k := 2) rfl (nI_add _ 1) (by decide) rfl (fun ls hl => ?_)
                    refine lv_goto (tgt := 24) hx hb dX0_findRecords_106 (by decide) ?_
                    have hl : lv_has ls 4 [(1, .int (nI ((j + 1)))), (2, .int (ky (j))), (0, .ref fo)] := lv_re hl 0 rfl (show nI (j + 1) = nI ((j + 1)) from rfl)
                    have hP : va_P D vwCl [(fo, .inr (0, [.ref a0, .ref a1, .ref a2, .ref a3, .ref a4, .ref a5, .ref a6, .ref a7, .int (nI (B))])), (a0, .inl (cI, 32, .inl kd)), (a1, .inl (cI, 32, .inl ky)), (a2, .inl (cI, 32, .inl vl)), (a3, .inl (cI, 32, .inl mk)), (a4, .inl (cI, 8, .inl wr)), (a5, .inl (cI, 32, .inl (cstF lv 0 (j + 1)))), (a6, .inl (cI, 16, .inl (frN kd ky mk j))), (a7, .inl (cI, 8, .inl fr))] H := by
                      rw [show (cstF lv 0 (j + 1) : Nat → Int32) = upd (cstF lv 0 j) j 0 from cstF_s _ _ _]
                      exact hP
                    have hD : va_D A [(fo, .inr (0, [.ref a0, .ref a1, .ref a2, .ref a3, .ref a4, .ref a5, .ref a6, .ref a7, .int (nI (B))])), (a0, .inl (cI, 32, .inl kd)), (a1, .inl (cI, 32, .inl ky)), (a2, .inl (cI, 32, .inl vl)), (a3, .inl (cI, 32, .inl mk)), (a4, .inl (cI, 8, .inl wr)), (a5, .inl (cI, 32, .inl (cstF lv 0 (j + 1)))), (a6, .inl (cI, 16, .inl (frN kd ky mk j))), (a7, .inl (cI, 8, .inl fr))] := by
                      rw [show (cstF lv 0 (j + 1) : Nat → Int32) = upd (cstF lv 0 j) j 0 from cstF_s _ _ _]
                      exact hD
                    have hP : va_P D vwCl [(fo, .inr (0, [.ref a0, .ref a1, .ref a2, .ref a3, .ref a4, .ref a5, .ref a6, .ref a7, .int (nI (B))])), (a0, .inl (cI, 32, .inl kd)), (a1, .inl (cI, 32, .inl ky)), (a2, .inl (cI, 32, .inl vl)), (a3, .inl (cI, 32, .inl mk)), (a4, .inl (cI, 8, .inl wr)), (a5, .inl (cI, 32, .inl (cstF lv 0 (j + 1)))), (a6, .inl (cI, 16, .inl (frN kd ky mk (j + 1)))), (a7, .inl (cI, 8, .inl fr))] H := by
                      rw [show (frN kd ky mk (j + 1) : Nat → Int32) = frN kd ky mk j from by rw [frN, if_neg (fun z => c61_13 z.2.1.2)]]
                      exact hP
                    have hD : va_D A [(fo, .inr (0, [.ref a0, .ref a1, .ref a2, .ref a3, .ref a4, .ref a5, .ref a6, .ref a7, .int (nI (B))])), (a0, .inl (cI, 32, .inl kd)), (a1, .inl (cI, 32, .inl ky)), (a2, .inl (cI, 32, .inl vl)), (a3, .inl (cI, 32, .inl mk)), (a4, .inl (cI, 8, .inl wr)), (a5, .inl (cI, 32, .inl (cstF lv 0 (j + 1)))), (a6, .inl (cI, 16, .inl (frN kd ky mk (j + 1)))), (a7, .inl (cI, 8, .inl fr))] := by
                      rw [show (frN kd ky mk (j + 1) : Nat → Int32) = frN kd ky mk j from by rw [frN, if_neg (fun z => c61_13 z.2.1.2)]]
                      exact hD
                    have hP : va_P D vwCl [(fo, .inr (0, [.ref a0, .ref a1, .ref a2, .ref a3, .ref a4, .ref a5, .ref a6, .ref a7, .int (nI (B))])), (a0, .inl (cI, 32, .inl kd)), (a1, .inl (cI, 32, .inl ky)), (a2, .inl (cI, 32, .inl vl)), (a3, .inl (cI, 32, .inl mk)), (a4, .inl (cI, 8, .inl wr)), (a5, .inl (cI, 32, .inl (cstF lv 0 (j + 1)))), (a6, .inl (cI, 16, .inl (frN kd ky mk (j + 1)))), (a7, .inl (cI, 8, .inl fr))] H := hP
                    have hD : va_D A [(fo, .inr (0, [.ref a0, .ref a1, .ref a2, .ref a3, .ref a4, .ref a5, .ref a6, .ref a7, .int (nI (B))])), (a0, .inl (cI, 32, .inl kd)), (a1, .inl (cI, 32, .inl ky)), (a2, .inl (cI, 32, .inl vl)), (a3, .inl (cI, 32, .inl mk)), (a4, .inl (cI, 8, .inl wr)), (a5, .inl (cI, 32, .inl (cstF lv 0 (j + 1)))), (a6, .inl (cI, 16, .inl (frN kd ky mk (j + 1)))), (a7, .inl (cI, 8, .inl fr))] := hD
                    exact ih24 (j + 1) (by omega) (by omega) _ _ hP hD hS _ (lv_sub hl [2, 0] rfl)
                  · skip
                    have c61_13 := i_lt c61_13
                    obtain ⟨en2, hn2⟩ := num0 (k := 16) (by decide) c55_12 c61_13
                    have hl : lv_has ls 4 [(2, .int (nI ((ky (j)).toNatClampNeg))), (0, .ref fo), (1, .int (nI (j)))] := lv_re hl 0 rfl en2
                    refine lv_aload_n hx hb dX0_findRecords_64 rfl (lv_at hl 1 rfl) ?_
                    refine va_get (D := D) (ci := 0) (v := .ref a6) (C := RX0) (T := TX0) (N := 9) hx hb hts u6_X0 hown hK hP 0 rfl rfl 6 (by decide) (hts _ (m6 10 rfl)) (fun _ h9 => h9) rfl dX0_findRecords_65 ?_
                    refine lv_iload_n hx hb dX0_findRecords_68 rfl (lv_at hl 0 rfl) ?_
                    refine ra_iald (i := (ky (j)).toNatClampNeg) hx hb hK hP 7 0 rfl rfl (by omega) (by decide) dX0_findRecords_69 ?_
                    refine lv_istore_n (lv' := [(3, .int ((frN kd ky mk j) ((ky (j)).toNatClampNeg))), (2, .int (nI ((ky (j)).toNatClampNeg))), (0, .ref fo), (1, .int (nI (j)))]) hx hb dX0_findRecords_70 rfl hl (by decide) rfl (fun ls hl => ?_)
                    refine lv_iload_n hx hb dX0_findRecords_71 rfl (lv_at hl 0 rfl) ?_
                    refine lv_if_lt (tgt := 96) hx hb dX0_findRecords_72 (by decide) (fun c72_14 => ?_) (fun c72_14 => ?_)
                    · skip
                      refine lv_aload_n hx hb dX0_findRecords_96 rfl (lv_at hl 2 rfl) ?_
                      refine va_get (D := D) (ci := 0) (v := .ref a6) (C := RX0) (T := TX0) (N := 9) hx hb hts u6_X0 hown hK hP 0 rfl rfl 6 (by decide) (hts _ (m6 10 rfl)) (fun _ h9 => h9) rfl dX0_findRecords_97 ?_
                      refine lv_iload_n hx hb dX0_findRecords_100 rfl (lv_at hl 1 rfl) ?_
                      refine lv_iload_n hx hb dX0_findRecords_101 rfl (lv_at hl 3 rfl) ?_
                      refine ra_iast (i := (ky (j)).toNatClampNeg) hx hb hK hP hD hS 7 0 rfl rfl (by omega) (by decide) dX0_findRecords_102 (fun H locs hP hD hS => ?_)
                      have hP : va_P D vwCl [(fo, .inr (0, [.ref a0, .ref a1, .ref a2, .ref a3, .ref a4, .ref a5, .ref a6, .ref a7, .int (nI (B))])), (a0, .inl (cI, 32, .inl kd)), (a1, .inl (cI, 32, .inl ky)), (a2, .inl (cI, 32, .inl vl)), (a3, .inl (cI, 32, .inl mk)), (a4, .inl (cI, 8, .inl wr)), (a5, .inl (cI, 32, .inl (upd (cstF lv 0 j) j 0))), (a6, .inl (cI, 16, .inl (upd (frN kd ky mk j) ((ky (j)).toNatClampNeg) (nI (j))))), (a7, .inl (cI, 8, .inl fr))] H := hP
                      have hD : va_D A [(fo, .inr (0, [.ref a0, .ref a1, .ref a2, .ref a3, .ref a4, .ref a5, .ref a6, .ref a7, .int (nI (B))])), (a0, .inl (cI, 32, .inl kd)), (a1, .inl (cI, 32, .inl ky)), (a2, .inl (cI, 32, .inl vl)), (a3, .inl (cI, 32, .inl mk)), (a4, .inl (cI, 8, .inl wr)), (a5, .inl (cI, 32, .inl (upd (cstF lv 0 j) j 0))), (a6, .inl (cI, 16, .inl (upd (frN kd ky mk j) ((ky (j)).toNatClampNeg) (nI (j))))), (a7, .inl (cI, 8, .inl fr))] := hD
                      refine lv_iinc (v := nI (j + 1)) (lv' := [(1, .int (nI (j + 1))), (3, .int ((frN kd ky mk j) ((ky (j)).toNatClampNeg))), (2, .int (nI ((ky (j)).toNatClampNeg))), (0, .ref fo)]) hx hb dX0_findRecords_103 hl (k := 3) rfl (nI_add _ 1) (by decide) rfl (fun ls hl => ?_)
                      refine lv_goto (tgt := 24) hx hb dX0_findRecords_106 (by decide) ?_
                      have hl : lv_has ls 4 [(1, .int (nI ((j + 1)))), (3, .int ((frN kd ky mk j) ((ky (j)).toNatClampNeg))), (2, .int (nI ((ky (j)).toNatClampNeg))), (0, .ref fo)] := lv_re hl 0 rfl (show nI (j + 1) = nI ((j + 1)) from rfl)
                      have hP : va_P D vwCl [(fo, .inr (0, [.ref a0, .ref a1, .ref a2, .ref a3, .ref a4, .ref a5, .ref a6, .ref a7, .int (nI (B))])), (a0, .inl (cI, 32, .inl kd)), (a1, .inl (cI, 32, .inl ky)), (a2, .inl (cI, 32, .inl vl)), (a3, .inl (cI, 32, .inl mk)), (a4, .inl (cI, 8, .inl wr)), (a5, .inl (cI, 32, .inl (cstF lv 0 (j + 1)))), (a6, .inl (cI, 16, .inl (upd (frN kd ky mk j) ((ky (j)).toNatClampNeg) (nI (j))))), (a7, .inl (cI, 8, .inl fr))] H := by
                        rw [show (cstF lv 0 (j + 1) : Nat → Int32) = upd (cstF lv 0 j) j 0 from cstF_s _ _ _]
                        exact hP
                      have hD : va_D A [(fo, .inr (0, [.ref a0, .ref a1, .ref a2, .ref a3, .ref a4, .ref a5, .ref a6, .ref a7, .int (nI (B))])), (a0, .inl (cI, 32, .inl kd)), (a1, .inl (cI, 32, .inl ky)), (a2, .inl (cI, 32, .inl vl)), (a3, .inl (cI, 32, .inl mk)), (a4, .inl (cI, 8, .inl wr)), (a5, .inl (cI, 32, .inl (cstF lv 0 (j + 1)))), (a6, .inl (cI, 16, .inl (upd (frN kd ky mk j) ((ky (j)).toNatClampNeg) (nI (j))))), (a7, .inl (cI, 8, .inl fr))] := by
                        rw [show (cstF lv 0 (j + 1) : Nat → Int32) = upd (cstF lv 0 j) j 0 from cstF_s _ _ _]
                        exact hD
                      have hP : va_P D vwCl [(fo, .inr (0, [.ref a0, .ref a1, .ref a2, .ref a3, .ref a4, .ref a5, .ref a6, .ref a7, .int (nI (B))])), (a0, .inl (cI, 32, .inl kd)), (a1, .inl (cI, 32, .inl ky)), (a2, .inl (cI, 32, .inl vl)), (a3, .inl (cI, 32, .inl mk)), (a4, .inl (cI, 8, .inl wr)), (a5, .inl (cI, 32, .inl (cstF lv 0 (j + 1)))), (a6, .inl (cI, 16, .inl (frN kd ky mk (j + 1)))), (a7, .inl (cI, 8, .inl fr))] H := by
                        rw [show (frN kd ky mk (j + 1) : Nat → Int32) = upd (frN kd ky mk j) ((ky (j)).toNatClampNeg) (nI (j)) from by rw [frN, if_pos ⟨c51_11, ⟨c55_12, c61_13⟩, fun h => absurd c72_14 h.1⟩]]
                        exact hP
                      have hD : va_D A [(fo, .inr (0, [.ref a0, .ref a1, .ref a2, .ref a3, .ref a4, .ref a5, .ref a6, .ref a7, .int (nI (B))])), (a0, .inl (cI, 32, .inl kd)), (a1, .inl (cI, 32, .inl ky)), (a2, .inl (cI, 32, .inl vl)), (a3, .inl (cI, 32, .inl mk)), (a4, .inl (cI, 8, .inl wr)), (a5, .inl (cI, 32, .inl (cstF lv 0 (j + 1)))), (a6, .inl (cI, 16, .inl (frN kd ky mk (j + 1)))), (a7, .inl (cI, 8, .inl fr))] := by
                        rw [show (frN kd ky mk (j + 1) : Nat → Int32) = upd (frN kd ky mk j) ((ky (j)).toNatClampNeg) (nI (j)) from by rw [frN, if_pos ⟨c51_11, ⟨c55_12, c61_13⟩, fun h => absurd c72_14 h.1⟩]]
                        exact hD
                      have hP : va_P D vwCl [(fo, .inr (0, [.ref a0, .ref a1, .ref a2, .ref a3, .ref a4, .ref a5, .ref a6, .ref a7, .int (nI (B))])), (a0, .inl (cI, 32, .inl kd)), (a1, .inl (cI, 32, .inl ky)), (a2, .inl (cI, 32, .inl vl)), (a3, .inl (cI, 32, .inl mk)), (a4, .inl (cI, 8, .inl wr)), (a5, .inl (cI, 32, .inl (cstF lv 0 (j + 1)))), (a6, .inl (cI, 16, .inl (frN kd ky mk (j + 1)))), (a7, .inl (cI, 8, .inl fr))] H := hP
                      have hD : va_D A [(fo, .inr (0, [.ref a0, .ref a1, .ref a2, .ref a3, .ref a4, .ref a5, .ref a6, .ref a7, .int (nI (B))])), (a0, .inl (cI, 32, .inl kd)), (a1, .inl (cI, 32, .inl ky)), (a2, .inl (cI, 32, .inl vl)), (a3, .inl (cI, 32, .inl mk)), (a4, .inl (cI, 8, .inl wr)), (a5, .inl (cI, 32, .inl (cstF lv 0 (j + 1)))), (a6, .inl (cI, 16, .inl (frN kd ky mk (j + 1)))), (a7, .inl (cI, 8, .inl fr))] := hD
                      exact ih24 (j + 1) (by omega) (by omega) _ _ hP hD hS _ (lv_sub hl [3, 0] rfl)
                    · skip
                      refine lv_iload_n hx hb dX0_findRecords_75 rfl (lv_at hl 0 rfl) ?_
                      refine lv_bipush (v := 32) hx hb dX0_findRecords_76 (by decide) ?_
                      refine lv_icmp_ge (tgt := 96) hx hb dX0_findRecords_78 (by decide) (fun c78_15 => ?_) (fun c78_15 => ?_)
                      · skip
                        have c78_15 := i_nlt c78_15
                        refine lv_aload_n hx hb dX0_findRecords_96 rfl (lv_at hl 2 rfl) ?_
                        refine va_get (D := D) (ci := 0) (v := .ref a6) (C := RX0) (T := TX0) (N := 9) hx hb hts u6_X0 hown hK hP 0 rfl rfl 6 (by decide) (hts _ (m6 10 rfl)) (fun _ h9 => h9) rfl dX0_findRecords_97 ?_
                        refine lv_iload_n hx hb dX0_findRecords_100 rfl (lv_at hl 1 rfl) ?_
                        refine lv_iload_n hx hb dX0_findRecords_101 rfl (lv_at hl 3 rfl) ?_
                        refine ra_iast (i := (ky (j)).toNatClampNeg) hx hb hK hP hD hS 7 0 rfl rfl (by omega) (by decide) dX0_findRecords_102 (fun H locs hP hD hS => ?_)
                        have hP : va_P D vwCl [(fo, .inr (0, [.ref a0, .ref a1, .ref a2, .ref a3, .ref a4, .ref a5, .ref a6, .ref a7, .int (nI (B))])), (a0, .inl (cI, 32, .inl kd)), (a1, .inl (cI, 32, .inl ky)), (a2, .inl (cI, 32, .inl vl)), (a3, .inl (cI, 32, .inl mk)), (a4, .inl (cI, 8, .inl wr)), (a5, .inl (cI, 32, .inl (upd (cstF lv 0 j) j 0))), (a6, .inl (cI, 16, .inl (upd (frN kd ky mk j) ((ky (j)).toNatClampNeg) (nI (j))))), (a7, .inl (cI, 8, .inl fr))] H := hP
                        have hD : va_D A [(fo, .inr (0, [.ref a0, .ref a1, .ref a2, .ref a3, .ref a4, .ref a5, .ref a6, .ref a7, .int (nI (B))])), (a0, .inl (cI, 32, .inl kd)), (a1, .inl (cI, 32, .inl ky)), (a2, .inl (cI, 32, .inl vl)), (a3, .inl (cI, 32, .inl mk)), (a4, .inl (cI, 8, .inl wr)), (a5, .inl (cI, 32, .inl (upd (cstF lv 0 j) j 0))), (a6, .inl (cI, 16, .inl (upd (frN kd ky mk j) ((ky (j)).toNatClampNeg) (nI (j))))), (a7, .inl (cI, 8, .inl fr))] := hD
                        refine lv_iinc (v := nI (j + 1)) (lv' := [(1, .int (nI (j + 1))), (3, .int ((frN kd ky mk j) ((ky (j)).toNatClampNeg))), (2, .int (nI ((ky (j)).toNatClampNeg))), (0, .ref fo)]) hx hb dX0_findRecords_103 hl (k := 3) rfl (nI_add _ 1) (by decide) rfl (fun ls hl => ?_)
                        refine lv_goto (tgt := 24) hx hb dX0_findRecords_106 (by decide) ?_
                        have hl : lv_has ls 4 [(1, .int (nI ((j + 1)))), (3, .int ((frN kd ky mk j) ((ky (j)).toNatClampNeg))), (2, .int (nI ((ky (j)).toNatClampNeg))), (0, .ref fo)] := lv_re hl 0 rfl (show nI (j + 1) = nI ((j + 1)) from rfl)
                        have hP : va_P D vwCl [(fo, .inr (0, [.ref a0, .ref a1, .ref a2, .ref a3, .ref a4, .ref a5, .ref a6, .ref a7, .int (nI (B))])), (a0, .inl (cI, 32, .inl kd)), (a1, .inl (cI, 32, .inl ky)), (a2, .inl (cI, 32, .inl vl)), (a3, .inl (cI, 32, .inl mk)), (a4, .inl (cI, 8, .inl wr)), (a5, .inl (cI, 32, .inl (cstF lv 0 (j + 1)))), (a6, .inl (cI, 16, .inl (upd (frN kd ky mk j) ((ky (j)).toNatClampNeg) (nI (j))))), (a7, .inl (cI, 8, .inl fr))] H := by
                          rw [show (cstF lv 0 (j + 1) : Nat → Int32) = upd (cstF lv 0 j) j 0 from cstF_s _ _ _]
                          exact hP
                        have hD : va_D A [(fo, .inr (0, [.ref a0, .ref a1, .ref a2, .ref a3, .ref a4, .ref a5, .ref a6, .ref a7, .int (nI (B))])), (a0, .inl (cI, 32, .inl kd)), (a1, .inl (cI, 32, .inl ky)), (a2, .inl (cI, 32, .inl vl)), (a3, .inl (cI, 32, .inl mk)), (a4, .inl (cI, 8, .inl wr)), (a5, .inl (cI, 32, .inl (cstF lv 0 (j + 1)))), (a6, .inl (cI, 16, .inl (upd (frN kd ky mk j) ((ky (j)).toNatClampNeg) (nI (j))))), (a7, .inl (cI, 8, .inl fr))] := by
                          rw [show (cstF lv 0 (j + 1) : Nat → Int32) = upd (cstF lv 0 j) j 0 from cstF_s _ _ _]
                          exact hD
                        have hP : va_P D vwCl [(fo, .inr (0, [.ref a0, .ref a1, .ref a2, .ref a3, .ref a4, .ref a5, .ref a6, .ref a7, .int (nI (B))])), (a0, .inl (cI, 32, .inl kd)), (a1, .inl (cI, 32, .inl ky)), (a2, .inl (cI, 32, .inl vl)), (a3, .inl (cI, 32, .inl mk)), (a4, .inl (cI, 8, .inl wr)), (a5, .inl (cI, 32, .inl (cstF lv 0 (j + 1)))), (a6, .inl (cI, 16, .inl (frN kd ky mk (j + 1)))), (a7, .inl (cI, 8, .inl fr))] H := by
                          rw [show (frN kd ky mk (j + 1) : Nat → Int32) = upd (frN kd ky mk j) ((ky (j)).toNatClampNeg) (nI (j)) from by rw [frN, if_pos ⟨c51_11, ⟨c55_12, c61_13⟩, fun h => absurd h.2 c78_15⟩]]
                          exact hP
                        have hD : va_D A [(fo, .inr (0, [.ref a0, .ref a1, .ref a2, .ref a3, .ref a4, .ref a5, .ref a6, .ref a7, .int (nI (B))])), (a0, .inl (cI, 32, .inl kd)), (a1, .inl (cI, 32, .inl ky)), (a2, .inl (cI, 32, .inl vl)), (a3, .inl (cI, 32, .inl mk)), (a4, .inl (cI, 8, .inl wr)), (a5, .inl (cI, 32, .inl (cstF lv 0 (j + 1)))), (a6, .inl (cI, 16, .inl (frN kd ky mk (j + 1)))), (a7, .inl (cI, 8, .inl fr))] := by
                          rw [show (frN kd ky mk (j + 1) : Nat → Int32) = upd (frN kd ky mk j) ((ky (j)).toNatClampNeg) (nI (j)) from by rw [frN, if_pos ⟨c51_11, ⟨c55_12, c61_13⟩, fun h => absurd h.2 c78_15⟩]]
                          exact hD
                        have hP : va_P D vwCl [(fo, .inr (0, [.ref a0, .ref a1, .ref a2, .ref a3, .ref a4, .ref a5, .ref a6, .ref a7, .int (nI (B))])), (a0, .inl (cI, 32, .inl kd)), (a1, .inl (cI, 32, .inl ky)), (a2, .inl (cI, 32, .inl vl)), (a3, .inl (cI, 32, .inl mk)), (a4, .inl (cI, 8, .inl wr)), (a5, .inl (cI, 32, .inl (cstF lv 0 (j + 1)))), (a6, .inl (cI, 16, .inl (frN kd ky mk (j + 1)))), (a7, .inl (cI, 8, .inl fr))] H := hP
                        have hD : va_D A [(fo, .inr (0, [.ref a0, .ref a1, .ref a2, .ref a3, .ref a4, .ref a5, .ref a6, .ref a7, .int (nI (B))])), (a0, .inl (cI, 32, .inl kd)), (a1, .inl (cI, 32, .inl ky)), (a2, .inl (cI, 32, .inl vl)), (a3, .inl (cI, 32, .inl mk)), (a4, .inl (cI, 8, .inl wr)), (a5, .inl (cI, 32, .inl (cstF lv 0 (j + 1)))), (a6, .inl (cI, 16, .inl (frN kd ky mk (j + 1)))), (a7, .inl (cI, 8, .inl fr))] := hD
                        exact ih24 (j + 1) (by omega) (by omega) _ _ hP hD hS _ (lv_sub hl [3, 0] rfl)
                      · skip
                        have c78_15 := i_lt c78_15
                        obtain ⟨en3, hn3⟩ := num0 (k := 32) (by decide) c72_14 c78_15
                        have hl : lv_has ls 4 [(3, .int (nI (((frN kd ky mk j) ((ky (j)).toNatClampNeg)).toNatClampNeg))), (2, .int (nI ((ky (j)).toNatClampNeg))), (0, .ref fo), (1, .int (nI (j)))] := lv_re hl 0 rfl en3
                        refine lv_aload_n hx hb dX0_findRecords_81 rfl (lv_at hl 2 rfl) ?_
                        refine va_get (D := D) (ci := 0) (v := .ref a3) (C := RX0) (T := TX0) (N := 9) hx hb hts u6_X0 hown hK hP 0 rfl rfl 3 (by decide) (hts _ (m6 7 rfl)) (fun _ h9 => h9) rfl dX0_findRecords_82 ?_
                        refine lv_iload_n hx hb dX0_findRecords_85 rfl (lv_at hl 3 rfl) ?_
                        refine ra_iald (i := j) hx hb hK hP 4 0 rfl rfl (by omega) (by decide) dX0_findRecords_86 ?_
                        refine lv_aload_n hx hb dX0_findRecords_87 rfl (lv_at hl 2 rfl) ?_
                        refine va_get (D := D) (ci := 0) (v := .ref a3) (C := RX0) (T := TX0) (N := 9) hx hb hts u6_X0 hown hK hP 0 rfl rfl 3 (by decide) (hts _ (m6 7 rfl)) (fun _ h9 => h9) rfl dX0_findRecords_88 ?_
                        refine lv_iload_n hx hb dX0_findRecords_91 rfl (lv_at hl 0 rfl) ?_
                        refine ra_iald (i := ((frN kd ky mk j) ((ky (j)).toNatClampNeg)).toNatClampNeg) hx hb hK hP 4 0 rfl rfl (by omega) (by decide) dX0_findRecords_92 ?_
                        refine lv_icmp_le (tgt := 103) hx hb dX0_findRecords_93 (by decide) (fun c93_16 => ?_) (fun c93_16 => ?_)
                        · skip
                          have c93_16 := i_nlt c93_16
                          refine lv_iinc (v := nI (j + 1)) (lv' := [(1, .int (nI (j + 1))), (3, .int (nI (((frN kd ky mk j) ((ky (j)).toNatClampNeg)).toNatClampNeg))), (2, .int (nI ((ky (j)).toNatClampNeg))), (0, .ref fo)]) hx hb dX0_findRecords_103 hl (k := 3) rfl (nI_add _ 1) (by decide) rfl (fun ls hl => ?_)
                          refine lv_goto (tgt := 24) hx hb dX0_findRecords_106 (by decide) ?_
                          have hl : lv_has ls 4 [(1, .int (nI ((j + 1)))), (3, .int (nI (((frN kd ky mk j) ((ky (j)).toNatClampNeg)).toNatClampNeg))), (2, .int (nI ((ky (j)).toNatClampNeg))), (0, .ref fo)] := lv_re hl 0 rfl (show nI (j + 1) = nI ((j + 1)) from rfl)
                          have hP : va_P D vwCl [(fo, .inr (0, [.ref a0, .ref a1, .ref a2, .ref a3, .ref a4, .ref a5, .ref a6, .ref a7, .int (nI (B))])), (a0, .inl (cI, 32, .inl kd)), (a1, .inl (cI, 32, .inl ky)), (a2, .inl (cI, 32, .inl vl)), (a3, .inl (cI, 32, .inl mk)), (a4, .inl (cI, 8, .inl wr)), (a5, .inl (cI, 32, .inl (cstF lv 0 (j + 1)))), (a6, .inl (cI, 16, .inl (frN kd ky mk j))), (a7, .inl (cI, 8, .inl fr))] H := by
                            rw [show (cstF lv 0 (j + 1) : Nat → Int32) = upd (cstF lv 0 j) j 0 from cstF_s _ _ _]
                            exact hP
                          have hD : va_D A [(fo, .inr (0, [.ref a0, .ref a1, .ref a2, .ref a3, .ref a4, .ref a5, .ref a6, .ref a7, .int (nI (B))])), (a0, .inl (cI, 32, .inl kd)), (a1, .inl (cI, 32, .inl ky)), (a2, .inl (cI, 32, .inl vl)), (a3, .inl (cI, 32, .inl mk)), (a4, .inl (cI, 8, .inl wr)), (a5, .inl (cI, 32, .inl (cstF lv 0 (j + 1)))), (a6, .inl (cI, 16, .inl (frN kd ky mk j))), (a7, .inl (cI, 8, .inl fr))] := by
                            rw [show (cstF lv 0 (j + 1) : Nat → Int32) = upd (cstF lv 0 j) j 0 from cstF_s _ _ _]
                            exact hD
                          have hP : va_P D vwCl [(fo, .inr (0, [.ref a0, .ref a1, .ref a2, .ref a3, .ref a4, .ref a5, .ref a6, .ref a7, .int (nI (B))])), (a0, .inl (cI, 32, .inl kd)), (a1, .inl (cI, 32, .inl ky)), (a2, .inl (cI, 32, .inl vl)), (a3, .inl (cI, 32, .inl mk)), (a4, .inl (cI, 8, .inl wr)), (a5, .inl (cI, 32, .inl (cstF lv 0 (j + 1)))), (a6, .inl (cI, 16, .inl (frN kd ky mk (j + 1)))), (a7, .inl (cI, 8, .inl fr))] H := by
                            rw [show (frN kd ky mk (j + 1) : Nat → Int32) = frN kd ky mk j from by rw [frN, if_neg (fun z => c93_16 (z.2.2 ⟨c72_14, c78_15⟩))]]
                            exact hP
                          have hD : va_D A [(fo, .inr (0, [.ref a0, .ref a1, .ref a2, .ref a3, .ref a4, .ref a5, .ref a6, .ref a7, .int (nI (B))])), (a0, .inl (cI, 32, .inl kd)), (a1, .inl (cI, 32, .inl ky)), (a2, .inl (cI, 32, .inl vl)), (a3, .inl (cI, 32, .inl mk)), (a4, .inl (cI, 8, .inl wr)), (a5, .inl (cI, 32, .inl (cstF lv 0 (j + 1)))), (a6, .inl (cI, 16, .inl (frN kd ky mk (j + 1)))), (a7, .inl (cI, 8, .inl fr))] := by
                            rw [show (frN kd ky mk (j + 1) : Nat → Int32) = frN kd ky mk j from by rw [frN, if_neg (fun z => c93_16 (z.2.2 ⟨c72_14, c78_15⟩))]]
                            exact hD
                          have hP : va_P D vwCl [(fo, .inr (0, [.ref a0, .ref a1, .ref a2, .ref a3, .ref a4, .ref a5, .ref a6, .ref a7, .int (nI (B))])), (a0, .inl (cI, 32, .inl kd)), (a1, .inl (cI, 32, .inl ky)), (a2, .inl (cI, 32, .inl vl)), (a3, .inl (cI, 32, .inl mk)), (a4, .inl (cI, 8, .inl wr)), (a5, .inl (cI, 32, .inl (cstF lv 0 (j + 1)))), (a6, .inl (cI, 16, .inl (frN kd ky mk (j + 1)))), (a7, .inl (cI, 8, .inl fr))] H := hP
                          have hD : va_D A [(fo, .inr (0, [.ref a0, .ref a1, .ref a2, .ref a3, .ref a4, .ref a5, .ref a6, .ref a7, .int (nI (B))])), (a0, .inl (cI, 32, .inl kd)), (a1, .inl (cI, 32, .inl ky)), (a2, .inl (cI, 32, .inl vl)), (a3, .inl (cI, 32, .inl mk)), (a4, .inl (cI, 8, .inl wr)), (a5, .inl (cI, 32, .inl (cstF lv 0 (j + 1)))), (a6, .inl (cI, 16, .inl (frN kd ky mk (j + 1)))), (a7, .inl (cI, 8, .inl fr))] := hD
                          exact ih24 (j + 1) (by omega) (by omega) _ _ hP hD hS _ (lv_sub hl [3, 0] rfl)
                        · skip
                          have c93_16 := i_lt c93_16
                          refine lv_aload_n hx hb dX0_findRecords_96 rfl (lv_at hl 2 rfl) ?_
                          refine va_get (D := D) (ci := 0) (v := .ref a6) (C := RX0) (T := TX0) (N := 9) hx hb hts u6_X0 hown hK hP 0 rfl rfl 6 (by decide) (hts _ (m6 10 rfl)) (fun _ h9 => h9) rfl dX0_findRecords_97 ?_
                          refine lv_iload_n hx hb dX0_findRecords_100 rfl (lv_at hl 1 rfl) ?_
                          refine lv_iload_n hx hb dX0_findRecords_101 rfl (lv_at hl 3 rfl) ?_
                          refine ra_iast (i := (ky (j)).toNatClampNeg) hx hb hK hP hD hS 7 0 rfl rfl (by omega) (by decide) dX0_findRecords_102 (fun H locs hP hD hS => ?_)
                          have hP : va_P D vwCl [(fo, .inr (0, [.ref a0, .ref a1, .ref a2, .ref a3, .ref a4, .ref a5, .ref a6, .ref a7, .int (nI (B))])), (a0, .inl (cI, 32, .inl kd)), (a1, .inl (cI, 32, .inl ky)), (a2, .inl (cI, 32, .inl vl)), (a3, .inl (cI, 32, .inl mk)), (a4, .inl (cI, 8, .inl wr)), (a5, .inl (cI, 32, .inl (upd (cstF lv 0 j) j 0))), (a6, .inl (cI, 16, .inl (upd (frN kd ky mk j) ((ky (j)).toNatClampNeg) (nI (j))))), (a7, .inl (cI, 8, .inl fr))] H := hP
                          have hD : va_D A [(fo, .inr (0, [.ref a0, .ref a1, .ref a2, .ref a3, .ref a4, .ref a5, .ref a6, .ref a7, .int (nI (B))])), (a0, .inl (cI, 32, .inl kd)), (a1, .inl (cI, 32, .inl ky)), (a2, .inl (cI, 32, .inl vl)), (a3, .inl (cI, 32, .inl mk)), (a4, .inl (cI, 8, .inl wr)), (a5, .inl (cI, 32, .inl (upd (cstF lv 0 j) j 0))), (a6, .inl (cI, 16, .inl (upd (frN kd ky mk j) ((ky (j)).toNatClampNeg) (nI (j))))), (a7, .inl (cI, 8, .inl fr))] := hD
                          refine lv_iinc (v := nI (j + 1)) (lv' := [(1, .int (nI (j + 1))), (3, .int (nI (((frN kd ky mk j) ((ky (j)).toNatClampNeg)).toNatClampNeg))), (2, .int (nI ((ky (j)).toNatClampNeg))), (0, .ref fo)]) hx hb dX0_findRecords_103 hl (k := 3) rfl (nI_add _ 1) (by decide) rfl (fun ls hl => ?_)
                          refine lv_goto (tgt := 24) hx hb dX0_findRecords_106 (by decide) ?_
                          have hl : lv_has ls 4 [(1, .int (nI ((j + 1)))), (3, .int (nI (((frN kd ky mk j) ((ky (j)).toNatClampNeg)).toNatClampNeg))), (2, .int (nI ((ky (j)).toNatClampNeg))), (0, .ref fo)] := lv_re hl 0 rfl (show nI (j + 1) = nI ((j + 1)) from rfl)
                          have hP : va_P D vwCl [(fo, .inr (0, [.ref a0, .ref a1, .ref a2, .ref a3, .ref a4, .ref a5, .ref a6, .ref a7, .int (nI (B))])), (a0, .inl (cI, 32, .inl kd)), (a1, .inl (cI, 32, .inl ky)), (a2, .inl (cI, 32, .inl vl)), (a3, .inl (cI, 32, .inl mk)), (a4, .inl (cI, 8, .inl wr)), (a5, .inl (cI, 32, .inl (cstF lv 0 (j + 1)))), (a6, .inl (cI, 16, .inl (upd (frN kd ky mk j) ((ky (j)).toNatClampNeg) (nI (j))))), (a7, .inl (cI, 8, .inl fr))] H := by
                            rw [show (cstF lv 0 (j + 1) : Nat → Int32) = upd (cstF lv 0 j) j 0 from cstF_s _ _ _]
                            exact hP
                          have hD : va_D A [(fo, .inr (0, [.ref a0, .ref a1, .ref a2, .ref a3, .ref a4, .ref a5, .ref a6, .ref a7, .int (nI (B))])), (a0, .inl (cI, 32, .inl kd)), (a1, .inl (cI, 32, .inl ky)), (a2, .inl (cI, 32, .inl vl)), (a3, .inl (cI, 32, .inl mk)), (a4, .inl (cI, 8, .inl wr)), (a5, .inl (cI, 32, .inl (cstF lv 0 (j + 1)))), (a6, .inl (cI, 16, .inl (upd (frN kd ky mk j) ((ky (j)).toNatClampNeg) (nI (j))))), (a7, .inl (cI, 8, .inl fr))] := by
                            rw [show (cstF lv 0 (j + 1) : Nat → Int32) = upd (cstF lv 0 j) j 0 from cstF_s _ _ _]
                            exact hD
                          have hP : va_P D vwCl [(fo, .inr (0, [.ref a0, .ref a1, .ref a2, .ref a3, .ref a4, .ref a5, .ref a6, .ref a7, .int (nI (B))])), (a0, .inl (cI, 32, .inl kd)), (a1, .inl (cI, 32, .inl ky)), (a2, .inl (cI, 32, .inl vl)), (a3, .inl (cI, 32, .inl mk)), (a4, .inl (cI, 8, .inl wr)), (a5, .inl (cI, 32, .inl (cstF lv 0 (j + 1)))), (a6, .inl (cI, 16, .inl (frN kd ky mk (j + 1)))), (a7, .inl (cI, 8, .inl fr))] H := by
                            rw [show (frN kd ky mk (j + 1) : Nat → Int32) = upd (frN kd ky mk j) ((ky (j)).toNatClampNeg) (nI (j)) from by rw [frN, if_pos ⟨c51_11, ⟨c55_12, c61_13⟩, fun _ => c93_16⟩]]
                            exact hP
                          have hD : va_D A [(fo, .inr (0, [.ref a0, .ref a1, .ref a2, .ref a3, .ref a4, .ref a5, .ref a6, .ref a7, .int (nI (B))])), (a0, .inl (cI, 32, .inl kd)), (a1, .inl (cI, 32, .inl ky)), (a2, .inl (cI, 32, .inl vl)), (a3, .inl (cI, 32, .inl mk)), (a4, .inl (cI, 8, .inl wr)), (a5, .inl (cI, 32, .inl (cstF lv 0 (j + 1)))), (a6, .inl (cI, 16, .inl (frN kd ky mk (j + 1)))), (a7, .inl (cI, 8, .inl fr))] := by
                            rw [show (frN kd ky mk (j + 1) : Nat → Int32) = upd (frN kd ky mk j) ((ky (j)).toNatClampNeg) (nI (j)) from by rw [frN, if_pos ⟨c51_11, ⟨c55_12, c61_13⟩, fun _ => c93_16⟩]]
                            exact hD
                          have hP : va_P D vwCl [(fo, .inr (0, [.ref a0, .ref a1, .ref a2, .ref a3, .ref a4, .ref a5, .ref a6, .ref a7, .int (nI (B))])), (a0, .inl (cI, 32, .inl kd)), (a1, .inl (cI, 32, .inl ky)), (a2, .inl (cI, 32, .inl vl)), (a3, .inl (cI, 32, .inl mk)), (a4, .inl (cI, 8, .inl wr)), (a5, .inl (cI, 32, .inl (cstF lv 0 (j + 1)))), (a6, .inl (cI, 16, .inl (frN kd ky mk (j + 1)))), (a7, .inl (cI, 8, .inl fr))] H := hP
                          have hD : va_D A [(fo, .inr (0, [.ref a0, .ref a1, .ref a2, .ref a3, .ref a4, .ref a5, .ref a6, .ref a7, .int (nI (B))])), (a0, .inl (cI, 32, .inl kd)), (a1, .inl (cI, 32, .inl ky)), (a2, .inl (cI, 32, .inl vl)), (a3, .inl (cI, 32, .inl mk)), (a4, .inl (cI, 8, .inl wr)), (a5, .inl (cI, 32, .inl (cstF lv 0 (j + 1)))), (a6, .inl (cI, 16, .inl (frN kd ky mk (j + 1)))), (a7, .inl (cI, 8, .inl fr))] := hD
                          exact ih24 (j + 1) (by omega) (by omega) _ _ hP hD hS _ (lv_sub hl [3, 0] rfl)
        have hl : lv_has ls 4 [(1, .int (nI (0))), (0, .ref fo)] := lv_re hl 0 rfl (show 0 = nI (0) from rfl)
        have hP : va_P D vwCl [(fo, .inr (0, [.ref a0, .ref a1, .ref a2, .ref a3, .ref a4, .ref a5, .ref a6, .ref a7, .int (nI (B))])), (a0, .inl (cI, 32, .inl kd)), (a1, .inl (cI, 32, .inl ky)), (a2, .inl (cI, 32, .inl vl)), (a3, .inl (cI, 32, .inl mk)), (a4, .inl (cI, 8, .inl wr)), (a5, .inl (cI, 32, .inl (cstF lv 0 0))), (a6, .inl (cI, 16, .inl (fun _ => -9))), (a7, .inl (cI, 8, .inl fr))] H := by
          rw [show (cstF lv 0 0 : Nat → Int32) = lv from cstF_0 _ _]
          exact hP
        have hD : va_D A [(fo, .inr (0, [.ref a0, .ref a1, .ref a2, .ref a3, .ref a4, .ref a5, .ref a6, .ref a7, .int (nI (B))])), (a0, .inl (cI, 32, .inl kd)), (a1, .inl (cI, 32, .inl ky)), (a2, .inl (cI, 32, .inl vl)), (a3, .inl (cI, 32, .inl mk)), (a4, .inl (cI, 8, .inl wr)), (a5, .inl (cI, 32, .inl (cstF lv 0 0))), (a6, .inl (cI, 16, .inl (fun _ => -9))), (a7, .inl (cI, 8, .inl fr))] := by
          rw [show (cstF lv 0 0 : Nat → Int32) = lv from cstF_0 _ _]
          exact hD
        have hP : va_P D vwCl [(fo, .inr (0, [.ref a0, .ref a1, .ref a2, .ref a3, .ref a4, .ref a5, .ref a6, .ref a7, .int (nI (B))])), (a0, .inl (cI, 32, .inl kd)), (a1, .inl (cI, 32, .inl ky)), (a2, .inl (cI, 32, .inl vl)), (a3, .inl (cI, 32, .inl mk)), (a4, .inl (cI, 8, .inl wr)), (a5, .inl (cI, 32, .inl (cstF lv 0 0))), (a6, .inl (cI, 16, .inl (frN kd ky mk 0))), (a7, .inl (cI, 8, .inl fr))] H := by
          rw [show (frN kd ky mk 0 : Nat → Int32) = fun _ => -9 from rfl]
          exact hP
        have hD : va_D A [(fo, .inr (0, [.ref a0, .ref a1, .ref a2, .ref a3, .ref a4, .ref a5, .ref a6, .ref a7, .int (nI (B))])), (a0, .inl (cI, 32, .inl kd)), (a1, .inl (cI, 32, .inl ky)), (a2, .inl (cI, 32, .inl vl)), (a3, .inl (cI, 32, .inl mk)), (a4, .inl (cI, 8, .inl wr)), (a5, .inl (cI, 32, .inl (cstF lv 0 0))), (a6, .inl (cI, 16, .inl (frN kd ky mk 0))), (a7, .inl (cI, 8, .inl fr))] := by
          rw [show (frN kd ky mk 0 : Nat → Int32) = fun _ => -9 from rfl]
          exact hD
        have hP : va_P D vwCl [(fo, .inr (0, [.ref a0, .ref a1, .ref a2, .ref a3, .ref a4, .ref a5, .ref a6, .ref a7, .int (nI (B))])), (a0, .inl (cI, 32, .inl kd)), (a1, .inl (cI, 32, .inl ky)), (a2, .inl (cI, 32, .inl vl)), (a3, .inl (cI, 32, .inl mk)), (a4, .inl (cI, 8, .inl wr)), (a5, .inl (cI, 32, .inl (cstF lv 0 0))), (a6, .inl (cI, 16, .inl (frN kd ky mk 0))), (a7, .inl (cI, 8, .inl fr))] H := hP
        have hD : va_D A [(fo, .inr (0, [.ref a0, .ref a1, .ref a2, .ref a3, .ref a4, .ref a5, .ref a6, .ref a7, .int (nI (B))])), (a0, .inl (cI, 32, .inl kd)), (a1, .inl (cI, 32, .inl ky)), (a2, .inl (cI, 32, .inl vl)), (a3, .inl (cI, 32, .inl mk)), (a4, .inl (cI, 8, .inl wr)), (a5, .inl (cI, 32, .inl (cstF lv 0 0))), (a6, .inl (cI, 16, .inl (frN kd ky mk 0))), (a7, .inl (cI, 8, .inl fr))] := hD
        exact LP24 ((32 - 0) + 1) 0 (by omega) (by omega) _ _ hP hD hS _ (lv_sub hl [1, 0] rfl)
      · skip
        have c5_1 := cn_nle (a := 16) (b := j) (by omega) (by omega) c5_1
        refine lv_aload_n hx hb dX0_findRecords_8 rfl (lv_at hl 0 rfl) ?_
        refine va_get (D := D) (ci := 0) (v := .ref a6) (C := RX0) (T := TX0) (N := 9) hx hb hts u6_X0 hown hK hP 0 rfl rfl 6 (by decide) (hts _ (m6 10 rfl)) (fun _ h9 => h9) rfl dX0_findRecords_9 ?_
        refine lv_iload_n hx hb dX0_findRecords_12 rfl (lv_at hl 1 rfl) ?_
        refine lv_bipush (v := (-9)) hx hb dX0_findRecords_13 (by decide) ?_
        refine ra_iast (i := j) hx hb hK hP hD hS 7 0 rfl rfl (by omega) (by decide) dX0_findRecords_15 (fun H locs hP hD hS => ?_)
        have hP : va_P D vwCl [(fo, .inr (0, [.ref a0, .ref a1, .ref a2, .ref a3, .ref a4, .ref a5, .ref a6, .ref a7, .int (nI (B))])), (a0, .inl (cI, 32, .inl kd)), (a1, .inl (cI, 32, .inl ky)), (a2, .inl (cI, 32, .inl vl)), (a3, .inl (cI, 32, .inl mk)), (a4, .inl (cI, 8, .inl wr)), (a5, .inl (cI, 32, .inl lv)), (a6, .inl (cI, 16, .inl (upd (cstF nw (-9) j) j (-9)))), (a7, .inl (cI, 8, .inl fr))] H := hP
        have hD : va_D A [(fo, .inr (0, [.ref a0, .ref a1, .ref a2, .ref a3, .ref a4, .ref a5, .ref a6, .ref a7, .int (nI (B))])), (a0, .inl (cI, 32, .inl kd)), (a1, .inl (cI, 32, .inl ky)), (a2, .inl (cI, 32, .inl vl)), (a3, .inl (cI, 32, .inl mk)), (a4, .inl (cI, 8, .inl wr)), (a5, .inl (cI, 32, .inl lv)), (a6, .inl (cI, 16, .inl (upd (cstF nw (-9) j) j (-9)))), (a7, .inl (cI, 8, .inl fr))] := hD
        refine lv_iinc (v := nI (j + 1)) (lv' := [(1, .int (nI (j + 1))), (0, .ref fo)]) hx hb dX0_findRecords_16 hl (k := 1) rfl (nI_add _ 1) (by decide) rfl (fun ls hl => ?_)
        refine lv_goto (tgt := 2) hx hb dX0_findRecords_19 (by decide) ?_
        have hl : lv_has ls 4 [(1, .int (nI ((j + 1)))), (0, .ref fo)] := lv_re hl 0 rfl (show nI (j + 1) = nI ((j + 1)) from rfl)
        have hP : va_P D vwCl [(fo, .inr (0, [.ref a0, .ref a1, .ref a2, .ref a3, .ref a4, .ref a5, .ref a6, .ref a7, .int (nI (B))])), (a0, .inl (cI, 32, .inl kd)), (a1, .inl (cI, 32, .inl ky)), (a2, .inl (cI, 32, .inl vl)), (a3, .inl (cI, 32, .inl mk)), (a4, .inl (cI, 8, .inl wr)), (a5, .inl (cI, 32, .inl lv)), (a6, .inl (cI, 16, .inl (cstF nw (-9) (j + 1)))), (a7, .inl (cI, 8, .inl fr))] H := by
          rw [show (cstF nw (-9) (j + 1) : Nat → Int32) = upd (cstF nw (-9) j) j (-9) from cstF_s _ _ _]
          exact hP
        have hD : va_D A [(fo, .inr (0, [.ref a0, .ref a1, .ref a2, .ref a3, .ref a4, .ref a5, .ref a6, .ref a7, .int (nI (B))])), (a0, .inl (cI, 32, .inl kd)), (a1, .inl (cI, 32, .inl ky)), (a2, .inl (cI, 32, .inl vl)), (a3, .inl (cI, 32, .inl mk)), (a4, .inl (cI, 8, .inl wr)), (a5, .inl (cI, 32, .inl lv)), (a6, .inl (cI, 16, .inl (cstF nw (-9) (j + 1)))), (a7, .inl (cI, 8, .inl fr))] := by
          rw [show (cstF nw (-9) (j + 1) : Nat → Int32) = upd (cstF nw (-9) j) j (-9) from cstF_s _ _ _]
          exact hD
        have hP : va_P D vwCl [(fo, .inr (0, [.ref a0, .ref a1, .ref a2, .ref a3, .ref a4, .ref a5, .ref a6, .ref a7, .int (nI (B))])), (a0, .inl (cI, 32, .inl kd)), (a1, .inl (cI, 32, .inl ky)), (a2, .inl (cI, 32, .inl vl)), (a3, .inl (cI, 32, .inl mk)), (a4, .inl (cI, 8, .inl wr)), (a5, .inl (cI, 32, .inl lv)), (a6, .inl (cI, 16, .inl (cstF nw (-9) (j + 1)))), (a7, .inl (cI, 8, .inl fr))] H := hP
        have hD : va_D A [(fo, .inr (0, [.ref a0, .ref a1, .ref a2, .ref a3, .ref a4, .ref a5, .ref a6, .ref a7, .int (nI (B))])), (a0, .inl (cI, 32, .inl kd)), (a1, .inl (cI, 32, .inl ky)), (a2, .inl (cI, 32, .inl vl)), (a3, .inl (cI, 32, .inl mk)), (a4, .inl (cI, 8, .inl wr)), (a5, .inl (cI, 32, .inl lv)), (a6, .inl (cI, 16, .inl (cstF nw (-9) (j + 1)))), (a7, .inl (cI, 8, .inl fr))] := hD
        exact ih2 (j + 1) (by omega) (by omega) _ _ hP hD hS _ (lv_sub hl [1, 0] rfl)
  have hl : lv_has ls 4 [(1, .int (nI (0))), (0, .ref fo)] := lv_re hl 0 rfl (show 0 = nI (0) from rfl)
  have hP : va_P D vwCl [(fo, .inr (0, [.ref a0, .ref a1, .ref a2, .ref a3, .ref a4, .ref a5, .ref a6, .ref a7, .int (nI (B))])), (a0, .inl (cI, 32, .inl kd)), (a1, .inl (cI, 32, .inl ky)), (a2, .inl (cI, 32, .inl vl)), (a3, .inl (cI, 32, .inl mk)), (a4, .inl (cI, 8, .inl wr)), (a5, .inl (cI, 32, .inl lv)), (a6, .inl (cI, 16, .inl (cstF nw (-9) 0))), (a7, .inl (cI, 8, .inl fr))] H := by
    rw [show (cstF nw (-9) 0 : Nat → Int32) = nw from cstF_0 _ _]
    exact hP
  have hD : va_D A [(fo, .inr (0, [.ref a0, .ref a1, .ref a2, .ref a3, .ref a4, .ref a5, .ref a6, .ref a7, .int (nI (B))])), (a0, .inl (cI, 32, .inl kd)), (a1, .inl (cI, 32, .inl ky)), (a2, .inl (cI, 32, .inl vl)), (a3, .inl (cI, 32, .inl mk)), (a4, .inl (cI, 8, .inl wr)), (a5, .inl (cI, 32, .inl lv)), (a6, .inl (cI, 16, .inl (cstF nw (-9) 0))), (a7, .inl (cI, 8, .inl fr))] := by
    rw [show (cstF nw (-9) 0 : Nat → Int32) = nw from cstF_0 _ _]
    exact hD
  have hP : va_P D vwCl [(fo, .inr (0, [.ref a0, .ref a1, .ref a2, .ref a3, .ref a4, .ref a5, .ref a6, .ref a7, .int (nI (B))])), (a0, .inl (cI, 32, .inl kd)), (a1, .inl (cI, 32, .inl ky)), (a2, .inl (cI, 32, .inl vl)), (a3, .inl (cI, 32, .inl mk)), (a4, .inl (cI, 8, .inl wr)), (a5, .inl (cI, 32, .inl lv)), (a6, .inl (cI, 16, .inl (cstF nw (-9) 0))), (a7, .inl (cI, 8, .inl fr))] H := hP
  have hD : va_D A [(fo, .inr (0, [.ref a0, .ref a1, .ref a2, .ref a3, .ref a4, .ref a5, .ref a6, .ref a7, .int (nI (B))])), (a0, .inl (cI, 32, .inl kd)), (a1, .inl (cI, 32, .inl ky)), (a2, .inl (cI, 32, .inl vl)), (a3, .inl (cI, 32, .inl mk)), (a4, .inl (cI, 8, .inl wr)), (a5, .inl (cI, 32, .inl lv)), (a6, .inl (cI, 16, .inl (cstF nw (-9) 0))), (a7, .inl (cI, 8, .inl fr))] := hD
  exact LP2 ((16 - 0) + 1) 0 (by omega) (by omega) _ _ hP hD hS _ (lv_sub hl [1, 0] rfl)
theorem dX0_write_0 : decode cX0_write 0 = .ok (.iload_n 1, 1) := by decide +kernel
theorem dX0_write_1 : decode cX0_write 1 = .ok (.ifCond .lt 19, 3) := by decide +kernel
theorem dX0_write_4 : decode cX0_write 4 = .ok (.iload_n 1, 1) := by decide +kernel
theorem dX0_write_5 : decode cX0_write 5 = .ok (.bipush 32, 2) := by decide +kernel
theorem dX0_write_7 : decode cX0_write 7 = .ok (.if_icmp .ge 13, 3) := by decide +kernel
theorem dX0_write_10 : decode cX0_write 10 = .ok (.iload_n 2, 1) := by decide +kernel
theorem dX0_write_11 : decode cX0_write 11 = .ok (.ifCond .lt 9, 3) := by decide +kernel
theorem dX0_write_14 : decode cX0_write 14 = .ok (.iload_n 2, 1) := by decide +kernel
theorem dX0_write_15 : decode cX0_write 15 = .ok (.bipush 16, 2) := by decide +kernel
theorem dX0_write_17 : decode cX0_write 17 = .ok (.if_icmp .lt 4, 3) := by decide +kernel
theorem dX0_write_21 : decode cX0_write 21 = .ok (.aload_n 0, 1) := by decide +kernel
theorem dX0_write_22 : decode cX0_write 22 = .ok (.getfield 11, 3) := by decide +kernel
theorem dX0_write_25 : decode cX0_write 25 = .ok (.iload_n 1, 1) := by decide +kernel
theorem dX0_write_26 : decode cX0_write 26 = .ok (.iconst 1, 1) := by decide +kernel
theorem dX0_write_27 : decode cX0_write 27 = .ok (.iastore, 1) := by decide +kernel
theorem dX0_write_28 : decode cX0_write 28 = .ok (.aload_n 0, 1) := by decide +kernel
theorem dX0_write_29 : decode cX0_write 29 = .ok (.getfield 15, 3) := by decide +kernel
theorem dX0_write_32 : decode cX0_write 32 = .ok (.iload_n 1, 1) := by decide +kernel
theorem dX0_write_33 : decode cX0_write 33 = .ok (.iload_n 2, 1) := by decide +kernel
theorem dX0_write_34 : decode cX0_write 34 = .ok (.iastore, 1) := by decide +kernel
theorem dX0_write_35 : decode cX0_write 35 = .ok (.aload_n 0, 1) := by decide +kernel
theorem dX0_write_36 : decode cX0_write 36 = .ok (.getfield 18, 3) := by decide +kernel
theorem dX0_write_39 : decode cX0_write 39 = .ok (.iload_n 1, 1) := by decide +kernel
theorem dX0_write_40 : decode cX0_write 40 = .ok (.iload_n 3, 1) := by decide +kernel
theorem dX0_write_41 : decode cX0_write 41 = .ok (.iastore, 1) := by decide +kernel
theorem dX0_write_42 : decode cX0_write 42 = .ok (.aload_n 0, 1) := by decide +kernel
theorem dX0_write_43 : decode cX0_write 43 = .ok (.getfield 21, 3) := by decide +kernel
theorem dX0_write_46 : decode cX0_write 46 = .ok (.iload_n 1, 1) := by decide +kernel
theorem dX0_write_47 : decode cX0_write 47 = .ok (.iload 4, 2) := by decide +kernel
theorem dX0_write_49 : decode cX0_write 49 = .ok (.iastore, 1) := by decide +kernel
theorem dX0_write_50 : decode cX0_write 50 = .ok (.aload_n 0, 1) := by decide +kernel
theorem dX0_write_51 : decode cX0_write 51 = .ok (.getfield 27, 3) := by decide +kernel
theorem dX0_write_54 : decode cX0_write 54 = .ok (.iload_n 1, 1) := by decide +kernel
theorem dX0_write_55 : decode cX0_write 55 = .ok (.iconst 1, 1) := by decide +kernel
theorem dX0_write_56 : decode cX0_write 56 = .ok (.iastore, 1) := by decide +kernel
theorem dX0_write_57 : decode cX0_write 57 = .ok (.aload_n 0, 1) := by decide +kernel
theorem dX0_write_58 : decode cX0_write 58 = .ok (.getfield 30, 3) := by decide +kernel
theorem dX0_write_61 : decode cX0_write 61 = .ok (.iload_n 2, 1) := by decide +kernel
theorem dX0_write_62 : decode cX0_write 62 = .ok (.iaload, 1) := by decide +kernel
theorem dX0_write_63 : decode cX0_write 63 = .ok (.istore 5, 2) := by decide +kernel
theorem dX0_write_65 : decode cX0_write 65 = .ok (.iload 5, 2) := by decide +kernel
theorem dX0_write_67 : decode cX0_write 67 = .ok (.ifCond .lt 18, 3) := by decide +kernel
theorem dX0_write_70 : decode cX0_write 70 = .ok (.iload 5, 2) := by decide +kernel
theorem dX0_write_72 : decode cX0_write 72 = .ok (.bipush 32, 2) := by decide +kernel
theorem dX0_write_74 : decode cX0_write 74 = .ok (.if_icmp .ge 11, 3) := by decide +kernel
theorem dX0_write_77 : decode cX0_write 77 = .ok (.aload_n 0, 1) := by decide +kernel
theorem dX0_write_78 : decode cX0_write 78 = .ok (.getfield 27, 3) := by decide +kernel
theorem dX0_write_81 : decode cX0_write 81 = .ok (.iload 5, 2) := by decide +kernel
theorem dX0_write_83 : decode cX0_write 83 = .ok (.iconst 0, 1) := by decide +kernel
theorem dX0_write_84 : decode cX0_write 84 = .ok (.iastore, 1) := by decide +kernel
theorem dX0_write_85 : decode cX0_write 85 = .ok (.aload_n 0, 1) := by decide +kernel
theorem dX0_write_86 : decode cX0_write 86 = .ok (.getfield 30, 3) := by decide +kernel
theorem dX0_write_89 : decode cX0_write 89 = .ok (.iload_n 2, 1) := by decide +kernel
theorem dX0_write_90 : decode cX0_write 90 = .ok (.iload_n 1, 1) := by decide +kernel
theorem dX0_write_91 : decode cX0_write 91 = .ok (.iastore, 1) := by decide +kernel
theorem dX0_write_92 : decode cX0_write 92 = .ok (.aload_n 0, 1) := by decide +kernel
theorem dX0_write_93 : decode cX0_write 93 = .ok (.getfield 33, 3) := by decide +kernel
theorem dX0_write_96 : decode cX0_write 96 = .ok (.iload_n 1, 1) := by decide +kernel
theorem dX0_write_97 : decode cX0_write 97 = .ok (.iconst 4, 1) := by decide +kernel
theorem dX0_write_98 : decode cX0_write 98 = .ok (.idiv, 1) := by decide +kernel
theorem dX0_write_99 : decode cX0_write 99 = .ok (.dup2, 1) := by decide +kernel
theorem dX0_write_100 : decode cX0_write 100 = .ok (.iaload, 1) := by decide +kernel
theorem dX0_write_101 : decode cX0_write 101 = .ok (.iconst 1, 1) := by decide +kernel
theorem dX0_write_102 : decode cX0_write 102 = .ok (.isub, 1) := by decide +kernel
theorem dX0_write_103 : decode cX0_write 103 = .ok (.iastore, 1) := by decide +kernel
theorem dX0_write_104 : decode cX0_write 104 = .ok (.return_, 1) := by decide +kernel
theorem q0_write : CQ W6 yX0_write cX0_write 6 none 4 := ⟨(m6 181 rfl), by decide, by decide, by decide +kernel⟩
set_option maxHeartbeats 4000000 in
set_option maxRecDepth 100000 in
theorem c0_write (l : Launch) (D : va_G) (cI : ClassId) (fo a0 a1 a2 a3 a4 a5 a6 a7 : Nat) (kd ky vl mk wr lv nw fr : Nat → Int32) (B : Nat) (hB8 : B ≤ 8) (a k : Nat) (ha : a < 32) (hk : k < 16) (x mm : Int32) : GQv l yX0_write cX0_write 6 W6 0 0 D [(fo, .inr (0, [.ref a0, .ref a1, .ref a2, .ref a3, .ref a4, .ref a5, .ref a6, .ref a7, .int (nI (B))])), (a0, .inl (cI, 32, .inl kd)), (a1, .inl (cI, 32, .inl ky)), (a2, .inl (cI, 32, .inl vl)), (a3, .inl (cI, 32, .inl mk)), (a4, .inl (cI, 8, .inl wr)), (a5, .inl (cI, 32, .inl lv)), (a6, .inl (cI, 16, .inl nw)), (a7, .inl (cI, 8, .inl fr))] [(cI, .int)] [.ref fo, .int (nI (a)), .int (nI (k)), .int (x), .int (mm)] (fun u9 : va_W => u9 = [(fo, .inr (0, [.ref a0, .ref a1, .ref a2, .ref a3, .ref a4, .ref a5, .ref a6, .ref a7, .int (nI (B))])), (a0, .inl (cI, 32, .inl (upd kd a 1))), (a1, .inl (cI, 32, .inl (upd ky a (nI k)))), (a2, .inl (cI, 32, .inl (upd vl a x))), (a3, .inl (cI, 32, .inl (upd mk a mm))), (a4, .inl (cI, 8, .inl wr)), (a5, .inl (cI, 32, .inl (lvW lv nw a k))), (a6, .inl (cI, 16, .inl (upd nw k (nI a)))), (a7, .inl (cI, 8, .inl (upd fr (a / 4) (fr (a / 4) - 1))))]) := by
  refine gq_of RX0 (by decide) rfl (Nat.le_of_ble_eq_true rfl) ?_
  intro p e s m below meth c ls H hX hr hlocks hK hN hP hD hS hl
  generalize gp_A [(fo, .inr (0, [.ref a0, .ref a1, .ref a2, .ref a3, .ref a4, .ref a5, .ref a6, .ref a7, .int (nI (B))])), (a0, .inl (cI, 32, .inl kd)), (a1, .inl (cI, 32, .inl ky)), (a2, .inl (cI, 32, .inl vl)), (a3, .inl (cI, 32, .inl mk)), (a4, .inl (cI, 8, .inl wr)), (a5, .inl (cI, 32, .inl lv)), (a6, .inl (cI, 16, .inl nw)), (a7, .inl (cI, 8, .inl fr))] = A at hD hS ⊢
  have hx := hX.1
  have hb := hX.2.1
  have hown := hX.2.2.2.1
  have hts := hX.2.2.2.2
  have hl : lv_has ls 6 [(0, .ref fo), (1, .int (nI (a))), (2, .int (nI (k))), (3, .int (x)), (4, .int (mm))] := hl
  refine lv_iload_n hx hb dX0_write_0 rfl (lv_at hl 1 rfl) ?_
  refine lv_if_lt (tgt := 20) hx hb dX0_write_1 (by decide) (fun c1_1 => ?_) (fun c1_1 => ?_)
  · skip
    have c1_1 := cn_lt (a := a) (b := 0) (by omega) (by omega) c1_1
    omega
  · skip
    have c1_1 := cn_nlt (a := a) (b := 0) (by omega) (by omega) c1_1
    refine lv_iload_n hx hb dX0_write_4 rfl (lv_at hl 1 rfl) ?_
    refine lv_bipush (v := 32) hx hb dX0_write_5 (by decide) ?_
    refine lv_icmp_ge (tgt := 20) hx hb dX0_write_7 (by decide) (fun c7_2 => ?_) (fun c7_2 => ?_)
    · skip
      have c7_2 := cn_le (a := 32) (b := a) (by omega) (by omega) c7_2
      omega
    · skip
      have c7_2 := cn_nle (a := 32) (b := a) (by omega) (by omega) c7_2
      refine lv_iload_n hx hb dX0_write_10 rfl (lv_at hl 2 rfl) ?_
      refine lv_if_lt (tgt := 20) hx hb dX0_write_11 (by decide) (fun c11_3 => ?_) (fun c11_3 => ?_)
      · skip
        have c11_3 := cn_lt (a := k) (b := 0) (by omega) (by omega) c11_3
        omega
      · skip
        have c11_3 := cn_nlt (a := k) (b := 0) (by omega) (by omega) c11_3
        refine lv_iload_n hx hb dX0_write_14 rfl (lv_at hl 2 rfl) ?_
        refine lv_bipush (v := 16) hx hb dX0_write_15 (by decide) ?_
        refine lv_icmp_lt (tgt := 21) hx hb dX0_write_17 (by decide) (fun c17_4 => ?_) (fun c17_4 => ?_)
        · skip
          have c17_4 := cn_lt (a := k) (b := 16) (by omega) (by omega) c17_4
          refine lv_aload_n hx hb dX0_write_21 rfl (lv_at hl 0 rfl) ?_
          refine va_get (D := D) (ci := 0) (v := .ref a0) (C := RX0) (T := TX0) (N := 9) hx hb hts u6_X0 hown hK hP 0 rfl rfl 0 (by decide) (hts _ (m6 4 rfl)) (fun _ h9 => h9) rfl dX0_write_22 ?_
          refine lv_iload_n hx hb dX0_write_25 rfl (lv_at hl 1 rfl) ?_
          refine lv_iconst (v := 1) hx hb dX0_write_26 (by decide) ?_
          refine ra_iast (i := a) hx hb hK hP hD hS 1 0 rfl rfl (by omega) (by decide) dX0_write_27 (fun H locs hP hD hS => ?_)
          have hP : va_P D vwCl [(fo, .inr (0, [.ref a0, .ref a1, .ref a2, .ref a3, .ref a4, .ref a5, .ref a6, .ref a7, .int (nI (B))])), (a0, .inl (cI, 32, .inl (upd kd a 1))), (a1, .inl (cI, 32, .inl ky)), (a2, .inl (cI, 32, .inl vl)), (a3, .inl (cI, 32, .inl mk)), (a4, .inl (cI, 8, .inl wr)), (a5, .inl (cI, 32, .inl lv)), (a6, .inl (cI, 16, .inl nw)), (a7, .inl (cI, 8, .inl fr))] H := hP
          have hD : va_D A [(fo, .inr (0, [.ref a0, .ref a1, .ref a2, .ref a3, .ref a4, .ref a5, .ref a6, .ref a7, .int (nI (B))])), (a0, .inl (cI, 32, .inl (upd kd a 1))), (a1, .inl (cI, 32, .inl ky)), (a2, .inl (cI, 32, .inl vl)), (a3, .inl (cI, 32, .inl mk)), (a4, .inl (cI, 8, .inl wr)), (a5, .inl (cI, 32, .inl lv)), (a6, .inl (cI, 16, .inl nw)), (a7, .inl (cI, 8, .inl fr))] := hD
          refine lv_aload_n hx hb dX0_write_28 rfl (lv_at hl 0 rfl) ?_
          refine va_get (D := D) (ci := 0) (v := .ref a1) (C := RX0) (T := TX0) (N := 9) hx hb hts u6_X0 hown hK hP 0 rfl rfl 1 (by decide) (hts _ (m6 5 rfl)) (fun _ h9 => h9) rfl dX0_write_29 ?_
          refine lv_iload_n hx hb dX0_write_32 rfl (lv_at hl 1 rfl) ?_
          refine lv_iload_n hx hb dX0_write_33 rfl (lv_at hl 2 rfl) ?_
          refine ra_iast (i := a) hx hb hK hP hD hS 2 0 rfl rfl (by omega) (by decide) dX0_write_34 (fun H locs hP hD hS => ?_)
          have hP : va_P D vwCl [(fo, .inr (0, [.ref a0, .ref a1, .ref a2, .ref a3, .ref a4, .ref a5, .ref a6, .ref a7, .int (nI (B))])), (a0, .inl (cI, 32, .inl (upd kd a 1))), (a1, .inl (cI, 32, .inl (upd ky a (nI (k))))), (a2, .inl (cI, 32, .inl vl)), (a3, .inl (cI, 32, .inl mk)), (a4, .inl (cI, 8, .inl wr)), (a5, .inl (cI, 32, .inl lv)), (a6, .inl (cI, 16, .inl nw)), (a7, .inl (cI, 8, .inl fr))] H := hP
          have hD : va_D A [(fo, .inr (0, [.ref a0, .ref a1, .ref a2, .ref a3, .ref a4, .ref a5, .ref a6, .ref a7, .int (nI (B))])), (a0, .inl (cI, 32, .inl (upd kd a 1))), (a1, .inl (cI, 32, .inl (upd ky a (nI (k))))), (a2, .inl (cI, 32, .inl vl)), (a3, .inl (cI, 32, .inl mk)), (a4, .inl (cI, 8, .inl wr)), (a5, .inl (cI, 32, .inl lv)), (a6, .inl (cI, 16, .inl nw)), (a7, .inl (cI, 8, .inl fr))] := hD
          refine lv_aload_n hx hb dX0_write_35 rfl (lv_at hl 0 rfl) ?_
          refine va_get (D := D) (ci := 0) (v := .ref a2) (C := RX0) (T := TX0) (N := 9) hx hb hts u6_X0 hown hK hP 0 rfl rfl 2 (by decide) (hts _ (m6 6 rfl)) (fun _ h9 => h9) rfl dX0_write_36 ?_
          refine lv_iload_n hx hb dX0_write_39 rfl (lv_at hl 1 rfl) ?_
          refine lv_iload_n hx hb dX0_write_40 rfl (lv_at hl 3 rfl) ?_
          refine ra_iast (i := a) hx hb hK hP hD hS 3 0 rfl rfl (by omega) (by decide) dX0_write_41 (fun H locs hP hD hS => ?_)
          have hP : va_P D vwCl [(fo, .inr (0, [.ref a0, .ref a1, .ref a2, .ref a3, .ref a4, .ref a5, .ref a6, .ref a7, .int (nI (B))])), (a0, .inl (cI, 32, .inl (upd kd a 1))), (a1, .inl (cI, 32, .inl (upd ky a (nI (k))))), (a2, .inl (cI, 32, .inl (upd vl a x))), (a3, .inl (cI, 32, .inl mk)), (a4, .inl (cI, 8, .inl wr)), (a5, .inl (cI, 32, .inl lv)), (a6, .inl (cI, 16, .inl nw)), (a7, .inl (cI, 8, .inl fr))] H := hP
          have hD : va_D A [(fo, .inr (0, [.ref a0, .ref a1, .ref a2, .ref a3, .ref a4, .ref a5, .ref a6, .ref a7, .int (nI (B))])), (a0, .inl (cI, 32, .inl (upd kd a 1))), (a1, .inl (cI, 32, .inl (upd ky a (nI (k))))), (a2, .inl (cI, 32, .inl (upd vl a x))), (a3, .inl (cI, 32, .inl mk)), (a4, .inl (cI, 8, .inl wr)), (a5, .inl (cI, 32, .inl lv)), (a6, .inl (cI, 16, .inl nw)), (a7, .inl (cI, 8, .inl fr))] := hD
          refine lv_aload_n hx hb dX0_write_42 rfl (lv_at hl 0 rfl) ?_
          refine va_get (D := D) (ci := 0) (v := .ref a3) (C := RX0) (T := TX0) (N := 9) hx hb hts u6_X0 hown hK hP 0 rfl rfl 3 (by decide) (hts _ (m6 7 rfl)) (fun _ h9 => h9) rfl dX0_write_43 ?_
          refine lv_iload_n hx hb dX0_write_46 rfl (lv_at hl 1 rfl) ?_
          refine lv_iload hx hb dX0_write_47 (lv_at hl 4 rfl) ?_
          refine ra_iast (i := a) hx hb hK hP hD hS 4 0 rfl rfl (by omega) (by decide) dX0_write_49 (fun H locs hP hD hS => ?_)
          have hP : va_P D vwCl [(fo, .inr (0, [.ref a0, .ref a1, .ref a2, .ref a3, .ref a4, .ref a5, .ref a6, .ref a7, .int (nI (B))])), (a0, .inl (cI, 32, .inl (upd kd a 1))), (a1, .inl (cI, 32, .inl (upd ky a (nI (k))))), (a2, .inl (cI, 32, .inl (upd vl a x))), (a3, .inl (cI, 32, .inl (upd mk a mm))), (a4, .inl (cI, 8, .inl wr)), (a5, .inl (cI, 32, .inl lv)), (a6, .inl (cI, 16, .inl nw)), (a7, .inl (cI, 8, .inl fr))] H := hP
          have hD : va_D A [(fo, .inr (0, [.ref a0, .ref a1, .ref a2, .ref a3, .ref a4, .ref a5, .ref a6, .ref a7, .int (nI (B))])), (a0, .inl (cI, 32, .inl (upd kd a 1))), (a1, .inl (cI, 32, .inl (upd ky a (nI (k))))), (a2, .inl (cI, 32, .inl (upd vl a x))), (a3, .inl (cI, 32, .inl (upd mk a mm))), (a4, .inl (cI, 8, .inl wr)), (a5, .inl (cI, 32, .inl lv)), (a6, .inl (cI, 16, .inl nw)), (a7, .inl (cI, 8, .inl fr))] := hD
          refine lv_aload_n hx hb dX0_write_50 rfl (lv_at hl 0 rfl) ?_
          refine va_get (D := D) (ci := 0) (v := .ref a5) (C := RX0) (T := TX0) (N := 9) hx hb hts u6_X0 hown hK hP 0 rfl rfl 5 (by decide) (hts _ (m6 9 rfl)) (fun _ h9 => h9) rfl dX0_write_51 ?_
          refine lv_iload_n hx hb dX0_write_54 rfl (lv_at hl 1 rfl) ?_
          refine lv_iconst (v := 1) hx hb dX0_write_55 (by decide) ?_
          refine ra_iast (i := a) hx hb hK hP hD hS 6 0 rfl rfl (by omega) (by decide) dX0_write_56 (fun H locs hP hD hS => ?_)
          have hP : va_P D vwCl [(fo, .inr (0, [.ref a0, .ref a1, .ref a2, .ref a3, .ref a4, .ref a5, .ref a6, .ref a7, .int (nI (B))])), (a0, .inl (cI, 32, .inl (upd kd a 1))), (a1, .inl (cI, 32, .inl (upd ky a (nI (k))))), (a2, .inl (cI, 32, .inl (upd vl a x))), (a3, .inl (cI, 32, .inl (upd mk a mm))), (a4, .inl (cI, 8, .inl wr)), (a5, .inl (cI, 32, .inl (upd lv a 1))), (a6, .inl (cI, 16, .inl nw)), (a7, .inl (cI, 8, .inl fr))] H := hP
          have hD : va_D A [(fo, .inr (0, [.ref a0, .ref a1, .ref a2, .ref a3, .ref a4, .ref a5, .ref a6, .ref a7, .int (nI (B))])), (a0, .inl (cI, 32, .inl (upd kd a 1))), (a1, .inl (cI, 32, .inl (upd ky a (nI (k))))), (a2, .inl (cI, 32, .inl (upd vl a x))), (a3, .inl (cI, 32, .inl (upd mk a mm))), (a4, .inl (cI, 8, .inl wr)), (a5, .inl (cI, 32, .inl (upd lv a 1))), (a6, .inl (cI, 16, .inl nw)), (a7, .inl (cI, 8, .inl fr))] := hD
          refine lv_aload_n hx hb dX0_write_57 rfl (lv_at hl 0 rfl) ?_
          refine va_get (D := D) (ci := 0) (v := .ref a6) (C := RX0) (T := TX0) (N := 9) hx hb hts u6_X0 hown hK hP 0 rfl rfl 6 (by decide) (hts _ (m6 10 rfl)) (fun _ h9 => h9) rfl dX0_write_58 ?_
          refine lv_iload_n hx hb dX0_write_61 rfl (lv_at hl 2 rfl) ?_
          refine ra_iald (i := k) hx hb hK hP 7 0 rfl rfl (by omega) (by decide) dX0_write_62 ?_
          refine lv_istore (lv' := [(5, .int (nw (k))), (0, .ref fo), (1, .int (nI (a))), (2, .int (nI (k))), (3, .int (x)), (4, .int (mm))]) hx hb dX0_write_63 hl (by decide) rfl (fun ls hl => ?_)
          refine lv_iload hx hb dX0_write_65 (lv_at hl 0 rfl) ?_
          refine lv_if_lt (tgt := 85) hx hb dX0_write_67 (by decide) (fun c67_5 => ?_) (fun c67_5 => ?_)
          · skip
            refine lv_aload_n hx hb dX0_write_85 rfl (lv_at hl 1 rfl) ?_
            refine va_get (D := D) (ci := 0) (v := .ref a6) (C := RX0) (T := TX0) (N := 9) hx hb hts u6_X0 hown hK hP 0 rfl rfl 6 (by decide) (hts _ (m6 10 rfl)) (fun _ h9 => h9) rfl dX0_write_86 ?_
            refine lv_iload_n hx hb dX0_write_89 rfl (lv_at hl 3 rfl) ?_
            refine lv_iload_n hx hb dX0_write_90 rfl (lv_at hl 2 rfl) ?_
            refine ra_iast (i := k) hx hb hK hP hD hS 7 0 rfl rfl (by omega) (by decide) dX0_write_91 (fun H locs hP hD hS => ?_)
            have hP : va_P D vwCl [(fo, .inr (0, [.ref a0, .ref a1, .ref a2, .ref a3, .ref a4, .ref a5, .ref a6, .ref a7, .int (nI (B))])), (a0, .inl (cI, 32, .inl (upd kd a 1))), (a1, .inl (cI, 32, .inl (upd ky a (nI (k))))), (a2, .inl (cI, 32, .inl (upd vl a x))), (a3, .inl (cI, 32, .inl (upd mk a mm))), (a4, .inl (cI, 8, .inl wr)), (a5, .inl (cI, 32, .inl (upd lv a 1))), (a6, .inl (cI, 16, .inl (upd nw k (nI (a))))), (a7, .inl (cI, 8, .inl fr))] H := hP
            have hD : va_D A [(fo, .inr (0, [.ref a0, .ref a1, .ref a2, .ref a3, .ref a4, .ref a5, .ref a6, .ref a7, .int (nI (B))])), (a0, .inl (cI, 32, .inl (upd kd a 1))), (a1, .inl (cI, 32, .inl (upd ky a (nI (k))))), (a2, .inl (cI, 32, .inl (upd vl a x))), (a3, .inl (cI, 32, .inl (upd mk a mm))), (a4, .inl (cI, 8, .inl wr)), (a5, .inl (cI, 32, .inl (upd lv a 1))), (a6, .inl (cI, 16, .inl (upd nw k (nI (a))))), (a7, .inl (cI, 8, .inl fr))] := hD
            refine lv_aload_n hx hb dX0_write_92 rfl (lv_at hl 1 rfl) ?_
            refine va_get (D := D) (ci := 0) (v := .ref a7) (C := RX0) (T := TX0) (N := 9) hx hb hts u6_X0 hown hK hP 0 rfl rfl 7 (by decide) (hts _ (m6 11 rfl)) (fun _ h9 => h9) rfl dX0_write_93 ?_
            refine lv_iload_n hx hb dX0_write_96 rfl (lv_at hl 2 rfl) ?_
            refine lv_iconst (v := 4) hx hb dX0_write_97 (by decide) ?_
            refine lv_idiv hx hb dX0_write_98 (by decide) ?_
            refine lv_as (y := nI (a / 4)) (pk_div (a := a) (d := 4) (by omega) (by decide) (by decide)) ?_
            refine lv_dup2_11 hx hb dX0_write_99 rfl rfl ?_
            refine ra_iald (i := a / 4) hx hb hK hP 8 0 rfl rfl (by omega) (by decide) dX0_write_100 ?_
            refine lv_iconst (v := 1) hx hb dX0_write_101 (by decide) ?_
            refine lv_isub hx hb dX0_write_102 ?_
            refine ra_iast (i := a / 4) hx hb hK hP hD hS 8 0 rfl rfl (by omega) (by decide) dX0_write_103 (fun H locs hP hD hS => ?_)
            have hP : va_P D vwCl [(fo, .inr (0, [.ref a0, .ref a1, .ref a2, .ref a3, .ref a4, .ref a5, .ref a6, .ref a7, .int (nI (B))])), (a0, .inl (cI, 32, .inl (upd kd a 1))), (a1, .inl (cI, 32, .inl (upd ky a (nI (k))))), (a2, .inl (cI, 32, .inl (upd vl a x))), (a3, .inl (cI, 32, .inl (upd mk a mm))), (a4, .inl (cI, 8, .inl wr)), (a5, .inl (cI, 32, .inl (upd lv a 1))), (a6, .inl (cI, 16, .inl (upd nw k (nI (a))))), (a7, .inl (cI, 8, .inl (upd fr (a / 4) ((fr (a / 4)) - 1))))] H := hP
            have hD : va_D A [(fo, .inr (0, [.ref a0, .ref a1, .ref a2, .ref a3, .ref a4, .ref a5, .ref a6, .ref a7, .int (nI (B))])), (a0, .inl (cI, 32, .inl (upd kd a 1))), (a1, .inl (cI, 32, .inl (upd ky a (nI (k))))), (a2, .inl (cI, 32, .inl (upd vl a x))), (a3, .inl (cI, 32, .inl (upd mk a mm))), (a4, .inl (cI, 8, .inl wr)), (a5, .inl (cI, 32, .inl (upd lv a 1))), (a6, .inl (cI, 16, .inl (upd nw k (nI (a))))), (a7, .inl (cI, 8, .inl (upd fr (a / 4) ((fr (a / 4)) - 1))))] := hD
            have hP : va_P D vwCl [(fo, .inr (0, [.ref a0, .ref a1, .ref a2, .ref a3, .ref a4, .ref a5, .ref a6, .ref a7, .int (nI (B))])), (a0, .inl (cI, 32, .inl (upd kd a 1))), (a1, .inl (cI, 32, .inl (upd ky a (nI k)))), (a2, .inl (cI, 32, .inl (upd vl a x))), (a3, .inl (cI, 32, .inl (upd mk a mm))), (a4, .inl (cI, 8, .inl wr)), (a5, .inl (cI, 32, .inl (upd lv a 1))), (a6, .inl (cI, 16, .inl (upd nw k (nI (a))))), (a7, .inl (cI, 8, .inl (upd fr (a / 4) ((fr (a / 4)) - 1))))] H := by
              rw [show (upd ky a (nI k) : Nat → Int32) = upd ky a (nI (k)) from rfl]
              exact hP
            have hP : va_P D vwCl [(fo, .inr (0, [.ref a0, .ref a1, .ref a2, .ref a3, .ref a4, .ref a5, .ref a6, .ref a7, .int (nI (B))])), (a0, .inl (cI, 32, .inl (upd kd a 1))), (a1, .inl (cI, 32, .inl (upd ky a (nI k)))), (a2, .inl (cI, 32, .inl (upd vl a x))), (a3, .inl (cI, 32, .inl (upd mk a mm))), (a4, .inl (cI, 8, .inl wr)), (a5, .inl (cI, 32, .inl (lvW lv nw a k))), (a6, .inl (cI, 16, .inl (upd nw k (nI (a))))), (a7, .inl (cI, 8, .inl (upd fr (a / 4) ((fr (a / 4)) - 1))))] H := by
              rw [show (lvW lv nw a k : Nat → Int32) = upd lv a 1 from by rw [lvW, if_neg (fun z => z.1 c67_5)]]
              exact hP
            have hP : va_P D vwCl [(fo, .inr (0, [.ref a0, .ref a1, .ref a2, .ref a3, .ref a4, .ref a5, .ref a6, .ref a7, .int (nI (B))])), (a0, .inl (cI, 32, .inl (upd kd a 1))), (a1, .inl (cI, 32, .inl (upd ky a (nI k)))), (a2, .inl (cI, 32, .inl (upd vl a x))), (a3, .inl (cI, 32, .inl (upd mk a mm))), (a4, .inl (cI, 8, .inl wr)), (a5, .inl (cI, 32, .inl (lvW lv nw a k))), (a6, .inl (cI, 16, .inl (upd nw k (nI a)))), (a7, .inl (cI, 8, .inl (upd fr (a / 4) ((fr (a / 4)) - 1))))] H := by
              rw [show (upd nw k (nI a) : Nat → Int32) = upd nw k (nI (a)) from rfl]
              exact hP
            have hP : va_P D vwCl [(fo, .inr (0, [.ref a0, .ref a1, .ref a2, .ref a3, .ref a4, .ref a5, .ref a6, .ref a7, .int (nI (B))])), (a0, .inl (cI, 32, .inl (upd kd a 1))), (a1, .inl (cI, 32, .inl (upd ky a (nI k)))), (a2, .inl (cI, 32, .inl (upd vl a x))), (a3, .inl (cI, 32, .inl (upd mk a mm))), (a4, .inl (cI, 8, .inl wr)), (a5, .inl (cI, 32, .inl (lvW lv nw a k))), (a6, .inl (cI, 16, .inl (upd nw k (nI a)))), (a7, .inl (cI, 8, .inl (upd fr (a / 4) (fr (a / 4) - 1))))] H := by
              rw [show (upd fr (a / 4) (fr (a / 4) - 1) : Nat → Int32) = upd fr (a / 4) ((fr (a / 4)) - 1) from rfl]
              exact hP
            exact gp_retv hX hr hlocks hS hP rfl dX0_write_104
          · skip
            refine lv_iload hx hb dX0_write_70 (lv_at hl 0 rfl) ?_
            refine lv_bipush (v := 32) hx hb dX0_write_72 (by decide) ?_
            refine lv_icmp_ge (tgt := 85) hx hb dX0_write_74 (by decide) (fun c74_6 => ?_) (fun c74_6 => ?_)
            · skip
              have c74_6 := i_nlt c74_6
              refine lv_aload_n hx hb dX0_write_85 rfl (lv_at hl 1 rfl) ?_
              refine va_get (D := D) (ci := 0) (v := .ref a6) (C := RX0) (T := TX0) (N := 9) hx hb hts u6_X0 hown hK hP 0 rfl rfl 6 (by decide) (hts _ (m6 10 rfl)) (fun _ h9 => h9) rfl dX0_write_86 ?_
              refine lv_iload_n hx hb dX0_write_89 rfl (lv_at hl 3 rfl) ?_
              refine lv_iload_n hx hb dX0_write_90 rfl (lv_at hl 2 rfl) ?_
              refine ra_iast (i := k) hx hb hK hP hD hS 7 0 rfl rfl (by omega) (by decide) dX0_write_91 (fun H locs hP hD hS => ?_)
              have hP : va_P D vwCl [(fo, .inr (0, [.ref a0, .ref a1, .ref a2, .ref a3, .ref a4, .ref a5, .ref a6, .ref a7, .int (nI (B))])), (a0, .inl (cI, 32, .inl (upd kd a 1))), (a1, .inl (cI, 32, .inl (upd ky a (nI (k))))), (a2, .inl (cI, 32, .inl (upd vl a x))), (a3, .inl (cI, 32, .inl (upd mk a mm))), (a4, .inl (cI, 8, .inl wr)), (a5, .inl (cI, 32, .inl (upd lv a 1))), (a6, .inl (cI, 16, .inl (upd nw k (nI (a))))), (a7, .inl (cI, 8, .inl fr))] H := hP
              have hD : va_D A [(fo, .inr (0, [.ref a0, .ref a1, .ref a2, .ref a3, .ref a4, .ref a5, .ref a6, .ref a7, .int (nI (B))])), (a0, .inl (cI, 32, .inl (upd kd a 1))), (a1, .inl (cI, 32, .inl (upd ky a (nI (k))))), (a2, .inl (cI, 32, .inl (upd vl a x))), (a3, .inl (cI, 32, .inl (upd mk a mm))), (a4, .inl (cI, 8, .inl wr)), (a5, .inl (cI, 32, .inl (upd lv a 1))), (a6, .inl (cI, 16, .inl (upd nw k (nI (a))))), (a7, .inl (cI, 8, .inl fr))] := hD
              refine lv_aload_n hx hb dX0_write_92 rfl (lv_at hl 1 rfl) ?_
              refine va_get (D := D) (ci := 0) (v := .ref a7) (C := RX0) (T := TX0) (N := 9) hx hb hts u6_X0 hown hK hP 0 rfl rfl 7 (by decide) (hts _ (m6 11 rfl)) (fun _ h9 => h9) rfl dX0_write_93 ?_
              refine lv_iload_n hx hb dX0_write_96 rfl (lv_at hl 2 rfl) ?_
              refine lv_iconst (v := 4) hx hb dX0_write_97 (by decide) ?_
              refine lv_idiv hx hb dX0_write_98 (by decide) ?_
              refine lv_as (y := nI (a / 4)) (pk_div (a := a) (d := 4) (by omega) (by decide) (by decide)) ?_
              refine lv_dup2_11 hx hb dX0_write_99 rfl rfl ?_
              refine ra_iald (i := a / 4) hx hb hK hP 8 0 rfl rfl (by omega) (by decide) dX0_write_100 ?_
              refine lv_iconst (v := 1) hx hb dX0_write_101 (by decide) ?_
              refine lv_isub hx hb dX0_write_102 ?_
              refine ra_iast (i := a / 4) hx hb hK hP hD hS 8 0 rfl rfl (by omega) (by decide) dX0_write_103 (fun H locs hP hD hS => ?_)
              have hP : va_P D vwCl [(fo, .inr (0, [.ref a0, .ref a1, .ref a2, .ref a3, .ref a4, .ref a5, .ref a6, .ref a7, .int (nI (B))])), (a0, .inl (cI, 32, .inl (upd kd a 1))), (a1, .inl (cI, 32, .inl (upd ky a (nI (k))))), (a2, .inl (cI, 32, .inl (upd vl a x))), (a3, .inl (cI, 32, .inl (upd mk a mm))), (a4, .inl (cI, 8, .inl wr)), (a5, .inl (cI, 32, .inl (upd lv a 1))), (a6, .inl (cI, 16, .inl (upd nw k (nI (a))))), (a7, .inl (cI, 8, .inl (upd fr (a / 4) ((fr (a / 4)) - 1))))] H := hP
              have hD : va_D A [(fo, .inr (0, [.ref a0, .ref a1, .ref a2, .ref a3, .ref a4, .ref a5, .ref a6, .ref a7, .int (nI (B))])), (a0, .inl (cI, 32, .inl (upd kd a 1))), (a1, .inl (cI, 32, .inl (upd ky a (nI (k))))), (a2, .inl (cI, 32, .inl (upd vl a x))), (a3, .inl (cI, 32, .inl (upd mk a mm))), (a4, .inl (cI, 8, .inl wr)), (a5, .inl (cI, 32, .inl (upd lv a 1))), (a6, .inl (cI, 16, .inl (upd nw k (nI (a))))), (a7, .inl (cI, 8, .inl (upd fr (a / 4) ((fr (a / 4)) - 1))))] := hD
              have hP : va_P D vwCl [(fo, .inr (0, [.ref a0, .ref a1, .ref a2, .ref a3, .ref a4, .ref a5, .ref a6, .ref a7, .int (nI (B))])), (a0, .inl (cI, 32, .inl (upd kd a 1))), (a1, .inl (cI, 32, .inl (upd ky a (nI k)))), (a2, .inl (cI, 32, .inl (upd vl a x))), (a3, .inl (cI, 32, .inl (upd mk a mm))), (a4, .inl (cI, 8, .inl wr)), (a5, .inl (cI, 32, .inl (upd lv a 1))), (a6, .inl (cI, 16, .inl (upd nw k (nI (a))))), (a7, .inl (cI, 8, .inl (upd fr (a / 4) ((fr (a / 4)) - 1))))] H := by
                rw [show (upd ky a (nI k) : Nat → Int32) = upd ky a (nI (k)) from rfl]
                exact hP
              have hP : va_P D vwCl [(fo, .inr (0, [.ref a0, .ref a1, .ref a2, .ref a3, .ref a4, .ref a5, .ref a6, .ref a7, .int (nI (B))])), (a0, .inl (cI, 32, .inl (upd kd a 1))), (a1, .inl (cI, 32, .inl (upd ky a (nI k)))), (a2, .inl (cI, 32, .inl (upd vl a x))), (a3, .inl (cI, 32, .inl (upd mk a mm))), (a4, .inl (cI, 8, .inl wr)), (a5, .inl (cI, 32, .inl (lvW lv nw a k))), (a6, .inl (cI, 16, .inl (upd nw k (nI (a))))), (a7, .inl (cI, 8, .inl (upd fr (a / 4) ((fr (a / 4)) - 1))))] H := by
                rw [show (lvW lv nw a k : Nat → Int32) = upd lv a 1 from by rw [lvW, if_neg (fun z => c74_6 z.2)]]
                exact hP
              have hP : va_P D vwCl [(fo, .inr (0, [.ref a0, .ref a1, .ref a2, .ref a3, .ref a4, .ref a5, .ref a6, .ref a7, .int (nI (B))])), (a0, .inl (cI, 32, .inl (upd kd a 1))), (a1, .inl (cI, 32, .inl (upd ky a (nI k)))), (a2, .inl (cI, 32, .inl (upd vl a x))), (a3, .inl (cI, 32, .inl (upd mk a mm))), (a4, .inl (cI, 8, .inl wr)), (a5, .inl (cI, 32, .inl (lvW lv nw a k))), (a6, .inl (cI, 16, .inl (upd nw k (nI a)))), (a7, .inl (cI, 8, .inl (upd fr (a / 4) ((fr (a / 4)) - 1))))] H := by
                rw [show (upd nw k (nI a) : Nat → Int32) = upd nw k (nI (a)) from rfl]
                exact hP
              have hP : va_P D vwCl [(fo, .inr (0, [.ref a0, .ref a1, .ref a2, .ref a3, .ref a4, .ref a5, .ref a6, .ref a7, .int (nI (B))])), (a0, .inl (cI, 32, .inl (upd kd a 1))), (a1, .inl (cI, 32, .inl (upd ky a (nI k)))), (a2, .inl (cI, 32, .inl (upd vl a x))), (a3, .inl (cI, 32, .inl (upd mk a mm))), (a4, .inl (cI, 8, .inl wr)), (a5, .inl (cI, 32, .inl (lvW lv nw a k))), (a6, .inl (cI, 16, .inl (upd nw k (nI a)))), (a7, .inl (cI, 8, .inl (upd fr (a / 4) (fr (a / 4) - 1))))] H := by
                rw [show (upd fr (a / 4) (fr (a / 4) - 1) : Nat → Int32) = upd fr (a / 4) ((fr (a / 4)) - 1) from rfl]
                exact hP
              exact gp_retv hX hr hlocks hS hP rfl dX0_write_104
            · skip
              have c74_6 := i_lt c74_6
              obtain ⟨en5, hn5⟩ := num0 (k := 32) (by decide) c67_5 c74_6
              have hl : lv_has ls 6 [(5, .int (nI ((nw (k)).toNatClampNeg))), (0, .ref fo), (1, .int (nI (a))), (2, .int (nI (k))), (3, .int (x)), (4, .int (mm))] := lv_re hl 0 rfl en5
              refine lv_aload_n hx hb dX0_write_77 rfl (lv_at hl 1 rfl) ?_
              refine va_get (D := D) (ci := 0) (v := .ref a5) (C := RX0) (T := TX0) (N := 9) hx hb hts u6_X0 hown hK hP 0 rfl rfl 5 (by decide) (hts _ (m6 9 rfl)) (fun _ h9 => h9) rfl dX0_write_78 ?_
              refine lv_iload hx hb dX0_write_81 (lv_at hl 0 rfl) ?_
              refine lv_iconst (v := 0) hx hb dX0_write_83 (by decide) ?_
              refine ra_iast (i := (nw (k)).toNatClampNeg) hx hb hK hP hD hS 6 0 rfl rfl (by omega) (by decide) dX0_write_84 (fun H locs hP hD hS => ?_)
              have hP : va_P D vwCl [(fo, .inr (0, [.ref a0, .ref a1, .ref a2, .ref a3, .ref a4, .ref a5, .ref a6, .ref a7, .int (nI (B))])), (a0, .inl (cI, 32, .inl (upd kd a 1))), (a1, .inl (cI, 32, .inl (upd ky a (nI (k))))), (a2, .inl (cI, 32, .inl (upd vl a x))), (a3, .inl (cI, 32, .inl (upd mk a mm))), (a4, .inl (cI, 8, .inl wr)), (a5, .inl (cI, 32, .inl (upd (upd lv a 1) ((nw (k)).toNatClampNeg) 0))), (a6, .inl (cI, 16, .inl nw)), (a7, .inl (cI, 8, .inl fr))] H := hP
              have hD : va_D A [(fo, .inr (0, [.ref a0, .ref a1, .ref a2, .ref a3, .ref a4, .ref a5, .ref a6, .ref a7, .int (nI (B))])), (a0, .inl (cI, 32, .inl (upd kd a 1))), (a1, .inl (cI, 32, .inl (upd ky a (nI (k))))), (a2, .inl (cI, 32, .inl (upd vl a x))), (a3, .inl (cI, 32, .inl (upd mk a mm))), (a4, .inl (cI, 8, .inl wr)), (a5, .inl (cI, 32, .inl (upd (upd lv a 1) ((nw (k)).toNatClampNeg) 0))), (a6, .inl (cI, 16, .inl nw)), (a7, .inl (cI, 8, .inl fr))] := hD
              refine lv_aload_n hx hb dX0_write_85 rfl (lv_at hl 1 rfl) ?_
              refine va_get (D := D) (ci := 0) (v := .ref a6) (C := RX0) (T := TX0) (N := 9) hx hb hts u6_X0 hown hK hP 0 rfl rfl 6 (by decide) (hts _ (m6 10 rfl)) (fun _ h9 => h9) rfl dX0_write_86 ?_
              refine lv_iload_n hx hb dX0_write_89 rfl (lv_at hl 3 rfl) ?_
              refine lv_iload_n hx hb dX0_write_90 rfl (lv_at hl 2 rfl) ?_
              refine ra_iast (i := k) hx hb hK hP hD hS 7 0 rfl rfl (by omega) (by decide) dX0_write_91 (fun H locs hP hD hS => ?_)
              have hP : va_P D vwCl [(fo, .inr (0, [.ref a0, .ref a1, .ref a2, .ref a3, .ref a4, .ref a5, .ref a6, .ref a7, .int (nI (B))])), (a0, .inl (cI, 32, .inl (upd kd a 1))), (a1, .inl (cI, 32, .inl (upd ky a (nI (k))))), (a2, .inl (cI, 32, .inl (upd vl a x))), (a3, .inl (cI, 32, .inl (upd mk a mm))), (a4, .inl (cI, 8, .inl wr)), (a5, .inl (cI, 32, .inl (upd (upd lv a 1) ((nw (k)).toNatClampNeg) 0))), (a6, .inl (cI, 16, .inl (upd nw k (nI (a))))), (a7, .inl (cI, 8, .inl fr))] H := hP
              have hD : va_D A [(fo, .inr (0, [.ref a0, .ref a1, .ref a2, .ref a3, .ref a4, .ref a5, .ref a6, .ref a7, .int (nI (B))])), (a0, .inl (cI, 32, .inl (upd kd a 1))), (a1, .inl (cI, 32, .inl (upd ky a (nI (k))))), (a2, .inl (cI, 32, .inl (upd vl a x))), (a3, .inl (cI, 32, .inl (upd mk a mm))), (a4, .inl (cI, 8, .inl wr)), (a5, .inl (cI, 32, .inl (upd (upd lv a 1) ((nw (k)).toNatClampNeg) 0))), (a6, .inl (cI, 16, .inl (upd nw k (nI (a))))), (a7, .inl (cI, 8, .inl fr))] := hD
              refine lv_aload_n hx hb dX0_write_92 rfl (lv_at hl 1 rfl) ?_
              refine va_get (D := D) (ci := 0) (v := .ref a7) (C := RX0) (T := TX0) (N := 9) hx hb hts u6_X0 hown hK hP 0 rfl rfl 7 (by decide) (hts _ (m6 11 rfl)) (fun _ h9 => h9) rfl dX0_write_93 ?_
              refine lv_iload_n hx hb dX0_write_96 rfl (lv_at hl 2 rfl) ?_
              refine lv_iconst (v := 4) hx hb dX0_write_97 (by decide) ?_
              refine lv_idiv hx hb dX0_write_98 (by decide) ?_
              refine lv_as (y := nI (a / 4)) (pk_div (a := a) (d := 4) (by omega) (by decide) (by decide)) ?_
              refine lv_dup2_11 hx hb dX0_write_99 rfl rfl ?_
              refine ra_iald (i := a / 4) hx hb hK hP 8 0 rfl rfl (by omega) (by decide) dX0_write_100 ?_
              refine lv_iconst (v := 1) hx hb dX0_write_101 (by decide) ?_
              refine lv_isub hx hb dX0_write_102 ?_
              refine ra_iast (i := a / 4) hx hb hK hP hD hS 8 0 rfl rfl (by omega) (by decide) dX0_write_103 (fun H locs hP hD hS => ?_)
              have hP : va_P D vwCl [(fo, .inr (0, [.ref a0, .ref a1, .ref a2, .ref a3, .ref a4, .ref a5, .ref a6, .ref a7, .int (nI (B))])), (a0, .inl (cI, 32, .inl (upd kd a 1))), (a1, .inl (cI, 32, .inl (upd ky a (nI (k))))), (a2, .inl (cI, 32, .inl (upd vl a x))), (a3, .inl (cI, 32, .inl (upd mk a mm))), (a4, .inl (cI, 8, .inl wr)), (a5, .inl (cI, 32, .inl (upd (upd lv a 1) ((nw (k)).toNatClampNeg) 0))), (a6, .inl (cI, 16, .inl (upd nw k (nI (a))))), (a7, .inl (cI, 8, .inl (upd fr (a / 4) ((fr (a / 4)) - 1))))] H := hP
              have hD : va_D A [(fo, .inr (0, [.ref a0, .ref a1, .ref a2, .ref a3, .ref a4, .ref a5, .ref a6, .ref a7, .int (nI (B))])), (a0, .inl (cI, 32, .inl (upd kd a 1))), (a1, .inl (cI, 32, .inl (upd ky a (nI (k))))), (a2, .inl (cI, 32, .inl (upd vl a x))), (a3, .inl (cI, 32, .inl (upd mk a mm))), (a4, .inl (cI, 8, .inl wr)), (a5, .inl (cI, 32, .inl (upd (upd lv a 1) ((nw (k)).toNatClampNeg) 0))), (a6, .inl (cI, 16, .inl (upd nw k (nI (a))))), (a7, .inl (cI, 8, .inl (upd fr (a / 4) ((fr (a / 4)) - 1))))] := hD
              have hP : va_P D vwCl [(fo, .inr (0, [.ref a0, .ref a1, .ref a2, .ref a3, .ref a4, .ref a5, .ref a6, .ref a7, .int (nI (B))])), (a0, .inl (cI, 32, .inl (upd kd a 1))), (a1, .inl (cI, 32, .inl (upd ky a (nI k)))), (a2, .inl (cI, 32, .inl (upd vl a x))), (a3, .inl (cI, 32, .inl (upd mk a mm))), (a4, .inl (cI, 8, .inl wr)), (a5, .inl (cI, 32, .inl (upd (upd lv a 1) ((nw (k)).toNatClampNeg) 0))), (a6, .inl (cI, 16, .inl (upd nw k (nI (a))))), (a7, .inl (cI, 8, .inl (upd fr (a / 4) ((fr (a / 4)) - 1))))] H := by
                rw [show (upd ky a (nI k) : Nat → Int32) = upd ky a (nI (k)) from rfl]
                exact hP
              have hP : va_P D vwCl [(fo, .inr (0, [.ref a0, .ref a1, .ref a2, .ref a3, .ref a4, .ref a5, .ref a6, .ref a7, .int (nI (B))])), (a0, .inl (cI, 32, .inl (upd kd a 1))), (a1, .inl (cI, 32, .inl (upd ky a (nI k)))), (a2, .inl (cI, 32, .inl (upd vl a x))), (a3, .inl (cI, 32, .inl (upd mk a mm))), (a4, .inl (cI, 8, .inl wr)), (a5, .inl (cI, 32, .inl (lvW lv nw a k))), (a6, .inl (cI, 16, .inl (upd nw k (nI (a))))), (a7, .inl (cI, 8, .inl (upd fr (a / 4) ((fr (a / 4)) - 1))))] H := by
                rw [show (lvW lv nw a k : Nat → Int32) = upd (upd lv a 1) ((nw (k)).toNatClampNeg) 0 from by rw [lvW, if_pos ⟨c67_5, c74_6⟩]]
                exact hP
              have hP : va_P D vwCl [(fo, .inr (0, [.ref a0, .ref a1, .ref a2, .ref a3, .ref a4, .ref a5, .ref a6, .ref a7, .int (nI (B))])), (a0, .inl (cI, 32, .inl (upd kd a 1))), (a1, .inl (cI, 32, .inl (upd ky a (nI k)))), (a2, .inl (cI, 32, .inl (upd vl a x))), (a3, .inl (cI, 32, .inl (upd mk a mm))), (a4, .inl (cI, 8, .inl wr)), (a5, .inl (cI, 32, .inl (lvW lv nw a k))), (a6, .inl (cI, 16, .inl (upd nw k (nI a)))), (a7, .inl (cI, 8, .inl (upd fr (a / 4) ((fr (a / 4)) - 1))))] H := by
                rw [show (upd nw k (nI a) : Nat → Int32) = upd nw k (nI (a)) from rfl]
                exact hP
              have hP : va_P D vwCl [(fo, .inr (0, [.ref a0, .ref a1, .ref a2, .ref a3, .ref a4, .ref a5, .ref a6, .ref a7, .int (nI (B))])), (a0, .inl (cI, 32, .inl (upd kd a 1))), (a1, .inl (cI, 32, .inl (upd ky a (nI k)))), (a2, .inl (cI, 32, .inl (upd vl a x))), (a3, .inl (cI, 32, .inl (upd mk a mm))), (a4, .inl (cI, 8, .inl wr)), (a5, .inl (cI, 32, .inl (lvW lv nw a k))), (a6, .inl (cI, 16, .inl (upd nw k (nI a)))), (a7, .inl (cI, 8, .inl (upd fr (a / 4) (fr (a / 4) - 1))))] H := by
                rw [show (upd fr (a / 4) (fr (a / 4) - 1) : Nat → Int32) = upd fr (a / 4) ((fr (a / 4)) - 1) from rfl]
                exact hP
              exact gp_retv hX hr hlocks hS hP rfl dX0_write_104
        · skip
          have c17_4 := cn_nlt (a := k) (b := 16) (by omega) (by omega) c17_4
          omega
theorem dX0_tear_0 : decode cX0_tear 0 = .ok (.iload_n 1, 1) := by decide +kernel
theorem dX0_tear_1 : decode cX0_tear 1 = .ok (.ifCond .lt 28, 3) := by decide +kernel
theorem dX0_tear_4 : decode cX0_tear 4 = .ok (.iload_n 1, 1) := by decide +kernel
theorem dX0_tear_5 : decode cX0_tear 5 = .ok (.bipush 32, 2) := by decide +kernel
theorem dX0_tear_7 : decode cX0_tear 7 = .ok (.if_icmp .ge 22, 3) := by decide +kernel
theorem dX0_tear_10 : decode cX0_tear 10 = .ok (.aload_n 0, 1) := by decide +kernel
theorem dX0_tear_11 : decode cX0_tear 11 = .ok (.getfield 11, 3) := by decide +kernel
theorem dX0_tear_14 : decode cX0_tear 14 = .ok (.iload_n 1, 1) := by decide +kernel
theorem dX0_tear_15 : decode cX0_tear 15 = .ok (.iconst 2, 1) := by decide +kernel
theorem dX0_tear_16 : decode cX0_tear 16 = .ok (.iastore, 1) := by decide +kernel
theorem dX0_tear_17 : decode cX0_tear 17 = .ok (.aload_n 0, 1) := by decide +kernel
theorem dX0_tear_18 : decode cX0_tear 18 = .ok (.getfield 33, 3) := by decide +kernel
theorem dX0_tear_21 : decode cX0_tear 21 = .ok (.iload_n 1, 1) := by decide +kernel
theorem dX0_tear_22 : decode cX0_tear 22 = .ok (.iconst 4, 1) := by decide +kernel
theorem dX0_tear_23 : decode cX0_tear 23 = .ok (.idiv, 1) := by decide +kernel
theorem dX0_tear_24 : decode cX0_tear 24 = .ok (.dup2, 1) := by decide +kernel
theorem dX0_tear_25 : decode cX0_tear 25 = .ok (.iaload, 1) := by decide +kernel
theorem dX0_tear_26 : decode cX0_tear 26 = .ok (.iconst 1, 1) := by decide +kernel
theorem dX0_tear_27 : decode cX0_tear 27 = .ok (.isub, 1) := by decide +kernel
theorem dX0_tear_28 : decode cX0_tear 28 = .ok (.iastore, 1) := by decide +kernel
theorem dX0_tear_29 : decode cX0_tear 29 = .ok (.return_, 1) := by decide +kernel
theorem q0_tear : CQ W6 yX0_tear cX0_tear 2 none 1 := ⟨(m6 169 rfl), by decide, by decide, by decide +kernel⟩
set_option maxHeartbeats 4000000 in
set_option maxRecDepth 100000 in
theorem c0_tear (l : Launch) (D : va_G) (cI : ClassId) (fo a0 a1 a2 a3 a4 a5 a6 a7 : Nat) (kd ky vl mk wr lv nw fr : Nat → Int32) (B : Nat) (hB8 : B ≤ 8) (a : Nat) (ha : a < 32) : GQv l yX0_tear cX0_tear 2 W6 0 0 D [(fo, .inr (0, [.ref a0, .ref a1, .ref a2, .ref a3, .ref a4, .ref a5, .ref a6, .ref a7, .int (nI (B))])), (a0, .inl (cI, 32, .inl kd)), (a1, .inl (cI, 32, .inl ky)), (a2, .inl (cI, 32, .inl vl)), (a3, .inl (cI, 32, .inl mk)), (a4, .inl (cI, 8, .inl wr)), (a5, .inl (cI, 32, .inl lv)), (a6, .inl (cI, 16, .inl nw)), (a7, .inl (cI, 8, .inl fr))] [(cI, .int)] [.ref fo, .int (nI (a))] (fun u9 : va_W => u9 = [(fo, .inr (0, [.ref a0, .ref a1, .ref a2, .ref a3, .ref a4, .ref a5, .ref a6, .ref a7, .int (nI (B))])), (a0, .inl (cI, 32, .inl (upd kd a 2))), (a1, .inl (cI, 32, .inl ky)), (a2, .inl (cI, 32, .inl vl)), (a3, .inl (cI, 32, .inl mk)), (a4, .inl (cI, 8, .inl wr)), (a5, .inl (cI, 32, .inl lv)), (a6, .inl (cI, 16, .inl nw)), (a7, .inl (cI, 8, .inl (upd fr (a / 4) (fr (a / 4) - 1))))]) := by
  refine gq_of RX0 (by decide) rfl (Nat.le_of_ble_eq_true rfl) ?_
  intro p e s m below meth c ls H hX hr hlocks hK hN hP hD hS hl
  generalize gp_A [(fo, .inr (0, [.ref a0, .ref a1, .ref a2, .ref a3, .ref a4, .ref a5, .ref a6, .ref a7, .int (nI (B))])), (a0, .inl (cI, 32, .inl kd)), (a1, .inl (cI, 32, .inl ky)), (a2, .inl (cI, 32, .inl vl)), (a3, .inl (cI, 32, .inl mk)), (a4, .inl (cI, 8, .inl wr)), (a5, .inl (cI, 32, .inl lv)), (a6, .inl (cI, 16, .inl nw)), (a7, .inl (cI, 8, .inl fr))] = A at hD hS ⊢
  have hx := hX.1
  have hb := hX.2.1
  have hown := hX.2.2.2.1
  have hts := hX.2.2.2.2
  have hl : lv_has ls 2 [(0, .ref fo), (1, .int (nI (a)))] := hl
  refine lv_iload_n hx hb dX0_tear_0 rfl (lv_at hl 1 rfl) ?_
  refine lv_if_lt (tgt := 29) hx hb dX0_tear_1 (by decide) (fun c1_1 => ?_) (fun c1_1 => ?_)
  · skip
    have c1_1 := cn_lt (a := a) (b := 0) (by omega) (by omega) c1_1
    omega
  · skip
    have c1_1 := cn_nlt (a := a) (b := 0) (by omega) (by omega) c1_1
    refine lv_iload_n hx hb dX0_tear_4 rfl (lv_at hl 1 rfl) ?_
    refine lv_bipush (v := 32) hx hb dX0_tear_5 (by decide) ?_
    refine lv_icmp_ge (tgt := 29) hx hb dX0_tear_7 (by decide) (fun c7_2 => ?_) (fun c7_2 => ?_)
    · skip
      have c7_2 := cn_le (a := 32) (b := a) (by omega) (by omega) c7_2
      omega
    · skip
      have c7_2 := cn_nle (a := 32) (b := a) (by omega) (by omega) c7_2
      refine lv_aload_n hx hb dX0_tear_10 rfl (lv_at hl 0 rfl) ?_
      refine va_get (D := D) (ci := 0) (v := .ref a0) (C := RX0) (T := TX0) (N := 9) hx hb hts u6_X0 hown hK hP 0 rfl rfl 0 (by decide) (hts _ (m6 4 rfl)) (fun _ h9 => h9) rfl dX0_tear_11 ?_
      refine lv_iload_n hx hb dX0_tear_14 rfl (lv_at hl 1 rfl) ?_
      refine lv_iconst (v := 2) hx hb dX0_tear_15 (by decide) ?_
      refine ra_iast (i := a) hx hb hK hP hD hS 1 0 rfl rfl (by omega) (by decide) dX0_tear_16 (fun H locs hP hD hS => ?_)
      have hP : va_P D vwCl [(fo, .inr (0, [.ref a0, .ref a1, .ref a2, .ref a3, .ref a4, .ref a5, .ref a6, .ref a7, .int (nI (B))])), (a0, .inl (cI, 32, .inl (upd kd a 2))), (a1, .inl (cI, 32, .inl ky)), (a2, .inl (cI, 32, .inl vl)), (a3, .inl (cI, 32, .inl mk)), (a4, .inl (cI, 8, .inl wr)), (a5, .inl (cI, 32, .inl lv)), (a6, .inl (cI, 16, .inl nw)), (a7, .inl (cI, 8, .inl fr))] H := hP
      have hD : va_D A [(fo, .inr (0, [.ref a0, .ref a1, .ref a2, .ref a3, .ref a4, .ref a5, .ref a6, .ref a7, .int (nI (B))])), (a0, .inl (cI, 32, .inl (upd kd a 2))), (a1, .inl (cI, 32, .inl ky)), (a2, .inl (cI, 32, .inl vl)), (a3, .inl (cI, 32, .inl mk)), (a4, .inl (cI, 8, .inl wr)), (a5, .inl (cI, 32, .inl lv)), (a6, .inl (cI, 16, .inl nw)), (a7, .inl (cI, 8, .inl fr))] := hD
      refine lv_aload_n hx hb dX0_tear_17 rfl (lv_at hl 0 rfl) ?_
      refine va_get (D := D) (ci := 0) (v := .ref a7) (C := RX0) (T := TX0) (N := 9) hx hb hts u6_X0 hown hK hP 0 rfl rfl 7 (by decide) (hts _ (m6 11 rfl)) (fun _ h9 => h9) rfl dX0_tear_18 ?_
      refine lv_iload_n hx hb dX0_tear_21 rfl (lv_at hl 1 rfl) ?_
      refine lv_iconst (v := 4) hx hb dX0_tear_22 (by decide) ?_
      refine lv_idiv hx hb dX0_tear_23 (by decide) ?_
      refine lv_as (y := nI (a / 4)) (pk_div (a := a) (d := 4) (by omega) (by decide) (by decide)) ?_
      refine lv_dup2_11 hx hb dX0_tear_24 rfl rfl ?_
      refine ra_iald (i := a / 4) hx hb hK hP 8 0 rfl rfl (by omega) (by decide) dX0_tear_25 ?_
      refine lv_iconst (v := 1) hx hb dX0_tear_26 (by decide) ?_
      refine lv_isub hx hb dX0_tear_27 ?_
      refine ra_iast (i := a / 4) hx hb hK hP hD hS 8 0 rfl rfl (by omega) (by decide) dX0_tear_28 (fun H locs hP hD hS => ?_)
      have hP : va_P D vwCl [(fo, .inr (0, [.ref a0, .ref a1, .ref a2, .ref a3, .ref a4, .ref a5, .ref a6, .ref a7, .int (nI (B))])), (a0, .inl (cI, 32, .inl (upd kd a 2))), (a1, .inl (cI, 32, .inl ky)), (a2, .inl (cI, 32, .inl vl)), (a3, .inl (cI, 32, .inl mk)), (a4, .inl (cI, 8, .inl wr)), (a5, .inl (cI, 32, .inl lv)), (a6, .inl (cI, 16, .inl nw)), (a7, .inl (cI, 8, .inl (upd fr (a / 4) ((fr (a / 4)) - 1))))] H := hP
      have hD : va_D A [(fo, .inr (0, [.ref a0, .ref a1, .ref a2, .ref a3, .ref a4, .ref a5, .ref a6, .ref a7, .int (nI (B))])), (a0, .inl (cI, 32, .inl (upd kd a 2))), (a1, .inl (cI, 32, .inl ky)), (a2, .inl (cI, 32, .inl vl)), (a3, .inl (cI, 32, .inl mk)), (a4, .inl (cI, 8, .inl wr)), (a5, .inl (cI, 32, .inl lv)), (a6, .inl (cI, 16, .inl nw)), (a7, .inl (cI, 8, .inl (upd fr (a / 4) ((fr (a / 4)) - 1))))] := hD
      have hP : va_P D vwCl [(fo, .inr (0, [.ref a0, .ref a1, .ref a2, .ref a3, .ref a4, .ref a5, .ref a6, .ref a7, .int (nI (B))])), (a0, .inl (cI, 32, .inl (upd kd a 2))), (a1, .inl (cI, 32, .inl ky)), (a2, .inl (cI, 32, .inl vl)), (a3, .inl (cI, 32, .inl mk)), (a4, .inl (cI, 8, .inl wr)), (a5, .inl (cI, 32, .inl lv)), (a6, .inl (cI, 16, .inl nw)), (a7, .inl (cI, 8, .inl (upd fr (a / 4) (fr (a / 4) - 1))))] H := by
        rw [show (upd fr (a / 4) (fr (a / 4) - 1) : Nat → Int32) = upd fr (a / 4) ((fr (a / 4)) - 1) from rfl]
        exact hP
      exact gp_retv hX hr hlocks hS hP rfl dX0_tear_29
theorem dX0_wipe_0 : decode cX0_wipe 0 = .ok (.iload_n 1, 1) := by decide +kernel
theorem dX0_wipe_1 : decode cX0_wipe 1 = .ok (.ifCond .lt 9, 3) := by decide +kernel
theorem dX0_wipe_4 : decode cX0_wipe 4 = .ok (.iload_n 1, 1) := by decide +kernel
theorem dX0_wipe_5 : decode cX0_wipe 5 = .ok (.bipush 8, 2) := by decide +kernel
theorem dX0_wipe_7 : decode cX0_wipe 7 = .ok (.if_icmp .lt 4, 3) := by decide +kernel
theorem dX0_wipe_11 : decode cX0_wipe 11 = .ok (.aload_n 0, 1) := by decide +kernel
theorem dX0_wipe_12 : decode cX0_wipe 12 = .ok (.getfield 24, 3) := by decide +kernel
theorem dX0_wipe_15 : decode cX0_wipe 15 = .ok (.iload_n 1, 1) := by decide +kernel
theorem dX0_wipe_16 : decode cX0_wipe 16 = .ok (.dup2, 1) := by decide +kernel
theorem dX0_wipe_17 : decode cX0_wipe 17 = .ok (.iaload, 1) := by decide +kernel
theorem dX0_wipe_18 : decode cX0_wipe 18 = .ok (.iconst 1, 1) := by decide +kernel
theorem dX0_wipe_19 : decode cX0_wipe 19 = .ok (.iadd, 1) := by decide +kernel
theorem dX0_wipe_20 : decode cX0_wipe 20 = .ok (.iastore, 1) := by decide +kernel
theorem dX0_wipe_21 : decode cX0_wipe 21 = .ok (.aload_n 0, 1) := by decide +kernel
theorem dX0_wipe_22 : decode cX0_wipe 22 = .ok (.getfield 33, 3) := by decide +kernel
theorem dX0_wipe_25 : decode cX0_wipe 25 = .ok (.iload_n 1, 1) := by decide +kernel
theorem dX0_wipe_26 : decode cX0_wipe 26 = .ok (.iload_n 2, 1) := by decide +kernel
theorem dX0_wipe_27 : decode cX0_wipe 27 = .ok (.ifCond .ne 7, 3) := by decide +kernel
theorem dX0_wipe_30 : decode cX0_wipe 30 = .ok (.iconst 4, 1) := by decide +kernel
theorem dX0_wipe_31 : decode cX0_wipe 31 = .ok (.goto 4, 3) := by decide +kernel
theorem dX0_wipe_34 : decode cX0_wipe 34 = .ok (.iconst 0, 1) := by decide +kernel
theorem dX0_wipe_35 : decode cX0_wipe 35 = .ok (.iastore, 1) := by decide +kernel
theorem dX0_wipe_36 : decode cX0_wipe 36 = .ok (.iconst 0, 1) := by decide +kernel
theorem dX0_wipe_37 : decode cX0_wipe 37 = .ok (.istore_n 3, 1) := by decide +kernel
theorem dX0_wipe_38 : decode cX0_wipe 38 = .ok (.iload_n 3, 1) := by decide +kernel
theorem dX0_wipe_39 : decode cX0_wipe 39 = .ok (.iconst 4, 1) := by decide +kernel
theorem dX0_wipe_40 : decode cX0_wipe 40 = .ok (.if_icmp .ge 20, 3) := by decide +kernel
theorem dX0_wipe_43 : decode cX0_wipe 43 = .ok (.aload_n 0, 1) := by decide +kernel
theorem dX0_wipe_44 : decode cX0_wipe 44 = .ok (.getfield 11, 3) := by decide +kernel
theorem dX0_wipe_47 : decode cX0_wipe 47 = .ok (.iconst 4, 1) := by decide +kernel
theorem dX0_wipe_48 : decode cX0_wipe 48 = .ok (.iload_n 1, 1) := by decide +kernel
theorem dX0_wipe_49 : decode cX0_wipe 49 = .ok (.imul, 1) := by decide +kernel
theorem dX0_wipe_50 : decode cX0_wipe 50 = .ok (.iload_n 3, 1) := by decide +kernel
theorem dX0_wipe_51 : decode cX0_wipe 51 = .ok (.iadd, 1) := by decide +kernel
theorem dX0_wipe_52 : decode cX0_wipe 52 = .ok (.iload_n 2, 1) := by decide +kernel
theorem dX0_wipe_53 : decode cX0_wipe 53 = .ok (.iastore, 1) := by decide +kernel
theorem dX0_wipe_54 : decode cX0_wipe 54 = .ok (.iinc 3 1, 3) := by decide +kernel
theorem dX0_wipe_57 : decode cX0_wipe 57 = .ok (.goto (-19), 3) := by decide +kernel
theorem dX0_wipe_60 : decode cX0_wipe 60 = .ok (.aload_n 0, 1) := by decide +kernel
theorem dX0_wipe_61 : decode cX0_wipe 61 = .ok (.invokevirtual 49, 3) := by decide +kernel
theorem dX0_wipe_64 : decode cX0_wipe 64 = .ok (.return_, 1) := by decide +kernel
theorem q0_wipe : CQ W6 yX0_wipe cX0_wipe 4 none 2 := ⟨(m6 198 rfl), by decide, by decide, by decide +kernel⟩
set_option maxHeartbeats 4000000 in
set_option maxRecDepth 100000 in
theorem c0_wipe (l : Launch) (D : va_G) (cI : ClassId) (fo a0 a1 a2 a3 a4 a5 a6 a7 : Nat) (kd ky vl mk wr lv nw fr : Nat → Int32) (B : Nat) (hB8 : B ≤ 8) (b : Nat) (hb8 : b < 8) (x : Int32) : GQv l yX0_wipe cX0_wipe 4 W6 1 23 D [(fo, .inr (0, [.ref a0, .ref a1, .ref a2, .ref a3, .ref a4, .ref a5, .ref a6, .ref a7, .int (nI (B))])), (a0, .inl (cI, 32, .inl kd)), (a1, .inl (cI, 32, .inl ky)), (a2, .inl (cI, 32, .inl vl)), (a3, .inl (cI, 32, .inl mk)), (a4, .inl (cI, 8, .inl wr)), (a5, .inl (cI, 32, .inl lv)), (a6, .inl (cI, 16, .inl nw)), (a7, .inl (cI, 8, .inl fr))] [(cI, .int)] [.ref fo, .int (nI (b)), .int (x)] (fun u9 : va_W => u9 = [(fo, .inr (0, [.ref a0, .ref a1, .ref a2, .ref a3, .ref a4, .ref a5, .ref a6, .ref a7, .int (nI (B))])), (a0, .inl (cI, 32, .inl (k4 kd b x 4))), (a1, .inl (cI, 32, .inl ky)), (a2, .inl (cI, 32, .inl vl)), (a3, .inl (cI, 32, .inl mk)), (a4, .inl (cI, 8, .inl (upd wr b (wr b + 1)))), (a5, .inl (cI, 32, .inl (lvR (k4 kd b x 4) ky vl mk))), (a6, .inl (cI, 16, .inl (nwR (k4 kd b x 4) ky mk))), (a7, .inl (cI, 8, .inl (upd fr b (if x = 0 then 4 else 0))))]) := by
  refine gq_of RX0 (by decide) rfl (Nat.le_of_ble_eq_true rfl) ?_
  intro p e s m below meth c ls H hX hr hlocks hK hN hP hD hS hl
  generalize gp_A [(fo, .inr (0, [.ref a0, .ref a1, .ref a2, .ref a3, .ref a4, .ref a5, .ref a6, .ref a7, .int (nI (B))])), (a0, .inl (cI, 32, .inl kd)), (a1, .inl (cI, 32, .inl ky)), (a2, .inl (cI, 32, .inl vl)), (a3, .inl (cI, 32, .inl mk)), (a4, .inl (cI, 8, .inl wr)), (a5, .inl (cI, 32, .inl lv)), (a6, .inl (cI, 16, .inl nw)), (a7, .inl (cI, 8, .inl fr))] = A at hD hS ⊢
  have hx := hX.1
  have hb := hX.2.1
  have hown := hX.2.2.2.1
  have hts := hX.2.2.2.2
  have hl : lv_has ls 4 [(0, .ref fo), (1, .int (nI (b))), (2, .int (x))] := hl
  refine lv_iload_n hx hb dX0_wipe_0 rfl (lv_at hl 1 rfl) ?_
  refine lv_if_lt (tgt := 10) hx hb dX0_wipe_1 (by decide) (fun c1_1 => ?_) (fun c1_1 => ?_)
  · skip
    have c1_1 := cn_lt (a := b) (b := 0) (by omega) (by omega) c1_1
    omega
  · skip
    have c1_1 := cn_nlt (a := b) (b := 0) (by omega) (by omega) c1_1
    refine lv_iload_n hx hb dX0_wipe_4 rfl (lv_at hl 1 rfl) ?_
    refine lv_bipush (v := 8) hx hb dX0_wipe_5 (by decide) ?_
    refine lv_icmp_lt (tgt := 11) hx hb dX0_wipe_7 (by decide) (fun c7_2 => ?_) (fun c7_2 => ?_)
    · skip
      have c7_2 := cn_lt (a := b) (b := 8) (by omega) (by omega) c7_2
      refine lv_aload_n hx hb dX0_wipe_11 rfl (lv_at hl 0 rfl) ?_
      refine va_get (D := D) (ci := 0) (v := .ref a4) (C := RX0) (T := TX0) (N := 9) hx hb hts u6_X0 hown hK hP 0 rfl rfl 4 (by decide) (hts _ (m6 8 rfl)) (fun _ h9 => h9) rfl dX0_wipe_12 ?_
      refine lv_iload_n hx hb dX0_wipe_15 rfl (lv_at hl 1 rfl) ?_
      refine lv_dup2_11 hx hb dX0_wipe_16 rfl rfl ?_
      refine ra_iald (i := b) hx hb hK hP 5 0 rfl rfl (by omega) (by decide) dX0_wipe_17 ?_
      refine lv_iconst (v := 1) hx hb dX0_wipe_18 (by decide) ?_
      refine lv_iadd hx hb dX0_wipe_19 ?_
      refine ra_iast (i := b) hx hb hK hP hD hS 5 0 rfl rfl (by omega) (by decide) dX0_wipe_20 (fun H locs hP hD hS => ?_)
      have hP : va_P D vwCl [(fo, .inr (0, [.ref a0, .ref a1, .ref a2, .ref a3, .ref a4, .ref a5, .ref a6, .ref a7, .int (nI (B))])), (a0, .inl (cI, 32, .inl kd)), (a1, .inl (cI, 32, .inl ky)), (a2, .inl (cI, 32, .inl vl)), (a3, .inl (cI, 32, .inl mk)), (a4, .inl (cI, 8, .inl (upd wr b ((wr (b)) + 1)))), (a5, .inl (cI, 32, .inl lv)), (a6, .inl (cI, 16, .inl nw)), (a7, .inl (cI, 8, .inl fr))] H := hP
      have hD : va_D A [(fo, .inr (0, [.ref a0, .ref a1, .ref a2, .ref a3, .ref a4, .ref a5, .ref a6, .ref a7, .int (nI (B))])), (a0, .inl (cI, 32, .inl kd)), (a1, .inl (cI, 32, .inl ky)), (a2, .inl (cI, 32, .inl vl)), (a3, .inl (cI, 32, .inl mk)), (a4, .inl (cI, 8, .inl (upd wr b ((wr (b)) + 1)))), (a5, .inl (cI, 32, .inl lv)), (a6, .inl (cI, 16, .inl nw)), (a7, .inl (cI, 8, .inl fr))] := hD
      refine lv_aload_n hx hb dX0_wipe_21 rfl (lv_at hl 0 rfl) ?_
      refine va_get (D := D) (ci := 0) (v := .ref a7) (C := RX0) (T := TX0) (N := 9) hx hb hts u6_X0 hown hK hP 0 rfl rfl 7 (by decide) (hts _ (m6 11 rfl)) (fun _ h9 => h9) rfl dX0_wipe_22 ?_
      refine lv_iload_n hx hb dX0_wipe_25 rfl (lv_at hl 1 rfl) ?_
      refine lv_iload_n hx hb dX0_wipe_26 rfl (lv_at hl 2 rfl) ?_
      refine lv_if_ne (tgt := 34) hx hb dX0_wipe_27 (by decide) (fun c27_3 => ?_) (fun c27_3 => ?_)
      · skip
        refine lv_iconst (v := 0) hx hb dX0_wipe_34 (by decide) ?_
        refine ra_iast (i := b) hx hb hK hP hD hS 8 0 rfl rfl (by omega) (by decide) dX0_wipe_35 (fun H locs hP hD hS => ?_)
        have hP : va_P D vwCl [(fo, .inr (0, [.ref a0, .ref a1, .ref a2, .ref a3, .ref a4, .ref a5, .ref a6, .ref a7, .int (nI (B))])), (a0, .inl (cI, 32, .inl kd)), (a1, .inl (cI, 32, .inl ky)), (a2, .inl (cI, 32, .inl vl)), (a3, .inl (cI, 32, .inl mk)), (a4, .inl (cI, 8, .inl (upd wr b ((wr (b)) + 1)))), (a5, .inl (cI, 32, .inl lv)), (a6, .inl (cI, 16, .inl nw)), (a7, .inl (cI, 8, .inl (upd fr b 0)))] H := hP
        have hD : va_D A [(fo, .inr (0, [.ref a0, .ref a1, .ref a2, .ref a3, .ref a4, .ref a5, .ref a6, .ref a7, .int (nI (B))])), (a0, .inl (cI, 32, .inl kd)), (a1, .inl (cI, 32, .inl ky)), (a2, .inl (cI, 32, .inl vl)), (a3, .inl (cI, 32, .inl mk)), (a4, .inl (cI, 8, .inl (upd wr b ((wr (b)) + 1)))), (a5, .inl (cI, 32, .inl lv)), (a6, .inl (cI, 16, .inl nw)), (a7, .inl (cI, 8, .inl (upd fr b 0)))] := hD
        have hP : va_P D vwCl [(fo, .inr (0, [.ref a0, .ref a1, .ref a2, .ref a3, .ref a4, .ref a5, .ref a6, .ref a7, .int (nI (B))])), (a0, .inl (cI, 32, .inl kd)), (a1, .inl (cI, 32, .inl ky)), (a2, .inl (cI, 32, .inl vl)), (a3, .inl (cI, 32, .inl mk)), (a4, .inl (cI, 8, .inl (upd wr b ((wr (b)) + 1)))), (a5, .inl (cI, 32, .inl lv)), (a6, .inl (cI, 16, .inl nw)), (a7, .inl (cI, 8, .inl (upd fr b (if x = 0 then 4 else 0))))] H := by
          rw [show (upd fr b (if x = 0 then 4 else 0) : Nat → Int32) = upd fr b 0 from by rw [if_neg c27_3]]
          exact hP
        have hD : va_D A [(fo, .inr (0, [.ref a0, .ref a1, .ref a2, .ref a3, .ref a4, .ref a5, .ref a6, .ref a7, .int (nI (B))])), (a0, .inl (cI, 32, .inl kd)), (a1, .inl (cI, 32, .inl ky)), (a2, .inl (cI, 32, .inl vl)), (a3, .inl (cI, 32, .inl mk)), (a4, .inl (cI, 8, .inl (upd wr b ((wr (b)) + 1)))), (a5, .inl (cI, 32, .inl lv)), (a6, .inl (cI, 16, .inl nw)), (a7, .inl (cI, 8, .inl (upd fr b (if x = 0 then 4 else 0))))] := by
          rw [show (upd fr b (if x = 0 then 4 else 0) : Nat → Int32) = upd fr b 0 from by rw [if_neg c27_3]]
          exact hD
        refine lv_iconst (v := 0) hx hb dX0_wipe_36 (by decide) ?_
        refine lv_istore_n (lv' := [(3, .int (0)), (0, .ref fo), (1, .int (nI (b))), (2, .int (x))]) hx hb dX0_wipe_37 rfl hl (by decide) rfl (fun ls hl => ?_)
        have LP38 : ∀ n9 : Nat, ∀ (j : Nat), (hj : j ≤ 4) → 4 - j < n9 → ∀ (H : Heap) (locs : List Loc), va_P D vwCl [(fo, .inr (0, [.ref a0, .ref a1, .ref a2, .ref a3, .ref a4, .ref a5, .ref a6, .ref a7, .int (nI (B))])), (a0, .inl (cI, 32, .inl (k4 kd b x j))), (a1, .inl (cI, 32, .inl ky)), (a2, .inl (cI, 32, .inl vl)), (a3, .inl (cI, 32, .inl mk)), (a4, .inl (cI, 8, .inl (upd wr b (wr b + 1)))), (a5, .inl (cI, 32, .inl lv)), (a6, .inl (cI, 16, .inl nw)), (a7, .inl (cI, 8, .inl (upd fr b (if x = 0 then 4 else 0))))] H → va_D A [(fo, .inr (0, [.ref a0, .ref a1, .ref a2, .ref a3, .ref a4, .ref a5, .ref a6, .ref a7, .int (nI (B))])), (a0, .inl (cI, 32, .inl (k4 kd b x j))), (a1, .inl (cI, 32, .inl ky)), (a2, .inl (cI, 32, .inl vl)), (a3, .inl (cI, 32, .inl mk)), (a4, .inl (cI, 8, .inl (upd wr b (wr b + 1)))), (a5, .inl (cI, 32, .inl lv)), (a6, .inl (cI, 16, .inl nw)), (a7, .inl (cI, 8, .inl (upd fr b (if x = 0 then 4 else 0))))] → va_S A s.heap H locs → ∀ ls : Array Slot, lv_has ls 4 [(0, .ref fo), (1, .int (nI (b))), (2, .int (x)), (3, .int (nI (j)))] → W p l e ({ frames := 1, cells := 0, slots := 0, locals := 23 } : Room) s m ([.ref fo, .int (nI (b)), .int (x)] : List Value).toArray below meth c H locs 0 0 (MQ below (va_Qv (fun u9 : va_W => u9 = [(fo, .inr (0, [.ref a0, .ref a1, .ref a2, .ref a3, .ref a4, .ref a5, .ref a6, .ref a7, .int (nI (B))])), (a0, .inl (cI, 32, .inl (k4 kd b x 4))), (a1, .inl (cI, 32, .inl ky)), (a2, .inl (cI, 32, .inl vl)), (a3, .inl (cI, 32, .inl mk)), (a4, .inl (cI, 8, .inl (upd wr b (wr b + 1)))), (a5, .inl (cI, 32, .inl (lvR (k4 kd b x 4) ky vl mk))), (a6, .inl (cI, 16, .inl (nwR (k4 kd b x 4) ky mk))), (a7, .inl (cI, 8, .inl (upd fr b (if x = 0 then 4 else 0))))]) (fun u t => va_P D vwCl u t.heap) A) ([.ref fo, .int (nI (b)), .int (x)] : List Value).toArray s 0 0 A) (F0 m 38 ls []) := by
          intro n9
          induction n9 with
          | zero => intros; omega
          | succ n9 ih38 =>
            intro j hj hm9 H locs hP hD hS ls hl
            refine lv_iload_n hx hb dX0_wipe_38 rfl (lv_at hl 3 rfl) ?_
            refine lv_iconst (v := 4) hx hb dX0_wipe_39 (by decide) ?_
            refine lv_icmp_ge (tgt := 60) hx hb dX0_wipe_40 (by decide) (fun c40_4 => ?_) (fun c40_4 => ?_)
            · skip
              have c40_4 := cn_le (a := 4) (b := j) (by omega) (by omega) c40_4
              have hP : va_P D vwCl [(fo, .inr (0, [.ref a0, .ref a1, .ref a2, .ref a3, .ref a4, .ref a5, .ref a6, .ref a7, .int (nI (B))])), (a0, .inl (cI, 32, .inl (k4 kd b x 4))), (a1, .inl (cI, 32, .inl ky)), (a2, .inl (cI, 32, .inl vl)), (a3, .inl (cI, 32, .inl mk)), (a4, .inl (cI, 8, .inl (upd wr b (wr b + 1)))), (a5, .inl (cI, 32, .inl lv)), (a6, .inl (cI, 16, .inl nw)), (a7, .inl (cI, 8, .inl (upd fr b (if x = 0 then 4 else 0))))] H := by
                rw [show (k4 kd b x 4 : Nat → Int32) = k4 kd b x j from by rw [show j = 4 by omega]]
                exact hP
              have hD : va_D A [(fo, .inr (0, [.ref a0, .ref a1, .ref a2, .ref a3, .ref a4, .ref a5, .ref a6, .ref a7, .int (nI (B))])), (a0, .inl (cI, 32, .inl (k4 kd b x 4))), (a1, .inl (cI, 32, .inl ky)), (a2, .inl (cI, 32, .inl vl)), (a3, .inl (cI, 32, .inl mk)), (a4, .inl (cI, 8, .inl (upd wr b (wr b + 1)))), (a5, .inl (cI, 32, .inl lv)), (a6, .inl (cI, 16, .inl nw)), (a7, .inl (cI, 8, .inl (upd fr b (if x = 0 then 4 else 0))))] := by
                rw [show (k4 kd b x 4 : Nat → Int32) = k4 kd b x j from by rw [show j = 4 by omega]]
                exact hD
              refine lv_aload_n hx hb dX0_wipe_60 rfl (lv_at hl 0 rfl) ?_
              refine gp_backv (gq_runV hX good6 (m6 23 rfl) (c0_findRecords l D cI fo a0 a1 a2 a3 a4 a5 a6 a7 (k4 kd b x 4) ky vl mk (upd wr b (wr b + 1)) lv nw (upd fr b (if x = 0 then 4 else 0)) B hB8) q0_findRecords rfl (m6 20 rfl) (m6 21 rfl) (m6 22 rfl) ⟨Nat.le_of_ble_eq_true rfl, Nat.le_of_ble_eq_true rfl⟩ hK hN [0] rfl hP hD [0, 1, 2, 3, 4, 5, 6, 7, 8] (by decide) rfl (ci := 0) (q0 := 0) rfl rfl rfl hl.1 rfl (Nat.le_of_ble_eq_true rfl) dX0_wipe_61 ⟨Nat.zero_le _, Nat.zero_le _⟩) hP hD hS [0, 1, 2, 3, 4, 5, 6, 7, 8] rfl (fun u h => by rw [h]; simp only [List.map_cons, List.map_nil]) (fun u H locs hpost hP hD hS => ?_)
              subst hpost
              have hP : va_P D vwCl [(fo, .inr (0, [.ref a0, .ref a1, .ref a2, .ref a3, .ref a4, .ref a5, .ref a6, .ref a7, .int (nI (B))])), (a0, .inl (cI, 32, .inl (k4 kd b x 4))), (a1, .inl (cI, 32, .inl ky)), (a2, .inl (cI, 32, .inl vl)), (a3, .inl (cI, 32, .inl mk)), (a4, .inl (cI, 8, .inl (upd wr b (wr b + 1)))), (a5, .inl (cI, 32, .inl (lvR (k4 kd b x 4) ky vl mk))), (a6, .inl (cI, 16, .inl (nwR (k4 kd b x 4) ky mk))), (a7, .inl (cI, 8, .inl (upd fr b (if x = 0 then 4 else 0))))] H := hP
              have hD : va_D A [(fo, .inr (0, [.ref a0, .ref a1, .ref a2, .ref a3, .ref a4, .ref a5, .ref a6, .ref a7, .int (nI (B))])), (a0, .inl (cI, 32, .inl (k4 kd b x 4))), (a1, .inl (cI, 32, .inl ky)), (a2, .inl (cI, 32, .inl vl)), (a3, .inl (cI, 32, .inl mk)), (a4, .inl (cI, 8, .inl (upd wr b (wr b + 1)))), (a5, .inl (cI, 32, .inl (lvR (k4 kd b x 4) ky vl mk))), (a6, .inl (cI, 16, .inl (nwR (k4 kd b x 4) ky mk))), (a7, .inl (cI, 8, .inl (upd fr b (if x = 0 then 4 else 0))))] := hD
              exact gp_retv hX hr hlocks hS hP rfl dX0_wipe_64
            · skip
              have c40_4 := cn_nle (a := 4) (b := j) (by omega) (by omega) c40_4
              refine lv_aload_n hx hb dX0_wipe_43 rfl (lv_at hl 0 rfl) ?_
              refine va_get (D := D) (ci := 0) (v := .ref a0) (C := RX0) (T := TX0) (N := 9) hx hb hts u6_X0 hown hK hP 0 rfl rfl 0 (by decide) (hts _ (m6 4 rfl)) (fun _ h9 => h9) rfl dX0_wipe_44 ?_
              refine lv_iconst (v := 4) hx hb dX0_wipe_47 (by decide) ?_
              refine lv_iload_n hx hb dX0_wipe_48 rfl (lv_at hl 1 rfl) ?_
              refine lv_imul hx hb dX0_wipe_49 ?_
              refine lv_as (y := nI (4 * b)) (pk_mul (4) (b)) ?_
              refine lv_iload_n hx hb dX0_wipe_50 rfl (lv_at hl 3 rfl) ?_
              refine lv_iadd hx hb dX0_wipe_51 ?_
              refine lv_as (y := nI (4 * b + j)) (nI_add (4 * b) (j)) ?_
              refine lv_iload_n hx hb dX0_wipe_52 rfl (lv_at hl 2 rfl) ?_
              refine ra_iast (i := 4 * b + j) hx hb hK hP hD hS 1 0 rfl rfl (by omega) (by decide) dX0_wipe_53 (fun H locs hP hD hS => ?_)
              have hP : va_P D vwCl [(fo, .inr (0, [.ref a0, .ref a1, .ref a2, .ref a3, .ref a4, .ref a5, .ref a6, .ref a7, .int (nI (B))])), (a0, .inl (cI, 32, .inl (upd (k4 kd b x j) (4 * b + j) x))), (a1, .inl (cI, 32, .inl ky)), (a2, .inl (cI, 32, .inl vl)), (a3, .inl (cI, 32, .inl mk)), (a4, .inl (cI, 8, .inl (upd wr b (wr b + 1)))), (a5, .inl (cI, 32, .inl lv)), (a6, .inl (cI, 16, .inl nw)), (a7, .inl (cI, 8, .inl (upd fr b (if x = 0 then 4 else 0))))] H := hP
              have hD : va_D A [(fo, .inr (0, [.ref a0, .ref a1, .ref a2, .ref a3, .ref a4, .ref a5, .ref a6, .ref a7, .int (nI (B))])), (a0, .inl (cI, 32, .inl (upd (k4 kd b x j) (4 * b + j) x))), (a1, .inl (cI, 32, .inl ky)), (a2, .inl (cI, 32, .inl vl)), (a3, .inl (cI, 32, .inl mk)), (a4, .inl (cI, 8, .inl (upd wr b (wr b + 1)))), (a5, .inl (cI, 32, .inl lv)), (a6, .inl (cI, 16, .inl nw)), (a7, .inl (cI, 8, .inl (upd fr b (if x = 0 then 4 else 0))))] := hD
              refine lv_iinc (v := nI (j + 1)) (lv' := [(3, .int (nI (j + 1))), (0, .ref fo), (1, .int (nI (b))), (2, .int (x))]) hx hb dX0_wipe_54 hl (k := 3) rfl (nI_add _ 1) (by decide) rfl (fun ls hl => ?_)
              refine lv_goto (tgt := 38) hx hb dX0_wipe_57 (by decide) ?_
              have hl : lv_has ls 4 [(3, .int (nI ((j + 1)))), (0, .ref fo), (1, .int (nI (b))), (2, .int (x))] := lv_re hl 0 rfl (show nI (j + 1) = nI ((j + 1)) from rfl)
              have hP : va_P D vwCl [(fo, .inr (0, [.ref a0, .ref a1, .ref a2, .ref a3, .ref a4, .ref a5, .ref a6, .ref a7, .int (nI (B))])), (a0, .inl (cI, 32, .inl (k4 kd b x (j + 1)))), (a1, .inl (cI, 32, .inl ky)), (a2, .inl (cI, 32, .inl vl)), (a3, .inl (cI, 32, .inl mk)), (a4, .inl (cI, 8, .inl (upd wr b (wr b + 1)))), (a5, .inl (cI, 32, .inl lv)), (a6, .inl (cI, 16, .inl nw)), (a7, .inl (cI, 8, .inl (upd fr b (if x = 0 then 4 else 0))))] H := by
                rw [show (k4 kd b x (j + 1) : Nat → Int32) = upd (k4 kd b x j) (4 * b + j) x from rfl]
                exact hP
              have hD : va_D A [(fo, .inr (0, [.ref a0, .ref a1, .ref a2, .ref a3, .ref a4, .ref a5, .ref a6, .ref a7, .int (nI (B))])), (a0, .inl (cI, 32, .inl (k4 kd b x (j + 1)))), (a1, .inl (cI, 32, .inl ky)), (a2, .inl (cI, 32, .inl vl)), (a3, .inl (cI, 32, .inl mk)), (a4, .inl (cI, 8, .inl (upd wr b (wr b + 1)))), (a5, .inl (cI, 32, .inl lv)), (a6, .inl (cI, 16, .inl nw)), (a7, .inl (cI, 8, .inl (upd fr b (if x = 0 then 4 else 0))))] := by
                rw [show (k4 kd b x (j + 1) : Nat → Int32) = upd (k4 kd b x j) (4 * b + j) x from rfl]
                exact hD
              have hP : va_P D vwCl [(fo, .inr (0, [.ref a0, .ref a1, .ref a2, .ref a3, .ref a4, .ref a5, .ref a6, .ref a7, .int (nI (B))])), (a0, .inl (cI, 32, .inl (k4 kd b x (j + 1)))), (a1, .inl (cI, 32, .inl ky)), (a2, .inl (cI, 32, .inl vl)), (a3, .inl (cI, 32, .inl mk)), (a4, .inl (cI, 8, .inl (upd wr b (wr b + 1)))), (a5, .inl (cI, 32, .inl lv)), (a6, .inl (cI, 16, .inl nw)), (a7, .inl (cI, 8, .inl (upd fr b (if x = 0 then 4 else 0))))] H := hP
              have hD : va_D A [(fo, .inr (0, [.ref a0, .ref a1, .ref a2, .ref a3, .ref a4, .ref a5, .ref a6, .ref a7, .int (nI (B))])), (a0, .inl (cI, 32, .inl (k4 kd b x (j + 1)))), (a1, .inl (cI, 32, .inl ky)), (a2, .inl (cI, 32, .inl vl)), (a3, .inl (cI, 32, .inl mk)), (a4, .inl (cI, 8, .inl (upd wr b (wr b + 1)))), (a5, .inl (cI, 32, .inl lv)), (a6, .inl (cI, 16, .inl nw)), (a7, .inl (cI, 8, .inl (upd fr b (if x = 0 then 4 else 0))))] := hD
              exact ih38 (j + 1) (by omega) (by omega) _ _ hP hD hS _ (lv_sub hl [1, 2, 3, 0] rfl)
        have hl : lv_has ls 4 [(3, .int (nI (0))), (0, .ref fo), (1, .int (nI (b))), (2, .int (x))] := lv_re hl 0 rfl (show 0 = nI (0) from rfl)
        have hP : va_P D vwCl [(fo, .inr (0, [.ref a0, .ref a1, .ref a2, .ref a3, .ref a4, .ref a5, .ref a6, .ref a7, .int (nI (B))])), (a0, .inl (cI, 32, .inl (k4 kd b x 0))), (a1, .inl (cI, 32, .inl ky)), (a2, .inl (cI, 32, .inl vl)), (a3, .inl (cI, 32, .inl mk)), (a4, .inl (cI, 8, .inl (upd wr b ((wr (b)) + 1)))), (a5, .inl (cI, 32, .inl lv)), (a6, .inl (cI, 16, .inl nw)), (a7, .inl (cI, 8, .inl (upd fr b (if x = 0 then 4 else 0))))] H := by
          rw [show (k4 kd b x 0 : Nat → Int32) = kd from rfl]
          exact hP
        have hD : va_D A [(fo, .inr (0, [.ref a0, .ref a1, .ref a2, .ref a3, .ref a4, .ref a5, .ref a6, .ref a7, .int (nI (B))])), (a0, .inl (cI, 32, .inl (k4 kd b x 0))), (a1, .inl (cI, 32, .inl ky)), (a2, .inl (cI, 32, .inl vl)), (a3, .inl (cI, 32, .inl mk)), (a4, .inl (cI, 8, .inl (upd wr b ((wr (b)) + 1)))), (a5, .inl (cI, 32, .inl lv)), (a6, .inl (cI, 16, .inl nw)), (a7, .inl (cI, 8, .inl (upd fr b (if x = 0 then 4 else 0))))] := by
          rw [show (k4 kd b x 0 : Nat → Int32) = kd from rfl]
          exact hD
        have hP : va_P D vwCl [(fo, .inr (0, [.ref a0, .ref a1, .ref a2, .ref a3, .ref a4, .ref a5, .ref a6, .ref a7, .int (nI (B))])), (a0, .inl (cI, 32, .inl (k4 kd b x 0))), (a1, .inl (cI, 32, .inl ky)), (a2, .inl (cI, 32, .inl vl)), (a3, .inl (cI, 32, .inl mk)), (a4, .inl (cI, 8, .inl (upd wr b (wr b + 1)))), (a5, .inl (cI, 32, .inl lv)), (a6, .inl (cI, 16, .inl nw)), (a7, .inl (cI, 8, .inl (upd fr b (if x = 0 then 4 else 0))))] H := by
          rw [show (upd wr b (wr b + 1) : Nat → Int32) = upd wr b ((wr (b)) + 1) from rfl]
          exact hP
        have hD : va_D A [(fo, .inr (0, [.ref a0, .ref a1, .ref a2, .ref a3, .ref a4, .ref a5, .ref a6, .ref a7, .int (nI (B))])), (a0, .inl (cI, 32, .inl (k4 kd b x 0))), (a1, .inl (cI, 32, .inl ky)), (a2, .inl (cI, 32, .inl vl)), (a3, .inl (cI, 32, .inl mk)), (a4, .inl (cI, 8, .inl (upd wr b (wr b + 1)))), (a5, .inl (cI, 32, .inl lv)), (a6, .inl (cI, 16, .inl nw)), (a7, .inl (cI, 8, .inl (upd fr b (if x = 0 then 4 else 0))))] := by
          rw [show (upd wr b (wr b + 1) : Nat → Int32) = upd wr b ((wr (b)) + 1) from rfl]
          exact hD
        have hP : va_P D vwCl [(fo, .inr (0, [.ref a0, .ref a1, .ref a2, .ref a3, .ref a4, .ref a5, .ref a6, .ref a7, .int (nI (B))])), (a0, .inl (cI, 32, .inl (k4 kd b x 0))), (a1, .inl (cI, 32, .inl ky)), (a2, .inl (cI, 32, .inl vl)), (a3, .inl (cI, 32, .inl mk)), (a4, .inl (cI, 8, .inl (upd wr b (wr b + 1)))), (a5, .inl (cI, 32, .inl lv)), (a6, .inl (cI, 16, .inl nw)), (a7, .inl (cI, 8, .inl (upd fr b (if x = 0 then 4 else 0))))] H := hP
        have hD : va_D A [(fo, .inr (0, [.ref a0, .ref a1, .ref a2, .ref a3, .ref a4, .ref a5, .ref a6, .ref a7, .int (nI (B))])), (a0, .inl (cI, 32, .inl (k4 kd b x 0))), (a1, .inl (cI, 32, .inl ky)), (a2, .inl (cI, 32, .inl vl)), (a3, .inl (cI, 32, .inl mk)), (a4, .inl (cI, 8, .inl (upd wr b (wr b + 1)))), (a5, .inl (cI, 32, .inl lv)), (a6, .inl (cI, 16, .inl nw)), (a7, .inl (cI, 8, .inl (upd fr b (if x = 0 then 4 else 0))))] := hD
        exact LP38 ((4 - 0) + 1) 0 (by omega) (by omega) _ _ hP hD hS _ (lv_sub hl [1, 2, 3, 0] rfl)
      · skip
        refine lv_iconst (v := 4) hx hb dX0_wipe_30 (by decide) ?_
        refine lv_goto (tgt := 35) hx hb dX0_wipe_31 (by decide) ?_
        refine ra_iast (i := b) hx hb hK hP hD hS 8 0 rfl rfl (by omega) (by decide) dX0_wipe_35 (fun H locs hP hD hS => ?_)
        have hP : va_P D vwCl [(fo, .inr (0, [.ref a0, .ref a1, .ref a2, .ref a3, .ref a4, .ref a5, .ref a6, .ref a7, .int (nI (B))])), (a0, .inl (cI, 32, .inl kd)), (a1, .inl (cI, 32, .inl ky)), (a2, .inl (cI, 32, .inl vl)), (a3, .inl (cI, 32, .inl mk)), (a4, .inl (cI, 8, .inl (upd wr b ((wr (b)) + 1)))), (a5, .inl (cI, 32, .inl lv)), (a6, .inl (cI, 16, .inl nw)), (a7, .inl (cI, 8, .inl (upd fr b 4)))] H := hP
        have hD : va_D A [(fo, .inr (0, [.ref a0, .ref a1, .ref a2, .ref a3, .ref a4, .ref a5, .ref a6, .ref a7, .int (nI (B))])), (a0, .inl (cI, 32, .inl kd)), (a1, .inl (cI, 32, .inl ky)), (a2, .inl (cI, 32, .inl vl)), (a3, .inl (cI, 32, .inl mk)), (a4, .inl (cI, 8, .inl (upd wr b ((wr (b)) + 1)))), (a5, .inl (cI, 32, .inl lv)), (a6, .inl (cI, 16, .inl nw)), (a7, .inl (cI, 8, .inl (upd fr b 4)))] := hD
        have hP : va_P D vwCl [(fo, .inr (0, [.ref a0, .ref a1, .ref a2, .ref a3, .ref a4, .ref a5, .ref a6, .ref a7, .int (nI (B))])), (a0, .inl (cI, 32, .inl kd)), (a1, .inl (cI, 32, .inl ky)), (a2, .inl (cI, 32, .inl vl)), (a3, .inl (cI, 32, .inl mk)), (a4, .inl (cI, 8, .inl (upd wr b ((wr (b)) + 1)))), (a5, .inl (cI, 32, .inl lv)), (a6, .inl (cI, 16, .inl nw)), (a7, .inl (cI, 8, .inl (upd fr b (if x = 0 then 4 else 0))))] H := by
          rw [show (upd fr b (if x = 0 then 4 else 0) : Nat → Int32) = upd fr b 4 from by rw [if_pos c27_3]]
          exact hP
        have hD : va_D A [(fo, .inr (0, [.ref a0, .ref a1, .ref a2, .ref a3, .ref a4, .ref a5, .ref a6, .ref a7, .int (nI (B))])), (a0, .inl (cI, 32, .inl kd)), (a1, .inl (cI, 32, .inl ky)), (a2, .inl (cI, 32, .inl vl)), (a3, .inl (cI, 32, .inl mk)), (a4, .inl (cI, 8, .inl (upd wr b ((wr (b)) + 1)))), (a5, .inl (cI, 32, .inl lv)), (a6, .inl (cI, 16, .inl nw)), (a7, .inl (cI, 8, .inl (upd fr b (if x = 0 then 4 else 0))))] := by
          rw [show (upd fr b (if x = 0 then 4 else 0) : Nat → Int32) = upd fr b 4 from by rw [if_pos c27_3]]
          exact hD
        refine lv_iconst (v := 0) hx hb dX0_wipe_36 (by decide) ?_
        refine lv_istore_n (lv' := [(3, .int (0)), (0, .ref fo), (1, .int (nI (b))), (2, .int (x))]) hx hb dX0_wipe_37 rfl hl (by decide) rfl (fun ls hl => ?_)
        have LP38 : ∀ n9 : Nat, ∀ (j : Nat), (hj : j ≤ 4) → 4 - j < n9 → ∀ (H : Heap) (locs : List Loc), va_P D vwCl [(fo, .inr (0, [.ref a0, .ref a1, .ref a2, .ref a3, .ref a4, .ref a5, .ref a6, .ref a7, .int (nI (B))])), (a0, .inl (cI, 32, .inl (k4 kd b x j))), (a1, .inl (cI, 32, .inl ky)), (a2, .inl (cI, 32, .inl vl)), (a3, .inl (cI, 32, .inl mk)), (a4, .inl (cI, 8, .inl (upd wr b (wr b + 1)))), (a5, .inl (cI, 32, .inl lv)), (a6, .inl (cI, 16, .inl nw)), (a7, .inl (cI, 8, .inl (upd fr b (if x = 0 then 4 else 0))))] H → va_D A [(fo, .inr (0, [.ref a0, .ref a1, .ref a2, .ref a3, .ref a4, .ref a5, .ref a6, .ref a7, .int (nI (B))])), (a0, .inl (cI, 32, .inl (k4 kd b x j))), (a1, .inl (cI, 32, .inl ky)), (a2, .inl (cI, 32, .inl vl)), (a3, .inl (cI, 32, .inl mk)), (a4, .inl (cI, 8, .inl (upd wr b (wr b + 1)))), (a5, .inl (cI, 32, .inl lv)), (a6, .inl (cI, 16, .inl nw)), (a7, .inl (cI, 8, .inl (upd fr b (if x = 0 then 4 else 0))))] → va_S A s.heap H locs → ∀ ls : Array Slot, lv_has ls 4 [(0, .ref fo), (1, .int (nI (b))), (2, .int (x)), (3, .int (nI (j)))] → W p l e ({ frames := 1, cells := 0, slots := 0, locals := 23 } : Room) s m ([.ref fo, .int (nI (b)), .int (x)] : List Value).toArray below meth c H locs 0 0 (MQ below (va_Qv (fun u9 : va_W => u9 = [(fo, .inr (0, [.ref a0, .ref a1, .ref a2, .ref a3, .ref a4, .ref a5, .ref a6, .ref a7, .int (nI (B))])), (a0, .inl (cI, 32, .inl (k4 kd b x 4))), (a1, .inl (cI, 32, .inl ky)), (a2, .inl (cI, 32, .inl vl)), (a3, .inl (cI, 32, .inl mk)), (a4, .inl (cI, 8, .inl (upd wr b (wr b + 1)))), (a5, .inl (cI, 32, .inl (lvR (k4 kd b x 4) ky vl mk))), (a6, .inl (cI, 16, .inl (nwR (k4 kd b x 4) ky mk))), (a7, .inl (cI, 8, .inl (upd fr b (if x = 0 then 4 else 0))))]) (fun u t => va_P D vwCl u t.heap) A) ([.ref fo, .int (nI (b)), .int (x)] : List Value).toArray s 0 0 A) (F0 m 38 ls []) := by
          intro n9
          induction n9 with
          | zero => intros; omega
          | succ n9 ih38 =>
            intro j hj hm9 H locs hP hD hS ls hl
            refine lv_iload_n hx hb dX0_wipe_38 rfl (lv_at hl 3 rfl) ?_
            refine lv_iconst (v := 4) hx hb dX0_wipe_39 (by decide) ?_
            refine lv_icmp_ge (tgt := 60) hx hb dX0_wipe_40 (by decide) (fun c40_5 => ?_) (fun c40_5 => ?_)
            · skip
              have c40_5 := cn_le (a := 4) (b := j) (by omega) (by omega) c40_5
              have hP : va_P D vwCl [(fo, .inr (0, [.ref a0, .ref a1, .ref a2, .ref a3, .ref a4, .ref a5, .ref a6, .ref a7, .int (nI (B))])), (a0, .inl (cI, 32, .inl (k4 kd b x 4))), (a1, .inl (cI, 32, .inl ky)), (a2, .inl (cI, 32, .inl vl)), (a3, .inl (cI, 32, .inl mk)), (a4, .inl (cI, 8, .inl (upd wr b (wr b + 1)))), (a5, .inl (cI, 32, .inl lv)), (a6, .inl (cI, 16, .inl nw)), (a7, .inl (cI, 8, .inl (upd fr b (if x = 0 then 4 else 0))))] H := by
                rw [show (k4 kd b x 4 : Nat → Int32) = k4 kd b x j from by rw [show j = 4 by omega]]
                exact hP
              have hD : va_D A [(fo, .inr (0, [.ref a0, .ref a1, .ref a2, .ref a3, .ref a4, .ref a5, .ref a6, .ref a7, .int (nI (B))])), (a0, .inl (cI, 32, .inl (k4 kd b x 4))), (a1, .inl (cI, 32, .inl ky)), (a2, .inl (cI, 32, .inl vl)), (a3, .inl (cI, 32, .inl mk)), (a4, .inl (cI, 8, .inl (upd wr b (wr b + 1)))), (a5, .inl (cI, 32, .inl lv)), (a6, .inl (cI, 16, .inl nw)), (a7, .inl (cI, 8, .inl (upd fr b (if x = 0 then 4 else 0))))] := by
                rw [show (k4 kd b x 4 : Nat → Int32) = k4 kd b x j from by rw [show j = 4 by omega]]
                exact hD
              refine lv_aload_n hx hb dX0_wipe_60 rfl (lv_at hl 0 rfl) ?_
              refine gp_backv (gq_runV hX good6 (m6 23 rfl) (c0_findRecords l D cI fo a0 a1 a2 a3 a4 a5 a6 a7 (k4 kd b x 4) ky vl mk (upd wr b (wr b + 1)) lv nw (upd fr b (if x = 0 then 4 else 0)) B hB8) q0_findRecords rfl (m6 20 rfl) (m6 21 rfl) (m6 22 rfl) ⟨Nat.le_of_ble_eq_true rfl, Nat.le_of_ble_eq_true rfl⟩ hK hN [0] rfl hP hD [0, 1, 2, 3, 4, 5, 6, 7, 8] (by decide) rfl (ci := 0) (q0 := 0) rfl rfl rfl hl.1 rfl (Nat.le_of_ble_eq_true rfl) dX0_wipe_61 ⟨Nat.zero_le _, Nat.zero_le _⟩) hP hD hS [0, 1, 2, 3, 4, 5, 6, 7, 8] rfl (fun u h => by rw [h]; simp only [List.map_cons, List.map_nil]) (fun u H locs hpost hP hD hS => ?_)
              subst hpost
              have hP : va_P D vwCl [(fo, .inr (0, [.ref a0, .ref a1, .ref a2, .ref a3, .ref a4, .ref a5, .ref a6, .ref a7, .int (nI (B))])), (a0, .inl (cI, 32, .inl (k4 kd b x 4))), (a1, .inl (cI, 32, .inl ky)), (a2, .inl (cI, 32, .inl vl)), (a3, .inl (cI, 32, .inl mk)), (a4, .inl (cI, 8, .inl (upd wr b (wr b + 1)))), (a5, .inl (cI, 32, .inl (lvR (k4 kd b x 4) ky vl mk))), (a6, .inl (cI, 16, .inl (nwR (k4 kd b x 4) ky mk))), (a7, .inl (cI, 8, .inl (upd fr b (if x = 0 then 4 else 0))))] H := hP
              have hD : va_D A [(fo, .inr (0, [.ref a0, .ref a1, .ref a2, .ref a3, .ref a4, .ref a5, .ref a6, .ref a7, .int (nI (B))])), (a0, .inl (cI, 32, .inl (k4 kd b x 4))), (a1, .inl (cI, 32, .inl ky)), (a2, .inl (cI, 32, .inl vl)), (a3, .inl (cI, 32, .inl mk)), (a4, .inl (cI, 8, .inl (upd wr b (wr b + 1)))), (a5, .inl (cI, 32, .inl (lvR (k4 kd b x 4) ky vl mk))), (a6, .inl (cI, 16, .inl (nwR (k4 kd b x 4) ky mk))), (a7, .inl (cI, 8, .inl (upd fr b (if x = 0 then 4 else 0))))] := hD
              exact gp_retv hX hr hlocks hS hP rfl dX0_wipe_64
            · skip
              have c40_5 := cn_nle (a := 4) (b := j) (by omega) (by omega) c40_5
              refine lv_aload_n hx hb dX0_wipe_43 rfl (lv_at hl 0 rfl) ?_
              refine va_get (D := D) (ci := 0) (v := .ref a0) (C := RX0) (T := TX0) (N := 9) hx hb hts u6_X0 hown hK hP 0 rfl rfl 0 (by decide) (hts _ (m6 4 rfl)) (fun _ h9 => h9) rfl dX0_wipe_44 ?_
              refine lv_iconst (v := 4) hx hb dX0_wipe_47 (by decide) ?_
              refine lv_iload_n hx hb dX0_wipe_48 rfl (lv_at hl 1 rfl) ?_
              refine lv_imul hx hb dX0_wipe_49 ?_
              refine lv_as (y := nI (4 * b)) (pk_mul (4) (b)) ?_
              refine lv_iload_n hx hb dX0_wipe_50 rfl (lv_at hl 3 rfl) ?_
              refine lv_iadd hx hb dX0_wipe_51 ?_
              refine lv_as (y := nI (4 * b + j)) (nI_add (4 * b) (j)) ?_
              refine lv_iload_n hx hb dX0_wipe_52 rfl (lv_at hl 2 rfl) ?_
              refine ra_iast (i := 4 * b + j) hx hb hK hP hD hS 1 0 rfl rfl (by omega) (by decide) dX0_wipe_53 (fun H locs hP hD hS => ?_)
              have hP : va_P D vwCl [(fo, .inr (0, [.ref a0, .ref a1, .ref a2, .ref a3, .ref a4, .ref a5, .ref a6, .ref a7, .int (nI (B))])), (a0, .inl (cI, 32, .inl (upd (k4 kd b x j) (4 * b + j) x))), (a1, .inl (cI, 32, .inl ky)), (a2, .inl (cI, 32, .inl vl)), (a3, .inl (cI, 32, .inl mk)), (a4, .inl (cI, 8, .inl (upd wr b (wr b + 1)))), (a5, .inl (cI, 32, .inl lv)), (a6, .inl (cI, 16, .inl nw)), (a7, .inl (cI, 8, .inl (upd fr b (if x = 0 then 4 else 0))))] H := hP
              have hD : va_D A [(fo, .inr (0, [.ref a0, .ref a1, .ref a2, .ref a3, .ref a4, .ref a5, .ref a6, .ref a7, .int (nI (B))])), (a0, .inl (cI, 32, .inl (upd (k4 kd b x j) (4 * b + j) x))), (a1, .inl (cI, 32, .inl ky)), (a2, .inl (cI, 32, .inl vl)), (a3, .inl (cI, 32, .inl mk)), (a4, .inl (cI, 8, .inl (upd wr b (wr b + 1)))), (a5, .inl (cI, 32, .inl lv)), (a6, .inl (cI, 16, .inl nw)), (a7, .inl (cI, 8, .inl (upd fr b (if x = 0 then 4 else 0))))] := hD
              refine lv_iinc (v := nI (j + 1)) (lv' := [(3, .int (nI (j + 1))), (0, .ref fo), (1, .int (nI (b))), (2, .int (x))]) hx hb dX0_wipe_54 hl (k := 3) rfl (nI_add _ 1) (by decide) rfl (fun ls hl => ?_)
              refine lv_goto (tgt := 38) hx hb dX0_wipe_57 (by decide) ?_
              have hl : lv_has ls 4 [(3, .int (nI ((j + 1)))), (0, .ref fo), (1, .int (nI (b))), (2, .int (x))] := lv_re hl 0 rfl (show nI (j + 1) = nI ((j + 1)) from rfl)
              have hP : va_P D vwCl [(fo, .inr (0, [.ref a0, .ref a1, .ref a2, .ref a3, .ref a4, .ref a5, .ref a6, .ref a7, .int (nI (B))])), (a0, .inl (cI, 32, .inl (k4 kd b x (j + 1)))), (a1, .inl (cI, 32, .inl ky)), (a2, .inl (cI, 32, .inl vl)), (a3, .inl (cI, 32, .inl mk)), (a4, .inl (cI, 8, .inl (upd wr b (wr b + 1)))), (a5, .inl (cI, 32, .inl lv)), (a6, .inl (cI, 16, .inl nw)), (a7, .inl (cI, 8, .inl (upd fr b (if x = 0 then 4 else 0))))] H := by
                rw [show (k4 kd b x (j + 1) : Nat → Int32) = upd (k4 kd b x j) (4 * b + j) x from rfl]
                exact hP
              have hD : va_D A [(fo, .inr (0, [.ref a0, .ref a1, .ref a2, .ref a3, .ref a4, .ref a5, .ref a6, .ref a7, .int (nI (B))])), (a0, .inl (cI, 32, .inl (k4 kd b x (j + 1)))), (a1, .inl (cI, 32, .inl ky)), (a2, .inl (cI, 32, .inl vl)), (a3, .inl (cI, 32, .inl mk)), (a4, .inl (cI, 8, .inl (upd wr b (wr b + 1)))), (a5, .inl (cI, 32, .inl lv)), (a6, .inl (cI, 16, .inl nw)), (a7, .inl (cI, 8, .inl (upd fr b (if x = 0 then 4 else 0))))] := by
                rw [show (k4 kd b x (j + 1) : Nat → Int32) = upd (k4 kd b x j) (4 * b + j) x from rfl]
                exact hD
              have hP : va_P D vwCl [(fo, .inr (0, [.ref a0, .ref a1, .ref a2, .ref a3, .ref a4, .ref a5, .ref a6, .ref a7, .int (nI (B))])), (a0, .inl (cI, 32, .inl (k4 kd b x (j + 1)))), (a1, .inl (cI, 32, .inl ky)), (a2, .inl (cI, 32, .inl vl)), (a3, .inl (cI, 32, .inl mk)), (a4, .inl (cI, 8, .inl (upd wr b (wr b + 1)))), (a5, .inl (cI, 32, .inl lv)), (a6, .inl (cI, 16, .inl nw)), (a7, .inl (cI, 8, .inl (upd fr b (if x = 0 then 4 else 0))))] H := hP
              have hD : va_D A [(fo, .inr (0, [.ref a0, .ref a1, .ref a2, .ref a3, .ref a4, .ref a5, .ref a6, .ref a7, .int (nI (B))])), (a0, .inl (cI, 32, .inl (k4 kd b x (j + 1)))), (a1, .inl (cI, 32, .inl ky)), (a2, .inl (cI, 32, .inl vl)), (a3, .inl (cI, 32, .inl mk)), (a4, .inl (cI, 8, .inl (upd wr b (wr b + 1)))), (a5, .inl (cI, 32, .inl lv)), (a6, .inl (cI, 16, .inl nw)), (a7, .inl (cI, 8, .inl (upd fr b (if x = 0 then 4 else 0))))] := hD
              exact ih38 (j + 1) (by omega) (by omega) _ _ hP hD hS _ (lv_sub hl [1, 2, 3, 0] rfl)
        have hl : lv_has ls 4 [(3, .int (nI (0))), (0, .ref fo), (1, .int (nI (b))), (2, .int (x))] := lv_re hl 0 rfl (show 0 = nI (0) from rfl)
        have hP : va_P D vwCl [(fo, .inr (0, [.ref a0, .ref a1, .ref a2, .ref a3, .ref a4, .ref a5, .ref a6, .ref a7, .int (nI (B))])), (a0, .inl (cI, 32, .inl (k4 kd b x 0))), (a1, .inl (cI, 32, .inl ky)), (a2, .inl (cI, 32, .inl vl)), (a3, .inl (cI, 32, .inl mk)), (a4, .inl (cI, 8, .inl (upd wr b ((wr (b)) + 1)))), (a5, .inl (cI, 32, .inl lv)), (a6, .inl (cI, 16, .inl nw)), (a7, .inl (cI, 8, .inl (upd fr b (if x = 0 then 4 else 0))))] H := by
          rw [show (k4 kd b x 0 : Nat → Int32) = kd from rfl]
          exact hP
        have hD : va_D A [(fo, .inr (0, [.ref a0, .ref a1, .ref a2, .ref a3, .ref a4, .ref a5, .ref a6, .ref a7, .int (nI (B))])), (a0, .inl (cI, 32, .inl (k4 kd b x 0))), (a1, .inl (cI, 32, .inl ky)), (a2, .inl (cI, 32, .inl vl)), (a3, .inl (cI, 32, .inl mk)), (a4, .inl (cI, 8, .inl (upd wr b ((wr (b)) + 1)))), (a5, .inl (cI, 32, .inl lv)), (a6, .inl (cI, 16, .inl nw)), (a7, .inl (cI, 8, .inl (upd fr b (if x = 0 then 4 else 0))))] := by
          rw [show (k4 kd b x 0 : Nat → Int32) = kd from rfl]
          exact hD
        have hP : va_P D vwCl [(fo, .inr (0, [.ref a0, .ref a1, .ref a2, .ref a3, .ref a4, .ref a5, .ref a6, .ref a7, .int (nI (B))])), (a0, .inl (cI, 32, .inl (k4 kd b x 0))), (a1, .inl (cI, 32, .inl ky)), (a2, .inl (cI, 32, .inl vl)), (a3, .inl (cI, 32, .inl mk)), (a4, .inl (cI, 8, .inl (upd wr b (wr b + 1)))), (a5, .inl (cI, 32, .inl lv)), (a6, .inl (cI, 16, .inl nw)), (a7, .inl (cI, 8, .inl (upd fr b (if x = 0 then 4 else 0))))] H := by
          rw [show (upd wr b (wr b + 1) : Nat → Int32) = upd wr b ((wr (b)) + 1) from rfl]
          exact hP
        have hD : va_D A [(fo, .inr (0, [.ref a0, .ref a1, .ref a2, .ref a3, .ref a4, .ref a5, .ref a6, .ref a7, .int (nI (B))])), (a0, .inl (cI, 32, .inl (k4 kd b x 0))), (a1, .inl (cI, 32, .inl ky)), (a2, .inl (cI, 32, .inl vl)), (a3, .inl (cI, 32, .inl mk)), (a4, .inl (cI, 8, .inl (upd wr b (wr b + 1)))), (a5, .inl (cI, 32, .inl lv)), (a6, .inl (cI, 16, .inl nw)), (a7, .inl (cI, 8, .inl (upd fr b (if x = 0 then 4 else 0))))] := by
          rw [show (upd wr b (wr b + 1) : Nat → Int32) = upd wr b ((wr (b)) + 1) from rfl]
          exact hD
        have hP : va_P D vwCl [(fo, .inr (0, [.ref a0, .ref a1, .ref a2, .ref a3, .ref a4, .ref a5, .ref a6, .ref a7, .int (nI (B))])), (a0, .inl (cI, 32, .inl (k4 kd b x 0))), (a1, .inl (cI, 32, .inl ky)), (a2, .inl (cI, 32, .inl vl)), (a3, .inl (cI, 32, .inl mk)), (a4, .inl (cI, 8, .inl (upd wr b (wr b + 1)))), (a5, .inl (cI, 32, .inl lv)), (a6, .inl (cI, 16, .inl nw)), (a7, .inl (cI, 8, .inl (upd fr b (if x = 0 then 4 else 0))))] H := hP
        have hD : va_D A [(fo, .inr (0, [.ref a0, .ref a1, .ref a2, .ref a3, .ref a4, .ref a5, .ref a6, .ref a7, .int (nI (B))])), (a0, .inl (cI, 32, .inl (k4 kd b x 0))), (a1, .inl (cI, 32, .inl ky)), (a2, .inl (cI, 32, .inl vl)), (a3, .inl (cI, 32, .inl mk)), (a4, .inl (cI, 8, .inl (upd wr b (wr b + 1)))), (a5, .inl (cI, 32, .inl lv)), (a6, .inl (cI, 16, .inl nw)), (a7, .inl (cI, 8, .inl (upd fr b (if x = 0 then 4 else 0))))] := hD
        exact LP38 ((4 - 0) + 1) 0 (by omega) (by omega) _ _ hP hD hS _ (lv_sub hl [1, 2, 3, 0] rfl)
    · skip
      have c7_2 := cn_nlt (a := b) (b := 8) (by omega) (by omega) c7_2
      omega
theorem dX0_renew_0 : decode cX0_renew 0 = .ok (.aload_n 0, 1) := by decide +kernel
theorem dX0_renew_1 : decode cX0_renew 1 = .ok (.iconst 0, 1) := by decide +kernel
theorem dX0_renew_2 : decode cX0_renew 2 = .ok (.iload_n 1, 1) := by decide +kernel
theorem dX0_renew_3 : decode cX0_renew 3 = .ok (.bipush 8, 2) := by decide +kernel
theorem dX0_renew_5 : decode cX0_renew 5 = .ok (.invokestatic 36, 3) := by decide +kernel
theorem dX0_renew_8 : decode cX0_renew 8 = .ok (.invokestatic 42, 3) := by decide +kernel
theorem dX0_renew_11 : decode cX0_renew 11 = .ok (.putfield 45, 3) := by decide +kernel
theorem dX0_renew_14 : decode cX0_renew 14 = .ok (.iconst 0, 1) := by decide +kernel
theorem dX0_renew_15 : decode cX0_renew 15 = .ok (.istore_n 2, 1) := by decide +kernel
theorem dX0_renew_16 : decode cX0_renew 16 = .ok (.iload_n 2, 1) := by decide +kernel
theorem dX0_renew_17 : decode cX0_renew 17 = .ok (.bipush 32, 2) := by decide +kernel
theorem dX0_renew_19 : decode cX0_renew 19 = .ok (.if_icmp .ge 16, 3) := by decide +kernel
theorem dX0_renew_22 : decode cX0_renew 22 = .ok (.aload_n 0, 1) := by decide +kernel
theorem dX0_renew_23 : decode cX0_renew 23 = .ok (.getfield 11, 3) := by decide +kernel
theorem dX0_renew_26 : decode cX0_renew 26 = .ok (.iload_n 2, 1) := by decide +kernel
theorem dX0_renew_27 : decode cX0_renew 27 = .ok (.iconst 0, 1) := by decide +kernel
theorem dX0_renew_28 : decode cX0_renew 28 = .ok (.iastore, 1) := by decide +kernel
theorem dX0_renew_29 : decode cX0_renew 29 = .ok (.iinc 2 1, 3) := by decide +kernel
theorem dX0_renew_32 : decode cX0_renew 32 = .ok (.goto (-16), 3) := by decide +kernel
theorem dX0_renew_35 : decode cX0_renew 35 = .ok (.iconst 0, 1) := by decide +kernel
theorem dX0_renew_36 : decode cX0_renew 36 = .ok (.istore_n 2, 1) := by decide +kernel
theorem dX0_renew_37 : decode cX0_renew 37 = .ok (.iload_n 2, 1) := by decide +kernel
theorem dX0_renew_38 : decode cX0_renew 38 = .ok (.bipush 8, 2) := by decide +kernel
theorem dX0_renew_40 : decode cX0_renew 40 = .ok (.if_icmp .ge 23, 3) := by decide +kernel
theorem dX0_renew_43 : decode cX0_renew 43 = .ok (.aload_n 0, 1) := by decide +kernel
theorem dX0_renew_44 : decode cX0_renew 44 = .ok (.getfield 24, 3) := by decide +kernel
theorem dX0_renew_47 : decode cX0_renew 47 = .ok (.iload_n 2, 1) := by decide +kernel
theorem dX0_renew_48 : decode cX0_renew 48 = .ok (.iconst 0, 1) := by decide +kernel
theorem dX0_renew_49 : decode cX0_renew 49 = .ok (.iastore, 1) := by decide +kernel
theorem dX0_renew_50 : decode cX0_renew 50 = .ok (.aload_n 0, 1) := by decide +kernel
theorem dX0_renew_51 : decode cX0_renew 51 = .ok (.getfield 33, 3) := by decide +kernel
theorem dX0_renew_54 : decode cX0_renew 54 = .ok (.iload_n 2, 1) := by decide +kernel
theorem dX0_renew_55 : decode cX0_renew 55 = .ok (.iconst 4, 1) := by decide +kernel
theorem dX0_renew_56 : decode cX0_renew 56 = .ok (.iastore, 1) := by decide +kernel
theorem dX0_renew_57 : decode cX0_renew 57 = .ok (.iinc 2 1, 3) := by decide +kernel
theorem dX0_renew_60 : decode cX0_renew 60 = .ok (.goto (-23), 3) := by decide +kernel
theorem dX0_renew_63 : decode cX0_renew 63 = .ok (.aload_n 0, 1) := by decide +kernel
theorem dX0_renew_64 : decode cX0_renew 64 = .ok (.invokevirtual 49, 3) := by decide +kernel
theorem dX0_renew_67 : decode cX0_renew 67 = .ok (.return_, 1) := by decide +kernel
theorem q0_renew : CQ W6 yX0_renew cX0_renew 3 none 1 := ⟨(m6 65 rfl), by decide, by decide, by decide +kernel⟩
set_option maxHeartbeats 4000000 in
set_option maxRecDepth 100000 in
theorem c0_renew (l : Launch) (D : va_G) (cI : ClassId) (fo a0 a1 a2 a3 a4 a5 a6 a7 : Nat) (kd ky vl mk wr lv nw fr : Nat → Int32) (B : Nat) (hB8 : B ≤ 8) (B2 : Nat) (hB2 : B2 ≤ 8) : GQv l yX0_renew cX0_renew 3 W6 1 24 D [(fo, .inr (0, [.ref a0, .ref a1, .ref a2, .ref a3, .ref a4, .ref a5, .ref a6, .ref a7, .int (nI (B))])), (a0, .inl (cI, 32, .inl kd)), (a1, .inl (cI, 32, .inl ky)), (a2, .inl (cI, 32, .inl vl)), (a3, .inl (cI, 32, .inl mk)), (a4, .inl (cI, 8, .inl wr)), (a5, .inl (cI, 32, .inl lv)), (a6, .inl (cI, 16, .inl nw)), (a7, .inl (cI, 8, .inl fr))] [(cI, .int)] [.ref fo, .int (nI (B2))] (fun u9 : va_W => u9 = [(fo, .inr (0, [.ref a0, .ref a1, .ref a2, .ref a3, .ref a4, .ref a5, .ref a6, .ref a7, .int (nI (B2))])), (a0, .inl (cI, 32, .inl (fun _ => 0))), (a1, .inl (cI, 32, .inl ky)), (a2, .inl (cI, 32, .inl vl)), (a3, .inl (cI, 32, .inl mk)), (a4, .inl (cI, 8, .inl (fun _ => 0))), (a5, .inl (cI, 32, .inl (lvR (fun _ => 0) ky vl mk))), (a6, .inl (cI, 16, .inl (nwR (fun _ => 0) ky mk))), (a7, .inl (cI, 8, .inl (fun _ => 4)))]) := by
  refine gq_of RX0 (by decide) rfl (Nat.le_of_ble_eq_true rfl) ?_
  intro p e s m below meth c ls H hX hr hlocks hK hN hP hD hS hl
  generalize gp_A [(fo, .inr (0, [.ref a0, .ref a1, .ref a2, .ref a3, .ref a4, .ref a5, .ref a6, .ref a7, .int (nI (B))])), (a0, .inl (cI, 32, .inl kd)), (a1, .inl (cI, 32, .inl ky)), (a2, .inl (cI, 32, .inl vl)), (a3, .inl (cI, 32, .inl mk)), (a4, .inl (cI, 8, .inl wr)), (a5, .inl (cI, 32, .inl lv)), (a6, .inl (cI, 16, .inl nw)), (a7, .inl (cI, 8, .inl fr))] = A at hD hS ⊢
  have hx := hX.1
  have hb := hX.2.1
  have hown := hX.2.2.2.1
  have hts := hX.2.2.2.2
  have hl : lv_has ls 3 [(0, .ref fo), (1, .int (nI (B2)))] := hl
  refine lv_aload_n hx hb dX0_renew_0 rfl (lv_at hl 0 rfl) ?_
  refine lv_iconst (v := 0) hx hb dX0_renew_1 (by decide) ?_
  refine lv_iload_n hx hb dX0_renew_2 rfl (lv_at hl 1 rfl) ?_
  refine lv_bipush (v := 8) hx hb dX0_renew_3 (by decide) ?_
  refine va_mmin hx hb (hX.2.2.1.trans hl.1.symm) hown (hts _ (m6 12 rfl)) (hts _ (m6 13 rfl)) (hts _ (m6 14 rfl)) (hts _ (m6 15 rfl)) (Nat.le_of_ble_eq_true rfl) (Nat.le_of_ble_eq_true rfl) (Nat.le_of_ble_eq_true rfl) (Nat.le_of_ble_eq_true rfl) dX0_renew_5 ?_
  refine lv_as (y := nI (B2)) (if_neg (fun z => by have := cn_lt (a := 8) (b := B2) (by omega) (by omega) z; omega)) ?_
  refine va_mmax hx hb (hX.2.2.1.trans hl.1.symm) hown (hts _ (m6 16 rfl)) (hts _ (m6 17 rfl)) (hts _ (m6 14 rfl)) (hts _ (m6 18 rfl)) (Nat.le_of_ble_eq_true rfl) (Nat.le_of_ble_eq_true rfl) (Nat.le_of_ble_eq_true rfl) (Nat.le_of_ble_eq_true rfl) dX0_renew_8 ?_
  refine lv_as (y := nI (B2)) (mx0 (by omega)) ?_
  refine va_put (D := D) (ci := 0) (v := .int (nI (B2))) (ty := .int) (C := RX0) (T := TX0) (N := 9) hx hb hts u6_X0 tyX0 tyX0_ok nmX0 hown hK hP hD hS 0 rfl rfl 8 (by decide) (hts _ (m6 19 rfl)) (fun _ h9 => h9) rfl (by decide +kernel) rfl rfl (Nat.le_of_ble_eq_true rfl) dX0_renew_11 (fun H locs hP hD hS => ?_)
  have hP : va_P D vwCl [(fo, .inr (0, [.ref a0, .ref a1, .ref a2, .ref a3, .ref a4, .ref a5, .ref a6, .ref a7, .int (nI (B2))])), (a0, .inl (cI, 32, .inl kd)), (a1, .inl (cI, 32, .inl ky)), (a2, .inl (cI, 32, .inl vl)), (a3, .inl (cI, 32, .inl mk)), (a4, .inl (cI, 8, .inl wr)), (a5, .inl (cI, 32, .inl lv)), (a6, .inl (cI, 16, .inl nw)), (a7, .inl (cI, 8, .inl fr))] H := hP
  have hD : va_D A [(fo, .inr (0, [.ref a0, .ref a1, .ref a2, .ref a3, .ref a4, .ref a5, .ref a6, .ref a7, .int (nI (B2))])), (a0, .inl (cI, 32, .inl kd)), (a1, .inl (cI, 32, .inl ky)), (a2, .inl (cI, 32, .inl vl)), (a3, .inl (cI, 32, .inl mk)), (a4, .inl (cI, 8, .inl wr)), (a5, .inl (cI, 32, .inl lv)), (a6, .inl (cI, 16, .inl nw)), (a7, .inl (cI, 8, .inl fr))] := hD
  refine lv_iconst (v := 0) hx hb dX0_renew_14 (by decide) ?_
  refine lv_istore_n (lv' := [(2, .int (0)), (0, .ref fo), (1, .int (nI (B2)))]) hx hb dX0_renew_15 rfl hl (by decide) rfl (fun ls hl => ?_)
  have LP16 : ∀ n9 : Nat, ∀ (j : Nat), (hj : j ≤ 32) → 32 - j < n9 → ∀ (H : Heap) (locs : List Loc), va_P D vwCl [(fo, .inr (0, [.ref a0, .ref a1, .ref a2, .ref a3, .ref a4, .ref a5, .ref a6, .ref a7, .int (nI (B2))])), (a0, .inl (cI, 32, .inl (cstF kd 0 j))), (a1, .inl (cI, 32, .inl ky)), (a2, .inl (cI, 32, .inl vl)), (a3, .inl (cI, 32, .inl mk)), (a4, .inl (cI, 8, .inl wr)), (a5, .inl (cI, 32, .inl lv)), (a6, .inl (cI, 16, .inl nw)), (a7, .inl (cI, 8, .inl fr))] H → va_D A [(fo, .inr (0, [.ref a0, .ref a1, .ref a2, .ref a3, .ref a4, .ref a5, .ref a6, .ref a7, .int (nI (B2))])), (a0, .inl (cI, 32, .inl (cstF kd 0 j))), (a1, .inl (cI, 32, .inl ky)), (a2, .inl (cI, 32, .inl vl)), (a3, .inl (cI, 32, .inl mk)), (a4, .inl (cI, 8, .inl wr)), (a5, .inl (cI, 32, .inl lv)), (a6, .inl (cI, 16, .inl nw)), (a7, .inl (cI, 8, .inl fr))] → va_S A s.heap H locs → ∀ ls : Array Slot, lv_has ls 3 [(0, .ref fo), (1, .int (nI (B2))), (2, .int (nI (j)))] → W p l e ({ frames := 1, cells := 0, slots := 0, locals := 24 } : Room) s m ([.ref fo, .int (nI (B2))] : List Value).toArray below meth c H locs 0 0 (MQ below (va_Qv (fun u9 : va_W => u9 = [(fo, .inr (0, [.ref a0, .ref a1, .ref a2, .ref a3, .ref a4, .ref a5, .ref a6, .ref a7, .int (nI (B2))])), (a0, .inl (cI, 32, .inl (fun _ => 0))), (a1, .inl (cI, 32, .inl ky)), (a2, .inl (cI, 32, .inl vl)), (a3, .inl (cI, 32, .inl mk)), (a4, .inl (cI, 8, .inl (fun _ => 0))), (a5, .inl (cI, 32, .inl (lvR (fun _ => 0) ky vl mk))), (a6, .inl (cI, 16, .inl (nwR (fun _ => 0) ky mk))), (a7, .inl (cI, 8, .inl (fun _ => 4)))]) (fun u t => va_P D vwCl u t.heap) A) ([.ref fo, .int (nI (B2))] : List Value).toArray s 0 0 A) (F0 m 16 ls []) := by
    intro n9
    induction n9 with
    | zero => intros; omega
    | succ n9 ih16 =>
      intro j hj hm9 H locs hP hD hS ls hl
      refine lv_iload_n hx hb dX0_renew_16 rfl (lv_at hl 2 rfl) ?_
      refine lv_bipush (v := 32) hx hb dX0_renew_17 (by decide) ?_
      refine lv_icmp_ge (tgt := 35) hx hb dX0_renew_19 (by decide) (fun c19_1 => ?_) (fun c19_1 => ?_)
      · skip
        have c19_1 := cn_le (a := 32) (b := j) (by omega) (by omega) c19_1
        have hP : va_P D vwCl [(fo, .inr (0, [.ref a0, .ref a1, .ref a2, .ref a3, .ref a4, .ref a5, .ref a6, .ref a7, .int (nI (B2))])), (a0, .inl (cI, 32, .inl (fun _ => 0))), (a1, .inl (cI, 32, .inl ky)), (a2, .inl (cI, 32, .inl vl)), (a3, .inl (cI, 32, .inl mk)), (a4, .inl (cI, 8, .inl wr)), (a5, .inl (cI, 32, .inl lv)), (a6, .inl (cI, 16, .inl nw)), (a7, .inl (cI, 8, .inl fr))] H := gp_cell (A := A) hP 1 rfl (fun k hk => by rw [cstF, if_pos (by omega)])
        have hD : va_D A [(fo, .inr (0, [.ref a0, .ref a1, .ref a2, .ref a3, .ref a4, .ref a5, .ref a6, .ref a7, .int (nI (B2))])), (a0, .inl (cI, 32, .inl (fun _ => 0))), (a1, .inl (cI, 32, .inl ky)), (a2, .inl (cI, 32, .inl vl)), (a3, .inl (cI, 32, .inl mk)), (a4, .inl (cI, 8, .inl wr)), (a5, .inl (cI, 32, .inl lv)), (a6, .inl (cI, 16, .inl nw)), (a7, .inl (cI, 8, .inl fr))] := gp_D hD (by simp only [List.map_cons, List.map_nil])
        refine lv_iconst (v := 0) hx hb dX0_renew_35 (by decide) ?_
        refine lv_istore_n (lv' := [(2, .int (0)), (0, .ref fo), (1, .int (nI (B2)))]) hx hb dX0_renew_36 rfl hl (by decide) rfl (fun ls hl => ?_)
        have LP37 : ∀ n9 : Nat, ∀ (j : Nat), (hj : j ≤ 8) → 8 - j < n9 → ∀ (H : Heap) (locs : List Loc), va_P D vwCl [(fo, .inr (0, [.ref a0, .ref a1, .ref a2, .ref a3, .ref a4, .ref a5, .ref a6, .ref a7, .int (nI (B2))])), (a0, .inl (cI, 32, .inl (fun _ => 0))), (a1, .inl (cI, 32, .inl ky)), (a2, .inl (cI, 32, .inl vl)), (a3, .inl (cI, 32, .inl mk)), (a4, .inl (cI, 8, .inl (cstF wr 0 j))), (a5, .inl (cI, 32, .inl lv)), (a6, .inl (cI, 16, .inl nw)), (a7, .inl (cI, 8, .inl (cstF fr 4 j)))] H → va_D A [(fo, .inr (0, [.ref a0, .ref a1, .ref a2, .ref a3, .ref a4, .ref a5, .ref a6, .ref a7, .int (nI (B2))])), (a0, .inl (cI, 32, .inl (fun _ => 0))), (a1, .inl (cI, 32, .inl ky)), (a2, .inl (cI, 32, .inl vl)), (a3, .inl (cI, 32, .inl mk)), (a4, .inl (cI, 8, .inl (cstF wr 0 j))), (a5, .inl (cI, 32, .inl lv)), (a6, .inl (cI, 16, .inl nw)), (a7, .inl (cI, 8, .inl (cstF fr 4 j)))] → va_S A s.heap H locs → ∀ ls : Array Slot, lv_has ls 3 [(0, .ref fo), (1, .int (nI (B2))), (2, .int (nI (j)))] → W p l e ({ frames := 1, cells := 0, slots := 0, locals := 24 } : Room) s m ([.ref fo, .int (nI (B2))] : List Value).toArray below meth c H locs 0 0 (MQ below (va_Qv (fun u9 : va_W => u9 = [(fo, .inr (0, [.ref a0, .ref a1, .ref a2, .ref a3, .ref a4, .ref a5, .ref a6, .ref a7, .int (nI (B2))])), (a0, .inl (cI, 32, .inl (fun _ => 0))), (a1, .inl (cI, 32, .inl ky)), (a2, .inl (cI, 32, .inl vl)), (a3, .inl (cI, 32, .inl mk)), (a4, .inl (cI, 8, .inl (fun _ => 0))), (a5, .inl (cI, 32, .inl (lvR (fun _ => 0) ky vl mk))), (a6, .inl (cI, 16, .inl (nwR (fun _ => 0) ky mk))), (a7, .inl (cI, 8, .inl (fun _ => 4)))]) (fun u t => va_P D vwCl u t.heap) A) ([.ref fo, .int (nI (B2))] : List Value).toArray s 0 0 A) (F0 m 37 ls []) := by
          intro n9
          induction n9 with
          | zero => intros; omega
          | succ n9 ih37 =>
            intro j hj hm9 H locs hP hD hS ls hl
            refine lv_iload_n hx hb dX0_renew_37 rfl (lv_at hl 2 rfl) ?_
            refine lv_bipush (v := 8) hx hb dX0_renew_38 (by decide) ?_
            refine lv_icmp_ge (tgt := 63) hx hb dX0_renew_40 (by decide) (fun c40_2 => ?_) (fun c40_2 => ?_)
            · skip
              have c40_2 := cn_le (a := 8) (b := j) (by omega) (by omega) c40_2
              have hP : va_P D vwCl [(fo, .inr (0, [.ref a0, .ref a1, .ref a2, .ref a3, .ref a4, .ref a5, .ref a6, .ref a7, .int (nI (B2))])), (a0, .inl (cI, 32, .inl (fun _ => 0))), (a1, .inl (cI, 32, .inl ky)), (a2, .inl (cI, 32, .inl vl)), (a3, .inl (cI, 32, .inl mk)), (a4, .inl (cI, 8, .inl (fun _ => 0))), (a5, .inl (cI, 32, .inl lv)), (a6, .inl (cI, 16, .inl nw)), (a7, .inl (cI, 8, .inl (cstF fr 4 j)))] H := gp_cell (A := A) hP 5 rfl (fun k hk => by rw [cstF, if_pos (by omega)])
              have hD : va_D A [(fo, .inr (0, [.ref a0, .ref a1, .ref a2, .ref a3, .ref a4, .ref a5, .ref a6, .ref a7, .int (nI (B2))])), (a0, .inl (cI, 32, .inl (fun _ => 0))), (a1, .inl (cI, 32, .inl ky)), (a2, .inl (cI, 32, .inl vl)), (a3, .inl (cI, 32, .inl mk)), (a4, .inl (cI, 8, .inl (fun _ => 0))), (a5, .inl (cI, 32, .inl lv)), (a6, .inl (cI, 16, .inl nw)), (a7, .inl (cI, 8, .inl (cstF fr 4 j)))] := gp_D hD (by simp only [List.map_cons, List.map_nil])
              have hP : va_P D vwCl [(fo, .inr (0, [.ref a0, .ref a1, .ref a2, .ref a3, .ref a4, .ref a5, .ref a6, .ref a7, .int (nI (B2))])), (a0, .inl (cI, 32, .inl (fun _ => 0))), (a1, .inl (cI, 32, .inl ky)), (a2, .inl (cI, 32, .inl vl)), (a3, .inl (cI, 32, .inl mk)), (a4, .inl (cI, 8, .inl (fun _ => 0))), (a5, .inl (cI, 32, .inl lv)), (a6, .inl (cI, 16, .inl nw)), (a7, .inl (cI, 8, .inl (fun _ => 4)))] H := gp_cell (A := A) hP 8 rfl (fun k hk => by rw [cstF, if_pos (by omega)])
              have hD : va_D A [(fo, .inr (0, [.ref a0, .ref a1, .ref a2, .ref a3, .ref a4, .ref a5, .ref a6, .ref a7, .int (nI (B2))])), (a0, .inl (cI, 32, .inl (fun _ => 0))), (a1, .inl (cI, 32, .inl ky)), (a2, .inl (cI, 32, .inl vl)), (a3, .inl (cI, 32, .inl mk)), (a4, .inl (cI, 8, .inl (fun _ => 0))), (a5, .inl (cI, 32, .inl lv)), (a6, .inl (cI, 16, .inl nw)), (a7, .inl (cI, 8, .inl (fun _ => 4)))] := gp_D hD (by simp only [List.map_cons, List.map_nil])
              refine lv_aload_n hx hb dX0_renew_63 rfl (lv_at hl 0 rfl) ?_
              refine gp_backv (gq_runV hX good6 (m6 23 rfl) (c0_findRecords l D cI fo a0 a1 a2 a3 a4 a5 a6 a7 (fun _ => 0) ky vl mk (fun _ => 0) lv nw (fun _ => 4) B2 (by omega)) q0_findRecords rfl (m6 20 rfl) (m6 21 rfl) (m6 22 rfl) ⟨Nat.le_of_ble_eq_true rfl, Nat.le_of_ble_eq_true rfl⟩ hK hN [0] rfl hP hD [0, 1, 2, 3, 4, 5, 6, 7, 8] (by decide) rfl (ci := 0) (q0 := 0) rfl rfl rfl hl.1 rfl (Nat.le_of_ble_eq_true rfl) dX0_renew_64 ⟨Nat.zero_le _, Nat.zero_le _⟩) hP hD hS [0, 1, 2, 3, 4, 5, 6, 7, 8] rfl (fun u h => by rw [h]; simp only [List.map_cons, List.map_nil]) (fun u H locs hpost hP hD hS => ?_)
              subst hpost
              have hP : va_P D vwCl [(fo, .inr (0, [.ref a0, .ref a1, .ref a2, .ref a3, .ref a4, .ref a5, .ref a6, .ref a7, .int (nI (B2))])), (a0, .inl (cI, 32, .inl (fun _ => 0))), (a1, .inl (cI, 32, .inl ky)), (a2, .inl (cI, 32, .inl vl)), (a3, .inl (cI, 32, .inl mk)), (a4, .inl (cI, 8, .inl (fun _ => 0))), (a5, .inl (cI, 32, .inl (lvR (fun _ => 0) ky vl mk))), (a6, .inl (cI, 16, .inl (nwR (fun _ => 0) ky mk))), (a7, .inl (cI, 8, .inl (fun _ => 4)))] H := hP
              have hD : va_D A [(fo, .inr (0, [.ref a0, .ref a1, .ref a2, .ref a3, .ref a4, .ref a5, .ref a6, .ref a7, .int (nI (B2))])), (a0, .inl (cI, 32, .inl (fun _ => 0))), (a1, .inl (cI, 32, .inl ky)), (a2, .inl (cI, 32, .inl vl)), (a3, .inl (cI, 32, .inl mk)), (a4, .inl (cI, 8, .inl (fun _ => 0))), (a5, .inl (cI, 32, .inl (lvR (fun _ => 0) ky vl mk))), (a6, .inl (cI, 16, .inl (nwR (fun _ => 0) ky mk))), (a7, .inl (cI, 8, .inl (fun _ => 4)))] := hD
              exact gp_retv hX hr hlocks hS hP rfl dX0_renew_67
            · skip
              have c40_2 := cn_nle (a := 8) (b := j) (by omega) (by omega) c40_2
              refine lv_aload_n hx hb dX0_renew_43 rfl (lv_at hl 0 rfl) ?_
              refine va_get (D := D) (ci := 0) (v := .ref a4) (C := RX0) (T := TX0) (N := 9) hx hb hts u6_X0 hown hK hP 0 rfl rfl 4 (by decide) (hts _ (m6 8 rfl)) (fun _ h9 => h9) rfl dX0_renew_44 ?_
              refine lv_iload_n hx hb dX0_renew_47 rfl (lv_at hl 2 rfl) ?_
              refine lv_iconst (v := 0) hx hb dX0_renew_48 (by decide) ?_
              refine ra_iast (i := j) hx hb hK hP hD hS 5 0 rfl rfl (by omega) (by decide) dX0_renew_49 (fun H locs hP hD hS => ?_)
              have hP : va_P D vwCl [(fo, .inr (0, [.ref a0, .ref a1, .ref a2, .ref a3, .ref a4, .ref a5, .ref a6, .ref a7, .int (nI (B2))])), (a0, .inl (cI, 32, .inl (fun _ => 0))), (a1, .inl (cI, 32, .inl ky)), (a2, .inl (cI, 32, .inl vl)), (a3, .inl (cI, 32, .inl mk)), (a4, .inl (cI, 8, .inl (upd (cstF wr 0 j) j 0))), (a5, .inl (cI, 32, .inl lv)), (a6, .inl (cI, 16, .inl nw)), (a7, .inl (cI, 8, .inl (cstF fr 4 j)))] H := hP
              have hD : va_D A [(fo, .inr (0, [.ref a0, .ref a1, .ref a2, .ref a3, .ref a4, .ref a5, .ref a6, .ref a7, .int (nI (B2))])), (a0, .inl (cI, 32, .inl (fun _ => 0))), (a1, .inl (cI, 32, .inl ky)), (a2, .inl (cI, 32, .inl vl)), (a3, .inl (cI, 32, .inl mk)), (a4, .inl (cI, 8, .inl (upd (cstF wr 0 j) j 0))), (a5, .inl (cI, 32, .inl lv)), (a6, .inl (cI, 16, .inl nw)), (a7, .inl (cI, 8, .inl (cstF fr 4 j)))] := hD
              refine lv_aload_n hx hb dX0_renew_50 rfl (lv_at hl 0 rfl) ?_
              refine va_get (D := D) (ci := 0) (v := .ref a7) (C := RX0) (T := TX0) (N := 9) hx hb hts u6_X0 hown hK hP 0 rfl rfl 7 (by decide) (hts _ (m6 11 rfl)) (fun _ h9 => h9) rfl dX0_renew_51 ?_
              refine lv_iload_n hx hb dX0_renew_54 rfl (lv_at hl 2 rfl) ?_
              refine lv_iconst (v := 4) hx hb dX0_renew_55 (by decide) ?_
              refine ra_iast (i := j) hx hb hK hP hD hS 8 0 rfl rfl (by omega) (by decide) dX0_renew_56 (fun H locs hP hD hS => ?_)
              have hP : va_P D vwCl [(fo, .inr (0, [.ref a0, .ref a1, .ref a2, .ref a3, .ref a4, .ref a5, .ref a6, .ref a7, .int (nI (B2))])), (a0, .inl (cI, 32, .inl (fun _ => 0))), (a1, .inl (cI, 32, .inl ky)), (a2, .inl (cI, 32, .inl vl)), (a3, .inl (cI, 32, .inl mk)), (a4, .inl (cI, 8, .inl (upd (cstF wr 0 j) j 0))), (a5, .inl (cI, 32, .inl lv)), (a6, .inl (cI, 16, .inl nw)), (a7, .inl (cI, 8, .inl (upd (cstF fr 4 j) j 4)))] H := hP
              have hD : va_D A [(fo, .inr (0, [.ref a0, .ref a1, .ref a2, .ref a3, .ref a4, .ref a5, .ref a6, .ref a7, .int (nI (B2))])), (a0, .inl (cI, 32, .inl (fun _ => 0))), (a1, .inl (cI, 32, .inl ky)), (a2, .inl (cI, 32, .inl vl)), (a3, .inl (cI, 32, .inl mk)), (a4, .inl (cI, 8, .inl (upd (cstF wr 0 j) j 0))), (a5, .inl (cI, 32, .inl lv)), (a6, .inl (cI, 16, .inl nw)), (a7, .inl (cI, 8, .inl (upd (cstF fr 4 j) j 4)))] := hD
              refine lv_iinc (v := nI (j + 1)) (lv' := [(2, .int (nI (j + 1))), (0, .ref fo), (1, .int (nI (B2)))]) hx hb dX0_renew_57 hl (k := 2) rfl (nI_add _ 1) (by decide) rfl (fun ls hl => ?_)
              refine lv_goto (tgt := 37) hx hb dX0_renew_60 (by decide) ?_
              have hl : lv_has ls 3 [(2, .int (nI ((j + 1)))), (0, .ref fo), (1, .int (nI (B2)))] := lv_re hl 0 rfl (show nI (j + 1) = nI ((j + 1)) from rfl)
              have hP : va_P D vwCl [(fo, .inr (0, [.ref a0, .ref a1, .ref a2, .ref a3, .ref a4, .ref a5, .ref a6, .ref a7, .int (nI (B2))])), (a0, .inl (cI, 32, .inl (fun _ => 0))), (a1, .inl (cI, 32, .inl ky)), (a2, .inl (cI, 32, .inl vl)), (a3, .inl (cI, 32, .inl mk)), (a4, .inl (cI, 8, .inl (cstF wr 0 (j + 1)))), (a5, .inl (cI, 32, .inl lv)), (a6, .inl (cI, 16, .inl nw)), (a7, .inl (cI, 8, .inl (upd (cstF fr 4 j) j 4)))] H := by
                rw [show (cstF wr 0 (j + 1) : Nat → Int32) = upd (cstF wr 0 j) j 0 from cstF_s _ _ _]
                exact hP
              have hD : va_D A [(fo, .inr (0, [.ref a0, .ref a1, .ref a2, .ref a3, .ref a4, .ref a5, .ref a6, .ref a7, .int (nI (B2))])), (a0, .inl (cI, 32, .inl (fun _ => 0))), (a1, .inl (cI, 32, .inl ky)), (a2, .inl (cI, 32, .inl vl)), (a3, .inl (cI, 32, .inl mk)), (a4, .inl (cI, 8, .inl (cstF wr 0 (j + 1)))), (a5, .inl (cI, 32, .inl lv)), (a6, .inl (cI, 16, .inl nw)), (a7, .inl (cI, 8, .inl (upd (cstF fr 4 j) j 4)))] := by
                rw [show (cstF wr 0 (j + 1) : Nat → Int32) = upd (cstF wr 0 j) j 0 from cstF_s _ _ _]
                exact hD
              have hP : va_P D vwCl [(fo, .inr (0, [.ref a0, .ref a1, .ref a2, .ref a3, .ref a4, .ref a5, .ref a6, .ref a7, .int (nI (B2))])), (a0, .inl (cI, 32, .inl (fun _ => 0))), (a1, .inl (cI, 32, .inl ky)), (a2, .inl (cI, 32, .inl vl)), (a3, .inl (cI, 32, .inl mk)), (a4, .inl (cI, 8, .inl (cstF wr 0 (j + 1)))), (a5, .inl (cI, 32, .inl lv)), (a6, .inl (cI, 16, .inl nw)), (a7, .inl (cI, 8, .inl (cstF fr 4 (j + 1))))] H := by
                rw [show (cstF fr 4 (j + 1) : Nat → Int32) = upd (cstF fr 4 j) j 4 from cstF_s _ _ _]
                exact hP
              have hD : va_D A [(fo, .inr (0, [.ref a0, .ref a1, .ref a2, .ref a3, .ref a4, .ref a5, .ref a6, .ref a7, .int (nI (B2))])), (a0, .inl (cI, 32, .inl (fun _ => 0))), (a1, .inl (cI, 32, .inl ky)), (a2, .inl (cI, 32, .inl vl)), (a3, .inl (cI, 32, .inl mk)), (a4, .inl (cI, 8, .inl (cstF wr 0 (j + 1)))), (a5, .inl (cI, 32, .inl lv)), (a6, .inl (cI, 16, .inl nw)), (a7, .inl (cI, 8, .inl (cstF fr 4 (j + 1))))] := by
                rw [show (cstF fr 4 (j + 1) : Nat → Int32) = upd (cstF fr 4 j) j 4 from cstF_s _ _ _]
                exact hD
              have hP : va_P D vwCl [(fo, .inr (0, [.ref a0, .ref a1, .ref a2, .ref a3, .ref a4, .ref a5, .ref a6, .ref a7, .int (nI (B2))])), (a0, .inl (cI, 32, .inl (fun _ => 0))), (a1, .inl (cI, 32, .inl ky)), (a2, .inl (cI, 32, .inl vl)), (a3, .inl (cI, 32, .inl mk)), (a4, .inl (cI, 8, .inl (cstF wr 0 (j + 1)))), (a5, .inl (cI, 32, .inl lv)), (a6, .inl (cI, 16, .inl nw)), (a7, .inl (cI, 8, .inl (cstF fr 4 (j + 1))))] H := hP
              have hD : va_D A [(fo, .inr (0, [.ref a0, .ref a1, .ref a2, .ref a3, .ref a4, .ref a5, .ref a6, .ref a7, .int (nI (B2))])), (a0, .inl (cI, 32, .inl (fun _ => 0))), (a1, .inl (cI, 32, .inl ky)), (a2, .inl (cI, 32, .inl vl)), (a3, .inl (cI, 32, .inl mk)), (a4, .inl (cI, 8, .inl (cstF wr 0 (j + 1)))), (a5, .inl (cI, 32, .inl lv)), (a6, .inl (cI, 16, .inl nw)), (a7, .inl (cI, 8, .inl (cstF fr 4 (j + 1))))] := hD
              exact ih37 (j + 1) (by omega) (by omega) _ _ hP hD hS _ (lv_sub hl [1, 2, 0] rfl)
        have hl : lv_has ls 3 [(2, .int (nI (0))), (0, .ref fo), (1, .int (nI (B2)))] := lv_re hl 0 rfl (show 0 = nI (0) from rfl)
        have hP : va_P D vwCl [(fo, .inr (0, [.ref a0, .ref a1, .ref a2, .ref a3, .ref a4, .ref a5, .ref a6, .ref a7, .int (nI (B2))])), (a0, .inl (cI, 32, .inl (fun _ => 0))), (a1, .inl (cI, 32, .inl ky)), (a2, .inl (cI, 32, .inl vl)), (a3, .inl (cI, 32, .inl mk)), (a4, .inl (cI, 8, .inl (cstF wr 0 0))), (a5, .inl (cI, 32, .inl lv)), (a6, .inl (cI, 16, .inl nw)), (a7, .inl (cI, 8, .inl fr))] H := by
          rw [show (cstF wr 0 0 : Nat → Int32) = wr from cstF_0 _ _]
          exact hP
        have hD : va_D A [(fo, .inr (0, [.ref a0, .ref a1, .ref a2, .ref a3, .ref a4, .ref a5, .ref a6, .ref a7, .int (nI (B2))])), (a0, .inl (cI, 32, .inl (fun _ => 0))), (a1, .inl (cI, 32, .inl ky)), (a2, .inl (cI, 32, .inl vl)), (a3, .inl (cI, 32, .inl mk)), (a4, .inl (cI, 8, .inl (cstF wr 0 0))), (a5, .inl (cI, 32, .inl lv)), (a6, .inl (cI, 16, .inl nw)), (a7, .inl (cI, 8, .inl fr))] := by
          rw [show (cstF wr 0 0 : Nat → Int32) = wr from cstF_0 _ _]
          exact hD
        have hP : va_P D vwCl [(fo, .inr (0, [.ref a0, .ref a1, .ref a2, .ref a3, .ref a4, .ref a5, .ref a6, .ref a7, .int (nI (B2))])), (a0, .inl (cI, 32, .inl (fun _ => 0))), (a1, .inl (cI, 32, .inl ky)), (a2, .inl (cI, 32, .inl vl)), (a3, .inl (cI, 32, .inl mk)), (a4, .inl (cI, 8, .inl (cstF wr 0 0))), (a5, .inl (cI, 32, .inl lv)), (a6, .inl (cI, 16, .inl nw)), (a7, .inl (cI, 8, .inl (cstF fr 4 0)))] H := by
          rw [show (cstF fr 4 0 : Nat → Int32) = fr from cstF_0 _ _]
          exact hP
        have hD : va_D A [(fo, .inr (0, [.ref a0, .ref a1, .ref a2, .ref a3, .ref a4, .ref a5, .ref a6, .ref a7, .int (nI (B2))])), (a0, .inl (cI, 32, .inl (fun _ => 0))), (a1, .inl (cI, 32, .inl ky)), (a2, .inl (cI, 32, .inl vl)), (a3, .inl (cI, 32, .inl mk)), (a4, .inl (cI, 8, .inl (cstF wr 0 0))), (a5, .inl (cI, 32, .inl lv)), (a6, .inl (cI, 16, .inl nw)), (a7, .inl (cI, 8, .inl (cstF fr 4 0)))] := by
          rw [show (cstF fr 4 0 : Nat → Int32) = fr from cstF_0 _ _]
          exact hD
        have hP : va_P D vwCl [(fo, .inr (0, [.ref a0, .ref a1, .ref a2, .ref a3, .ref a4, .ref a5, .ref a6, .ref a7, .int (nI (B2))])), (a0, .inl (cI, 32, .inl (fun _ => 0))), (a1, .inl (cI, 32, .inl ky)), (a2, .inl (cI, 32, .inl vl)), (a3, .inl (cI, 32, .inl mk)), (a4, .inl (cI, 8, .inl (cstF wr 0 0))), (a5, .inl (cI, 32, .inl lv)), (a6, .inl (cI, 16, .inl nw)), (a7, .inl (cI, 8, .inl (cstF fr 4 0)))] H := hP
        have hD : va_D A [(fo, .inr (0, [.ref a0, .ref a1, .ref a2, .ref a3, .ref a4, .ref a5, .ref a6, .ref a7, .int (nI (B2))])), (a0, .inl (cI, 32, .inl (fun _ => 0))), (a1, .inl (cI, 32, .inl ky)), (a2, .inl (cI, 32, .inl vl)), (a3, .inl (cI, 32, .inl mk)), (a4, .inl (cI, 8, .inl (cstF wr 0 0))), (a5, .inl (cI, 32, .inl lv)), (a6, .inl (cI, 16, .inl nw)), (a7, .inl (cI, 8, .inl (cstF fr 4 0)))] := hD
        exact LP37 ((8 - 0) + 1) 0 (by omega) (by omega) _ _ hP hD hS _ (lv_sub hl [1, 2, 0] rfl)
      · skip
        have c19_1 := cn_nle (a := 32) (b := j) (by omega) (by omega) c19_1
        refine lv_aload_n hx hb dX0_renew_22 rfl (lv_at hl 0 rfl) ?_
        refine va_get (D := D) (ci := 0) (v := .ref a0) (C := RX0) (T := TX0) (N := 9) hx hb hts u6_X0 hown hK hP 0 rfl rfl 0 (by decide) (hts _ (m6 4 rfl)) (fun _ h9 => h9) rfl dX0_renew_23 ?_
        refine lv_iload_n hx hb dX0_renew_26 rfl (lv_at hl 2 rfl) ?_
        refine lv_iconst (v := 0) hx hb dX0_renew_27 (by decide) ?_
        refine ra_iast (i := j) hx hb hK hP hD hS 1 0 rfl rfl (by omega) (by decide) dX0_renew_28 (fun H locs hP hD hS => ?_)
        have hP : va_P D vwCl [(fo, .inr (0, [.ref a0, .ref a1, .ref a2, .ref a3, .ref a4, .ref a5, .ref a6, .ref a7, .int (nI (B2))])), (a0, .inl (cI, 32, .inl (upd (cstF kd 0 j) j 0))), (a1, .inl (cI, 32, .inl ky)), (a2, .inl (cI, 32, .inl vl)), (a3, .inl (cI, 32, .inl mk)), (a4, .inl (cI, 8, .inl wr)), (a5, .inl (cI, 32, .inl lv)), (a6, .inl (cI, 16, .inl nw)), (a7, .inl (cI, 8, .inl fr))] H := hP
        have hD : va_D A [(fo, .inr (0, [.ref a0, .ref a1, .ref a2, .ref a3, .ref a4, .ref a5, .ref a6, .ref a7, .int (nI (B2))])), (a0, .inl (cI, 32, .inl (upd (cstF kd 0 j) j 0))), (a1, .inl (cI, 32, .inl ky)), (a2, .inl (cI, 32, .inl vl)), (a3, .inl (cI, 32, .inl mk)), (a4, .inl (cI, 8, .inl wr)), (a5, .inl (cI, 32, .inl lv)), (a6, .inl (cI, 16, .inl nw)), (a7, .inl (cI, 8, .inl fr))] := hD
        refine lv_iinc (v := nI (j + 1)) (lv' := [(2, .int (nI (j + 1))), (0, .ref fo), (1, .int (nI (B2)))]) hx hb dX0_renew_29 hl (k := 2) rfl (nI_add _ 1) (by decide) rfl (fun ls hl => ?_)
        refine lv_goto (tgt := 16) hx hb dX0_renew_32 (by decide) ?_
        have hl : lv_has ls 3 [(2, .int (nI ((j + 1)))), (0, .ref fo), (1, .int (nI (B2)))] := lv_re hl 0 rfl (show nI (j + 1) = nI ((j + 1)) from rfl)
        have hP : va_P D vwCl [(fo, .inr (0, [.ref a0, .ref a1, .ref a2, .ref a3, .ref a4, .ref a5, .ref a6, .ref a7, .int (nI (B2))])), (a0, .inl (cI, 32, .inl (cstF kd 0 (j + 1)))), (a1, .inl (cI, 32, .inl ky)), (a2, .inl (cI, 32, .inl vl)), (a3, .inl (cI, 32, .inl mk)), (a4, .inl (cI, 8, .inl wr)), (a5, .inl (cI, 32, .inl lv)), (a6, .inl (cI, 16, .inl nw)), (a7, .inl (cI, 8, .inl fr))] H := by
          rw [show (cstF kd 0 (j + 1) : Nat → Int32) = upd (cstF kd 0 j) j 0 from cstF_s _ _ _]
          exact hP
        have hD : va_D A [(fo, .inr (0, [.ref a0, .ref a1, .ref a2, .ref a3, .ref a4, .ref a5, .ref a6, .ref a7, .int (nI (B2))])), (a0, .inl (cI, 32, .inl (cstF kd 0 (j + 1)))), (a1, .inl (cI, 32, .inl ky)), (a2, .inl (cI, 32, .inl vl)), (a3, .inl (cI, 32, .inl mk)), (a4, .inl (cI, 8, .inl wr)), (a5, .inl (cI, 32, .inl lv)), (a6, .inl (cI, 16, .inl nw)), (a7, .inl (cI, 8, .inl fr))] := by
          rw [show (cstF kd 0 (j + 1) : Nat → Int32) = upd (cstF kd 0 j) j 0 from cstF_s _ _ _]
          exact hD
        have hP : va_P D vwCl [(fo, .inr (0, [.ref a0, .ref a1, .ref a2, .ref a3, .ref a4, .ref a5, .ref a6, .ref a7, .int (nI (B2))])), (a0, .inl (cI, 32, .inl (cstF kd 0 (j + 1)))), (a1, .inl (cI, 32, .inl ky)), (a2, .inl (cI, 32, .inl vl)), (a3, .inl (cI, 32, .inl mk)), (a4, .inl (cI, 8, .inl wr)), (a5, .inl (cI, 32, .inl lv)), (a6, .inl (cI, 16, .inl nw)), (a7, .inl (cI, 8, .inl fr))] H := hP
        have hD : va_D A [(fo, .inr (0, [.ref a0, .ref a1, .ref a2, .ref a3, .ref a4, .ref a5, .ref a6, .ref a7, .int (nI (B2))])), (a0, .inl (cI, 32, .inl (cstF kd 0 (j + 1)))), (a1, .inl (cI, 32, .inl ky)), (a2, .inl (cI, 32, .inl vl)), (a3, .inl (cI, 32, .inl mk)), (a4, .inl (cI, 8, .inl wr)), (a5, .inl (cI, 32, .inl lv)), (a6, .inl (cI, 16, .inl nw)), (a7, .inl (cI, 8, .inl fr))] := hD
        exact ih16 (j + 1) (by omega) (by omega) _ _ hP hD hS _ (lv_sub hl [1, 2, 0] rfl)
  have hl : lv_has ls 3 [(2, .int (nI (0))), (0, .ref fo), (1, .int (nI (B2)))] := lv_re hl 0 rfl (show 0 = nI (0) from rfl)
  have hP : va_P D vwCl [(fo, .inr (0, [.ref a0, .ref a1, .ref a2, .ref a3, .ref a4, .ref a5, .ref a6, .ref a7, .int (nI (B2))])), (a0, .inl (cI, 32, .inl (cstF kd 0 0))), (a1, .inl (cI, 32, .inl ky)), (a2, .inl (cI, 32, .inl vl)), (a3, .inl (cI, 32, .inl mk)), (a4, .inl (cI, 8, .inl wr)), (a5, .inl (cI, 32, .inl lv)), (a6, .inl (cI, 16, .inl nw)), (a7, .inl (cI, 8, .inl fr))] H := by
    rw [show (cstF kd 0 0 : Nat → Int32) = kd from cstF_0 _ _]
    exact hP
  have hD : va_D A [(fo, .inr (0, [.ref a0, .ref a1, .ref a2, .ref a3, .ref a4, .ref a5, .ref a6, .ref a7, .int (nI (B2))])), (a0, .inl (cI, 32, .inl (cstF kd 0 0))), (a1, .inl (cI, 32, .inl ky)), (a2, .inl (cI, 32, .inl vl)), (a3, .inl (cI, 32, .inl mk)), (a4, .inl (cI, 8, .inl wr)), (a5, .inl (cI, 32, .inl lv)), (a6, .inl (cI, 16, .inl nw)), (a7, .inl (cI, 8, .inl fr))] := by
    rw [show (cstF kd 0 0 : Nat → Int32) = kd from cstF_0 _ _]
    exact hD
  have hP : va_P D vwCl [(fo, .inr (0, [.ref a0, .ref a1, .ref a2, .ref a3, .ref a4, .ref a5, .ref a6, .ref a7, .int (nI (B2))])), (a0, .inl (cI, 32, .inl (cstF kd 0 0))), (a1, .inl (cI, 32, .inl ky)), (a2, .inl (cI, 32, .inl vl)), (a3, .inl (cI, 32, .inl mk)), (a4, .inl (cI, 8, .inl wr)), (a5, .inl (cI, 32, .inl lv)), (a6, .inl (cI, 16, .inl nw)), (a7, .inl (cI, 8, .inl fr))] H := hP
  have hD : va_D A [(fo, .inr (0, [.ref a0, .ref a1, .ref a2, .ref a3, .ref a4, .ref a5, .ref a6, .ref a7, .int (nI (B2))])), (a0, .inl (cI, 32, .inl (cstF kd 0 0))), (a1, .inl (cI, 32, .inl ky)), (a2, .inl (cI, 32, .inl vl)), (a3, .inl (cI, 32, .inl mk)), (a4, .inl (cI, 8, .inl wr)), (a5, .inl (cI, 32, .inl lv)), (a6, .inl (cI, 16, .inl nw)), (a7, .inl (cI, 8, .inl fr))] := hD
  exact LP16 ((32 - 0) + 1) 0 (by omega) (by omega) _ _ hP hD hS _ (lv_sub hl [1, 2, 0] rfl)
theorem dX0_copyFrom_0 : decode cX0_copyFrom 0 = .ok (.aload_n 0, 1) := by decide +kernel
theorem dX0_copyFrom_1 : decode cX0_copyFrom 1 = .ok (.aload_n 1, 1) := by decide +kernel
theorem dX0_copyFrom_2 : decode cX0_copyFrom 2 = .ok (.getfield 45, 3) := by decide +kernel
theorem dX0_copyFrom_5 : decode cX0_copyFrom 5 = .ok (.putfield 45, 3) := by decide +kernel
theorem dX0_copyFrom_8 : decode cX0_copyFrom 8 = .ok (.aload_n 1, 1) := by decide +kernel
theorem dX0_copyFrom_9 : decode cX0_copyFrom 9 = .ok (.getfield 11, 3) := by decide +kernel
theorem dX0_copyFrom_12 : decode cX0_copyFrom 12 = .ok (.aload_n 0, 1) := by decide +kernel
theorem dX0_copyFrom_13 : decode cX0_copyFrom 13 = .ok (.getfield 11, 3) := by decide +kernel
theorem dX0_copyFrom_16 : decode cX0_copyFrom 16 = .ok (.invokestatic 52, 3) := by decide +kernel
theorem dX0_copyFrom_19 : decode cX0_copyFrom 19 = .ok (.aload_n 1, 1) := by decide +kernel
theorem dX0_copyFrom_20 : decode cX0_copyFrom 20 = .ok (.getfield 15, 3) := by decide +kernel
theorem dX0_copyFrom_23 : decode cX0_copyFrom 23 = .ok (.aload_n 0, 1) := by decide +kernel
theorem dX0_copyFrom_24 : decode cX0_copyFrom 24 = .ok (.getfield 15, 3) := by decide +kernel
theorem dX0_copyFrom_27 : decode cX0_copyFrom 27 = .ok (.invokestatic 52, 3) := by decide +kernel
theorem dX0_copyFrom_30 : decode cX0_copyFrom 30 = .ok (.aload_n 1, 1) := by decide +kernel
theorem dX0_copyFrom_31 : decode cX0_copyFrom 31 = .ok (.getfield 18, 3) := by decide +kernel
theorem dX0_copyFrom_34 : decode cX0_copyFrom 34 = .ok (.aload_n 0, 1) := by decide +kernel
theorem dX0_copyFrom_35 : decode cX0_copyFrom 35 = .ok (.getfield 18, 3) := by decide +kernel
theorem dX0_copyFrom_38 : decode cX0_copyFrom 38 = .ok (.invokestatic 52, 3) := by decide +kernel
theorem dX0_copyFrom_41 : decode cX0_copyFrom 41 = .ok (.aload_n 1, 1) := by decide +kernel
theorem dX0_copyFrom_42 : decode cX0_copyFrom 42 = .ok (.getfield 21, 3) := by decide +kernel
theorem dX0_copyFrom_45 : decode cX0_copyFrom 45 = .ok (.aload_n 0, 1) := by decide +kernel
theorem dX0_copyFrom_46 : decode cX0_copyFrom 46 = .ok (.getfield 21, 3) := by decide +kernel
theorem dX0_copyFrom_49 : decode cX0_copyFrom 49 = .ok (.invokestatic 52, 3) := by decide +kernel
theorem dX0_copyFrom_52 : decode cX0_copyFrom 52 = .ok (.aload_n 1, 1) := by decide +kernel
theorem dX0_copyFrom_53 : decode cX0_copyFrom 53 = .ok (.getfield 24, 3) := by decide +kernel
theorem dX0_copyFrom_56 : decode cX0_copyFrom 56 = .ok (.aload_n 0, 1) := by decide +kernel
theorem dX0_copyFrom_57 : decode cX0_copyFrom 57 = .ok (.getfield 24, 3) := by decide +kernel
theorem dX0_copyFrom_60 : decode cX0_copyFrom 60 = .ok (.invokestatic 52, 3) := by decide +kernel
theorem dX0_copyFrom_63 : decode cX0_copyFrom 63 = .ok (.aload_n 1, 1) := by decide +kernel
theorem dX0_copyFrom_64 : decode cX0_copyFrom 64 = .ok (.getfield 27, 3) := by decide +kernel
theorem dX0_copyFrom_67 : decode cX0_copyFrom 67 = .ok (.aload_n 0, 1) := by decide +kernel
theorem dX0_copyFrom_68 : decode cX0_copyFrom 68 = .ok (.getfield 27, 3) := by decide +kernel
theorem dX0_copyFrom_71 : decode cX0_copyFrom 71 = .ok (.invokestatic 52, 3) := by decide +kernel
theorem dX0_copyFrom_74 : decode cX0_copyFrom 74 = .ok (.aload_n 1, 1) := by decide +kernel
theorem dX0_copyFrom_75 : decode cX0_copyFrom 75 = .ok (.getfield 30, 3) := by decide +kernel
theorem dX0_copyFrom_78 : decode cX0_copyFrom 78 = .ok (.aload_n 0, 1) := by decide +kernel
theorem dX0_copyFrom_79 : decode cX0_copyFrom 79 = .ok (.getfield 30, 3) := by decide +kernel
theorem dX0_copyFrom_82 : decode cX0_copyFrom 82 = .ok (.invokestatic 52, 3) := by decide +kernel
theorem dX0_copyFrom_85 : decode cX0_copyFrom 85 = .ok (.aload_n 1, 1) := by decide +kernel
theorem dX0_copyFrom_86 : decode cX0_copyFrom 86 = .ok (.getfield 33, 3) := by decide +kernel
theorem dX0_copyFrom_89 : decode cX0_copyFrom 89 = .ok (.aload_n 0, 1) := by decide +kernel
theorem dX0_copyFrom_90 : decode cX0_copyFrom 90 = .ok (.getfield 33, 3) := by decide +kernel
theorem dX0_copyFrom_93 : decode cX0_copyFrom 93 = .ok (.invokestatic 52, 3) := by decide +kernel
theorem dX0_copyFrom_96 : decode cX0_copyFrom 96 = .ok (.return_, 1) := by decide +kernel
theorem q0_copyFrom : CQ W6 yX0_copyFrom cX0_copyFrom 2 none 1 := ⟨(m6 96 rfl), by decide, by decide, by decide +kernel⟩
set_option maxHeartbeats 4000000 in
set_option maxRecDepth 100000 in
theorem c0_copyFrom (l : Launch) (D : va_G) (cI : ClassId) (fo a0 a1 a2 a3 a4 a5 a6 a7 : Nat) (kd ky vl mk wr lv nw fr : Nat → Int32) (B : Nat) (hB8 : B ≤ 8) (go b0 b1 b2 b3 b4 b5 b6 b7 : Nat) (kd2 ky2 vl2 mk2 wr2 lv2 nw2 fr2 : Nat → Int32) (B2 : Nat) : GQv l yX0_copyFrom cX0_copyFrom 2 W6 2 81 D [(fo, .inr (0, [.ref a0, .ref a1, .ref a2, .ref a3, .ref a4, .ref a5, .ref a6, .ref a7, .int (nI (B))])), (a0, .inl (cI, 32, .inl kd)), (a1, .inl (cI, 32, .inl ky)), (a2, .inl (cI, 32, .inl vl)), (a3, .inl (cI, 32, .inl mk)), (a4, .inl (cI, 8, .inl wr)), (a5, .inl (cI, 32, .inl lv)), (a6, .inl (cI, 16, .inl nw)), (a7, .inl (cI, 8, .inl fr)), (go, .inr (0, [.ref b0, .ref b1, .ref b2, .ref b3, .ref b4, .ref b5, .ref b6, .ref b7, .int (nI (B2))])), (b0, .inl (cI, 32, .inl kd2)), (b1, .inl (cI, 32, .inl ky2)), (b2, .inl (cI, 32, .inl vl2)), (b3, .inl (cI, 32, .inl mk2)), (b4, .inl (cI, 8, .inl wr2)), (b5, .inl (cI, 32, .inl lv2)), (b6, .inl (cI, 16, .inl nw2)), (b7, .inl (cI, 8, .inl fr2))] [(cI, .int)] [.ref fo, .ref go] (fun u9 : va_W => u9 = [(fo, .inr (0, [.ref a0, .ref a1, .ref a2, .ref a3, .ref a4, .ref a5, .ref a6, .ref a7, .int (nI (B2))])), (a0, .inl (cI, 32, .inl kd2)), (a1, .inl (cI, 32, .inl ky2)), (a2, .inl (cI, 32, .inl vl2)), (a3, .inl (cI, 32, .inl mk2)), (a4, .inl (cI, 8, .inl wr2)), (a5, .inl (cI, 32, .inl lv2)), (a6, .inl (cI, 16, .inl nw2)), (a7, .inl (cI, 8, .inl fr2)), (go, .inr (0, [.ref b0, .ref b1, .ref b2, .ref b3, .ref b4, .ref b5, .ref b6, .ref b7, .int (nI (B2))])), (b0, .inl (cI, 32, .inl kd2)), (b1, .inl (cI, 32, .inl ky2)), (b2, .inl (cI, 32, .inl vl2)), (b3, .inl (cI, 32, .inl mk2)), (b4, .inl (cI, 8, .inl wr2)), (b5, .inl (cI, 32, .inl lv2)), (b6, .inl (cI, 16, .inl nw2)), (b7, .inl (cI, 8, .inl fr2))]) := by
  refine gq_of RX0 (by decide) rfl (Nat.le_of_ble_eq_true rfl) ?_
  intro p e s m below meth c ls H hX hr hlocks hK hN hP hD hS hl
  generalize gp_A [(fo, .inr (0, [.ref a0, .ref a1, .ref a2, .ref a3, .ref a4, .ref a5, .ref a6, .ref a7, .int (nI (B))])), (a0, .inl (cI, 32, .inl kd)), (a1, .inl (cI, 32, .inl ky)), (a2, .inl (cI, 32, .inl vl)), (a3, .inl (cI, 32, .inl mk)), (a4, .inl (cI, 8, .inl wr)), (a5, .inl (cI, 32, .inl lv)), (a6, .inl (cI, 16, .inl nw)), (a7, .inl (cI, 8, .inl fr)), (go, .inr (0, [.ref b0, .ref b1, .ref b2, .ref b3, .ref b4, .ref b5, .ref b6, .ref b7, .int (nI (B2))])), (b0, .inl (cI, 32, .inl kd2)), (b1, .inl (cI, 32, .inl ky2)), (b2, .inl (cI, 32, .inl vl2)), (b3, .inl (cI, 32, .inl mk2)), (b4, .inl (cI, 8, .inl wr2)), (b5, .inl (cI, 32, .inl lv2)), (b6, .inl (cI, 16, .inl nw2)), (b7, .inl (cI, 8, .inl fr2))] = A at hD hS ⊢
  have hx := hX.1
  have hb := hX.2.1
  have hown := hX.2.2.2.1
  have hts := hX.2.2.2.2
  have hl : lv_has ls 2 [(0, .ref fo), (1, .ref go)] := hl
  refine lv_aload_n hx hb dX0_copyFrom_0 rfl (lv_at hl 0 rfl) ?_
  refine lv_aload_n hx hb dX0_copyFrom_1 rfl (lv_at hl 1 rfl) ?_
  refine va_get (D := D) (ci := 0) (v := .int (nI (B2))) (C := RX0) (T := TX0) (N := 9) hx hb hts u6_X0 hown hK hP 9 rfl rfl 8 (by decide) (hts _ (m6 19 rfl)) (fun _ h9 => h9) rfl dX0_copyFrom_2 ?_
  refine va_put (D := D) (ci := 0) (v := .int (nI (B2))) (ty := .int) (C := RX0) (T := TX0) (N := 9) hx hb hts u6_X0 tyX0 tyX0_ok nmX0 hown hK hP hD hS 0 rfl rfl 8 (by decide) (hts _ (m6 19 rfl)) (fun _ h9 => h9) rfl (by decide +kernel) rfl rfl (Nat.le_of_ble_eq_true rfl) dX0_copyFrom_5 (fun H locs hP hD hS => ?_)
  have hP : va_P D vwCl [(fo, .inr (0, [.ref a0, .ref a1, .ref a2, .ref a3, .ref a4, .ref a5, .ref a6, .ref a7, .int (nI (B2))])), (a0, .inl (cI, 32, .inl kd)), (a1, .inl (cI, 32, .inl ky)), (a2, .inl (cI, 32, .inl vl)), (a3, .inl (cI, 32, .inl mk)), (a4, .inl (cI, 8, .inl wr)), (a5, .inl (cI, 32, .inl lv)), (a6, .inl (cI, 16, .inl nw)), (a7, .inl (cI, 8, .inl fr)), (go, .inr (0, [.ref b0, .ref b1, .ref b2, .ref b3, .ref b4, .ref b5, .ref b6, .ref b7, .int (nI (B2))])), (b0, .inl (cI, 32, .inl kd2)), (b1, .inl (cI, 32, .inl ky2)), (b2, .inl (cI, 32, .inl vl2)), (b3, .inl (cI, 32, .inl mk2)), (b4, .inl (cI, 8, .inl wr2)), (b5, .inl (cI, 32, .inl lv2)), (b6, .inl (cI, 16, .inl nw2)), (b7, .inl (cI, 8, .inl fr2))] H := hP
  have hD : va_D A [(fo, .inr (0, [.ref a0, .ref a1, .ref a2, .ref a3, .ref a4, .ref a5, .ref a6, .ref a7, .int (nI (B2))])), (a0, .inl (cI, 32, .inl kd)), (a1, .inl (cI, 32, .inl ky)), (a2, .inl (cI, 32, .inl vl)), (a3, .inl (cI, 32, .inl mk)), (a4, .inl (cI, 8, .inl wr)), (a5, .inl (cI, 32, .inl lv)), (a6, .inl (cI, 16, .inl nw)), (a7, .inl (cI, 8, .inl fr)), (go, .inr (0, [.ref b0, .ref b1, .ref b2, .ref b3, .ref b4, .ref b5, .ref b6, .ref b7, .int (nI (B2))])), (b0, .inl (cI, 32, .inl kd2)), (b1, .inl (cI, 32, .inl ky2)), (b2, .inl (cI, 32, .inl vl2)), (b3, .inl (cI, 32, .inl mk2)), (b4, .inl (cI, 8, .inl wr2)), (b5, .inl (cI, 32, .inl lv2)), (b6, .inl (cI, 16, .inl nw2)), (b7, .inl (cI, 8, .inl fr2))] := hD
  refine lv_aload_n hx hb dX0_copyFrom_8 rfl (lv_at hl 1 rfl) ?_
  refine va_get (D := D) (ci := 0) (v := .ref b0) (C := RX0) (T := TX0) (N := 9) hx hb hts u6_X0 hown hK hP 9 rfl rfl 0 (by decide) (hts _ (m6 4 rfl)) (fun _ h9 => h9) rfl dX0_copyFrom_9 ?_
  refine lv_aload_n hx hb dX0_copyFrom_12 rfl (lv_at hl 0 rfl) ?_
  refine va_get (D := D) (ci := 0) (v := .ref a0) (C := RX0) (T := TX0) (N := 9) hx hb hts u6_X0 hown hK hP 0 rfl rfl 0 (by decide) (hts _ (m6 4 rfl)) (fun _ h9 => h9) rfl dX0_copyFrom_13 ?_
  refine gp_backv (nq_runS hX good6 (m6 31 rfl) (c6_copyRow l D cI b0 a0 32 kd2 kd (by omega)) q6_copyRow hN.1 (m6 30 rfl) ⟨Nat.le_of_ble_eq_true rfl, Nat.le_of_ble_eq_true rfl⟩ hK hN [0] rfl hP hD [10, 1] (by decide) rfl hl.1 rfl (Nat.le_of_ble_eq_true rfl) dX0_copyFrom_16 ⟨Nat.zero_le _, Nat.zero_le _⟩) hP hD hS [10, 1] rfl (fun u h => by rw [h]; simp only [List.map_cons, List.map_nil]) (fun u H locs hpost hP hD hS => ?_)
  subst hpost
  have hP : va_P D vwCl [(fo, .inr (0, [.ref a0, .ref a1, .ref a2, .ref a3, .ref a4, .ref a5, .ref a6, .ref a7, .int (nI (B2))])), (a0, .inl (cI, 32, .inl kd2)), (a1, .inl (cI, 32, .inl ky)), (a2, .inl (cI, 32, .inl vl)), (a3, .inl (cI, 32, .inl mk)), (a4, .inl (cI, 8, .inl wr)), (a5, .inl (cI, 32, .inl lv)), (a6, .inl (cI, 16, .inl nw)), (a7, .inl (cI, 8, .inl fr)), (go, .inr (0, [.ref b0, .ref b1, .ref b2, .ref b3, .ref b4, .ref b5, .ref b6, .ref b7, .int (nI (B2))])), (b0, .inl (cI, 32, .inl kd2)), (b1, .inl (cI, 32, .inl ky2)), (b2, .inl (cI, 32, .inl vl2)), (b3, .inl (cI, 32, .inl mk2)), (b4, .inl (cI, 8, .inl wr2)), (b5, .inl (cI, 32, .inl lv2)), (b6, .inl (cI, 16, .inl nw2)), (b7, .inl (cI, 8, .inl fr2))] H := hP
  have hD : va_D A [(fo, .inr (0, [.ref a0, .ref a1, .ref a2, .ref a3, .ref a4, .ref a5, .ref a6, .ref a7, .int (nI (B2))])), (a0, .inl (cI, 32, .inl kd2)), (a1, .inl (cI, 32, .inl ky)), (a2, .inl (cI, 32, .inl vl)), (a3, .inl (cI, 32, .inl mk)), (a4, .inl (cI, 8, .inl wr)), (a5, .inl (cI, 32, .inl lv)), (a6, .inl (cI, 16, .inl nw)), (a7, .inl (cI, 8, .inl fr)), (go, .inr (0, [.ref b0, .ref b1, .ref b2, .ref b3, .ref b4, .ref b5, .ref b6, .ref b7, .int (nI (B2))])), (b0, .inl (cI, 32, .inl kd2)), (b1, .inl (cI, 32, .inl ky2)), (b2, .inl (cI, 32, .inl vl2)), (b3, .inl (cI, 32, .inl mk2)), (b4, .inl (cI, 8, .inl wr2)), (b5, .inl (cI, 32, .inl lv2)), (b6, .inl (cI, 16, .inl nw2)), (b7, .inl (cI, 8, .inl fr2))] := hD
  refine lv_aload_n hx hb dX0_copyFrom_19 rfl (lv_at hl 1 rfl) ?_
  refine va_get (D := D) (ci := 0) (v := .ref b1) (C := RX0) (T := TX0) (N := 9) hx hb hts u6_X0 hown hK hP 9 rfl rfl 1 (by decide) (hts _ (m6 5 rfl)) (fun _ h9 => h9) rfl dX0_copyFrom_20 ?_
  refine lv_aload_n hx hb dX0_copyFrom_23 rfl (lv_at hl 0 rfl) ?_
  refine va_get (D := D) (ci := 0) (v := .ref a1) (C := RX0) (T := TX0) (N := 9) hx hb hts u6_X0 hown hK hP 0 rfl rfl 1 (by decide) (hts _ (m6 5 rfl)) (fun _ h9 => h9) rfl dX0_copyFrom_24 ?_
  refine gp_backv (nq_runS hX good6 (m6 31 rfl) (c6_copyRow l D cI b1 a1 32 ky2 ky (by omega)) q6_copyRow hN.1 (m6 30 rfl) ⟨Nat.le_of_ble_eq_true rfl, Nat.le_of_ble_eq_true rfl⟩ hK hN [0] rfl hP hD [11, 2] (by decide) rfl hl.1 rfl (Nat.le_of_ble_eq_true rfl) dX0_copyFrom_27 ⟨Nat.zero_le _, Nat.zero_le _⟩) hP hD hS [11, 2] rfl (fun u h => by rw [h]; simp only [List.map_cons, List.map_nil]) (fun u H locs hpost hP hD hS => ?_)
  subst hpost
  have hP : va_P D vwCl [(fo, .inr (0, [.ref a0, .ref a1, .ref a2, .ref a3, .ref a4, .ref a5, .ref a6, .ref a7, .int (nI (B2))])), (a0, .inl (cI, 32, .inl kd2)), (a1, .inl (cI, 32, .inl ky2)), (a2, .inl (cI, 32, .inl vl)), (a3, .inl (cI, 32, .inl mk)), (a4, .inl (cI, 8, .inl wr)), (a5, .inl (cI, 32, .inl lv)), (a6, .inl (cI, 16, .inl nw)), (a7, .inl (cI, 8, .inl fr)), (go, .inr (0, [.ref b0, .ref b1, .ref b2, .ref b3, .ref b4, .ref b5, .ref b6, .ref b7, .int (nI (B2))])), (b0, .inl (cI, 32, .inl kd2)), (b1, .inl (cI, 32, .inl ky2)), (b2, .inl (cI, 32, .inl vl2)), (b3, .inl (cI, 32, .inl mk2)), (b4, .inl (cI, 8, .inl wr2)), (b5, .inl (cI, 32, .inl lv2)), (b6, .inl (cI, 16, .inl nw2)), (b7, .inl (cI, 8, .inl fr2))] H := hP
  have hD : va_D A [(fo, .inr (0, [.ref a0, .ref a1, .ref a2, .ref a3, .ref a4, .ref a5, .ref a6, .ref a7, .int (nI (B2))])), (a0, .inl (cI, 32, .inl kd2)), (a1, .inl (cI, 32, .inl ky2)), (a2, .inl (cI, 32, .inl vl)), (a3, .inl (cI, 32, .inl mk)), (a4, .inl (cI, 8, .inl wr)), (a5, .inl (cI, 32, .inl lv)), (a6, .inl (cI, 16, .inl nw)), (a7, .inl (cI, 8, .inl fr)), (go, .inr (0, [.ref b0, .ref b1, .ref b2, .ref b3, .ref b4, .ref b5, .ref b6, .ref b7, .int (nI (B2))])), (b0, .inl (cI, 32, .inl kd2)), (b1, .inl (cI, 32, .inl ky2)), (b2, .inl (cI, 32, .inl vl2)), (b3, .inl (cI, 32, .inl mk2)), (b4, .inl (cI, 8, .inl wr2)), (b5, .inl (cI, 32, .inl lv2)), (b6, .inl (cI, 16, .inl nw2)), (b7, .inl (cI, 8, .inl fr2))] := hD
  refine lv_aload_n hx hb dX0_copyFrom_30 rfl (lv_at hl 1 rfl) ?_
  refine va_get (D := D) (ci := 0) (v := .ref b2) (C := RX0) (T := TX0) (N := 9) hx hb hts u6_X0 hown hK hP 9 rfl rfl 2 (by decide) (hts _ (m6 6 rfl)) (fun _ h9 => h9) rfl dX0_copyFrom_31 ?_
  refine lv_aload_n hx hb dX0_copyFrom_34 rfl (lv_at hl 0 rfl) ?_
  refine va_get (D := D) (ci := 0) (v := .ref a2) (C := RX0) (T := TX0) (N := 9) hx hb hts u6_X0 hown hK hP 0 rfl rfl 2 (by decide) (hts _ (m6 6 rfl)) (fun _ h9 => h9) rfl dX0_copyFrom_35 ?_
  refine gp_backv (nq_runS hX good6 (m6 31 rfl) (c6_copyRow l D cI b2 a2 32 vl2 vl (by omega)) q6_copyRow hN.1 (m6 30 rfl) ⟨Nat.le_of_ble_eq_true rfl, Nat.le_of_ble_eq_true rfl⟩ hK hN [0] rfl hP hD [12, 3] (by decide) rfl hl.1 rfl (Nat.le_of_ble_eq_true rfl) dX0_copyFrom_38 ⟨Nat.zero_le _, Nat.zero_le _⟩) hP hD hS [12, 3] rfl (fun u h => by rw [h]; simp only [List.map_cons, List.map_nil]) (fun u H locs hpost hP hD hS => ?_)
  subst hpost
  have hP : va_P D vwCl [(fo, .inr (0, [.ref a0, .ref a1, .ref a2, .ref a3, .ref a4, .ref a5, .ref a6, .ref a7, .int (nI (B2))])), (a0, .inl (cI, 32, .inl kd2)), (a1, .inl (cI, 32, .inl ky2)), (a2, .inl (cI, 32, .inl vl2)), (a3, .inl (cI, 32, .inl mk)), (a4, .inl (cI, 8, .inl wr)), (a5, .inl (cI, 32, .inl lv)), (a6, .inl (cI, 16, .inl nw)), (a7, .inl (cI, 8, .inl fr)), (go, .inr (0, [.ref b0, .ref b1, .ref b2, .ref b3, .ref b4, .ref b5, .ref b6, .ref b7, .int (nI (B2))])), (b0, .inl (cI, 32, .inl kd2)), (b1, .inl (cI, 32, .inl ky2)), (b2, .inl (cI, 32, .inl vl2)), (b3, .inl (cI, 32, .inl mk2)), (b4, .inl (cI, 8, .inl wr2)), (b5, .inl (cI, 32, .inl lv2)), (b6, .inl (cI, 16, .inl nw2)), (b7, .inl (cI, 8, .inl fr2))] H := hP
  have hD : va_D A [(fo, .inr (0, [.ref a0, .ref a1, .ref a2, .ref a3, .ref a4, .ref a5, .ref a6, .ref a7, .int (nI (B2))])), (a0, .inl (cI, 32, .inl kd2)), (a1, .inl (cI, 32, .inl ky2)), (a2, .inl (cI, 32, .inl vl2)), (a3, .inl (cI, 32, .inl mk)), (a4, .inl (cI, 8, .inl wr)), (a5, .inl (cI, 32, .inl lv)), (a6, .inl (cI, 16, .inl nw)), (a7, .inl (cI, 8, .inl fr)), (go, .inr (0, [.ref b0, .ref b1, .ref b2, .ref b3, .ref b4, .ref b5, .ref b6, .ref b7, .int (nI (B2))])), (b0, .inl (cI, 32, .inl kd2)), (b1, .inl (cI, 32, .inl ky2)), (b2, .inl (cI, 32, .inl vl2)), (b3, .inl (cI, 32, .inl mk2)), (b4, .inl (cI, 8, .inl wr2)), (b5, .inl (cI, 32, .inl lv2)), (b6, .inl (cI, 16, .inl nw2)), (b7, .inl (cI, 8, .inl fr2))] := hD
  refine lv_aload_n hx hb dX0_copyFrom_41 rfl (lv_at hl 1 rfl) ?_
  refine va_get (D := D) (ci := 0) (v := .ref b3) (C := RX0) (T := TX0) (N := 9) hx hb hts u6_X0 hown hK hP 9 rfl rfl 3 (by decide) (hts _ (m6 7 rfl)) (fun _ h9 => h9) rfl dX0_copyFrom_42 ?_
  refine lv_aload_n hx hb dX0_copyFrom_45 rfl (lv_at hl 0 rfl) ?_
  refine va_get (D := D) (ci := 0) (v := .ref a3) (C := RX0) (T := TX0) (N := 9) hx hb hts u6_X0 hown hK hP 0 rfl rfl 3 (by decide) (hts _ (m6 7 rfl)) (fun _ h9 => h9) rfl dX0_copyFrom_46 ?_
  refine gp_backv (nq_runS hX good6 (m6 31 rfl) (c6_copyRow l D cI b3 a3 32 mk2 mk (by omega)) q6_copyRow hN.1 (m6 30 rfl) ⟨Nat.le_of_ble_eq_true rfl, Nat.le_of_ble_eq_true rfl⟩ hK hN [0] rfl hP hD [13, 4] (by decide) rfl hl.1 rfl (Nat.le_of_ble_eq_true rfl) dX0_copyFrom_49 ⟨Nat.zero_le _, Nat.zero_le _⟩) hP hD hS [13, 4] rfl (fun u h => by rw [h]; simp only [List.map_cons, List.map_nil]) (fun u H locs hpost hP hD hS => ?_)
  subst hpost
  have hP : va_P D vwCl [(fo, .inr (0, [.ref a0, .ref a1, .ref a2, .ref a3, .ref a4, .ref a5, .ref a6, .ref a7, .int (nI (B2))])), (a0, .inl (cI, 32, .inl kd2)), (a1, .inl (cI, 32, .inl ky2)), (a2, .inl (cI, 32, .inl vl2)), (a3, .inl (cI, 32, .inl mk2)), (a4, .inl (cI, 8, .inl wr)), (a5, .inl (cI, 32, .inl lv)), (a6, .inl (cI, 16, .inl nw)), (a7, .inl (cI, 8, .inl fr)), (go, .inr (0, [.ref b0, .ref b1, .ref b2, .ref b3, .ref b4, .ref b5, .ref b6, .ref b7, .int (nI (B2))])), (b0, .inl (cI, 32, .inl kd2)), (b1, .inl (cI, 32, .inl ky2)), (b2, .inl (cI, 32, .inl vl2)), (b3, .inl (cI, 32, .inl mk2)), (b4, .inl (cI, 8, .inl wr2)), (b5, .inl (cI, 32, .inl lv2)), (b6, .inl (cI, 16, .inl nw2)), (b7, .inl (cI, 8, .inl fr2))] H := hP
  have hD : va_D A [(fo, .inr (0, [.ref a0, .ref a1, .ref a2, .ref a3, .ref a4, .ref a5, .ref a6, .ref a7, .int (nI (B2))])), (a0, .inl (cI, 32, .inl kd2)), (a1, .inl (cI, 32, .inl ky2)), (a2, .inl (cI, 32, .inl vl2)), (a3, .inl (cI, 32, .inl mk2)), (a4, .inl (cI, 8, .inl wr)), (a5, .inl (cI, 32, .inl lv)), (a6, .inl (cI, 16, .inl nw)), (a7, .inl (cI, 8, .inl fr)), (go, .inr (0, [.ref b0, .ref b1, .ref b2, .ref b3, .ref b4, .ref b5, .ref b6, .ref b7, .int (nI (B2))])), (b0, .inl (cI, 32, .inl kd2)), (b1, .inl (cI, 32, .inl ky2)), (b2, .inl (cI, 32, .inl vl2)), (b3, .inl (cI, 32, .inl mk2)), (b4, .inl (cI, 8, .inl wr2)), (b5, .inl (cI, 32, .inl lv2)), (b6, .inl (cI, 16, .inl nw2)), (b7, .inl (cI, 8, .inl fr2))] := hD
  refine lv_aload_n hx hb dX0_copyFrom_52 rfl (lv_at hl 1 rfl) ?_
  refine va_get (D := D) (ci := 0) (v := .ref b4) (C := RX0) (T := TX0) (N := 9) hx hb hts u6_X0 hown hK hP 9 rfl rfl 4 (by decide) (hts _ (m6 8 rfl)) (fun _ h9 => h9) rfl dX0_copyFrom_53 ?_
  refine lv_aload_n hx hb dX0_copyFrom_56 rfl (lv_at hl 0 rfl) ?_
  refine va_get (D := D) (ci := 0) (v := .ref a4) (C := RX0) (T := TX0) (N := 9) hx hb hts u6_X0 hown hK hP 0 rfl rfl 4 (by decide) (hts _ (m6 8 rfl)) (fun _ h9 => h9) rfl dX0_copyFrom_57 ?_
  refine gp_backv (nq_runS hX good6 (m6 31 rfl) (c6_copyRow l D cI b4 a4 8 wr2 wr (by omega)) q6_copyRow hN.1 (m6 30 rfl) ⟨Nat.le_of_ble_eq_true rfl, Nat.le_of_ble_eq_true rfl⟩ hK hN [0] rfl hP hD [14, 5] (by decide) rfl hl.1 rfl (Nat.le_of_ble_eq_true rfl) dX0_copyFrom_60 ⟨Nat.zero_le _, Nat.zero_le _⟩) hP hD hS [14, 5] rfl (fun u h => by rw [h]; simp only [List.map_cons, List.map_nil]) (fun u H locs hpost hP hD hS => ?_)
  subst hpost
  have hP : va_P D vwCl [(fo, .inr (0, [.ref a0, .ref a1, .ref a2, .ref a3, .ref a4, .ref a5, .ref a6, .ref a7, .int (nI (B2))])), (a0, .inl (cI, 32, .inl kd2)), (a1, .inl (cI, 32, .inl ky2)), (a2, .inl (cI, 32, .inl vl2)), (a3, .inl (cI, 32, .inl mk2)), (a4, .inl (cI, 8, .inl wr2)), (a5, .inl (cI, 32, .inl lv)), (a6, .inl (cI, 16, .inl nw)), (a7, .inl (cI, 8, .inl fr)), (go, .inr (0, [.ref b0, .ref b1, .ref b2, .ref b3, .ref b4, .ref b5, .ref b6, .ref b7, .int (nI (B2))])), (b0, .inl (cI, 32, .inl kd2)), (b1, .inl (cI, 32, .inl ky2)), (b2, .inl (cI, 32, .inl vl2)), (b3, .inl (cI, 32, .inl mk2)), (b4, .inl (cI, 8, .inl wr2)), (b5, .inl (cI, 32, .inl lv2)), (b6, .inl (cI, 16, .inl nw2)), (b7, .inl (cI, 8, .inl fr2))] H := hP
  have hD : va_D A [(fo, .inr (0, [.ref a0, .ref a1, .ref a2, .ref a3, .ref a4, .ref a5, .ref a6, .ref a7, .int (nI (B2))])), (a0, .inl (cI, 32, .inl kd2)), (a1, .inl (cI, 32, .inl ky2)), (a2, .inl (cI, 32, .inl vl2)), (a3, .inl (cI, 32, .inl mk2)), (a4, .inl (cI, 8, .inl wr2)), (a5, .inl (cI, 32, .inl lv)), (a6, .inl (cI, 16, .inl nw)), (a7, .inl (cI, 8, .inl fr)), (go, .inr (0, [.ref b0, .ref b1, .ref b2, .ref b3, .ref b4, .ref b5, .ref b6, .ref b7, .int (nI (B2))])), (b0, .inl (cI, 32, .inl kd2)), (b1, .inl (cI, 32, .inl ky2)), (b2, .inl (cI, 32, .inl vl2)), (b3, .inl (cI, 32, .inl mk2)), (b4, .inl (cI, 8, .inl wr2)), (b5, .inl (cI, 32, .inl lv2)), (b6, .inl (cI, 16, .inl nw2)), (b7, .inl (cI, 8, .inl fr2))] := hD
  refine lv_aload_n hx hb dX0_copyFrom_63 rfl (lv_at hl 1 rfl) ?_
  refine va_get (D := D) (ci := 0) (v := .ref b5) (C := RX0) (T := TX0) (N := 9) hx hb hts u6_X0 hown hK hP 9 rfl rfl 5 (by decide) (hts _ (m6 9 rfl)) (fun _ h9 => h9) rfl dX0_copyFrom_64 ?_
  refine lv_aload_n hx hb dX0_copyFrom_67 rfl (lv_at hl 0 rfl) ?_
  refine va_get (D := D) (ci := 0) (v := .ref a5) (C := RX0) (T := TX0) (N := 9) hx hb hts u6_X0 hown hK hP 0 rfl rfl 5 (by decide) (hts _ (m6 9 rfl)) (fun _ h9 => h9) rfl dX0_copyFrom_68 ?_
  refine gp_backv (nq_runS hX good6 (m6 31 rfl) (c6_copyRow l D cI b5 a5 32 lv2 lv (by omega)) q6_copyRow hN.1 (m6 30 rfl) ⟨Nat.le_of_ble_eq_true rfl, Nat.le_of_ble_eq_true rfl⟩ hK hN [0] rfl hP hD [15, 6] (by decide) rfl hl.1 rfl (Nat.le_of_ble_eq_true rfl) dX0_copyFrom_71 ⟨Nat.zero_le _, Nat.zero_le _⟩) hP hD hS [15, 6] rfl (fun u h => by rw [h]; simp only [List.map_cons, List.map_nil]) (fun u H locs hpost hP hD hS => ?_)
  subst hpost
  have hP : va_P D vwCl [(fo, .inr (0, [.ref a0, .ref a1, .ref a2, .ref a3, .ref a4, .ref a5, .ref a6, .ref a7, .int (nI (B2))])), (a0, .inl (cI, 32, .inl kd2)), (a1, .inl (cI, 32, .inl ky2)), (a2, .inl (cI, 32, .inl vl2)), (a3, .inl (cI, 32, .inl mk2)), (a4, .inl (cI, 8, .inl wr2)), (a5, .inl (cI, 32, .inl lv2)), (a6, .inl (cI, 16, .inl nw)), (a7, .inl (cI, 8, .inl fr)), (go, .inr (0, [.ref b0, .ref b1, .ref b2, .ref b3, .ref b4, .ref b5, .ref b6, .ref b7, .int (nI (B2))])), (b0, .inl (cI, 32, .inl kd2)), (b1, .inl (cI, 32, .inl ky2)), (b2, .inl (cI, 32, .inl vl2)), (b3, .inl (cI, 32, .inl mk2)), (b4, .inl (cI, 8, .inl wr2)), (b5, .inl (cI, 32, .inl lv2)), (b6, .inl (cI, 16, .inl nw2)), (b7, .inl (cI, 8, .inl fr2))] H := hP
  have hD : va_D A [(fo, .inr (0, [.ref a0, .ref a1, .ref a2, .ref a3, .ref a4, .ref a5, .ref a6, .ref a7, .int (nI (B2))])), (a0, .inl (cI, 32, .inl kd2)), (a1, .inl (cI, 32, .inl ky2)), (a2, .inl (cI, 32, .inl vl2)), (a3, .inl (cI, 32, .inl mk2)), (a4, .inl (cI, 8, .inl wr2)), (a5, .inl (cI, 32, .inl lv2)), (a6, .inl (cI, 16, .inl nw)), (a7, .inl (cI, 8, .inl fr)), (go, .inr (0, [.ref b0, .ref b1, .ref b2, .ref b3, .ref b4, .ref b5, .ref b6, .ref b7, .int (nI (B2))])), (b0, .inl (cI, 32, .inl kd2)), (b1, .inl (cI, 32, .inl ky2)), (b2, .inl (cI, 32, .inl vl2)), (b3, .inl (cI, 32, .inl mk2)), (b4, .inl (cI, 8, .inl wr2)), (b5, .inl (cI, 32, .inl lv2)), (b6, .inl (cI, 16, .inl nw2)), (b7, .inl (cI, 8, .inl fr2))] := hD
  refine lv_aload_n hx hb dX0_copyFrom_74 rfl (lv_at hl 1 rfl) ?_
  refine va_get (D := D) (ci := 0) (v := .ref b6) (C := RX0) (T := TX0) (N := 9) hx hb hts u6_X0 hown hK hP 9 rfl rfl 6 (by decide) (hts _ (m6 10 rfl)) (fun _ h9 => h9) rfl dX0_copyFrom_75 ?_
  refine lv_aload_n hx hb dX0_copyFrom_78 rfl (lv_at hl 0 rfl) ?_
  refine va_get (D := D) (ci := 0) (v := .ref a6) (C := RX0) (T := TX0) (N := 9) hx hb hts u6_X0 hown hK hP 0 rfl rfl 6 (by decide) (hts _ (m6 10 rfl)) (fun _ h9 => h9) rfl dX0_copyFrom_79 ?_
  refine gp_backv (nq_runS hX good6 (m6 31 rfl) (c6_copyRow l D cI b6 a6 16 nw2 nw (by omega)) q6_copyRow hN.1 (m6 30 rfl) ⟨Nat.le_of_ble_eq_true rfl, Nat.le_of_ble_eq_true rfl⟩ hK hN [0] rfl hP hD [16, 7] (by decide) rfl hl.1 rfl (Nat.le_of_ble_eq_true rfl) dX0_copyFrom_82 ⟨Nat.zero_le _, Nat.zero_le _⟩) hP hD hS [16, 7] rfl (fun u h => by rw [h]; simp only [List.map_cons, List.map_nil]) (fun u H locs hpost hP hD hS => ?_)
  subst hpost
  have hP : va_P D vwCl [(fo, .inr (0, [.ref a0, .ref a1, .ref a2, .ref a3, .ref a4, .ref a5, .ref a6, .ref a7, .int (nI (B2))])), (a0, .inl (cI, 32, .inl kd2)), (a1, .inl (cI, 32, .inl ky2)), (a2, .inl (cI, 32, .inl vl2)), (a3, .inl (cI, 32, .inl mk2)), (a4, .inl (cI, 8, .inl wr2)), (a5, .inl (cI, 32, .inl lv2)), (a6, .inl (cI, 16, .inl nw2)), (a7, .inl (cI, 8, .inl fr)), (go, .inr (0, [.ref b0, .ref b1, .ref b2, .ref b3, .ref b4, .ref b5, .ref b6, .ref b7, .int (nI (B2))])), (b0, .inl (cI, 32, .inl kd2)), (b1, .inl (cI, 32, .inl ky2)), (b2, .inl (cI, 32, .inl vl2)), (b3, .inl (cI, 32, .inl mk2)), (b4, .inl (cI, 8, .inl wr2)), (b5, .inl (cI, 32, .inl lv2)), (b6, .inl (cI, 16, .inl nw2)), (b7, .inl (cI, 8, .inl fr2))] H := hP
  have hD : va_D A [(fo, .inr (0, [.ref a0, .ref a1, .ref a2, .ref a3, .ref a4, .ref a5, .ref a6, .ref a7, .int (nI (B2))])), (a0, .inl (cI, 32, .inl kd2)), (a1, .inl (cI, 32, .inl ky2)), (a2, .inl (cI, 32, .inl vl2)), (a3, .inl (cI, 32, .inl mk2)), (a4, .inl (cI, 8, .inl wr2)), (a5, .inl (cI, 32, .inl lv2)), (a6, .inl (cI, 16, .inl nw2)), (a7, .inl (cI, 8, .inl fr)), (go, .inr (0, [.ref b0, .ref b1, .ref b2, .ref b3, .ref b4, .ref b5, .ref b6, .ref b7, .int (nI (B2))])), (b0, .inl (cI, 32, .inl kd2)), (b1, .inl (cI, 32, .inl ky2)), (b2, .inl (cI, 32, .inl vl2)), (b3, .inl (cI, 32, .inl mk2)), (b4, .inl (cI, 8, .inl wr2)), (b5, .inl (cI, 32, .inl lv2)), (b6, .inl (cI, 16, .inl nw2)), (b7, .inl (cI, 8, .inl fr2))] := hD
  refine lv_aload_n hx hb dX0_copyFrom_85 rfl (lv_at hl 1 rfl) ?_
  refine va_get (D := D) (ci := 0) (v := .ref b7) (C := RX0) (T := TX0) (N := 9) hx hb hts u6_X0 hown hK hP 9 rfl rfl 7 (by decide) (hts _ (m6 11 rfl)) (fun _ h9 => h9) rfl dX0_copyFrom_86 ?_
  refine lv_aload_n hx hb dX0_copyFrom_89 rfl (lv_at hl 0 rfl) ?_
  refine va_get (D := D) (ci := 0) (v := .ref a7) (C := RX0) (T := TX0) (N := 9) hx hb hts u6_X0 hown hK hP 0 rfl rfl 7 (by decide) (hts _ (m6 11 rfl)) (fun _ h9 => h9) rfl dX0_copyFrom_90 ?_
  refine gp_backv (nq_runS hX good6 (m6 31 rfl) (c6_copyRow l D cI b7 a7 8 fr2 fr (by omega)) q6_copyRow hN.1 (m6 30 rfl) ⟨Nat.le_of_ble_eq_true rfl, Nat.le_of_ble_eq_true rfl⟩ hK hN [0] rfl hP hD [17, 8] (by decide) rfl hl.1 rfl (Nat.le_of_ble_eq_true rfl) dX0_copyFrom_93 ⟨Nat.zero_le _, Nat.zero_le _⟩) hP hD hS [17, 8] rfl (fun u h => by rw [h]; simp only [List.map_cons, List.map_nil]) (fun u H locs hpost hP hD hS => ?_)
  subst hpost
  have hP : va_P D vwCl [(fo, .inr (0, [.ref a0, .ref a1, .ref a2, .ref a3, .ref a4, .ref a5, .ref a6, .ref a7, .int (nI (B2))])), (a0, .inl (cI, 32, .inl kd2)), (a1, .inl (cI, 32, .inl ky2)), (a2, .inl (cI, 32, .inl vl2)), (a3, .inl (cI, 32, .inl mk2)), (a4, .inl (cI, 8, .inl wr2)), (a5, .inl (cI, 32, .inl lv2)), (a6, .inl (cI, 16, .inl nw2)), (a7, .inl (cI, 8, .inl fr2)), (go, .inr (0, [.ref b0, .ref b1, .ref b2, .ref b3, .ref b4, .ref b5, .ref b6, .ref b7, .int (nI (B2))])), (b0, .inl (cI, 32, .inl kd2)), (b1, .inl (cI, 32, .inl ky2)), (b2, .inl (cI, 32, .inl vl2)), (b3, .inl (cI, 32, .inl mk2)), (b4, .inl (cI, 8, .inl wr2)), (b5, .inl (cI, 32, .inl lv2)), (b6, .inl (cI, 16, .inl nw2)), (b7, .inl (cI, 8, .inl fr2))] H := hP
  have hD : va_D A [(fo, .inr (0, [.ref a0, .ref a1, .ref a2, .ref a3, .ref a4, .ref a5, .ref a6, .ref a7, .int (nI (B2))])), (a0, .inl (cI, 32, .inl kd2)), (a1, .inl (cI, 32, .inl ky2)), (a2, .inl (cI, 32, .inl vl2)), (a3, .inl (cI, 32, .inl mk2)), (a4, .inl (cI, 8, .inl wr2)), (a5, .inl (cI, 32, .inl lv2)), (a6, .inl (cI, 16, .inl nw2)), (a7, .inl (cI, 8, .inl fr2)), (go, .inr (0, [.ref b0, .ref b1, .ref b2, .ref b3, .ref b4, .ref b5, .ref b6, .ref b7, .int (nI (B2))])), (b0, .inl (cI, 32, .inl kd2)), (b1, .inl (cI, 32, .inl ky2)), (b2, .inl (cI, 32, .inl vl2)), (b3, .inl (cI, 32, .inl mk2)), (b4, .inl (cI, 8, .inl wr2)), (b5, .inl (cI, 32, .inl lv2)), (b6, .inl (cI, 16, .inl nw2)), (b7, .inl (cI, 8, .inl fr2))] := hD
  exact gp_retv hX hr hlocks hS hP rfl dX0_copyFrom_96
theorem dX0_init_0 : decode cX0_init 0 = .ok (.aload_n 0, 1) := by decide +kernel
theorem dX0_init_1 : decode cX0_init 1 = .ok (.invokespecial 3, 3) := by decide +kernel
theorem dX0_init_4 : decode cX0_init 4 = .ok (.aload_n 0, 1) := by decide +kernel
theorem dX0_init_5 : decode cX0_init 5 = .ok (.bipush 32, 2) := by decide +kernel
theorem dX0_init_7 : decode cX0_init 7 = .ok (.newarray .int, 2) := by decide +kernel
theorem dX0_init_9 : decode cX0_init 9 = .ok (.putfield 11, 3) := by decide +kernel
theorem dX0_init_12 : decode cX0_init 12 = .ok (.aload_n 0, 1) := by decide +kernel
theorem dX0_init_13 : decode cX0_init 13 = .ok (.bipush 32, 2) := by decide +kernel
theorem dX0_init_15 : decode cX0_init 15 = .ok (.newarray .int, 2) := by decide +kernel
theorem dX0_init_17 : decode cX0_init 17 = .ok (.putfield 15, 3) := by decide +kernel
theorem dX0_init_20 : decode cX0_init 20 = .ok (.aload_n 0, 1) := by decide +kernel
theorem dX0_init_21 : decode cX0_init 21 = .ok (.bipush 32, 2) := by decide +kernel
theorem dX0_init_23 : decode cX0_init 23 = .ok (.newarray .int, 2) := by decide +kernel
theorem dX0_init_25 : decode cX0_init 25 = .ok (.putfield 18, 3) := by decide +kernel
theorem dX0_init_28 : decode cX0_init 28 = .ok (.aload_n 0, 1) := by decide +kernel
theorem dX0_init_29 : decode cX0_init 29 = .ok (.bipush 32, 2) := by decide +kernel
theorem dX0_init_31 : decode cX0_init 31 = .ok (.newarray .int, 2) := by decide +kernel
theorem dX0_init_33 : decode cX0_init 33 = .ok (.putfield 21, 3) := by decide +kernel
theorem dX0_init_36 : decode cX0_init 36 = .ok (.aload_n 0, 1) := by decide +kernel
theorem dX0_init_37 : decode cX0_init 37 = .ok (.bipush 8, 2) := by decide +kernel
theorem dX0_init_39 : decode cX0_init 39 = .ok (.newarray .int, 2) := by decide +kernel
theorem dX0_init_41 : decode cX0_init 41 = .ok (.putfield 24, 3) := by decide +kernel
theorem dX0_init_44 : decode cX0_init 44 = .ok (.aload_n 0, 1) := by decide +kernel
theorem dX0_init_45 : decode cX0_init 45 = .ok (.bipush 32, 2) := by decide +kernel
theorem dX0_init_47 : decode cX0_init 47 = .ok (.newarray .int, 2) := by decide +kernel
theorem dX0_init_49 : decode cX0_init 49 = .ok (.putfield 27, 3) := by decide +kernel
theorem dX0_init_52 : decode cX0_init 52 = .ok (.aload_n 0, 1) := by decide +kernel
theorem dX0_init_53 : decode cX0_init 53 = .ok (.bipush 16, 2) := by decide +kernel
theorem dX0_init_55 : decode cX0_init 55 = .ok (.newarray .int, 2) := by decide +kernel
theorem dX0_init_57 : decode cX0_init 57 = .ok (.putfield 30, 3) := by decide +kernel
theorem dX0_init_60 : decode cX0_init 60 = .ok (.aload_n 0, 1) := by decide +kernel
theorem dX0_init_61 : decode cX0_init 61 = .ok (.bipush 8, 2) := by decide +kernel
theorem dX0_init_63 : decode cX0_init 63 = .ok (.newarray .int, 2) := by decide +kernel
theorem dX0_init_65 : decode cX0_init 65 = .ok (.putfield 33, 3) := by decide +kernel
theorem dX0_init_68 : decode cX0_init 68 = .ok (.return_, 1) := by decide +kernel
theorem q0_init : CQ W6 yX0_init cX0_init 1 none 0 := ⟨(m6 77 rfl), by decide, by decide, by decide +kernel⟩
set_option maxHeartbeats 4000000 in
set_option maxRecDepth 100000 in
theorem c0_init (l : Launch) (D : va_G) (cI : ClassId) (fo sz : Nat)  : GM l yX0_init cX0_init 1 W6 1 12 8 192 D [(fo, .inr (0, [.null, .null, .null, .null, .null, .null, .null, .null, .int (0)]))] [(cI, .int)] [.ref fo] sz (fun u9 : va_W => ∃ a0 : Nat, ∃ a1 : Nat, ∃ a2 : Nat, ∃ a3 : Nat, ∃ a4 : Nat, ∃ a5 : Nat, ∃ a6 : Nat, ∃ a7 : Nat, u9 = [(fo, .inr (0, [.ref a0, .ref a1, .ref a2, .ref a3, .ref a4, .ref a5, .ref a6, .ref a7, .int (0)])), (a0, .inl (cI, 32, .inl (fun _ => 0))), (a1, .inl (cI, 32, .inl (fun _ => 0))), (a2, .inl (cI, 32, .inl (fun _ => 0))), (a3, .inl (cI, 32, .inl (fun _ => 0))), (a4, .inl (cI, 8, .inl (fun _ => 0))), (a5, .inl (cI, 32, .inl (fun _ => 0))), (a6, .inl (cI, 16, .inl (fun _ => 0))), (a7, .inl (cI, 8, .inl (fun _ => 0)))]) := by
  refine gm_of RX0 (by decide) rfl (Nat.le_of_ble_eq_true rfl) ?_
  intro p e s m below meth c ls H A hX hr hlocks hname hK hN hP hD hS hA hl
  have hx := hX.1
  have hb := hX.2.1
  have hown := hX.2.2.2.1
  have hts := hX.2.2.2.2
  have hl : lv_has ls 1 [(0, .ref fo)] := hl
  refine lv_aload_n hx hb dX0_init_0 rfl (lv_at hl 0 rfl) ?_
  refine gn_obj hX (m6 0 rfl) (m6 1 rfl) (m6 2 rfl) hl.1 dX0_init_1 (Nat.le_of_ble_eq_true rfl) (Nat.le_of_ble_eq_true rfl) ?_
  refine lv_aload_n hx hb dX0_init_4 rfl (lv_at hl 0 rfl) ?_
  refine lv_bipush (v := 32) hx hb dX0_init_5 (by decide) ?_
  refine ra_newi (n := 32) hX (m6 3 rfl) hK 0 rfl hP hD hS hA (by decide) (Nat.le_of_ble_eq_true rfl) (Nat.le_of_ble_eq_true rfl) dX0_init_7 (fun q7 H hP hD hS => ?_)
  have hP : va_P D vwCl [(fo, .inr (0, [.null, .null, .null, .null, .null, .null, .null, .null, .int (0)])), (q7, .inl (cI, 32, .inl (fun _ => 0)))] H := hP
  have hD : va_D A [(fo, .inr (0, [.null, .null, .null, .null, .null, .null, .null, .null, .int (0)])), (q7, .inl (cI, 32, .inl (fun _ => 0)))] := hD
  refine va_putF (D := D) (ci := 0) (v := .ref q7) (ty := (.array .int)) (C := RX0) (T := TX0) (N := 9) hx hb hts u6_X0 tyX0 tyX0_ok nmX0 hown hK hP hD hS 0 rfl rfl 0 (by decide) (hts _ (m6 4 rfl)) (fun _ h9 => h9) rfl hname rfl (by decide +kernel) rfl rfl (Nat.le_of_ble_eq_true rfl) dX0_init_9 (fun H locs hP hD hS => ?_)
  have hP : va_P D vwCl [(fo, .inr (0, [.ref q7, .null, .null, .null, .null, .null, .null, .null, .int (0)])), (q7, .inl (cI, 32, .inl (fun _ => 0)))] H := hP
  have hD : va_D A [(fo, .inr (0, [.ref q7, .null, .null, .null, .null, .null, .null, .null, .int (0)])), (q7, .inl (cI, 32, .inl (fun _ => 0)))] := hD
  refine lv_aload_n hx hb dX0_init_12 rfl (lv_at hl 0 rfl) ?_
  refine lv_bipush (v := 32) hx hb dX0_init_13 (by decide) ?_
  refine ra_newi (n := 32) hX (m6 3 rfl) hK 0 rfl hP hD hS hA (by decide) (Nat.le_of_ble_eq_true rfl) (Nat.le_of_ble_eq_true rfl) dX0_init_15 (fun q15 H hP hD hS => ?_)
  have hP : va_P D vwCl [(fo, .inr (0, [.ref q7, .null, .null, .null, .null, .null, .null, .null, .int (0)])), (q7, .inl (cI, 32, .inl (fun _ => 0))), (q15, .inl (cI, 32, .inl (fun _ => 0)))] H := hP
  have hD : va_D A [(fo, .inr (0, [.ref q7, .null, .null, .null, .null, .null, .null, .null, .int (0)])), (q7, .inl (cI, 32, .inl (fun _ => 0))), (q15, .inl (cI, 32, .inl (fun _ => 0)))] := hD
  refine va_putF (D := D) (ci := 0) (v := .ref q15) (ty := (.array .int)) (C := RX0) (T := TX0) (N := 9) hx hb hts u6_X0 tyX0 tyX0_ok nmX0 hown hK hP hD hS 0 rfl rfl 1 (by decide) (hts _ (m6 5 rfl)) (fun _ h9 => h9) rfl hname rfl (by decide +kernel) rfl rfl (Nat.le_of_ble_eq_true rfl) dX0_init_17 (fun H locs hP hD hS => ?_)
  have hP : va_P D vwCl [(fo, .inr (0, [.ref q7, .ref q15, .null, .null, .null, .null, .null, .null, .int (0)])), (q7, .inl (cI, 32, .inl (fun _ => 0))), (q15, .inl (cI, 32, .inl (fun _ => 0)))] H := hP
  have hD : va_D A [(fo, .inr (0, [.ref q7, .ref q15, .null, .null, .null, .null, .null, .null, .int (0)])), (q7, .inl (cI, 32, .inl (fun _ => 0))), (q15, .inl (cI, 32, .inl (fun _ => 0)))] := hD
  refine lv_aload_n hx hb dX0_init_20 rfl (lv_at hl 0 rfl) ?_
  refine lv_bipush (v := 32) hx hb dX0_init_21 (by decide) ?_
  refine ra_newi (n := 32) hX (m6 3 rfl) hK 0 rfl hP hD hS hA (by decide) (Nat.le_of_ble_eq_true rfl) (Nat.le_of_ble_eq_true rfl) dX0_init_23 (fun q23 H hP hD hS => ?_)
  have hP : va_P D vwCl [(fo, .inr (0, [.ref q7, .ref q15, .null, .null, .null, .null, .null, .null, .int (0)])), (q7, .inl (cI, 32, .inl (fun _ => 0))), (q15, .inl (cI, 32, .inl (fun _ => 0))), (q23, .inl (cI, 32, .inl (fun _ => 0)))] H := hP
  have hD : va_D A [(fo, .inr (0, [.ref q7, .ref q15, .null, .null, .null, .null, .null, .null, .int (0)])), (q7, .inl (cI, 32, .inl (fun _ => 0))), (q15, .inl (cI, 32, .inl (fun _ => 0))), (q23, .inl (cI, 32, .inl (fun _ => 0)))] := hD
  refine va_putF (D := D) (ci := 0) (v := .ref q23) (ty := (.array .int)) (C := RX0) (T := TX0) (N := 9) hx hb hts u6_X0 tyX0 tyX0_ok nmX0 hown hK hP hD hS 0 rfl rfl 2 (by decide) (hts _ (m6 6 rfl)) (fun _ h9 => h9) rfl hname rfl (by decide +kernel) rfl rfl (Nat.le_of_ble_eq_true rfl) dX0_init_25 (fun H locs hP hD hS => ?_)
  have hP : va_P D vwCl [(fo, .inr (0, [.ref q7, .ref q15, .ref q23, .null, .null, .null, .null, .null, .int (0)])), (q7, .inl (cI, 32, .inl (fun _ => 0))), (q15, .inl (cI, 32, .inl (fun _ => 0))), (q23, .inl (cI, 32, .inl (fun _ => 0)))] H := hP
  have hD : va_D A [(fo, .inr (0, [.ref q7, .ref q15, .ref q23, .null, .null, .null, .null, .null, .int (0)])), (q7, .inl (cI, 32, .inl (fun _ => 0))), (q15, .inl (cI, 32, .inl (fun _ => 0))), (q23, .inl (cI, 32, .inl (fun _ => 0)))] := hD
  refine lv_aload_n hx hb dX0_init_28 rfl (lv_at hl 0 rfl) ?_
  refine lv_bipush (v := 32) hx hb dX0_init_29 (by decide) ?_
  refine ra_newi (n := 32) hX (m6 3 rfl) hK 0 rfl hP hD hS hA (by decide) (Nat.le_of_ble_eq_true rfl) (Nat.le_of_ble_eq_true rfl) dX0_init_31 (fun q31 H hP hD hS => ?_)
  have hP : va_P D vwCl [(fo, .inr (0, [.ref q7, .ref q15, .ref q23, .null, .null, .null, .null, .null, .int (0)])), (q7, .inl (cI, 32, .inl (fun _ => 0))), (q15, .inl (cI, 32, .inl (fun _ => 0))), (q23, .inl (cI, 32, .inl (fun _ => 0))), (q31, .inl (cI, 32, .inl (fun _ => 0)))] H := hP
  have hD : va_D A [(fo, .inr (0, [.ref q7, .ref q15, .ref q23, .null, .null, .null, .null, .null, .int (0)])), (q7, .inl (cI, 32, .inl (fun _ => 0))), (q15, .inl (cI, 32, .inl (fun _ => 0))), (q23, .inl (cI, 32, .inl (fun _ => 0))), (q31, .inl (cI, 32, .inl (fun _ => 0)))] := hD
  refine va_putF (D := D) (ci := 0) (v := .ref q31) (ty := (.array .int)) (C := RX0) (T := TX0) (N := 9) hx hb hts u6_X0 tyX0 tyX0_ok nmX0 hown hK hP hD hS 0 rfl rfl 3 (by decide) (hts _ (m6 7 rfl)) (fun _ h9 => h9) rfl hname rfl (by decide +kernel) rfl rfl (Nat.le_of_ble_eq_true rfl) dX0_init_33 (fun H locs hP hD hS => ?_)
  have hP : va_P D vwCl [(fo, .inr (0, [.ref q7, .ref q15, .ref q23, .ref q31, .null, .null, .null, .null, .int (0)])), (q7, .inl (cI, 32, .inl (fun _ => 0))), (q15, .inl (cI, 32, .inl (fun _ => 0))), (q23, .inl (cI, 32, .inl (fun _ => 0))), (q31, .inl (cI, 32, .inl (fun _ => 0)))] H := hP
  have hD : va_D A [(fo, .inr (0, [.ref q7, .ref q15, .ref q23, .ref q31, .null, .null, .null, .null, .int (0)])), (q7, .inl (cI, 32, .inl (fun _ => 0))), (q15, .inl (cI, 32, .inl (fun _ => 0))), (q23, .inl (cI, 32, .inl (fun _ => 0))), (q31, .inl (cI, 32, .inl (fun _ => 0)))] := hD
  refine lv_aload_n hx hb dX0_init_36 rfl (lv_at hl 0 rfl) ?_
  refine lv_bipush (v := 8) hx hb dX0_init_37 (by decide) ?_
  refine ra_newi (n := 8) hX (m6 3 rfl) hK 0 rfl hP hD hS hA (by decide) (Nat.le_of_ble_eq_true rfl) (Nat.le_of_ble_eq_true rfl) dX0_init_39 (fun q39 H hP hD hS => ?_)
  have hP : va_P D vwCl [(fo, .inr (0, [.ref q7, .ref q15, .ref q23, .ref q31, .null, .null, .null, .null, .int (0)])), (q7, .inl (cI, 32, .inl (fun _ => 0))), (q15, .inl (cI, 32, .inl (fun _ => 0))), (q23, .inl (cI, 32, .inl (fun _ => 0))), (q31, .inl (cI, 32, .inl (fun _ => 0))), (q39, .inl (cI, 8, .inl (fun _ => 0)))] H := hP
  have hD : va_D A [(fo, .inr (0, [.ref q7, .ref q15, .ref q23, .ref q31, .null, .null, .null, .null, .int (0)])), (q7, .inl (cI, 32, .inl (fun _ => 0))), (q15, .inl (cI, 32, .inl (fun _ => 0))), (q23, .inl (cI, 32, .inl (fun _ => 0))), (q31, .inl (cI, 32, .inl (fun _ => 0))), (q39, .inl (cI, 8, .inl (fun _ => 0)))] := hD
  refine va_putF (D := D) (ci := 0) (v := .ref q39) (ty := (.array .int)) (C := RX0) (T := TX0) (N := 9) hx hb hts u6_X0 tyX0 tyX0_ok nmX0 hown hK hP hD hS 0 rfl rfl 4 (by decide) (hts _ (m6 8 rfl)) (fun _ h9 => h9) rfl hname rfl (by decide +kernel) rfl rfl (Nat.le_of_ble_eq_true rfl) dX0_init_41 (fun H locs hP hD hS => ?_)
  have hP : va_P D vwCl [(fo, .inr (0, [.ref q7, .ref q15, .ref q23, .ref q31, .ref q39, .null, .null, .null, .int (0)])), (q7, .inl (cI, 32, .inl (fun _ => 0))), (q15, .inl (cI, 32, .inl (fun _ => 0))), (q23, .inl (cI, 32, .inl (fun _ => 0))), (q31, .inl (cI, 32, .inl (fun _ => 0))), (q39, .inl (cI, 8, .inl (fun _ => 0)))] H := hP
  have hD : va_D A [(fo, .inr (0, [.ref q7, .ref q15, .ref q23, .ref q31, .ref q39, .null, .null, .null, .int (0)])), (q7, .inl (cI, 32, .inl (fun _ => 0))), (q15, .inl (cI, 32, .inl (fun _ => 0))), (q23, .inl (cI, 32, .inl (fun _ => 0))), (q31, .inl (cI, 32, .inl (fun _ => 0))), (q39, .inl (cI, 8, .inl (fun _ => 0)))] := hD
  refine lv_aload_n hx hb dX0_init_44 rfl (lv_at hl 0 rfl) ?_
  refine lv_bipush (v := 32) hx hb dX0_init_45 (by decide) ?_
  refine ra_newi (n := 32) hX (m6 3 rfl) hK 0 rfl hP hD hS hA (by decide) (Nat.le_of_ble_eq_true rfl) (Nat.le_of_ble_eq_true rfl) dX0_init_47 (fun q47 H hP hD hS => ?_)
  have hP : va_P D vwCl [(fo, .inr (0, [.ref q7, .ref q15, .ref q23, .ref q31, .ref q39, .null, .null, .null, .int (0)])), (q7, .inl (cI, 32, .inl (fun _ => 0))), (q15, .inl (cI, 32, .inl (fun _ => 0))), (q23, .inl (cI, 32, .inl (fun _ => 0))), (q31, .inl (cI, 32, .inl (fun _ => 0))), (q39, .inl (cI, 8, .inl (fun _ => 0))), (q47, .inl (cI, 32, .inl (fun _ => 0)))] H := hP
  have hD : va_D A [(fo, .inr (0, [.ref q7, .ref q15, .ref q23, .ref q31, .ref q39, .null, .null, .null, .int (0)])), (q7, .inl (cI, 32, .inl (fun _ => 0))), (q15, .inl (cI, 32, .inl (fun _ => 0))), (q23, .inl (cI, 32, .inl (fun _ => 0))), (q31, .inl (cI, 32, .inl (fun _ => 0))), (q39, .inl (cI, 8, .inl (fun _ => 0))), (q47, .inl (cI, 32, .inl (fun _ => 0)))] := hD
  refine va_putF (D := D) (ci := 0) (v := .ref q47) (ty := (.array .int)) (C := RX0) (T := TX0) (N := 9) hx hb hts u6_X0 tyX0 tyX0_ok nmX0 hown hK hP hD hS 0 rfl rfl 5 (by decide) (hts _ (m6 9 rfl)) (fun _ h9 => h9) rfl hname rfl (by decide +kernel) rfl rfl (Nat.le_of_ble_eq_true rfl) dX0_init_49 (fun H locs hP hD hS => ?_)
  have hP : va_P D vwCl [(fo, .inr (0, [.ref q7, .ref q15, .ref q23, .ref q31, .ref q39, .ref q47, .null, .null, .int (0)])), (q7, .inl (cI, 32, .inl (fun _ => 0))), (q15, .inl (cI, 32, .inl (fun _ => 0))), (q23, .inl (cI, 32, .inl (fun _ => 0))), (q31, .inl (cI, 32, .inl (fun _ => 0))), (q39, .inl (cI, 8, .inl (fun _ => 0))), (q47, .inl (cI, 32, .inl (fun _ => 0)))] H := hP
  have hD : va_D A [(fo, .inr (0, [.ref q7, .ref q15, .ref q23, .ref q31, .ref q39, .ref q47, .null, .null, .int (0)])), (q7, .inl (cI, 32, .inl (fun _ => 0))), (q15, .inl (cI, 32, .inl (fun _ => 0))), (q23, .inl (cI, 32, .inl (fun _ => 0))), (q31, .inl (cI, 32, .inl (fun _ => 0))), (q39, .inl (cI, 8, .inl (fun _ => 0))), (q47, .inl (cI, 32, .inl (fun _ => 0)))] := hD
  refine lv_aload_n hx hb dX0_init_52 rfl (lv_at hl 0 rfl) ?_
  refine lv_bipush (v := 16) hx hb dX0_init_53 (by decide) ?_
  refine ra_newi (n := 16) hX (m6 3 rfl) hK 0 rfl hP hD hS hA (by decide) (Nat.le_of_ble_eq_true rfl) (Nat.le_of_ble_eq_true rfl) dX0_init_55 (fun q55 H hP hD hS => ?_)
  have hP : va_P D vwCl [(fo, .inr (0, [.ref q7, .ref q15, .ref q23, .ref q31, .ref q39, .ref q47, .null, .null, .int (0)])), (q7, .inl (cI, 32, .inl (fun _ => 0))), (q15, .inl (cI, 32, .inl (fun _ => 0))), (q23, .inl (cI, 32, .inl (fun _ => 0))), (q31, .inl (cI, 32, .inl (fun _ => 0))), (q39, .inl (cI, 8, .inl (fun _ => 0))), (q47, .inl (cI, 32, .inl (fun _ => 0))), (q55, .inl (cI, 16, .inl (fun _ => 0)))] H := hP
  have hD : va_D A [(fo, .inr (0, [.ref q7, .ref q15, .ref q23, .ref q31, .ref q39, .ref q47, .null, .null, .int (0)])), (q7, .inl (cI, 32, .inl (fun _ => 0))), (q15, .inl (cI, 32, .inl (fun _ => 0))), (q23, .inl (cI, 32, .inl (fun _ => 0))), (q31, .inl (cI, 32, .inl (fun _ => 0))), (q39, .inl (cI, 8, .inl (fun _ => 0))), (q47, .inl (cI, 32, .inl (fun _ => 0))), (q55, .inl (cI, 16, .inl (fun _ => 0)))] := hD
  refine va_putF (D := D) (ci := 0) (v := .ref q55) (ty := (.array .int)) (C := RX0) (T := TX0) (N := 9) hx hb hts u6_X0 tyX0 tyX0_ok nmX0 hown hK hP hD hS 0 rfl rfl 6 (by decide) (hts _ (m6 10 rfl)) (fun _ h9 => h9) rfl hname rfl (by decide +kernel) rfl rfl (Nat.le_of_ble_eq_true rfl) dX0_init_57 (fun H locs hP hD hS => ?_)
  have hP : va_P D vwCl [(fo, .inr (0, [.ref q7, .ref q15, .ref q23, .ref q31, .ref q39, .ref q47, .ref q55, .null, .int (0)])), (q7, .inl (cI, 32, .inl (fun _ => 0))), (q15, .inl (cI, 32, .inl (fun _ => 0))), (q23, .inl (cI, 32, .inl (fun _ => 0))), (q31, .inl (cI, 32, .inl (fun _ => 0))), (q39, .inl (cI, 8, .inl (fun _ => 0))), (q47, .inl (cI, 32, .inl (fun _ => 0))), (q55, .inl (cI, 16, .inl (fun _ => 0)))] H := hP
  have hD : va_D A [(fo, .inr (0, [.ref q7, .ref q15, .ref q23, .ref q31, .ref q39, .ref q47, .ref q55, .null, .int (0)])), (q7, .inl (cI, 32, .inl (fun _ => 0))), (q15, .inl (cI, 32, .inl (fun _ => 0))), (q23, .inl (cI, 32, .inl (fun _ => 0))), (q31, .inl (cI, 32, .inl (fun _ => 0))), (q39, .inl (cI, 8, .inl (fun _ => 0))), (q47, .inl (cI, 32, .inl (fun _ => 0))), (q55, .inl (cI, 16, .inl (fun _ => 0)))] := hD
  refine lv_aload_n hx hb dX0_init_60 rfl (lv_at hl 0 rfl) ?_
  refine lv_bipush (v := 8) hx hb dX0_init_61 (by decide) ?_
  refine ra_newi (n := 8) hX (m6 3 rfl) hK 0 rfl hP hD hS hA (by decide) (Nat.le_of_ble_eq_true rfl) (Nat.le_of_ble_eq_true rfl) dX0_init_63 (fun q63 H hP hD hS => ?_)
  have hP : va_P D vwCl [(fo, .inr (0, [.ref q7, .ref q15, .ref q23, .ref q31, .ref q39, .ref q47, .ref q55, .null, .int (0)])), (q7, .inl (cI, 32, .inl (fun _ => 0))), (q15, .inl (cI, 32, .inl (fun _ => 0))), (q23, .inl (cI, 32, .inl (fun _ => 0))), (q31, .inl (cI, 32, .inl (fun _ => 0))), (q39, .inl (cI, 8, .inl (fun _ => 0))), (q47, .inl (cI, 32, .inl (fun _ => 0))), (q55, .inl (cI, 16, .inl (fun _ => 0))), (q63, .inl (cI, 8, .inl (fun _ => 0)))] H := hP
  have hD : va_D A [(fo, .inr (0, [.ref q7, .ref q15, .ref q23, .ref q31, .ref q39, .ref q47, .ref q55, .null, .int (0)])), (q7, .inl (cI, 32, .inl (fun _ => 0))), (q15, .inl (cI, 32, .inl (fun _ => 0))), (q23, .inl (cI, 32, .inl (fun _ => 0))), (q31, .inl (cI, 32, .inl (fun _ => 0))), (q39, .inl (cI, 8, .inl (fun _ => 0))), (q47, .inl (cI, 32, .inl (fun _ => 0))), (q55, .inl (cI, 16, .inl (fun _ => 0))), (q63, .inl (cI, 8, .inl (fun _ => 0)))] := hD
  refine va_putF (D := D) (ci := 0) (v := .ref q63) (ty := (.array .int)) (C := RX0) (T := TX0) (N := 9) hx hb hts u6_X0 tyX0 tyX0_ok nmX0 hown hK hP hD hS 0 rfl rfl 7 (by decide) (hts _ (m6 11 rfl)) (fun _ h9 => h9) rfl hname rfl (by decide +kernel) rfl rfl (Nat.le_of_ble_eq_true rfl) dX0_init_65 (fun H locs hP hD hS => ?_)
  have hP : va_P D vwCl [(fo, .inr (0, [.ref q7, .ref q15, .ref q23, .ref q31, .ref q39, .ref q47, .ref q55, .ref q63, .int (0)])), (q7, .inl (cI, 32, .inl (fun _ => 0))), (q15, .inl (cI, 32, .inl (fun _ => 0))), (q23, .inl (cI, 32, .inl (fun _ => 0))), (q31, .inl (cI, 32, .inl (fun _ => 0))), (q39, .inl (cI, 8, .inl (fun _ => 0))), (q47, .inl (cI, 32, .inl (fun _ => 0))), (q55, .inl (cI, 16, .inl (fun _ => 0))), (q63, .inl (cI, 8, .inl (fun _ => 0)))] H := hP
  have hD : va_D A [(fo, .inr (0, [.ref q7, .ref q15, .ref q23, .ref q31, .ref q39, .ref q47, .ref q55, .ref q63, .int (0)])), (q7, .inl (cI, 32, .inl (fun _ => 0))), (q15, .inl (cI, 32, .inl (fun _ => 0))), (q23, .inl (cI, 32, .inl (fun _ => 0))), (q31, .inl (cI, 32, .inl (fun _ => 0))), (q39, .inl (cI, 8, .inl (fun _ => 0))), (q47, .inl (cI, 32, .inl (fun _ => 0))), (q55, .inl (cI, 16, .inl (fun _ => 0))), (q63, .inl (cI, 8, .inl (fun _ => 0)))] := hD
  exact gn_ret hX hr hlocks hS hP hD ⟨_, _, _, _, _, _, _, _, rfl⟩ (Nat.le_of_ble_eq_true rfl) (Nat.le_of_ble_eq_true rfl) dX0_init_68
