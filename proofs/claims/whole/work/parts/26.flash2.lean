theorem dX0_leastWornCleanBlock_0 : decode cX0_leastWornCleanBlock 0 = .ok (.bipush (-9), 2) := by decide +kernel
theorem dX0_leastWornCleanBlock_2 : decode cX0_leastWornCleanBlock 2 = .ok (.istore_n 2, 1) := by decide +kernel
theorem dX0_leastWornCleanBlock_3 : decode cX0_leastWornCleanBlock 3 = .ok (.iconst 0, 1) := by decide +kernel
theorem dX0_leastWornCleanBlock_4 : decode cX0_leastWornCleanBlock 4 = .ok (.istore_n 3, 1) := by decide +kernel
theorem dX0_leastWornCleanBlock_5 : decode cX0_leastWornCleanBlock 5 = .ok (.iconst 0, 1) := by decide +kernel
theorem dX0_leastWornCleanBlock_6 : decode cX0_leastWornCleanBlock 6 = .ok (.istore 4, 2) := by decide +kernel
theorem dX0_leastWornCleanBlock_8 : decode cX0_leastWornCleanBlock 8 = .ok (.iload 4, 2) := by decide +kernel
theorem dX0_leastWornCleanBlock_10 : decode cX0_leastWornCleanBlock 10 = .ok (.aload_n 0, 1) := by decide +kernel
theorem dX0_leastWornCleanBlock_11 : decode cX0_leastWornCleanBlock 11 = .ok (.getfield 45, 3) := by decide +kernel
theorem dX0_leastWornCleanBlock_14 : decode cX0_leastWornCleanBlock 14 = .ok (.if_icmp .ge 61, 3) := by decide +kernel
theorem dX0_leastWornCleanBlock_17 : decode cX0_leastWornCleanBlock 17 = .ok (.iload 4, 2) := by decide +kernel
theorem dX0_leastWornCleanBlock_19 : decode cX0_leastWornCleanBlock 19 = .ok (.bipush 8, 2) := by decide +kernel
theorem dX0_leastWornCleanBlock_21 : decode cX0_leastWornCleanBlock 21 = .ok (.if_icmp .ge 54, 3) := by decide +kernel
theorem dX0_leastWornCleanBlock_24 : decode cX0_leastWornCleanBlock 24 = .ok (.iload 4, 2) := by decide +kernel
theorem dX0_leastWornCleanBlock_26 : decode cX0_leastWornCleanBlock 26 = .ok (.iload_n 1, 1) := by decide +kernel
theorem dX0_leastWornCleanBlock_27 : decode cX0_leastWornCleanBlock 27 = .ok (.if_icmp .eq 42, 3) := by decide +kernel
theorem dX0_leastWornCleanBlock_30 : decode cX0_leastWornCleanBlock 30 = .ok (.aload_n 0, 1) := by decide +kernel
theorem dX0_leastWornCleanBlock_31 : decode cX0_leastWornCleanBlock 31 = .ok (.getfield 33, 3) := by decide +kernel
theorem dX0_leastWornCleanBlock_34 : decode cX0_leastWornCleanBlock 34 = .ok (.iload 4, 2) := by decide +kernel
theorem dX0_leastWornCleanBlock_36 : decode cX0_leastWornCleanBlock 36 = .ok (.iaload, 1) := by decide +kernel
theorem dX0_leastWornCleanBlock_37 : decode cX0_leastWornCleanBlock 37 = .ok (.iconst 4, 1) := by decide +kernel
theorem dX0_leastWornCleanBlock_38 : decode cX0_leastWornCleanBlock 38 = .ok (.if_icmp .ne 31, 3) := by decide +kernel
theorem dX0_leastWornCleanBlock_41 : decode cX0_leastWornCleanBlock 41 = .ok (.iload_n 2, 1) := by decide +kernel
theorem dX0_leastWornCleanBlock_42 : decode cX0_leastWornCleanBlock 42 = .ok (.bipush (-9), 2) := by decide +kernel
theorem dX0_leastWornCleanBlock_44 : decode cX0_leastWornCleanBlock 44 = .ok (.if_icmp .eq 14, 3) := by decide +kernel
theorem dX0_leastWornCleanBlock_47 : decode cX0_leastWornCleanBlock 47 = .ok (.aload_n 0, 1) := by decide +kernel
theorem dX0_leastWornCleanBlock_48 : decode cX0_leastWornCleanBlock 48 = .ok (.getfield 24, 3) := by decide +kernel
theorem dX0_leastWornCleanBlock_51 : decode cX0_leastWornCleanBlock 51 = .ok (.iload 4, 2) := by decide +kernel
theorem dX0_leastWornCleanBlock_53 : decode cX0_leastWornCleanBlock 53 = .ok (.iaload, 1) := by decide +kernel
theorem dX0_leastWornCleanBlock_54 : decode cX0_leastWornCleanBlock 54 = .ok (.iload_n 3, 1) := by decide +kernel
theorem dX0_leastWornCleanBlock_55 : decode cX0_leastWornCleanBlock 55 = .ok (.if_icmp .ge 14, 3) := by decide +kernel
theorem dX0_leastWornCleanBlock_58 : decode cX0_leastWornCleanBlock 58 = .ok (.iload 4, 2) := by decide +kernel
theorem dX0_leastWornCleanBlock_60 : decode cX0_leastWornCleanBlock 60 = .ok (.istore_n 2, 1) := by decide +kernel
theorem dX0_leastWornCleanBlock_61 : decode cX0_leastWornCleanBlock 61 = .ok (.aload_n 0, 1) := by decide +kernel
theorem dX0_leastWornCleanBlock_62 : decode cX0_leastWornCleanBlock 62 = .ok (.getfield 24, 3) := by decide +kernel
theorem dX0_leastWornCleanBlock_65 : decode cX0_leastWornCleanBlock 65 = .ok (.iload 4, 2) := by decide +kernel
theorem dX0_leastWornCleanBlock_67 : decode cX0_leastWornCleanBlock 67 = .ok (.iaload, 1) := by decide +kernel
theorem dX0_leastWornCleanBlock_68 : decode cX0_leastWornCleanBlock 68 = .ok (.istore_n 3, 1) := by decide +kernel
theorem dX0_leastWornCleanBlock_69 : decode cX0_leastWornCleanBlock 69 = .ok (.iinc 4 1, 3) := by decide +kernel
theorem dX0_leastWornCleanBlock_72 : decode cX0_leastWornCleanBlock 72 = .ok (.goto (-64), 3) := by decide +kernel
theorem dX0_leastWornCleanBlock_75 : decode cX0_leastWornCleanBlock 75 = .ok (.iload_n 2, 1) := by decide +kernel
theorem dX0_leastWornCleanBlock_76 : decode cX0_leastWornCleanBlock 76 = .ok (.ireturn, 1) := by decide +kernel
theorem q0_leastWornCleanBlock : CQ W6 yX0_leastWornCleanBlock cX0_leastWornCleanBlock 5 (some .int) 1 := ⟨(m6 158 rfl), by decide, by decide, by decide +kernel⟩
set_option maxHeartbeats 4000000 in
set_option maxRecDepth 100000 in
theorem c0_leastWornCleanBlock (l : Launch) (D : va_G) (cI : ClassId) (fo a0 a1 a2 a3 a4 a5 a6 a7 : Nat) (kd ky vl mk wr lv nw fr : Nat → Int32) (B : Nat) (hB8 : B ≤ 8) (x : Int32) : RQ l yX0_leastWornCleanBlock cX0_leastWornCleanBlock 5 .int W6 0 0 D [(fo, .inr (0, [.ref a0, .ref a1, .ref a2, .ref a3, .ref a4, .ref a5, .ref a6, .ref a7, .int (nI (B))])), (a0, .inl (cI, 32, .inl kd)), (a1, .inl (cI, 32, .inl ky)), (a2, .inl (cI, 32, .inl vl)), (a3, .inl (cI, 32, .inl mk)), (a4, .inl (cI, 8, .inl wr)), (a5, .inl (cI, 32, .inl lv)), (a6, .inl (cI, 16, .inl nw)), (a7, .inl (cI, 8, .inl fr))] [(cI, .int)] [.ref fo, .int (x)] (oI (lwF fr wr x B)) := by
  refine rq_of RX0 (by decide) rfl (Nat.le_of_ble_eq_true rfl) ?_
  intro p e s m below meth c ls hX hr hlocks hK hN hP hS hl
  have hx := hX.1
  have hb := hX.2.1
  have hown := hX.2.2.2.1
  have hts := hX.2.2.2.2
  have hl : lv_has ls 5 [(0, .ref fo), (1, .int (x))] := hl
  refine lv_bipush (v := (-9)) hx hb dX0_leastWornCleanBlock_0 (by decide) ?_
  refine lv_istore_n (lv' := [(2, .int ((-9))), (0, .ref fo), (1, .int (x))]) hx hb dX0_leastWornCleanBlock_2 rfl hl (by decide) rfl (fun ls hl => ?_)
  refine lv_iconst (v := 0) hx hb dX0_leastWornCleanBlock_3 (by decide) ?_
  refine lv_istore_n (lv' := [(3, .int (0)), (2, .int ((-9))), (0, .ref fo), (1, .int (x))]) hx hb dX0_leastWornCleanBlock_4 rfl hl (by decide) rfl (fun ls hl => ?_)
  refine lv_iconst (v := 0) hx hb dX0_leastWornCleanBlock_5 (by decide) ?_
  refine lv_istore (lv' := [(4, .int (0)), (3, .int (0)), (2, .int ((-9))), (0, .ref fo), (1, .int (x))]) hx hb dX0_leastWornCleanBlock_6 hl (by decide) rfl (fun ls hl => ?_)
  have LP8 : ∀ n9 : Nat, ∀ (j : Nat), (hj : j ≤ B) → B - j < n9 → ∀ (H : Heap) (locs : List Loc), va_P D vwCl [(fo, .inr (0, [.ref a0, .ref a1, .ref a2, .ref a3, .ref a4, .ref a5, .ref a6, .ref a7, .int (nI (B))])), (a0, .inl (cI, 32, .inl kd)), (a1, .inl (cI, 32, .inl ky)), (a2, .inl (cI, 32, .inl vl)), (a3, .inl (cI, 32, .inl mk)), (a4, .inl (cI, 8, .inl wr)), (a5, .inl (cI, 32, .inl lv)), (a6, .inl (cI, 16, .inl nw)), (a7, .inl (cI, 8, .inl fr))] H → va_S (fun _ => False) s.heap H locs → ∀ ls : Array Slot, lv_has ls 5 [(0, .ref fo), (1, .int (x)), (2, .int (oI (lwF fr wr x j))), (3, .int (lwL wr (lwF fr wr x j))), (4, .int (nI (j)))] → W p l e ({ frames := 0, cells := 0, slots := 0, locals := 0 } : Room) s m ([.ref fo, .int (x)] : List Value).toArray below meth c H locs 0 0 (MQ below (rp_Qi (oI (lwF fr wr x B))) ([.ref fo, .int (x)] : List Value).toArray s 0 0 (fun _ => False)) (F0 m 8 ls []) := by
    intro n9
    induction n9 with
    | zero => intros; omega
    | succ n9 ih8 =>
      intro j hj hm9 H locs hP hS ls hl
      refine lv_iload hx hb dX0_leastWornCleanBlock_8 (lv_at hl 4 rfl) ?_
      refine lv_aload_n hx hb dX0_leastWornCleanBlock_10 rfl (lv_at hl 0 rfl) ?_
      refine va_get (D := D) (ci := 0) (v := .int (nI (B))) (C := RX0) (T := TX0) (N := 9) hx hb hts u6_X0 hown hK hP 0 rfl rfl 8 (by decide) (hts _ (m6 19 rfl)) (fun _ h9 => h9) rfl dX0_leastWornCleanBlock_11 ?_
      refine lv_icmp_ge (tgt := 75) hx hb dX0_leastWornCleanBlock_14 (by decide) (fun c14_1 => ?_) (fun c14_1 => ?_)
      · skip
        have c14_1 := cn_le (a := B) (b := j) (by omega) (by omega) c14_1
        refine lv_iload_n hx hb dX0_leastWornCleanBlock_75 rfl (lv_at hl 2 rfl) ?_
        exact rp_ret hX hr hlocks hS (by rw [show j = B by omega]) dX0_leastWornCleanBlock_76
      · skip
        have c14_1 := cn_nle (a := B) (b := j) (by omega) (by omega) c14_1
        rcases hO2 : lwF fr wr x j with _ | o2
        · skip
          have hl : lv_has ls 5 [(0, .ref fo), (1, .int (x)), (2, .int ((-9))), (3, .int (0)), (4, .int (nI (j)))] := by rw [hO2] at hl; exact hl
          refine lv_iload hx hb dX0_leastWornCleanBlock_17 (lv_at hl 4 rfl) ?_
          refine lv_bipush (v := 8) hx hb dX0_leastWornCleanBlock_19 (by decide) ?_
          refine lv_icmp_ge (tgt := 75) hx hb dX0_leastWornCleanBlock_21 (by decide) (fun c21_3 => ?_) (fun c21_3 => ?_)
          · skip
            have c21_3 := cn_le (a := 8) (b := j) (by omega) (by omega) c21_3
            refine lv_iload_n hx hb dX0_leastWornCleanBlock_75 rfl (lv_at hl 2 rfl) ?_
            exact rp_ret hX hr hlocks hS (by rw [← show j = B by omega, hO2]; rfl) dX0_leastWornCleanBlock_76
          · skip
            have c21_3 := cn_nle (a := 8) (b := j) (by omega) (by omega) c21_3
            refine lv_iload hx hb dX0_leastWornCleanBlock_24 (lv_at hl 4 rfl) ?_
            refine lv_iload_n hx hb dX0_leastWornCleanBlock_26 rfl (lv_at hl 1 rfl) ?_
            refine lv_icmp_eq (tgt := 69) hx hb dX0_leastWornCleanBlock_27 (by decide) (fun c27_4 => ?_) (fun c27_4 => ?_)
            · skip
              refine lv_iinc (v := nI (j + 1)) (lv' := [(4, .int (nI (j + 1))), (0, .ref fo), (1, .int (x)), (2, .int ((-9))), (3, .int (0))]) hx hb dX0_leastWornCleanBlock_69 hl (k := 4) rfl (nI_add _ 1) (by decide) rfl (fun ls hl => ?_)
              refine lv_goto (tgt := 8) hx hb dX0_leastWornCleanBlock_72 (by decide) ?_
              have hl : lv_has ls 5 [(4, .int (nI (j + 1))), (0, .ref fo), (1, .int (x)), (2, .int (oI (lwF fr wr x (j + 1)))), (3, .int (0))] := lv_re hl 3 rfl (show (-9) = oI (lwF fr wr x (j + 1)) from by rw [lwF, hO2]; dsimp only; rw [if_neg (fun z => z.1 c27_4)]; rfl)
              have hl : lv_has ls 5 [(4, .int (nI (j + 1))), (0, .ref fo), (1, .int (x)), (2, .int (oI (lwF fr wr x (j + 1)))), (3, .int (lwL wr (lwF fr wr x (j + 1))))] := lv_re hl 4 rfl (show 0 = lwL wr (lwF fr wr x (j + 1)) from by rw [lwF, hO2]; dsimp only; rw [if_neg (fun z => z.1 c27_4)]; rfl)
              have hl : lv_has ls 5 [(4, .int (nI ((j + 1)))), (0, .ref fo), (1, .int (x)), (2, .int (oI (lwF fr wr x (j + 1)))), (3, .int (lwL wr (lwF fr wr x (j + 1))))] := lv_re hl 0 rfl (show nI (j + 1) = nI ((j + 1)) from rfl)
              exact ih8 (j + 1) (by omega) (by omega) _ _ hP hS _ (lv_sub hl [1, 2, 3, 4, 0] rfl)
            · skip
              refine lv_aload_n hx hb dX0_leastWornCleanBlock_30 rfl (lv_at hl 0 rfl) ?_
              refine va_get (D := D) (ci := 0) (v := .ref a7) (C := RX0) (T := TX0) (N := 9) hx hb hts u6_X0 hown hK hP 0 rfl rfl 7 (by decide) (hts _ (m6 11 rfl)) (fun _ h9 => h9) rfl dX0_leastWornCleanBlock_31 ?_
              refine lv_iload hx hb dX0_leastWornCleanBlock_34 (lv_at hl 4 rfl) ?_
              refine ra_iald (i := j) hx hb hK hP 8 0 rfl rfl (by omega) (by decide) dX0_leastWornCleanBlock_36 ?_
              refine lv_iconst (v := 4) hx hb dX0_leastWornCleanBlock_37 (by decide) ?_
              refine lv_icmp_ne (tgt := 69) hx hb dX0_leastWornCleanBlock_38 (by decide) (fun c38_5 => ?_) (fun c38_5 => ?_)
              · skip
                refine lv_iinc (v := nI (j + 1)) (lv' := [(4, .int (nI (j + 1))), (0, .ref fo), (1, .int (x)), (2, .int ((-9))), (3, .int (0))]) hx hb dX0_leastWornCleanBlock_69 hl (k := 4) rfl (nI_add _ 1) (by decide) rfl (fun ls hl => ?_)
                refine lv_goto (tgt := 8) hx hb dX0_leastWornCleanBlock_72 (by decide) ?_
                have hl : lv_has ls 5 [(4, .int (nI (j + 1))), (0, .ref fo), (1, .int (x)), (2, .int (oI (lwF fr wr x (j + 1)))), (3, .int (0))] := lv_re hl 3 rfl (show (-9) = oI (lwF fr wr x (j + 1)) from by rw [lwF, hO2]; dsimp only; rw [if_neg (fun z => c38_5 z.2)]; rfl)
                have hl : lv_has ls 5 [(4, .int (nI (j + 1))), (0, .ref fo), (1, .int (x)), (2, .int (oI (lwF fr wr x (j + 1)))), (3, .int (lwL wr (lwF fr wr x (j + 1))))] := lv_re hl 4 rfl (show 0 = lwL wr (lwF fr wr x (j + 1)) from by rw [lwF, hO2]; dsimp only; rw [if_neg (fun z => c38_5 z.2)]; rfl)
                have hl : lv_has ls 5 [(4, .int (nI ((j + 1)))), (0, .ref fo), (1, .int (x)), (2, .int (oI (lwF fr wr x (j + 1)))), (3, .int (lwL wr (lwF fr wr x (j + 1))))] := lv_re hl 0 rfl (show nI (j + 1) = nI ((j + 1)) from rfl)
                exact ih8 (j + 1) (by omega) (by omega) _ _ hP hS _ (lv_sub hl [1, 2, 3, 4, 0] rfl)
              · skip
                refine lv_iload_n hx hb dX0_leastWornCleanBlock_41 rfl (lv_at hl 2 rfl) ?_
                refine lv_bipush (v := (-9)) hx hb dX0_leastWornCleanBlock_42 (by decide) ?_
                refine lv_icmp_eq (tgt := 58) hx hb dX0_leastWornCleanBlock_44 (by decide) (fun c44_6 => ?_) (fun c44_6 => ?_)
                · skip
                  refine lv_iload hx hb dX0_leastWornCleanBlock_58 (lv_at hl 4 rfl) ?_
                  refine lv_istore_n (lv' := [(2, .int (nI (j))), (0, .ref fo), (1, .int (x)), (3, .int (0)), (4, .int (nI (j)))]) hx hb dX0_leastWornCleanBlock_60 rfl hl (by decide) rfl (fun ls hl => ?_)
                  refine lv_aload_n hx hb dX0_leastWornCleanBlock_61 rfl (lv_at hl 1 rfl) ?_
                  refine va_get (D := D) (ci := 0) (v := .ref a4) (C := RX0) (T := TX0) (N := 9) hx hb hts u6_X0 hown hK hP 0 rfl rfl 4 (by decide) (hts _ (m6 8 rfl)) (fun _ h9 => h9) rfl dX0_leastWornCleanBlock_62 ?_
                  refine lv_iload hx hb dX0_leastWornCleanBlock_65 (lv_at hl 4 rfl) ?_
                  refine ra_iald (i := j) hx hb hK hP 5 0 rfl rfl (by omega) (by decide) dX0_leastWornCleanBlock_67 ?_
                  refine lv_istore_n (lv' := [(3, .int (wr (j))), (2, .int (nI (j))), (0, .ref fo), (1, .int (x)), (4, .int (nI (j)))]) hx hb dX0_leastWornCleanBlock_68 rfl hl (by decide) rfl (fun ls hl => ?_)
                  refine lv_iinc (v := nI (j + 1)) (lv' := [(4, .int (nI (j + 1))), (3, .int (wr (j))), (2, .int (nI (j))), (0, .ref fo), (1, .int (x))]) hx hb dX0_leastWornCleanBlock_69 hl (k := 4) rfl (nI_add _ 1) (by decide) rfl (fun ls hl => ?_)
                  refine lv_goto (tgt := 8) hx hb dX0_leastWornCleanBlock_72 (by decide) ?_
                  have hl : lv_has ls 5 [(4, .int (nI (j + 1))), (3, .int (wr (j))), (2, .int (oI (lwF fr wr x (j + 1)))), (0, .ref fo), (1, .int (x))] := lv_re hl 2 rfl (show nI (j) = oI (lwF fr wr x (j + 1)) from by rw [lwF, hO2]; dsimp only; rw [if_pos ⟨c27_4, c38_5⟩]; rfl)
                  have hl : lv_has ls 5 [(4, .int (nI (j + 1))), (3, .int (lwL wr (lwF fr wr x (j + 1)))), (2, .int (oI (lwF fr wr x (j + 1)))), (0, .ref fo), (1, .int (x))] := lv_re hl 1 rfl (show wr (j) = lwL wr (lwF fr wr x (j + 1)) from by rw [lwF, hO2]; dsimp only; rw [if_pos ⟨c27_4, c38_5⟩]; rfl)
                  have hl : lv_has ls 5 [(4, .int (nI ((j + 1)))), (3, .int (lwL wr (lwF fr wr x (j + 1)))), (2, .int (oI (lwF fr wr x (j + 1)))), (0, .ref fo), (1, .int (x))] := lv_re hl 0 rfl (show nI (j + 1) = nI ((j + 1)) from rfl)
                  exact ih8 (j + 1) (by omega) (by omega) _ _ hP hS _ (lv_sub hl [3, 4, 2, 1, 0] rfl)
                · skip
                  exact absurd c44_6 (by decide)
        · skip
          have hl : lv_has ls 5 [(0, .ref fo), (1, .int (x)), (2, .int (nI (o2))), (3, .int (wr o2)), (4, .int (nI (j)))] := by rw [hO2] at hl; exact hl
          have ho2 := lwF_lt hO2
          refine lv_iload hx hb dX0_leastWornCleanBlock_17 (lv_at hl 4 rfl) ?_
          refine lv_bipush (v := 8) hx hb dX0_leastWornCleanBlock_19 (by decide) ?_
          refine lv_icmp_ge (tgt := 75) hx hb dX0_leastWornCleanBlock_21 (by decide) (fun c21_7 => ?_) (fun c21_7 => ?_)
          · skip
            have c21_7 := cn_le (a := 8) (b := j) (by omega) (by omega) c21_7
            refine lv_iload_n hx hb dX0_leastWornCleanBlock_75 rfl (lv_at hl 2 rfl) ?_
            exact rp_ret hX hr hlocks hS (by rw [← show j = B by omega, hO2]; rfl) dX0_leastWornCleanBlock_76
          · skip
            have c21_7 := cn_nle (a := 8) (b := j) (by omega) (by omega) c21_7
            refine lv_iload hx hb dX0_leastWornCleanBlock_24 (lv_at hl 4 rfl) ?_
            refine lv_iload_n hx hb dX0_leastWornCleanBlock_26 rfl (lv_at hl 1 rfl) ?_
            refine lv_icmp_eq (tgt := 69) hx hb dX0_leastWornCleanBlock_27 (by decide) (fun c27_8 => ?_) (fun c27_8 => ?_)
            · skip
              refine lv_iinc (v := nI (j + 1)) (lv' := [(4, .int (nI (j + 1))), (0, .ref fo), (1, .int (x)), (2, .int (nI (o2))), (3, .int (wr o2))]) hx hb dX0_leastWornCleanBlock_69 hl (k := 4) rfl (nI_add _ 1) (by decide) rfl (fun ls hl => ?_)
              refine lv_goto (tgt := 8) hx hb dX0_leastWornCleanBlock_72 (by decide) ?_
              have hl : lv_has ls 5 [(4, .int (nI (j + 1))), (0, .ref fo), (1, .int (x)), (2, .int (oI (lwF fr wr x (j + 1)))), (3, .int (wr o2))] := lv_re hl 3 rfl (show nI (o2) = oI (lwF fr wr x (j + 1)) from by rw [lwF, hO2]; dsimp only; rw [if_neg (fun z => z.1.1 c27_8)]; rfl)
              have hl : lv_has ls 5 [(4, .int (nI (j + 1))), (0, .ref fo), (1, .int (x)), (2, .int (oI (lwF fr wr x (j + 1)))), (3, .int (lwL wr (lwF fr wr x (j + 1))))] := lv_re hl 4 rfl (show wr o2 = lwL wr (lwF fr wr x (j + 1)) from by rw [lwF, hO2]; dsimp only; rw [if_neg (fun z => z.1.1 c27_8)]; rfl)
              have hl : lv_has ls 5 [(4, .int (nI ((j + 1)))), (0, .ref fo), (1, .int (x)), (2, .int (oI (lwF fr wr x (j + 1)))), (3, .int (lwL wr (lwF fr wr x (j + 1))))] := lv_re hl 0 rfl (show nI (j + 1) = nI ((j + 1)) from rfl)
              exact ih8 (j + 1) (by omega) (by omega) _ _ hP hS _ (lv_sub hl [1, 2, 3, 4, 0] rfl)
            · skip
              refine lv_aload_n hx hb dX0_leastWornCleanBlock_30 rfl (lv_at hl 0 rfl) ?_
              refine va_get (D := D) (ci := 0) (v := .ref a7) (C := RX0) (T := TX0) (N := 9) hx hb hts u6_X0 hown hK hP 0 rfl rfl 7 (by decide) (hts _ (m6 11 rfl)) (fun _ h9 => h9) rfl dX0_leastWornCleanBlock_31 ?_
              refine lv_iload hx hb dX0_leastWornCleanBlock_34 (lv_at hl 4 rfl) ?_
              refine ra_iald (i := j) hx hb hK hP 8 0 rfl rfl (by omega) (by decide) dX0_leastWornCleanBlock_36 ?_
              refine lv_iconst (v := 4) hx hb dX0_leastWornCleanBlock_37 (by decide) ?_
              refine lv_icmp_ne (tgt := 69) hx hb dX0_leastWornCleanBlock_38 (by decide) (fun c38_9 => ?_) (fun c38_9 => ?_)
              · skip
                refine lv_iinc (v := nI (j + 1)) (lv' := [(4, .int (nI (j + 1))), (0, .ref fo), (1, .int (x)), (2, .int (nI (o2))), (3, .int (wr o2))]) hx hb dX0_leastWornCleanBlock_69 hl (k := 4) rfl (nI_add _ 1) (by decide) rfl (fun ls hl => ?_)
                refine lv_goto (tgt := 8) hx hb dX0_leastWornCleanBlock_72 (by decide) ?_
                have hl : lv_has ls 5 [(4, .int (nI (j + 1))), (0, .ref fo), (1, .int (x)), (2, .int (oI (lwF fr wr x (j + 1)))), (3, .int (wr o2))] := lv_re hl 3 rfl (show nI (o2) = oI (lwF fr wr x (j + 1)) from by rw [lwF, hO2]; dsimp only; rw [if_neg (fun z => c38_9 z.1.2)]; rfl)
                have hl : lv_has ls 5 [(4, .int (nI (j + 1))), (0, .ref fo), (1, .int (x)), (2, .int (oI (lwF fr wr x (j + 1)))), (3, .int (lwL wr (lwF fr wr x (j + 1))))] := lv_re hl 4 rfl (show wr o2 = lwL wr (lwF fr wr x (j + 1)) from by rw [lwF, hO2]; dsimp only; rw [if_neg (fun z => c38_9 z.1.2)]; rfl)
                have hl : lv_has ls 5 [(4, .int (nI ((j + 1)))), (0, .ref fo), (1, .int (x)), (2, .int (oI (lwF fr wr x (j + 1)))), (3, .int (lwL wr (lwF fr wr x (j + 1))))] := lv_re hl 0 rfl (show nI (j + 1) = nI ((j + 1)) from rfl)
                exact ih8 (j + 1) (by omega) (by omega) _ _ hP hS _ (lv_sub hl [1, 2, 3, 4, 0] rfl)
              · skip
                refine lv_iload_n hx hb dX0_leastWornCleanBlock_41 rfl (lv_at hl 2 rfl) ?_
                refine lv_bipush (v := (-9)) hx hb dX0_leastWornCleanBlock_42 (by decide) ?_
                refine lv_icmp_eq (tgt := 58) hx hb dX0_leastWornCleanBlock_44 (by decide) (fun c44_10 => ?_) (fun c44_10 => ?_)
                · skip
                  exact absurd c44_10 (oI_ne (by omega))
                · skip
                  refine lv_aload_n hx hb dX0_leastWornCleanBlock_47 rfl (lv_at hl 0 rfl) ?_
                  refine va_get (D := D) (ci := 0) (v := .ref a4) (C := RX0) (T := TX0) (N := 9) hx hb hts u6_X0 hown hK hP 0 rfl rfl 4 (by decide) (hts _ (m6 8 rfl)) (fun _ h9 => h9) rfl dX0_leastWornCleanBlock_48 ?_
                  refine lv_iload hx hb dX0_leastWornCleanBlock_51 (lv_at hl 4 rfl) ?_
                  refine ra_iald (i := j) hx hb hK hP 5 0 rfl rfl (by omega) (by decide) dX0_leastWornCleanBlock_53 ?_
                  refine lv_iload_n hx hb dX0_leastWornCleanBlock_54 rfl (lv_at hl 3 rfl) ?_
                  refine lv_icmp_ge (tgt := 69) hx hb dX0_leastWornCleanBlock_55 (by decide) (fun c55_11 => ?_) (fun c55_11 => ?_)
                  · skip
                    have c55_11 := i_nlt c55_11
                    refine lv_iinc (v := nI (j + 1)) (lv' := [(4, .int (nI (j + 1))), (0, .ref fo), (1, .int (x)), (2, .int (nI (o2))), (3, .int (wr o2))]) hx hb dX0_leastWornCleanBlock_69 hl (k := 4) rfl (nI_add _ 1) (by decide) rfl (fun ls hl => ?_)
                    refine lv_goto (tgt := 8) hx hb dX0_leastWornCleanBlock_72 (by decide) ?_
                    have hl : lv_has ls 5 [(4, .int (nI (j + 1))), (0, .ref fo), (1, .int (x)), (2, .int (oI (lwF fr wr x (j + 1)))), (3, .int (wr o2))] := lv_re hl 3 rfl (show nI (o2) = oI (lwF fr wr x (j + 1)) from by rw [lwF, hO2]; dsimp only; rw [if_neg (fun z => c55_11 z.2)]; rfl)
                    have hl : lv_has ls 5 [(4, .int (nI (j + 1))), (0, .ref fo), (1, .int (x)), (2, .int (oI (lwF fr wr x (j + 1)))), (3, .int (lwL wr (lwF fr wr x (j + 1))))] := lv_re hl 4 rfl (show wr o2 = lwL wr (lwF fr wr x (j + 1)) from by rw [lwF, hO2]; dsimp only; rw [if_neg (fun z => c55_11 z.2)]; rfl)
                    have hl : lv_has ls 5 [(4, .int (nI ((j + 1)))), (0, .ref fo), (1, .int (x)), (2, .int (oI (lwF fr wr x (j + 1)))), (3, .int (lwL wr (lwF fr wr x (j + 1))))] := lv_re hl 0 rfl (show nI (j + 1) = nI ((j + 1)) from rfl)
                    exact ih8 (j + 1) (by omega) (by omega) _ _ hP hS _ (lv_sub hl [1, 2, 3, 4, 0] rfl)
                  · skip
                    have c55_11 := i_lt c55_11
                    refine lv_iload hx hb dX0_leastWornCleanBlock_58 (lv_at hl 4 rfl) ?_
                    refine lv_istore_n (lv' := [(2, .int (nI (j))), (0, .ref fo), (1, .int (x)), (3, .int (wr o2)), (4, .int (nI (j)))]) hx hb dX0_leastWornCleanBlock_60 rfl hl (by decide) rfl (fun ls hl => ?_)
                    refine lv_aload_n hx hb dX0_leastWornCleanBlock_61 rfl (lv_at hl 1 rfl) ?_
                    refine va_get (D := D) (ci := 0) (v := .ref a4) (C := RX0) (T := TX0) (N := 9) hx hb hts u6_X0 hown hK hP 0 rfl rfl 4 (by decide) (hts _ (m6 8 rfl)) (fun _ h9 => h9) rfl dX0_leastWornCleanBlock_62 ?_
                    refine lv_iload hx hb dX0_leastWornCleanBlock_65 (lv_at hl 4 rfl) ?_
                    refine ra_iald (i := j) hx hb hK hP 5 0 rfl rfl (by omega) (by decide) dX0_leastWornCleanBlock_67 ?_
                    refine lv_istore_n (lv' := [(3, .int (wr (j))), (2, .int (nI (j))), (0, .ref fo), (1, .int (x)), (4, .int (nI (j)))]) hx hb dX0_leastWornCleanBlock_68 rfl hl (by decide) rfl (fun ls hl => ?_)
                    refine lv_iinc (v := nI (j + 1)) (lv' := [(4, .int (nI (j + 1))), (3, .int (wr (j))), (2, .int (nI (j))), (0, .ref fo), (1, .int (x))]) hx hb dX0_leastWornCleanBlock_69 hl (k := 4) rfl (nI_add _ 1) (by decide) rfl (fun ls hl => ?_)
                    refine lv_goto (tgt := 8) hx hb dX0_leastWornCleanBlock_72 (by decide) ?_
                    have hl : lv_has ls 5 [(4, .int (nI (j + 1))), (3, .int (wr (j))), (2, .int (oI (lwF fr wr x (j + 1)))), (0, .ref fo), (1, .int (x))] := lv_re hl 2 rfl (show nI (j) = oI (lwF fr wr x (j + 1)) from by rw [lwF, hO2]; dsimp only; rw [if_pos ⟨⟨c27_8, c38_9⟩, c55_11⟩]; rfl)
                    have hl : lv_has ls 5 [(4, .int (nI (j + 1))), (3, .int (lwL wr (lwF fr wr x (j + 1)))), (2, .int (oI (lwF fr wr x (j + 1)))), (0, .ref fo), (1, .int (x))] := lv_re hl 1 rfl (show wr (j) = lwL wr (lwF fr wr x (j + 1)) from by rw [lwF, hO2]; dsimp only; rw [if_pos ⟨⟨c27_8, c38_9⟩, c55_11⟩]; rfl)
                    have hl : lv_has ls 5 [(4, .int (nI ((j + 1)))), (3, .int (lwL wr (lwF fr wr x (j + 1)))), (2, .int (oI (lwF fr wr x (j + 1)))), (0, .ref fo), (1, .int (x))] := lv_re hl 0 rfl (show nI (j + 1) = nI ((j + 1)) from rfl)
                    exact ih8 (j + 1) (by omega) (by omega) _ _ hP hS _ (lv_sub hl [3, 4, 2, 1, 0] rfl)
  have hl : lv_has ls 5 [(4, .int (0)), (3, .int (0)), (2, .int (oI (lwF fr wr x 0))), (0, .ref fo), (1, .int (x))] := lv_re hl 2 rfl (show (-9) = oI (lwF fr wr x 0) from rfl)
  have hl : lv_has ls 5 [(4, .int (0)), (3, .int (lwL wr (lwF fr wr x 0))), (2, .int (oI (lwF fr wr x 0))), (0, .ref fo), (1, .int (x))] := lv_re hl 1 rfl (show 0 = lwL wr (lwF fr wr x 0) from rfl)
  have hl : lv_has ls 5 [(4, .int (nI (0))), (3, .int (lwL wr (lwF fr wr x 0))), (2, .int (oI (lwF fr wr x 0))), (0, .ref fo), (1, .int (x))] := lv_re hl 0 rfl (show 0 = nI (0) from rfl)
  exact LP8 ((B - 0) + 1) 0 (by omega) (by omega) _ _ hP hS _ (lv_sub hl [3, 4, 2, 1, 0] rfl)
theorem dX0_tellPage_0 : decode cX0_tellPage 0 = .ok (.iload_n 1, 1) := by decide +kernel
theorem dX0_tellPage_1 : decode cX0_tellPage 1 = .ok (.ifCond .lt 9, 3) := by decide +kernel
theorem dX0_tellPage_4 : decode cX0_tellPage 4 = .ok (.iload_n 1, 1) := by decide +kernel
theorem dX0_tellPage_5 : decode cX0_tellPage 5 = .ok (.bipush 32, 2) := by decide +kernel
theorem dX0_tellPage_7 : decode cX0_tellPage 7 = .ok (.if_icmp .lt 6, 3) := by decide +kernel
theorem dX0_tellPage_10 : decode cX0_tellPage 10 = .ok (.bipush (-9), 2) := by decide +kernel
theorem dX0_tellPage_12 : decode cX0_tellPage 12 = .ok (.ireturn, 1) := by decide +kernel
theorem dX0_tellPage_13 : decode cX0_tellPage 13 = .ok (.iload_n 2, 1) := by decide +kernel
theorem dX0_tellPage_14 : decode cX0_tellPage 14 = .ok (.ifCond .ne 10, 3) := by decide +kernel
theorem dX0_tellPage_17 : decode cX0_tellPage 17 = .ok (.aload_n 0, 1) := by decide +kernel
theorem dX0_tellPage_18 : decode cX0_tellPage 18 = .ok (.getfield 11, 3) := by decide +kernel
theorem dX0_tellPage_21 : decode cX0_tellPage 21 = .ok (.iload_n 1, 1) := by decide +kernel
theorem dX0_tellPage_22 : decode cX0_tellPage 22 = .ok (.iaload, 1) := by decide +kernel
theorem dX0_tellPage_23 : decode cX0_tellPage 23 = .ok (.ireturn, 1) := by decide +kernel
theorem dX0_tellPage_24 : decode cX0_tellPage 24 = .ok (.aload_n 0, 1) := by decide +kernel
theorem dX0_tellPage_25 : decode cX0_tellPage 25 = .ok (.getfield 11, 3) := by decide +kernel
theorem dX0_tellPage_28 : decode cX0_tellPage 28 = .ok (.iload_n 1, 1) := by decide +kernel
theorem dX0_tellPage_29 : decode cX0_tellPage 29 = .ok (.iaload, 1) := by decide +kernel
theorem dX0_tellPage_30 : decode cX0_tellPage 30 = .ok (.iconst 1, 1) := by decide +kernel
theorem dX0_tellPage_31 : decode cX0_tellPage 31 = .ok (.if_icmp .eq 6, 3) := by decide +kernel
theorem dX0_tellPage_34 : decode cX0_tellPage 34 = .ok (.bipush (-9), 2) := by decide +kernel
theorem dX0_tellPage_36 : decode cX0_tellPage 36 = .ok (.ireturn, 1) := by decide +kernel
theorem dX0_tellPage_37 : decode cX0_tellPage 37 = .ok (.iload_n 2, 1) := by decide +kernel
theorem dX0_tellPage_38 : decode cX0_tellPage 38 = .ok (.tableswitch 47 1 3 #[26, 33, 40], 26) := by decide +kernel
theorem dX0_tellPage_64 : decode cX0_tellPage 64 = .ok (.aload_n 0, 1) := by decide +kernel
theorem dX0_tellPage_65 : decode cX0_tellPage 65 = .ok (.getfield 15, 3) := by decide +kernel
theorem dX0_tellPage_68 : decode cX0_tellPage 68 = .ok (.iload_n 1, 1) := by decide +kernel
theorem dX0_tellPage_69 : decode cX0_tellPage 69 = .ok (.iaload, 1) := by decide +kernel
theorem dX0_tellPage_70 : decode cX0_tellPage 70 = .ok (.ireturn, 1) := by decide +kernel
theorem dX0_tellPage_71 : decode cX0_tellPage 71 = .ok (.aload_n 0, 1) := by decide +kernel
theorem dX0_tellPage_72 : decode cX0_tellPage 72 = .ok (.getfield 18, 3) := by decide +kernel
theorem dX0_tellPage_75 : decode cX0_tellPage 75 = .ok (.iload_n 1, 1) := by decide +kernel
theorem dX0_tellPage_76 : decode cX0_tellPage 76 = .ok (.iaload, 1) := by decide +kernel
theorem dX0_tellPage_77 : decode cX0_tellPage 77 = .ok (.ireturn, 1) := by decide +kernel
theorem dX0_tellPage_78 : decode cX0_tellPage 78 = .ok (.aload_n 0, 1) := by decide +kernel
theorem dX0_tellPage_79 : decode cX0_tellPage 79 = .ok (.getfield 21, 3) := by decide +kernel
theorem dX0_tellPage_82 : decode cX0_tellPage 82 = .ok (.iload_n 1, 1) := by decide +kernel
theorem dX0_tellPage_83 : decode cX0_tellPage 83 = .ok (.iaload, 1) := by decide +kernel
theorem dX0_tellPage_84 : decode cX0_tellPage 84 = .ok (.ireturn, 1) := by decide +kernel
theorem dX0_tellPage_85 : decode cX0_tellPage 85 = .ok (.aload_n 0, 1) := by decide +kernel
theorem dX0_tellPage_86 : decode cX0_tellPage 86 = .ok (.getfield 27, 3) := by decide +kernel
theorem dX0_tellPage_89 : decode cX0_tellPage 89 = .ok (.iload_n 1, 1) := by decide +kernel
theorem dX0_tellPage_90 : decode cX0_tellPage 90 = .ok (.iaload, 1) := by decide +kernel
theorem dX0_tellPage_91 : decode cX0_tellPage 91 = .ok (.ireturn, 1) := by decide +kernel
theorem q0_tellPage : CQ W6 yX0_tellPage cX0_tellPage 3 (some .int) 2 := ⟨(m6 186 rfl), by decide, by decide, by decide +kernel⟩
set_option maxHeartbeats 4000000 in
set_option maxRecDepth 100000 in
theorem c0_tellPage (l : Launch) (D : va_G) (cI : ClassId) (fo a0 a1 a2 a3 a4 a5 a6 a7 : Nat) (kd ky vl mk wr lv nw fr : Nat → Int32) (B : Nat) (hB8 : B ≤ 8) (x y : Int32) : RQ l yX0_tellPage cX0_tellPage 3 .int W6 0 0 D [(fo, .inr (0, [.ref a0, .ref a1, .ref a2, .ref a3, .ref a4, .ref a5, .ref a6, .ref a7, .int (nI (B))])), (a0, .inl (cI, 32, .inl kd)), (a1, .inl (cI, 32, .inl ky)), (a2, .inl (cI, 32, .inl vl)), (a3, .inl (cI, 32, .inl mk)), (a4, .inl (cI, 8, .inl wr)), (a5, .inl (cI, 32, .inl lv)), (a6, .inl (cI, 16, .inl nw)), (a7, .inl (cI, 8, .inl fr))] [(cI, .int)] [.ref fo, .int (x), .int (y)] (tpV kd ky vl mk lv x y) := by
  refine rq_of RX0 (by decide) rfl (Nat.le_of_ble_eq_true rfl) ?_
  intro p e s m below meth c ls hX hr hlocks hK hN hP hS hl
  have hx := hX.1
  have hb := hX.2.1
  have hown := hX.2.2.2.1
  have hts := hX.2.2.2.2
  have hl : lv_has ls 3 [(0, .ref fo), (1, .int (x)), (2, .int (y))] := hl
  refine lv_iload_n hx hb dX0_tellPage_0 rfl (lv_at hl 1 rfl) ?_
  refine lv_if_lt (tgt := 10) hx hb dX0_tellPage_1 (by decide) (fun c1_1 => ?_) (fun c1_1 => ?_)
  · skip
    refine lv_bipush (v := (-9)) hx hb dX0_tellPage_10 (by decide) ?_
    exact rp_ret hX hr hlocks hS (by rw [tpV, if_neg (fun z => z.1 c1_1)]) dX0_tellPage_12
  · skip
    refine lv_iload_n hx hb dX0_tellPage_4 rfl (lv_at hl 1 rfl) ?_
    refine lv_bipush (v := 32) hx hb dX0_tellPage_5 (by decide) ?_
    refine lv_icmp_lt (tgt := 13) hx hb dX0_tellPage_7 (by decide) (fun c7_2 => ?_) (fun c7_2 => ?_)
    · skip
      obtain ⟨en1, hn1⟩ := num0 (k := 32) (by decide) c1_1 c7_2
      have hl : lv_has ls 3 [(0, .ref fo), (1, .int (nI (x.toNatClampNeg))), (2, .int (y))] := lv_re hl 1 rfl en1
      refine lv_iload_n hx hb dX0_tellPage_13 rfl (lv_at hl 2 rfl) ?_
      refine lv_if_ne (tgt := 24) hx hb dX0_tellPage_14 (by decide) (fun c14_3 => ?_) (fun c14_3 => ?_)
      · skip
        refine lv_aload_n hx hb dX0_tellPage_24 rfl (lv_at hl 0 rfl) ?_
        refine va_get (D := D) (ci := 0) (v := .ref a0) (C := RX0) (T := TX0) (N := 9) hx hb hts u6_X0 hown hK hP 0 rfl rfl 0 (by decide) (hts _ (m6 4 rfl)) (fun _ h9 => h9) rfl dX0_tellPage_25 ?_
        refine lv_iload_n hx hb dX0_tellPage_28 rfl (lv_at hl 1 rfl) ?_
        refine ra_iald (i := x.toNatClampNeg) hx hb hK hP 1 0 rfl rfl (by omega) (by decide) dX0_tellPage_29 ?_
        refine lv_iconst (v := 1) hx hb dX0_tellPage_30 (by decide) ?_
        refine lv_icmp_eq (tgt := 37) hx hb dX0_tellPage_31 (by decide) (fun c31_4 => ?_) (fun c31_4 => ?_)
        · skip
          rcases (show y = 1 ∨ (¬ y = 1 ∧ y = 2) ∨ (¬ y = 1 ∧ ¬ y = 2 ∧ y = 3) ∨ (¬ y = 1 ∧ ¬ y = 2 ∧ ¬ y = 3) from by by_cases h1 : y = 1; exact Or.inl h1; by_cases h2 : y = 2; exact Or.inr (Or.inl ⟨h1, h2⟩); by_cases h3 : y = 3; exact Or.inr (Or.inr (Or.inl ⟨h1, h2, h3⟩)); exact Or.inr (Or.inr (Or.inr ⟨h1, h2, h3⟩))) with hw1 | ⟨hn1, hw2⟩ | ⟨hn1, hn2, hw3⟩ | ⟨hw1, hw2, hw3⟩
          · skip
            have hl : lv_has ls 3 [(0, .ref fo), (1, .int (nI (x.toNatClampNeg))), (2, .int (1))] := lv_re hl 2 rfl hw1
            refine lv_iload_n hx hb dX0_tellPage_37 rfl (lv_at hl 2 rfl) ?_
            refine lv_tableIn (off := 26) (tgt := 64) hx hb dX0_tellPage_38 (by decide) (by decide) (by decide) (by decide) ?_
            refine lv_aload_n hx hb dX0_tellPage_64 rfl (lv_at hl 0 rfl) ?_
            refine va_get (D := D) (ci := 0) (v := .ref a1) (C := RX0) (T := TX0) (N := 9) hx hb hts u6_X0 hown hK hP 0 rfl rfl 1 (by decide) (hts _ (m6 5 rfl)) (fun _ h9 => h9) rfl dX0_tellPage_65 ?_
            refine lv_iload_n hx hb dX0_tellPage_68 rfl (lv_at hl 1 rfl) ?_
            refine ra_iald (i := x.toNatClampNeg) hx hb hK hP 2 0 rfl rfl (by omega) (by decide) dX0_tellPage_69 ?_
            exact rp_ret hX hr hlocks hS (by rw [tpV, if_pos ⟨c1_1, c7_2⟩, tpF, if_neg c14_3, if_pos c31_4, if_pos hw1]) dX0_tellPage_70
          · skip
            have hl : lv_has ls 3 [(0, .ref fo), (1, .int (nI (x.toNatClampNeg))), (2, .int (2))] := lv_re hl 2 rfl hw2
            refine lv_iload_n hx hb dX0_tellPage_37 rfl (lv_at hl 2 rfl) ?_
            refine lv_tableIn (off := 33) (tgt := 71) hx hb dX0_tellPage_38 (by decide) (by decide) (by decide) (by decide) ?_
            refine lv_aload_n hx hb dX0_tellPage_71 rfl (lv_at hl 0 rfl) ?_
            refine va_get (D := D) (ci := 0) (v := .ref a2) (C := RX0) (T := TX0) (N := 9) hx hb hts u6_X0 hown hK hP 0 rfl rfl 2 (by decide) (hts _ (m6 6 rfl)) (fun _ h9 => h9) rfl dX0_tellPage_72 ?_
            refine lv_iload_n hx hb dX0_tellPage_75 rfl (lv_at hl 1 rfl) ?_
            refine ra_iald (i := x.toNatClampNeg) hx hb hK hP 3 0 rfl rfl (by omega) (by decide) dX0_tellPage_76 ?_
            exact rp_ret hX hr hlocks hS (by rw [tpV, if_pos ⟨c1_1, c7_2⟩, tpF, if_neg c14_3, if_pos c31_4, if_neg hn1, if_pos hw2]) dX0_tellPage_77
          · skip
            have hl : lv_has ls 3 [(0, .ref fo), (1, .int (nI (x.toNatClampNeg))), (2, .int (3))] := lv_re hl 2 rfl hw3
            refine lv_iload_n hx hb dX0_tellPage_37 rfl (lv_at hl 2 rfl) ?_
            refine lv_tableIn (off := 40) (tgt := 78) hx hb dX0_tellPage_38 (by decide) (by decide) (by decide) (by decide) ?_
            refine lv_aload_n hx hb dX0_tellPage_78 rfl (lv_at hl 0 rfl) ?_
            refine va_get (D := D) (ci := 0) (v := .ref a3) (C := RX0) (T := TX0) (N := 9) hx hb hts u6_X0 hown hK hP 0 rfl rfl 3 (by decide) (hts _ (m6 7 rfl)) (fun _ h9 => h9) rfl dX0_tellPage_79 ?_
            refine lv_iload_n hx hb dX0_tellPage_82 rfl (lv_at hl 1 rfl) ?_
            refine ra_iald (i := x.toNatClampNeg) hx hb hK hP 4 0 rfl rfl (by omega) (by decide) dX0_tellPage_83 ?_
            exact rp_ret hX hr hlocks hS (by rw [tpV, if_pos ⟨c1_1, c7_2⟩, tpF, if_neg c14_3, if_pos c31_4, if_neg hn1, if_neg hn2, if_pos hw3]) dX0_tellPage_84
          · skip
            have hi1 := ne_int hw1
            have hi2 := ne_int hw2
            have hi3 := ne_int hw3
            have hi0 := ne_int c14_3
            have e1 : (1 : Int32).toInt = 1 := by decide
            have e2 : (2 : Int32).toInt = 2 := by decide
            have e3 : (3 : Int32).toInt = 3 := by decide
            refine lv_iload_n hx hb dX0_tellPage_37 rfl (lv_at hl 2 rfl) ?_
            refine lv_tableOut (tgt := 85) hx hb dX0_tellPage_38 (by omega) (by decide) ?_
            refine lv_aload_n hx hb dX0_tellPage_85 rfl (lv_at hl 0 rfl) ?_
            refine va_get (D := D) (ci := 0) (v := .ref a5) (C := RX0) (T := TX0) (N := 9) hx hb hts u6_X0 hown hK hP 0 rfl rfl 5 (by decide) (hts _ (m6 9 rfl)) (fun _ h9 => h9) rfl dX0_tellPage_86 ?_
            refine lv_iload_n hx hb dX0_tellPage_89 rfl (lv_at hl 1 rfl) ?_
            refine ra_iald (i := x.toNatClampNeg) hx hb hK hP 6 0 rfl rfl (by omega) (by decide) dX0_tellPage_90 ?_
            exact rp_ret hX hr hlocks hS (by rw [tpV, if_pos ⟨c1_1, c7_2⟩, tpF, if_neg c14_3, if_pos c31_4, if_neg hw1, if_neg hw2, if_neg hw3]) dX0_tellPage_91
        · skip
          refine lv_bipush (v := (-9)) hx hb dX0_tellPage_34 (by decide) ?_
          exact rp_ret hX hr hlocks hS (by rw [tpV, if_pos ⟨c1_1, c7_2⟩, tpF, if_neg c14_3, if_neg c31_4]) dX0_tellPage_36
      · skip
        refine lv_aload_n hx hb dX0_tellPage_17 rfl (lv_at hl 0 rfl) ?_
        refine va_get (D := D) (ci := 0) (v := .ref a0) (C := RX0) (T := TX0) (N := 9) hx hb hts u6_X0 hown hK hP 0 rfl rfl 0 (by decide) (hts _ (m6 4 rfl)) (fun _ h9 => h9) rfl dX0_tellPage_18 ?_
        refine lv_iload_n hx hb dX0_tellPage_21 rfl (lv_at hl 1 rfl) ?_
        refine ra_iald (i := x.toNatClampNeg) hx hb hK hP 1 0 rfl rfl (by omega) (by decide) dX0_tellPage_22 ?_
        exact rp_ret hX hr hlocks hS (by rw [tpV, if_pos ⟨c1_1, c7_2⟩, tpF, if_pos c14_3]) dX0_tellPage_23
    · skip
      refine lv_bipush (v := (-9)) hx hb dX0_tellPage_10 (by decide) ?_
      exact rp_ret hX hr hlocks hS (by rw [tpV, if_neg (fun z => c7_2 z.2)]) dX0_tellPage_12
theorem dX6_copyRow_0 : decode cX6_copyRow 0 = .ok (.aload_n 0, 1) := by decide +kernel
theorem dX6_copyRow_1 : decode cX6_copyRow 1 = .ok (.iconst 0, 1) := by decide +kernel
theorem dX6_copyRow_2 : decode cX6_copyRow 2 = .ok (.aload_n 1, 1) := by decide +kernel
theorem dX6_copyRow_3 : decode cX6_copyRow 3 = .ok (.iconst 0, 1) := by decide +kernel
theorem dX6_copyRow_4 : decode cX6_copyRow 4 = .ok (.aload_n 0, 1) := by decide +kernel
theorem dX6_copyRow_5 : decode cX6_copyRow 5 = .ok (.arraylength, 1) := by decide +kernel
theorem dX6_copyRow_6 : decode cX6_copyRow 6 = .ok (.aload_n 1, 1) := by decide +kernel
theorem dX6_copyRow_7 : decode cX6_copyRow 7 = .ok (.arraylength, 1) := by decide +kernel
theorem dX6_copyRow_8 : decode cX6_copyRow 8 = .ok (.invokestatic 283, 3) := by decide +kernel
theorem dX6_copyRow_11 : decode cX6_copyRow 11 = .ok (.invokestatic 286, 3) := by decide +kernel
theorem dX6_copyRow_14 : decode cX6_copyRow 14 = .ok (.return_, 1) := by decide +kernel
theorem q6_copyRow : CQ W6 yX6_copyRow cX6_copyRow 2 none 2 := ⟨(m6 32 rfl), by decide, by decide, by decide +kernel⟩
set_option maxHeartbeats 4000000 in
set_option maxRecDepth 100000 in
theorem c6_copyRow (l : Launch) (D : va_G) (cI : ClassId) (r1 r2 n1 : Nat) (f1 f2 : Nat → Int32) (hn : n1 < 100000) : GQv l yX6_copyRow cX6_copyRow 2 W6 1 60 D [(r1, .inl (cI, n1, .inl f1)), (r2, .inl (cI, n1, .inl f2))] [(cI, .int)] [.ref r1, .ref r2] (fun u9 : va_W => u9 = [(r1, .inl (cI, n1, .inl f1)), (r2, .inl (cI, n1, .inl f1))]) := by
  refine gq_of RX6 (by decide) rfl (Nat.le_of_ble_eq_true rfl) ?_
  intro p e s m below meth c ls H hX hr hlocks hK hN hP hD hS hl
  generalize gp_A [(r1, .inl (cI, n1, .inl f1)), (r2, .inl (cI, n1, .inl f2))] = A at hD hS ⊢
  have hx := hX.1
  have hb := hX.2.1
  have hown := hX.2.2.2.1
  have hts := hX.2.2.2.2
  have hl : lv_has ls 2 [(0, .ref r1), (1, .ref r2)] := hl
  refine lv_aload_n hx hb dX6_copyRow_0 rfl (lv_at hl 0 rfl) ?_
  refine lv_iconst (v := 0) hx hb dX6_copyRow_1 (by decide) ?_
  refine lv_aload_n hx hb dX6_copyRow_2 rfl (lv_at hl 1 rfl) ?_
  refine lv_iconst (v := 0) hx hb dX6_copyRow_3 (by decide) ?_
  refine lv_aload_n hx hb dX6_copyRow_4 rfl (lv_at hl 0 rfl) ?_
  refine va_alen (v := nI (n1)) hx hb hK hP 0 0 rfl rfl rfl dX6_copyRow_5 ?_
  refine lv_aload_n hx hb dX6_copyRow_6 rfl (lv_at hl 1 rfl) ?_
  refine va_alen (v := nI (n1)) hx hb hK hP 1 0 rfl rfl rfl dX6_copyRow_7 ?_
  refine va_mmin hx hb (hX.2.2.1.trans hl.1.symm) hown (hts _ (m6 25 rfl)) (hts _ (m6 13 rfl)) (hts _ (m6 14 rfl)) (hts _ (m6 15 rfl)) (Nat.le_of_ble_eq_true rfl) (Nat.le_of_ble_eq_true rfl) (Nat.le_of_ble_eq_true rfl) (Nat.le_of_ble_eq_true rfl) dX6_copyRow_8 ?_
  refine lv_as (y := nI (n1)) (by simp) ?_
  refine va_copyi hx hb (hX.2.2.1.trans hl.1.symm) hown (hts _ (m6 26 rfl)) (hts _ (m6 27 rfl)) (hts _ (m6 28 rfl)) (hts _ (m6 29 rfl)) hK hP hD hS 0 1 0 0 rfl rfl rfl rfl rfl (by decide) (by decide) (nI_pos (by omega)) (by rw [nI_clamp (by omega)]; simp) (by rw [nI_clamp (by omega)]; simp) (fun _ _ => rfl) (Nat.le_of_ble_eq_true rfl) (Nat.le_of_ble_eq_true rfl) dX6_copyRow_11 (fun H locs hP hD hS => ?_)
  have hP : va_P D vwCl [(r1, .inl (cI, n1, .inl f1)), (r2, .inl (cI, n1, .inl (va_cpy f1 f2 (0 : Int32).toNatClampNeg (0 : Int32).toNatClampNeg (nI n1).toNatClampNeg)))] H := hP
  have hD : va_D A [(r1, .inl (cI, n1, .inl f1)), (r2, .inl (cI, n1, .inl (va_cpy f1 f2 (0 : Int32).toNatClampNeg (0 : Int32).toNatClampNeg (nI n1).toNatClampNeg)))] := hD
  have hP : va_P D vwCl [(r1, .inl (cI, n1, .inl f1)), (r2, .inl (cI, n1, .inl f1))] H := gp_cell (A := A) hP 1 rfl (fun k hk => by rw [nI_clamp (by omega)]; exact cpy_all hk)
  have hD : va_D A [(r1, .inl (cI, n1, .inl f1)), (r2, .inl (cI, n1, .inl f1))] := gp_D hD (by simp only [List.map_cons, List.map_nil])
  exact gp_retv hX hr hlocks hS hP rfl dX6_copyRow_14
