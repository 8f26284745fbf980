theorem dX7_sweepOnce_0 : decode cX7_sweepOnce 0 = .ok (.aload_n 1, 1) := by decide +kernel
theorem dX7_sweepOnce_1 : decode cX7_sweepOnce 1 = .ok (.invokestatic 109, 3) := by decide +kernel
theorem dX7_sweepOnce_4 : decode cX7_sweepOnce 4 = .ok (.istore_n 2, 1) := by decide +kernel
theorem dX7_sweepOnce_5 : decode cX7_sweepOnce 5 = .ok (.iload_n 2, 1) := by decide +kernel
theorem dX7_sweepOnce_6 : decode cX7_sweepOnce 6 = .ok (.bipush (-9), 2) := by decide +kernel
theorem dX7_sweepOnce_8 : decode cX7_sweepOnce 8 = .ok (.if_icmp .ne 6, 3) := by decide +kernel
theorem dX7_sweepOnce_11 : decode cX7_sweepOnce 11 = .ok (.bipush (-9), 2) := by decide +kernel
theorem dX7_sweepOnce_13 : decode cX7_sweepOnce 13 = .ok (.ireturn, 1) := by decide +kernel
theorem dX7_sweepOnce_14 : decode cX7_sweepOnce 14 = .ok (.iconst 0, 1) := by decide +kernel
theorem dX7_sweepOnce_15 : decode cX7_sweepOnce 15 = .ok (.istore_n 3, 1) := by decide +kernel
theorem dX7_sweepOnce_16 : decode cX7_sweepOnce 16 = .ok (.iconst 4, 1) := by decide +kernel
theorem dX7_sweepOnce_17 : decode cX7_sweepOnce 17 = .ok (.iload_n 2, 1) := by decide +kernel
theorem dX7_sweepOnce_18 : decode cX7_sweepOnce 18 = .ok (.imul, 1) := by decide +kernel
theorem dX7_sweepOnce_19 : decode cX7_sweepOnce 19 = .ok (.istore 4, 2) := by decide +kernel
theorem dX7_sweepOnce_21 : decode cX7_sweepOnce 21 = .ok (.iload 4, 2) := by decide +kernel
theorem dX7_sweepOnce_23 : decode cX7_sweepOnce 23 = .ok (.iconst 4, 1) := by decide +kernel
theorem dX7_sweepOnce_24 : decode cX7_sweepOnce 24 = .ok (.iload_n 2, 1) := by decide +kernel
theorem dX7_sweepOnce_25 : decode cX7_sweepOnce 25 = .ok (.imul, 1) := by decide +kernel
theorem dX7_sweepOnce_26 : decode cX7_sweepOnce 26 = .ok (.iconst 4, 1) := by decide +kernel
theorem dX7_sweepOnce_27 : decode cX7_sweepOnce 27 = .ok (.iadd, 1) := by decide +kernel
theorem dX7_sweepOnce_28 : decode cX7_sweepOnce 28 = .ok (.if_icmp .ge 29, 3) := by decide +kernel
theorem dX7_sweepOnce_31 : decode cX7_sweepOnce 31 = .ok (.aload_n 1, 1) := by decide +kernel
theorem dX7_sweepOnce_32 : decode cX7_sweepOnce 32 = .ok (.iload 4, 2) := by decide +kernel
theorem dX7_sweepOnce_34 : decode cX7_sweepOnce 34 = .ok (.invokestatic 71, 3) := by decide +kernel
theorem dX7_sweepOnce_37 : decode cX7_sweepOnce 37 = .ok (.ifCond .eq 14, 3) := by decide +kernel
theorem dX7_sweepOnce_40 : decode cX7_sweepOnce 40 = .ok (.aload_n 0, 1) := by decide +kernel
theorem dX7_sweepOnce_41 : decode cX7_sweepOnce 41 = .ok (.getfield 32, 3) := by decide +kernel
theorem dX7_sweepOnce_44 : decode cX7_sweepOnce 44 = .ok (.iload_n 3, 1) := by decide +kernel
theorem dX7_sweepOnce_45 : decode cX7_sweepOnce 45 = .ok (.iload 4, 2) := by decide +kernel
theorem dX7_sweepOnce_47 : decode cX7_sweepOnce 47 = .ok (.iastore, 1) := by decide +kernel
theorem dX7_sweepOnce_48 : decode cX7_sweepOnce 48 = .ok (.iinc 3 1, 3) := by decide +kernel
theorem dX7_sweepOnce_51 : decode cX7_sweepOnce 51 = .ok (.iinc 4 1, 3) := by decide +kernel
theorem dX7_sweepOnce_54 : decode cX7_sweepOnce 54 = .ok (.goto (-33), 3) := by decide +kernel
theorem dX7_sweepOnce_57 : decode cX7_sweepOnce 57 = .ok (.iconst 0, 1) := by decide +kernel
theorem dX7_sweepOnce_58 : decode cX7_sweepOnce 58 = .ok (.istore 4, 2) := by decide +kernel
theorem dX7_sweepOnce_60 : decode cX7_sweepOnce 60 = .ok (.iload 4, 2) := by decide +kernel
theorem dX7_sweepOnce_62 : decode cX7_sweepOnce 62 = .ok (.iload_n 3, 1) := by decide +kernel
theorem dX7_sweepOnce_63 : decode cX7_sweepOnce 63 = .ok (.if_icmp .ge 64, 3) := by decide +kernel
theorem dX7_sweepOnce_66 : decode cX7_sweepOnce 66 = .ok (.aload_n 1, 1) := by decide +kernel
theorem dX7_sweepOnce_67 : decode cX7_sweepOnce 67 = .ok (.invokestatic 112, 3) := by decide +kernel
theorem dX7_sweepOnce_70 : decode cX7_sweepOnce 70 = .ok (.bipush (-9), 2) := by decide +kernel
theorem dX7_sweepOnce_72 : decode cX7_sweepOnce 72 = .ok (.if_icmp .ne 10, 3) := by decide +kernel
theorem dX7_sweepOnce_75 : decode cX7_sweepOnce 75 = .ok (.aload_n 1, 1) := by decide +kernel
theorem dX7_sweepOnce_76 : decode cX7_sweepOnce 76 = .ok (.iconst 3, 1) := by decide +kernel
theorem dX7_sweepOnce_77 : decode cX7_sweepOnce 77 = .ok (.aload_n 1, 1) := by decide +kernel
theorem dX7_sweepOnce_78 : decode cX7_sweepOnce 78 = .ok (.invokestatic 115, 3) := by decide +kernel
theorem dX7_sweepOnce_81 : decode cX7_sweepOnce 81 = .ok (.iastore, 1) := by decide +kernel
theorem dX7_sweepOnce_82 : decode cX7_sweepOnce 82 = .ok (.aload_n 1, 1) := by decide +kernel
theorem dX7_sweepOnce_83 : decode cX7_sweepOnce 83 = .ok (.aload_n 1, 1) := by decide +kernel
theorem dX7_sweepOnce_84 : decode cX7_sweepOnce 84 = .ok (.invokestatic 112, 3) := by decide +kernel
theorem dX7_sweepOnce_87 : decode cX7_sweepOnce 87 = .ok (.aload_n 1, 1) := by decide +kernel
theorem dX7_sweepOnce_88 : decode cX7_sweepOnce 88 = .ok (.aload_n 0, 1) := by decide +kernel
theorem dX7_sweepOnce_89 : decode cX7_sweepOnce 89 = .ok (.getfield 32, 3) := by decide +kernel
theorem dX7_sweepOnce_92 : decode cX7_sweepOnce 92 = .ok (.iload 4, 2) := by decide +kernel
theorem dX7_sweepOnce_94 : decode cX7_sweepOnce 94 = .ok (.iaload, 1) := by decide +kernel
theorem dX7_sweepOnce_95 : decode cX7_sweepOnce 95 = .ok (.iconst 1, 1) := by decide +kernel
theorem dX7_sweepOnce_96 : decode cX7_sweepOnce 96 = .ok (.invokestatic 52, 3) := by decide +kernel
theorem dX7_sweepOnce_99 : decode cX7_sweepOnce 99 = .ok (.aload_n 1, 1) := by decide +kernel
theorem dX7_sweepOnce_100 : decode cX7_sweepOnce 100 = .ok (.aload_n 0, 1) := by decide +kernel
theorem dX7_sweepOnce_101 : decode cX7_sweepOnce 101 = .ok (.getfield 32, 3) := by decide +kernel
theorem dX7_sweepOnce_104 : decode cX7_sweepOnce 104 = .ok (.iload 4, 2) := by decide +kernel
theorem dX7_sweepOnce_106 : decode cX7_sweepOnce 106 = .ok (.iaload, 1) := by decide +kernel
theorem dX7_sweepOnce_107 : decode cX7_sweepOnce 107 = .ok (.iconst 2, 1) := by decide +kernel
theorem dX7_sweepOnce_108 : decode cX7_sweepOnce 108 = .ok (.invokestatic 52, 3) := by decide +kernel
theorem dX7_sweepOnce_111 : decode cX7_sweepOnce 111 = .ok (.iconst 1, 1) := by decide +kernel
theorem dX7_sweepOnce_112 : decode cX7_sweepOnce 112 = .ok (.invokestatic 118, 3) := by decide +kernel
theorem dX7_sweepOnce_115 : decode cX7_sweepOnce 115 = .ok (.ifCond .ne 6, 3) := by decide +kernel
theorem dX7_sweepOnce_118 : decode cX7_sweepOnce 118 = .ok (.bipush (-2), 2) := by decide +kernel
theorem dX7_sweepOnce_120 : decode cX7_sweepOnce 120 = .ok (.ireturn, 1) := by decide +kernel
theorem dX7_sweepOnce_121 : decode cX7_sweepOnce 121 = .ok (.iinc 4 1, 3) := by decide +kernel
theorem dX7_sweepOnce_124 : decode cX7_sweepOnce 124 = .ok (.goto (-64), 3) := by decide +kernel
theorem dX7_sweepOnce_127 : decode cX7_sweepOnce 127 = .ok (.aload_n 1, 1) := by decide +kernel
theorem dX7_sweepOnce_128 : decode cX7_sweepOnce 128 = .ok (.iload_n 2, 1) := by decide +kernel
theorem dX7_sweepOnce_129 : decode cX7_sweepOnce 129 = .ok (.invokestatic 122, 3) := by decide +kernel
theorem dX7_sweepOnce_132 : decode cX7_sweepOnce 132 = .ok (.ifCond .eq 7, 3) := by decide +kernel
theorem dX7_sweepOnce_135 : decode cX7_sweepOnce 135 = .ok (.iload_n 2, 1) := by decide +kernel
theorem dX7_sweepOnce_136 : decode cX7_sweepOnce 136 = .ok (.goto 5, 3) := by decide +kernel
theorem dX7_sweepOnce_139 : decode cX7_sweepOnce 139 = .ok (.bipush (-2), 2) := by decide +kernel
theorem dX7_sweepOnce_141 : decode cX7_sweepOnce 141 = .ok (.ireturn, 1) := by decide +kernel
theorem q7_sweepOnce : CQ W7 yX7_sweepOnce cX7_sweepOnce 5 (some .int) 1 := ⟨(m7 92 rfl), by decide, by decide, by decide +kernel⟩
set_option maxHeartbeats 4000000 in
set_option maxRecDepth 100000 in
theorem c7_sweepOnce (l : Launch) (D : va_G) (cI : ClassId) (h lv r : Nat) (fs : List Value) (fl f : Nat → Int32) (B : Nat) (hW : Wf f B) (h14 : fs[14]? = some (.ref lv)) (v : Int32) (f2 : Nat → Int32) (hs : swp f B = some (v, f2)) : GPi l yX7_sweepOnce cX7_sweepOnce 5 .int W7 8 179 D [(h, .inr (7, fs)), (lv, .inl (cI, 4, .inl fl)), (r, .inl (cI, 151, .inl f))] [(cI, .int)] [.ref h, .ref r] (fun (r9 : Int32) (u9 : va_W) => r9 = v ∧ ∃ fl9 : Nat → Int32, u9 = [(h, .inr (7, fs)), (lv, .inl (cI, 4, .inl fl9)), (r, .inl (cI, 151, .inl f2))]) := by
  refine gp_of RX7 (by decide) rfl (Nat.le_of_ble_eq_true rfl) ?_
  intro p e s m below meth c ls H hX hr hlocks hK hP hD hS hl
  generalize gp_A [(h, .inr (7, fs)), (lv, .inl (cI, 4, .inl fl)), (r, .inl (cI, 151, .inl f))] = A at hD hS ⊢
  have hx := hX.1
  have hb := hX.2.1
  have hown := hX.2.2.2.1
  have hts := hX.2.2.2.2
  have hl : lv_has ls 5 [(0, .ref h), (1, .ref r)] := hl
  refine lv_aload_n hx hb dX7_sweepOnce_0 rfl (lv_at hl 1 rfl) ?_
  refine rp_callS hX good7 i7 (c7_victimOf l D cI r f B hW.1 hW.2.1 (opn f) hW.2.2.1 hW.2.2.2) q7_victimOf rfl (m7 74 rfl) (m7 75 rfl) ⟨Nat.le_of_ble_eq_true rfl, Nat.le_of_ble_eq_true rfl⟩ hK [0] rfl hP [2] rfl hS hl.1 rfl (Nat.le_of_ble_eq_true rfl) dX7_sweepOnce_1 ⟨Nat.zero_le _, Nat.zero_le _⟩ (fun H locs hP hS => ?_)
  refine lv_istore_n (lv' := [(2, .int (oI (vcm f B (opn f)))), (0, .ref h), (1, .ref r)]) hx hb dX7_sweepOnce_4 rfl hl (by decide) rfl (fun ls hl => ?_)
  rcases hO1 : vcm f B (opn f) with _ | o1
  · skip
    have hl : lv_has ls 5 [(2, .int ((-9))), (0, .ref h), (1, .ref r)] := by rw [hO1] at hl; exact hl
    obtain ⟨hv9, hf9⟩ := so_inj (show some ((-9 : Int32), f) = some (v, f2) by rw [swp, hO1] at hs; exact hs)
    refine lv_iload_n hx hb dX7_sweepOnce_5 rfl (lv_at hl 0 rfl) ?_
    refine lv_bipush (v := (-9)) hx hb dX7_sweepOnce_6 (by decide) ?_
    refine lv_icmp_ne (tgt := 14) hx hb dX7_sweepOnce_8 (by decide) (fun c8_2 => ?_) (fun c8_2 => ?_)
    · skip
      exact absurd c8_2 (by decide)
    · skip
      refine lv_bipush (v := (-9)) hx hb dX7_sweepOnce_11 (by decide) ?_
      have hP : va_P D vwCl [(h, .inr (7, fs)), (lv, .inl (cI, 4, .inl fl)), (r, .inl (cI, 151, .inl f2))] H := by
        rw [show (f2 : Nat → Int32) = f from hf9.symm]
        exact hP
      exact gp_reti hX hr hlocks hS hP ⟨hv9, _, rfl⟩ dX7_sweepOnce_13
  · skip
    have hl : lv_has ls 5 [(2, .int (nI (o1))), (0, .ref h), (1, .ref r)] := by rw [hO1] at hl; exact hl
    have ho1 := vcm_lt hO1
    have hB8 := hW.2.1
    rw [swp, hO1] at hs
    dsimp only at hs
    rcases hC : swC B (lvL f B o1 4) f with _ | ⟨ok, f3⟩
    · rw [hC] at hs; cases hs
    rw [hC] at hs
    refine lv_iload_n hx hb dX7_sweepOnce_5 rfl (lv_at hl 0 rfl) ?_
    refine lv_bipush (v := (-9)) hx hb dX7_sweepOnce_6 (by decide) ?_
    refine lv_icmp_ne (tgt := 14) hx hb dX7_sweepOnce_8 (by decide) (fun c8_3 => ?_) (fun c8_3 => ?_)
    · skip
      have hvic : o1 < 8 := by omega
      refine lv_iconst (v := 0) hx hb dX7_sweepOnce_14 (by decide) ?_
      refine lv_istore_n (lv' := [(3, .int (0)), (2, .int (nI (o1))), (0, .ref h), (1, .ref r)]) hx hb dX7_sweepOnce_15 rfl hl (by decide) rfl (fun ls hl => ?_)
      refine lv_iconst (v := 4) hx hb dX7_sweepOnce_16 (by decide) ?_
      refine lv_iload_n hx hb dX7_sweepOnce_17 rfl (lv_at hl 1 rfl) ?_
      refine lv_imul hx hb dX7_sweepOnce_18 ?_
      refine lv_as (y := nI (4 * o1)) (pk_mul (4) (o1)) ?_
      refine lv_istore (lv' := [(4, .int (nI (4 * o1))), (3, .int (0)), (2, .int (nI (o1))), (0, .ref h), (1, .ref r)]) hx hb dX7_sweepOnce_19 hl (by decide) rfl (fun ls hl => ?_)
      have LP21 : ∀ n9 : Nat, ∀ (j : Nat) (fk : Nat → Int32), (hj : j ≤ 4) → (hfk : ∀ i a : Nat, (lvL f B o1 j)[i]? = some a → fk i = nI a) → 4 - j < n9 → ∀ (H : Heap) (locs : List Loc), va_P D vwCl [(h, .inr (7, fs)), (lv, .inl (cI, 4, .inl fk)), (r, .inl (cI, 151, .inl f))] H → va_D A [(h, .inr (7, fs)), (lv, .inl (cI, 4, .inl fk)), (r, .inl (cI, 151, .inl f))] → va_S A s.heap H locs → ∀ ls : Array Slot, lv_has ls 5 [(0, .ref h), (1, .ref r), (2, .int (nI (o1))), (3, .int (nI ((lvL f B o1 j).length))), (4, .int (nI (4 * o1 + j)))] → W p l e ({ frames := 8, cells := 0, slots := 0, locals := 179 } : Room) s m ([.ref h, .ref r] : List Value).toArray below meth c H locs 0 0 (MQ below (va_Qi (fun (r9 : Int32) (u9 : va_W) => r9 = v ∧ ∃ fl9 : Nat → Int32, u9 = [(h, .inr (7, fs)), (lv, .inl (cI, 4, .inl fl9)), (r, .inl (cI, 151, .inl f2))]) (fun u t => va_P D vwCl u t.heap) A) ([.ref h, .ref r] : List Value).toArray s 0 0 A) (F0 m 21 ls []) := by
        intro n9
        induction n9 with
        | zero => intros; omega
        | succ n9 ih21 =>
          intro j fk hj hfk hm9 H locs hP hD hS ls hl
          refine lv_iload hx hb dX7_sweepOnce_21 (lv_at hl 4 rfl) ?_
          refine lv_iconst (v := 4) hx hb dX7_sweepOnce_23 (by decide) ?_
          refine lv_iload_n hx hb dX7_sweepOnce_24 rfl (lv_at hl 2 rfl) ?_
          refine lv_imul hx hb dX7_sweepOnce_25 ?_
          refine lv_as (y := nI (4 * o1)) (pk_mul (4) (o1)) ?_
          refine lv_iconst (v := 4) hx hb dX7_sweepOnce_26 (by decide) ?_
          refine lv_iadd hx hb dX7_sweepOnce_27 ?_
          refine lv_as (y := nI (4 * o1 + 4)) (nI_add (4 * o1) (4)) ?_
          refine lv_icmp_ge (tgt := 57) hx hb dX7_sweepOnce_28 (by decide) (fun c28_4 => ?_) (fun c28_4 => ?_)
          · skip
            have c28_4 := cn_le (a := 4 * o1 + 4) (b := 4 * o1 + j) (by omega) (by omega) c28_4
            have hfk4 : ∀ i a : Nat, (lvL f B o1 4)[i]? = some a → fk i = nI a := by rw [show j = 4 by omega] at hfk; exact hfk
            have hlen4 := lvL_len (f := f) (B := B) (b := o1) 4
            have hlenj := lvL_len (f := f) (B := B) (b := o1) j
            refine lv_iconst (v := 0) hx hb dX7_sweepOnce_57 (by decide) ?_
            refine lv_istore (lv' := [(4, .int (0)), (0, .ref h), (1, .ref r), (2, .int (nI (o1))), (3, .int (nI ((lvL f B o1 j).length)))]) hx hb dX7_sweepOnce_58 hl (by decide) rfl (fun ls hl => ?_)
            have LP60 : ∀ n9 : Nat, ∀ (k : Nat) (g : Nat → Int32), (hk : k ≤ (lvL f B o1 4).length) → (hg : Wf g B) → (hs2 : swC B ((lvL f B o1 4).drop k) g = some (ok, f3)) → (lvL f B o1 4).length - k < n9 → ∀ (H : Heap) (locs : List Loc), va_P D vwCl [(h, .inr (7, fs)), (lv, .inl (cI, 4, .inl fk)), (r, .inl (cI, 151, .inl g))] H → va_D A [(h, .inr (7, fs)), (lv, .inl (cI, 4, .inl fk)), (r, .inl (cI, 151, .inl g))] → va_S A s.heap H locs → ∀ ls : Array Slot, lv_has ls 5 [(0, .ref h), (1, .ref r), (2, .int (nI (o1))), (3, .int (nI ((lvL f B o1 4).length))), (4, .int (nI (k)))] → W p l e ({ frames := 8, cells := 0, slots := 0, locals := 179 } : Room) s m ([.ref h, .ref r] : List Value).toArray below meth c H locs 0 0 (MQ below (va_Qi (fun (r9 : Int32) (u9 : va_W) => r9 = v ∧ ∃ fl9 : Nat → Int32, u9 = [(h, .inr (7, fs)), (lv, .inl (cI, 4, .inl fl9)), (r, .inl (cI, 151, .inl f2))]) (fun u t => va_P D vwCl u t.heap) A) ([.ref h, .ref r] : List Value).toArray s 0 0 A) (F0 m 60 ls []) := by
              intro n9
              induction n9 with
              | zero => intros; omega
              | succ n9 ih60 =>
                intro k g hk hg hs2 hm9 H locs hP hD hS ls hl
                refine lv_iload hx hb dX7_sweepOnce_60 (lv_at hl 4 rfl) ?_
                refine lv_iload_n hx hb dX7_sweepOnce_62 rfl (lv_at hl 3 rfl) ?_
                refine lv_icmp_ge (tgt := 127) hx hb dX7_sweepOnce_63 (by decide) (fun c63_5 => ?_) (fun c63_5 => ?_)
                · skip
                  have c63_5 := cn_le (a := (lvL f B o1 4).length) (b := k) (by omega) (by omega) c63_5
                  rw [List.drop_eq_nil_of_le (by omega), swC] at hs2
                  obtain ⟨hok, hf3⟩ := so_inj hs2
                  rw [← hok, ← hf3] at hs
                  obtain ⟨hv9, hf9⟩ := so_inj hs
                  refine lv_aload_n hx hb dX7_sweepOnce_127 rfl (lv_at hl 1 rfl) ?_
                  refine lv_iload_n hx hb dX7_sweepOnce_128 rfl (lv_at hl 2 rfl) ?_
                  refine gp_backi (gp_runS hX good7 i7 (c7_erases l D cI r g o1 (by omega)) q7_erases rfl (m7 86 rfl) (m7 87 rfl) ⟨Nat.le_of_ble_eq_true rfl, Nat.le_of_ble_eq_true rfl⟩ hK [0] rfl hP hD [2] (by decide) rfl hl.1 rfl (Nat.le_of_ble_eq_true rfl) dX7_sweepOnce_129 ⟨Nat.zero_le _, Nat.zero_le _⟩) hP hD hS [2] rfl (fun r u h => by rw [h.2]; simp only [List.map_cons, List.map_nil]) (fun r9 u H locs hpost hP hD hS => ?_)
                  obtain ⟨hr9, rfl⟩ := hpost
                  refine lv_as hr9 ?_
                  have hP : va_P D vwCl [(h, .inr (7, fs)), (lv, .inl (cI, 4, .inl fk)), (r, .inl (cI, 151, .inl (erR g o1)))] H := hP
                  have hD : va_D A [(h, .inr (7, fs)), (lv, .inl (cI, 4, .inl fk)), (r, .inl (cI, 151, .inl (erR g o1)))] := hD
                  refine lv_if_eq (tgt := 139) hx hb dX7_sweepOnce_132 (by decide) (fun c132_6 => ?_) (fun c132_6 => ?_)
                  · skip
                    have c132_6 := bI_f c132_6
                    refine lv_bipush (v := (-2)) hx hb dX7_sweepOnce_139 (by decide) ?_
                    have hP : va_P D vwCl [(h, .inr (7, fs)), (lv, .inl (cI, 4, .inl fk)), (r, .inl (cI, 151, .inl f2))] H := by
                      rw [show (f2 : Nat → Int32) = erR g o1 from hf9.symm]
                      exact hP
                    exact gp_reti hX hr hlocks hS hP ⟨(if_pos (Classical.not_not.mp c132_6)).symm.trans hv9, _, rfl⟩ dX7_sweepOnce_141
                  · skip
                    have c132_6 := bI_t c132_6
                    refine lv_iload_n hx hb dX7_sweepOnce_135 rfl (lv_at hl 2 rfl) ?_
                    refine lv_goto (tgt := 141) hx hb dX7_sweepOnce_136 (by decide) ?_
                    have hP : va_P D vwCl [(h, .inr (7, fs)), (lv, .inl (cI, 4, .inl fk)), (r, .inl (cI, 151, .inl f2))] H := by
                      rw [show (f2 : Nat → Int32) = erR g o1 from hf9.symm]
                      exact hP
                    exact gp_reti hX hr hlocks hS hP ⟨(if_neg c132_6).symm.trans hv9, _, rfl⟩ dX7_sweepOnce_141
                · skip
                  have c63_5 := cn_nle (a := (lvL f B o1 4).length) (b := k) (by omega) (by omega) c63_5
                  obtain ⟨a, ha⟩ : ∃ a, (lvL f B o1 4)[k]? = some a := ⟨_, List.getElem?_eq_getElem c63_5⟩
                  have ha32 : a < 32 := by have := lvL_lt (List.mem_of_getElem? ha); omega
                  rw [dropk ha, swC] at hs2
                  refine lv_aload_n hx hb dX7_sweepOnce_66 rfl (lv_at hl 1 rfl) ?_
                  refine rp_callS hX good7 i7 (c7_nextPage l D cI r g (opn g) hg.2.2.1 hg.2.2.2) q7_nextPage rfl (m7 77 rfl) (m7 78 rfl) ⟨Nat.le_of_ble_eq_true rfl, Nat.le_of_ble_eq_true rfl⟩ hK [0] rfl hP [2] rfl hS hl.1 rfl (Nat.le_of_ble_eq_true rfl) dX7_sweepOnce_67 ⟨Nat.zero_le _, Nat.zero_le _⟩ (fun H locs hP hS => ?_)
                  rcases hO7 : nxp g (opn g) with _ | o7
                  · skip
                    refine lv_bipush (v := (-9)) hx hb dX7_sweepOnce_70 (by decide) ?_
                    refine lv_icmp_ne (tgt := 82) hx hb dX7_sweepOnce_72 (by decide) (fun c72_8 => ?_) (fun c72_8 => ?_)
                    · skip
                      exact absurd c72_8 (by decide)
                    · skip
                      refine lv_aload_n hx hb dX7_sweepOnce_75 rfl (lv_at hl 1 rfl) ?_
                      refine lv_iconst (v := 3) hx hb dX7_sweepOnce_76 (by decide) ?_
                      refine lv_aload_n hx hb dX7_sweepOnce_77 rfl (lv_at hl 1 rfl) ?_
                      refine rp_callS hX good7 i7 (c7_leastClean l D cI r g B hg.1 hg.2.1) q7_leastClean rfl (m7 80 rfl) (m7 81 rfl) ⟨Nat.le_of_ble_eq_true rfl, Nat.le_of_ble_eq_true rfl⟩ hK [0] rfl hP [2] rfl hS hl.1 rfl (Nat.le_of_ble_eq_true rfl) dX7_sweepOnce_78 ⟨Nat.zero_le _, Nat.zero_le _⟩ (fun H locs hP hS => ?_)
                      refine ra_iast (i := 3) hx hb hK hP hD hS 2 0 rfl rfl (by omega) (by decide) dX7_sweepOnce_81 (fun H locs hP hD hS => ?_)
                      have hP : va_P D vwCl [(h, .inr (7, fs)), (lv, .inl (cI, 4, .inl fk)), (r, .inl (cI, 151, .inl (upd g 3 (oI (lcl g B)))))] H := hP
                      have hD : va_D A [(h, .inr (7, fs)), (lv, .inl (cI, 4, .inl fk)), (r, .inl (cI, 151, .inl (upd g 3 (oI (lcl g B)))))] := hD
                      obtain ⟨g1, e1⟩ : ∃ g1, g1 = upd g 3 (oI (lcl g B)) := ⟨_, rfl⟩
                      have hP : va_P D vwCl [(h, .inr (7, fs)), (lv, .inl (cI, 4, .inl fk)), (r, .inl (cI, 151, .inl g1))] H := by rw [e1]; exact hP
                      have hD : va_D A [(h, .inr (7, fs)), (lv, .inl (cI, 4, .inl fk)), (r, .inl (cI, 151, .inl g1))] := by rw [e1]; exact hD
                      have hg1 : Wf g1 B := by rw [e1]; exact Wf_open hg
                      have hs1 : swS a g1 (swC B ((lvL f B o1 4).drop (k + 1))) = some (ok, f3) := by rw [e1]; rw [swO, hO7] at hs2; exact hs2
                      refine lv_aload_n hx hb dX7_sweepOnce_82 rfl (lv_at hl 1 rfl) ?_
                      refine lv_aload_n hx hb dX7_sweepOnce_83 rfl (lv_at hl 1 rfl) ?_
                      refine rp_callS hX good7 i7 (c7_nextPage l D cI r g1 (opn g1) hg1.2.2.1 hg1.2.2.2) q7_nextPage rfl (m7 77 rfl) (m7 78 rfl) ⟨Nat.le_of_ble_eq_true rfl, Nat.le_of_ble_eq_true rfl⟩ hK [0] rfl hP [2] rfl hS hl.1 rfl (Nat.le_of_ble_eq_true rfl) dX7_sweepOnce_84 ⟨Nat.zero_le _, Nat.zero_le _⟩ (fun H locs hP hS => ?_)
                      rcases hO9 : nxp g1 (opn g1) with _ | o9
                      · skip
                        rw [swS, hO9] at hs1
                        cases hs1
                      · skip
                        rw [swS, hO9] at hs1
                        dsimp only at hs1
                        have hp32 := nxp_lt hg1.2.2.2 hO9
                        refine lv_aload_n hx hb dX7_sweepOnce_87 rfl (lv_at hl 1 rfl) ?_
                        refine lv_aload_n hx hb dX7_sweepOnce_88 rfl (lv_at hl 0 rfl) ?_
                        refine va_get (D := D) (ci := 7) (v := .ref lv) (C := RX7) (T := TX7) (N := 15) hx hb hts u7 hown hK hP 0 rfl rfl 14 (by decide) (hts _ (m7 12 rfl)) (fun _ h9 => h9) h14 dX7_sweepOnce_89 ?_
                        refine lv_iload hx hb dX7_sweepOnce_92 (lv_at hl 4 rfl) ?_
                        refine ra_iald (i := k) hx hb hK hP 1 0 rfl rfl (by omega) (by decide) dX7_sweepOnce_94 ?_
                        refine lv_as (show fk (k) = nI (a) from hfk4 k a ha) ?_
                        refine lv_iconst (v := 1) hx hb dX7_sweepOnce_95 (by decide) ?_
                        refine rp_callS hX good7 i7 (c7_pageOf l D cI r g1 a 1 (by omega) (by omega)) q7_pageOf rfl (m7 23 rfl) (m7 24 rfl) ⟨Nat.le_of_ble_eq_true rfl, Nat.le_of_ble_eq_true rfl⟩ hK [0] rfl hP [2] rfl hS hl.1 rfl (Nat.le_of_ble_eq_true rfl) dX7_sweepOnce_96 ⟨Nat.zero_le _, Nat.zero_le _⟩ (fun H locs hP hS => ?_)
                        refine lv_aload_n hx hb dX7_sweepOnce_99 rfl (lv_at hl 1 rfl) ?_
                        refine lv_aload_n hx hb dX7_sweepOnce_100 rfl (lv_at hl 0 rfl) ?_
                        refine va_get (D := D) (ci := 7) (v := .ref lv) (C := RX7) (T := TX7) (N := 15) hx hb hts u7 hown hK hP 0 rfl rfl 14 (by decide) (hts _ (m7 12 rfl)) (fun _ h9 => h9) h14 dX7_sweepOnce_101 ?_
                        refine lv_iload hx hb dX7_sweepOnce_104 (lv_at hl 4 rfl) ?_
                        refine ra_iald (i := k) hx hb hK hP 1 0 rfl rfl (by omega) (by decide) dX7_sweepOnce_106 ?_
                        refine lv_as (show fk (k) = nI (a) from hfk4 k a ha) ?_
                        refine lv_iconst (v := 2) hx hb dX7_sweepOnce_107 (by decide) ?_
                        refine rp_callS hX good7 i7 (c7_pageOf l D cI r g1 a 2 (by omega) (by omega)) q7_pageOf rfl (m7 23 rfl) (m7 24 rfl) ⟨Nat.le_of_ble_eq_true rfl, Nat.le_of_ble_eq_true rfl⟩ hK [0] rfl hP [2] rfl hS hl.1 rfl (Nat.le_of_ble_eq_true rfl) dX7_sweepOnce_108 ⟨Nat.zero_le _, Nat.zero_le _⟩ (fun H locs hP hS => ?_)
                        refine lv_iconst (v := 1) hx hb dX7_sweepOnce_111 (by decide) ?_
                        refine gp_backi (gp_runS hX good7 i7 (c7_writes l D cI r g1 o9 (by omega) (pg g1 a 1) (pg g1 a 2) true) q7_writes rfl (m7 83 rfl) (m7 84 rfl) ⟨Nat.le_of_ble_eq_true rfl, Nat.le_of_ble_eq_true rfl⟩ hK [0] rfl hP hD [2] (by decide) rfl hl.1 rfl (Nat.le_of_ble_eq_true rfl) dX7_sweepOnce_112 ⟨Nat.zero_le _, Nat.zero_le _⟩) hP hD hS [2] rfl (fun r u h => by rw [h.2]; simp only [List.map_cons, List.map_nil]) (fun r9 u H locs hpost hP hD hS => ?_)
                        obtain ⟨hr9, rfl⟩ := hpost
                        refine lv_as hr9 ?_
                        have hP : va_P D vwCl [(h, .inr (7, fs)), (lv, .inl (cI, 4, .inl fk)), (r, .inl (cI, 151, .inl (wrR g1 o9 (pg g1 a 1) (pg g1 a 2) true)))] H := hP
                        have hD : va_D A [(h, .inr (7, fs)), (lv, .inl (cI, 4, .inl fk)), (r, .inl (cI, 151, .inl (wrR g1 o9 (pg g1 a 1) (pg g1 a 2) true)))] := hD
                        refine lv_if_ne (tgt := 121) hx hb dX7_sweepOnce_115 (by decide) (fun c115_10 => ?_) (fun c115_10 => ?_)
                        · skip
                          have c115_10 := bI_t c115_10
                          refine lv_iinc (v := nI (k + 1)) (lv' := [(4, .int (nI (k + 1))), (0, .ref h), (1, .ref r), (2, .int (nI (o1))), (3, .int (nI ((lvL f B o1 4).length)))]) hx hb dX7_sweepOnce_121 hl (k := 4) rfl (nI_add _ 1) (by decide) rfl (fun ls hl => ?_)
                          refine lv_goto (tgt := 60) hx hb dX7_sweepOnce_124 (by decide) ?_
                          have hl : lv_has ls 5 [(4, .int (nI ((k + 1)))), (0, .ref h), (1, .ref r), (2, .int (nI (o1))), (3, .int (nI ((lvL f B o1 4).length)))] := lv_re hl 0 rfl (show nI (k + 1) = nI ((k + 1)) from rfl)
                          exact ih60 (k + 1) (wrR g1 o9 (pg g1 a 1) (pg g1 a 2) true) (by omega) (Wf_wr hg1) (by rw [if_neg c115_10] at hs1; exact hs1) (by omega) _ _ hP hD hS _ (lv_sub hl [1, 2, 3, 4, 0] rfl)
                        · skip
                          have c115_10 := bI_f c115_10
                          refine lv_bipush (v := (-2)) hx hb dX7_sweepOnce_118 (by decide) ?_
                          rw [if_pos (Classical.not_not.mp c115_10)] at hs1
                          obtain ⟨hok, hf3⟩ := so_inj hs1
                          rw [← hok, ← hf3] at hs
                          obtain ⟨hv9, hf9⟩ := so_inj hs
                          have hP : va_P D vwCl [(h, .inr (7, fs)), (lv, .inl (cI, 4, .inl fk)), (r, .inl (cI, 151, .inl f2))] H := by
                            rw [show (f2 : Nat → Int32) = wrR g1 o9 (pg g1 a 1) (pg g1 a 2) true from hf9.symm]
                            exact hP
                          exact gp_reti hX hr hlocks hS hP ⟨hv9, _, rfl⟩ dX7_sweepOnce_120
                  · skip
                    have hp7 := nxp_lt hg.2.2.2 hO7
                    refine lv_bipush (v := (-9)) hx hb dX7_sweepOnce_70 (by decide) ?_
                    refine lv_icmp_ne (tgt := 82) hx hb dX7_sweepOnce_72 (by decide) (fun c72_11 => ?_) (fun c72_11 => ?_)
                    · skip
                      obtain ⟨g1, e1⟩ : ∃ g1, g1 = g := ⟨_, rfl⟩
                      have hP : va_P D vwCl [(h, .inr (7, fs)), (lv, .inl (cI, 4, .inl fk)), (r, .inl (cI, 151, .inl g1))] H := by rw [e1]; exact hP
                      have hD : va_D A [(h, .inr (7, fs)), (lv, .inl (cI, 4, .inl fk)), (r, .inl (cI, 151, .inl g1))] := by rw [e1]; exact hD
                      have hg1 : Wf g1 B := by rw [e1]; exact hg
                      have hs1 : swS a g1 (swC B ((lvL f B o1 4).drop (k + 1))) = some (ok, f3) := by rw [e1]; rw [swO, hO7] at hs2; exact hs2
                      refine lv_aload_n hx hb dX7_sweepOnce_82 rfl (lv_at hl 1 rfl) ?_
                      refine lv_aload_n hx hb dX7_sweepOnce_83 rfl (lv_at hl 1 rfl) ?_
                      refine rp_callS hX good7 i7 (c7_nextPage l D cI r g1 (opn g1) hg1.2.2.1 hg1.2.2.2) q7_nextPage rfl (m7 77 rfl) (m7 78 rfl) ⟨Nat.le_of_ble_eq_true rfl, Nat.le_of_ble_eq_true rfl⟩ hK [0] rfl hP [2] rfl hS hl.1 rfl (Nat.le_of_ble_eq_true rfl) dX7_sweepOnce_84 ⟨Nat.zero_le _, Nat.zero_le _⟩ (fun H locs hP hS => ?_)
                      rcases hO12 : nxp g1 (opn g1) with _ | o12
                      · skip
                        rw [swS, hO12] at hs1
                        cases hs1
                      · skip
                        rw [swS, hO12] at hs1
                        dsimp only at hs1
                        have hp32 := nxp_lt hg1.2.2.2 hO12
                        refine lv_aload_n hx hb dX7_sweepOnce_87 rfl (lv_at hl 1 rfl) ?_
                        refine lv_aload_n hx hb dX7_sweepOnce_88 rfl (lv_at hl 0 rfl) ?_
                        refine va_get (D := D) (ci := 7) (v := .ref lv) (C := RX7) (T := TX7) (N := 15) hx hb hts u7 hown hK hP 0 rfl rfl 14 (by decide) (hts _ (m7 12 rfl)) (fun _ h9 => h9) h14 dX7_sweepOnce_89 ?_
                        refine lv_iload hx hb dX7_sweepOnce_92 (lv_at hl 4 rfl) ?_
                        refine ra_iald (i := k) hx hb hK hP 1 0 rfl rfl (by omega) (by decide) dX7_sweepOnce_94 ?_
                        refine lv_as (show fk (k) = nI (a) from hfk4 k a ha) ?_
                        refine lv_iconst (v := 1) hx hb dX7_sweepOnce_95 (by decide) ?_
                        refine rp_callS hX good7 i7 (c7_pageOf l D cI r g1 a 1 (by omega) (by omega)) q7_pageOf rfl (m7 23 rfl) (m7 24 rfl) ⟨Nat.le_of_ble_eq_true rfl, Nat.le_of_ble_eq_true rfl⟩ hK [0] rfl hP [2] rfl hS hl.1 rfl (Nat.le_of_ble_eq_true rfl) dX7_sweepOnce_96 ⟨Nat.zero_le _, Nat.zero_le _⟩ (fun H locs hP hS => ?_)
                        refine lv_aload_n hx hb dX7_sweepOnce_99 rfl (lv_at hl 1 rfl) ?_
                        refine lv_aload_n hx hb dX7_sweepOnce_100 rfl (lv_at hl 0 rfl) ?_
                        refine va_get (D := D) (ci := 7) (v := .ref lv) (C := RX7) (T := TX7) (N := 15) hx hb hts u7 hown hK hP 0 rfl rfl 14 (by decide) (hts _ (m7 12 rfl)) (fun _ h9 => h9) h14 dX7_sweepOnce_101 ?_
                        refine lv_iload hx hb dX7_sweepOnce_104 (lv_at hl 4 rfl) ?_
                        refine ra_iald (i := k) hx hb hK hP 1 0 rfl rfl (by omega) (by decide) dX7_sweepOnce_106 ?_
                        refine lv_as (show fk (k) = nI (a) from hfk4 k a ha) ?_
                        refine lv_iconst (v := 2) hx hb dX7_sweepOnce_107 (by decide) ?_
                        refine rp_callS hX good7 i7 (c7_pageOf l D cI r g1 a 2 (by omega) (by omega)) q7_pageOf rfl (m7 23 rfl) (m7 24 rfl) ⟨Nat.le_of_ble_eq_true rfl, Nat.le_of_ble_eq_true rfl⟩ hK [0] rfl hP [2] rfl hS hl.1 rfl (Nat.le_of_ble_eq_true rfl) dX7_sweepOnce_108 ⟨Nat.zero_le _, Nat.zero_le _⟩ (fun H locs hP hS => ?_)
                        refine lv_iconst (v := 1) hx hb dX7_sweepOnce_111 (by decide) ?_
                        refine gp_backi (gp_runS hX good7 i7 (c7_writes l D cI r g1 o12 (by omega) (pg g1 a 1) (pg g1 a 2) true) q7_writes rfl (m7 83 rfl) (m7 84 rfl) ⟨Nat.le_of_ble_eq_true rfl, Nat.le_of_ble_eq_true rfl⟩ hK [0] rfl hP hD [2] (by decide) rfl hl.1 rfl (Nat.le_of_ble_eq_true rfl) dX7_sweepOnce_112 ⟨Nat.zero_le _, Nat.zero_le _⟩) hP hD hS [2] rfl (fun r u h => by rw [h.2]; simp only [List.map_cons, List.map_nil]) (fun r9 u H locs hpost hP hD hS => ?_)
                        obtain ⟨hr9, rfl⟩ := hpost
                        refine lv_as hr9 ?_
                        have hP : va_P D vwCl [(h, .inr (7, fs)), (lv, .inl (cI, 4, .inl fk)), (r, .inl (cI, 151, .inl (wrR g1 o12 (pg g1 a 1) (pg g1 a 2) true)))] H := hP
                        have hD : va_D A [(h, .inr (7, fs)), (lv, .inl (cI, 4, .inl fk)), (r, .inl (cI, 151, .inl (wrR g1 o12 (pg g1 a 1) (pg g1 a 2) true)))] := hD
                        refine lv_if_ne (tgt := 121) hx hb dX7_sweepOnce_115 (by decide) (fun c115_13 => ?_) (fun c115_13 => ?_)
                        · skip
                          have c115_13 := bI_t c115_13
                          refine lv_iinc (v := nI (k + 1)) (lv' := [(4, .int (nI (k + 1))), (0, .ref h), (1, .ref r), (2, .int (nI (o1))), (3, .int (nI ((lvL f B o1 4).length)))]) hx hb dX7_sweepOnce_121 hl (k := 4) rfl (nI_add _ 1) (by decide) rfl (fun ls hl => ?_)
                          refine lv_goto (tgt := 60) hx hb dX7_sweepOnce_124 (by decide) ?_
                          have hl : lv_has ls 5 [(4, .int (nI ((k + 1)))), (0, .ref h), (1, .ref r), (2, .int (nI (o1))), (3, .int (nI ((lvL f B o1 4).length)))] := lv_re hl 0 rfl (show nI (k + 1) = nI ((k + 1)) from rfl)
                          exact ih60 (k + 1) (wrR g1 o12 (pg g1 a 1) (pg g1 a 2) true) (by omega) (Wf_wr hg1) (by rw [if_neg c115_13] at hs1; exact hs1) (by omega) _ _ hP hD hS _ (lv_sub hl [1, 2, 3, 4, 0] rfl)
                        · skip
                          have c115_13 := bI_f c115_13
                          refine lv_bipush (v := (-2)) hx hb dX7_sweepOnce_118 (by decide) ?_
                          rw [if_pos (Classical.not_not.mp c115_13)] at hs1
                          obtain ⟨hok, hf3⟩ := so_inj hs1
                          rw [← hok, ← hf3] at hs
                          obtain ⟨hv9, hf9⟩ := so_inj hs
                          have hP : va_P D vwCl [(h, .inr (7, fs)), (lv, .inl (cI, 4, .inl fk)), (r, .inl (cI, 151, .inl f2))] H := by
                            rw [show (f2 : Nat → Int32) = wrR g1 o12 (pg g1 a 1) (pg g1 a 2) true from hf9.symm]
                            exact hP
                          exact gp_reti hX hr hlocks hS hP ⟨hv9, _, rfl⟩ dX7_sweepOnce_120
                    · skip
                      exact absurd c72_11 (oI_ne (by omega))
            have hl : lv_has ls 5 [(4, .int (0)), (0, .ref h), (1, .ref r), (2, .int (nI (o1))), (3, .int (nI ((lvL f B o1 4).length)))] := lv_re hl 4 rfl (show nI ((lvL f B o1 j).length) = nI ((lvL f B o1 4).length) from by rw [show j = 4 by omega])
            have hl : lv_has ls 5 [(4, .int (nI (0))), (0, .ref h), (1, .ref r), (2, .int (nI (o1))), (3, .int (nI ((lvL f B o1 4).length)))] := lv_re hl 0 rfl (show 0 = nI (0) from rfl)
            exact LP60 (((lvL f B o1 4).length - 0) + 1) 0 f (Nat.zero_le _) (hW) (hC) (by omega) _ _ hP hD hS _ (lv_sub hl [1, 2, 3, 4, 0] rfl)
          · skip
            have c28_4 := cn_nle (a := 4 * o1 + 4) (b := 4 * o1 + j) (by omega) (by omega) c28_4
            refine lv_aload_n hx hb dX7_sweepOnce_31 rfl (lv_at hl 1 rfl) ?_
            refine lv_iload hx hb dX7_sweepOnce_32 (lv_at hl 4 rfl) ?_
            refine rp_callS hX good7 i7 (c7_isLive l D cI r f (4 * o1 + j) (by omega) B hW.1 hW.2.1) q7_isLive rfl (m7 38 rfl) (m7 39 rfl) ⟨Nat.le_of_ble_eq_true rfl, Nat.le_of_ble_eq_true rfl⟩ hK [0] rfl hP [2] rfl hS hl.1 rfl (Nat.le_of_ble_eq_true rfl) dX7_sweepOnce_34 ⟨Nat.zero_le _, Nat.zero_le _⟩ (fun H locs hP hS => ?_)
            refine lv_if_eq (tgt := 51) hx hb dX7_sweepOnce_37 (by decide) (fun c37_14 => ?_) (fun c37_14 => ?_)
            · skip
              have c37_14 := bI_f c37_14
              refine lv_iinc (v := nI (4 * o1 + j + 1)) (lv' := [(4, .int (nI (4 * o1 + j + 1))), (0, .ref h), (1, .ref r), (2, .int (nI (o1))), (3, .int (nI ((lvL f B o1 j).length)))]) hx hb dX7_sweepOnce_51 hl (k := 4) rfl (nI_add _ 1) (by decide) rfl (fun ls hl => ?_)
              refine lv_goto (tgt := 21) hx hb dX7_sweepOnce_54 (by decide) ?_
              have hl : lv_has ls 5 [(4, .int (nI (4 * o1 + j + 1))), (0, .ref h), (1, .ref r), (2, .int (nI (o1))), (3, .int (nI ((lvL f B o1 (j + 1)).length)))] := lv_re hl 4 rfl (show nI ((lvL f B o1 j).length) = nI ((lvL f B o1 (j + 1)).length) from by rw [lvL, if_neg c37_14])
              have hl : lv_has ls 5 [(4, .int (nI (4 * o1 + (j + 1)))), (0, .ref h), (1, .ref r), (2, .int (nI (o1))), (3, .int (nI ((lvL f B o1 (j + 1)).length)))] := lv_re hl 0 rfl (show nI (4 * o1 + j + 1) = nI (4 * o1 + (j + 1)) from rfl)
              exact ih21 (j + 1) fk (by omega) (by rw [lvL, if_neg c37_14]; exact hfk) (by omega) _ _ hP hD hS _ (lv_sub hl [1, 2, 3, 4, 0] rfl)
            · skip
              have c37_14 := bI_t c37_14
              refine lv_aload_n hx hb dX7_sweepOnce_40 rfl (lv_at hl 0 rfl) ?_
              refine va_get (D := D) (ci := 7) (v := .ref lv) (C := RX7) (T := TX7) (N := 15) hx hb hts u7 hown hK hP 0 rfl rfl 14 (by decide) (hts _ (m7 12 rfl)) (fun _ h9 => h9) h14 dX7_sweepOnce_41 ?_
              refine lv_iload_n hx hb dX7_sweepOnce_44 rfl (lv_at hl 3 rfl) ?_
              refine lv_iload hx hb dX7_sweepOnce_45 (lv_at hl 4 rfl) ?_
              have hlen := lvL_len (f := f) (B := B) (b := o1) j
              refine ra_iast (i := (lvL f B o1 j).length) hx hb hK hP hD hS 1 0 rfl rfl (by omega) (by decide) dX7_sweepOnce_47 (fun H locs hP hD hS => ?_)
              have hP : va_P D vwCl [(h, .inr (7, fs)), (lv, .inl (cI, 4, .inl (upd fk ((lvL f B o1 j).length) (nI (4 * o1 + j))))), (r, .inl (cI, 151, .inl f))] H := hP
              have hD : va_D A [(h, .inr (7, fs)), (lv, .inl (cI, 4, .inl (upd fk ((lvL f B o1 j).length) (nI (4 * o1 + j))))), (r, .inl (cI, 151, .inl f))] := hD
              refine lv_iinc (v := nI ((lvL f B o1 j).length + 1)) (lv' := [(3, .int (nI ((lvL f B o1 j).length + 1))), (0, .ref h), (1, .ref r), (2, .int (nI (o1))), (4, .int (nI (4 * o1 + j)))]) hx hb dX7_sweepOnce_48 hl (k := 3) rfl (nI_add _ 1) (by decide) rfl (fun ls hl => ?_)
              refine lv_iinc (v := nI (4 * o1 + j + 1)) (lv' := [(4, .int (nI (4 * o1 + j + 1))), (3, .int (nI ((lvL f B o1 j).length + 1))), (0, .ref h), (1, .ref r), (2, .int (nI (o1)))]) hx hb dX7_sweepOnce_51 hl (k := 4) rfl (nI_add _ 1) (by decide) rfl (fun ls hl => ?_)
              refine lv_goto (tgt := 21) hx hb dX7_sweepOnce_54 (by decide) ?_
              have hl : lv_has ls 5 [(4, .int (nI (4 * o1 + j + 1))), (3, .int (nI ((lvL f B o1 (j + 1)).length))), (0, .ref h), (1, .ref r), (2, .int (nI (o1)))] := lv_re hl 1 rfl (show nI ((lvL f B o1 j).length + 1) = nI ((lvL f B o1 (j + 1)).length) from by rw [lvL, if_pos c37_14]; simp)
              have hl : lv_has ls 5 [(4, .int (nI (4 * o1 + (j + 1)))), (3, .int (nI ((lvL f B o1 (j + 1)).length))), (0, .ref h), (1, .ref r), (2, .int (nI (o1)))] := lv_re hl 0 rfl (show nI (4 * o1 + j + 1) = nI (4 * o1 + (j + 1)) from rfl)
              exact ih21 (j + 1) (upd fk ((lvL f B o1 j).length) (nI (4 * o1 + j))) (by omega) (by rw [lvL, if_pos c37_14]; exact lvL_put hfk) (by omega) _ _ hP hD hS _ (lv_sub hl [2, 3, 4, 1, 0] rfl)
      have hl : lv_has ls 5 [(4, .int (nI (4 * o1))), (3, .int (nI ((lvL f B o1 0).length))), (2, .int (nI (o1))), (0, .ref h), (1, .ref r)] := lv_re hl 1 rfl (show 0 = nI ((lvL f B o1 0).length) from rfl)
      have hl : lv_has ls 5 [(4, .int (nI (4 * o1 + 0))), (3, .int (nI ((lvL f B o1 0).length))), (2, .int (nI (o1))), (0, .ref h), (1, .ref r)] := lv_re hl 0 rfl (show nI (4 * o1) = nI (4 * o1 + 0) from rfl)
      exact LP21 ((4 - 0) + 1) 0 fl (by omega) (fun i a h => by simp [lvL] at h) (by omega) _ _ hP hD hS _ (lv_sub hl [3, 4, 2, 1, 0] rfl)
    · skip
      exact absurd c8_3 (oI_ne (by omega))
theorem dX7_record_0 : decode cX7_record 0 = .ok (.aload_n 1, 1) := by decide +kernel
theorem dX7_record_1 : decode cX7_record 1 = .ok (.invokestatic 112, 3) := by decide +kernel
theorem dX7_record_4 : decode cX7_record 4 = .ok (.bipush (-9), 2) := by decide +kernel
theorem dX7_record_6 : decode cX7_record 6 = .ok (.if_icmp .ne 51, 3) := by decide +kernel
theorem dX7_record_9 : decode cX7_record 9 = .ok (.aload_n 1, 1) := by decide +kernel
theorem dX7_record_10 : decode cX7_record 10 = .ok (.invokestatic 89, 3) := by decide +kernel
theorem dX7_record_13 : decode cX7_record 13 = .ok (.iconst 1, 1) := by decide +kernel
theorem dX7_record_14 : decode cX7_record 14 = .ok (.if_icmp .le 13, 3) := by decide +kernel
theorem dX7_record_17 : decode cX7_record 17 = .ok (.aload_n 1, 1) := by decide +kernel
theorem dX7_record_18 : decode cX7_record 18 = .ok (.iconst 3, 1) := by decide +kernel
theorem dX7_record_19 : decode cX7_record 19 = .ok (.aload_n 1, 1) := by decide +kernel
theorem dX7_record_20 : decode cX7_record 20 = .ok (.invokestatic 115, 3) := by decide +kernel
theorem dX7_record_23 : decode cX7_record 23 = .ok (.iastore, 1) := by decide +kernel
theorem dX7_record_24 : decode cX7_record 24 = .ok (.goto (-24), 3) := by decide +kernel
theorem dX7_record_27 : decode cX7_record 27 = .ok (.aload_n 0, 1) := by decide +kernel
theorem dX7_record_28 : decode cX7_record 28 = .ok (.aload_n 1, 1) := by decide +kernel
theorem dX7_record_29 : decode cX7_record 29 = .ok (.invokevirtual 125, 3) := by decide +kernel
theorem dX7_record_32 : decode cX7_record 32 = .ok (.istore 4, 2) := by decide +kernel
theorem dX7_record_34 : decode cX7_record 34 = .ok (.iload 4, 2) := by decide +kernel
theorem dX7_record_36 : decode cX7_record 36 = .ok (.ifCond .ge 18, 3) := by decide +kernel
theorem dX7_record_39 : decode cX7_record 39 = .ok (.iload 4, 2) := by decide +kernel
theorem dX7_record_41 : decode cX7_record 41 = .ok (.bipush (-9), 2) := by decide +kernel
theorem dX7_record_43 : decode cX7_record 43 = .ok (.if_icmp .ne 8, 3) := by decide +kernel
theorem dX7_record_46 : decode cX7_record 46 = .ok (.bipush (-3), 2) := by decide +kernel
theorem dX7_record_48 : decode cX7_record 48 = .ok (.goto 5, 3) := by decide +kernel
theorem dX7_record_51 : decode cX7_record 51 = .ok (.bipush (-2), 2) := by decide +kernel
theorem dX7_record_53 : decode cX7_record 53 = .ok (.ireturn, 1) := by decide +kernel
theorem dX7_record_54 : decode cX7_record 54 = .ok (.goto (-54), 3) := by decide +kernel
theorem dX7_record_57 : decode cX7_record 57 = .ok (.aload_n 1, 1) := by decide +kernel
theorem dX7_record_58 : decode cX7_record 58 = .ok (.invokestatic 112, 3) := by decide +kernel
theorem dX7_record_61 : decode cX7_record 61 = .ok (.istore 4, 2) := by decide +kernel
theorem dX7_record_63 : decode cX7_record 63 = .ok (.aload_n 1, 1) := by decide +kernel
theorem dX7_record_64 : decode cX7_record 64 = .ok (.iload 4, 2) := by decide +kernel
theorem dX7_record_66 : decode cX7_record 66 = .ok (.iload_n 2, 1) := by decide +kernel
theorem dX7_record_67 : decode cX7_record 67 = .ok (.iload_n 3, 1) := by decide +kernel
theorem dX7_record_68 : decode cX7_record 68 = .ok (.iconst 0, 1) := by decide +kernel
theorem dX7_record_69 : decode cX7_record 69 = .ok (.invokestatic 118, 3) := by decide +kernel
theorem dX7_record_72 : decode cX7_record 72 = .ok (.ifCond .eq 8, 3) := by decide +kernel
theorem dX7_record_75 : decode cX7_record 75 = .ok (.iload 4, 2) := by decide +kernel
theorem dX7_record_77 : decode cX7_record 77 = .ok (.goto 5, 3) := by decide +kernel
theorem dX7_record_80 : decode cX7_record 80 = .ok (.bipush (-2), 2) := by decide +kernel
theorem dX7_record_82 : decode cX7_record 82 = .ok (.ireturn, 1) := by decide +kernel
theorem q7_record : CQ W7 yX7_record cX7_record 5 (some .int) 3 := ⟨(m7 96 rfl), by decide, by decide, by decide +kernel⟩
set_option maxHeartbeats 4000000 in
set_option maxRecDepth 100000 in
theorem c7_record (l : Launch) (D : va_G) (cI : ClassId) (h lv r : Nat) (fs : List Value) (fl f : Nat → Int32) (B : Nat) (hW : Wf f B) (h14 : fs[14]? = some (.ref lv)) (key val : Int32) (n : Nat) (v : Int32) (f2 : Nat → Int32) (hs : rec B key val n f = some (v, f2)) : GPi l yX7_record cX7_record 5 .int W7 9 203 D [(h, .inr (7, fs)), (lv, .inl (cI, 4, .inl fl)), (r, .inl (cI, 151, .inl f))] [(cI, .int)] [.ref h, .ref r, .int (key), .int (val)] (fun (r9 : Int32) (u9 : va_W) => r9 = v ∧ ∃ fl9 : Nat → Int32, u9 = [(h, .inr (7, fs)), (lv, .inl (cI, 4, .inl fl9)), (r, .inl (cI, 151, .inl f2))]) := by
  refine gp_of RX7 (by decide) rfl (Nat.le_of_ble_eq_true rfl) ?_
  intro p e s m below meth c ls H hX hr hlocks hK hP hD hS hl
  generalize gp_A [(h, .inr (7, fs)), (lv, .inl (cI, 4, .inl fl)), (r, .inl (cI, 151, .inl f))] = A at hD hS ⊢
  have hx := hX.1
  have hb := hX.2.1
  have hown := hX.2.2.2.1
  have hts := hX.2.2.2.2
  have hl : lv_has ls 5 [(0, .ref h), (1, .ref r), (2, .int (key)), (3, .int (val))] := hl
  have LP0 : ∀ n9 : Nat, ∀ (n8 : Nat) (g : Nat → Int32) (fk : Nat → Int32), (hg : Wf g B) → (hsg : rec B key val n8 g = some (v, f2)) → n8 < n9 → ∀ (H : Heap) (locs : List Loc), va_P D vwCl [(h, .inr (7, fs)), (lv, .inl (cI, 4, .inl fk)), (r, .inl (cI, 151, .inl g))] H → va_D A [(h, .inr (7, fs)), (lv, .inl (cI, 4, .inl fk)), (r, .inl (cI, 151, .inl g))] → va_S A s.heap H locs → ∀ ls : Array Slot, lv_has ls 5 [(0, .ref h), (1, .ref r), (2, .int (key)), (3, .int (val))] → W p l e ({ frames := 9, cells := 0, slots := 0, locals := 203 } : Room) s m ([.ref h, .ref r, .int (key), .int (val)] : List Value).toArray below meth c H locs 0 0 (MQ below (va_Qi (fun (r9 : Int32) (u9 : va_W) => r9 = v ∧ ∃ fl9 : Nat → Int32, u9 = [(h, .inr (7, fs)), (lv, .inl (cI, 4, .inl fl9)), (r, .inl (cI, 151, .inl f2))]) (fun u t => va_P D vwCl u t.heap) A) ([.ref h, .ref r, .int (key), .int (val)] : List Value).toArray s 0 0 A) (F0 m 0 ls []) := by
    intro n9
    induction n9 with
    | zero => intros; omega
    | succ n9 ih0 =>
      intro n8 g fk hg hsg hm9 H locs hP hD hS ls hl
      obtain ⟨n7, rfl⟩ : ∃ n7, n8 = n7 + 1 := by cases n8 with | zero => cases hsg | succ n => exact ⟨n, rfl⟩
      rw [rec] at hsg
      refine lv_aload_n hx hb dX7_record_0 rfl (lv_at hl 1 rfl) ?_
      refine rp_callS hX good7 i7 (c7_nextPage l D cI r g (opn g) hg.2.2.1 hg.2.2.2) q7_nextPage rfl (m7 77 rfl) (m7 78 rfl) ⟨Nat.le_of_ble_eq_true rfl, Nat.le_of_ble_eq_true rfl⟩ hK [0] rfl hP [2] rfl hS hl.1 rfl (Nat.le_of_ble_eq_true rfl) dX7_record_1 ⟨Nat.zero_le _, Nat.zero_le _⟩ (fun H locs hP hS => ?_)
      rcases hO1 : nxp g (opn g) with _ | o1
      · skip
        rw [hO1] at hsg
        dsimp only at hsg
        refine lv_bipush (v := (-9)) hx hb dX7_record_4 (by decide) ?_
        refine lv_icmp_ne (tgt := 57) hx hb dX7_record_6 (by decide) (fun c6_2 => ?_) (fun c6_2 => ?_)
        · skip
          exact absurd c6_2 (by decide)
        · skip
          refine lv_aload_n hx hb dX7_record_9 rfl (lv_at hl 1 rfl) ?_
          refine rp_callS hX good7 i7 (c7_cleanBlocks l D cI r g B hg.1 hg.2.1) q7_cleanBlocks rfl (m7 56 rfl) (m7 57 rfl) ⟨Nat.le_of_ble_eq_true rfl, Nat.le_of_ble_eq_true rfl⟩ hK [0] rfl hP [2] rfl hS hl.1 rfl (Nat.le_of_ble_eq_true rfl) dX7_record_10 ⟨Nat.zero_le _, Nat.zero_le _⟩ (fun H locs hP hS => ?_)
          refine lv_iconst (v := 1) hx hb dX7_record_13 (by decide) ?_
          have hcl := cln_le (f := g) B
          have hB8 := hg.2.1
          refine lv_icmp_le (tgt := 27) hx hb dX7_record_14 (by decide) (fun c14_3 => ?_) (fun c14_3 => ?_)
          · skip
            have c14_3 := cn_le (a := cln g B) (b := 1) (by omega) (by omega) c14_3
            rw [if_neg (by omega)] at hsg
            rcases hsw : swp g B with _ | ⟨v3, g3⟩
            · rw [hsw] at hsg; cases hsg
            rw [hsw] at hsg
            dsimp only at hsg
            have hg3 := Wf_swp hg hsw
            refine lv_aload_n hx hb dX7_record_27 rfl (lv_at hl 0 rfl) ?_
            refine lv_aload_n hx hb dX7_record_28 rfl (lv_at hl 1 rfl) ?_
            refine gp_backi (gp_runV hX good7 i7 (c7_sweepOnce l D cI h lv r fs fk g B hg h14 v3 g3 hsw) q7_sweepOnce rfl (m7 89 rfl) (m7 90 rfl) (m7 91 rfl) ⟨Nat.le_of_ble_eq_true rfl, Nat.le_of_ble_eq_true rfl⟩ hK [0] rfl hP hD [0, 1, 2] (by decide) rfl (ci := 7) (q0 := 0) rfl rfl rfl hl.1 rfl (Nat.le_of_ble_eq_true rfl) dX7_record_29 ⟨Nat.zero_le _, Nat.zero_le _⟩) hP hD hS [0, 1, 2] rfl (fun r u h => by obtain ⟨-, x4, rfl⟩ := h; simp only [List.map_cons, List.map_nil]) (fun r9 u H locs hpost hP hD hS => ?_)
            obtain ⟨hr9, x4, rfl⟩ := hpost
            refine lv_as hr9 ?_
            have hP : va_P D vwCl [(h, .inr (7, fs)), (lv, .inl (cI, 4, .inl x4)), (r, .inl (cI, 151, .inl g3))] H := hP
            have hD : va_D A [(h, .inr (7, fs)), (lv, .inl (cI, 4, .inl x4)), (r, .inl (cI, 151, .inl g3))] := hD
            refine lv_istore (lv' := [(4, .int (v3)), (0, .ref h), (1, .ref r), (2, .int (key)), (3, .int (val))]) hx hb dX7_record_32 hl (by decide) rfl (fun ls hl => ?_)
            refine lv_iload hx hb dX7_record_34 (lv_at hl 0 rfl) ?_
            refine lv_if_ge (tgt := 54) hx hb dX7_record_36 (by decide) (fun c36_5 => ?_) (fun c36_5 => ?_)
            · skip
              have c36_5 := i_nlt c36_5
              refine lv_goto (tgt := 0) hx hb dX7_record_54 (by decide) ?_
              exact ih0 n7 g3 x4 (hg3) (by rw [if_neg c36_5] at hsg; exact hsg) (by omega) _ _ hP hD hS _ (lv_sub hl [1, 2, 3, 4] rfl)
            · skip
              have c36_5 := i_lt c36_5
              rw [if_pos c36_5] at hsg
              obtain ⟨hv9, hf9⟩ := so_inj hsg
              refine lv_iload hx hb dX7_record_39 (lv_at hl 0 rfl) ?_
              refine lv_bipush (v := (-9)) hx hb dX7_record_41 (by decide) ?_
              refine lv_icmp_ne (tgt := 51) hx hb dX7_record_43 (by decide) (fun c43_6 => ?_) (fun c43_6 => ?_)
              · skip
                refine lv_bipush (v := (-2)) hx hb dX7_record_51 (by decide) ?_
                have hP : va_P D vwCl [(h, .inr (7, fs)), (lv, .inl (cI, 4, .inl x4)), (r, .inl (cI, 151, .inl f2))] H := by
                  rw [show (f2 : Nat → Int32) = g3 from hf9.symm]
                  exact hP
                exact gp_reti hX hr hlocks hS hP ⟨(if_neg c43_6).symm.trans hv9, _, rfl⟩ dX7_record_53
              · skip
                refine lv_bipush (v := (-3)) hx hb dX7_record_46 (by decide) ?_
                refine lv_goto (tgt := 53) hx hb dX7_record_48 (by decide) ?_
                have hP : va_P D vwCl [(h, .inr (7, fs)), (lv, .inl (cI, 4, .inl x4)), (r, .inl (cI, 151, .inl f2))] H := by
                  rw [show (f2 : Nat → Int32) = g3 from hf9.symm]
                  exact hP
                exact gp_reti hX hr hlocks hS hP ⟨(if_pos c43_6).symm.trans hv9, _, rfl⟩ dX7_record_53
          · skip
            have c14_3 := cn_nle (a := cln g B) (b := 1) (by omega) (by omega) c14_3
            refine lv_aload_n hx hb dX7_record_17 rfl (lv_at hl 1 rfl) ?_
            refine lv_iconst (v := 3) hx hb dX7_record_18 (by decide) ?_
            refine lv_aload_n hx hb dX7_record_19 rfl (lv_at hl 1 rfl) ?_
            refine rp_callS hX good7 i7 (c7_leastClean l D cI r g B hg.1 hg.2.1) q7_leastClean rfl (m7 80 rfl) (m7 81 rfl) ⟨Nat.le_of_ble_eq_true rfl, Nat.le_of_ble_eq_true rfl⟩ hK [0] rfl hP [2] rfl hS hl.1 rfl (Nat.le_of_ble_eq_true rfl) dX7_record_20 ⟨Nat.zero_le _, Nat.zero_le _⟩ (fun H locs hP hS => ?_)
            refine ra_iast (i := 3) hx hb hK hP hD hS 2 0 rfl rfl (by omega) (by decide) dX7_record_23 (fun H locs hP hD hS => ?_)
            have hP : va_P D vwCl [(h, .inr (7, fs)), (lv, .inl (cI, 4, .inl fk)), (r, .inl (cI, 151, .inl (upd g 3 (oI (lcl g B)))))] H := hP
            have hD : va_D A [(h, .inr (7, fs)), (lv, .inl (cI, 4, .inl fk)), (r, .inl (cI, 151, .inl (upd g 3 (oI (lcl g B)))))] := hD
            refine lv_goto (tgt := 0) hx hb dX7_record_24 (by decide) ?_
            exact ih0 n7 (upd g 3 (oI (lcl g B))) fk (Wf_open hg) (by rw [if_pos c14_3] at hsg; exact hsg) (by omega) _ _ hP hD hS _ (lv_sub hl [0, 1, 2, 3] rfl)
      · skip
        rw [hO1] at hsg
        dsimp only at hsg
        have hp1 := nxp_lt hg.2.2.2 hO1
        obtain ⟨hv9, hf9⟩ := so_inj hsg
        refine lv_bipush (v := (-9)) hx hb dX7_record_4 (by decide) ?_
        refine lv_icmp_ne (tgt := 57) hx hb dX7_record_6 (by decide) (fun c6_7 => ?_) (fun c6_7 => ?_)
        · skip
          refine lv_aload_n hx hb dX7_record_57 rfl (lv_at hl 1 rfl) ?_
          refine rp_callS hX good7 i7 (c7_nextPage l D cI r g (opn g) hg.2.2.1 hg.2.2.2) q7_nextPage rfl (m7 77 rfl) (m7 78 rfl) ⟨Nat.le_of_ble_eq_true rfl, Nat.le_of_ble_eq_true rfl⟩ hK [0] rfl hP [2] rfl hS hl.1 rfl (Nat.le_of_ble_eq_true rfl) dX7_record_58 ⟨Nat.zero_le _, Nat.zero_le _⟩ (fun H locs hP hS => ?_)
          refine lv_as (show oI (nxp g (opn g)) = nI (o1) from by rw [hO1]; rfl) ?_
          refine lv_istore (lv' := [(4, .int (nI (o1))), (0, .ref h), (1, .ref r), (2, .int (key)), (3, .int (val))]) hx hb dX7_record_61 hl (by decide) rfl (fun ls hl => ?_)
          refine lv_aload_n hx hb dX7_record_63 rfl (lv_at hl 2 rfl) ?_
          refine lv_iload hx hb dX7_record_64 (lv_at hl 0 rfl) ?_
          refine lv_iload_n hx hb dX7_record_66 rfl (lv_at hl 3 rfl) ?_
          refine lv_iload_n hx hb dX7_record_67 rfl (lv_at hl 4 rfl) ?_
          refine lv_iconst (v := 0) hx hb dX7_record_68 (by decide) ?_
          refine gp_backi (gp_runS hX good7 i7 (c7_writes l D cI r g o1 (by omega) key val false) q7_writes rfl (m7 83 rfl) (m7 84 rfl) ⟨Nat.le_of_ble_eq_true rfl, Nat.le_of_ble_eq_true rfl⟩ hK [0] rfl hP hD [2] (by decide) rfl hl.1 rfl (Nat.le_of_ble_eq_true rfl) dX7_record_69 ⟨Nat.zero_le _, Nat.zero_le _⟩) hP hD hS [2] rfl (fun r u h => by rw [h.2]; simp only [List.map_cons, List.map_nil]) (fun r9 u H locs hpost hP hD hS => ?_)
          obtain ⟨hr9, rfl⟩ := hpost
          refine lv_as hr9 ?_
          have hP : va_P D vwCl [(h, .inr (7, fs)), (lv, .inl (cI, 4, .inl fk)), (r, .inl (cI, 151, .inl (wrR g o1 key val false)))] H := hP
          have hD : va_D A [(h, .inr (7, fs)), (lv, .inl (cI, 4, .inl fk)), (r, .inl (cI, 151, .inl (wrR g o1 key val false)))] := hD
          refine lv_if_eq (tgt := 80) hx hb dX7_record_72 (by decide) (fun c72_8 => ?_) (fun c72_8 => ?_)
          · skip
            have c72_8 := bI_f c72_8
            refine lv_bipush (v := (-2)) hx hb dX7_record_80 (by decide) ?_
            have hP : va_P D vwCl [(h, .inr (7, fs)), (lv, .inl (cI, 4, .inl fk)), (r, .inl (cI, 151, .inl f2))] H := by
              rw [show (f2 : Nat → Int32) = wrR g o1 key val false from hf9.symm]
              exact hP
            exact gp_reti hX hr hlocks hS hP ⟨(if_pos (Classical.not_not.mp c72_8)).symm.trans hv9, _, rfl⟩ dX7_record_82
          · skip
            have c72_8 := bI_t c72_8
            refine lv_iload hx hb dX7_record_75 (lv_at hl 0 rfl) ?_
            refine lv_goto (tgt := 82) hx hb dX7_record_77 (by decide) ?_
            have hP : va_P D vwCl [(h, .inr (7, fs)), (lv, .inl (cI, 4, .inl fk)), (r, .inl (cI, 151, .inl f2))] H := by
              rw [show (f2 : Nat → Int32) = wrR g o1 key val false from hf9.symm]
              exact hP
            exact gp_reti hX hr hlocks hS hP ⟨(if_neg c72_8).symm.trans hv9, _, rfl⟩ dX7_record_82
        · skip
          exact absurd c6_7 (oI_ne (by omega))
  exact LP0 (n + 1) n f fl (hW) (hs) (by omega) _ _ hP hD hS _ (lv_sub hl [0, 1, 2, 3] rfl)
theorem dX7_looked_0 : decode cX7_looked 0 = .ok (.aload_n 1, 1) := by decide +kernel
theorem dX7_looked_1 : decode cX7_looked 1 = .ok (.iconst 0, 1) := by decide +kernel
theorem dX7_looked_2 : decode cX7_looked 2 = .ok (.aload_n 0, 1) := by decide +kernel
theorem dX7_looked_3 : decode cX7_looked 3 = .ok (.getfield 19, 3) := by decide +kernel
theorem dX7_looked_6 : decode cX7_looked 6 = .ok (.iconst 0, 1) := by decide +kernel
theorem dX7_looked_7 : decode cX7_looked 7 = .ok (.sipush 151, 3) := by decide +kernel
theorem dX7_looked_10 : decode cX7_looked 10 = .ok (.invokestatic 48, 3) := by decide +kernel
theorem dX7_looked_13 : decode cX7_looked 13 = .ok (.aload_n 0, 1) := by decide +kernel
theorem dX7_looked_14 : decode cX7_looked 14 = .ok (.getfield 19, 3) := by decide +kernel
theorem dX7_looked_17 : decode cX7_looked 17 = .ok (.iconst 5, 1) := by decide +kernel
theorem dX7_looked_18 : decode cX7_looked 18 = .ok (.iconst 0, 1) := by decide +kernel
theorem dX7_looked_19 : decode cX7_looked 19 = .ok (.iastore, 1) := by decide +kernel
theorem dX7_looked_20 : decode cX7_looked 20 = .ok (.aload_n 0, 1) := by decide +kernel
theorem dX7_looked_21 : decode cX7_looked 21 = .ok (.aload_n 0, 1) := by decide +kernel
theorem dX7_looked_22 : decode cX7_looked 22 = .ok (.getfield 19, 3) := by decide +kernel
theorem dX7_looked_25 : decode cX7_looked 25 = .ok (.iconst 0, 1) := by decide +kernel
theorem dX7_looked_26 : decode cX7_looked 26 = .ok (.iconst 0, 1) := by decide +kernel
theorem dX7_looked_27 : decode cX7_looked 27 = .ok (.invokevirtual 128, 3) := by decide +kernel
theorem dX7_looked_30 : decode cX7_looked 30 = .ok (.ireturn, 1) := by decide +kernel
theorem q7_looked : CQ W7 yX7_looked cX7_looked 2 (some .int) 1 := ⟨(m7 100 rfl), by decide, by decide, by decide +kernel⟩
set_option maxHeartbeats 4000000 in
set_option maxRecDepth 100000 in
theorem c7_looked (l : Launch) (D : va_G) (cI : ClassId) (h lv lk r : Nat) (fs : List Value) (fl flk f : Nat → Int32) (B : Nat) (hW : Wf f B) (h9 : fs[9]? = some (.ref lk)) (h14 : fs[14]? = some (.ref lv)) (n : Nat) (v : Int32) (f2 : Nat → Int32) (hs : rec B 0 0 n (upd f 5 0) = some (v, f2)) : GPi l yX7_looked cX7_looked 2 .int W7 10 227 D [(h, .inr (7, fs)), (lv, .inl (cI, 4, .inl fl)), (lk, .inl (cI, 151, .inl flk)), (r, .inl (cI, 151, .inl f))] [(cI, .int)] [.ref h, .ref r] (fun (r9 : Int32) (u9 : va_W) => r9 = v ∧ ∃ fl9 : Nat → Int32, u9 = [(h, .inr (7, fs)), (lv, .inl (cI, 4, .inl fl9)), (lk, .inl (cI, 151, .inl f2)), (r, .inl (cI, 151, .inl f))]) := by
  refine gp_of RX7 (by decide) rfl (Nat.le_of_ble_eq_true rfl) ?_
  intro p e s m below meth c ls H hX hr hlocks hK hP hD hS hl
  generalize gp_A [(h, .inr (7, fs)), (lv, .inl (cI, 4, .inl fl)), (lk, .inl (cI, 151, .inl flk)), (r, .inl (cI, 151, .inl f))] = A at hD hS ⊢
  have hx := hX.1
  have hb := hX.2.1
  have hown := hX.2.2.2.1
  have hts := hX.2.2.2.2
  have hl : lv_has ls 2 [(0, .ref h), (1, .ref r)] := hl
  refine lv_aload_n hx hb dX7_looked_0 rfl (lv_at hl 1 rfl) ?_
  refine lv_iconst (v := 0) hx hb dX7_looked_1 (by decide) ?_
  refine lv_aload_n hx hb dX7_looked_2 rfl (lv_at hl 0 rfl) ?_
  refine va_get (D := D) (ci := 7) (v := .ref lk) (C := RX7) (T := TX7) (N := 15) hx hb hts u7 hown hK hP 0 rfl rfl 9 (by decide) (hts _ (m7 7 rfl)) (fun _ h9 => h9) h9 dX7_looked_3 ?_
  refine lv_iconst (v := 0) hx hb dX7_looked_6 (by decide) ?_
  refine lv_sipush (v := 151) hx hb dX7_looked_7 (by decide) ?_
  refine gp_backv (gp_runS hX good7 i7 (c7_copy l D cI r lk 151 151 f flk 0 0 151 (by omega) (by omega) (by omega) (by omega)) q7_copy rfl (m7 20 rfl) (m7 21 rfl) ⟨Nat.le_of_ble_eq_true rfl, Nat.le_of_ble_eq_true rfl⟩ hK [0] rfl hP hD [3, 2] (by decide) rfl hl.1 rfl (Nat.le_of_ble_eq_true rfl) dX7_looked_10 ⟨Nat.zero_le _, Nat.zero_le _⟩) hP hD hS [3, 2] rfl (fun u h => by rw [h]; simp only [List.map_cons, List.map_nil]) (fun u H locs hpost hP hD hS => ?_)
  subst hpost
  have hP : va_P D vwCl [(h, .inr (7, fs)), (lv, .inl (cI, 4, .inl fl)), (lk, .inl (cI, 151, .inl (va_cpy f flk 0 0 151))), (r, .inl (cI, 151, .inl f))] H := hP
  have hD : va_D A [(h, .inr (7, fs)), (lv, .inl (cI, 4, .inl fl)), (lk, .inl (cI, 151, .inl (va_cpy f flk 0 0 151))), (r, .inl (cI, 151, .inl f))] := hD
  have hP : va_P D vwCl [(h, .inr (7, fs)), (lv, .inl (cI, 4, .inl fl)), (lk, .inl (cI, 151, .inl f)), (r, .inl (cI, 151, .inl f))] H := gp_cell (A := A) hP 2 rfl (fun k hk => cpy_all hk)
  have hD : va_D A [(h, .inr (7, fs)), (lv, .inl (cI, 4, .inl fl)), (lk, .inl (cI, 151, .inl f)), (r, .inl (cI, 151, .inl f))] := gp_D hD (by simp only [List.map_cons, List.map_nil])
  have hL : Wf (upd f 5 0) B := Wf_5 hW (by decide) (by decide)
  refine lv_aload_n hx hb dX7_looked_13 rfl (lv_at hl 0 rfl) ?_
  refine va_get (D := D) (ci := 7) (v := .ref lk) (C := RX7) (T := TX7) (N := 15) hx hb hts u7 hown hK hP 0 rfl rfl 9 (by decide) (hts _ (m7 7 rfl)) (fun _ h9 => h9) h9 dX7_looked_14 ?_
  refine lv_iconst (v := 5) hx hb dX7_looked_17 (by decide) ?_
  refine lv_iconst (v := 0) hx hb dX7_looked_18 (by decide) ?_
  refine ra_iast (i := 5) hx hb hK hP hD hS 2 0 rfl rfl (by omega) (by decide) dX7_looked_19 (fun H locs hP hD hS => ?_)
  have hP : va_P D vwCl [(h, .inr (7, fs)), (lv, .inl (cI, 4, .inl fl)), (lk, .inl (cI, 151, .inl (upd f 5 0))), (r, .inl (cI, 151, .inl f))] H := hP
  have hD : va_D A [(h, .inr (7, fs)), (lv, .inl (cI, 4, .inl fl)), (lk, .inl (cI, 151, .inl (upd f 5 0))), (r, .inl (cI, 151, .inl f))] := hD
  refine lv_aload_n hx hb dX7_looked_20 rfl (lv_at hl 0 rfl) ?_
  refine lv_aload_n hx hb dX7_looked_21 rfl (lv_at hl 0 rfl) ?_
  refine va_get (D := D) (ci := 7) (v := .ref lk) (C := RX7) (T := TX7) (N := 15) hx hb hts u7 hown hK hP 0 rfl rfl 9 (by decide) (hts _ (m7 7 rfl)) (fun _ h9 => h9) h9 dX7_looked_22 ?_
  refine lv_iconst (v := 0) hx hb dX7_looked_25 (by decide) ?_
  refine lv_iconst (v := 0) hx hb dX7_looked_26 (by decide) ?_
  refine gp_backi (gp_runV hX good7 i7 (c7_record l D cI h lv lk fs fl (upd f 5 0) B hL h14 0 0 n v f2 hs) q7_record rfl (m7 93 rfl) (m7 94 rfl) (m7 95 rfl) ⟨Nat.le_of_ble_eq_true rfl, Nat.le_of_ble_eq_true rfl⟩ hK [0] rfl hP hD [0, 1, 2] (by decide) rfl (ci := 7) (q0 := 0) rfl rfl rfl hl.1 rfl (Nat.le_of_ble_eq_true rfl) dX7_looked_27 ⟨Nat.zero_le _, Nat.zero_le _⟩) hP hD hS [0, 1, 2] rfl (fun r u h => by obtain ⟨-, x1, rfl⟩ := h; simp only [List.map_cons, List.map_nil]) (fun r9 u H locs hpost hP hD hS => ?_)
  obtain ⟨hr9, x1, rfl⟩ := hpost
  refine lv_as hr9 ?_
  have hP : va_P D vwCl [(h, .inr (7, fs)), (lv, .inl (cI, 4, .inl x1)), (lk, .inl (cI, 151, .inl f2)), (r, .inl (cI, 151, .inl f))] H := hP
  have hD : va_D A [(h, .inr (7, fs)), (lv, .inl (cI, 4, .inl x1)), (lk, .inl (cI, 151, .inl f2)), (r, .inl (cI, 151, .inl f))] := hD
  exact gp_reti hX hr hlocks hS hP ⟨rfl, _, rfl⟩ dX7_looked_30
theorem dX7_hasRoom_0 : decode cX7_hasRoom 0 = .ok (.aload_n 1, 1) := by decide +kernel
theorem dX7_hasRoom_1 : decode cX7_hasRoom 1 = .ok (.iconst 2, 1) := by decide +kernel
theorem dX7_hasRoom_2 : decode cX7_hasRoom 2 = .ok (.iaload, 1) := by decide +kernel
theorem dX7_hasRoom_3 : decode cX7_hasRoom 3 = .ok (.iconst 1, 1) := by decide +kernel
theorem dX7_hasRoom_4 : decode cX7_hasRoom 4 = .ok (.if_icmp .ne 15, 3) := by decide +kernel
theorem dX7_hasRoom_7 : decode cX7_hasRoom 7 = .ok (.aload_n 0, 1) := by decide +kernel
theorem dX7_hasRoom_8 : decode cX7_hasRoom 8 = .ok (.aload_n 1, 1) := by decide +kernel
theorem dX7_hasRoom_9 : decode cX7_hasRoom 9 = .ok (.invokevirtual 131, 3) := by decide +kernel
theorem dX7_hasRoom_12 : decode cX7_hasRoom 12 = .ok (.ifCond .lt 7, 3) := by decide +kernel
theorem dX7_hasRoom_15 : decode cX7_hasRoom 15 = .ok (.iconst 1, 1) := by decide +kernel
theorem dX7_hasRoom_16 : decode cX7_hasRoom 16 = .ok (.goto 4, 3) := by decide +kernel
theorem dX7_hasRoom_19 : decode cX7_hasRoom 19 = .ok (.iconst 0, 1) := by decide +kernel
theorem dX7_hasRoom_20 : decode cX7_hasRoom 20 = .ok (.ireturn, 1) := by decide +kernel
theorem q7_hasRoom : CQ W7 yX7_hasRoom cX7_hasRoom 2 (some .boolean) 1 := ⟨(m7 104 rfl), by decide, by decide, by decide +kernel⟩
set_option maxHeartbeats 4000000 in
set_option maxRecDepth 100000 in
theorem c7_hasRoom (l : Launch) (D : va_G) (cI : ClassId) (h lv lk r : Nat) (fs : List Value) (fl flk f : Nat → Int32) (B : Nat) (hW : Wf f B) (h9 : fs[9]? = some (.ref lk)) (h14 : fs[14]? = some (.ref lv)) (n : Nat) (v : Int32) (f2 : Nat → Int32) (hs : rec B 0 0 n (upd f 5 0) = some (v, f2)) : GPi l yX7_hasRoom cX7_hasRoom 2 .boolean W7 11 248 D [(h, .inr (7, fs)), (lv, .inl (cI, 4, .inl fl)), (lk, .inl (cI, 151, .inl flk)), (r, .inl (cI, 151, .inl f))] [(cI, .int)] [.ref h, .ref r] (fun (r9 : Int32) (u9 : va_W) => r9 = (bI (f 2 = 1 ∧ ¬ v < 0)) ∧ ∃ fl9 : Nat → Int32, u9 = [(h, .inr (7, fs)), (lv, .inl (cI, 4, .inl fl9)), (lk, .inl (cI, 151, .inl (if f 2 = 1 then f2 else flk))), (r, .inl (cI, 151, .inl f))]) := by
  refine gp_of RX7 (by decide) rfl (Nat.le_of_ble_eq_true rfl) ?_
  intro p e s m below meth c ls H hX hr hlocks hK hP hD hS hl
  generalize gp_A [(h, .inr (7, fs)), (lv, .inl (cI, 4, .inl fl)), (lk, .inl (cI, 151, .inl flk)), (r, .inl (cI, 151, .inl f))] = A at hD hS ⊢
  have hx := hX.1
  have hb := hX.2.1
  have hown := hX.2.2.2.1
  have hts := hX.2.2.2.2
  have hl : lv_has ls 2 [(0, .ref h), (1, .ref r)] := hl
  refine lv_aload_n hx hb dX7_hasRoom_0 rfl (lv_at hl 1 rfl) ?_
  refine lv_iconst (v := 2) hx hb dX7_hasRoom_1 (by decide) ?_
  refine ra_iald (i := 2) hx hb hK hP 3 0 rfl rfl (by omega) (by decide) dX7_hasRoom_2 ?_
  refine lv_iconst (v := 1) hx hb dX7_hasRoom_3 (by decide) ?_
  refine lv_icmp_ne (tgt := 19) hx hb dX7_hasRoom_4 (by decide) (fun c4_1 => ?_) (fun c4_1 => ?_)
  · skip
    refine lv_iconst (v := 0) hx hb dX7_hasRoom_19 (by decide) ?_
    have hP : va_P D vwCl [(h, .inr (7, fs)), (lv, .inl (cI, 4, .inl fl)), (lk, .inl (cI, 151, .inl (if f 2 = 1 then f2 else flk))), (r, .inl (cI, 151, .inl f))] H := by
      rw [show (if f 2 = 1 then f2 else flk : Nat → Int32) = flk from if_neg c4_1]
      exact hP
    exact gp_retz hX hr hlocks hS hP (P := f 2 = 1 ∧ ¬ v < 0) ((bI_0 (fun z => c4_1 z.1)).symm) ⟨(bI_0 (fun z => c4_1 z.1)).symm, _, rfl⟩ dX7_hasRoom_20
  · skip
    refine lv_aload_n hx hb dX7_hasRoom_7 rfl (lv_at hl 0 rfl) ?_
    refine lv_aload_n hx hb dX7_hasRoom_8 rfl (lv_at hl 1 rfl) ?_
    refine gp_backi (gp_runV hX good7 i7 (c7_looked l D cI h lv lk r fs fl flk f B hW h9 h14 n v f2 hs) q7_looked rfl (m7 97 rfl) (m7 98 rfl) (m7 99 rfl) ⟨Nat.le_of_ble_eq_true rfl, Nat.le_of_ble_eq_true rfl⟩ hK [0] rfl hP hD [0, 1, 2, 3] (by decide) rfl (ci := 7) (q0 := 0) rfl rfl rfl hl.1 rfl (Nat.le_of_ble_eq_true rfl) dX7_hasRoom_9 ⟨Nat.zero_le _, Nat.zero_le _⟩) hP hD hS [0, 1, 2, 3] rfl (fun r u h => by obtain ⟨-, x2, rfl⟩ := h; simp only [List.map_cons, List.map_nil]) (fun r9 u H locs hpost hP hD hS => ?_)
    obtain ⟨hr9, x2, rfl⟩ := hpost
    refine lv_as hr9 ?_
    have hP : va_P D vwCl [(h, .inr (7, fs)), (lv, .inl (cI, 4, .inl x2)), (lk, .inl (cI, 151, .inl f2)), (r, .inl (cI, 151, .inl f))] H := hP
    have hD : va_D A [(h, .inr (7, fs)), (lv, .inl (cI, 4, .inl x2)), (lk, .inl (cI, 151, .inl f2)), (r, .inl (cI, 151, .inl f))] := hD
    refine lv_if_lt (tgt := 19) hx hb dX7_hasRoom_12 (by decide) (fun c12_3 => ?_) (fun c12_3 => ?_)
    · skip
      refine lv_iconst (v := 0) hx hb dX7_hasRoom_19 (by decide) ?_
      have hP : va_P D vwCl [(h, .inr (7, fs)), (lv, .inl (cI, 4, .inl x2)), (lk, .inl (cI, 151, .inl (if f 2 = 1 then f2 else flk))), (r, .inl (cI, 151, .inl f))] H := by
        rw [show (if f 2 = 1 then f2 else flk : Nat → Int32) = f2 from if_pos c4_1]
        exact hP
      exact gp_retz hX hr hlocks hS hP (P := f 2 = 1 ∧ ¬ v < 0) ((bI_0 (fun z => z.2 c12_3)).symm) ⟨(bI_0 (fun z => z.2 c12_3)).symm, _, rfl⟩ dX7_hasRoom_20
    · skip
      refine lv_iconst (v := 1) hx hb dX7_hasRoom_15 (by decide) ?_
      refine lv_goto (tgt := 20) hx hb dX7_hasRoom_16 (by decide) ?_
      have hP : va_P D vwCl [(h, .inr (7, fs)), (lv, .inl (cI, 4, .inl x2)), (lk, .inl (cI, 151, .inl (if f 2 = 1 then f2 else flk))), (r, .inl (cI, 151, .inl f))] H := by
        rw [show (if f 2 = 1 then f2 else flk : Nat → Int32) = f2 from if_pos c4_1]
        exact hP
      exact gp_retz hX hr hlocks hS hP (P := f 2 = 1 ∧ ¬ v < 0) ((bI_1 ⟨c4_1, c12_3⟩).symm) ⟨(bI_1 ⟨c4_1, c12_3⟩).symm, _, rfl⟩ dX7_hasRoom_20
