theorem dL_fewest_0 : decode cL_fewest 0 = .ok (.iconst 1, 1) := by decide +kernel
theorem dL_fewest_1 : decode cL_fewest 1 = .ok (.istore_n 2, 1) := by decide +kernel
theorem dL_fewest_2 : decode cL_fewest 2 = .ok (.iconst 0, 1) := by decide +kernel
theorem dL_fewest_3 : decode cL_fewest 3 = .ok (.istore_n 3, 1) := by decide +kernel
theorem dL_fewest_4 : decode cL_fewest 4 = .ok (.iload_n 3, 1) := by decide +kernel
theorem dL_fewest_5 : decode cL_fewest 5 = .ok (.i2l, 1) := by decide +kernel
theorem dL_fewest_6 : decode cL_fewest 6 = .ok (.aload_n 0, 1) := by decide +kernel
theorem dL_fewest_7 : decode cL_fewest 7 = .ok (.iconst 0, 1) := by decide +kernel
theorem dL_fewest_8 : decode cL_fewest 8 = .ok (.invokestatic 102, 3) := by decide +kernel
theorem dL_fewest_11 : decode cL_fewest 11 = .ok (.lcmp, 1) := by decide +kernel
theorem dL_fewest_12 : decode cL_fewest 12 = .ok (.ifCond .ge 46, 3) := by decide +kernel
theorem dL_fewest_15 : decode cL_fewest 15 = .ok (.iload_n 2, 1) := by decide +kernel
theorem dL_fewest_16 : decode cL_fewest 16 = .ok (.ifCond .eq 34, 3) := by decide +kernel
theorem dL_fewest_19 : decode cL_fewest 19 = .ok (.aload_n 0, 1) := by decide +kernel
theorem dL_fewest_20 : decode cL_fewest 20 = .ok (.iload_n 3, 1) := by decide +kernel
theorem dL_fewest_21 : decode cL_fewest 21 = .ok (.iconst 5, 1) := by decide +kernel
theorem dL_fewest_22 : decode cL_fewest 22 = .ok (.invokestatic 107, 3) := by decide +kernel
theorem dL_fewest_25 : decode cL_fewest 25 = .ok (.lconst 0, 1) := by decide +kernel
theorem dL_fewest_26 : decode cL_fewest 26 = .ok (.lcmp, 1) := by decide +kernel
theorem dL_fewest_27 : decode cL_fewest 27 = .ok (.ifCond .eq 19, 3) := by decide +kernel
theorem dL_fewest_30 : decode cL_fewest 30 = .ok (.aload_n 0, 1) := by decide +kernel
theorem dL_fewest_31 : decode cL_fewest 31 = .ok (.iload_n 3, 1) := by decide +kernel
theorem dL_fewest_32 : decode cL_fewest 32 = .ok (.iconst 1, 1) := by decide +kernel
theorem dL_fewest_33 : decode cL_fewest 33 = .ok (.invokestatic 107, 3) := by decide +kernel
theorem dL_fewest_36 : decode cL_fewest 36 = .ok (.aload_n 0, 1) := by decide +kernel
theorem dL_fewest_37 : decode cL_fewest 37 = .ok (.iload_n 1, 1) := by decide +kernel
theorem dL_fewest_38 : decode cL_fewest 38 = .ok (.iconst 1, 1) := by decide +kernel
theorem dL_fewest_39 : decode cL_fewest 39 = .ok (.invokestatic 107, 3) := by decide +kernel
theorem dL_fewest_42 : decode cL_fewest 42 = .ok (.lcmp, 1) := by decide +kernel
theorem dL_fewest_43 : decode cL_fewest 43 = .ok (.ifCond .lt 7, 3) := by decide +kernel
theorem dL_fewest_46 : decode cL_fewest 46 = .ok (.iconst 1, 1) := by decide +kernel
theorem dL_fewest_47 : decode cL_fewest 47 = .ok (.goto 4, 3) := by decide +kernel
theorem dL_fewest_51 : decode cL_fewest 51 = .ok (.istore_n 2, 1) := by decide +kernel
theorem dL_fewest_52 : decode cL_fewest 52 = .ok (.iinc 3 1, 3) := by decide +kernel
theorem dL_fewest_55 : decode cL_fewest 55 = .ok (.goto (-51), 3) := by decide +kernel
theorem dL_fewest_58 : decode cL_fewest 58 = .ok (.iload_n 2, 1) := by decide +kernel
theorem dL_fewest_59 : decode cL_fewest 59 = .ok (.ireturn, 1) := by decide +kernel
set_option maxHeartbeats 8000000 in
set_option maxRecDepth 100000 in
theorem c_fewest (l : Launch) (hst : l.stackTraces = false) (D : va_G) (cI cL cZ : ClassId) (Gs : Nat → Geo) (hG : GeoOk (Gs 0)) (a : AS) (hGo : Go a) (v : Nat) (hv : cvZ a.2.1 = some v) (hp : a.2.1.2.1 0 = 0) : LZ l yL_fewest cL_fewest 4 8 135 40 240 D cI cL cZ Gs [a] [.ref ((Gs 0).1 1), .int (nI (v))] 1 [a] := by
  have hB := inv_B hGo.2
  have hv9 := cvF_lt hv
  refine lz_of (by decide) rfl (Nat.le_of_ble_eq_true rfl) ?_
  intro p e s m below meth c ls H A hF hr hlocks hw hl
  have hx := hF.1.1
  have hb := hF.1.2.1
  have hown := hF.1.2.2.2.1
  have hts := hF.1.2.2.2.2
  have hl : lv_has ls 4 [(0, .ref ((Gs 0).1 1)), (1, .int (nI (v)))] := hl
  refine W.widen (k := 0) (n := 6 * 0) (Nat.le_refl _) (Nat.le_refl _) ?_
  refine lv_iconst (v := 1) hx hb dL_fewest_0 (by decide) ?_
  refine lv_istore_n (lv' := [(2, .int (1)), (0, .ref ((Gs 0).1 1)), (1, .int (nI (v)))]) hx hb dL_fewest_1 rfl hl (by decide) rfl (fun ls hl => ?_)
  refine lv_iconst (v := 0) hx hb dL_fewest_2 (by decide) ?_
  refine lv_istore_n (lv' := [(3, .int (0)), (2, .int (1)), (0, .ref ((Gs 0).1 1)), (1, .int (nI (v)))]) hx hb dL_fewest_3 rfl hl (by decide) rfl (fun ls hl => ?_)
  have LP4 : ∀ n9 : Nat, ∀ (b : Nat) (H : Heap) (locs : List Loc) (ls : Array Slot), (hb9 : b ≤ a.2.1.1.2) → a.2.1.1.2 - b < n9 → LO D cI cL cZ A s Gs [a] H locs → lv_has ls 4 [(3, .int (nI (b))), (2, .int (1)), (0, .ref ((Gs 0).1 1)), (1, .int (nI (v)))] → W p l e ({ frames := 8, cells := 40, slots := 240, locals := 135 } : Room) s m [.ref ((Gs 0).1 1), .int (nI (v))].toArray below meth c H locs (4 * b) (6 * (4 * b)) (MQ below (lqI D cI cL cZ Gs 1 [a] A) [.ref ((Gs 0).1 1), .int (nI (v))].toArray s 40 240 A) (F0 m 4 ls []) := by
    intro n9
    induction n9 with
    | zero => intros; omega
    | succ n9 ih4 =>
      intro b H locs ls hb9 hm9 hw hl
      refine lv_iload_n hx hb dL_fewest_4 rfl (lv_at hl 0 rfl) ?_
      refine lv_i2l (v := (nI (b) : Int32).toInt64) hx hb dL_fewest_5 rfl ?_
      refine lv_aload_n hx hb dL_fewest_6 rfl (lv_at hl 2 rfl) ?_
      refine lv_iconst (v := 0) hx hb dL_fewest_7 (by decide) ?_
      refine lo_callX hF (lx_eq (x_about (Gs := fun _ => Gs 0) hst hG hGo 0) (show _ = ((nI a.2.1.1.2).toInt64) from ab_0) (show _ = [a] from rfl)) k_about ⟨Nat.le_of_ble_eq_true rfl, Nat.le_of_ble_eq_true rfl⟩ hw [0] (by decide) rfl (hg_one rfl) rfl hl.1 rfl (Nat.le_of_ble_eq_true rfl) dL_fewest_8 ⟨by show _ ≤ (40 : Nat); omega, by show _ ≤ (240 : Nat); omega⟩ (fun H locs hw => ?_)
      have hw : LO D cI cL cZ A s Gs [a] H locs := hw
      refine W.widen (k := 4 * b + 1) (n := 6 * (4 * b + 1)) (Nat.le_refl _) (by omega) ?_
      refine W.lcmp hx hb dL_fewest_11 ?_
      refine lv_if_ge (tgt := 58) hx hb dL_fewest_12 (by decide) (fun c12 => ?_) (fun c12 => ?_)
      · skip
        have c12 := (lg_cmp_ge _ _).mp c12
        have c12 := (jl_le (a := a.2.1.1.2) (b := b) (by omega) (by omega)).mp c12
        refine lv_iload_n hx hb dL_fewest_58 rfl (lv_at hl 1 rfl) ?_
        exact lo_retz hF hr hlocks hw (rfl) (rfl) (by omega) (by omega) dL_fewest_59
      · skip
        have c12 := (fun z => c12 ((lg_cmp_ge _ _).mpr z))
        have c12 : b < a.2.1.1.2 := Nat.lt_of_not_le (fun z => c12 ((jl_le (a := a.2.1.1.2) (b := b) (by omega) (by omega)).mpr z))
        refine lv_iload_n hx hb dL_fewest_15 rfl (lv_at hl 1 rfl) ?_
        refine lv_if_eq (tgt := 50) hx hb dL_fewest_16 (by decide) (fun c16 => ?_) (fun c16 => ?_)
        · skip
          exact absurd c16 (by decide)
        · skip
          refine lv_aload_n hx hb dL_fewest_19 rfl (lv_at hl 2 rfl) ?_
          refine lv_iload_n hx hb dL_fewest_20 rfl (lv_at hl 0 rfl) ?_
          refine lv_iconst (v := 5) hx hb dL_fewest_21 (by decide) ?_
          refine lo_callX hF (lx_eq (x_block (Gs := fun _ => Gs 0) hst hG hGo (nI (b)) 5) (show _ = (blJ a.2.1 (nI (b)) 5) from rfl) (show _ = [a] from rfl)) k_block ⟨Nat.le_of_ble_eq_true rfl, Nat.le_of_ble_eq_true rfl⟩ hw [0] (by decide) rfl (hg_one rfl) rfl hl.1 rfl (Nat.le_of_ble_eq_true rfl) dL_fewest_22 ⟨by show _ ≤ (40 : Nat); omega, by show _ ≤ (240 : Nat); omega⟩ (fun H locs hw => ?_)
          have hw : LO D cI cL cZ A s Gs [a] H locs := hw
          refine W.widen (k := 4 * b + 1 + 1) (n := 6 * (4 * b + 1 + 1)) (Nat.le_refl _) (by omega) ?_
          refine lv_lconst (v := 0) hx hb dL_fewest_25 (by decide) ?_
          refine W.lcmp hx hb dL_fewest_26 ?_
          refine lv_if_eq (tgt := 46) hx hb dL_fewest_27 (by decide) (fun c27 => ?_) (fun c27 => ?_)
          · skip
            have c27 := (lg_cmp_eq _ _).mp c27
            refine lv_iconst (v := 1) hx hb dL_fewest_46 (by decide) ?_
            refine lv_goto (tgt := 51) hx hb dL_fewest_47 (by decide) ?_
            refine lv_istore_n (lv' := [(2, .int (1)), (3, .int (nI (b))), (0, .ref ((Gs 0).1 1)), (1, .int (nI (v)))]) hx hb dL_fewest_51 rfl hl (by decide) rfl (fun ls hl => ?_)
            refine lv_iinc (v := nI (b + 1)) (lv' := [(3, .int (nI (b + 1))), (2, .int (1)), (0, .ref ((Gs 0).1 1)), (1, .int (nI (v)))]) hx hb dL_fewest_52 hl (k := 1) rfl (nI_add _ 1) (by decide) rfl (fun ls hl => ?_)
            refine lv_goto (tgt := 4) hx hb dL_fewest_55 (by decide) ?_
            have hl : lv_has ls 4 [(3, .int (nI ((b + 1)))), (2, .int (1)), (0, .ref ((Gs 0).1 1)), (1, .int (nI (v)))] := lv_re hl 0 rfl (show (nI (b + 1)) = nI ((b + 1)) from rfl)
            exact W.widen (by omega) (by omega) (ih4 (b + 1) _ _ _ (by omega) (by omega) hw (lv_sub hl [0, 1, 2, 3] rfl))
          · skip
            have c27 := (fun z => c27 ((lg_cmp_eq _ _).mpr z))
            refine lv_aload_n hx hb dL_fewest_30 rfl (lv_at hl 2 rfl) ?_
            refine lv_iload_n hx hb dL_fewest_31 rfl (lv_at hl 0 rfl) ?_
            refine lv_iconst (v := 1) hx hb dL_fewest_32 (by decide) ?_
            refine lo_callX hF (lx_eq (x_block (Gs := fun _ => Gs 0) hst hG hGo (nI (b)) 1) (show _ = (blJ a.2.1 (nI (b)) 1) from rfl) (show _ = [a] from rfl)) k_block ⟨Nat.le_of_ble_eq_true rfl, Nat.le_of_ble_eq_true rfl⟩ hw [0] (by decide) rfl (hg_one rfl) rfl hl.1 rfl (Nat.le_of_ble_eq_true rfl) dL_fewest_33 ⟨by show _ ≤ (40 : Nat); omega, by show _ ≤ (240 : Nat); omega⟩ (fun H locs hw => ?_)
            have hw : LO D cI cL cZ A s Gs [a] H locs := hw
            refine W.widen (k := 4 * b + 1 + 1 + 1) (n := 6 * (4 * b + 1 + 1 + 1)) (Nat.le_refl _) (by omega) ?_
            refine lv_aload_n hx hb dL_fewest_36 rfl (lv_at hl 2 rfl) ?_
            refine lv_iload_n hx hb dL_fewest_37 rfl (lv_at hl 3 rfl) ?_
            refine lv_iconst (v := 1) hx hb dL_fewest_38 (by decide) ?_
            refine lo_callX hF (lx_eq (x_block (Gs := fun _ => Gs 0) hst hG hGo (nI (v)) 1) (show _ = (blJ a.2.1 (nI (v)) 1) from rfl) (show _ = [a] from rfl)) k_block ⟨Nat.le_of_ble_eq_true rfl, Nat.le_of_ble_eq_true rfl⟩ hw [0] (by decide) rfl (hg_one rfl) rfl hl.1 rfl (Nat.le_of_ble_eq_true rfl) dL_fewest_39 ⟨by show _ ≤ (40 : Nat); omega, by show _ ≤ (240 : Nat); omega⟩ (fun H locs hw => ?_)
            have hw : LO D cI cL cZ A s Gs [a] H locs := hw
            refine W.widen (k := 4 * b + 1 + 1 + 1 + 1) (n := 6 * (4 * b + 1 + 1 + 1 + 1)) (Nat.le_refl _) (by omega) ?_
            refine W.lcmp hx hb dL_fewest_42 ?_
            refine lv_if_lt (tgt := 50) hx hb dL_fewest_43 (by decide) (fun c43 => ?_) (fun c43 => ?_)
            · skip
              have c43 := (lg_cmp_lt _ _).mp c43
              exact absurd c43 (vc_few hGo.2 hv hp c12 c27)
            · skip
              have c43 := (fun z => c43 ((lg_cmp_lt _ _).mpr z))
              refine lv_iconst (v := 1) hx hb dL_fewest_46 (by decide) ?_
              refine lv_goto (tgt := 51) hx hb dL_fewest_47 (by decide) ?_
              refine lv_istore_n (lv' := [(2, .int (1)), (3, .int (nI (b))), (0, .ref ((Gs 0).1 1)), (1, .int (nI (v)))]) hx hb dL_fewest_51 rfl hl (by decide) rfl (fun ls hl => ?_)
              refine lv_iinc (v := nI (b + 1)) (lv' := [(3, .int (nI (b + 1))), (2, .int (1)), (0, .ref ((Gs 0).1 1)), (1, .int (nI (v)))]) hx hb dL_fewest_52 hl (k := 1) rfl (nI_add _ 1) (by decide) rfl (fun ls hl => ?_)
              refine lv_goto (tgt := 4) hx hb dL_fewest_55 (by decide) ?_
              have hl : lv_has ls 4 [(3, .int (nI ((b + 1)))), (2, .int (1)), (0, .ref ((Gs 0).1 1)), (1, .int (nI (v)))] := lv_re hl 0 rfl (show (nI (b + 1)) = nI ((b + 1)) from rfl)
              exact W.widen (by omega) (by omega) (ih4 (b + 1) _ _ _ (by omega) (by omega) hw (lv_sub hl [0, 1, 2, 3] rfl))
  have hl : lv_has ls 4 [(3, .int (nI (0))), (2, .int (1)), (0, .ref ((Gs 0).1 1)), (1, .int (nI (v)))] := lv_re hl 0 rfl (show 0 = nI (0) from rfl)
  exact W.widen (by omega) (by omega) (LP4 ((a.2.1.1.2 - 0) + 1) 0 _ _ _ (by omega) (by omega) hw (lv_sub hl [0, 1, 2, 3] rfl))
theorem dL_kept_0 : decode cL_kept 0 = .ok (.aload_n 0, 1) := by decide +kernel
theorem dL_kept_1 : decode cL_kept 1 = .ok (.iconst 0, 1) := by decide +kernel
theorem dL_kept_2 : decode cL_kept 2 = .ok (.invokestatic 102, 3) := by decide +kernel
theorem dL_kept_5 : decode cL_kept 5 = .ok (.l2i, 1) := by decide +kernel
theorem dL_kept_6 : decode cL_kept 6 = .ok (.istore_n 1, 1) := by decide +kernel
theorem dL_kept_7 : decode cL_kept 7 = .ok (.aload_n 0, 1) := by decide +kernel
theorem dL_kept_8 : decode cL_kept 8 = .ok (.iconst 2, 1) := by decide +kernel
theorem dL_kept_9 : decode cL_kept 9 = .ok (.invokestatic 102, 3) := by decide +kernel
theorem dL_kept_12 : decode cL_kept 12 = .ok (.lconst 0, 1) := by decide +kernel
theorem dL_kept_13 : decode cL_kept 13 = .ok (.lcmp, 1) := by decide +kernel
theorem dL_kept_14 : decode cL_kept 14 = .ok (.ifCond .ne 7, 3) := by decide +kernel
theorem dL_kept_17 : decode cL_kept 17 = .ok (.iconst 1, 1) := by decide +kernel
theorem dL_kept_18 : decode cL_kept 18 = .ok (.goto 4, 3) := by decide +kernel
theorem dL_kept_21 : decode cL_kept 21 = .ok (.iconst 0, 1) := by decide +kernel
theorem dL_kept_22 : decode cL_kept 22 = .ok (.istore_n 2, 1) := by decide +kernel
theorem dL_kept_23 : decode cL_kept 23 = .ok (.iconst 1, 1) := by decide +kernel
theorem dL_kept_24 : decode cL_kept 24 = .ok (.istore_n 3, 1) := by decide +kernel
theorem dL_kept_25 : decode cL_kept 25 = .ok (.iconst 0, 1) := by decide +kernel
theorem dL_kept_26 : decode cL_kept 26 = .ok (.istore 4, 2) := by decide +kernel
theorem dL_kept_28 : decode cL_kept 28 = .ok (.iconst 0, 1) := by decide +kernel
theorem dL_kept_29 : decode cL_kept 29 = .ok (.istore 5, 2) := by decide +kernel
theorem dL_kept_31 : decode cL_kept 31 = .ok (.iload 5, 2) := by decide +kernel
theorem dL_kept_33 : decode cL_kept 33 = .ok (.iload_n 1, 1) := by decide +kernel
theorem dL_kept_34 : decode cL_kept 34 = .ok (.if_icmp .ge 526, 3) := by decide +kernel
theorem dL_kept_37 : decode cL_kept 37 = .ok (.iload_n 3, 1) := by decide +kernel
theorem dL_kept_38 : decode cL_kept 38 = .ok (.ifCond .eq 522, 3) := by decide +kernel
theorem dL_kept_41 : decode cL_kept 41 = .ok (.iconst 0, 1) := by decide +kernel
theorem dL_kept_42 : decode cL_kept 42 = .ok (.istore 6, 2) := by decide +kernel
theorem dL_kept_44 : decode cL_kept 44 = .ok (.iconst 0, 1) := by decide +kernel
theorem dL_kept_45 : decode cL_kept 45 = .ok (.istore 7, 2) := by decide +kernel
theorem dL_kept_47 : decode cL_kept 47 = .ok (.iconst 0, 1) := by decide +kernel
theorem dL_kept_48 : decode cL_kept 48 = .ok (.istore 8, 2) := by decide +kernel
theorem dL_kept_50 : decode cL_kept 50 = .ok (.iconst 4, 1) := by decide +kernel
theorem dL_kept_51 : decode cL_kept 51 = .ok (.iload 5, 2) := by decide +kernel
theorem dL_kept_53 : decode cL_kept 53 = .ok (.imul, 1) := by decide +kernel
theorem dL_kept_54 : decode cL_kept 54 = .ok (.istore 9, 2) := by decide +kernel
theorem dL_kept_56 : decode cL_kept 56 = .ok (.iload 9, 2) := by decide +kernel
theorem dL_kept_58 : decode cL_kept 58 = .ok (.iconst 4, 1) := by decide +kernel
theorem dL_kept_59 : decode cL_kept 59 = .ok (.iload 5, 2) := by decide +kernel
theorem dL_kept_61 : decode cL_kept 61 = .ok (.imul, 1) := by decide +kernel
theorem dL_kept_62 : decode cL_kept 62 = .ok (.iconst 4, 1) := by decide +kernel
theorem dL_kept_63 : decode cL_kept 63 = .ok (.iadd, 1) := by decide +kernel
theorem dL_kept_64 : decode cL_kept 64 = .ok (.if_icmp .ge 324, 3) := by decide +kernel
theorem dL_kept_67 : decode cL_kept 67 = .ok (.iload_n 3, 1) := by decide +kernel
theorem dL_kept_68 : decode cL_kept 68 = .ok (.ifCond .eq 320, 3) := by decide +kernel
theorem dL_kept_71 : decode cL_kept 71 = .ok (.aload_n 0, 1) := by decide +kernel
theorem dL_kept_72 : decode cL_kept 72 = .ok (.iload 9, 2) := by decide +kernel
theorem dL_kept_74 : decode cL_kept 74 = .ok (.iconst 0, 1) := by decide +kernel
theorem dL_kept_75 : decode cL_kept 75 = .ok (.invokestatic 112, 3) := by decide +kernel
theorem dL_kept_78 : decode cL_kept 78 = .ok (.lstore 10, 2) := by decide +kernel
theorem dL_kept_80 : decode cL_kept 80 = .ok (.aload_n 0, 1) := by decide +kernel
theorem dL_kept_81 : decode cL_kept 81 = .ok (.iload 9, 2) := by decide +kernel
theorem dL_kept_83 : decode cL_kept 83 = .ok (.iconst 3, 1) := by decide +kernel
theorem dL_kept_84 : decode cL_kept 84 = .ok (.invokestatic 112, 3) := by decide +kernel
theorem dL_kept_87 : decode cL_kept 87 = .ok (.lstore 12, 2) := by decide +kernel
theorem dL_kept_89 : decode cL_kept 89 = .ok (.lload 10, 2) := by decide +kernel
theorem dL_kept_91 : decode cL_kept 91 = .ok (.lconst 0, 1) := by decide +kernel
theorem dL_kept_92 : decode cL_kept 92 = .ok (.ldc2_w 172, 3) := by decide +kernel
theorem dL_kept_95 : decode cL_kept 95 = .ok (.invokestatic 174, 3) := by decide +kernel
theorem dL_kept_98 : decode cL_kept 98 = .ok (.ifCond .eq 123, 3) := by decide +kernel
theorem dL_kept_101 : decode cL_kept 101 = .ok (.lload 10, 2) := by decide +kernel
theorem dL_kept_103 : decode cL_kept 103 = .ok (.lconst 1, 1) := by decide +kernel
theorem dL_kept_104 : decode cL_kept 104 = .ok (.lcmp, 1) := by decide +kernel
theorem dL_kept_105 : decode cL_kept 105 = .ok (.ifCond .ne 61, 3) := by decide +kernel
theorem dL_kept_108 : decode cL_kept 108 = .ok (.lload 12, 2) := by decide +kernel
theorem dL_kept_110 : decode cL_kept 110 = .ok (.lconst 0, 1) := by decide +kernel
theorem dL_kept_111 : decode cL_kept 111 = .ok (.lcmp, 1) := by decide +kernel
theorem dL_kept_112 : decode cL_kept 112 = .ok (.ifCond .le 109, 3) := by decide +kernel
theorem dL_kept_115 : decode cL_kept 115 = .ok (.aload_n 0, 1) := by decide +kernel
theorem dL_kept_116 : decode cL_kept 116 = .ok (.iload 9, 2) := by decide +kernel
theorem dL_kept_118 : decode cL_kept 118 = .ok (.iconst 1, 1) := by decide +kernel
theorem dL_kept_119 : decode cL_kept 119 = .ok (.invokestatic 112, 3) := by decide +kernel
theorem dL_kept_122 : decode cL_kept 122 = .ok (.lconst 0, 1) := by decide +kernel
theorem dL_kept_123 : decode cL_kept 123 = .ok (.ldc2_w 178, 3) := by decide +kernel
theorem dL_kept_126 : decode cL_kept 126 = .ok (.invokestatic 174, 3) := by decide +kernel
theorem dL_kept_129 : decode cL_kept 129 = .ok (.ifCond .eq 92, 3) := by decide +kernel
theorem dL_kept_132 : decode cL_kept 132 = .ok (.aload_n 0, 1) := by decide +kernel
theorem dL_kept_133 : decode cL_kept 133 = .ok (.iload 9, 2) := by decide +kernel
theorem dL_kept_135 : decode cL_kept 135 = .ok (.iconst 2, 1) := by decide +kernel
theorem dL_kept_136 : decode cL_kept 136 = .ok (.invokestatic 112, 3) := by decide +kernel
theorem dL_kept_139 : decode cL_kept 139 = .ok (.ldc2_w 142, 3) := by decide +kernel
theorem dL_kept_142 : decode cL_kept 142 = .ok (.lcmp, 1) := by decide +kernel
theorem dL_kept_143 : decode cL_kept 143 = .ok (.ifCond .eq 74, 3) := by decide +kernel
theorem dL_kept_146 : decode cL_kept 146 = .ok (.aload_n 0, 1) := by decide +kernel
theorem dL_kept_147 : decode cL_kept 147 = .ok (.iload 9, 2) := by decide +kernel
theorem dL_kept_149 : decode cL_kept 149 = .ok (.iconst 2, 1) := by decide +kernel
theorem dL_kept_150 : decode cL_kept 150 = .ok (.invokestatic 112, 3) := by decide +kernel
theorem dL_kept_153 : decode cL_kept 153 = .ok (.lconst 0, 1) := by decide +kernel
theorem dL_kept_154 : decode cL_kept 154 = .ok (.ldc2_w 180, 3) := by decide +kernel
theorem dL_kept_157 : decode cL_kept 157 = .ok (.invokestatic 174, 3) := by decide +kernel
theorem dL_kept_160 : decode cL_kept 160 = .ok (.ifCond .eq 61, 3) := by decide +kernel
theorem dL_kept_163 : decode cL_kept 163 = .ok (.goto 54, 3) := by decide +kernel
theorem dL_kept_166 : decode cL_kept 166 = .ok (.lload 12, 2) := by decide +kernel
theorem dL_kept_168 : decode cL_kept 168 = .ok (.ldc2_w 142, 3) := by decide +kernel
theorem dL_kept_171 : decode cL_kept 171 = .ok (.lcmp, 1) := by decide +kernel
theorem dL_kept_172 : decode cL_kept 172 = .ok (.ifCond .ne 49, 3) := by decide +kernel
theorem dL_kept_175 : decode cL_kept 175 = .ok (.aload_n 0, 1) := by decide +kernel
theorem dL_kept_176 : decode cL_kept 176 = .ok (.iload 9, 2) := by decide +kernel
theorem dL_kept_178 : decode cL_kept 178 = .ok (.iconst 1, 1) := by decide +kernel
theorem dL_kept_179 : decode cL_kept 179 = .ok (.invokestatic 112, 3) := by decide +kernel
theorem dL_kept_182 : decode cL_kept 182 = .ok (.ldc2_w 142, 3) := by decide +kernel
theorem dL_kept_185 : decode cL_kept 185 = .ok (.lcmp, 1) := by decide +kernel
theorem dL_kept_186 : decode cL_kept 186 = .ok (.ifCond .ne 35, 3) := by decide +kernel
theorem dL_kept_189 : decode cL_kept 189 = .ok (.aload_n 0, 1) := by decide +kernel
theorem dL_kept_190 : decode cL_kept 190 = .ok (.iload 9, 2) := by decide +kernel
theorem dL_kept_192 : decode cL_kept 192 = .ok (.iconst 2, 1) := by decide +kernel
theorem dL_kept_193 : decode cL_kept 193 = .ok (.invokestatic 112, 3) := by decide +kernel
theorem dL_kept_196 : decode cL_kept 196 = .ok (.ldc2_w 142, 3) := by decide +kernel
theorem dL_kept_199 : decode cL_kept 199 = .ok (.lcmp, 1) := by decide +kernel
theorem dL_kept_200 : decode cL_kept 200 = .ok (.ifCond .ne 21, 3) := by decide +kernel
theorem dL_kept_203 : decode cL_kept 203 = .ok (.aload_n 0, 1) := by decide +kernel
theorem dL_kept_204 : decode cL_kept 204 = .ok (.iload 9, 2) := by decide +kernel
theorem dL_kept_206 : decode cL_kept 206 = .ok (.iconst 4, 1) := by decide +kernel
theorem dL_kept_207 : decode cL_kept 207 = .ok (.invokestatic 112, 3) := by decide +kernel
theorem dL_kept_210 : decode cL_kept 210 = .ok (.ldc2_w 142, 3) := by decide +kernel
theorem dL_kept_213 : decode cL_kept 213 = .ok (.lcmp, 1) := by decide +kernel
theorem dL_kept_214 : decode cL_kept 214 = .ok (.ifCond .ne 7, 3) := by decide +kernel
theorem dL_kept_217 : decode cL_kept 217 = .ok (.iconst 1, 1) := by decide +kernel
theorem dL_kept_218 : decode cL_kept 218 = .ok (.goto 4, 3) := by decide +kernel
theorem dL_kept_222 : decode cL_kept 222 = .ok (.istore_n 3, 1) := by decide +kernel
theorem dL_kept_223 : decode cL_kept 223 = .ok (.iconst 0, 1) := by decide +kernel
theorem dL_kept_224 : decode cL_kept 224 = .ok (.istore 14, 2) := by decide +kernel
theorem dL_kept_226 : decode cL_kept 226 = .ok (.iload 14, 2) := by decide +kernel
theorem dL_kept_228 : decode cL_kept 228 = .ok (.iload 9, 2) := by decide +kernel
theorem dL_kept_230 : decode cL_kept 230 = .ok (.if_icmp .ge 39, 3) := by decide +kernel
theorem dL_kept_233 : decode cL_kept 233 = .ok (.iload_n 3, 1) := by decide +kernel
theorem dL_kept_234 : decode cL_kept 234 = .ok (.ifCond .eq 35, 3) := by decide +kernel
theorem dL_kept_237 : decode cL_kept 237 = .ok (.lload 10, 2) := by decide +kernel
theorem dL_kept_239 : decode cL_kept 239 = .ok (.lconst 1, 1) := by decide +kernel
theorem dL_kept_240 : decode cL_kept 240 = .ok (.lcmp, 1) := by decide +kernel
theorem dL_kept_241 : decode cL_kept 241 = .ok (.ifCond .ne 16, 3) := by decide +kernel
theorem dL_kept_244 : decode cL_kept 244 = .ok (.aload_n 0, 1) := by decide +kernel
theorem dL_kept_245 : decode cL_kept 245 = .ok (.iload 14, 2) := by decide +kernel
theorem dL_kept_247 : decode cL_kept 247 = .ok (.iconst 3, 1) := by decide +kernel
theorem dL_kept_248 : decode cL_kept 248 = .ok (.invokestatic 112, 3) := by decide +kernel
theorem dL_kept_251 : decode cL_kept 251 = .ok (.lload 12, 2) := by decide +kernel
theorem dL_kept_253 : decode cL_kept 253 = .ok (.lcmp, 1) := by decide +kernel
theorem dL_kept_254 : decode cL_kept 254 = .ok (.ifCond .eq 7, 3) := by decide +kernel
theorem dL_kept_257 : decode cL_kept 257 = .ok (.iconst 1, 1) := by decide +kernel
theorem dL_kept_258 : decode cL_kept 258 = .ok (.goto 4, 3) := by decide +kernel
theorem dL_kept_262 : decode cL_kept 262 = .ok (.istore_n 3, 1) := by decide +kernel
theorem dL_kept_263 : decode cL_kept 263 = .ok (.iinc 14 1, 3) := by decide +kernel
theorem dL_kept_266 : decode cL_kept 266 = .ok (.goto (-40), 3) := by decide +kernel
theorem dL_kept_269 : decode cL_kept 269 = .ok (.iload 6, 2) := by decide +kernel
theorem dL_kept_271 : decode cL_kept 271 = .ok (.lload 10, 2) := by decide +kernel
theorem dL_kept_273 : decode cL_kept 273 = .ok (.lconst 1, 1) := by decide +kernel
theorem dL_kept_274 : decode cL_kept 274 = .ok (.lcmp, 1) := by decide +kernel
theorem dL_kept_275 : decode cL_kept 275 = .ok (.ifCond .ne 19, 3) := by decide +kernel
theorem dL_kept_278 : decode cL_kept 278 = .ok (.aload_n 0, 1) := by decide +kernel
theorem dL_kept_279 : decode cL_kept 279 = .ok (.iload 9, 2) := by decide +kernel
theorem dL_kept_281 : decode cL_kept 281 = .ok (.iconst 4, 1) := by decide +kernel
theorem dL_kept_282 : decode cL_kept 282 = .ok (.invokestatic 112, 3) := by decide +kernel
theorem dL_kept_285 : decode cL_kept 285 = .ok (.lconst 1, 1) := by decide +kernel
theorem dL_kept_286 : decode cL_kept 286 = .ok (.lcmp, 1) := by decide +kernel
theorem dL_kept_287 : decode cL_kept 287 = .ok (.ifCond .ne 7, 3) := by decide +kernel
theorem dL_kept_290 : decode cL_kept 290 = .ok (.iconst 1, 1) := by decide +kernel
theorem dL_kept_291 : decode cL_kept 291 = .ok (.goto 4, 3) := by decide +kernel
theorem dL_kept_294 : decode cL_kept 294 = .ok (.iconst 0, 1) := by decide +kernel
theorem dL_kept_295 : decode cL_kept 295 = .ok (.iadd, 1) := by decide +kernel
theorem dL_kept_296 : decode cL_kept 296 = .ok (.istore 6, 2) := by decide +kernel
theorem dL_kept_298 : decode cL_kept 298 = .ok (.iload 7, 2) := by decide +kernel
theorem dL_kept_300 : decode cL_kept 300 = .ok (.lload 10, 2) := by decide +kernel
theorem dL_kept_302 : decode cL_kept 302 = .ok (.lconst 0, 1) := by decide +kernel
theorem dL_kept_303 : decode cL_kept 303 = .ok (.lcmp, 1) := by decide +kernel
theorem dL_kept_304 : decode cL_kept 304 = .ok (.ifCond .ne 7, 3) := by decide +kernel
theorem dL_kept_307 : decode cL_kept 307 = .ok (.iconst 1, 1) := by decide +kernel
theorem dL_kept_308 : decode cL_kept 308 = .ok (.goto 4, 3) := by decide +kernel
theorem dL_kept_311 : decode cL_kept 311 = .ok (.iconst 0, 1) := by decide +kernel
theorem dL_kept_312 : decode cL_kept 312 = .ok (.iadd, 1) := by decide +kernel
theorem dL_kept_313 : decode cL_kept 313 = .ok (.istore 7, 2) := by decide +kernel
theorem dL_kept_315 : decode cL_kept 315 = .ok (.iload 8, 2) := by decide +kernel
theorem dL_kept_317 : decode cL_kept 317 = .ok (.lload 10, 2) := by decide +kernel
theorem dL_kept_319 : decode cL_kept 319 = .ok (.ldc2_w 172, 3) := by decide +kernel
theorem dL_kept_322 : decode cL_kept 322 = .ok (.lcmp, 1) := by decide +kernel
theorem dL_kept_323 : decode cL_kept 323 = .ok (.ifCond .ne 7, 3) := by decide +kernel
theorem dL_kept_326 : decode cL_kept 326 = .ok (.iconst 1, 1) := by decide +kernel
theorem dL_kept_327 : decode cL_kept 327 = .ok (.goto 4, 3) := by decide +kernel
theorem dL_kept_330 : decode cL_kept 330 = .ok (.iconst 0, 1) := by decide +kernel
theorem dL_kept_331 : decode cL_kept 331 = .ok (.iadd, 1) := by decide +kernel
theorem dL_kept_332 : decode cL_kept 332 = .ok (.istore 8, 2) := by decide +kernel
theorem dL_kept_334 : decode cL_kept 334 = .ok (.iload_n 3, 1) := by decide +kernel
theorem dL_kept_335 : decode cL_kept 335 = .ok (.ifCond .eq 45, 3) := by decide +kernel
theorem dL_kept_338 : decode cL_kept 338 = .ok (.lload 10, 2) := by decide +kernel
theorem dL_kept_340 : decode cL_kept 340 = .ok (.lconst 1, 1) := by decide +kernel
theorem dL_kept_341 : decode cL_kept 341 = .ok (.lcmp, 1) := by decide +kernel
theorem dL_kept_342 : decode cL_kept 342 = .ok (.ifCond .ne 34, 3) := by decide +kernel
theorem dL_kept_345 : decode cL_kept 345 = .ok (.aload_n 0, 1) := by decide +kernel
theorem dL_kept_346 : decode cL_kept 346 = .ok (.iload 9, 2) := by decide +kernel
theorem dL_kept_348 : decode cL_kept 348 = .ok (.iconst 4, 1) := by decide +kernel
theorem dL_kept_349 : decode cL_kept 349 = .ok (.invokestatic 112, 3) := by decide +kernel
theorem dL_kept_352 : decode cL_kept 352 = .ok (.lconst 0, 1) := by decide +kernel
theorem dL_kept_353 : decode cL_kept 353 = .ok (.lcmp, 1) := by decide +kernel
theorem dL_kept_354 : decode cL_kept 354 = .ok (.ifCond .eq 22, 3) := by decide +kernel
theorem dL_kept_357 : decode cL_kept 357 = .ok (.aload_n 0, 1) := by decide +kernel
theorem dL_kept_358 : decode cL_kept 358 = .ok (.aload_n 0, 1) := by decide +kernel
theorem dL_kept_359 : decode cL_kept 359 = .ok (.iload 9, 2) := by decide +kernel
theorem dL_kept_361 : decode cL_kept 361 = .ok (.iconst 1, 1) := by decide +kernel
theorem dL_kept_362 : decode cL_kept 362 = .ok (.invokestatic 112, 3) := by decide +kernel
theorem dL_kept_365 : decode cL_kept 365 = .ok (.l2i, 1) := by decide +kernel
theorem dL_kept_366 : decode cL_kept 366 = .ok (.invokestatic 131, 3) := by decide +kernel
theorem dL_kept_369 : decode cL_kept 369 = .ok (.iload 9, 2) := by decide +kernel
theorem dL_kept_371 : decode cL_kept 371 = .ok (.i2l, 1) := by decide +kernel
theorem dL_kept_372 : decode cL_kept 372 = .ok (.lcmp, 1) := by decide +kernel
theorem dL_kept_373 : decode cL_kept 373 = .ok (.ifCond .ne 7, 3) := by decide +kernel
theorem dL_kept_376 : decode cL_kept 376 = .ok (.iconst 1, 1) := by decide +kernel
theorem dL_kept_377 : decode cL_kept 377 = .ok (.goto 4, 3) := by decide +kernel
theorem dL_kept_381 : decode cL_kept 381 = .ok (.istore_n 3, 1) := by decide +kernel
theorem dL_kept_382 : decode cL_kept 382 = .ok (.iinc 9 1, 3) := by decide +kernel
theorem dL_kept_385 : decode cL_kept 385 = .ok (.goto (-329), 3) := by decide +kernel
theorem dL_kept_388 : decode cL_kept 388 = .ok (.iload 4, 2) := by decide +kernel
theorem dL_kept_390 : decode cL_kept 390 = .ok (.iload 7, 2) := by decide +kernel
theorem dL_kept_392 : decode cL_kept 392 = .ok (.iconst 4, 1) := by decide +kernel
theorem dL_kept_393 : decode cL_kept 393 = .ok (.if_icmp .ne 19, 3) := by decide +kernel
theorem dL_kept_396 : decode cL_kept 396 = .ok (.aload_n 0, 1) := by decide +kernel
theorem dL_kept_397 : decode cL_kept 397 = .ok (.iconst 3, 1) := by decide +kernel
theorem dL_kept_398 : decode cL_kept 398 = .ok (.invokestatic 102, 3) := by decide +kernel
theorem dL_kept_401 : decode cL_kept 401 = .ok (.iload 5, 2) := by decide +kernel
theorem dL_kept_403 : decode cL_kept 403 = .ok (.i2l, 1) := by decide +kernel
theorem dL_kept_404 : decode cL_kept 404 = .ok (.lcmp, 1) := by decide +kernel
theorem dL_kept_405 : decode cL_kept 405 = .ok (.ifCond .eq 7, 3) := by decide +kernel
theorem dL_kept_408 : decode cL_kept 408 = .ok (.iconst 1, 1) := by decide +kernel
theorem dL_kept_409 : decode cL_kept 409 = .ok (.goto 4, 3) := by decide +kernel
theorem dL_kept_412 : decode cL_kept 412 = .ok (.iconst 0, 1) := by decide +kernel
theorem dL_kept_413 : decode cL_kept 413 = .ok (.iadd, 1) := by decide +kernel
theorem dL_kept_414 : decode cL_kept 414 = .ok (.istore 4, 2) := by decide +kernel
theorem dL_kept_416 : decode cL_kept 416 = .ok (.aload_n 0, 1) := by decide +kernel
theorem dL_kept_417 : decode cL_kept 417 = .ok (.iload 5, 2) := by decide +kernel
theorem dL_kept_419 : decode cL_kept 419 = .ok (.iconst 0, 1) := by decide +kernel
theorem dL_kept_420 : decode cL_kept 420 = .ok (.invokestatic 107, 3) := by decide +kernel
theorem dL_kept_423 : decode cL_kept 423 = .ok (.aload_n 0, 1) := by decide +kernel
theorem dL_kept_424 : decode cL_kept 424 = .ok (.iconst 1, 1) := by decide +kernel
theorem dL_kept_425 : decode cL_kept 425 = .ok (.invokestatic 102, 3) := by decide +kernel
theorem dL_kept_428 : decode cL_kept 428 = .ok (.lcmp, 1) := by decide +kernel
theorem dL_kept_429 : decode cL_kept 429 = .ok (.ifCond .lt 7, 3) := by decide +kernel
theorem dL_kept_432 : decode cL_kept 432 = .ok (.iconst 1, 1) := by decide +kernel
theorem dL_kept_433 : decode cL_kept 433 = .ok (.goto 4, 3) := by decide +kernel
theorem dL_kept_436 : decode cL_kept 436 = .ok (.iconst 0, 1) := by decide +kernel
theorem dL_kept_437 : decode cL_kept 437 = .ok (.istore 9, 2) := by decide +kernel
theorem dL_kept_439 : decode cL_kept 439 = .ok (.iload_n 3, 1) := by decide +kernel
theorem dL_kept_440 : decode cL_kept 440 = .ok (.ifCond .eq 112, 3) := by decide +kernel
theorem dL_kept_443 : decode cL_kept 443 = .ok (.aload_n 0, 1) := by decide +kernel
theorem dL_kept_444 : decode cL_kept 444 = .ok (.iload 5, 2) := by decide +kernel
theorem dL_kept_446 : decode cL_kept 446 = .ok (.iconst 1, 1) := by decide +kernel
theorem dL_kept_447 : decode cL_kept 447 = .ok (.invokestatic 107, 3) := by decide +kernel
theorem dL_kept_450 : decode cL_kept 450 = .ok (.iload 6, 2) := by decide +kernel
theorem dL_kept_452 : decode cL_kept 452 = .ok (.i2l, 1) := by decide +kernel
theorem dL_kept_453 : decode cL_kept 453 = .ok (.lcmp, 1) := by decide +kernel
theorem dL_kept_454 : decode cL_kept 454 = .ok (.ifCond .ne 98, 3) := by decide +kernel
theorem dL_kept_457 : decode cL_kept 457 = .ok (.aload_n 0, 1) := by decide +kernel
theorem dL_kept_458 : decode cL_kept 458 = .ok (.iload 5, 2) := by decide +kernel
theorem dL_kept_460 : decode cL_kept 460 = .ok (.iconst 2, 1) := by decide +kernel
theorem dL_kept_461 : decode cL_kept 461 = .ok (.invokestatic 107, 3) := by decide +kernel
theorem dL_kept_464 : decode cL_kept 464 = .ok (.iload 7, 2) := by decide +kernel
theorem dL_kept_466 : decode cL_kept 466 = .ok (.i2l, 1) := by decide +kernel
theorem dL_kept_467 : decode cL_kept 467 = .ok (.lcmp, 1) := by decide +kernel
theorem dL_kept_468 : decode cL_kept 468 = .ok (.ifCond .ne 84, 3) := by decide +kernel
theorem dL_kept_471 : decode cL_kept 471 = .ok (.aload_n 0, 1) := by decide +kernel
theorem dL_kept_472 : decode cL_kept 472 = .ok (.iload 5, 2) := by decide +kernel
theorem dL_kept_474 : decode cL_kept 474 = .ok (.iconst 3, 1) := by decide +kernel
theorem dL_kept_475 : decode cL_kept 475 = .ok (.invokestatic 107, 3) := by decide +kernel
theorem dL_kept_478 : decode cL_kept 478 = .ok (.iload 8, 2) := by decide +kernel
theorem dL_kept_480 : decode cL_kept 480 = .ok (.i2l, 1) := by decide +kernel
theorem dL_kept_481 : decode cL_kept 481 = .ok (.lcmp, 1) := by decide +kernel
theorem dL_kept_482 : decode cL_kept 482 = .ok (.ifCond .ne 70, 3) := by decide +kernel
theorem dL_kept_485 : decode cL_kept 485 = .ok (.aload_n 0, 1) := by decide +kernel
theorem dL_kept_486 : decode cL_kept 486 = .ok (.iload 5, 2) := by decide +kernel
theorem dL_kept_488 : decode cL_kept 488 = .ok (.iconst 4, 1) := by decide +kernel
theorem dL_kept_489 : decode cL_kept 489 = .ok (.invokestatic 107, 3) := by decide +kernel
theorem dL_kept_492 : decode cL_kept 492 = .ok (.iload 9, 2) := by decide +kernel
theorem dL_kept_494 : decode cL_kept 494 = .ok (.ifCond .eq 7, 3) := by decide +kernel
theorem dL_kept_497 : decode cL_kept 497 = .ok (.lconst 1, 1) := by decide +kernel
theorem dL_kept_498 : decode cL_kept 498 = .ok (.goto 4, 3) := by decide +kernel
theorem dL_kept_501 : decode cL_kept 501 = .ok (.lconst 0, 1) := by decide +kernel
theorem dL_kept_502 : decode cL_kept 502 = .ok (.lcmp, 1) := by decide +kernel
theorem dL_kept_503 : decode cL_kept 503 = .ok (.ifCond .ne 49, 3) := by decide +kernel
theorem dL_kept_506 : decode cL_kept 506 = .ok (.aload_n 0, 1) := by decide +kernel
theorem dL_kept_507 : decode cL_kept 507 = .ok (.iload 5, 2) := by decide +kernel
theorem dL_kept_509 : decode cL_kept 509 = .ok (.iconst 5, 1) := by decide +kernel
theorem dL_kept_510 : decode cL_kept 510 = .ok (.invokestatic 107, 3) := by decide +kernel
theorem dL_kept_513 : decode cL_kept 513 = .ok (.lconst 0, 1) := by decide +kernel
theorem dL_kept_514 : decode cL_kept 514 = .ok (.lcmp, 1) := by decide +kernel
theorem dL_kept_515 : decode cL_kept 515 = .ok (.ifCond .eq 33, 3) := by decide +kernel
theorem dL_kept_518 : decode cL_kept 518 = .ok (.iload_n 2, 1) := by decide +kernel
theorem dL_kept_519 : decode cL_kept 519 = .ok (.ifCond .ne 33, 3) := by decide +kernel
theorem dL_kept_522 : decode cL_kept 522 = .ok (.iload 9, 2) := by decide +kernel
theorem dL_kept_524 : decode cL_kept 524 = .ok (.ifCond .ne 28, 3) := by decide +kernel
theorem dL_kept_527 : decode cL_kept 527 = .ok (.aload_n 0, 1) := by decide +kernel
theorem dL_kept_528 : decode cL_kept 528 = .ok (.iconst 3, 1) := by decide +kernel
theorem dL_kept_529 : decode cL_kept 529 = .ok (.invokestatic 102, 3) := by decide +kernel
theorem dL_kept_532 : decode cL_kept 532 = .ok (.iload 5, 2) := by decide +kernel
theorem dL_kept_534 : decode cL_kept 534 = .ok (.i2l, 1) := by decide +kernel
theorem dL_kept_535 : decode cL_kept 535 = .ok (.lcmp, 1) := by decide +kernel
theorem dL_kept_536 : decode cL_kept 536 = .ok (.ifCond .eq 16, 3) := by decide +kernel
theorem dL_kept_539 : decode cL_kept 539 = .ok (.iload 6, 2) := by decide +kernel
theorem dL_kept_541 : decode cL_kept 541 = .ok (.iload 7, 2) := by decide +kernel
theorem dL_kept_543 : decode cL_kept 543 = .ok (.iadd, 1) := by decide +kernel
theorem dL_kept_544 : decode cL_kept 544 = .ok (.iconst 4, 1) := by decide +kernel
theorem dL_kept_545 : decode cL_kept 545 = .ok (.if_icmp .ge 7, 3) := by decide +kernel
theorem dL_kept_548 : decode cL_kept 548 = .ok (.iconst 1, 1) := by decide +kernel
theorem dL_kept_549 : decode cL_kept 549 = .ok (.goto 4, 3) := by decide +kernel
theorem dL_kept_553 : decode cL_kept 553 = .ok (.istore_n 3, 1) := by decide +kernel
theorem dL_kept_554 : decode cL_kept 554 = .ok (.iinc 5 1, 3) := by decide +kernel
theorem dL_kept_557 : decode cL_kept 557 = .ok (.goto (-526), 3) := by decide +kernel
theorem dL_kept_560 : decode cL_kept 560 = .ok (.iconst 0, 1) := by decide +kernel
theorem dL_kept_561 : decode cL_kept 561 = .ok (.istore 5, 2) := by decide +kernel
theorem dL_kept_563 : decode cL_kept 563 = .ok (.iconst 0, 1) := by decide +kernel
theorem dL_kept_564 : decode cL_kept 564 = .ok (.istore 6, 2) := by decide +kernel
theorem dL_kept_566 : decode cL_kept 566 = .ok (.iload 6, 2) := by decide +kernel
theorem dL_kept_568 : decode cL_kept 568 = .ok (.bipush 16, 2) := by decide +kernel
theorem dL_kept_570 : decode cL_kept 570 = .ok (.if_icmp .ge 231, 3) := by decide +kernel
theorem dL_kept_573 : decode cL_kept 573 = .ok (.iload_n 3, 1) := by decide +kernel
theorem dL_kept_574 : decode cL_kept 574 = .ok (.ifCond .eq 227, 3) := by decide +kernel
theorem dL_kept_577 : decode cL_kept 577 = .ok (.aload_n 0, 1) := by decide +kernel
theorem dL_kept_578 : decode cL_kept 578 = .ok (.iload 6, 2) := by decide +kernel
theorem dL_kept_580 : decode cL_kept 580 = .ok (.invokestatic 131, 3) := by decide +kernel
theorem dL_kept_583 : decode cL_kept 583 = .ok (.l2i, 1) := by decide +kernel
theorem dL_kept_584 : decode cL_kept 584 = .ok (.istore 7, 2) := by decide +kernel
theorem dL_kept_586 : decode cL_kept 586 = .ok (.iload 7, 2) := by decide +kernel
theorem dL_kept_588 : decode cL_kept 588 = .ok (.bipush (-9), 2) := by decide +kernel
theorem dL_kept_590 : decode cL_kept 590 = .ok (.if_icmp .ne 9, 3) := by decide +kernel
theorem dL_kept_593 : decode cL_kept 593 = .ok (.ldc2_w 142, 3) := by decide +kernel
theorem dL_kept_596 : decode cL_kept 596 = .ok (.goto 10, 3) := by decide +kernel
theorem dL_kept_599 : decode cL_kept 599 = .ok (.aload_n 0, 1) := by decide +kernel
theorem dL_kept_600 : decode cL_kept 600 = .ok (.iload 7, 2) := by decide +kernel
theorem dL_kept_602 : decode cL_kept 602 = .ok (.iconst 2, 1) := by decide +kernel
theorem dL_kept_603 : decode cL_kept 603 = .ok (.invokestatic 112, 3) := by decide +kernel
theorem dL_kept_606 : decode cL_kept 606 = .ok (.lstore 8, 2) := by decide +kernel
theorem dL_kept_608 : decode cL_kept 608 = .ok (.iload 7, 2) := by decide +kernel
theorem dL_kept_610 : decode cL_kept 610 = .ok (.bipush (-9), 2) := by decide +kernel
theorem dL_kept_612 : decode cL_kept 612 = .ok (.if_icmp .eq 17, 3) := by decide +kernel
theorem dL_kept_615 : decode cL_kept 615 = .ok (.aload_n 0, 1) := by decide +kernel
theorem dL_kept_616 : decode cL_kept 616 = .ok (.iload 7, 2) := by decide +kernel
theorem dL_kept_618 : decode cL_kept 618 = .ok (.iconst 1, 1) := by decide +kernel
theorem dL_kept_619 : decode cL_kept 619 = .ok (.invokestatic 112, 3) := by decide +kernel
theorem dL_kept_622 : decode cL_kept 622 = .ok (.iload 6, 2) := by decide +kernel
theorem dL_kept_624 : decode cL_kept 624 = .ok (.i2l, 1) := by decide +kernel
theorem dL_kept_625 : decode cL_kept 625 = .ok (.lcmp, 1) := by decide +kernel
theorem dL_kept_626 : decode cL_kept 626 = .ok (.ifCond .ne 29, 3) := by decide +kernel
theorem dL_kept_629 : decode cL_kept 629 = .ok (.aload_n 0, 1) := by decide +kernel
theorem dL_kept_630 : decode cL_kept 630 = .ok (.iload 6, 2) := by decide +kernel
theorem dL_kept_632 : decode cL_kept 632 = .ok (.invokestatic 127, 3) := by decide +kernel
theorem dL_kept_635 : decode cL_kept 635 = .ok (.iload_n 2, 1) := by decide +kernel
theorem dL_kept_636 : decode cL_kept 636 = .ok (.ifCond .eq 9, 3) := by decide +kernel
theorem dL_kept_639 : decode cL_kept 639 = .ok (.ldc2_w 21, 3) := by decide +kernel
theorem dL_kept_642 : decode cL_kept 642 = .ok (.goto 5, 3) := by decide +kernel
theorem dL_kept_645 : decode cL_kept 645 = .ok (.lload 8, 2) := by decide +kernel
theorem dL_kept_647 : decode cL_kept 647 = .ok (.lcmp, 1) := by decide +kernel
theorem dL_kept_648 : decode cL_kept 648 = .ok (.ifCond .ne 7, 3) := by decide +kernel
theorem dL_kept_651 : decode cL_kept 651 = .ok (.iconst 1, 1) := by decide +kernel
theorem dL_kept_652 : decode cL_kept 652 = .ok (.goto 4, 3) := by decide +kernel
theorem dL_kept_656 : decode cL_kept 656 = .ok (.istore_n 3, 1) := by decide +kernel
theorem dL_kept_657 : decode cL_kept 657 = .ok (.iconst 0, 1) := by decide +kernel
theorem dL_kept_658 : decode cL_kept 658 = .ok (.istore 10, 2) := by decide +kernel
theorem dL_kept_660 : decode cL_kept 660 = .ok (.iload 10, 2) := by decide +kernel
theorem dL_kept_662 : decode cL_kept 662 = .ok (.iconst 4, 1) := by decide +kernel
theorem dL_kept_663 : decode cL_kept 663 = .ok (.iload_n 1, 1) := by decide +kernel
theorem dL_kept_664 : decode cL_kept 664 = .ok (.imul, 1) := by decide +kernel
theorem dL_kept_665 : decode cL_kept 665 = .ok (.if_icmp .ge 58, 3) := by decide +kernel
theorem dL_kept_668 : decode cL_kept 668 = .ok (.iload_n 3, 1) := by decide +kernel
theorem dL_kept_669 : decode cL_kept 669 = .ok (.ifCond .eq 54, 3) := by decide +kernel
theorem dL_kept_672 : decode cL_kept 672 = .ok (.aload_n 0, 1) := by decide +kernel
theorem dL_kept_673 : decode cL_kept 673 = .ok (.iload 10, 2) := by decide +kernel
theorem dL_kept_675 : decode cL_kept 675 = .ok (.iconst 1, 1) := by decide +kernel
theorem dL_kept_676 : decode cL_kept 676 = .ok (.invokestatic 112, 3) := by decide +kernel
theorem dL_kept_679 : decode cL_kept 679 = .ok (.iload 6, 2) := by decide +kernel
theorem dL_kept_681 : decode cL_kept 681 = .ok (.i2l, 1) := by decide +kernel
theorem dL_kept_682 : decode cL_kept 682 = .ok (.lcmp, 1) := by decide +kernel
theorem dL_kept_683 : decode cL_kept 683 = .ok (.ifCond .ne 28, 3) := by decide +kernel
theorem dL_kept_686 : decode cL_kept 686 = .ok (.iload 7, 2) := by decide +kernel
theorem dL_kept_688 : decode cL_kept 688 = .ok (.bipush (-9), 2) := by decide +kernel
theorem dL_kept_690 : decode cL_kept 690 = .ok (.if_icmp .eq 25, 3) := by decide +kernel
theorem dL_kept_693 : decode cL_kept 693 = .ok (.aload_n 0, 1) := by decide +kernel
theorem dL_kept_694 : decode cL_kept 694 = .ok (.iload 10, 2) := by decide +kernel
theorem dL_kept_696 : decode cL_kept 696 = .ok (.iconst 3, 1) := by decide +kernel
theorem dL_kept_697 : decode cL_kept 697 = .ok (.invokestatic 112, 3) := by decide +kernel
theorem dL_kept_700 : decode cL_kept 700 = .ok (.aload_n 0, 1) := by decide +kernel
theorem dL_kept_701 : decode cL_kept 701 = .ok (.iload 7, 2) := by decide +kernel
theorem dL_kept_703 : decode cL_kept 703 = .ok (.iconst 3, 1) := by decide +kernel
theorem dL_kept_704 : decode cL_kept 704 = .ok (.invokestatic 112, 3) := by decide +kernel
theorem dL_kept_707 : decode cL_kept 707 = .ok (.lcmp, 1) := by decide +kernel
theorem dL_kept_708 : decode cL_kept 708 = .ok (.ifCond .gt 7, 3) := by decide +kernel
theorem dL_kept_711 : decode cL_kept 711 = .ok (.iconst 1, 1) := by decide +kernel
theorem dL_kept_712 : decode cL_kept 712 = .ok (.goto 4, 3) := by decide +kernel
theorem dL_kept_716 : decode cL_kept 716 = .ok (.istore_n 3, 1) := by decide +kernel
theorem dL_kept_717 : decode cL_kept 717 = .ok (.iinc 10 1, 3) := by decide +kernel
theorem dL_kept_720 : decode cL_kept 720 = .ok (.goto (-60), 3) := by decide +kernel
theorem dL_kept_723 : decode cL_kept 723 = .ok (.lload 8, 2) := by decide +kernel
theorem dL_kept_725 : decode cL_kept 725 = .ok (.ldc2_w 142, 3) := by decide +kernel
theorem dL_kept_728 : decode cL_kept 728 = .ok (.lcmp, 1) := by decide +kernel
theorem dL_kept_729 : decode cL_kept 729 = .ok (.ifCond .eq 66, 3) := by decide +kernel
theorem dL_kept_732 : decode cL_kept 732 = .ok (.iload_n 3, 1) := by decide +kernel
theorem dL_kept_733 : decode cL_kept 733 = .ok (.ifCond .eq 62, 3) := by decide +kernel
theorem dL_kept_736 : decode cL_kept 736 = .ok (.aload_n 0, 1) := by decide +kernel
theorem dL_kept_737 : decode cL_kept 737 = .ok (.iload 5, 2) := by decide +kernel
theorem dL_kept_739 : decode cL_kept 739 = .ok (.invokestatic 129, 3) := by decide +kernel
theorem dL_kept_742 : decode cL_kept 742 = .ok (.iload 6, 2) := by decide +kernel
theorem dL_kept_744 : decode cL_kept 744 = .ok (.i2l, 1) := by decide +kernel
theorem dL_kept_745 : decode cL_kept 745 = .ok (.lcmp, 1) := by decide +kernel
theorem dL_kept_746 : decode cL_kept 746 = .ok (.ifCond .ne 44, 3) := by decide +kernel
theorem dL_kept_749 : decode cL_kept 749 = .ok (.aload_n 0, 1) := by decide +kernel
theorem dL_kept_750 : decode cL_kept 750 = .ok (.iload 7, 2) := by decide +kernel
theorem dL_kept_752 : decode cL_kept 752 = .ok (.iconst 4, 1) := by decide +kernel
theorem dL_kept_753 : decode cL_kept 753 = .ok (.invokestatic 112, 3) := by decide +kernel
theorem dL_kept_756 : decode cL_kept 756 = .ok (.lconst 1, 1) := by decide +kernel
theorem dL_kept_757 : decode cL_kept 757 = .ok (.lcmp, 1) := by decide +kernel
theorem dL_kept_758 : decode cL_kept 758 = .ok (.ifCond .ne 32, 3) := by decide +kernel
theorem dL_kept_761 : decode cL_kept 761 = .ok (.aload_n 0, 1) := by decide +kernel
theorem dL_kept_762 : decode cL_kept 762 = .ok (.aload_n 0, 1) := by decide +kernel
theorem dL_kept_763 : decode cL_kept 763 = .ok (.aload_n 0, 1) := by decide +kernel
theorem dL_kept_764 : decode cL_kept 764 = .ok (.invokevirtual 182, 3) := by decide +kernel
theorem dL_kept_767 : decode cL_kept 767 = .ok (.invokestatic 131, 3) := by decide +kernel
theorem dL_kept_770 : decode cL_kept 770 = .ok (.l2i, 1) := by decide +kernel
theorem dL_kept_771 : decode cL_kept 771 = .ok (.iconst 3, 1) := by decide +kernel
theorem dL_kept_772 : decode cL_kept 772 = .ok (.invokestatic 112, 3) := by decide +kernel
theorem dL_kept_775 : decode cL_kept 775 = .ok (.aload_n 0, 1) := by decide +kernel
theorem dL_kept_776 : decode cL_kept 776 = .ok (.iload 7, 2) := by decide +kernel
theorem dL_kept_778 : decode cL_kept 778 = .ok (.iconst 3, 1) := by decide +kernel
theorem dL_kept_779 : decode cL_kept 779 = .ok (.invokestatic 112, 3) := by decide +kernel
theorem dL_kept_782 : decode cL_kept 782 = .ok (.lcmp, 1) := by decide +kernel
theorem dL_kept_783 : decode cL_kept 783 = .ok (.ifCond .gt 7, 3) := by decide +kernel
theorem dL_kept_786 : decode cL_kept 786 = .ok (.iconst 1, 1) := by decide +kernel
theorem dL_kept_787 : decode cL_kept 787 = .ok (.goto 4, 3) := by decide +kernel
theorem dL_kept_791 : decode cL_kept 791 = .ok (.istore_n 3, 1) := by decide +kernel
theorem dL_kept_792 : decode cL_kept 792 = .ok (.iinc 5 1, 3) := by decide +kernel
theorem dL_kept_795 : decode cL_kept 795 = .ok (.iinc 6 1, 3) := by decide +kernel
theorem dL_kept_798 : decode cL_kept 798 = .ok (.goto (-232), 3) := by decide +kernel
theorem dL_kept_801 : decode cL_kept 801 = .ok (.iload_n 3, 1) := by decide +kernel
theorem dL_kept_802 : decode cL_kept 802 = .ok (.ifCond .eq 140, 3) := by decide +kernel
theorem dL_kept_805 : decode cL_kept 805 = .ok (.aload_n 0, 1) := by decide +kernel
theorem dL_kept_806 : decode cL_kept 806 = .ok (.iconst 5, 1) := by decide +kernel
theorem dL_kept_807 : decode cL_kept 807 = .ok (.invokestatic 102, 3) := by decide +kernel
theorem dL_kept_810 : decode cL_kept 810 = .ok (.iload 5, 2) := by decide +kernel
theorem dL_kept_812 : decode cL_kept 812 = .ok (.i2l, 1) := by decide +kernel
theorem dL_kept_813 : decode cL_kept 813 = .ok (.lcmp, 1) := by decide +kernel
theorem dL_kept_814 : decode cL_kept 814 = .ok (.ifCond .ne 128, 3) := by decide +kernel
theorem dL_kept_817 : decode cL_kept 817 = .ok (.aload_n 0, 1) := by decide +kernel
theorem dL_kept_818 : decode cL_kept 818 = .ok (.iload 5, 2) := by decide +kernel
theorem dL_kept_820 : decode cL_kept 820 = .ok (.invokestatic 129, 3) := by decide +kernel
theorem dL_kept_823 : decode cL_kept 823 = .ok (.ldc2_w 142, 3) := by decide +kernel
theorem dL_kept_826 : decode cL_kept 826 = .ok (.lcmp, 1) := by decide +kernel
theorem dL_kept_827 : decode cL_kept 827 = .ok (.ifCond .ne 115, 3) := by decide +kernel
theorem dL_kept_830 : decode cL_kept 830 = .ok (.iload 5, 2) := by decide +kernel
theorem dL_kept_832 : decode cL_kept 832 = .ok (.ifCond .gt 12, 3) := by decide +kernel
theorem dL_kept_835 : decode cL_kept 835 = .ok (.aload_n 0, 1) := by decide +kernel
theorem dL_kept_836 : decode cL_kept 836 = .ok (.invokevirtual 182, 3) := by decide +kernel
theorem dL_kept_839 : decode cL_kept 839 = .ok (.bipush (-9), 2) := by decide +kernel
theorem dL_kept_841 : decode cL_kept 841 = .ok (.if_icmp .ne 101, 3) := by decide +kernel
theorem dL_kept_844 : decode cL_kept 844 = .ok (.aload_n 0, 1) := by decide +kernel
theorem dL_kept_845 : decode cL_kept 845 = .ok (.iconst 4, 1) := by decide +kernel
theorem dL_kept_846 : decode cL_kept 846 = .ok (.invokestatic 102, 3) := by decide +kernel
theorem dL_kept_849 : decode cL_kept 849 = .ok (.iload 4, 2) := by decide +kernel
theorem dL_kept_851 : decode cL_kept 851 = .ok (.i2l, 1) := by decide +kernel
theorem dL_kept_852 : decode cL_kept 852 = .ok (.lcmp, 1) := by decide +kernel
theorem dL_kept_853 : decode cL_kept 853 = .ok (.ifCond .ne 89, 3) := by decide +kernel
theorem dL_kept_856 : decode cL_kept 856 = .ok (.aload_n 0, 1) := by decide +kernel
theorem dL_kept_857 : decode cL_kept 857 = .ok (.bipush 8, 2) := by decide +kernel
theorem dL_kept_859 : decode cL_kept 859 = .ok (.invokestatic 102, 3) := by decide +kernel
theorem dL_kept_862 : decode cL_kept 862 = .ok (.aload_n 0, 1) := by decide +kernel
theorem dL_kept_863 : decode cL_kept 863 = .ok (.bipush 7, 2) := by decide +kernel
theorem dL_kept_865 : decode cL_kept 865 = .ok (.invokestatic 102, 3) := by decide +kernel
theorem dL_kept_868 : decode cL_kept 868 = .ok (.lcmp, 1) := by decide +kernel
theorem dL_kept_869 : decode cL_kept 869 = .ok (.ifCond .gt 73, 3) := by decide +kernel
theorem dL_kept_872 : decode cL_kept 872 = .ok (.aload_n 0, 1) := by decide +kernel
theorem dL_kept_873 : decode cL_kept 873 = .ok (.bipush 6, 2) := by decide +kernel
theorem dL_kept_875 : decode cL_kept 875 = .ok (.invokestatic 102, 3) := by decide +kernel
theorem dL_kept_878 : decode cL_kept 878 = .ok (.aload_n 0, 1) := by decide +kernel
theorem dL_kept_879 : decode cL_kept 879 = .ok (.bipush 7, 2) := by decide +kernel
theorem dL_kept_881 : decode cL_kept 881 = .ok (.invokestatic 102, 3) := by decide +kernel
theorem dL_kept_884 : decode cL_kept 884 = .ok (.aload_n 0, 1) := by decide +kernel
theorem dL_kept_885 : decode cL_kept 885 = .ok (.bipush 9, 2) := by decide +kernel
theorem dL_kept_887 : decode cL_kept 887 = .ok (.invokestatic 102, 3) := by decide +kernel
theorem dL_kept_890 : decode cL_kept 890 = .ok (.ladd, 1) := by decide +kernel
theorem dL_kept_891 : decode cL_kept 891 = .ok (.aload_n 0, 1) := by decide +kernel
theorem dL_kept_892 : decode cL_kept 892 = .ok (.bipush 10, 2) := by decide +kernel
theorem dL_kept_894 : decode cL_kept 894 = .ok (.invokestatic 102, 3) := by decide +kernel
theorem dL_kept_897 : decode cL_kept 897 = .ok (.ladd, 1) := by decide +kernel
theorem dL_kept_898 : decode cL_kept 898 = .ok (.lcmp, 1) := by decide +kernel
theorem dL_kept_899 : decode cL_kept 899 = .ok (.ifCond .ne 43, 3) := by decide +kernel
theorem dL_kept_902 : decode cL_kept 902 = .ok (.aload_n 0, 1) := by decide +kernel
theorem dL_kept_903 : decode cL_kept 903 = .ok (.bipush 10, 2) := by decide +kernel
theorem dL_kept_905 : decode cL_kept 905 = .ok (.invokestatic 102, 3) := by decide +kernel
theorem dL_kept_908 : decode cL_kept 908 = .ok (.lconst 0, 1) := by decide +kernel
theorem dL_kept_909 : decode cL_kept 909 = .ok (.lcmp, 1) := by decide +kernel
theorem dL_kept_910 : decode cL_kept 910 = .ok (.ifCond .ne 7, 3) := by decide +kernel
theorem dL_kept_913 : decode cL_kept 913 = .ok (.iconst 1, 1) := by decide +kernel
theorem dL_kept_914 : decode cL_kept 914 = .ok (.goto 4, 3) := by decide +kernel
theorem dL_kept_917 : decode cL_kept 917 = .ok (.iconst 0, 1) := by decide +kernel
theorem dL_kept_918 : decode cL_kept 918 = .ok (.aload_n 0, 1) := by decide +kernel
theorem dL_kept_919 : decode cL_kept 919 = .ok (.iconst 0, 1) := by decide +kernel
theorem dL_kept_920 : decode cL_kept 920 = .ok (.invokestatic 114, 3) := by decide +kernel
theorem dL_kept_923 : decode cL_kept 923 = .ok (.ldc2_w 142, 3) := by decide +kernel
theorem dL_kept_926 : decode cL_kept 926 = .ok (.lcmp, 1) := by decide +kernel
theorem dL_kept_927 : decode cL_kept 927 = .ok (.ifCond .ne 7, 3) := by decide +kernel
theorem dL_kept_930 : decode cL_kept 930 = .ok (.iconst 1, 1) := by decide +kernel
theorem dL_kept_931 : decode cL_kept 931 = .ok (.goto 4, 3) := by decide +kernel
theorem dL_kept_934 : decode cL_kept 934 = .ok (.iconst 0, 1) := by decide +kernel
theorem dL_kept_935 : decode cL_kept 935 = .ok (.if_icmp .ne 7, 3) := by decide +kernel
theorem dL_kept_938 : decode cL_kept 938 = .ok (.iconst 1, 1) := by decide +kernel
theorem dL_kept_939 : decode cL_kept 939 = .ok (.goto 4, 3) := by decide +kernel
theorem dL_kept_943 : decode cL_kept 943 = .ok (.istore_n 3, 1) := by decide +kernel
theorem dL_kept_944 : decode cL_kept 944 = .ok (.aload_n 0, 1) := by decide +kernel
theorem dL_kept_945 : decode cL_kept 945 = .ok (.invokevirtual 144, 3) := by decide +kernel
theorem dL_kept_948 : decode cL_kept 948 = .ok (.istore 6, 2) := by decide +kernel
theorem dL_kept_950 : decode cL_kept 950 = .ok (.iload_n 3, 1) := by decide +kernel
theorem dL_kept_951 : decode cL_kept 951 = .ok (.ifCond .eq 79, 3) := by decide +kernel
theorem dL_kept_954 : decode cL_kept 954 = .ok (.iload 6, 2) := by decide +kernel
theorem dL_kept_956 : decode cL_kept 956 = .ok (.bipush (-9), 2) := by decide +kernel
theorem dL_kept_958 : decode cL_kept 958 = .ok (.if_icmp .eq 35, 3) := by decide +kernel
theorem dL_kept_961 : decode cL_kept 961 = .ok (.aload_n 0, 1) := by decide +kernel
theorem dL_kept_962 : decode cL_kept 962 = .ok (.iload 6, 2) := by decide +kernel
theorem dL_kept_964 : decode cL_kept 964 = .ok (.iconst 5, 1) := by decide +kernel
theorem dL_kept_965 : decode cL_kept 965 = .ok (.invokestatic 107, 3) := by decide +kernel
theorem dL_kept_968 : decode cL_kept 968 = .ok (.lconst 1, 1) := by decide +kernel
theorem dL_kept_969 : decode cL_kept 969 = .ok (.lcmp, 1) := by decide +kernel
theorem dL_kept_970 : decode cL_kept 970 = .ok (.ifCond .ne 60, 3) := by decide +kernel
theorem dL_kept_973 : decode cL_kept 973 = .ok (.aload_n 0, 1) := by decide +kernel
theorem dL_kept_974 : decode cL_kept 974 = .ok (.bipush 12, 2) := by decide +kernel
theorem dL_kept_976 : decode cL_kept 976 = .ok (.invokestatic 102, 3) := by decide +kernel
theorem dL_kept_979 : decode cL_kept 979 = .ok (.lconst 0, 1) := by decide +kernel
theorem dL_kept_980 : decode cL_kept 980 = .ok (.lcmp, 1) := by decide +kernel
theorem dL_kept_981 : decode cL_kept 981 = .ok (.ifCond .ne 12, 3) := by decide +kernel
theorem dL_kept_984 : decode cL_kept 984 = .ok (.aload_n 0, 1) := by decide +kernel
theorem dL_kept_985 : decode cL_kept 985 = .ok (.iload 6, 2) := by decide +kernel
theorem dL_kept_987 : decode cL_kept 987 = .ok (.invokestatic 185, 3) := by decide +kernel
theorem dL_kept_990 : decode cL_kept 990 = .ok (.ifCond .eq 40, 3) := by decide +kernel
theorem dL_kept_993 : decode cL_kept 993 = .ok (.aload_n 0, 1) := by decide +kernel
theorem dL_kept_994 : decode cL_kept 994 = .ok (.invokevirtual 124, 3) := by decide +kernel
theorem dL_kept_997 : decode cL_kept 997 = .ok (.iconst 1, 1) := by decide +kernel
theorem dL_kept_998 : decode cL_kept 998 = .ok (.if_icmp .ne 7, 3) := by decide +kernel
theorem dL_kept_1001 : decode cL_kept 1001 = .ok (.iconst 1, 1) := by decide +kernel
theorem dL_kept_1002 : decode cL_kept 1002 = .ok (.goto 4, 3) := by decide +kernel
theorem dL_kept_1005 : decode cL_kept 1005 = .ok (.iconst 0, 1) := by decide +kernel
theorem dL_kept_1006 : decode cL_kept 1006 = .ok (.iload_n 2, 1) := by decide +kernel
theorem dL_kept_1007 : decode cL_kept 1007 = .ok (.if_icmp .ne 23, 3) := by decide +kernel
theorem dL_kept_1010 : decode cL_kept 1010 = .ok (.aload_n 0, 1) := by decide +kernel
theorem dL_kept_1011 : decode cL_kept 1011 = .ok (.invokevirtual 124, 3) := by decide +kernel
theorem dL_kept_1014 : decode cL_kept 1014 = .ok (.ifCond .ne 12, 3) := by decide +kernel
theorem dL_kept_1017 : decode cL_kept 1017 = .ok (.aload_n 0, 1) := by decide +kernel
theorem dL_kept_1018 : decode cL_kept 1018 = .ok (.invokestatic 135, 3) := by decide +kernel
theorem dL_kept_1021 : decode cL_kept 1021 = .ok (.lconst 0, 1) := by decide +kernel
theorem dL_kept_1022 : decode cL_kept 1022 = .ok (.lcmp, 1) := by decide +kernel
theorem dL_kept_1023 : decode cL_kept 1023 = .ok (.ifCond .le 7, 3) := by decide +kernel
theorem dL_kept_1026 : decode cL_kept 1026 = .ok (.iconst 1, 1) := by decide +kernel
theorem dL_kept_1027 : decode cL_kept 1027 = .ok (.goto 4, 3) := by decide +kernel
theorem dL_kept_1031 : decode cL_kept 1031 = .ok (.ireturn, 1) := by decide +kernel
set_option maxHeartbeats 8000000 in
set_option maxRecDepth 100000 in
theorem c_kept (l : Launch) (hst : l.stackTraces = false) (D : va_G) (cI cL cZ : ClassId) (Gs : Nat → Geo) (hG : GeoOk (Gs 0)) (a : AS) (hn9 : a.1.2 ≤ 90) (hX : InvX a.2.1) : LZ l yL_kept cL_kept 15 9 186 3600 21600 D cI cL cZ Gs [a] [.ref ((Gs 0).1 1)] 1 [a] := by
  have hGo : Go a := ⟨hn9, hX.1⟩
  have hB := inv_B hX.1
  have hB3 : 3 ≤ a.2.1.1.2 := hX.1.1.1.1
  have hck16 := ck_16 (z := a.2.1) (n := 16) (Nat.le_refl _)
  refine lz_of (by decide) rfl (Nat.le_of_ble_eq_true rfl) ?_
  intro p e s m below meth c ls H A hF hr hlocks hw hl
  have hx := hF.1.1
  have hb := hF.1.2.1
  have hown := hF.1.2.2.2.1
  have hts := hF.1.2.2.2.2
  have hl : lv_has ls 15 [(0, .ref ((Gs 0).1 1))] := hl
  refine W.widen (k := 0) (n := 6 * 0) (Nat.le_refl _) (Nat.le_refl _) ?_
  have JP993 : ∀ (H : Heap) (locs : List Loc) (ls : Array Slot), LO D cI cL cZ A s Gs [a] H locs → lv_has ls 15 [(2, .int (bI (¬ a.2.1.1.1 = true))), (0, .ref ((Gs 0).1 1))] → W p l e ({ frames := 9, cells := 3600, slots := 21600, locals := 186 } : Room) s m [.ref ((Gs 0).1 1)].toArray below meth c H locs (3530) (6 * (3530)) (MQ below (lqI D cI cL cZ Gs 1 [a] A) [.ref ((Gs 0).1 1)].toArray s 3600 21600 A) (F0 m 993 ls []) := by
    intro H locs ls hw hl
    refine lv_aload_n hx hb dL_kept_993 rfl (lv_at hl 1 rfl) ?_
    refine lo_callV (i := 0) hF (x_whyNoRoom (Gs := fun _ => Gs 0) hGo) k_whyNoRoom ⟨Nat.le_of_ble_eq_true rfl, Nat.le_of_ble_eq_true rfl⟩ hw rfl rfl rfl hl.1 rfl (Nat.le_of_ble_eq_true rfl) dL_kept_994 ⟨by show _ ≤ (3600 : Nat); omega, by show _ ≤ (21600 : Nat); omega⟩ (fun H locs hw => ?_)
    have hw : LO D cI cL cZ A s Gs [a] H locs := hw
    refine lv_iconst (v := 1) hx hb dL_kept_997 (by decide) ?_
    refine lv_icmp_ne (tgt := 1005) hx hb dL_kept_998 (by decide) (fun c998 => ?_) (fun c998 => ?_)
    · skip
      refine lv_iconst (v := 0) hx hb dL_kept_1005 (by decide) ?_
      refine lv_iload_n hx hb dL_kept_1006 rfl (lv_at hl 0 rfl) ?_
      refine lv_icmp_ne (tgt := 1030) hx hb dL_kept_1007 (by decide) (fun c1007 => ?_) (fun c1007 => ?_)
      · skip
        exact (c1007 (bI_0 (fun z => c998 (wn_1.mpr z))).symm).elim
      · skip
        refine lv_aload_n hx hb dL_kept_1010 rfl (lv_at hl 1 rfl) ?_
        refine lo_callV (i := 0) hF (x_whyNoRoom (Gs := fun _ => Gs 0) hGo) k_whyNoRoom ⟨Nat.le_of_ble_eq_true rfl, Nat.le_of_ble_eq_true rfl⟩ hw rfl rfl rfl hl.1 rfl (Nat.le_of_ble_eq_true rfl) dL_kept_1011 ⟨by show _ ≤ (3600 : Nat); omega, by show _ ≤ (21600 : Nat); omega⟩ (fun H locs hw => ?_)
        have hw : LO D cI cL cZ A s Gs [a] H locs := hw
        refine lv_if_ne (tgt := 1026) hx hb dL_kept_1014 (by decide) (fun c1014 => ?_) (fun c1014 => ?_)
        · skip
          refine lv_iconst (v := 1) hx hb dL_kept_1026 (by decide) ?_
          refine lv_goto (tgt := 1031) hx hb dL_kept_1027 (by decide) ?_
          exact lo_retz hF hr hlocks hw (rfl) (rfl) (by omega) (by omega) dL_kept_1031
        · skip
          refine lv_aload_n hx hb dL_kept_1017 rfl (lv_at hl 1 rfl) ?_
          refine lo_callX hF (lx_eq (x_operations (Gs := fun _ => Gs 0) hst hG hGo ) (show _ = ((csV a.2.1).toInt64) from op_J hX.1 (wn_0 c1014).2) (show _ = [a] from rfl)) k_operations ⟨Nat.le_of_ble_eq_true rfl, Nat.le_of_ble_eq_true rfl⟩ hw [0] (by decide) rfl (hg_one rfl) rfl hl.1 rfl (Nat.le_of_ble_eq_true rfl) dL_kept_1018 ⟨by show _ ≤ (3600 : Nat); omega, by show _ ≤ (21600 : Nat); omega⟩ (fun H locs hw => ?_)
          have hw : LO D cI cL cZ A s Gs [a] H locs := hw
          refine W.widen (k := 3530 + 1) (n := 6 * (3530 + 1)) (Nat.le_refl _) (by omega) ?_
          refine lv_lconst (v := 0) hx hb dL_kept_1021 (by decide) ?_
          refine W.lcmp hx hb dL_kept_1022 ?_
          refine lv_if_le (tgt := 1030) hx hb dL_kept_1023 (by decide) (fun c1023 => ?_) (fun c1023 => ?_)
          · skip
            have c1023 := (lg_cmp_le _ _).mp c1023
            exact absurd c1023 (cs_gt hX.1 (wn_0 c1014).2)
          · skip
            have c1023 := (fun z => c1023 ((lg_cmp_le _ _).mpr z))
            refine lv_iconst (v := 1) hx hb dL_kept_1026 (by decide) ?_
            refine lv_goto (tgt := 1031) hx hb dL_kept_1027 (by decide) ?_
            exact lo_retz hF hr hlocks hw (rfl) (rfl) (by omega) (by omega) dL_kept_1031
    · skip
      refine lv_iconst (v := 1) hx hb dL_kept_1001 (by decide) ?_
      refine lv_goto (tgt := 1006) hx hb dL_kept_1002 (by decide) ?_
      refine lv_iload_n hx hb dL_kept_1006 rfl (lv_at hl 0 rfl) ?_
      refine lv_icmp_ne (tgt := 1030) hx hb dL_kept_1007 (by decide) (fun c1007 => ?_) (fun c1007 => ?_)
      · skip
        exact (c1007 (bI_1 (wn_1.mp c998)).symm).elim
      · skip
        refine lv_aload_n hx hb dL_kept_1010 rfl (lv_at hl 1 rfl) ?_
        refine lo_callV (i := 0) hF (x_whyNoRoom (Gs := fun _ => Gs 0) hGo) k_whyNoRoom ⟨Nat.le_of_ble_eq_true rfl, Nat.le_of_ble_eq_true rfl⟩ hw rfl rfl rfl hl.1 rfl (Nat.le_of_ble_eq_true rfl) dL_kept_1011 ⟨by show _ ≤ (3600 : Nat); omega, by show _ ≤ (21600 : Nat); omega⟩ (fun H locs hw => ?_)
        have hw : LO D cI cL cZ A s Gs [a] H locs := hw
        refine lv_if_ne (tgt := 1026) hx hb dL_kept_1014 (by decide) (fun c1014 => ?_) (fun c1014 => ?_)
        · skip
          refine lv_iconst (v := 1) hx hb dL_kept_1026 (by decide) ?_
          refine lv_goto (tgt := 1031) hx hb dL_kept_1027 (by decide) ?_
          exact lo_retz hF hr hlocks hw (rfl) (rfl) (by omega) (by omega) dL_kept_1031
        · skip
          refine lv_aload_n hx hb dL_kept_1017 rfl (lv_at hl 1 rfl) ?_
          refine lo_callX hF (lx_eq (x_operations (Gs := fun _ => Gs 0) hst hG hGo ) (show _ = ((csV a.2.1).toInt64) from op_J hX.1 (wn_0 c1014).2) (show _ = [a] from rfl)) k_operations ⟨Nat.le_of_ble_eq_true rfl, Nat.le_of_ble_eq_true rfl⟩ hw [0] (by decide) rfl (hg_one rfl) rfl hl.1 rfl (Nat.le_of_ble_eq_true rfl) dL_kept_1018 ⟨by show _ ≤ (3600 : Nat); omega, by show _ ≤ (21600 : Nat); omega⟩ (fun H locs hw => ?_)
          have hw : LO D cI cL cZ A s Gs [a] H locs := hw
          refine W.widen (k := 3530 + 1) (n := 6 * (3530 + 1)) (Nat.le_refl _) (by omega) ?_
          refine lv_lconst (v := 0) hx hb dL_kept_1021 (by decide) ?_
          refine W.lcmp hx hb dL_kept_1022 ?_
          refine lv_if_le (tgt := 1030) hx hb dL_kept_1023 (by decide) (fun c1023 => ?_) (fun c1023 => ?_)
          · skip
            have c1023 := (lg_cmp_le _ _).mp c1023
            exact absurd c1023 (cs_gt hX.1 (wn_0 c1014).2)
          · skip
            have c1023 := (fun z => c1023 ((lg_cmp_le _ _).mpr z))
            refine lv_iconst (v := 1) hx hb dL_kept_1026 (by decide) ?_
            refine lv_goto (tgt := 1031) hx hb dL_kept_1027 (by decide) ?_
            exact lo_retz hF hr hlocks hw (rfl) (rfl) (by omega) (by omega) dL_kept_1031
  have JP844 : ∀ (H : Heap) (locs : List Loc) (ls : Array Slot), LO D cI cL cZ A s Gs [a] H locs → lv_has ls 15 [(5, .int (nI (ckZ a.2.1 16))), (3, .int (1)), (4, .int (nI (cln (zr a.2.1) a.2.1.1.2))), (1, .int (nI (a.2.1.1.2))), (2, .int (bI (¬ a.2.1.1.1 = true))), (0, .ref ((Gs 0).1 1))] → W p l e ({ frames := 9, cells := 3600, slots := 21600, locals := 186 } : Room) s m [.ref ((Gs 0).1 1)].toArray below meth c H locs (3462) (6 * (3462)) (MQ below (lqI D cI cL cZ Gs 1 [a] A) [.ref ((Gs 0).1 1)].toArray s 3600 21600 A) (F0 m 844 ls []) := by
    intro H locs ls hw hl
    refine lv_aload_n hx hb dL_kept_844 rfl (lv_at hl 5 rfl) ?_
    refine lv_iconst (v := 4) hx hb dL_kept_845 (by decide) ?_
    refine lo_callX hF (lx_eq (x_about (Gs := fun _ => Gs 0) hst hG hGo 4) (show _ = ((nI (cln (zr a.2.1) a.2.1.1.2) : Int32).toInt64) from ab_4 hX.1) (show _ = [a] from rfl)) k_about ⟨Nat.le_of_ble_eq_true rfl, Nat.le_of_ble_eq_true rfl⟩ hw [0] (by decide) rfl (hg_one rfl) rfl hl.1 rfl (Nat.le_of_ble_eq_true rfl) dL_kept_846 ⟨by show _ ≤ (3600 : Nat); omega, by show _ ≤ (21600 : Nat); omega⟩ (fun H locs hw => ?_)
    have hw : LO D cI cL cZ A s Gs [a] H locs := hw
    refine W.widen (k := 3462 + 1) (n := 6 * (3462 + 1)) (Nat.le_refl _) (by omega) ?_
    refine lv_iload hx hb dL_kept_849 (lv_at hl 2 rfl) ?_
    refine lv_i2l (v := (nI (cln (zr a.2.1) a.2.1.1.2) : Int32).toInt64) hx hb dL_kept_851 rfl ?_
    refine W.lcmp hx hb dL_kept_852 ?_
    refine lv_if_ne (tgt := 942) hx hb dL_kept_853 (by decide) (fun c853 => ?_) (fun c853 => ?_)
    · skip
      exact (c853 ((lg_cmp_eq _ _).mpr rfl)).elim
    · skip
      have c853 := (lg_cmp_eq _ _).mp c853
      refine lv_aload_n hx hb dL_kept_856 rfl (lv_at hl 5 rfl) ?_
      refine lv_bipush (v := 8) hx hb dL_kept_857 (by decide) ?_
      refine lo_callX hF (lx_eq (x_about (Gs := fun _ => Gs 0) hst hG hGo 8) (show _ = ((a.2.1.2.1 7).toInt64) from ab_8) (show _ = [a] from rfl)) k_about ⟨Nat.le_of_ble_eq_true rfl, Nat.le_of_ble_eq_true rfl⟩ hw [0] (by decide) rfl (hg_one rfl) rfl hl.1 rfl (Nat.le_of_ble_eq_true rfl) dL_kept_859 ⟨by show _ ≤ (3600 : Nat); omega, by show _ ≤ (21600 : Nat); omega⟩ (fun H locs hw => ?_)
      have hw : LO D cI cL cZ A s Gs [a] H locs := hw
      refine W.widen (k := 3462 + 1 + 1) (n := 6 * (3462 + 1 + 1)) (Nat.le_refl _) (by omega) ?_
      refine lv_aload_n hx hb dL_kept_862 rfl (lv_at hl 5 rfl) ?_
      refine lv_bipush (v := 7) hx hb dL_kept_863 (by decide) ?_
      refine lo_callX hF (lx_eq (x_about (Gs := fun _ => Gs 0) hst hG hGo 7) (show _ = ((a.2.1.2.1 6).toInt64) from ab_7) (show _ = [a] from rfl)) k_about ⟨Nat.le_of_ble_eq_true rfl, Nat.le_of_ble_eq_true rfl⟩ hw [0] (by decide) rfl (hg_one rfl) rfl hl.1 rfl (Nat.le_of_ble_eq_true rfl) dL_kept_865 ⟨by show _ ≤ (3600 : Nat); omega, by show _ ≤ (21600 : Nat); omega⟩ (fun H locs hw => ?_)
      have hw : LO D cI cL cZ A s Gs [a] H locs := hw
      refine W.widen (k := 3462 + 1 + 1 + 1) (n := 6 * (3462 + 1 + 1 + 1)) (Nat.le_refl _) (by omega) ?_
      refine W.lcmp hx hb dL_kept_868 ?_
      refine lv_if_gt (tgt := 942) hx hb dL_kept_869 (by decide) (fun c869 => ?_) (fun c869 => ?_)
      · skip
        have c869 := (lg_cmp_gt _ _).mp c869
        exact absurd c869 (cw_le hX)
      · skip
        have c869 := (fun z => c869 ((lg_cmp_gt _ _).mpr z))
        refine lv_aload_n hx hb dL_kept_872 rfl (lv_at hl 5 rfl) ?_
        refine lv_bipush (v := 6) hx hb dL_kept_873 (by decide) ?_
        refine lo_callX hF (lx_eq (x_about (Gs := fun _ => Gs 0) hst hG hGo 6) (show _ = ((a.2.1.2.1 5).toInt64) from ab_6) (show _ = [a] from rfl)) k_about ⟨Nat.le_of_ble_eq_true rfl, Nat.le_of_ble_eq_true rfl⟩ hw [0] (by decide) rfl (hg_one rfl) rfl hl.1 rfl (Nat.le_of_ble_eq_true rfl) dL_kept_875 ⟨by show _ ≤ (3600 : Nat); omega, by show _ ≤ (21600 : Nat); omega⟩ (fun H locs hw => ?_)
        have hw : LO D cI cL cZ A s Gs [a] H locs := hw
        refine W.widen (k := 3462 + 1 + 1 + 1 + 1) (n := 6 * (3462 + 1 + 1 + 1 + 1)) (Nat.le_refl _) (by omega) ?_
        refine lv_aload_n hx hb dL_kept_878 rfl (lv_at hl 5 rfl) ?_
        refine lv_bipush (v := 7) hx hb dL_kept_879 (by decide) ?_
        refine lo_callX hF (lx_eq (x_about (Gs := fun _ => Gs 0) hst hG hGo 7) (show _ = ((a.2.1.2.1 6).toInt64) from ab_7) (show _ = [a] from rfl)) k_about ⟨Nat.le_of_ble_eq_true rfl, Nat.le_of_ble_eq_true rfl⟩ hw [0] (by decide) rfl (hg_one rfl) rfl hl.1 rfl (Nat.le_of_ble_eq_true rfl) dL_kept_881 ⟨by show _ ≤ (3600 : Nat); omega, by show _ ≤ (21600 : Nat); omega⟩ (fun H locs hw => ?_)
        have hw : LO D cI cL cZ A s Gs [a] H locs := hw
        refine W.widen (k := 3462 + 1 + 1 + 1 + 1 + 1) (n := 6 * (3462 + 1 + 1 + 1 + 1 + 1)) (Nat.le_refl _) (by omega) ?_
        refine lv_aload_n hx hb dL_kept_884 rfl (lv_at hl 5 rfl) ?_
        refine lv_bipush (v := 9) hx hb dL_kept_885 (by decide) ?_
        refine lo_callX hF (lx_eq (x_about (Gs := fun _ => Gs 0) hst hG hGo 9) (show _ = ((a.2.1.2.1 8).toInt64) from ab_9) (show _ = [a] from rfl)) k_about ⟨Nat.le_of_ble_eq_true rfl, Nat.le_of_ble_eq_true rfl⟩ hw [0] (by decide) rfl (hg_one rfl) rfl hl.1 rfl (Nat.le_of_ble_eq_true rfl) dL_kept_887 ⟨by show _ ≤ (3600 : Nat); omega, by show _ ≤ (21600 : Nat); omega⟩ (fun H locs hw => ?_)
        have hw : LO D cI cL cZ A s Gs [a] H locs := hw
        refine W.widen (k := 3462 + 1 + 1 + 1 + 1 + 1 + 1) (n := 6 * (3462 + 1 + 1 + 1 + 1 + 1 + 1)) (Nat.le_refl _) (by omega) ?_
        refine lv_ladd hx hb dL_kept_890 ?_
        refine lv_aload_n hx hb dL_kept_891 rfl (lv_at hl 5 rfl) ?_
        refine lv_bipush (v := 10) hx hb dL_kept_892 (by decide) ?_
        refine lo_callX hF (lx_eq (x_about (Gs := fun _ => Gs 0) hst hG hGo 10) (show _ = ((a.2.1.2.1 9).toInt64) from ab_10) (show _ = [a] from rfl)) k_about ⟨Nat.le_of_ble_eq_true rfl, Nat.le_of_ble_eq_true rfl⟩ hw [0] (by decide) rfl (hg_one rfl) rfl hl.1 rfl (Nat.le_of_ble_eq_true rfl) dL_kept_894 ⟨by show _ ≤ (3600 : Nat); omega, by show _ ≤ (21600 : Nat); omega⟩ (fun H locs hw => ?_)
        have hw : LO D cI cL cZ A s Gs [a] H locs := hw
        refine W.widen (k := 3462 + 1 + 1 + 1 + 1 + 1 + 1 + 1) (n := 6 * (3462 + 1 + 1 + 1 + 1 + 1 + 1 + 1)) (Nat.le_refl _) (by omega) ?_
        refine lv_ladd hx hb dL_kept_897 ?_
        refine W.lcmp hx hb dL_kept_898 ?_
        refine lv_if_ne (tgt := 942) hx hb dL_kept_899 (by decide) (fun c899 => ?_) (fun c899 => ?_)
        · skip
          have c899 := (fun z => c899 ((lg_cmp_eq _ _).mpr z))
          exact (c899 (op_sum hX)).elim
        · skip
          have c899 := (lg_cmp_eq _ _).mp c899
          refine lv_aload_n hx hb dL_kept_902 rfl (lv_at hl 5 rfl) ?_
          refine lv_bipush (v := 10) hx hb dL_kept_903 (by decide) ?_
          refine lo_callX hF (lx_eq (x_about (Gs := fun _ => Gs 0) hst hG hGo 10) (show _ = ((a.2.1.2.1 9).toInt64) from ab_10) (show _ = [a] from rfl)) k_about ⟨Nat.le_of_ble_eq_true rfl, Nat.le_of_ble_eq_true rfl⟩ hw [0] (by decide) rfl (hg_one rfl) rfl hl.1 rfl (Nat.le_of_ble_eq_true rfl) dL_kept_905 ⟨by show _ ≤ (3600 : Nat); omega, by show _ ≤ (21600 : Nat); omega⟩ (fun H locs hw => ?_)
          have hw : LO D cI cL cZ A s Gs [a] H locs := hw
          refine W.widen (k := 3462 + 1 + 1 + 1 + 1 + 1 + 1 + 1 + 1) (n := 6 * (3462 + 1 + 1 + 1 + 1 + 1 + 1 + 1 + 1)) (Nat.le_refl _) (by omega) ?_
          refine lv_lconst (v := 0) hx hb dL_kept_908 (by decide) ?_
          refine W.lcmp hx hb dL_kept_909 ?_
          refine lv_if_ne (tgt := 917) hx hb dL_kept_910 (by decide) (fun c910 => ?_) (fun c910 => ?_)
          · skip
            have c910 := (fun z => c910 ((lg_cmp_eq _ _).mpr z))
            refine lv_iconst (v := 0) hx hb dL_kept_917 (by decide) ?_
            refine lv_aload_n hx hb dL_kept_918 rfl (lv_at hl 5 rfl) ?_
            refine lv_iconst (v := 0) hx hb dL_kept_919 (by decide) ?_
            refine lo_callX hF (lx_eq (x_lastCut (Gs := fun _ => Gs 0) hst hG hGo 0) (show _ = ((a.2.1.2.1 10).toInt64) from lc_0) (show _ = [a] from rfl)) k_lastCut ⟨Nat.le_of_ble_eq_true rfl, Nat.le_of_ble_eq_true rfl⟩ hw [0] (by decide) rfl (hg_one rfl) rfl hl.1 rfl (Nat.le_of_ble_eq_true rfl) dL_kept_920 ⟨by show _ ≤ (3600 : Nat); omega, by show _ ≤ (21600 : Nat); omega⟩ (fun H locs hw => ?_)
            have hw : LO D cI cL cZ A s Gs [a] H locs := hw
            refine W.widen (k := 3462 + 1 + 1 + 1 + 1 + 1 + 1 + 1 + 1 + 1) (n := 6 * (3462 + 1 + 1 + 1 + 1 + 1 + 1 + 1 + 1 + 1)) (Nat.le_refl _) (by omega) ?_
            refine lv_ldc2 (v := (-9)) hx hb hown (hts _ (mlA 118 rfl)) dL_kept_923 ?_
            refine W.lcmp hx hb dL_kept_926 ?_
            refine lv_if_ne (tgt := 934) hx hb dL_kept_927 (by decide) (fun c927 => ?_) (fun c927 => ?_)
            · skip
              have c927 := (fun z => c927 ((lg_cmp_eq _ _).mpr z))
              refine lv_iconst (v := 0) hx hb dL_kept_934 (by decide) ?_
              refine lv_icmp_ne (tgt := 942) hx hb dL_kept_935 (by decide) (fun c935 => ?_) (fun c935 => ?_)
              · skip
                exact absurd c935 (by decide)
              · skip
                refine lv_iconst (v := 1) hx hb dL_kept_938 (by decide) ?_
                refine lv_goto (tgt := 943) hx hb dL_kept_939 (by decide) ?_
                refine lv_istore_n (lv' := [(3, .int (1)), (5, .int (nI (ckZ a.2.1 16))), (4, .int (nI (cln (zr a.2.1) a.2.1.1.2))), (1, .int (nI (a.2.1.1.2))), (2, .int (bI (¬ a.2.1.1.1 = true))), (0, .ref ((Gs 0).1 1))]) hx hb dL_kept_943 rfl hl (by decide) rfl (fun ls hl => ?_)
                refine lv_aload_n hx hb dL_kept_944 rfl (lv_at hl 5 rfl) ?_
                refine lo_callV (i := 0) hF (x_victim (Gs := fun _ => Gs 0) hGo) k_victim ⟨Nat.le_of_ble_eq_true rfl, Nat.le_of_ble_eq_true rfl⟩ hw rfl rfl rfl hl.1 rfl (Nat.le_of_ble_eq_true rfl) dL_kept_945 ⟨by show _ ≤ (3600 : Nat); omega, by show _ ≤ (21600 : Nat); omega⟩ (fun H locs hw => ?_)
                have hw : LO D cI cL cZ A s Gs [a] H locs := hw
                refine lv_istore (lv' := [(6, .int (oI (cvZ a.2.1))), (3, .int (1)), (5, .int (nI (ckZ a.2.1 16))), (4, .int (nI (cln (zr a.2.1) a.2.1.1.2))), (1, .int (nI (a.2.1.1.2))), (2, .int (bI (¬ a.2.1.1.1 = true))), (0, .ref ((Gs 0).1 1))]) hx hb dL_kept_948 hl (by decide) rfl (fun ls hl => ?_)
                refine lv_iload_n hx hb dL_kept_950 rfl (lv_at hl 1 rfl) ?_
                refine lv_if_eq (tgt := 1030) hx hb dL_kept_951 (by decide) (fun c951 => ?_) (fun c951 => ?_)
                · skip
                  exact absurd c951 (by decide)
                · skip
                  refine lv_iload hx hb dL_kept_954 (lv_at hl 0 rfl) ?_
                  refine lv_bipush (v := (-9)) hx hb dL_kept_956 (by decide) ?_
                  refine lv_icmp_eq (tgt := 993) hx hb dL_kept_958 (by decide) (fun c958 => ?_) (fun c958 => ?_)
                  · skip
                    exact W.widen (by omega) (by omega) (JP993  _ _ _  hw (lv_sub hl [5, 6] rfl))
                  · skip
                    obtain ⟨vb, hvb, hvb8⟩ := cv_some hB c958
                    have hl : lv_has ls 15 [(6, .int (nI (vb))), (3, .int (1)), (5, .int (nI (ckZ a.2.1 16))), (4, .int (nI (cln (zr a.2.1) a.2.1.1.2))), (1, .int (nI (a.2.1.1.2))), (2, .int (bI (¬ a.2.1.1.1 = true))), (0, .ref ((Gs 0).1 1))] := by rw [hvb] at hl; exact hl
                    refine lv_aload_n hx hb dL_kept_961 rfl (lv_at hl 6 rfl) ?_
                    refine lv_iload hx hb dL_kept_962 (lv_at hl 0 rfl) ?_
                    refine lv_iconst (v := 5) hx hb dL_kept_964 (by decide) ?_
                    refine lo_callX hF (lx_eq (x_block (Gs := fun _ => Gs 0) hst hG hGo (nI (vb)) 5) (show _ = 1 from vc_5 hX.1 hvb) (show _ = [a] from rfl)) k_block ⟨Nat.le_of_ble_eq_true rfl, Nat.le_of_ble_eq_true rfl⟩ hw [0] (by decide) rfl (hg_one rfl) rfl hl.1 rfl (Nat.le_of_ble_eq_true rfl) dL_kept_965 ⟨by show _ ≤ (3600 : Nat); omega, by show _ ≤ (21600 : Nat); omega⟩ (fun H locs hw => ?_)
                    have hw : LO D cI cL cZ A s Gs [a] H locs := hw
                    refine W.widen (k := 3462 + 1 + 1 + 1 + 1 + 1 + 1 + 1 + 1 + 1 + 1) (n := 6 * (3462 + 1 + 1 + 1 + 1 + 1 + 1 + 1 + 1 + 1 + 1)) (Nat.le_refl _) (by omega) ?_
                    refine lv_lconst (v := 1) hx hb dL_kept_968 (by decide) ?_
                    refine W.lcmp hx hb dL_kept_969 ?_
                    refine lv_if_ne (tgt := 1030) hx hb dL_kept_970 (by decide) (fun c970 => ?_) (fun c970 => ?_)
                    · skip
                      exact (c970 ((lg_cmp_eq _ _).mpr rfl)).elim
                    · skip
                      have c970 := (lg_cmp_eq _ _).mp c970
                      refine lv_aload_n hx hb dL_kept_973 rfl (lv_at hl 6 rfl) ?_
                      refine lv_bipush (v := 12) hx hb dL_kept_974 (by decide) ?_
                      refine lo_callX hF (lx_eq (x_about (Gs := fun _ => Gs 0) hst hG hGo 12) (show _ = ((a.2.1.2.1 0).toInt64) from ab_12) (show _ = [a] from rfl)) k_about ⟨Nat.le_of_ble_eq_true rfl, Nat.le_of_ble_eq_true rfl⟩ hw [0] (by decide) rfl (hg_one rfl) rfl hl.1 rfl (Nat.le_of_ble_eq_true rfl) dL_kept_976 ⟨by show _ ≤ (3600 : Nat); omega, by show _ ≤ (21600 : Nat); omega⟩ (fun H locs hw => ?_)
                      have hw : LO D cI cL cZ A s Gs [a] H locs := hw
                      refine W.widen (k := 3462 + 1 + 1 + 1 + 1 + 1 + 1 + 1 + 1 + 1 + 1 + 1) (n := 6 * (3462 + 1 + 1 + 1 + 1 + 1 + 1 + 1 + 1 + 1 + 1 + 1)) (Nat.le_refl _) (by omega) ?_
                      refine lv_lconst (v := 0) hx hb dL_kept_979 (by decide) ?_
                      refine W.lcmp hx hb dL_kept_980 ?_
                      refine lv_if_ne (tgt := 993) hx hb dL_kept_981 (by decide) (fun c981 => ?_) (fun c981 => ?_)
                      · skip
                        have c981 := (fun z => c981 ((lg_cmp_eq _ _).mpr z))
                        exact W.widen (by omega) (by omega) (JP993  _ _ _  hw (lv_sub hl [5, 6] rfl))
                      · skip
                        have c981 := (lg_cmp_eq _ _).mp c981
                        refine lv_aload_n hx hb dL_kept_984 rfl (lv_at hl 6 rfl) ?_
                        refine lv_iload hx hb dL_kept_985 (lv_at hl 0 rfl) ?_
                        refine lo_callZ hF (c_fewest l hst D cI cL cZ (fun _ => Gs 0) hG a hGo vb hvb (jl_i0 c981)) k_fewest ⟨Nat.le_of_ble_eq_true rfl, Nat.le_of_ble_eq_true rfl⟩ hw [0] (by decide) rfl (hg_one rfl) rfl hl.1 rfl (Nat.le_of_ble_eq_true rfl) dL_kept_987 ⟨by show _ ≤ (3600 : Nat); omega, by show _ ≤ (21600 : Nat); omega⟩ (fun H locs hw => ?_)
                        have hw : LO D cI cL cZ A s Gs [a] H locs := hw
                        refine W.widen (k := 3462 + 1 + 1 + 1 + 1 + 1 + 1 + 1 + 1 + 1 + 1 + 1 + 40) (n := 6 * (3462 + 1 + 1 + 1 + 1 + 1 + 1 + 1 + 1 + 1 + 1 + 1 + 40)) (Nat.le_refl _) (by omega) ?_
                        refine lv_if_eq (tgt := 1030) hx hb dL_kept_990 (by decide) (fun c990 => ?_) (fun c990 => ?_)
                        · skip
                          exact absurd c990 (by decide)
                        · skip
                          exact W.widen (by omega) (by omega) (JP993  _ _ _  hw (lv_sub hl [5, 6] rfl))
            · skip
              have c927 := (lg_cmp_eq _ _).mp c927
              exact absurd ((cu_iff hX).mpr c927) c910
          · skip
            have c910 := (lg_cmp_eq _ _).mp c910
            refine lv_iconst (v := 1) hx hb dL_kept_913 (by decide) ?_
            refine lv_goto (tgt := 918) hx hb dL_kept_914 (by decide) ?_
            refine lv_aload_n hx hb dL_kept_918 rfl (lv_at hl 5 rfl) ?_
            refine lv_iconst (v := 0) hx hb dL_kept_919 (by decide) ?_
            refine lo_callX hF (lx_eq (x_lastCut (Gs := fun _ => Gs 0) hst hG hGo 0) (show _ = ((a.2.1.2.1 10).toInt64) from lc_0) (show _ = [a] from rfl)) k_lastCut ⟨Nat.le_of_ble_eq_true rfl, Nat.le_of_ble_eq_true rfl⟩ hw [0] (by decide) rfl (hg_one rfl) rfl hl.1 rfl (Nat.le_of_ble_eq_true rfl) dL_kept_920 ⟨by show _ ≤ (3600 : Nat); omega, by show _ ≤ (21600 : Nat); omega⟩ (fun H locs hw => ?_)
            have hw : LO D cI cL cZ A s Gs [a] H locs := hw
            refine W.widen (k := 3462 + 1 + 1 + 1 + 1 + 1 + 1 + 1 + 1 + 1) (n := 6 * (3462 + 1 + 1 + 1 + 1 + 1 + 1 + 1 + 1 + 1)) (Nat.le_refl _) (by omega) ?_
            refine lv_ldc2 (v := (-9)) hx hb hown (hts _ (mlA 118 rfl)) dL_kept_923 ?_
            refine W.lcmp hx hb dL_kept_926 ?_
            refine lv_if_ne (tgt := 934) hx hb dL_kept_927 (by decide) (fun c927 => ?_) (fun c927 => ?_)
            · skip
              have c927 := (fun z => c927 ((lg_cmp_eq _ _).mpr z))
              exact (c927 ((cu_iff hX).mp c910)).elim
            · skip
              have c927 := (lg_cmp_eq _ _).mp c927
              refine lv_iconst (v := 1) hx hb dL_kept_930 (by decide) ?_
              refine lv_goto (tgt := 935) hx hb dL_kept_931 (by decide) ?_
              refine lv_icmp_ne (tgt := 942) hx hb dL_kept_935 (by decide) (fun c935 => ?_) (fun c935 => ?_)
              · skip
                exact absurd c935 (by decide)
              · skip
                refine lv_iconst (v := 1) hx hb dL_kept_938 (by decide) ?_
                refine lv_goto (tgt := 943) hx hb dL_kept_939 (by decide) ?_
                refine lv_istore_n (lv' := [(3, .int (1)), (5, .int (nI (ckZ a.2.1 16))), (4, .int (nI (cln (zr a.2.1) a.2.1.1.2))), (1, .int (nI (a.2.1.1.2))), (2, .int (bI (¬ a.2.1.1.1 = true))), (0, .ref ((Gs 0).1 1))]) hx hb dL_kept_943 rfl hl (by decide) rfl (fun ls hl => ?_)
                refine lv_aload_n hx hb dL_kept_944 rfl (lv_at hl 5 rfl) ?_
                refine lo_callV (i := 0) hF (x_victim (Gs := fun _ => Gs 0) hGo) k_victim ⟨Nat.le_of_ble_eq_true rfl, Nat.le_of_ble_eq_true rfl⟩ hw rfl rfl rfl hl.1 rfl (Nat.le_of_ble_eq_true rfl) dL_kept_945 ⟨by show _ ≤ (3600 : Nat); omega, by show _ ≤ (21600 : Nat); omega⟩ (fun H locs hw => ?_)
                have hw : LO D cI cL cZ A s Gs [a] H locs := hw
                refine lv_istore (lv' := [(6, .int (oI (cvZ a.2.1))), (3, .int (1)), (5, .int (nI (ckZ a.2.1 16))), (4, .int (nI (cln (zr a.2.1) a.2.1.1.2))), (1, .int (nI (a.2.1.1.2))), (2, .int (bI (¬ a.2.1.1.1 = true))), (0, .ref ((Gs 0).1 1))]) hx hb dL_kept_948 hl (by decide) rfl (fun ls hl => ?_)
                refine lv_iload_n hx hb dL_kept_950 rfl (lv_at hl 1 rfl) ?_
                refine lv_if_eq (tgt := 1030) hx hb dL_kept_951 (by decide) (fun c951 => ?_) (fun c951 => ?_)
                · skip
                  exact absurd c951 (by decide)
                · skip
                  refine lv_iload hx hb dL_kept_954 (lv_at hl 0 rfl) ?_
                  refine lv_bipush (v := (-9)) hx hb dL_kept_956 (by decide) ?_
                  refine lv_icmp_eq (tgt := 993) hx hb dL_kept_958 (by decide) (fun c958 => ?_) (fun c958 => ?_)
                  · skip
                    exact W.widen (by omega) (by omega) (JP993  _ _ _  hw (lv_sub hl [5, 6] rfl))
                  · skip
                    obtain ⟨vb, hvb, hvb8⟩ := cv_some hB c958
                    have hl : lv_has ls 15 [(6, .int (nI (vb))), (3, .int (1)), (5, .int (nI (ckZ a.2.1 16))), (4, .int (nI (cln (zr a.2.1) a.2.1.1.2))), (1, .int (nI (a.2.1.1.2))), (2, .int (bI (¬ a.2.1.1.1 = true))), (0, .ref ((Gs 0).1 1))] := by rw [hvb] at hl; exact hl
                    refine lv_aload_n hx hb dL_kept_961 rfl (lv_at hl 6 rfl) ?_
                    refine lv_iload hx hb dL_kept_962 (lv_at hl 0 rfl) ?_
                    refine lv_iconst (v := 5) hx hb dL_kept_964 (by decide) ?_
                    refine lo_callX hF (lx_eq (x_block (Gs := fun _ => Gs 0) hst hG hGo (nI (vb)) 5) (show _ = 1 from vc_5 hX.1 hvb) (show _ = [a] from rfl)) k_block ⟨Nat.le_of_ble_eq_true rfl, Nat.le_of_ble_eq_true rfl⟩ hw [0] (by decide) rfl (hg_one rfl) rfl hl.1 rfl (Nat.le_of_ble_eq_true rfl) dL_kept_965 ⟨by show _ ≤ (3600 : Nat); omega, by show _ ≤ (21600 : Nat); omega⟩ (fun H locs hw => ?_)
                    have hw : LO D cI cL cZ A s Gs [a] H locs := hw
                    refine W.widen (k := 3462 + 1 + 1 + 1 + 1 + 1 + 1 + 1 + 1 + 1 + 1) (n := 6 * (3462 + 1 + 1 + 1 + 1 + 1 + 1 + 1 + 1 + 1 + 1)) (Nat.le_refl _) (by omega) ?_
                    refine lv_lconst (v := 1) hx hb dL_kept_968 (by decide) ?_
                    refine W.lcmp hx hb dL_kept_969 ?_
                    refine lv_if_ne (tgt := 1030) hx hb dL_kept_970 (by decide) (fun c970 => ?_) (fun c970 => ?_)
                    · skip
                      exact (c970 ((lg_cmp_eq _ _).mpr rfl)).elim
                    · skip
                      have c970 := (lg_cmp_eq _ _).mp c970
                      refine lv_aload_n hx hb dL_kept_973 rfl (lv_at hl 6 rfl) ?_
                      refine lv_bipush (v := 12) hx hb dL_kept_974 (by decide) ?_
                      refine lo_callX hF (lx_eq (x_about (Gs := fun _ => Gs 0) hst hG hGo 12) (show _ = ((a.2.1.2.1 0).toInt64) from ab_12) (show _ = [a] from rfl)) k_about ⟨Nat.le_of_ble_eq_true rfl, Nat.le_of_ble_eq_true rfl⟩ hw [0] (by decide) rfl (hg_one rfl) rfl hl.1 rfl (Nat.le_of_ble_eq_true rfl) dL_kept_976 ⟨by show _ ≤ (3600 : Nat); omega, by show _ ≤ (21600 : Nat); omega⟩ (fun H locs hw => ?_)
                      have hw : LO D cI cL cZ A s Gs [a] H locs := hw
                      refine W.widen (k := 3462 + 1 + 1 + 1 + 1 + 1 + 1 + 1 + 1 + 1 + 1 + 1) (n := 6 * (3462 + 1 + 1 + 1 + 1 + 1 + 1 + 1 + 1 + 1 + 1 + 1)) (Nat.le_refl _) (by omega) ?_
                      refine lv_lconst (v := 0) hx hb dL_kept_979 (by decide) ?_
                      refine W.lcmp hx hb dL_kept_980 ?_
                      refine lv_if_ne (tgt := 993) hx hb dL_kept_981 (by decide) (fun c981 => ?_) (fun c981 => ?_)
                      · skip
                        have c981 := (fun z => c981 ((lg_cmp_eq _ _).mpr z))
                        exact W.widen (by omega) (by omega) (JP993  _ _ _  hw (lv_sub hl [5, 6] rfl))
                      · skip
                        have c981 := (lg_cmp_eq _ _).mp c981
                        refine lv_aload_n hx hb dL_kept_984 rfl (lv_at hl 6 rfl) ?_
                        refine lv_iload hx hb dL_kept_985 (lv_at hl 0 rfl) ?_
                        refine lo_callZ hF (c_fewest l hst D cI cL cZ (fun _ => Gs 0) hG a hGo vb hvb (jl_i0 c981)) k_fewest ⟨Nat.le_of_ble_eq_true rfl, Nat.le_of_ble_eq_true rfl⟩ hw [0] (by decide) rfl (hg_one rfl) rfl hl.1 rfl (Nat.le_of_ble_eq_true rfl) dL_kept_987 ⟨by show _ ≤ (3600 : Nat); omega, by show _ ≤ (21600 : Nat); omega⟩ (fun H locs hw => ?_)
                        have hw : LO D cI cL cZ A s Gs [a] H locs := hw
                        refine W.widen (k := 3462 + 1 + 1 + 1 + 1 + 1 + 1 + 1 + 1 + 1 + 1 + 1 + 40) (n := 6 * (3462 + 1 + 1 + 1 + 1 + 1 + 1 + 1 + 1 + 1 + 1 + 1 + 40)) (Nat.le_refl _) (by omega) ?_
                        refine lv_if_eq (tgt := 1030) hx hb dL_kept_990 (by decide) (fun c990 => ?_) (fun c990 => ?_)
                        · skip
                          exact absurd c990 (by decide)
                        · skip
                          exact W.widen (by omega) (by omega) (JP993  _ _ _  hw (lv_sub hl [5, 6] rfl))
  have JP801 : ∀ (H : Heap) (locs : List Loc) (ls : Array Slot), LO D cI cL cZ A s Gs [a] H locs → lv_has ls 15 [(5, .int (nI (ckZ a.2.1 16))), (3, .int (1)), (4, .int (nI (cln (zr a.2.1) a.2.1.1.2))), (1, .int (nI (a.2.1.1.2))), (2, .int (bI (¬ a.2.1.1.1 = true))), (0, .ref ((Gs 0).1 1))] → W p l e ({ frames := 9, cells := 3600, slots := 21600, locals := 186 } : Room) s m [.ref ((Gs 0).1 1)].toArray below meth c H locs (3455) (6 * (3455)) (MQ below (lqI D cI cL cZ Gs 1 [a] A) [.ref ((Gs 0).1 1)].toArray s 3600 21600 A) (F0 m 801 ls []) := by
    intro H locs ls hw hl
    refine lv_iload_n hx hb dL_kept_801 rfl (lv_at hl 1 rfl) ?_
    refine lv_if_eq (tgt := 942) hx hb dL_kept_802 (by decide) (fun c802 => ?_) (fun c802 => ?_)
    · skip
      exact absurd c802 (by decide)
    · skip
      refine lv_aload_n hx hb dL_kept_805 rfl (lv_at hl 5 rfl) ?_
      refine lv_iconst (v := 5) hx hb dL_kept_806 (by decide) ?_
      refine lo_callX hF (lx_eq (x_about (Gs := fun _ => Gs 0) hst hG hGo 5) (show _ = ((nI (ckZ a.2.1 16) : Int32).toInt64) from ab_5) (show _ = [a] from rfl)) k_about ⟨Nat.le_of_ble_eq_true rfl, Nat.le_of_ble_eq_true rfl⟩ hw [0] (by decide) rfl (hg_one rfl) rfl hl.1 rfl (Nat.le_of_ble_eq_true rfl) dL_kept_807 ⟨by show _ ≤ (3600 : Nat); omega, by show _ ≤ (21600 : Nat); omega⟩ (fun H locs hw => ?_)
      have hw : LO D cI cL cZ A s Gs [a] H locs := hw
      refine W.widen (k := 3455 + 1) (n := 6 * (3455 + 1)) (Nat.le_refl _) (by omega) ?_
      refine lv_iload hx hb dL_kept_810 (lv_at hl 0 rfl) ?_
      refine lv_i2l (v := (nI (ckZ a.2.1 16) : Int32).toInt64) hx hb dL_kept_812 rfl ?_
      refine W.lcmp hx hb dL_kept_813 ?_
      refine lv_if_ne (tgt := 942) hx hb dL_kept_814 (by decide) (fun c814 => ?_) (fun c814 => ?_)
      · skip
        exact (c814 ((lg_cmp_eq _ _).mpr rfl)).elim
      · skip
        have c814 := (lg_cmp_eq _ _).mp c814
        refine lv_aload_n hx hb dL_kept_817 rfl (lv_at hl 5 rfl) ?_
        refine lv_iload hx hb dL_kept_818 (lv_at hl 0 rfl) ?_
        refine lo_callX hF (lx_eq (x_keyAt (Gs := fun _ => Gs 0) hst hG hGo (nI (ckZ a.2.1 16))) (show _ = (-9) from ka_end) (show _ = [a] from rfl)) k_keyAt ⟨Nat.le_of_ble_eq_true rfl, Nat.le_of_ble_eq_true rfl⟩ hw [0] (by decide) rfl (hg_one rfl) rfl hl.1 rfl (Nat.le_of_ble_eq_true rfl) dL_kept_820 ⟨by show _ ≤ (3600 : Nat); omega, by show _ ≤ (21600 : Nat); omega⟩ (fun H locs hw => ?_)
        have hw : LO D cI cL cZ A s Gs [a] H locs := hw
        refine W.widen (k := 3455 + 1 + 1) (n := 6 * (3455 + 1 + 1)) (Nat.le_refl _) (by omega) ?_
        refine lv_ldc2 (v := (-9)) hx hb hown (hts _ (mlA 118 rfl)) dL_kept_823 ?_
        refine W.lcmp hx hb dL_kept_826 ?_
        refine lv_if_ne (tgt := 942) hx hb dL_kept_827 (by decide) (fun c827 => ?_) (fun c827 => ?_)
        · skip
          exact (c827 ((lg_cmp_eq _ _).mpr rfl)).elim
        · skip
          have c827 := (lg_cmp_eq _ _).mp c827
          refine lv_iload hx hb dL_kept_830 (lv_at hl 0 rfl) ?_
          refine lv_if_gt (tgt := 844) hx hb dL_kept_832 (by decide) (fun c832 => ?_) (fun c832 => ?_)
          · skip
            have c832 := cn_lt (a := 0) (b := ckZ a.2.1 16) (by omega) (by omega) c832
            exact W.widen (by omega) (by omega) (JP844  _ _ _  hw (lv_sub hl [0, 1, 2, 3, 4, 5] rfl))
          · skip
            have c832 := cn_nlt (a := 0) (b := ckZ a.2.1 16) (by omega) (by omega) c832
            refine lv_aload_n hx hb dL_kept_835 rfl (lv_at hl 5 rfl) ?_
            refine lo_callV (i := 0) hF (lv_eq (x_oldest (Gs := fun _ => Gs 0) hGo) (show _ = (-9) from ol_none (by omega)) (show _ = [a] from rfl)) k_oldest ⟨Nat.le_of_ble_eq_true rfl, Nat.le_of_ble_eq_true rfl⟩ hw rfl rfl rfl hl.1 rfl (Nat.le_of_ble_eq_true rfl) dL_kept_836 ⟨by show _ ≤ (3600 : Nat); omega, by show _ ≤ (21600 : Nat); omega⟩ (fun H locs hw => ?_)
            have hw : LO D cI cL cZ A s Gs [a] H locs := hw
            refine lv_bipush (v := (-9)) hx hb dL_kept_839 (by decide) ?_
            refine lv_icmp_ne (tgt := 942) hx hb dL_kept_841 (by decide) (fun c841 => ?_) (fun c841 => ?_)
            · skip
              exact absurd c841 (by decide)
            · skip
              exact W.widen (by omega) (by omega) (JP844  _ _ _  hw (lv_sub hl [0, 1, 2, 3, 4, 5] rfl))
  have JP560 : ∀ (H : Heap) (locs : List Loc) (ls : Array Slot), LO D cI cL cZ A s Gs [a] H locs → lv_has ls 15 [(3, .int (1)), (4, .int (nI (cln (zr a.2.1) a.2.1.1.2))), (1, .int (nI (a.2.1.1.2))), (2, .int (bI (¬ a.2.1.1.1 = true))), (0, .ref ((Gs 0).1 1))] → W p l e ({ frames := 9, cells := 3600, slots := 21600, locals := 186 } : Room) s m [.ref ((Gs 0).1 1)].toArray below meth c H locs (1604) (6 * (1604)) (MQ below (lqI D cI cL cZ Gs 1 [a] A) [.ref ((Gs 0).1 1)].toArray s 3600 21600 A) (F0 m 560 ls []) := by
    intro H locs ls hw hl
    refine lv_iconst (v := 0) hx hb dL_kept_560 (by decide) ?_
    refine lv_istore (lv' := [(5, .int (0)), (3, .int (1)), (4, .int (nI (cln (zr a.2.1) a.2.1.1.2))), (1, .int (nI (a.2.1.1.2))), (2, .int (bI (¬ a.2.1.1.1 = true))), (0, .ref ((Gs 0).1 1))]) hx hb dL_kept_561 hl (by decide) rfl (fun ls hl => ?_)
    refine lv_iconst (v := 0) hx hb dL_kept_563 (by decide) ?_
    refine lv_istore (lv' := [(6, .int (0)), (5, .int (0)), (3, .int (1)), (4, .int (nI (cln (zr a.2.1) a.2.1.1.2))), (1, .int (nI (a.2.1.1.2))), (2, .int (bI (¬ a.2.1.1.1 = true))), (0, .ref ((Gs 0).1 1))]) hx hb dL_kept_564 hl (by decide) rfl (fun ls hl => ?_)
    have LP566 : ∀ n9 : Nat, ∀ (k : Nat) (H : Heap) (locs : List Loc) (ls : Array Slot), (hk9 : k ≤ 16) → 16 - k < n9 → LO D cI cL cZ A s Gs [a] H locs → lv_has ls 15 [(6, .int (nI (k))), (5, .int (nI (ckZ a.2.1 k))), (3, .int (1)), (4, .int (nI (cln (zr a.2.1) a.2.1.1.2))), (1, .int (nI (a.2.1.1.2))), (2, .int (bI (¬ a.2.1.1.1 = true))), (0, .ref ((Gs 0).1 1))] → W p l e ({ frames := 9, cells := 3600, slots := 21600, locals := 186 } : Room) s m [.ref ((Gs 0).1 1)].toArray below meth c H locs (1610 + 115 * k) (6 * (1610 + 115 * k)) (MQ below (lqI D cI cL cZ Gs 1 [a] A) [.ref ((Gs 0).1 1)].toArray s 3600 21600 A) (F0 m 566 ls []) := by
      intro n9
      induction n9 with
      | zero => intros; omega
      | succ n9 ih566 =>
        intro k H locs ls hk9 hm9 hw hl
        refine lv_iload hx hb dL_kept_566 (lv_at hl 0 rfl) ?_
        refine lv_bipush (v := 16) hx hb dL_kept_568 (by decide) ?_
        refine lv_icmp_ge (tgt := 801) hx hb dL_kept_570 (by decide) (fun c570 => ?_) (fun c570 => ?_)
        · skip
          have c570 := cn_le (a := 16) (b := k) (by omega) (by omega) c570
          have hl : lv_has ls 15 [(6, .int (nI (k))), (5, .int (nI (ckZ a.2.1 16))), (3, .int (1)), (4, .int (nI (cln (zr a.2.1) a.2.1.1.2))), (1, .int (nI (a.2.1.1.2))), (2, .int (bI (¬ a.2.1.1.1 = true))), (0, .ref ((Gs 0).1 1))] := lv_re hl 1 rfl (show (nI (ckZ a.2.1 k)) = nI (ckZ a.2.1 16) from by rw [show k = 16 from by omega])
          exact W.widen (by omega) (by omega) (JP801  _ _ _  hw (lv_sub hl [1, 2, 3, 4, 5, 6] rfl))
        · skip
          have c570 := cn_nle (a := 16) (b := k) (by omega) (by omega) c570
          refine lv_iload_n hx hb dL_kept_573 rfl (lv_at hl 2 rfl) ?_
          refine lv_if_eq (tgt := 801) hx hb dL_kept_574 (by decide) (fun c574 => ?_) (fun c574 => ?_)
          · skip
            exact absurd c574 (by decide)
          · skip
            have hk16 : k < 16 := by omega
            have JP629 : ∀ (H : Heap) (locs : List Loc) (ls : Array Slot), LO D cI cL cZ A s Gs [a] H locs → lv_has ls 15 [(7, .int (a.2.1.2.2 6 k)), (8, .long ((vaZ a.2.1 (nI k)).toInt64)), (6, .int (nI (k))), (5, .int (nI (ckZ a.2.1 k))), (3, .int (1)), (4, .int (nI (cln (zr a.2.1) a.2.1.1.2))), (1, .int (nI (a.2.1.1.2))), (2, .int (bI (¬ a.2.1.1.1 = true))), (0, .ref ((Gs 0).1 1))] → W p l e ({ frames := 9, cells := 3600, slots := 21600, locals := 186 } : Room) s m [.ref ((Gs 0).1 1)].toArray below meth c H locs (1610 + 115 * k + 4) (6 * (1610 + 115 * k + 4)) (MQ below (lqI D cI cL cZ Gs 1 [a] A) [.ref ((Gs 0).1 1)].toArray s 3600 21600 A) (F0 m 629 ls []) := by
              intro H locs ls hw hl
              refine lv_aload_n hx hb dL_kept_629 rfl (lv_at hl 8 rfl) ?_
              refine lv_iload hx hb dL_kept_630 (lv_at hl 2 rfl) ?_
              refine lo_callX hF (lx_eq (x_get (Gs := fun _ => Gs 0) hst hG hGo (nI (k))) (show _ = (geJ a.2.1 (nI (k))) from rfl) (show _ = [a] from rfl)) k_get ⟨Nat.le_of_ble_eq_true rfl, Nat.le_of_ble_eq_true rfl⟩ hw [0] (by decide) rfl (hg_one rfl) rfl hl.1 rfl (Nat.le_of_ble_eq_true rfl) dL_kept_632 ⟨by show _ ≤ (3600 : Nat); omega, by show _ ≤ (21600 : Nat); omega⟩ (fun H locs hw => ?_)
              have hw : LO D cI cL cZ A s Gs [a] H locs := hw
              refine W.widen (k := 1610 + 115 * k + 4 + 1) (n := 6 * (1610 + 115 * k + 4 + 1)) (Nat.le_refl _) (by omega) ?_
              refine lv_iload_n hx hb dL_kept_635 rfl (lv_at hl 7 rfl) ?_
              refine lv_if_eq (tgt := 645) hx hb dL_kept_636 (by decide) (fun c636 => ?_) (fun c636 => ?_)
              · skip
                have c636 := bI_f c636
                refine lv_lload hx hb dL_kept_645 (lv_at hl 1 rfl) ?_
                refine W.lcmp hx hb dL_kept_647 ?_
                refine lv_if_ne (tgt := 655) hx hb dL_kept_648 (by decide) (fun c648 => ?_) (fun c648 => ?_)
                · skip
                  have c648 := (fun z => c648 ((lg_cmp_eq _ _).mpr z))
                  exact (c648 (ge_J hk16 (Decidable.not_not.mp c636))).elim
                · skip
                  have c648 := (lg_cmp_eq _ _).mp c648
                  refine lv_iconst (v := 1) hx hb dL_kept_651 (by decide) ?_
                  refine lv_goto (tgt := 656) hx hb dL_kept_652 (by decide) ?_
                  refine lv_istore_n (lv' := [(3, .int (1)), (7, .int (a.2.1.2.2 6 k)), (8, .long ((vaZ a.2.1 (nI k)).toInt64)), (6, .int (nI (k))), (5, .int (nI (ckZ a.2.1 k))), (4, .int (nI (cln (zr a.2.1) a.2.1.1.2))), (1, .int (nI (a.2.1.1.2))), (2, .int (bI (¬ a.2.1.1.1 = true))), (0, .ref ((Gs 0).1 1))]) hx hb dL_kept_656 rfl hl (by decide) rfl (fun ls hl => ?_)
                  refine lv_iconst (v := 0) hx hb dL_kept_657 (by decide) ?_
                  refine lv_istore (lv' := [(10, .int (0)), (3, .int (1)), (7, .int (a.2.1.2.2 6 k)), (8, .long ((vaZ a.2.1 (nI k)).toInt64)), (6, .int (nI (k))), (5, .int (nI (ckZ a.2.1 k))), (4, .int (nI (cln (zr a.2.1) a.2.1.1.2))), (1, .int (nI (a.2.1.1.2))), (2, .int (bI (¬ a.2.1.1.1 = true))), (0, .ref ((Gs 0).1 1))]) hx hb dL_kept_658 hl (by decide) rfl (fun ls hl => ?_)
                  have LP660 : ∀ n9 : Nat, ∀ (o : Nat) (H : Heap) (locs : List Loc) (ls : Array Slot), (ho9 : o ≤ 4 * a.2.1.1.2) → 4 * a.2.1.1.2 - o < n9 → LO D cI cL cZ A s Gs [a] H locs → lv_has ls 15 [(10, .int (nI (o))), (7, .int (a.2.1.2.2 6 k)), (8, .long ((vaZ a.2.1 (nI k)).toInt64)), (6, .int (nI (k))), (5, .int (nI (ckZ a.2.1 k))), (3, .int (1)), (4, .int (nI (cln (zr a.2.1) a.2.1.1.2))), (1, .int (nI (a.2.1.1.2))), (2, .int (bI (¬ a.2.1.1.1 = true))), (0, .ref ((Gs 0).1 1))] → W p l e ({ frames := 9, cells := 3600, slots := 21600, locals := 186 } : Room) s m [.ref ((Gs 0).1 1)].toArray below meth c H locs (1610 + 115 * k + 6 + 3 * o) (6 * (1610 + 115 * k + 6 + 3 * o)) (MQ below (lqI D cI cL cZ Gs 1 [a] A) [.ref ((Gs 0).1 1)].toArray s 3600 21600 A) (F0 m 660 ls []) := by
                    intro n9
                    induction n9 with
                    | zero => intros; omega
                    | succ n9 ih660 =>
                      intro o H locs ls ho9 hm9 hw hl
                      refine lv_iload hx hb dL_kept_660 (lv_at hl 0 rfl) ?_
                      refine lv_iconst (v := 4) hx hb dL_kept_662 (by decide) ?_
                      refine lv_iload_n hx hb dL_kept_663 rfl (lv_at hl 7 rfl) ?_
                      refine lv_imul hx hb dL_kept_664 ?_
                      refine lv_as (y := nI (4 * a.2.1.1.2)) (pk_mul (4) (a.2.1.1.2)) ?_
                      refine lv_icmp_ge (tgt := 723) hx hb dL_kept_665 (by decide) (fun c665 => ?_) (fun c665 => ?_)
                      · skip
                        have c665 := cn_le (a := 4 * a.2.1.1.2) (b := o) (by omega) (by omega) c665
                        refine lv_lload hx hb dL_kept_723 (lv_at hl 2 rfl) ?_
                        refine lv_ldc2 (v := (-9)) hx hb hown (hts _ (mlA 118 rfl)) dL_kept_725 ?_
                        refine W.lcmp hx hb dL_kept_728 ?_
                        refine lv_if_eq (tgt := 795) hx hb dL_kept_729 (by decide) (fun c729 => ?_) (fun c729 => ?_)
                        · skip
                          have c729 := (lg_cmp_eq _ _).mp c729
                          refine lv_iinc (v := nI (k + 1)) (lv' := [(6, .int (nI (k + 1))), (10, .int (nI (o))), (7, .int (a.2.1.2.2 6 k)), (8, .long ((vaZ a.2.1 (nI k)).toInt64)), (5, .int (nI (ckZ a.2.1 k))), (3, .int (1)), (4, .int (nI (cln (zr a.2.1) a.2.1.1.2))), (1, .int (nI (a.2.1.1.2))), (2, .int (bI (¬ a.2.1.1.1 = true))), (0, .ref ((Gs 0).1 1))]) hx hb dL_kept_795 hl (k := 3) rfl (nI_add _ 1) (by decide) rfl (fun ls hl => ?_)
                          refine lv_goto (tgt := 566) hx hb dL_kept_798 (by decide) ?_
                          have hl : lv_has ls 15 [(6, .int (nI ((k + 1)))), (10, .int (nI (o))), (7, .int (a.2.1.2.2 6 k)), (8, .long ((vaZ a.2.1 (nI k)).toInt64)), (5, .int (nI (ckZ a.2.1 k))), (3, .int (1)), (4, .int (nI (cln (zr a.2.1) a.2.1.1.2))), (1, .int (nI (a.2.1.1.2))), (2, .int (bI (¬ a.2.1.1.1 = true))), (0, .ref ((Gs 0).1 1))] := lv_re hl 0 rfl (show (nI (k + 1)) = nI ((k + 1)) from rfl)
                          have hl : lv_has ls 15 [(6, .int (nI ((k + 1)))), (10, .int (nI (o))), (7, .int (a.2.1.2.2 6 k)), (8, .long ((vaZ a.2.1 (nI k)).toInt64)), (5, .int (nI (ckZ a.2.1 (k + 1)))), (3, .int (1)), (4, .int (nI (cln (zr a.2.1) a.2.1.1.2))), (1, .int (nI (a.2.1.1.2))), (2, .int (bI (¬ a.2.1.1.1 = true))), (0, .ref ((Gs 0).1 1))] := lv_re hl 4 rfl (show (nI (ckZ a.2.1 k)) = nI (ckZ a.2.1 (k + 1)) from by rw [ck_s, if_pos c729]; first | done | rfl)
                          exact W.widen (by omega) (by omega) (ih566 (k + 1) _ _ _ (by omega) (by omega) hw (lv_sub hl [0, 4, 5, 6, 7, 8, 9] rfl))
                        · skip
                          have c729 := (fun z => c729 ((lg_cmp_eq _ _).mpr z))
                          refine lv_iload_n hx hb dL_kept_732 rfl (lv_at hl 5 rfl) ?_
                          refine lv_if_eq (tgt := 795) hx hb dL_kept_733 (by decide) (fun c733 => ?_) (fun c733 => ?_)
                          · skip
                            exact absurd c733 (by decide)
                          · skip
                            obtain ⟨o9, ho91, ho92, ho93, ho94⟩ := ol_some hk16 c729
                            refine lv_aload_n hx hb dL_kept_736 rfl (lv_at hl 9 rfl) ?_
                            refine lv_iload hx hb dL_kept_737 (lv_at hl 4 rfl) ?_
                            refine lo_callX hF (lx_eq (x_keyAt (Gs := fun _ => Gs 0) hst hG hGo (nI (ckZ a.2.1 k))) (show _ = ((nI (k) : Int32).toInt64) from ka_ck hk16 c729) (show _ = [a] from rfl)) k_keyAt ⟨Nat.le_of_ble_eq_true rfl, Nat.le_of_ble_eq_true rfl⟩ hw [0] (by decide) rfl (hg_one rfl) rfl hl.1 rfl (Nat.le_of_ble_eq_true rfl) dL_kept_739 ⟨by show _ ≤ (3600 : Nat); omega, by show _ ≤ (21600 : Nat); omega⟩ (fun H locs hw => ?_)
                            have hw : LO D cI cL cZ A s Gs [a] H locs := hw
                            refine W.widen (k := 1610 + 115 * k + 6 + 3 * o + 1) (n := 6 * (1610 + 115 * k + 6 + 3 * o + 1)) (Nat.le_refl _) (by omega) ?_
                            refine lv_iload hx hb dL_kept_742 (lv_at hl 3 rfl) ?_
                            refine lv_i2l (v := (nI (k) : Int32).toInt64) hx hb dL_kept_744 rfl ?_
                            refine W.lcmp hx hb dL_kept_745 ?_
                            refine lv_if_ne (tgt := 790) hx hb dL_kept_746 (by decide) (fun c746 => ?_) (fun c746 => ?_)
                            · skip
                              exact (c746 ((lg_cmp_eq _ _).mpr rfl)).elim
                            · skip
                              have c746 := (lg_cmp_eq _ _).mp c746
                              refine lv_aload_n hx hb dL_kept_749 rfl (lv_at hl 9 rfl) ?_
                              refine lv_iload hx hb dL_kept_750 (lv_at hl 1 rfl) ?_
                              refine lv_iconst (v := 4) hx hb dL_kept_752 (by decide) ?_
                              refine lo_callX hF (lx_eq (x_page (Gs := fun _ => Gs 0) hst hG hGo (a.2.1.2.2 6 k) 4) (show _ = 1 from pg_lv hX.1 hk16 c729) (show _ = [a] from rfl)) k_page ⟨Nat.le_of_ble_eq_true rfl, Nat.le_of_ble_eq_true rfl⟩ hw [0] (by decide) rfl (hg_one rfl) rfl hl.1 rfl (Nat.le_of_ble_eq_true rfl) dL_kept_753 ⟨by show _ ≤ (3600 : Nat); omega, by show _ ≤ (21600 : Nat); omega⟩ (fun H locs hw => ?_)
                              have hw : LO D cI cL cZ A s Gs [a] H locs := hw
                              refine W.widen (k := 1610 + 115 * k + 6 + 3 * o + 1 + 1) (n := 6 * (1610 + 115 * k + 6 + 3 * o + 1 + 1)) (Nat.le_refl _) (by omega) ?_
                              refine lv_lconst (v := 1) hx hb dL_kept_756 (by decide) ?_
                              refine W.lcmp hx hb dL_kept_757 ?_
                              refine lv_if_ne (tgt := 790) hx hb dL_kept_758 (by decide) (fun c758 => ?_) (fun c758 => ?_)
                              · skip
                                exact (c758 ((lg_cmp_eq _ _).mpr rfl)).elim
                              · skip
                                have c758 := (lg_cmp_eq _ _).mp c758
                                refine lv_aload_n hx hb dL_kept_761 rfl (lv_at hl 9 rfl) ?_
                                refine lv_aload_n hx hb dL_kept_762 rfl (lv_at hl 9 rfl) ?_
                                refine lv_aload_n hx hb dL_kept_763 rfl (lv_at hl 9 rfl) ?_
                                refine lo_callV (i := 0) hF (lv_eq (x_oldest (Gs := fun _ => Gs 0) hGo) (show _ = nI (o9) from (by rw [ho91]; rfl)) (show _ = [a] from rfl)) k_oldest ⟨Nat.le_of_ble_eq_true rfl, Nat.le_of_ble_eq_true rfl⟩ hw rfl rfl rfl hl.1 rfl (Nat.le_of_ble_eq_true rfl) dL_kept_764 ⟨by show _ ≤ (3600 : Nat); omega, by show _ ≤ (21600 : Nat); omega⟩ (fun H locs hw => ?_)
                                have hw : LO D cI cL cZ A s Gs [a] H locs := hw
                                refine lo_callX hF (lx_eq (x_newest (Gs := fun _ => Gs 0) hst hG hGo (nI (o9))) (show _ = ((a.2.1.2.2 6 o9).toInt64) from ne_J ho92) (show _ = [a] from rfl)) k_newest ⟨Nat.le_of_ble_eq_true rfl, Nat.le_of_ble_eq_true rfl⟩ hw [0] (by decide) rfl (hg_one rfl) rfl hl.1 rfl (Nat.le_of_ble_eq_true rfl) dL_kept_767 ⟨by show _ ≤ (3600 : Nat); omega, by show _ ≤ (21600 : Nat); omega⟩ (fun H locs hw => ?_)
                                have hw : LO D cI cL cZ A s Gs [a] H locs := hw
                                refine W.widen (k := 1610 + 115 * k + 6 + 3 * o + 1 + 1 + 1) (n := 6 * (1610 + 115 * k + 6 + 3 * o + 1 + 1 + 1)) (Nat.le_refl _) (by omega) ?_
                                refine lv_l2i (v := ((a.2.1.2.2 6 o9).toInt64).toInt32) hx hb dL_kept_770 rfl ?_
                                refine lv_as (show ((a.2.1.2.2 6 o9).toInt64).toInt32 = a.2.1.2.2 6 o9 from Int32.toInt32_toInt64 _) ?_
                                refine lv_iconst (v := 3) hx hb dL_kept_771 (by decide) ?_
                                refine lo_callX hF (lx_eq (x_page (Gs := fun _ => Gs 0) hst hG hGo (a.2.1.2.2 6 o9) 3) (show _ = (pgJ a.2.1 (a.2.1.2.2 6 o9) 3) from rfl) (show _ = [a] from rfl)) k_page ⟨Nat.le_of_ble_eq_true rfl, Nat.le_of_ble_eq_true rfl⟩ hw [0] (by decide) rfl (hg_one rfl) rfl hl.1 rfl (Nat.le_of_ble_eq_true rfl) dL_kept_772 ⟨by show _ ≤ (3600 : Nat); omega, by show _ ≤ (21600 : Nat); omega⟩ (fun H locs hw => ?_)
                                have hw : LO D cI cL cZ A s Gs [a] H locs := hw
                                refine W.widen (k := 1610 + 115 * k + 6 + 3 * o + 1 + 1 + 1 + 1) (n := 6 * (1610 + 115 * k + 6 + 3 * o + 1 + 1 + 1 + 1)) (Nat.le_refl _) (by omega) ?_
                                refine lv_aload_n hx hb dL_kept_775 rfl (lv_at hl 9 rfl) ?_
                                refine lv_iload hx hb dL_kept_776 (lv_at hl 1 rfl) ?_
                                refine lv_iconst (v := 3) hx hb dL_kept_778 (by decide) ?_
                                refine lo_callX hF (lx_eq (x_page (Gs := fun _ => Gs 0) hst hG hGo (a.2.1.2.2 6 k) 3) (show _ = (pgJ a.2.1 (a.2.1.2.2 6 k) 3) from rfl) (show _ = [a] from rfl)) k_page ⟨Nat.le_of_ble_eq_true rfl, Nat.le_of_ble_eq_true rfl⟩ hw [0] (by decide) rfl (hg_one rfl) rfl hl.1 rfl (Nat.le_of_ble_eq_true rfl) dL_kept_779 ⟨by show _ ≤ (3600 : Nat); omega, by show _ ≤ (21600 : Nat); omega⟩ (fun H locs hw => ?_)
                                have hw : LO D cI cL cZ A s Gs [a] H locs := hw
                                refine W.widen (k := 1610 + 115 * k + 6 + 3 * o + 1 + 1 + 1 + 1 + 1) (n := 6 * (1610 + 115 * k + 6 + 3 * o + 1 + 1 + 1 + 1 + 1)) (Nat.le_refl _) (by omega) ?_
                                refine W.lcmp hx hb dL_kept_782 ?_
                                refine lv_if_gt (tgt := 790) hx hb dL_kept_783 (by decide) (fun c783 => ?_) (fun c783 => ?_)
                                · skip
                                  have c783 := (lg_cmp_gt _ _).mp c783
                                  exact absurd c783 (old_le hX.1 hk16 c729 ho92 ho93 ho94)
                                · skip
                                  have c783 := (fun z => c783 ((lg_cmp_gt _ _).mpr z))
                                  refine lv_iconst (v := 1) hx hb dL_kept_786 (by decide) ?_
                                  refine lv_goto (tgt := 791) hx hb dL_kept_787 (by decide) ?_
                                  refine lv_istore_n (lv' := [(3, .int (1)), (10, .int (nI (o))), (7, .int (a.2.1.2.2 6 k)), (8, .long ((vaZ a.2.1 (nI k)).toInt64)), (6, .int (nI (k))), (5, .int (nI (ckZ a.2.1 k))), (4, .int (nI (cln (zr a.2.1) a.2.1.1.2))), (1, .int (nI (a.2.1.1.2))), (2, .int (bI (¬ a.2.1.1.1 = true))), (0, .ref ((Gs 0).1 1))]) hx hb dL_kept_791 rfl hl (by decide) rfl (fun ls hl => ?_)
                                  refine lv_iinc (v := nI (ckZ a.2.1 k + 1)) (lv' := [(5, .int (nI (ckZ a.2.1 k + 1))), (3, .int (1)), (10, .int (nI (o))), (7, .int (a.2.1.2.2 6 k)), (8, .long ((vaZ a.2.1 (nI k)).toInt64)), (6, .int (nI (k))), (4, .int (nI (cln (zr a.2.1) a.2.1.1.2))), (1, .int (nI (a.2.1.1.2))), (2, .int (bI (¬ a.2.1.1.1 = true))), (0, .ref ((Gs 0).1 1))]) hx hb dL_kept_792 hl (k := 5) rfl (nI_add _ 1) (by decide) rfl (fun ls hl => ?_)
                                  refine lv_iinc (v := nI (k + 1)) (lv' := [(6, .int (nI (k + 1))), (5, .int (nI (ckZ a.2.1 k + 1))), (3, .int (1)), (10, .int (nI (o))), (7, .int (a.2.1.2.2 6 k)), (8, .long ((vaZ a.2.1 (nI k)).toInt64)), (4, .int (nI (cln (zr a.2.1) a.2.1.1.2))), (1, .int (nI (a.2.1.1.2))), (2, .int (bI (¬ a.2.1.1.1 = true))), (0, .ref ((Gs 0).1 1))]) hx hb dL_kept_795 hl (k := 5) rfl (nI_add _ 1) (by decide) rfl (fun ls hl => ?_)
                                  refine lv_goto (tgt := 566) hx hb dL_kept_798 (by decide) ?_
                                  have hl : lv_has ls 15 [(6, .int (nI ((k + 1)))), (5, .int (nI (ckZ a.2.1 k + 1))), (3, .int (1)), (10, .int (nI (o))), (7, .int (a.2.1.2.2 6 k)), (8, .long ((vaZ a.2.1 (nI k)).toInt64)), (4, .int (nI (cln (zr a.2.1) a.2.1.1.2))), (1, .int (nI (a.2.1.1.2))), (2, .int (bI (¬ a.2.1.1.1 = true))), (0, .ref ((Gs 0).1 1))] := lv_re hl 0 rfl (show (nI (k + 1)) = nI ((k + 1)) from rfl)
                                  have hl : lv_has ls 15 [(6, .int (nI ((k + 1)))), (5, .int (nI (ckZ a.2.1 (k + 1)))), (3, .int (1)), (10, .int (nI (o))), (7, .int (a.2.1.2.2 6 k)), (8, .long ((vaZ a.2.1 (nI k)).toInt64)), (4, .int (nI (cln (zr a.2.1) a.2.1.1.2))), (1, .int (nI (a.2.1.1.2))), (2, .int (bI (¬ a.2.1.1.1 = true))), (0, .ref ((Gs 0).1 1))] := lv_re hl 1 rfl (show (nI (ckZ a.2.1 k + 1)) = nI (ckZ a.2.1 (k + 1)) from by rw [ck_s, if_neg c729]; first | done | rfl)
                                  exact W.widen (by omega) (by omega) (ih566 (k + 1) _ _ _ (by omega) (by omega) hw (lv_sub hl [0, 1, 2, 6, 7, 8, 9] rfl))
                      · skip
                        have c665 := cn_nle (a := 4 * a.2.1.1.2) (b := o) (by omega) (by omega) c665
                        refine lv_iload_n hx hb dL_kept_668 rfl (lv_at hl 5 rfl) ?_
                        refine lv_if_eq (tgt := 723) hx hb dL_kept_669 (by decide) (fun c669 => ?_) (fun c669 => ?_)
                        · skip
                          exact absurd c669 (by decide)
                        · skip
                          refine lv_aload_n hx hb dL_kept_672 rfl (lv_at hl 9 rfl) ?_
                          refine lv_iload hx hb dL_kept_673 (lv_at hl 0 rfl) ?_
                          refine lv_iconst (v := 1) hx hb dL_kept_675 (by decide) ?_
                          refine lo_callX hF (lx_eq (x_page (Gs := fun _ => Gs 0) hst hG hGo (nI (o)) 1) (show _ = ((tpZ a.2.1 (nI o) 1).toInt64) from pg_J (w := 1) hB (by omega) (by decide)) (show _ = [a] from rfl)) k_page ⟨Nat.le_of_ble_eq_true rfl, Nat.le_of_ble_eq_true rfl⟩ hw [0] (by decide) rfl (hg_one rfl) rfl hl.1 rfl (Nat.le_of_ble_eq_true rfl) dL_kept_676 ⟨by show _ ≤ (3600 : Nat); omega, by show _ ≤ (21600 : Nat); omega⟩ (fun H locs hw => ?_)
                          have hw : LO D cI cL cZ A s Gs [a] H locs := hw
                          refine W.widen (k := 1610 + 115 * k + 6 + 3 * o + 1) (n := 6 * (1610 + 115 * k + 6 + 3 * o + 1)) (Nat.le_refl _) (by omega) ?_
                          refine lv_iload hx hb dL_kept_679 (lv_at hl 3 rfl) ?_
                          refine lv_i2l (v := (nI (k) : Int32).toInt64) hx hb dL_kept_681 rfl ?_
                          refine W.lcmp hx hb dL_kept_682 ?_
                          refine lv_if_ne (tgt := 711) hx hb dL_kept_683 (by decide) (fun c683 => ?_) (fun c683 => ?_)
                          · skip
                            have c683 := (fun z => c683 ((lg_cmp_eq _ _).mpr z))
                            refine lv_iconst (v := 1) hx hb dL_kept_711 (by decide) ?_
                            refine lv_goto (tgt := 716) hx hb dL_kept_712 (by decide) ?_
                            refine lv_istore_n (lv' := [(3, .int (1)), (10, .int (nI (o))), (7, .int (a.2.1.2.2 6 k)), (8, .long ((vaZ a.2.1 (nI k)).toInt64)), (6, .int (nI (k))), (5, .int (nI (ckZ a.2.1 k))), (4, .int (nI (cln (zr a.2.1) a.2.1.1.2))), (1, .int (nI (a.2.1.1.2))), (2, .int (bI (¬ a.2.1.1.1 = true))), (0, .ref ((Gs 0).1 1))]) hx hb dL_kept_716 rfl hl (by decide) rfl (fun ls hl => ?_)
                            refine lv_iinc (v := nI (o + 1)) (lv' := [(10, .int (nI (o + 1))), (3, .int (1)), (7, .int (a.2.1.2.2 6 k)), (8, .long ((vaZ a.2.1 (nI k)).toInt64)), (6, .int (nI (k))), (5, .int (nI (ckZ a.2.1 k))), (4, .int (nI (cln (zr a.2.1) a.2.1.1.2))), (1, .int (nI (a.2.1.1.2))), (2, .int (bI (¬ a.2.1.1.1 = true))), (0, .ref ((Gs 0).1 1))]) hx hb dL_kept_717 hl (k := 1) rfl (nI_add _ 1) (by decide) rfl (fun ls hl => ?_)
                            refine lv_goto (tgt := 660) hx hb dL_kept_720 (by decide) ?_
                            have hl : lv_has ls 15 [(10, .int (nI ((o + 1)))), (3, .int (1)), (7, .int (a.2.1.2.2 6 k)), (8, .long ((vaZ a.2.1 (nI k)).toInt64)), (6, .int (nI (k))), (5, .int (nI (ckZ a.2.1 k))), (4, .int (nI (cln (zr a.2.1) a.2.1.1.2))), (1, .int (nI (a.2.1.1.2))), (2, .int (bI (¬ a.2.1.1.1 = true))), (0, .ref ((Gs 0).1 1))] := lv_re hl 0 rfl (show (nI (o + 1)) = nI ((o + 1)) from rfl)
                            exact W.widen (by omega) (by omega) (ih660 (o + 1) _ _ _ (by omega) (by omega) hw (lv_sub hl [0, 2, 3, 4, 5, 1, 6, 7, 8, 9] rfl))
                          · skip
                            have c683 := (lg_cmp_eq _ _).mp c683
                            refine lv_iload hx hb dL_kept_686 (lv_at hl 1 rfl) ?_
                            refine lv_bipush (v := (-9)) hx hb dL_kept_688 (by decide) ?_
                            refine lv_icmp_eq (tgt := 715) hx hb dL_kept_690 (by decide) (fun c690 => ?_) (fun c690 => ?_)
                            · skip
                              exact absurd c690 (ky_ne hX.1 (by omega) hk16 c683)
                            · skip
                              refine lv_aload_n hx hb dL_kept_693 rfl (lv_at hl 9 rfl) ?_
                              refine lv_iload hx hb dL_kept_694 (lv_at hl 0 rfl) ?_
                              refine lv_iconst (v := 3) hx hb dL_kept_696 (by decide) ?_
                              refine lo_callX hF (lx_eq (x_page (Gs := fun _ => Gs 0) hst hG hGo (nI (o)) 3) (show _ = ((tpZ a.2.1 (nI o) 3).toInt64) from pg_J (w := 3) hB (by omega) (by decide)) (show _ = [a] from rfl)) k_page ⟨Nat.le_of_ble_eq_true rfl, Nat.le_of_ble_eq_true rfl⟩ hw [0] (by decide) rfl (hg_one rfl) rfl hl.1 rfl (Nat.le_of_ble_eq_true rfl) dL_kept_697 ⟨by show _ ≤ (3600 : Nat); omega, by show _ ≤ (21600 : Nat); omega⟩ (fun H locs hw => ?_)
                              have hw : LO D cI cL cZ A s Gs [a] H locs := hw
                              refine W.widen (k := 1610 + 115 * k + 6 + 3 * o + 1 + 1) (n := 6 * (1610 + 115 * k + 6 + 3 * o + 1 + 1)) (Nat.le_refl _) (by omega) ?_
                              refine lv_aload_n hx hb dL_kept_700 rfl (lv_at hl 9 rfl) ?_
                              refine lv_iload hx hb dL_kept_701 (lv_at hl 1 rfl) ?_
                              refine lv_iconst (v := 3) hx hb dL_kept_703 (by decide) ?_
                              refine lo_callX hF (lx_eq (x_page (Gs := fun _ => Gs 0) hst hG hGo (a.2.1.2.2 6 k) 3) (show _ = (pgJ a.2.1 (a.2.1.2.2 6 k) 3) from rfl) (show _ = [a] from rfl)) k_page ⟨Nat.le_of_ble_eq_true rfl, Nat.le_of_ble_eq_true rfl⟩ hw [0] (by decide) rfl (hg_one rfl) rfl hl.1 rfl (Nat.le_of_ble_eq_true rfl) dL_kept_704 ⟨by show _ ≤ (3600 : Nat); omega, by show _ ≤ (21600 : Nat); omega⟩ (fun H locs hw => ?_)
                              have hw : LO D cI cL cZ A s Gs [a] H locs := hw
                              refine W.widen (k := 1610 + 115 * k + 6 + 3 * o + 1 + 1 + 1) (n := 6 * (1610 + 115 * k + 6 + 3 * o + 1 + 1 + 1)) (Nat.le_refl _) (by omega) ?_
                              refine W.lcmp hx hb dL_kept_707 ?_
                              refine lv_if_gt (tgt := 715) hx hb dL_kept_708 (by decide) (fun c708 => ?_) (fun c708 => ?_)
                              · skip
                                have c708 := (lg_cmp_gt _ _).mp c708
                                exact absurd c708 (mk_le hX.1 (by omega) hk16 c683)
                              · skip
                                have c708 := (fun z => c708 ((lg_cmp_gt _ _).mpr z))
                                refine lv_iconst (v := 1) hx hb dL_kept_711 (by decide) ?_
                                refine lv_goto (tgt := 716) hx hb dL_kept_712 (by decide) ?_
                                refine lv_istore_n (lv' := [(3, .int (1)), (10, .int (nI (o))), (7, .int (a.2.1.2.2 6 k)), (8, .long ((vaZ a.2.1 (nI k)).toInt64)), (6, .int (nI (k))), (5, .int (nI (ckZ a.2.1 k))), (4, .int (nI (cln (zr a.2.1) a.2.1.1.2))), (1, .int (nI (a.2.1.1.2))), (2, .int (bI (¬ a.2.1.1.1 = true))), (0, .ref ((Gs 0).1 1))]) hx hb dL_kept_716 rfl hl (by decide) rfl (fun ls hl => ?_)
                                refine lv_iinc (v := nI (o + 1)) (lv' := [(10, .int (nI (o + 1))), (3, .int (1)), (7, .int (a.2.1.2.2 6 k)), (8, .long ((vaZ a.2.1 (nI k)).toInt64)), (6, .int (nI (k))), (5, .int (nI (ckZ a.2.1 k))), (4, .int (nI (cln (zr a.2.1) a.2.1.1.2))), (1, .int (nI (a.2.1.1.2))), (2, .int (bI (¬ a.2.1.1.1 = true))), (0, .ref ((Gs 0).1 1))]) hx hb dL_kept_717 hl (k := 1) rfl (nI_add _ 1) (by decide) rfl (fun ls hl => ?_)
                                refine lv_goto (tgt := 660) hx hb dL_kept_720 (by decide) ?_
                                have hl : lv_has ls 15 [(10, .int (nI ((o + 1)))), (3, .int (1)), (7, .int (a.2.1.2.2 6 k)), (8, .long ((vaZ a.2.1 (nI k)).toInt64)), (6, .int (nI (k))), (5, .int (nI (ckZ a.2.1 k))), (4, .int (nI (cln (zr a.2.1) a.2.1.1.2))), (1, .int (nI (a.2.1.1.2))), (2, .int (bI (¬ a.2.1.1.1 = true))), (0, .ref ((Gs 0).1 1))] := lv_re hl 0 rfl (show (nI (o + 1)) = nI ((o + 1)) from rfl)
                                exact W.widen (by omega) (by omega) (ih660 (o + 1) _ _ _ (by omega) (by omega) hw (lv_sub hl [0, 2, 3, 4, 5, 1, 6, 7, 8, 9] rfl))
                  have hl : lv_has ls 15 [(10, .int (nI (0))), (3, .int (1)), (7, .int (a.2.1.2.2 6 k)), (8, .long ((vaZ a.2.1 (nI k)).toInt64)), (6, .int (nI (k))), (5, .int (nI (ckZ a.2.1 k))), (4, .int (nI (cln (zr a.2.1) a.2.1.1.2))), (1, .int (nI (a.2.1.1.2))), (2, .int (bI (¬ a.2.1.1.1 = true))), (0, .ref ((Gs 0).1 1))] := lv_re hl 0 rfl (show 0 = nI (0) from rfl)
                  exact W.widen (by omega) (by omega) (LP660 ((4 * a.2.1.1.2 - 0) + 1) 0 _ _ _ (by omega) (by omega) hw (lv_sub hl [0, 2, 3, 4, 5, 1, 6, 7, 8, 9] rfl))
              · skip
                have c636 := bI_t c636
                refine lv_ldc2 (v := (-9000000000000000003)) hx hb hown (hts _ (mlA 5 rfl)) dL_kept_639 ?_
                refine lv_goto (tgt := 647) hx hb dL_kept_642 (by decide) ?_
                refine W.lcmp hx hb dL_kept_647 ?_
                refine lv_if_ne (tgt := 655) hx hb dL_kept_648 (by decide) (fun c648 => ?_) (fun c648 => ?_)
                · skip
                  have c648 := (fun z => c648 ((lg_cmp_eq _ _).mpr z))
                  exact (c648 (ge_off hk16 c636)).elim
                · skip
                  have c648 := (lg_cmp_eq _ _).mp c648
                  refine lv_iconst (v := 1) hx hb dL_kept_651 (by decide) ?_
                  refine lv_goto (tgt := 656) hx hb dL_kept_652 (by decide) ?_
                  refine lv_istore_n (lv' := [(3, .int (1)), (7, .int (a.2.1.2.2 6 k)), (8, .long ((vaZ a.2.1 (nI k)).toInt64)), (6, .int (nI (k))), (5, .int (nI (ckZ a.2.1 k))), (4, .int (nI (cln (zr a.2.1) a.2.1.1.2))), (1, .int (nI (a.2.1.1.2))), (2, .int (bI (¬ a.2.1.1.1 = true))), (0, .ref ((Gs 0).1 1))]) hx hb dL_kept_656 rfl hl (by decide) rfl (fun ls hl => ?_)
                  refine lv_iconst (v := 0) hx hb dL_kept_657 (by decide) ?_
                  refine lv_istore (lv' := [(10, .int (0)), (3, .int (1)), (7, .int (a.2.1.2.2 6 k)), (8, .long ((vaZ a.2.1 (nI k)).toInt64)), (6, .int (nI (k))), (5, .int (nI (ckZ a.2.1 k))), (4, .int (nI (cln (zr a.2.1) a.2.1.1.2))), (1, .int (nI (a.2.1.1.2))), (2, .int (bI (¬ a.2.1.1.1 = true))), (0, .ref ((Gs 0).1 1))]) hx hb dL_kept_658 hl (by decide) rfl (fun ls hl => ?_)
                  have LP660 : ∀ n9 : Nat, ∀ (o : Nat) (H : Heap) (locs : List Loc) (ls : Array Slot), (ho9 : o ≤ 4 * a.2.1.1.2) → 4 * a.2.1.1.2 - o < n9 → LO D cI cL cZ A s Gs [a] H locs → lv_has ls 15 [(10, .int (nI (o))), (7, .int (a.2.1.2.2 6 k)), (8, .long ((vaZ a.2.1 (nI k)).toInt64)), (6, .int (nI (k))), (5, .int (nI (ckZ a.2.1 k))), (3, .int (1)), (4, .int (nI (cln (zr a.2.1) a.2.1.1.2))), (1, .int (nI (a.2.1.1.2))), (2, .int (bI (¬ a.2.1.1.1 = true))), (0, .ref ((Gs 0).1 1))] → W p l e ({ frames := 9, cells := 3600, slots := 21600, locals := 186 } : Room) s m [.ref ((Gs 0).1 1)].toArray below meth c H locs (1610 + 115 * k + 6 + 3 * o) (6 * (1610 + 115 * k + 6 + 3 * o)) (MQ below (lqI D cI cL cZ Gs 1 [a] A) [.ref ((Gs 0).1 1)].toArray s 3600 21600 A) (F0 m 660 ls []) := by
                    intro n9
                    induction n9 with
                    | zero => intros; omega
                    | succ n9 ih660 =>
                      intro o H locs ls ho9 hm9 hw hl
                      refine lv_iload hx hb dL_kept_660 (lv_at hl 0 rfl) ?_
                      refine lv_iconst (v := 4) hx hb dL_kept_662 (by decide) ?_
                      refine lv_iload_n hx hb dL_kept_663 rfl (lv_at hl 7 rfl) ?_
                      refine lv_imul hx hb dL_kept_664 ?_
                      refine lv_as (y := nI (4 * a.2.1.1.2)) (pk_mul (4) (a.2.1.1.2)) ?_
                      refine lv_icmp_ge (tgt := 723) hx hb dL_kept_665 (by decide) (fun c665 => ?_) (fun c665 => ?_)
                      · skip
                        have c665 := cn_le (a := 4 * a.2.1.1.2) (b := o) (by omega) (by omega) c665
                        refine lv_lload hx hb dL_kept_723 (lv_at hl 2 rfl) ?_
                        refine lv_ldc2 (v := (-9)) hx hb hown (hts _ (mlA 118 rfl)) dL_kept_725 ?_
                        refine W.lcmp hx hb dL_kept_728 ?_
                        refine lv_if_eq (tgt := 795) hx hb dL_kept_729 (by decide) (fun c729 => ?_) (fun c729 => ?_)
                        · skip
                          have c729 := (lg_cmp_eq _ _).mp c729
                          refine lv_iinc (v := nI (k + 1)) (lv' := [(6, .int (nI (k + 1))), (10, .int (nI (o))), (7, .int (a.2.1.2.2 6 k)), (8, .long ((vaZ a.2.1 (nI k)).toInt64)), (5, .int (nI (ckZ a.2.1 k))), (3, .int (1)), (4, .int (nI (cln (zr a.2.1) a.2.1.1.2))), (1, .int (nI (a.2.1.1.2))), (2, .int (bI (¬ a.2.1.1.1 = true))), (0, .ref ((Gs 0).1 1))]) hx hb dL_kept_795 hl (k := 3) rfl (nI_add _ 1) (by decide) rfl (fun ls hl => ?_)
                          refine lv_goto (tgt := 566) hx hb dL_kept_798 (by decide) ?_
                          have hl : lv_has ls 15 [(6, .int (nI ((k + 1)))), (10, .int (nI (o))), (7, .int (a.2.1.2.2 6 k)), (8, .long ((vaZ a.2.1 (nI k)).toInt64)), (5, .int (nI (ckZ a.2.1 k))), (3, .int (1)), (4, .int (nI (cln (zr a.2.1) a.2.1.1.2))), (1, .int (nI (a.2.1.1.2))), (2, .int (bI (¬ a.2.1.1.1 = true))), (0, .ref ((Gs 0).1 1))] := lv_re hl 0 rfl (show (nI (k + 1)) = nI ((k + 1)) from rfl)
                          have hl : lv_has ls 15 [(6, .int (nI ((k + 1)))), (10, .int (nI (o))), (7, .int (a.2.1.2.2 6 k)), (8, .long ((vaZ a.2.1 (nI k)).toInt64)), (5, .int (nI (ckZ a.2.1 (k + 1)))), (3, .int (1)), (4, .int (nI (cln (zr a.2.1) a.2.1.1.2))), (1, .int (nI (a.2.1.1.2))), (2, .int (bI (¬ a.2.1.1.1 = true))), (0, .ref ((Gs 0).1 1))] := lv_re hl 4 rfl (show (nI (ckZ a.2.1 k)) = nI (ckZ a.2.1 (k + 1)) from by rw [ck_s, if_pos c729]; first | done | rfl)
                          exact W.widen (by omega) (by omega) (ih566 (k + 1) _ _ _ (by omega) (by omega) hw (lv_sub hl [0, 4, 5, 6, 7, 8, 9] rfl))
                        · skip
                          have c729 := (fun z => c729 ((lg_cmp_eq _ _).mpr z))
                          refine lv_iload_n hx hb dL_kept_732 rfl (lv_at hl 5 rfl) ?_
                          refine lv_if_eq (tgt := 795) hx hb dL_kept_733 (by decide) (fun c733 => ?_) (fun c733 => ?_)
                          · skip
                            exact absurd c733 (by decide)
                          · skip
                            obtain ⟨o9, ho91, ho92, ho93, ho94⟩ := ol_some hk16 c729
                            refine lv_aload_n hx hb dL_kept_736 rfl (lv_at hl 9 rfl) ?_
                            refine lv_iload hx hb dL_kept_737 (lv_at hl 4 rfl) ?_
                            refine lo_callX hF (lx_eq (x_keyAt (Gs := fun _ => Gs 0) hst hG hGo (nI (ckZ a.2.1 k))) (show _ = ((nI (k) : Int32).toInt64) from ka_ck hk16 c729) (show _ = [a] from rfl)) k_keyAt ⟨Nat.le_of_ble_eq_true rfl, Nat.le_of_ble_eq_true rfl⟩ hw [0] (by decide) rfl (hg_one rfl) rfl hl.1 rfl (Nat.le_of_ble_eq_true rfl) dL_kept_739 ⟨by show _ ≤ (3600 : Nat); omega, by show _ ≤ (21600 : Nat); omega⟩ (fun H locs hw => ?_)
                            have hw : LO D cI cL cZ A s Gs [a] H locs := hw
                            refine W.widen (k := 1610 + 115 * k + 6 + 3 * o + 1) (n := 6 * (1610 + 115 * k + 6 + 3 * o + 1)) (Nat.le_refl _) (by omega) ?_
                            refine lv_iload hx hb dL_kept_742 (lv_at hl 3 rfl) ?_
                            refine lv_i2l (v := (nI (k) : Int32).toInt64) hx hb dL_kept_744 rfl ?_
                            refine W.lcmp hx hb dL_kept_745 ?_
                            refine lv_if_ne (tgt := 790) hx hb dL_kept_746 (by decide) (fun c746 => ?_) (fun c746 => ?_)
                            · skip
                              exact (c746 ((lg_cmp_eq _ _).mpr rfl)).elim
                            · skip
                              have c746 := (lg_cmp_eq _ _).mp c746
                              refine lv_aload_n hx hb dL_kept_749 rfl (lv_at hl 9 rfl) ?_
                              refine lv_iload hx hb dL_kept_750 (lv_at hl 1 rfl) ?_
                              refine lv_iconst (v := 4) hx hb dL_kept_752 (by decide) ?_
                              refine lo_callX hF (lx_eq (x_page (Gs := fun _ => Gs 0) hst hG hGo (a.2.1.2.2 6 k) 4) (show _ = 1 from pg_lv hX.1 hk16 c729) (show _ = [a] from rfl)) k_page ⟨Nat.le_of_ble_eq_true rfl, Nat.le_of_ble_eq_true rfl⟩ hw [0] (by decide) rfl (hg_one rfl) rfl hl.1 rfl (Nat.le_of_ble_eq_true rfl) dL_kept_753 ⟨by show _ ≤ (3600 : Nat); omega, by show _ ≤ (21600 : Nat); omega⟩ (fun H locs hw => ?_)
                              have hw : LO D cI cL cZ A s Gs [a] H locs := hw
                              refine W.widen (k := 1610 + 115 * k + 6 + 3 * o + 1 + 1) (n := 6 * (1610 + 115 * k + 6 + 3 * o + 1 + 1)) (Nat.le_refl _) (by omega) ?_
                              refine lv_lconst (v := 1) hx hb dL_kept_756 (by decide) ?_
                              refine W.lcmp hx hb dL_kept_757 ?_
                              refine lv_if_ne (tgt := 790) hx hb dL_kept_758 (by decide) (fun c758 => ?_) (fun c758 => ?_)
                              · skip
                                exact (c758 ((lg_cmp_eq _ _).mpr rfl)).elim
                              · skip
                                have c758 := (lg_cmp_eq _ _).mp c758
                                refine lv_aload_n hx hb dL_kept_761 rfl (lv_at hl 9 rfl) ?_
                                refine lv_aload_n hx hb dL_kept_762 rfl (lv_at hl 9 rfl) ?_
                                refine lv_aload_n hx hb dL_kept_763 rfl (lv_at hl 9 rfl) ?_
                                refine lo_callV (i := 0) hF (lv_eq (x_oldest (Gs := fun _ => Gs 0) hGo) (show _ = nI (o9) from (by rw [ho91]; rfl)) (show _ = [a] from rfl)) k_oldest ⟨Nat.le_of_ble_eq_true rfl, Nat.le_of_ble_eq_true rfl⟩ hw rfl rfl rfl hl.1 rfl (Nat.le_of_ble_eq_true rfl) dL_kept_764 ⟨by show _ ≤ (3600 : Nat); omega, by show _ ≤ (21600 : Nat); omega⟩ (fun H locs hw => ?_)
                                have hw : LO D cI cL cZ A s Gs [a] H locs := hw
                                refine lo_callX hF (lx_eq (x_newest (Gs := fun _ => Gs 0) hst hG hGo (nI (o9))) (show _ = ((a.2.1.2.2 6 o9).toInt64) from ne_J ho92) (show _ = [a] from rfl)) k_newest ⟨Nat.le_of_ble_eq_true rfl, Nat.le_of_ble_eq_true rfl⟩ hw [0] (by decide) rfl (hg_one rfl) rfl hl.1 rfl (Nat.le_of_ble_eq_true rfl) dL_kept_767 ⟨by show _ ≤ (3600 : Nat); omega, by show _ ≤ (21600 : Nat); omega⟩ (fun H locs hw => ?_)
                                have hw : LO D cI cL cZ A s Gs [a] H locs := hw
                                refine W.widen (k := 1610 + 115 * k + 6 + 3 * o + 1 + 1 + 1) (n := 6 * (1610 + 115 * k + 6 + 3 * o + 1 + 1 + 1)) (Nat.le_refl _) (by omega) ?_
                                refine lv_l2i (v := ((a.2.1.2.2 6 o9).toInt64).toInt32) hx hb dL_kept_770 rfl ?_
                                refine lv_as (show ((a.2.1.2.2 6 o9).toInt64).toInt32 = a.2.1.2.2 6 o9 from Int32.toInt32_toInt64 _) ?_
                                refine lv_iconst (v := 3) hx hb dL_kept_771 (by decide) ?_
                                refine lo_callX hF (lx_eq (x_page (Gs := fun _ => Gs 0) hst hG hGo (a.2.1.2.2 6 o9) 3) (show _ = (pgJ a.2.1 (a.2.1.2.2 6 o9) 3) from rfl) (show _ = [a] from rfl)) k_page ⟨Nat.le_of_ble_eq_true rfl, Nat.le_of_ble_eq_true rfl⟩ hw [0] (by decide) rfl (hg_one rfl) rfl hl.1 rfl (Nat.le_of_ble_eq_true rfl) dL_kept_772 ⟨by show _ ≤ (3600 : Nat); omega, by show _ ≤ (21600 : Nat); omega⟩ (fun H locs hw => ?_)
                                have hw : LO D cI cL cZ A s Gs [a] H locs := hw
                                refine W.widen (k := 1610 + 115 * k + 6 + 3 * o + 1 + 1 + 1 + 1) (n := 6 * (1610 + 115 * k + 6 + 3 * o + 1 + 1 + 1 + 1)) (Nat.le_refl _) (by omega) ?_
                                refine lv_aload_n hx hb dL_kept_775 rfl (lv_at hl 9 rfl) ?_
                                refine lv_iload hx hb dL_kept_776 (lv_at hl 1 rfl) ?_
                                refine lv_iconst (v := 3) hx hb dL_kept_778 (by decide) ?_
                                refine lo_callX hF (lx_eq (x_page (Gs := fun _ => Gs 0) hst hG hGo (a.2.1.2.2 6 k) 3) (show _ = (pgJ a.2.1 (a.2.1.2.2 6 k) 3) from rfl) (show _ = [a] from rfl)) k_page ⟨Nat.le_of_ble_eq_true rfl, Nat.le_of_ble_eq_true rfl⟩ hw [0] (by decide) rfl (hg_one rfl) rfl hl.1 rfl (Nat.le_of_ble_eq_true rfl) dL_kept_779 ⟨by show _ ≤ (3600 : Nat); omega, by show _ ≤ (21600 : Nat); omega⟩ (fun H locs hw => ?_)
                                have hw : LO D cI cL cZ A s Gs [a] H locs := hw
                                refine W.widen (k := 1610 + 115 * k + 6 + 3 * o + 1 + 1 + 1 + 1 + 1) (n := 6 * (1610 + 115 * k + 6 + 3 * o + 1 + 1 + 1 + 1 + 1)) (Nat.le_refl _) (by omega) ?_
                                refine W.lcmp hx hb dL_kept_782 ?_
                                refine lv_if_gt (tgt := 790) hx hb dL_kept_783 (by decide) (fun c783 => ?_) (fun c783 => ?_)
                                · skip
                                  have c783 := (lg_cmp_gt _ _).mp c783
                                  exact absurd c783 (old_le hX.1 hk16 c729 ho92 ho93 ho94)
                                · skip
                                  have c783 := (fun z => c783 ((lg_cmp_gt _ _).mpr z))
                                  refine lv_iconst (v := 1) hx hb dL_kept_786 (by decide) ?_
                                  refine lv_goto (tgt := 791) hx hb dL_kept_787 (by decide) ?_
                                  refine lv_istore_n (lv' := [(3, .int (1)), (10, .int (nI (o))), (7, .int (a.2.1.2.2 6 k)), (8, .long ((vaZ a.2.1 (nI k)).toInt64)), (6, .int (nI (k))), (5, .int (nI (ckZ a.2.1 k))), (4, .int (nI (cln (zr a.2.1) a.2.1.1.2))), (1, .int (nI (a.2.1.1.2))), (2, .int (bI (¬ a.2.1.1.1 = true))), (0, .ref ((Gs 0).1 1))]) hx hb dL_kept_791 rfl hl (by decide) rfl (fun ls hl => ?_)
                                  refine lv_iinc (v := nI (ckZ a.2.1 k + 1)) (lv' := [(5, .int (nI (ckZ a.2.1 k + 1))), (3, .int (1)), (10, .int (nI (o))), (7, .int (a.2.1.2.2 6 k)), (8, .long ((vaZ a.2.1 (nI k)).toInt64)), (6, .int (nI (k))), (4, .int (nI (cln (zr a.2.1) a.2.1.1.2))), (1, .int (nI (a.2.1.1.2))), (2, .int (bI (¬ a.2.1.1.1 = true))), (0, .ref ((Gs 0).1 1))]) hx hb dL_kept_792 hl (k := 5) rfl (nI_add _ 1) (by decide) rfl (fun ls hl => ?_)
                                  refine lv_iinc (v := nI (k + 1)) (lv' := [(6, .int (nI (k + 1))), (5, .int (nI (ckZ a.2.1 k + 1))), (3, .int (1)), (10, .int (nI (o))), (7, .int (a.2.1.2.2 6 k)), (8, .long ((vaZ a.2.1 (nI k)).toInt64)), (4, .int (nI (cln (zr a.2.1) a.2.1.1.2))), (1, .int (nI (a.2.1.1.2))), (2, .int (bI (¬ a.2.1.1.1 = true))), (0, .ref ((Gs 0).1 1))]) hx hb dL_kept_795 hl (k := 5) rfl (nI_add _ 1) (by decide) rfl (fun ls hl => ?_)
                                  refine lv_goto (tgt := 566) hx hb dL_kept_798 (by decide) ?_
                                  have hl : lv_has ls 15 [(6, .int (nI ((k + 1)))), (5, .int (nI (ckZ a.2.1 k + 1))), (3, .int (1)), (10, .int (nI (o))), (7, .int (a.2.1.2.2 6 k)), (8, .long ((vaZ a.2.1 (nI k)).toInt64)), (4, .int (nI (cln (zr a.2.1) a.2.1.1.2))), (1, .int (nI (a.2.1.1.2))), (2, .int (bI (¬ a.2.1.1.1 = true))), (0, .ref ((Gs 0).1 1))] := lv_re hl 0 rfl (show (nI (k + 1)) = nI ((k + 1)) from rfl)
                                  have hl : lv_has ls 15 [(6, .int (nI ((k + 1)))), (5, .int (nI (ckZ a.2.1 (k + 1)))), (3, .int (1)), (10, .int (nI (o))), (7, .int (a.2.1.2.2 6 k)), (8, .long ((vaZ a.2.1 (nI k)).toInt64)), (4, .int (nI (cln (zr a.2.1) a.2.1.1.2))), (1, .int (nI (a.2.1.1.2))), (2, .int (bI (¬ a.2.1.1.1 = true))), (0, .ref ((Gs 0).1 1))] := lv_re hl 1 rfl (show (nI (ckZ a.2.1 k + 1)) = nI (ckZ a.2.1 (k + 1)) from by rw [ck_s, if_neg c729]; first | done | rfl)
                                  exact W.widen (by omega) (by omega) (ih566 (k + 1) _ _ _ (by omega) (by omega) hw (lv_sub hl [0, 1, 2, 6, 7, 8, 9] rfl))
                      · skip
                        have c665 := cn_nle (a := 4 * a.2.1.1.2) (b := o) (by omega) (by omega) c665
                        refine lv_iload_n hx hb dL_kept_668 rfl (lv_at hl 5 rfl) ?_
                        refine lv_if_eq (tgt := 723) hx hb dL_kept_669 (by decide) (fun c669 => ?_) (fun c669 => ?_)
                        · skip
                          exact absurd c669 (by decide)
                        · skip
                          refine lv_aload_n hx hb dL_kept_672 rfl (lv_at hl 9 rfl) ?_
                          refine lv_iload hx hb dL_kept_673 (lv_at hl 0 rfl) ?_
                          refine lv_iconst (v := 1) hx hb dL_kept_675 (by decide) ?_
                          refine lo_callX hF (lx_eq (x_page (Gs := fun _ => Gs 0) hst hG hGo (nI (o)) 1) (show _ = ((tpZ a.2.1 (nI o) 1).toInt64) from pg_J (w := 1) hB (by omega) (by decide)) (show _ = [a] from rfl)) k_page ⟨Nat.le_of_ble_eq_true rfl, Nat.le_of_ble_eq_true rfl⟩ hw [0] (by decide) rfl (hg_one rfl) rfl hl.1 rfl (Nat.le_of_ble_eq_true rfl) dL_kept_676 ⟨by show _ ≤ (3600 : Nat); omega, by show _ ≤ (21600 : Nat); omega⟩ (fun H locs hw => ?_)
                          have hw : LO D cI cL cZ A s Gs [a] H locs := hw
                          refine W.widen (k := 1610 + 115 * k + 6 + 3 * o + 1) (n := 6 * (1610 + 115 * k + 6 + 3 * o + 1)) (Nat.le_refl _) (by omega) ?_
                          refine lv_iload hx hb dL_kept_679 (lv_at hl 3 rfl) ?_
                          refine lv_i2l (v := (nI (k) : Int32).toInt64) hx hb dL_kept_681 rfl ?_
                          refine W.lcmp hx hb dL_kept_682 ?_
                          refine lv_if_ne (tgt := 711) hx hb dL_kept_683 (by decide) (fun c683 => ?_) (fun c683 => ?_)
                          · skip
                            have c683 := (fun z => c683 ((lg_cmp_eq _ _).mpr z))
                            refine lv_iconst (v := 1) hx hb dL_kept_711 (by decide) ?_
                            refine lv_goto (tgt := 716) hx hb dL_kept_712 (by decide) ?_
                            refine lv_istore_n (lv' := [(3, .int (1)), (10, .int (nI (o))), (7, .int (a.2.1.2.2 6 k)), (8, .long ((vaZ a.2.1 (nI k)).toInt64)), (6, .int (nI (k))), (5, .int (nI (ckZ a.2.1 k))), (4, .int (nI (cln (zr a.2.1) a.2.1.1.2))), (1, .int (nI (a.2.1.1.2))), (2, .int (bI (¬ a.2.1.1.1 = true))), (0, .ref ((Gs 0).1 1))]) hx hb dL_kept_716 rfl hl (by decide) rfl (fun ls hl => ?_)
                            refine lv_iinc (v := nI (o + 1)) (lv' := [(10, .int (nI (o + 1))), (3, .int (1)), (7, .int (a.2.1.2.2 6 k)), (8, .long ((vaZ a.2.1 (nI k)).toInt64)), (6, .int (nI (k))), (5, .int (nI (ckZ a.2.1 k))), (4, .int (nI (cln (zr a.2.1) a.2.1.1.2))), (1, .int (nI (a.2.1.1.2))), (2, .int (bI (¬ a.2.1.1.1 = true))), (0, .ref ((Gs 0).1 1))]) hx hb dL_kept_717 hl (k := 1) rfl (nI_add _ 1) (by decide) rfl (fun ls hl => ?_)
                            refine lv_goto (tgt := 660) hx hb dL_kept_720 (by decide) ?_
                            have hl : lv_has ls 15 [(10, .int (nI ((o + 1)))), (3, .int (1)), (7, .int (a.2.1.2.2 6 k)), (8, .long ((vaZ a.2.1 (nI k)).toInt64)), (6, .int (nI (k))), (5, .int (nI (ckZ a.2.1 k))), (4, .int (nI (cln (zr a.2.1) a.2.1.1.2))), (1, .int (nI (a.2.1.1.2))), (2, .int (bI (¬ a.2.1.1.1 = true))), (0, .ref ((Gs 0).1 1))] := lv_re hl 0 rfl (show (nI (o + 1)) = nI ((o + 1)) from rfl)
                            exact W.widen (by omega) (by omega) (ih660 (o + 1) _ _ _ (by omega) (by omega) hw (lv_sub hl [0, 2, 3, 4, 5, 1, 6, 7, 8, 9] rfl))
                          · skip
                            have c683 := (lg_cmp_eq _ _).mp c683
                            refine lv_iload hx hb dL_kept_686 (lv_at hl 1 rfl) ?_
                            refine lv_bipush (v := (-9)) hx hb dL_kept_688 (by decide) ?_
                            refine lv_icmp_eq (tgt := 715) hx hb dL_kept_690 (by decide) (fun c690 => ?_) (fun c690 => ?_)
                            · skip
                              exact absurd c690 (ky_ne hX.1 (by omega) hk16 c683)
                            · skip
                              refine lv_aload_n hx hb dL_kept_693 rfl (lv_at hl 9 rfl) ?_
                              refine lv_iload hx hb dL_kept_694 (lv_at hl 0 rfl) ?_
                              refine lv_iconst (v := 3) hx hb dL_kept_696 (by decide) ?_
                              refine lo_callX hF (lx_eq (x_page (Gs := fun _ => Gs 0) hst hG hGo (nI (o)) 3) (show _ = ((tpZ a.2.1 (nI o) 3).toInt64) from pg_J (w := 3) hB (by omega) (by decide)) (show _ = [a] from rfl)) k_page ⟨Nat.le_of_ble_eq_true rfl, Nat.le_of_ble_eq_true rfl⟩ hw [0] (by decide) rfl (hg_one rfl) rfl hl.1 rfl (Nat.le_of_ble_eq_true rfl) dL_kept_697 ⟨by show _ ≤ (3600 : Nat); omega, by show _ ≤ (21600 : Nat); omega⟩ (fun H locs hw => ?_)
                              have hw : LO D cI cL cZ A s Gs [a] H locs := hw
                              refine W.widen (k := 1610 + 115 * k + 6 + 3 * o + 1 + 1) (n := 6 * (1610 + 115 * k + 6 + 3 * o + 1 + 1)) (Nat.le_refl _) (by omega) ?_
                              refine lv_aload_n hx hb dL_kept_700 rfl (lv_at hl 9 rfl) ?_
                              refine lv_iload hx hb dL_kept_701 (lv_at hl 1 rfl) ?_
                              refine lv_iconst (v := 3) hx hb dL_kept_703 (by decide) ?_
                              refine lo_callX hF (lx_eq (x_page (Gs := fun _ => Gs 0) hst hG hGo (a.2.1.2.2 6 k) 3) (show _ = (pgJ a.2.1 (a.2.1.2.2 6 k) 3) from rfl) (show _ = [a] from rfl)) k_page ⟨Nat.le_of_ble_eq_true rfl, Nat.le_of_ble_eq_true rfl⟩ hw [0] (by decide) rfl (hg_one rfl) rfl hl.1 rfl (Nat.le_of_ble_eq_true rfl) dL_kept_704 ⟨by show _ ≤ (3600 : Nat); omega, by show _ ≤ (21600 : Nat); omega⟩ (fun H locs hw => ?_)
                              have hw : LO D cI cL cZ A s Gs [a] H locs := hw
                              refine W.widen (k := 1610 + 115 * k + 6 + 3 * o + 1 + 1 + 1) (n := 6 * (1610 + 115 * k + 6 + 3 * o + 1 + 1 + 1)) (Nat.le_refl _) (by omega) ?_
                              refine W.lcmp hx hb dL_kept_707 ?_
                              refine lv_if_gt (tgt := 715) hx hb dL_kept_708 (by decide) (fun c708 => ?_) (fun c708 => ?_)
                              · skip
                                have c708 := (lg_cmp_gt _ _).mp c708
                                exact absurd c708 (mk_le hX.1 (by omega) hk16 c683)
                              · skip
                                have c708 := (fun z => c708 ((lg_cmp_gt _ _).mpr z))
                                refine lv_iconst (v := 1) hx hb dL_kept_711 (by decide) ?_
                                refine lv_goto (tgt := 716) hx hb dL_kept_712 (by decide) ?_
                                refine lv_istore_n (lv' := [(3, .int (1)), (10, .int (nI (o))), (7, .int (a.2.1.2.2 6 k)), (8, .long ((vaZ a.2.1 (nI k)).toInt64)), (6, .int (nI (k))), (5, .int (nI (ckZ a.2.1 k))), (4, .int (nI (cln (zr a.2.1) a.2.1.1.2))), (1, .int (nI (a.2.1.1.2))), (2, .int (bI (¬ a.2.1.1.1 = true))), (0, .ref ((Gs 0).1 1))]) hx hb dL_kept_716 rfl hl (by decide) rfl (fun ls hl => ?_)
                                refine lv_iinc (v := nI (o + 1)) (lv' := [(10, .int (nI (o + 1))), (3, .int (1)), (7, .int (a.2.1.2.2 6 k)), (8, .long ((vaZ a.2.1 (nI k)).toInt64)), (6, .int (nI (k))), (5, .int (nI (ckZ a.2.1 k))), (4, .int (nI (cln (zr a.2.1) a.2.1.1.2))), (1, .int (nI (a.2.1.1.2))), (2, .int (bI (¬ a.2.1.1.1 = true))), (0, .ref ((Gs 0).1 1))]) hx hb dL_kept_717 hl (k := 1) rfl (nI_add _ 1) (by decide) rfl (fun ls hl => ?_)
                                refine lv_goto (tgt := 660) hx hb dL_kept_720 (by decide) ?_
                                have hl : lv_has ls 15 [(10, .int (nI ((o + 1)))), (3, .int (1)), (7, .int (a.2.1.2.2 6 k)), (8, .long ((vaZ a.2.1 (nI k)).toInt64)), (6, .int (nI (k))), (5, .int (nI (ckZ a.2.1 k))), (4, .int (nI (cln (zr a.2.1) a.2.1.1.2))), (1, .int (nI (a.2.1.1.2))), (2, .int (bI (¬ a.2.1.1.1 = true))), (0, .ref ((Gs 0).1 1))] := lv_re hl 0 rfl (show (nI (o + 1)) = nI ((o + 1)) from rfl)
                                exact W.widen (by omega) (by omega) (ih660 (o + 1) _ _ _ (by omega) (by omega) hw (lv_sub hl [0, 2, 3, 4, 5, 1, 6, 7, 8, 9] rfl))
                  have hl : lv_has ls 15 [(10, .int (nI (0))), (3, .int (1)), (7, .int (a.2.1.2.2 6 k)), (8, .long ((vaZ a.2.1 (nI k)).toInt64)), (6, .int (nI (k))), (5, .int (nI (ckZ a.2.1 k))), (4, .int (nI (cln (zr a.2.1) a.2.1.1.2))), (1, .int (nI (a.2.1.1.2))), (2, .int (bI (¬ a.2.1.1.1 = true))), (0, .ref ((Gs 0).1 1))] := lv_re hl 0 rfl (show 0 = nI (0) from rfl)
                  exact W.widen (by omega) (by omega) (LP660 ((4 * a.2.1.1.2 - 0) + 1) 0 _ _ _ (by omega) (by omega) hw (lv_sub hl [0, 2, 3, 4, 5, 1, 6, 7, 8, 9] rfl))
            have JP608 : ∀ (H : Heap) (locs : List Loc) (ls : Array Slot), LO D cI cL cZ A s Gs [a] H locs → lv_has ls 15 [(7, .int (a.2.1.2.2 6 k)), (8, .long ((vaZ a.2.1 (nI k)).toInt64)), (6, .int (nI (k))), (5, .int (nI (ckZ a.2.1 k))), (3, .int (1)), (4, .int (nI (cln (zr a.2.1) a.2.1.1.2))), (1, .int (nI (a.2.1.1.2))), (2, .int (bI (¬ a.2.1.1.1 = true))), (0, .ref ((Gs 0).1 1))] → W p l e ({ frames := 9, cells := 3600, slots := 21600, locals := 186 } : Room) s m [.ref ((Gs 0).1 1)].toArray below meth c H locs (1610 + 115 * k + 3) (6 * (1610 + 115 * k + 3)) (MQ below (lqI D cI cL cZ Gs 1 [a] A) [.ref ((Gs 0).1 1)].toArray s 3600 21600 A) (F0 m 608 ls []) := by
              intro H locs ls hw hl
              refine lv_iload hx hb dL_kept_608 (lv_at hl 0 rfl) ?_
              refine lv_bipush (v := (-9)) hx hb dL_kept_610 (by decide) ?_
              refine lv_icmp_eq (tgt := 629) hx hb dL_kept_612 (by decide) (fun c612 => ?_) (fun c612 => ?_)
              · skip
                exact W.widen (by omega) (by omega) (JP629  _ _ _  hw (lv_sub hl [0, 1, 2, 3, 4, 5, 6, 7, 8] rfl))
              · skip
                refine lv_aload_n hx hb dL_kept_615 rfl (lv_at hl 8 rfl) ?_
                refine lv_iload hx hb dL_kept_616 (lv_at hl 0 rfl) ?_
                refine lv_iconst (v := 1) hx hb dL_kept_618 (by decide) ?_
                refine lo_callX hF (lx_eq (x_page (Gs := fun _ => Gs 0) hst hG hGo (a.2.1.2.2 6 k) 1) (show _ = ((nI (k) : Int32).toInt64) from pg_ky hX.1 hk16 c612) (show _ = [a] from rfl)) k_page ⟨Nat.le_of_ble_eq_true rfl, Nat.le_of_ble_eq_true rfl⟩ hw [0] (by decide) rfl (hg_one rfl) rfl hl.1 rfl (Nat.le_of_ble_eq_true rfl) dL_kept_619 ⟨by show _ ≤ (3600 : Nat); omega, by show _ ≤ (21600 : Nat); omega⟩ (fun H locs hw => ?_)
                have hw : LO D cI cL cZ A s Gs [a] H locs := hw
                refine W.widen (k := 1610 + 115 * k + 3 + 1) (n := 6 * (1610 + 115 * k + 3 + 1)) (Nat.le_refl _) (by omega) ?_
                refine lv_iload hx hb dL_kept_622 (lv_at hl 2 rfl) ?_
                refine lv_i2l (v := (nI (k) : Int32).toInt64) hx hb dL_kept_624 rfl ?_
                refine W.lcmp hx hb dL_kept_625 ?_
                refine lv_if_ne (tgt := 655) hx hb dL_kept_626 (by decide) (fun c626 => ?_) (fun c626 => ?_)
                · skip
                  exact (c626 ((lg_cmp_eq _ _).mpr rfl)).elim
                · skip
                  have c626 := (lg_cmp_eq _ _).mp c626
                  exact W.widen (by omega) (by omega) (JP629  _ _ _  hw (lv_sub hl [0, 1, 2, 3, 4, 5, 6, 7, 8] rfl))
            refine lv_aload_n hx hb dL_kept_577 rfl (lv_at hl 6 rfl) ?_
            refine lv_iload hx hb dL_kept_578 (lv_at hl 0 rfl) ?_
            refine lo_callX hF (lx_eq (x_newest (Gs := fun _ => Gs 0) hst hG hGo (nI (k))) (show _ = ((a.2.1.2.2 6 k).toInt64) from ne_J hk16) (show _ = [a] from rfl)) k_newest ⟨Nat.le_of_ble_eq_true rfl, Nat.le_of_ble_eq_true rfl⟩ hw [0] (by decide) rfl (hg_one rfl) rfl hl.1 rfl (Nat.le_of_ble_eq_true rfl) dL_kept_580 ⟨by show _ ≤ (3600 : Nat); omega, by show _ ≤ (21600 : Nat); omega⟩ (fun H locs hw => ?_)
            have hw : LO D cI cL cZ A s Gs [a] H locs := hw
            refine W.widen (k := 1610 + 115 * k + 1) (n := 6 * (1610 + 115 * k + 1)) (Nat.le_refl _) (by omega) ?_
            refine lv_l2i (v := ((a.2.1.2.2 6 k).toInt64).toInt32) hx hb dL_kept_583 rfl ?_
            refine lv_as (show ((a.2.1.2.2 6 k).toInt64).toInt32 = a.2.1.2.2 6 k from Int32.toInt32_toInt64 _) ?_
            refine lv_istore (lv' := [(7, .int (a.2.1.2.2 6 k)), (6, .int (nI (k))), (5, .int (nI (ckZ a.2.1 k))), (3, .int (1)), (4, .int (nI (cln (zr a.2.1) a.2.1.1.2))), (1, .int (nI (a.2.1.1.2))), (2, .int (bI (¬ a.2.1.1.1 = true))), (0, .ref ((Gs 0).1 1))]) hx hb dL_kept_584 hl (by decide) rfl (fun ls hl => ?_)
            refine lv_iload hx hb dL_kept_586 (lv_at hl 0 rfl) ?_
            refine lv_bipush (v := (-9)) hx hb dL_kept_588 (by decide) ?_
            refine lv_icmp_ne (tgt := 599) hx hb dL_kept_590 (by decide) (fun c590 => ?_) (fun c590 => ?_)
            · skip
              refine lv_aload_n hx hb dL_kept_599 rfl (lv_at hl 7 rfl) ?_
              refine lv_iload hx hb dL_kept_600 (lv_at hl 0 rfl) ?_
              refine lv_iconst (v := 2) hx hb dL_kept_602 (by decide) ?_
              refine lo_callX hF (lx_eq (x_page (Gs := fun _ => Gs 0) hst hG hGo (a.2.1.2.2 6 k) 2) (show _ = ((vaZ a.2.1 (nI k)).toInt64) from pg_va hX.1 hk16 c590) (show _ = [a] from rfl)) k_page ⟨Nat.le_of_ble_eq_true rfl, Nat.le_of_ble_eq_true rfl⟩ hw [0] (by decide) rfl (hg_one rfl) rfl hl.1 rfl (Nat.le_of_ble_eq_true rfl) dL_kept_603 ⟨by show _ ≤ (3600 : Nat); omega, by show _ ≤ (21600 : Nat); omega⟩ (fun H locs hw => ?_)
              have hw : LO D cI cL cZ A s Gs [a] H locs := hw
              refine W.widen (k := 1610 + 115 * k + 1 + 1) (n := 6 * (1610 + 115 * k + 1 + 1)) (Nat.le_refl _) (by omega) ?_
              refine lv_lstore (lv' := [(8, .long ((vaZ a.2.1 (nI k)).toInt64)), (7, .int (a.2.1.2.2 6 k)), (6, .int (nI (k))), (5, .int (nI (ckZ a.2.1 k))), (3, .int (1)), (4, .int (nI (cln (zr a.2.1) a.2.1.1.2))), (1, .int (nI (a.2.1.1.2))), (2, .int (bI (¬ a.2.1.1.1 = true))), (0, .ref ((Gs 0).1 1))]) hx hb dL_kept_606 hl (by decide) rfl (fun ls hl => ?_)
              exact W.widen (by omega) (by omega) (JP608  _ _ _  hw (lv_sub hl [1, 0, 2, 3, 4, 5, 6, 7, 8] rfl))
            · skip
              refine lv_ldc2 (v := (-9)) hx hb hown (hts _ (mlA 118 rfl)) dL_kept_593 ?_
              refine lv_asl (show (-9) = (vaZ a.2.1 (nI k)).toInt64 from va_nJ hX.1 hk16 c590) ?_
              refine lv_goto (tgt := 606) hx hb dL_kept_596 (by decide) ?_
              refine lv_lstore (lv' := [(8, .long ((vaZ a.2.1 (nI k)).toInt64)), (7, .int (a.2.1.2.2 6 k)), (6, .int (nI (k))), (5, .int (nI (ckZ a.2.1 k))), (3, .int (1)), (4, .int (nI (cln (zr a.2.1) a.2.1.1.2))), (1, .int (nI (a.2.1.1.2))), (2, .int (bI (¬ a.2.1.1.1 = true))), (0, .ref ((Gs 0).1 1))]) hx hb dL_kept_606 hl (by decide) rfl (fun ls hl => ?_)
              exact W.widen (by omega) (by omega) (JP608  _ _ _  hw (lv_sub hl [1, 0, 2, 3, 4, 5, 6, 7, 8] rfl))
    have hl : lv_has ls 15 [(6, .int (nI (0))), (5, .int (0)), (3, .int (1)), (4, .int (nI (cln (zr a.2.1) a.2.1.1.2))), (1, .int (nI (a.2.1.1.2))), (2, .int (bI (¬ a.2.1.1.1 = true))), (0, .ref ((Gs 0).1 1))] := lv_re hl 0 rfl (show 0 = nI (0) from rfl)
    have hl : lv_has ls 15 [(6, .int (nI (0))), (5, .int (nI (ckZ a.2.1 0))), (3, .int (1)), (4, .int (nI (cln (zr a.2.1) a.2.1.1.2))), (1, .int (nI (a.2.1.1.2))), (2, .int (bI (¬ a.2.1.1.1 = true))), (0, .ref ((Gs 0).1 1))] := lv_re hl 1 rfl (show 0 = nI (ckZ a.2.1 0) from rfl)
    exact W.widen (by omega) (by omega) (LP566 ((16 - 0) + 1) 0 _ _ _ (by omega) (by omega) hw (lv_sub hl [0, 1, 2, 3, 4, 5, 6] rfl))
  have JP23 : ∀ (H : Heap) (locs : List Loc) (ls : Array Slot), LO D cI cL cZ A s Gs [a] H locs → lv_has ls 15 [(1, .int (nI (a.2.1.1.2))), (2, .int (bI (¬ a.2.1.1.1 = true))), (0, .ref ((Gs 0).1 1))] → W p l e ({ frames := 9, cells := 3600, slots := 21600, locals := 186 } : Room) s m [.ref ((Gs 0).1 1)].toArray below meth c H locs (3) (6 * (3)) (MQ below (lqI D cI cL cZ Gs 1 [a] A) [.ref ((Gs 0).1 1)].toArray s 3600 21600 A) (F0 m 23 ls []) := by
    intro H locs ls hw hl
    refine lv_iconst (v := 1) hx hb dL_kept_23 (by decide) ?_
    refine lv_istore_n (lv' := [(3, .int (1)), (1, .int (nI (a.2.1.1.2))), (2, .int (bI (¬ a.2.1.1.1 = true))), (0, .ref ((Gs 0).1 1))]) hx hb dL_kept_24 rfl hl (by decide) rfl (fun ls hl => ?_)
    refine lv_iconst (v := 0) hx hb dL_kept_25 (by decide) ?_
    refine lv_istore (lv' := [(4, .int (0)), (3, .int (1)), (1, .int (nI (a.2.1.1.2))), (2, .int (bI (¬ a.2.1.1.1 = true))), (0, .ref ((Gs 0).1 1))]) hx hb dL_kept_26 hl (by decide) rfl (fun ls hl => ?_)
    refine lv_iconst (v := 0) hx hb dL_kept_28 (by decide) ?_
    refine lv_istore (lv' := [(5, .int (0)), (4, .int (0)), (3, .int (1)), (1, .int (nI (a.2.1.1.2))), (2, .int (bI (¬ a.2.1.1.1 = true))), (0, .ref ((Gs 0).1 1))]) hx hb dL_kept_29 hl (by decide) rfl (fun ls hl => ?_)
    have LP31 : ∀ n9 : Nat, ∀ (b : Nat) (H : Heap) (locs : List Loc) (ls : Array Slot), (hb9 : b ≤ a.2.1.1.2) → a.2.1.1.2 - b < n9 → LO D cI cL cZ A s Gs [a] H locs → lv_has ls 15 [(5, .int (nI (b))), (3, .int (1)), (4, .int (nI (cln (zr a.2.1) b))), (1, .int (nI (a.2.1.1.2))), (2, .int (bI (¬ a.2.1.1.1 = true))), (0, .ref ((Gs 0).1 1))] → W p l e ({ frames := 9, cells := 3600, slots := 21600, locals := 186 } : Room) s m [.ref ((Gs 0).1 1)].toArray below meth c H locs (3 + 200 * b) (6 * (3 + 200 * b)) (MQ below (lqI D cI cL cZ Gs 1 [a] A) [.ref ((Gs 0).1 1)].toArray s 3600 21600 A) (F0 m 31 ls []) := by
      intro n9
      induction n9 with
      | zero => intros; omega
      | succ n9 ih31 =>
        intro b H locs ls hb9 hm9 hw hl
        refine lv_iload hx hb dL_kept_31 (lv_at hl 0 rfl) ?_
        refine lv_iload_n hx hb dL_kept_33 rfl (lv_at hl 3 rfl) ?_
        refine lv_icmp_ge (tgt := 560) hx hb dL_kept_34 (by decide) (fun c34 => ?_) (fun c34 => ?_)
        · skip
          have c34 := cn_le (a := a.2.1.1.2) (b := b) (by omega) (by omega) c34
          have hl : lv_has ls 15 [(5, .int (nI (b))), (3, .int (1)), (4, .int (nI (cln (zr a.2.1) a.2.1.1.2))), (1, .int (nI (a.2.1.1.2))), (2, .int (bI (¬ a.2.1.1.1 = true))), (0, .ref ((Gs 0).1 1))] := lv_re hl 2 rfl (show (nI (cln (zr a.2.1) b)) = nI (cln (zr a.2.1) a.2.1.1.2) from by rw [show b = a.2.1.1.2 from by omega])
          exact W.widen (by omega) (by omega) (JP560  _ _ _  hw (lv_sub hl [1, 2, 3, 4, 5] rfl))
        · skip
          have c34 := cn_nle (a := a.2.1.1.2) (b := b) (by omega) (by omega) c34
          refine lv_iload_n hx hb dL_kept_37 rfl (lv_at hl 1 rfl) ?_
          refine lv_if_eq (tgt := 560) hx hb dL_kept_38 (by decide) (fun c38 => ?_) (fun c38 => ?_)
          · skip
            exact absurd c38 (by decide)
          · skip
            have hbB : b < a.2.1.1.2 := by omega
            have hb8 : b < 8 := by omega
            have JP439 : ∀ (H : Heap) (locs : List Loc) (ls : Array Slot), LO D cI cL cZ A s Gs [a] H locs → lv_has ls 15 [(9, .int (bI (¬ a.2.1.2.2 4 b < a.2.1.2.1 2))), (6, .int (nI (lvs (zr a.2.1) a.2.1.1.2 b 4))), (7, .int (nI (cst (zr a.2.1) b 0 4))), (8, .int (nI (cst (zr a.2.1) b 2 4))), (5, .int (nI (b))), (3, .int (1)), (4, .int (nI (cln (zr a.2.1) (b + 1)))), (1, .int (nI (a.2.1.1.2))), (2, .int (bI (¬ a.2.1.1.1 = true))), (0, .ref ((Gs 0).1 1))] → W p l e ({ frames := 9, cells := 3600, slots := 21600, locals := 186 } : Room) s m [.ref ((Gs 0).1 1)].toArray below meth c H locs (3 + 200 * b + 186) (6 * (3 + 200 * b + 186)) (MQ below (lqI D cI cL cZ Gs 1 [a] A) [.ref ((Gs 0).1 1)].toArray s 3600 21600 A) (F0 m 439 ls []) := by
              intro H locs ls hw hl
              refine lv_iload_n hx hb dL_kept_439 rfl (lv_at hl 5 rfl) ?_
              refine lv_if_eq (tgt := 552) hx hb dL_kept_440 (by decide) (fun c440 => ?_) (fun c440 => ?_)
              · skip
                exact absurd c440 (by decide)
              · skip
                refine lv_aload_n hx hb dL_kept_443 rfl (lv_at hl 9 rfl) ?_
                refine lv_iload hx hb dL_kept_444 (lv_at hl 4 rfl) ?_
                refine lv_iconst (v := 1) hx hb dL_kept_446 (by decide) ?_
                refine lo_callX hF (lx_eq (x_block (Gs := fun _ => Gs 0) hst hG hGo (nI (b)) 1) (show _ = ((nI (lvs (zr a.2.1) a.2.1.1.2 b 4) : Int32).toInt64) from bl_1 hX.1 hbB) (show _ = [a] from rfl)) k_block ⟨Nat.le_of_ble_eq_true rfl, Nat.le_of_ble_eq_true rfl⟩ hw [0] (by decide) rfl (hg_one rfl) rfl hl.1 rfl (Nat.le_of_ble_eq_true rfl) dL_kept_447 ⟨by show _ ≤ (3600 : Nat); omega, by show _ ≤ (21600 : Nat); omega⟩ (fun H locs hw => ?_)
                have hw : LO D cI cL cZ A s Gs [a] H locs := hw
                refine W.widen (k := 3 + 200 * b + 186 + 1) (n := 6 * (3 + 200 * b + 186 + 1)) (Nat.le_refl _) (by omega) ?_
                refine lv_iload hx hb dL_kept_450 (lv_at hl 1 rfl) ?_
                refine lv_i2l (v := (nI (lvs (zr a.2.1) a.2.1.1.2 b 4) : Int32).toInt64) hx hb dL_kept_452 rfl ?_
                refine W.lcmp hx hb dL_kept_453 ?_
                refine lv_if_ne (tgt := 552) hx hb dL_kept_454 (by decide) (fun c454 => ?_) (fun c454 => ?_)
                · skip
                  exact (c454 ((lg_cmp_eq _ _).mpr rfl)).elim
                · skip
                  have c454 := (lg_cmp_eq _ _).mp c454
                  refine lv_aload_n hx hb dL_kept_457 rfl (lv_at hl 9 rfl) ?_
                  refine lv_iload hx hb dL_kept_458 (lv_at hl 4 rfl) ?_
                  refine lv_iconst (v := 2) hx hb dL_kept_460 (by decide) ?_
                  refine lo_callX hF (lx_eq (x_block (Gs := fun _ => Gs 0) hst hG hGo (nI (b)) 2) (show _ = ((nI (cst (zr a.2.1) b 0 4) : Int32).toInt64) from bl_2c hX.1 hbB) (show _ = [a] from rfl)) k_block ⟨Nat.le_of_ble_eq_true rfl, Nat.le_of_ble_eq_true rfl⟩ hw [0] (by decide) rfl (hg_one rfl) rfl hl.1 rfl (Nat.le_of_ble_eq_true rfl) dL_kept_461 ⟨by show _ ≤ (3600 : Nat); omega, by show _ ≤ (21600 : Nat); omega⟩ (fun H locs hw => ?_)
                  have hw : LO D cI cL cZ A s Gs [a] H locs := hw
                  refine W.widen (k := 3 + 200 * b + 186 + 1 + 1) (n := 6 * (3 + 200 * b + 186 + 1 + 1)) (Nat.le_refl _) (by omega) ?_
                  refine lv_iload hx hb dL_kept_464 (lv_at hl 2 rfl) ?_
                  refine lv_i2l (v := (nI (cst (zr a.2.1) b 0 4) : Int32).toInt64) hx hb dL_kept_466 rfl ?_
                  refine W.lcmp hx hb dL_kept_467 ?_
                  refine lv_if_ne (tgt := 552) hx hb dL_kept_468 (by decide) (fun c468 => ?_) (fun c468 => ?_)
                  · skip
                    exact (c468 ((lg_cmp_eq _ _).mpr rfl)).elim
                  · skip
                    have c468 := (lg_cmp_eq _ _).mp c468
                    refine lv_aload_n hx hb dL_kept_471 rfl (lv_at hl 9 rfl) ?_
                    refine lv_iload hx hb dL_kept_472 (lv_at hl 4 rfl) ?_
                    refine lv_iconst (v := 3) hx hb dL_kept_474 (by decide) ?_
                    refine lo_callX hF (lx_eq (x_block (Gs := fun _ => Gs 0) hst hG hGo (nI (b)) 3) (show _ = ((nI (cst (zr a.2.1) b 2 4) : Int32).toInt64) from bl_3 hX.1 hbB) (show _ = [a] from rfl)) k_block ⟨Nat.le_of_ble_eq_true rfl, Nat.le_of_ble_eq_true rfl⟩ hw [0] (by decide) rfl (hg_one rfl) rfl hl.1 rfl (Nat.le_of_ble_eq_true rfl) dL_kept_475 ⟨by show _ ≤ (3600 : Nat); omega, by show _ ≤ (21600 : Nat); omega⟩ (fun H locs hw => ?_)
                    have hw : LO D cI cL cZ A s Gs [a] H locs := hw
                    refine W.widen (k := 3 + 200 * b + 186 + 1 + 1 + 1) (n := 6 * (3 + 200 * b + 186 + 1 + 1 + 1)) (Nat.le_refl _) (by omega) ?_
                    refine lv_iload hx hb dL_kept_478 (lv_at hl 3 rfl) ?_
                    refine lv_i2l (v := (nI (cst (zr a.2.1) b 2 4) : Int32).toInt64) hx hb dL_kept_480 rfl ?_
                    refine W.lcmp hx hb dL_kept_481 ?_
                    refine lv_if_ne (tgt := 552) hx hb dL_kept_482 (by decide) (fun c482 => ?_) (fun c482 => ?_)
                    · skip
                      exact (c482 ((lg_cmp_eq _ _).mpr rfl)).elim
                    · skip
                      have c482 := (lg_cmp_eq _ _).mp c482
                      refine lv_aload_n hx hb dL_kept_485 rfl (lv_at hl 9 rfl) ?_
                      refine lv_iload hx hb dL_kept_486 (lv_at hl 4 rfl) ?_
                      refine lv_iconst (v := 4) hx hb dL_kept_488 (by decide) ?_
                      refine lo_callX hF (lx_eq (x_block (Gs := fun _ => Gs 0) hst hG hGo (nI (b)) 4) (show _ = ((bI (¬ a.2.1.2.2 4 b < a.2.1.2.1 2)).toInt64) from bl_4 hX.1 hbB) (show _ = [a] from rfl)) k_block ⟨Nat.le_of_ble_eq_true rfl, Nat.le_of_ble_eq_true rfl⟩ hw [0] (by decide) rfl (hg_one rfl) rfl hl.1 rfl (Nat.le_of_ble_eq_true rfl) dL_kept_489 ⟨by show _ ≤ (3600 : Nat); omega, by show _ ≤ (21600 : Nat); omega⟩ (fun H locs hw => ?_)
                      have hw : LO D cI cL cZ A s Gs [a] H locs := hw
                      refine W.widen (k := 3 + 200 * b + 186 + 1 + 1 + 1 + 1) (n := 6 * (3 + 200 * b + 186 + 1 + 1 + 1 + 1)) (Nat.le_refl _) (by omega) ?_
                      refine lv_iload hx hb dL_kept_492 (lv_at hl 0 rfl) ?_
                      refine lv_if_eq (tgt := 501) hx hb dL_kept_494 (by decide) (fun c494 => ?_) (fun c494 => ?_)
                      · skip
                        have c494 := bI_f c494
                        refine lv_lconst (v := 0) hx hb dL_kept_501 (by decide) ?_
                        refine W.lcmp hx hb dL_kept_502 ?_
                        refine lv_if_ne (tgt := 552) hx hb dL_kept_503 (by decide) (fun c503 => ?_) (fun c503 => ?_)
                        · skip
                          have c503 := (fun z => c503 ((lg_cmp_eq _ _).mpr z))
                          exact (c503 (by rw [bI_0 c494]; decide)).elim
                        · skip
                          have c503 := (lg_cmp_eq _ _).mp c503
                          refine lv_aload_n hx hb dL_kept_506 rfl (lv_at hl 9 rfl) ?_
                          refine lv_iload hx hb dL_kept_507 (lv_at hl 4 rfl) ?_
                          refine lv_iconst (v := 5) hx hb dL_kept_509 (by decide) ?_
                          refine lo_callX hF (lx_eq (x_block (Gs := fun _ => Gs 0) hst hG hGo (nI (b)) 5) (show _ = (blJ a.2.1 (nI (b)) 5) from rfl) (show _ = [a] from rfl)) k_block ⟨Nat.le_of_ble_eq_true rfl, Nat.le_of_ble_eq_true rfl⟩ hw [0] (by decide) rfl (hg_one rfl) rfl hl.1 rfl (Nat.le_of_ble_eq_true rfl) dL_kept_510 ⟨by show _ ≤ (3600 : Nat); omega, by show _ ≤ (21600 : Nat); omega⟩ (fun H locs hw => ?_)
                          have hw : LO D cI cL cZ A s Gs [a] H locs := hw
                          refine W.widen (k := 3 + 200 * b + 186 + 1 + 1 + 1 + 1 + 1) (n := 6 * (3 + 200 * b + 186 + 1 + 1 + 1 + 1 + 1)) (Nat.le_refl _) (by omega) ?_
                          refine lv_lconst (v := 0) hx hb dL_kept_513 (by decide) ?_
                          refine W.lcmp hx hb dL_kept_514 ?_
                          refine lv_if_eq (tgt := 548) hx hb dL_kept_515 (by decide) (fun c515 => ?_) (fun c515 => ?_)
                          · skip
                            have c515 := (lg_cmp_eq _ _).mp c515
                            refine lv_iconst (v := 1) hx hb dL_kept_548 (by decide) ?_
                            refine lv_goto (tgt := 553) hx hb dL_kept_549 (by decide) ?_
                            refine lv_istore_n (lv' := [(3, .int (1)), (9, .int (bI (¬ a.2.1.2.2 4 b < a.2.1.2.1 2))), (6, .int (nI (lvs (zr a.2.1) a.2.1.1.2 b 4))), (7, .int (nI (cst (zr a.2.1) b 0 4))), (8, .int (nI (cst (zr a.2.1) b 2 4))), (5, .int (nI (b))), (4, .int (nI (cln (zr a.2.1) (b + 1)))), (1, .int (nI (a.2.1.1.2))), (2, .int (bI (¬ a.2.1.1.1 = true))), (0, .ref ((Gs 0).1 1))]) hx hb dL_kept_553 rfl hl (by decide) rfl (fun ls hl => ?_)
                            refine lv_iinc (v := nI (b + 1)) (lv' := [(5, .int (nI (b + 1))), (3, .int (1)), (9, .int (bI (¬ a.2.1.2.2 4 b < a.2.1.2.1 2))), (6, .int (nI (lvs (zr a.2.1) a.2.1.1.2 b 4))), (7, .int (nI (cst (zr a.2.1) b 0 4))), (8, .int (nI (cst (zr a.2.1) b 2 4))), (4, .int (nI (cln (zr a.2.1) (b + 1)))), (1, .int (nI (a.2.1.1.2))), (2, .int (bI (¬ a.2.1.1.1 = true))), (0, .ref ((Gs 0).1 1))]) hx hb dL_kept_554 hl (k := 5) rfl (nI_add _ 1) (by decide) rfl (fun ls hl => ?_)
                            refine lv_goto (tgt := 31) hx hb dL_kept_557 (by decide) ?_
                            have hl : lv_has ls 15 [(5, .int (nI ((b + 1)))), (3, .int (1)), (9, .int (bI (¬ a.2.1.2.2 4 b < a.2.1.2.1 2))), (6, .int (nI (lvs (zr a.2.1) a.2.1.1.2 b 4))), (7, .int (nI (cst (zr a.2.1) b 0 4))), (8, .int (nI (cst (zr a.2.1) b 2 4))), (4, .int (nI (cln (zr a.2.1) (b + 1)))), (1, .int (nI (a.2.1.1.2))), (2, .int (bI (¬ a.2.1.1.1 = true))), (0, .ref ((Gs 0).1 1))] := lv_re hl 0 rfl (show (nI (b + 1)) = nI ((b + 1)) from rfl)
                            exact W.widen (by omega) (by omega) (ih31 (b + 1) _ _ _ (by omega) (by omega) hw (lv_sub hl [0, 1, 6, 7, 8, 9] rfl))
                          · skip
                            have c515 := (fun z => c515 ((lg_cmp_eq _ _).mpr z))
                            obtain ⟨u1, u2, u3, u4⟩ := vb_of hX.1 hbB c515
                            refine lv_iload_n hx hb dL_kept_518 rfl (lv_at hl 8 rfl) ?_
                            refine lv_if_ne (tgt := 552) hx hb dL_kept_519 (by decide) (fun c519 => ?_) (fun c519 => ?_)
                            · skip
                              have c519 := bI_t c519
                              exact (c519 u1).elim
                            · skip
                              have c519 := bI_f c519
                              refine lv_iload hx hb dL_kept_522 (lv_at hl 0 rfl) ?_
                              refine lv_if_ne (tgt := 552) hx hb dL_kept_524 (by decide) (fun c524 => ?_) (fun c524 => ?_)
                              · skip
                                have c524 := bI_t c524
                                exact (c524 u2).elim
                              · skip
                                have c524 := bI_f c524
                                refine lv_aload_n hx hb dL_kept_527 rfl (lv_at hl 9 rfl) ?_
                                refine lv_iconst (v := 3) hx hb dL_kept_528 (by decide) ?_
                                refine lo_callX hF (lx_eq (x_about (Gs := fun _ => Gs 0) hst hG hGo 3) (show _ = ((a.2.1.2.1 3).toInt64) from ab_3) (show _ = [a] from rfl)) k_about ⟨Nat.le_of_ble_eq_true rfl, Nat.le_of_ble_eq_true rfl⟩ hw [0] (by decide) rfl (hg_one rfl) rfl hl.1 rfl (Nat.le_of_ble_eq_true rfl) dL_kept_529 ⟨by show _ ≤ (3600 : Nat); omega, by show _ ≤ (21600 : Nat); omega⟩ (fun H locs hw => ?_)
                                have hw : LO D cI cL cZ A s Gs [a] H locs := hw
                                refine W.widen (k := 3 + 200 * b + 186 + 1 + 1 + 1 + 1 + 1 + 1) (n := 6 * (3 + 200 * b + 186 + 1 + 1 + 1 + 1 + 1 + 1)) (Nat.le_refl _) (by omega) ?_
                                refine lv_iload hx hb dL_kept_532 (lv_at hl 4 rfl) ?_
                                refine lv_i2l (v := (nI (b) : Int32).toInt64) hx hb dL_kept_534 rfl ?_
                                refine W.lcmp hx hb dL_kept_535 ?_
                                refine lv_if_eq (tgt := 552) hx hb dL_kept_536 (by decide) (fun c536 => ?_) (fun c536 => ?_)
                                · skip
                                  have c536 := (lg_cmp_eq _ _).mp c536
                                  exact absurd c536 u3
                                · skip
                                  have c536 := (fun z => c536 ((lg_cmp_eq _ _).mpr z))
                                  refine lv_iload hx hb dL_kept_539 (lv_at hl 1 rfl) ?_
                                  refine lv_iload hx hb dL_kept_541 (lv_at hl 2 rfl) ?_
                                  refine lv_iadd hx hb dL_kept_543 ?_
                                  refine lv_as (y := nI (lvs (zr a.2.1) a.2.1.1.2 b 4 + cst (zr a.2.1) b 0 4)) (nI_add (lvs (zr a.2.1) a.2.1.1.2 b 4) (cst (zr a.2.1) b 0 4)) ?_
                                  refine lv_iconst (v := 4) hx hb dL_kept_544 (by decide) ?_
                                  refine lv_icmp_ge (tgt := 552) hx hb dL_kept_545 (by decide) (fun c545 => ?_) (fun c545 => ?_)
                                  · skip
                                    have c545 := cn_le (a := 4) (b := lvs (zr a.2.1) a.2.1.1.2 b 4 + cst (zr a.2.1) b 0 4) (by omega) (by omega) c545
                                    omega
                                  · skip
                                    have c545 := cn_nle (a := 4) (b := lvs (zr a.2.1) a.2.1.1.2 b 4 + cst (zr a.2.1) b 0 4) (by omega) (by omega) c545
                                    refine lv_iconst (v := 1) hx hb dL_kept_548 (by decide) ?_
                                    refine lv_goto (tgt := 553) hx hb dL_kept_549 (by decide) ?_
                                    refine lv_istore_n (lv' := [(3, .int (1)), (9, .int (bI (¬ a.2.1.2.2 4 b < a.2.1.2.1 2))), (6, .int (nI (lvs (zr a.2.1) a.2.1.1.2 b 4))), (7, .int (nI (cst (zr a.2.1) b 0 4))), (8, .int (nI (cst (zr a.2.1) b 2 4))), (5, .int (nI (b))), (4, .int (nI (cln (zr a.2.1) (b + 1)))), (1, .int (nI (a.2.1.1.2))), (2, .int (bI (¬ a.2.1.1.1 = true))), (0, .ref ((Gs 0).1 1))]) hx hb dL_kept_553 rfl hl (by decide) rfl (fun ls hl => ?_)
                                    refine lv_iinc (v := nI (b + 1)) (lv' := [(5, .int (nI (b + 1))), (3, .int (1)), (9, .int (bI (¬ a.2.1.2.2 4 b < a.2.1.2.1 2))), (6, .int (nI (lvs (zr a.2.1) a.2.1.1.2 b 4))), (7, .int (nI (cst (zr a.2.1) b 0 4))), (8, .int (nI (cst (zr a.2.1) b 2 4))), (4, .int (nI (cln (zr a.2.1) (b + 1)))), (1, .int (nI (a.2.1.1.2))), (2, .int (bI (¬ a.2.1.1.1 = true))), (0, .ref ((Gs 0).1 1))]) hx hb dL_kept_554 hl (k := 5) rfl (nI_add _ 1) (by decide) rfl (fun ls hl => ?_)
                                    refine lv_goto (tgt := 31) hx hb dL_kept_557 (by decide) ?_
                                    have hl : lv_has ls 15 [(5, .int (nI ((b + 1)))), (3, .int (1)), (9, .int (bI (¬ a.2.1.2.2 4 b < a.2.1.2.1 2))), (6, .int (nI (lvs (zr a.2.1) a.2.1.1.2 b 4))), (7, .int (nI (cst (zr a.2.1) b 0 4))), (8, .int (nI (cst (zr a.2.1) b 2 4))), (4, .int (nI (cln (zr a.2.1) (b + 1)))), (1, .int (nI (a.2.1.1.2))), (2, .int (bI (¬ a.2.1.1.1 = true))), (0, .ref ((Gs 0).1 1))] := lv_re hl 0 rfl (show (nI (b + 1)) = nI ((b + 1)) from rfl)
                                    exact W.widen (by omega) (by omega) (ih31 (b + 1) _ _ _ (by omega) (by omega) hw (lv_sub hl [0, 1, 6, 7, 8, 9] rfl))
                      · skip
                        have c494 := bI_t c494
                        refine lv_lconst (v := 1) hx hb dL_kept_497 (by decide) ?_
                        refine lv_goto (tgt := 502) hx hb dL_kept_498 (by decide) ?_
                        refine W.lcmp hx hb dL_kept_502 ?_
                        refine lv_if_ne (tgt := 552) hx hb dL_kept_503 (by decide) (fun c503 => ?_) (fun c503 => ?_)
                        · skip
                          have c503 := (fun z => c503 ((lg_cmp_eq _ _).mpr z))
                          exact (c503 (by rw [bI_1 c494]; decide)).elim
                        · skip
                          have c503 := (lg_cmp_eq _ _).mp c503
                          refine lv_aload_n hx hb dL_kept_506 rfl (lv_at hl 9 rfl) ?_
                          refine lv_iload hx hb dL_kept_507 (lv_at hl 4 rfl) ?_
                          refine lv_iconst (v := 5) hx hb dL_kept_509 (by decide) ?_
                          refine lo_callX hF (lx_eq (x_block (Gs := fun _ => Gs 0) hst hG hGo (nI (b)) 5) (show _ = (blJ a.2.1 (nI (b)) 5) from rfl) (show _ = [a] from rfl)) k_block ⟨Nat.le_of_ble_eq_true rfl, Nat.le_of_ble_eq_true rfl⟩ hw [0] (by decide) rfl (hg_one rfl) rfl hl.1 rfl (Nat.le_of_ble_eq_true rfl) dL_kept_510 ⟨by show _ ≤ (3600 : Nat); omega, by show _ ≤ (21600 : Nat); omega⟩ (fun H locs hw => ?_)
                          have hw : LO D cI cL cZ A s Gs [a] H locs := hw
                          refine W.widen (k := 3 + 200 * b + 186 + 1 + 1 + 1 + 1 + 1) (n := 6 * (3 + 200 * b + 186 + 1 + 1 + 1 + 1 + 1)) (Nat.le_refl _) (by omega) ?_
                          refine lv_lconst (v := 0) hx hb dL_kept_513 (by decide) ?_
                          refine W.lcmp hx hb dL_kept_514 ?_
                          refine lv_if_eq (tgt := 548) hx hb dL_kept_515 (by decide) (fun c515 => ?_) (fun c515 => ?_)
                          · skip
                            have c515 := (lg_cmp_eq _ _).mp c515
                            refine lv_iconst (v := 1) hx hb dL_kept_548 (by decide) ?_
                            refine lv_goto (tgt := 553) hx hb dL_kept_549 (by decide) ?_
                            refine lv_istore_n (lv' := [(3, .int (1)), (9, .int (bI (¬ a.2.1.2.2 4 b < a.2.1.2.1 2))), (6, .int (nI (lvs (zr a.2.1) a.2.1.1.2 b 4))), (7, .int (nI (cst (zr a.2.1) b 0 4))), (8, .int (nI (cst (zr a.2.1) b 2 4))), (5, .int (nI (b))), (4, .int (nI (cln (zr a.2.1) (b + 1)))), (1, .int (nI (a.2.1.1.2))), (2, .int (bI (¬ a.2.1.1.1 = true))), (0, .ref ((Gs 0).1 1))]) hx hb dL_kept_553 rfl hl (by decide) rfl (fun ls hl => ?_)
                            refine lv_iinc (v := nI (b + 1)) (lv' := [(5, .int (nI (b + 1))), (3, .int (1)), (9, .int (bI (¬ a.2.1.2.2 4 b < a.2.1.2.1 2))), (6, .int (nI (lvs (zr a.2.1) a.2.1.1.2 b 4))), (7, .int (nI (cst (zr a.2.1) b 0 4))), (8, .int (nI (cst (zr a.2.1) b 2 4))), (4, .int (nI (cln (zr a.2.1) (b + 1)))), (1, .int (nI (a.2.1.1.2))), (2, .int (bI (¬ a.2.1.1.1 = true))), (0, .ref ((Gs 0).1 1))]) hx hb dL_kept_554 hl (k := 5) rfl (nI_add _ 1) (by decide) rfl (fun ls hl => ?_)
                            refine lv_goto (tgt := 31) hx hb dL_kept_557 (by decide) ?_
                            have hl : lv_has ls 15 [(5, .int (nI ((b + 1)))), (3, .int (1)), (9, .int (bI (¬ a.2.1.2.2 4 b < a.2.1.2.1 2))), (6, .int (nI (lvs (zr a.2.1) a.2.1.1.2 b 4))), (7, .int (nI (cst (zr a.2.1) b 0 4))), (8, .int (nI (cst (zr a.2.1) b 2 4))), (4, .int (nI (cln (zr a.2.1) (b + 1)))), (1, .int (nI (a.2.1.1.2))), (2, .int (bI (¬ a.2.1.1.1 = true))), (0, .ref ((Gs 0).1 1))] := lv_re hl 0 rfl (show (nI (b + 1)) = nI ((b + 1)) from rfl)
                            exact W.widen (by omega) (by omega) (ih31 (b + 1) _ _ _ (by omega) (by omega) hw (lv_sub hl [0, 1, 6, 7, 8, 9] rfl))
                          · skip
                            have c515 := (fun z => c515 ((lg_cmp_eq _ _).mpr z))
                            obtain ⟨u1, u2, u3, u4⟩ := vb_of hX.1 hbB c515
                            refine lv_iload_n hx hb dL_kept_518 rfl (lv_at hl 8 rfl) ?_
                            refine lv_if_ne (tgt := 552) hx hb dL_kept_519 (by decide) (fun c519 => ?_) (fun c519 => ?_)
                            · skip
                              have c519 := bI_t c519
                              exact (c519 u1).elim
                            · skip
                              have c519 := bI_f c519
                              refine lv_iload hx hb dL_kept_522 (lv_at hl 0 rfl) ?_
                              refine lv_if_ne (tgt := 552) hx hb dL_kept_524 (by decide) (fun c524 => ?_) (fun c524 => ?_)
                              · skip
                                have c524 := bI_t c524
                                exact (c524 u2).elim
                              · skip
                                have c524 := bI_f c524
                                refine lv_aload_n hx hb dL_kept_527 rfl (lv_at hl 9 rfl) ?_
                                refine lv_iconst (v := 3) hx hb dL_kept_528 (by decide) ?_
                                refine lo_callX hF (lx_eq (x_about (Gs := fun _ => Gs 0) hst hG hGo 3) (show _ = ((a.2.1.2.1 3).toInt64) from ab_3) (show _ = [a] from rfl)) k_about ⟨Nat.le_of_ble_eq_true rfl, Nat.le_of_ble_eq_true rfl⟩ hw [0] (by decide) rfl (hg_one rfl) rfl hl.1 rfl (Nat.le_of_ble_eq_true rfl) dL_kept_529 ⟨by show _ ≤ (3600 : Nat); omega, by show _ ≤ (21600 : Nat); omega⟩ (fun H locs hw => ?_)
                                have hw : LO D cI cL cZ A s Gs [a] H locs := hw
                                refine W.widen (k := 3 + 200 * b + 186 + 1 + 1 + 1 + 1 + 1 + 1) (n := 6 * (3 + 200 * b + 186 + 1 + 1 + 1 + 1 + 1 + 1)) (Nat.le_refl _) (by omega) ?_
                                refine lv_iload hx hb dL_kept_532 (lv_at hl 4 rfl) ?_
                                refine lv_i2l (v := (nI (b) : Int32).toInt64) hx hb dL_kept_534 rfl ?_
                                refine W.lcmp hx hb dL_kept_535 ?_
                                refine lv_if_eq (tgt := 552) hx hb dL_kept_536 (by decide) (fun c536 => ?_) (fun c536 => ?_)
                                · skip
                                  have c536 := (lg_cmp_eq _ _).mp c536
                                  exact absurd c536 u3
                                · skip
                                  have c536 := (fun z => c536 ((lg_cmp_eq _ _).mpr z))
                                  refine lv_iload hx hb dL_kept_539 (lv_at hl 1 rfl) ?_
                                  refine lv_iload hx hb dL_kept_541 (lv_at hl 2 rfl) ?_
                                  refine lv_iadd hx hb dL_kept_543 ?_
                                  refine lv_as (y := nI (lvs (zr a.2.1) a.2.1.1.2 b 4 + cst (zr a.2.1) b 0 4)) (nI_add (lvs (zr a.2.1) a.2.1.1.2 b 4) (cst (zr a.2.1) b 0 4)) ?_
                                  refine lv_iconst (v := 4) hx hb dL_kept_544 (by decide) ?_
                                  refine lv_icmp_ge (tgt := 552) hx hb dL_kept_545 (by decide) (fun c545 => ?_) (fun c545 => ?_)
                                  · skip
                                    have c545 := cn_le (a := 4) (b := lvs (zr a.2.1) a.2.1.1.2 b 4 + cst (zr a.2.1) b 0 4) (by omega) (by omega) c545
                                    omega
                                  · skip
                                    have c545 := cn_nle (a := 4) (b := lvs (zr a.2.1) a.2.1.1.2 b 4 + cst (zr a.2.1) b 0 4) (by omega) (by omega) c545
                                    refine lv_iconst (v := 1) hx hb dL_kept_548 (by decide) ?_
                                    refine lv_goto (tgt := 553) hx hb dL_kept_549 (by decide) ?_
                                    refine lv_istore_n (lv' := [(3, .int (1)), (9, .int (bI (¬ a.2.1.2.2 4 b < a.2.1.2.1 2))), (6, .int (nI (lvs (zr a.2.1) a.2.1.1.2 b 4))), (7, .int (nI (cst (zr a.2.1) b 0 4))), (8, .int (nI (cst (zr a.2.1) b 2 4))), (5, .int (nI (b))), (4, .int (nI (cln (zr a.2.1) (b + 1)))), (1, .int (nI (a.2.1.1.2))), (2, .int (bI (¬ a.2.1.1.1 = true))), (0, .ref ((Gs 0).1 1))]) hx hb dL_kept_553 rfl hl (by decide) rfl (fun ls hl => ?_)
                                    refine lv_iinc (v := nI (b + 1)) (lv' := [(5, .int (nI (b + 1))), (3, .int (1)), (9, .int (bI (¬ a.2.1.2.2 4 b < a.2.1.2.1 2))), (6, .int (nI (lvs (zr a.2.1) a.2.1.1.2 b 4))), (7, .int (nI (cst (zr a.2.1) b 0 4))), (8, .int (nI (cst (zr a.2.1) b 2 4))), (4, .int (nI (cln (zr a.2.1) (b + 1)))), (1, .int (nI (a.2.1.1.2))), (2, .int (bI (¬ a.2.1.1.1 = true))), (0, .ref ((Gs 0).1 1))]) hx hb dL_kept_554 hl (k := 5) rfl (nI_add _ 1) (by decide) rfl (fun ls hl => ?_)
                                    refine lv_goto (tgt := 31) hx hb dL_kept_557 (by decide) ?_
                                    have hl : lv_has ls 15 [(5, .int (nI ((b + 1)))), (3, .int (1)), (9, .int (bI (¬ a.2.1.2.2 4 b < a.2.1.2.1 2))), (6, .int (nI (lvs (zr a.2.1) a.2.1.1.2 b 4))), (7, .int (nI (cst (zr a.2.1) b 0 4))), (8, .int (nI (cst (zr a.2.1) b 2 4))), (4, .int (nI (cln (zr a.2.1) (b + 1)))), (1, .int (nI (a.2.1.1.2))), (2, .int (bI (¬ a.2.1.1.1 = true))), (0, .ref ((Gs 0).1 1))] := lv_re hl 0 rfl (show (nI (b + 1)) = nI ((b + 1)) from rfl)
                                    exact W.widen (by omega) (by omega) (ih31 (b + 1) _ _ _ (by omega) (by omega) hw (lv_sub hl [0, 1, 6, 7, 8, 9] rfl))
            have JP416 : ∀ (H : Heap) (locs : List Loc) (ls : Array Slot), LO D cI cL cZ A s Gs [a] H locs → lv_has ls 15 [(6, .int (nI (lvs (zr a.2.1) a.2.1.1.2 b 4))), (7, .int (nI (cst (zr a.2.1) b 0 4))), (8, .int (nI (cst (zr a.2.1) b 2 4))), (5, .int (nI (b))), (3, .int (1)), (4, .int (nI (cln (zr a.2.1) (b + 1)))), (1, .int (nI (a.2.1.1.2))), (2, .int (bI (¬ a.2.1.1.1 = true))), (0, .ref ((Gs 0).1 1))] → W p l e ({ frames := 9, cells := 3600, slots := 21600, locals := 186 } : Room) s m [.ref ((Gs 0).1 1)].toArray below meth c H locs (3 + 200 * b + 183) (6 * (3 + 200 * b + 183)) (MQ below (lqI D cI cL cZ Gs 1 [a] A) [.ref ((Gs 0).1 1)].toArray s 3600 21600 A) (F0 m 416 ls []) := by
              intro H locs ls hw hl
              refine lv_aload_n hx hb dL_kept_416 rfl (lv_at hl 8 rfl) ?_
              refine lv_iload hx hb dL_kept_417 (lv_at hl 3 rfl) ?_
              refine lv_iconst (v := 0) hx hb dL_kept_419 (by decide) ?_
              refine lo_callX hF (lx_eq (x_block (Gs := fun _ => Gs 0) hst hG hGo (nI (b)) 0) (show _ = ((a.2.1.2.2 4 b).toInt64) from bl_0 hB hbB) (show _ = [a] from rfl)) k_block ⟨Nat.le_of_ble_eq_true rfl, Nat.le_of_ble_eq_true rfl⟩ hw [0] (by decide) rfl (hg_one rfl) rfl hl.1 rfl (Nat.le_of_ble_eq_true rfl) dL_kept_420 ⟨by show _ ≤ (3600 : Nat); omega, by show _ ≤ (21600 : Nat); omega⟩ (fun H locs hw => ?_)
              have hw : LO D cI cL cZ A s Gs [a] H locs := hw
              refine W.widen (k := 3 + 200 * b + 183 + 1) (n := 6 * (3 + 200 * b + 183 + 1)) (Nat.le_refl _) (by omega) ?_
              refine lv_aload_n hx hb dL_kept_423 rfl (lv_at hl 8 rfl) ?_
              refine lv_iconst (v := 1) hx hb dL_kept_424 (by decide) ?_
              refine lo_callX hF (lx_eq (x_about (Gs := fun _ => Gs 0) hst hG hGo 1) (show _ = ((a.2.1.2.1 2).toInt64) from ab_1) (show _ = [a] from rfl)) k_about ⟨Nat.le_of_ble_eq_true rfl, Nat.le_of_ble_eq_true rfl⟩ hw [0] (by decide) rfl (hg_one rfl) rfl hl.1 rfl (Nat.le_of_ble_eq_true rfl) dL_kept_425 ⟨by show _ ≤ (3600 : Nat); omega, by show _ ≤ (21600 : Nat); omega⟩ (fun H locs hw => ?_)
              have hw : LO D cI cL cZ A s Gs [a] H locs := hw
              refine W.widen (k := 3 + 200 * b + 183 + 1 + 1) (n := 6 * (3 + 200 * b + 183 + 1 + 1)) (Nat.le_refl _) (by omega) ?_
              refine W.lcmp hx hb dL_kept_428 ?_
              refine lv_if_lt (tgt := 436) hx hb dL_kept_429 (by decide) (fun c429 => ?_) (fun c429 => ?_)
              · skip
                have c429 := (lg_cmp_lt _ _).mp c429
                have w1 : a.2.1.2.2 4 b < a.2.1.2.1 2 := Int32.toInt64_lt.mp c429
                refine lv_iconst (v := 0) hx hb dL_kept_436 (by decide) ?_
                refine lv_istore (lv' := [(9, .int (0)), (6, .int (nI (lvs (zr a.2.1) a.2.1.1.2 b 4))), (7, .int (nI (cst (zr a.2.1) b 0 4))), (8, .int (nI (cst (zr a.2.1) b 2 4))), (5, .int (nI (b))), (3, .int (1)), (4, .int (nI (cln (zr a.2.1) (b + 1)))), (1, .int (nI (a.2.1.1.2))), (2, .int (bI (¬ a.2.1.1.1 = true))), (0, .ref ((Gs 0).1 1))]) hx hb dL_kept_437 hl (by decide) rfl (fun ls hl => ?_)
                have hl : lv_has ls 15 [(9, .int (bI (¬ a.2.1.2.2 4 b < a.2.1.2.1 2))), (6, .int (nI (lvs (zr a.2.1) a.2.1.1.2 b 4))), (7, .int (nI (cst (zr a.2.1) b 0 4))), (8, .int (nI (cst (zr a.2.1) b 2 4))), (5, .int (nI (b))), (3, .int (1)), (4, .int (nI (cln (zr a.2.1) (b + 1)))), (1, .int (nI (a.2.1.1.2))), (2, .int (bI (¬ a.2.1.1.1 = true))), (0, .ref ((Gs 0).1 1))] := lv_re hl 0 rfl (show 0 = bI (¬ a.2.1.2.2 4 b < a.2.1.2.1 2) from (bI_0 (fun z => z w1)).symm)
                exact W.widen (by omega) (by omega) (JP439  _ _ _  hw (lv_sub hl [0, 1, 2, 3, 4, 5, 6, 7, 8, 9] rfl))
              · skip
                have c429 := (fun z => c429 ((lg_cmp_lt _ _).mpr z))
                have w1 : ¬ a.2.1.2.2 4 b < a.2.1.2.1 2 := fun z => c429 (Int32.toInt64_lt.mpr z)
                refine lv_iconst (v := 1) hx hb dL_kept_432 (by decide) ?_
                refine lv_goto (tgt := 437) hx hb dL_kept_433 (by decide) ?_
                refine lv_istore (lv' := [(9, .int (1)), (6, .int (nI (lvs (zr a.2.1) a.2.1.1.2 b 4))), (7, .int (nI (cst (zr a.2.1) b 0 4))), (8, .int (nI (cst (zr a.2.1) b 2 4))), (5, .int (nI (b))), (3, .int (1)), (4, .int (nI (cln (zr a.2.1) (b + 1)))), (1, .int (nI (a.2.1.1.2))), (2, .int (bI (¬ a.2.1.1.1 = true))), (0, .ref ((Gs 0).1 1))]) hx hb dL_kept_437 hl (by decide) rfl (fun ls hl => ?_)
                have hl : lv_has ls 15 [(9, .int (bI (¬ a.2.1.2.2 4 b < a.2.1.2.1 2))), (6, .int (nI (lvs (zr a.2.1) a.2.1.1.2 b 4))), (7, .int (nI (cst (zr a.2.1) b 0 4))), (8, .int (nI (cst (zr a.2.1) b 2 4))), (5, .int (nI (b))), (3, .int (1)), (4, .int (nI (cln (zr a.2.1) (b + 1)))), (1, .int (nI (a.2.1.1.2))), (2, .int (bI (¬ a.2.1.1.1 = true))), (0, .ref ((Gs 0).1 1))] := lv_re hl 0 rfl (show 1 = bI (¬ a.2.1.2.2 4 b < a.2.1.2.1 2) from (bI_1 w1).symm)
                exact W.widen (by omega) (by omega) (JP439  _ _ _  hw (lv_sub hl [0, 1, 2, 3, 4, 5, 6, 7, 8, 9] rfl))
            have JP388 : ∀ (H : Heap) (locs : List Loc) (ls : Array Slot), LO D cI cL cZ A s Gs [a] H locs → lv_has ls 15 [(6, .int (nI (lvs (zr a.2.1) a.2.1.1.2 b 4))), (7, .int (nI (cst (zr a.2.1) b 0 4))), (8, .int (nI (cst (zr a.2.1) b 2 4))), (5, .int (nI (b))), (3, .int (1)), (4, .int (nI (cln (zr a.2.1) b))), (1, .int (nI (a.2.1.1.2))), (2, .int (bI (¬ a.2.1.1.1 = true))), (0, .ref ((Gs 0).1 1))] → W p l e ({ frames := 9, cells := 3600, slots := 21600, locals := 186 } : Room) s m [.ref ((Gs 0).1 1)].toArray below meth c H locs (3 + 200 * b + 181) (6 * (3 + 200 * b + 181)) (MQ below (lqI D cI cL cZ Gs 1 [a] A) [.ref ((Gs 0).1 1)].toArray s 3600 21600 A) (F0 m 388 ls []) := by
              intro H locs ls hw hl
              have hc4 := cst_le (f := zr a.2.1) (b := b) (st := 0) 4
              refine lv_iload hx hb dL_kept_388 (lv_at hl 5 rfl) ?_
              refine lv_iload hx hb dL_kept_390 (lv_at hl 1 rfl) ?_
              refine lv_iconst (v := 4) hx hb dL_kept_392 (by decide) ?_
              refine lv_icmp_ne (tgt := 412) hx hb dL_kept_393 (by decide) (fun c393 => ?_) (fun c393 => ?_)
              · skip
                have c393 := cn_ne (a := cst (zr a.2.1) b 0 4) (b := 4) (by omega) (by omega) c393
                refine lv_iconst (v := 0) hx hb dL_kept_412 (by decide) ?_
                refine lv_iadd hx hb dL_kept_413 ?_
                refine lv_as (y := nI (cln (zr a.2.1) b + 0)) (nI_add (cln (zr a.2.1) b) (0)) ?_
                refine lv_istore (lv' := [(4, .int (nI (cln (zr a.2.1) b + 0))), (6, .int (nI (lvs (zr a.2.1) a.2.1.1.2 b 4))), (7, .int (nI (cst (zr a.2.1) b 0 4))), (8, .int (nI (cst (zr a.2.1) b 2 4))), (5, .int (nI (b))), (3, .int (1)), (1, .int (nI (a.2.1.1.2))), (2, .int (bI (¬ a.2.1.1.1 = true))), (0, .ref ((Gs 0).1 1))]) hx hb dL_kept_414 hl (by decide) rfl (fun ls hl => ?_)
                have hl : lv_has ls 15 [(4, .int (nI (cln (zr a.2.1) (b + 1)))), (6, .int (nI (lvs (zr a.2.1) a.2.1.1.2 b 4))), (7, .int (nI (cst (zr a.2.1) b 0 4))), (8, .int (nI (cst (zr a.2.1) b 2 4))), (5, .int (nI (b))), (3, .int (1)), (1, .int (nI (a.2.1.1.2))), (2, .int (bI (¬ a.2.1.1.1 = true))), (0, .ref ((Gs 0).1 1))] := lv_re hl 0 rfl (show (nI (cln (zr a.2.1) b + 0)) = nI (cln (zr a.2.1) (b + 1)) from by rw [cl_s, if_neg (fun z => c393 z.2)]; first | done | rfl)
                exact W.widen (by omega) (by omega) (JP416  _ _ _  hw (lv_sub hl [1, 2, 3, 4, 5, 0, 6, 7, 8] rfl))
              · skip
                have c393 := cn_eq (a := cst (zr a.2.1) b 0 4) (b := 4) (by omega) (by omega) c393
                refine lv_aload_n hx hb dL_kept_396 rfl (lv_at hl 8 rfl) ?_
                refine lv_iconst (v := 3) hx hb dL_kept_397 (by decide) ?_
                refine lo_callX hF (lx_eq (x_about (Gs := fun _ => Gs 0) hst hG hGo 3) (show _ = ((a.2.1.2.1 3).toInt64) from ab_3) (show _ = [a] from rfl)) k_about ⟨Nat.le_of_ble_eq_true rfl, Nat.le_of_ble_eq_true rfl⟩ hw [0] (by decide) rfl (hg_one rfl) rfl hl.1 rfl (Nat.le_of_ble_eq_true rfl) dL_kept_398 ⟨by show _ ≤ (3600 : Nat); omega, by show _ ≤ (21600 : Nat); omega⟩ (fun H locs hw => ?_)
                have hw : LO D cI cL cZ A s Gs [a] H locs := hw
                refine W.widen (k := 3 + 200 * b + 181 + 1) (n := 6 * (3 + 200 * b + 181 + 1)) (Nat.le_refl _) (by omega) ?_
                refine lv_iload hx hb dL_kept_401 (lv_at hl 3 rfl) ?_
                refine lv_i2l (v := (nI (b) : Int32).toInt64) hx hb dL_kept_403 rfl ?_
                refine W.lcmp hx hb dL_kept_404 ?_
                refine lv_if_eq (tgt := 412) hx hb dL_kept_405 (by decide) (fun c405 => ?_) (fun c405 => ?_)
                · skip
                  have c405 := (lg_cmp_eq _ _).mp c405
                  refine lv_iconst (v := 0) hx hb dL_kept_412 (by decide) ?_
                  refine lv_iadd hx hb dL_kept_413 ?_
                  refine lv_as (y := nI (cln (zr a.2.1) b + 0)) (nI_add (cln (zr a.2.1) b) (0)) ?_
                  refine lv_istore (lv' := [(4, .int (nI (cln (zr a.2.1) b + 0))), (6, .int (nI (lvs (zr a.2.1) a.2.1.1.2 b 4))), (7, .int (nI (cst (zr a.2.1) b 0 4))), (8, .int (nI (cst (zr a.2.1) b 2 4))), (5, .int (nI (b))), (3, .int (1)), (1, .int (nI (a.2.1.1.2))), (2, .int (bI (¬ a.2.1.1.1 = true))), (0, .ref ((Gs 0).1 1))]) hx hb dL_kept_414 hl (by decide) rfl (fun ls hl => ?_)
                  have hl : lv_has ls 15 [(4, .int (nI (cln (zr a.2.1) (b + 1)))), (6, .int (nI (lvs (zr a.2.1) a.2.1.1.2 b 4))), (7, .int (nI (cst (zr a.2.1) b 0 4))), (8, .int (nI (cst (zr a.2.1) b 2 4))), (5, .int (nI (b))), (3, .int (1)), (1, .int (nI (a.2.1.1.2))), (2, .int (bI (¬ a.2.1.1.1 = true))), (0, .ref ((Gs 0).1 1))] := lv_re hl 0 rfl (show (nI (cln (zr a.2.1) b + 0)) = nI (cln (zr a.2.1) (b + 1)) from by rw [cl_s, if_neg (fun z => z.1 c405)]; first | done | rfl)
                  exact W.widen (by omega) (by omega) (JP416  _ _ _  hw (lv_sub hl [1, 2, 3, 4, 5, 0, 6, 7, 8] rfl))
                · skip
                  have c405 := (fun z => c405 ((lg_cmp_eq _ _).mpr z))
                  refine lv_iconst (v := 1) hx hb dL_kept_408 (by decide) ?_
                  refine lv_goto (tgt := 413) hx hb dL_kept_409 (by decide) ?_
                  refine lv_iadd hx hb dL_kept_413 ?_
                  refine lv_as (y := nI (cln (zr a.2.1) b + 1)) (nI_add (cln (zr a.2.1) b) (1)) ?_
                  refine lv_istore (lv' := [(4, .int (nI (cln (zr a.2.1) b + 1))), (6, .int (nI (lvs (zr a.2.1) a.2.1.1.2 b 4))), (7, .int (nI (cst (zr a.2.1) b 0 4))), (8, .int (nI (cst (zr a.2.1) b 2 4))), (5, .int (nI (b))), (3, .int (1)), (1, .int (nI (a.2.1.1.2))), (2, .int (bI (¬ a.2.1.1.1 = true))), (0, .ref ((Gs 0).1 1))]) hx hb dL_kept_414 hl (by decide) rfl (fun ls hl => ?_)
                  have hl : lv_has ls 15 [(4, .int (nI (cln (zr a.2.1) (b + 1)))), (6, .int (nI (lvs (zr a.2.1) a.2.1.1.2 b 4))), (7, .int (nI (cst (zr a.2.1) b 0 4))), (8, .int (nI (cst (zr a.2.1) b 2 4))), (5, .int (nI (b))), (3, .int (1)), (1, .int (nI (a.2.1.1.2))), (2, .int (bI (¬ a.2.1.1.1 = true))), (0, .ref ((Gs 0).1 1))] := lv_re hl 0 rfl (show (nI (cln (zr a.2.1) b + 1)) = nI (cln (zr a.2.1) (b + 1)) from by rw [cl_s, if_pos ⟨c405, c393⟩]; first | done | rfl)
                  exact W.widen (by omega) (by omega) (JP416  _ _ _  hw (lv_sub hl [1, 2, 3, 4, 5, 0, 6, 7, 8] rfl))
            refine lv_iconst (v := 0) hx hb dL_kept_41 (by decide) ?_
            refine lv_istore (lv' := [(6, .int (0)), (5, .int (nI (b))), (3, .int (1)), (4, .int (nI (cln (zr a.2.1) b))), (1, .int (nI (a.2.1.1.2))), (2, .int (bI (¬ a.2.1.1.1 = true))), (0, .ref ((Gs 0).1 1))]) hx hb dL_kept_42 hl (by decide) rfl (fun ls hl => ?_)
            refine lv_iconst (v := 0) hx hb dL_kept_44 (by decide) ?_
            refine lv_istore (lv' := [(7, .int (0)), (6, .int (0)), (5, .int (nI (b))), (3, .int (1)), (4, .int (nI (cln (zr a.2.1) b))), (1, .int (nI (a.2.1.1.2))), (2, .int (bI (¬ a.2.1.1.1 = true))), (0, .ref ((Gs 0).1 1))]) hx hb dL_kept_45 hl (by decide) rfl (fun ls hl => ?_)
            refine lv_iconst (v := 0) hx hb dL_kept_47 (by decide) ?_
            refine lv_istore (lv' := [(8, .int (0)), (7, .int (0)), (6, .int (0)), (5, .int (nI (b))), (3, .int (1)), (4, .int (nI (cln (zr a.2.1) b))), (1, .int (nI (a.2.1.1.2))), (2, .int (bI (¬ a.2.1.1.1 = true))), (0, .ref ((Gs 0).1 1))]) hx hb dL_kept_48 hl (by decide) rfl (fun ls hl => ?_)
            refine lv_iconst (v := 4) hx hb dL_kept_50 (by decide) ?_
            refine lv_iload hx hb dL_kept_51 (lv_at hl 3 rfl) ?_
            refine lv_imul hx hb dL_kept_53 ?_
            refine lv_as (y := nI (4 * b)) (pk_mul (4) (b)) ?_
            refine lv_istore (lv' := [(9, .int (nI (4 * b))), (8, .int (0)), (7, .int (0)), (6, .int (0)), (5, .int (nI (b))), (3, .int (1)), (4, .int (nI (cln (zr a.2.1) b))), (1, .int (nI (a.2.1.1.2))), (2, .int (bI (¬ a.2.1.1.1 = true))), (0, .ref ((Gs 0).1 1))]) hx hb dL_kept_54 hl (by decide) rfl (fun ls hl => ?_)
            have LP56 : ∀ n9 : Nat, ∀ (q : Nat) (H : Heap) (locs : List Loc) (ls : Array Slot), (hq9 : q ≤ 4) → 4 - q < n9 → LO D cI cL cZ A s Gs [a] H locs → lv_has ls 15 [(9, .int (nI (4 * b + q))), (6, .int (nI (lvs (zr a.2.1) a.2.1.1.2 b q))), (7, .int (nI (cst (zr a.2.1) b 0 q))), (8, .int (nI (cst (zr a.2.1) b 2 q))), (5, .int (nI (b))), (3, .int (1)), (4, .int (nI (cln (zr a.2.1) b))), (1, .int (nI (a.2.1.1.2))), (2, .int (bI (¬ a.2.1.1.1 = true))), (0, .ref ((Gs 0).1 1))] → W p l e ({ frames := 9, cells := 3600, slots := 21600, locals := 186 } : Room) s m [.ref ((Gs 0).1 1)].toArray below meth c H locs (3 + 200 * b + 45 * q) (6 * (3 + 200 * b + 45 * q)) (MQ below (lqI D cI cL cZ Gs 1 [a] A) [.ref ((Gs 0).1 1)].toArray s 3600 21600 A) (F0 m 56 ls []) := by
              intro n9
              induction n9 with
              | zero => intros; omega
              | succ n9 ih56 =>
                intro q H locs ls hq9 hm9 hw hl
                refine lv_iload hx hb dL_kept_56 (lv_at hl 0 rfl) ?_
                refine lv_iconst (v := 4) hx hb dL_kept_58 (by decide) ?_
                refine lv_iload hx hb dL_kept_59 (lv_at hl 4 rfl) ?_
                refine lv_imul hx hb dL_kept_61 ?_
                refine lv_as (y := nI (4 * b)) (pk_mul (4) (b)) ?_
                refine lv_iconst (v := 4) hx hb dL_kept_62 (by decide) ?_
                refine lv_iadd hx hb dL_kept_63 ?_
                refine lv_as (y := nI (4 * b + 4)) (nI_add (4 * b) (4)) ?_
                refine lv_icmp_ge (tgt := 388) hx hb dL_kept_64 (by decide) (fun c64 => ?_) (fun c64 => ?_)
                · skip
                  have c64 := cn_le (a := 4 * b + 4) (b := 4 * b + q) (by omega) (by omega) c64
                  have hl : lv_has ls 15 [(9, .int (nI (4 * b + q))), (6, .int (nI (lvs (zr a.2.1) a.2.1.1.2 b 4))), (7, .int (nI (cst (zr a.2.1) b 0 q))), (8, .int (nI (cst (zr a.2.1) b 2 q))), (5, .int (nI (b))), (3, .int (1)), (4, .int (nI (cln (zr a.2.1) b))), (1, .int (nI (a.2.1.1.2))), (2, .int (bI (¬ a.2.1.1.1 = true))), (0, .ref ((Gs 0).1 1))] := lv_re hl 1 rfl (show (nI (lvs (zr a.2.1) a.2.1.1.2 b q)) = nI (lvs (zr a.2.1) a.2.1.1.2 b 4) from by rw [show q = 4 from by omega])
                  have hl : lv_has ls 15 [(9, .int (nI (4 * b + q))), (6, .int (nI (lvs (zr a.2.1) a.2.1.1.2 b 4))), (7, .int (nI (cst (zr a.2.1) b 0 4))), (8, .int (nI (cst (zr a.2.1) b 2 q))), (5, .int (nI (b))), (3, .int (1)), (4, .int (nI (cln (zr a.2.1) b))), (1, .int (nI (a.2.1.1.2))), (2, .int (bI (¬ a.2.1.1.1 = true))), (0, .ref ((Gs 0).1 1))] := lv_re hl 2 rfl (show (nI (cst (zr a.2.1) b 0 q)) = nI (cst (zr a.2.1) b 0 4) from by rw [show q = 4 from by omega])
                  have hl : lv_has ls 15 [(9, .int (nI (4 * b + q))), (6, .int (nI (lvs (zr a.2.1) a.2.1.1.2 b 4))), (7, .int (nI (cst (zr a.2.1) b 0 4))), (8, .int (nI (cst (zr a.2.1) b 2 4))), (5, .int (nI (b))), (3, .int (1)), (4, .int (nI (cln (zr a.2.1) b))), (1, .int (nI (a.2.1.1.2))), (2, .int (bI (¬ a.2.1.1.1 = true))), (0, .ref ((Gs 0).1 1))] := lv_re hl 3 rfl (show (nI (cst (zr a.2.1) b 2 q)) = nI (cst (zr a.2.1) b 2 4) from by rw [show q = 4 from by omega])
                  exact W.widen (by omega) (by omega) (JP388  _ _ _  hw (lv_sub hl [1, 2, 3, 4, 5, 6, 7, 8, 9] rfl))
                · skip
                  have c64 := cn_nle (a := 4 * b + 4) (b := 4 * b + q) (by omega) (by omega) c64
                  refine lv_iload_n hx hb dL_kept_67 rfl (lv_at hl 5 rfl) ?_
                  refine lv_if_eq (tgt := 388) hx hb dL_kept_68 (by decide) (fun c68 => ?_) (fun c68 => ?_)
                  · skip
                    exact absurd c68 (by decide)
                  · skip
                    have hq4 : q < 4 := by omega
                    have hA : 4 * b + q < 32 := by omega
                    have hAB : 4 * b + q < 4 * a.2.1.1.2 := by omega
                    have JP376 : ∀ (H : Heap) (locs : List Loc) (ls : Array Slot), LO D cI cL cZ A s Gs [a] H locs → lv_has ls 15 [(10, .long ((a.2.1.2.2 0 (4 * b + q)).toInt64)), (12, .long ((tpZ a.2.1 (nI (4 * b + q)) 3).toInt64)), (9, .int (nI (4 * b + q))), (6, .int (nI (lvs (zr a.2.1) a.2.1.1.2 b (q + 1)))), (7, .int (nI (cst (zr a.2.1) b 0 (q + 1)))), (8, .int (nI (cst (zr a.2.1) b 2 (q + 1)))), (5, .int (nI (b))), (3, .int (1)), (4, .int (nI (cln (zr a.2.1) b))), (1, .int (nI (a.2.1.1.2))), (2, .int (bI (¬ a.2.1.1.1 = true))), (0, .ref ((Gs 0).1 1))] → W p l e ({ frames := 9, cells := 3600, slots := 21600, locals := 186 } : Room) s m [.ref ((Gs 0).1 1)].toArray below meth c H locs (3 + 200 * b + 45 * q + 42) (6 * (3 + 200 * b + 45 * q + 42)) (MQ below (lqI D cI cL cZ Gs 1 [a] A) [.ref ((Gs 0).1 1)].toArray s 3600 21600 A) (F0 m 376 ls []) := by
                      intro H locs ls hw hl
                      refine lv_iconst (v := 1) hx hb dL_kept_376 (by decide) ?_
                      refine lv_goto (tgt := 381) hx hb dL_kept_377 (by decide) ?_
                      refine lv_istore_n (lv' := [(3, .int (1)), (10, .long ((a.2.1.2.2 0 (4 * b + q)).toInt64)), (12, .long ((tpZ a.2.1 (nI (4 * b + q)) 3).toInt64)), (9, .int (nI (4 * b + q))), (6, .int (nI (lvs (zr a.2.1) a.2.1.1.2 b (q + 1)))), (7, .int (nI (cst (zr a.2.1) b 0 (q + 1)))), (8, .int (nI (cst (zr a.2.1) b 2 (q + 1)))), (5, .int (nI (b))), (4, .int (nI (cln (zr a.2.1) b))), (1, .int (nI (a.2.1.1.2))), (2, .int (bI (¬ a.2.1.1.1 = true))), (0, .ref ((Gs 0).1 1))]) hx hb dL_kept_381 rfl hl (by decide) rfl (fun ls hl => ?_)
                      refine lv_iinc (v := nI (4 * b + q + 1)) (lv' := [(9, .int (nI (4 * b + q + 1))), (3, .int (1)), (10, .long ((a.2.1.2.2 0 (4 * b + q)).toInt64)), (12, .long ((tpZ a.2.1 (nI (4 * b + q)) 3).toInt64)), (6, .int (nI (lvs (zr a.2.1) a.2.1.1.2 b (q + 1)))), (7, .int (nI (cst (zr a.2.1) b 0 (q + 1)))), (8, .int (nI (cst (zr a.2.1) b 2 (q + 1)))), (5, .int (nI (b))), (4, .int (nI (cln (zr a.2.1) b))), (1, .int (nI (a.2.1.1.2))), (2, .int (bI (¬ a.2.1.1.1 = true))), (0, .ref ((Gs 0).1 1))]) hx hb dL_kept_382 hl (k := 3) rfl (nI_add _ 1) (by decide) rfl (fun ls hl => ?_)
                      refine lv_goto (tgt := 56) hx hb dL_kept_385 (by decide) ?_
                      have hl : lv_has ls 15 [(9, .int (nI (4 * b + (q + 1)))), (3, .int (1)), (10, .long ((a.2.1.2.2 0 (4 * b + q)).toInt64)), (12, .long ((tpZ a.2.1 (nI (4 * b + q)) 3).toInt64)), (6, .int (nI (lvs (zr a.2.1) a.2.1.1.2 b (q + 1)))), (7, .int (nI (cst (zr a.2.1) b 0 (q + 1)))), (8, .int (nI (cst (zr a.2.1) b 2 (q + 1)))), (5, .int (nI (b))), (4, .int (nI (cln (zr a.2.1) b))), (1, .int (nI (a.2.1.1.2))), (2, .int (bI (¬ a.2.1.1.1 = true))), (0, .ref ((Gs 0).1 1))] := lv_re hl 0 rfl (show (nI (4 * b + q + 1)) = nI (4 * b + (q + 1)) from rfl)
                      exact W.widen (by omega) (by omega) (ih56 (q + 1) _ _ _ (by omega) (by omega) hw (lv_sub hl [0, 4, 5, 6, 7, 1, 8, 9, 10, 11] rfl))
                    have JP334 : ∀ (H : Heap) (locs : List Loc) (ls : Array Slot), LO D cI cL cZ A s Gs [a] H locs → lv_has ls 15 [(10, .long ((a.2.1.2.2 0 (4 * b + q)).toInt64)), (12, .long ((tpZ a.2.1 (nI (4 * b + q)) 3).toInt64)), (9, .int (nI (4 * b + q))), (6, .int (nI (lvs (zr a.2.1) a.2.1.1.2 b (q + 1)))), (7, .int (nI (cst (zr a.2.1) b 0 (q + 1)))), (8, .int (nI (cst (zr a.2.1) b 2 (q + 1)))), (5, .int (nI (b))), (3, .int (1)), (4, .int (nI (cln (zr a.2.1) b))), (1, .int (nI (a.2.1.1.2))), (2, .int (bI (¬ a.2.1.1.1 = true))), (0, .ref ((Gs 0).1 1))] → W p l e ({ frames := 9, cells := 3600, slots := 21600, locals := 186 } : Room) s m [.ref ((Gs 0).1 1)].toArray below meth c H locs (3 + 200 * b + 45 * q + 38) (6 * (3 + 200 * b + 45 * q + 38)) (MQ below (lqI D cI cL cZ Gs 1 [a] A) [.ref ((Gs 0).1 1)].toArray s 3600 21600 A) (F0 m 334 ls []) := by
                      intro H locs ls hw hl
                      refine lv_iload_n hx hb dL_kept_334 rfl (lv_at hl 7 rfl) ?_
                      refine lv_if_eq (tgt := 380) hx hb dL_kept_335 (by decide) (fun c335 => ?_) (fun c335 => ?_)
                      · skip
                        exact absurd c335 (by decide)
                      · skip
                        refine lv_lload hx hb dL_kept_338 (lv_at hl 0 rfl) ?_
                        refine lv_lconst (v := 1) hx hb dL_kept_340 (by decide) ?_
                        refine W.lcmp hx hb dL_kept_341 ?_
                        refine lv_if_ne (tgt := 376) hx hb dL_kept_342 (by decide) (fun c342 => ?_) (fun c342 => ?_)
                        · skip
                          have c342 := (fun z => c342 ((lg_cmp_eq _ _).mpr z))
                          exact W.widen (by omega) (by omega) (JP376  _ _ _  hw (lv_sub hl [0, 1, 2, 3, 4, 5, 6, 7, 8, 9, 10, 11] rfl))
                        · skip
                          have c342 := (lg_cmp_eq _ _).mp c342
                          have k1 : a.2.1.2.2 0 (4 * b + q) = 1 := jl_i1 c342
                          refine lv_aload_n hx hb dL_kept_345 rfl (lv_at hl 11 rfl) ?_
                          refine lv_iload hx hb dL_kept_346 (lv_at hl 2 rfl) ?_
                          refine lv_iconst (v := 4) hx hb dL_kept_348 (by decide) ?_
                          refine lo_callX hF (lx_eq (x_page (Gs := fun _ => Gs 0) hst hG hGo (nI (4 * b + q)) 4) (show _ = ((tpZ a.2.1 (nI (4 * b + q)) 4).toInt64) from pg_J (w := 4) hB hAB (by decide)) (show _ = [a] from rfl)) k_page ⟨Nat.le_of_ble_eq_true rfl, Nat.le_of_ble_eq_true rfl⟩ hw [0] (by decide) rfl (hg_one rfl) rfl hl.1 rfl (Nat.le_of_ble_eq_true rfl) dL_kept_349 ⟨by show _ ≤ (3600 : Nat); omega, by show _ ≤ (21600 : Nat); omega⟩ (fun H locs hw => ?_)
                          have hw : LO D cI cL cZ A s Gs [a] H locs := hw
                          refine W.widen (k := 3 + 200 * b + 45 * q + 38 + 1) (n := 6 * (3 + 200 * b + 45 * q + 38 + 1)) (Nat.le_refl _) (by omega) ?_
                          refine lv_lconst (v := 0) hx hb dL_kept_352 (by decide) ?_
                          refine W.lcmp hx hb dL_kept_353 ?_
                          refine lv_if_eq (tgt := 376) hx hb dL_kept_354 (by decide) (fun c354 => ?_) (fun c354 => ?_)
                          · skip
                            have c354 := (lg_cmp_eq _ _).mp c354
                            exact W.widen (by omega) (by omega) (JP376  _ _ _  hw (lv_sub hl [0, 1, 2, 3, 4, 5, 6, 7, 8, 9, 10, 11] rfl))
                          · skip
                            have c354 := (fun z => c354 ((lg_cmp_eq _ _).mpr z))
                            refine lv_aload_n hx hb dL_kept_357 rfl (lv_at hl 11 rfl) ?_
                            refine lv_aload_n hx hb dL_kept_358 rfl (lv_at hl 11 rfl) ?_
                            refine lv_iload hx hb dL_kept_359 (lv_at hl 2 rfl) ?_
                            refine lv_iconst (v := 1) hx hb dL_kept_361 (by decide) ?_
                            refine lo_callX hF (lx_eq (x_page (Gs := fun _ => Gs 0) hst hG hGo (nI (4 * b + q)) 1) (show _ = ((tpZ a.2.1 (nI (4 * b + q)) 1).toInt64) from pg_J (w := 1) hB hAB (by decide)) (show _ = [a] from rfl)) k_page ⟨Nat.le_of_ble_eq_true rfl, Nat.le_of_ble_eq_true rfl⟩ hw [0] (by decide) rfl (hg_one rfl) rfl hl.1 rfl (Nat.le_of_ble_eq_true rfl) dL_kept_362 ⟨by show _ ≤ (3600 : Nat); omega, by show _ ≤ (21600 : Nat); omega⟩ (fun H locs hw => ?_)
                            have hw : LO D cI cL cZ A s Gs [a] H locs := hw
                            refine W.widen (k := 3 + 200 * b + 45 * q + 38 + 1 + 1) (n := 6 * (3 + 200 * b + 45 * q + 38 + 1 + 1)) (Nat.le_refl _) (by omega) ?_
                            refine lv_l2i (v := ((tpZ a.2.1 (nI (4 * b + q)) 1).toInt64).toInt32) hx hb dL_kept_365 rfl ?_
                            refine lv_as (show ((tpZ a.2.1 (nI (4 * b + q)) 1).toInt64).toInt32 = tpZ a.2.1 (nI (4 * b + q)) 1 from Int32.toInt32_toInt64 _) ?_
                            refine lo_callX hF (lx_eq (x_newest (Gs := fun _ => Gs 0) hst hG hGo (tpZ a.2.1 (nI (4 * b + q)) 1)) (show _ = ((nI (4 * b + q) : Int32).toInt64) from lv_new hX.1 hA k1 c354) (show _ = [a] from rfl)) k_newest ⟨Nat.le_of_ble_eq_true rfl, Nat.le_of_ble_eq_true rfl⟩ hw [0] (by decide) rfl (hg_one rfl) rfl hl.1 rfl (Nat.le_of_ble_eq_true rfl) dL_kept_366 ⟨by show _ ≤ (3600 : Nat); omega, by show _ ≤ (21600 : Nat); omega⟩ (fun H locs hw => ?_)
                            have hw : LO D cI cL cZ A s Gs [a] H locs := hw
                            refine W.widen (k := 3 + 200 * b + 45 * q + 38 + 1 + 1 + 1) (n := 6 * (3 + 200 * b + 45 * q + 38 + 1 + 1 + 1)) (Nat.le_refl _) (by omega) ?_
                            refine lv_iload hx hb dL_kept_369 (lv_at hl 2 rfl) ?_
                            refine lv_i2l (v := (nI (4 * b + q) : Int32).toInt64) hx hb dL_kept_371 rfl ?_
                            refine W.lcmp hx hb dL_kept_372 ?_
                            refine lv_if_ne (tgt := 380) hx hb dL_kept_373 (by decide) (fun c373 => ?_) (fun c373 => ?_)
                            · skip
                              exact (c373 ((lg_cmp_eq _ _).mpr rfl)).elim
                            · skip
                              have c373 := (lg_cmp_eq _ _).mp c373
                              exact W.widen (by omega) (by omega) (JP376  _ _ _  hw (lv_sub hl [0, 1, 2, 3, 4, 5, 6, 7, 8, 9, 10, 11] rfl))
                    have JP315 : ∀ (H : Heap) (locs : List Loc) (ls : Array Slot), LO D cI cL cZ A s Gs [a] H locs → lv_has ls 15 [(10, .long ((a.2.1.2.2 0 (4 * b + q)).toInt64)), (12, .long ((tpZ a.2.1 (nI (4 * b + q)) 3).toInt64)), (9, .int (nI (4 * b + q))), (6, .int (nI (lvs (zr a.2.1) a.2.1.1.2 b (q + 1)))), (7, .int (nI (cst (zr a.2.1) b 0 (q + 1)))), (8, .int (nI (cst (zr a.2.1) b 2 q))), (5, .int (nI (b))), (3, .int (1)), (4, .int (nI (cln (zr a.2.1) b))), (1, .int (nI (a.2.1.1.2))), (2, .int (bI (¬ a.2.1.1.1 = true))), (0, .ref ((Gs 0).1 1))] → W p l e ({ frames := 9, cells := 3600, slots := 21600, locals := 186 } : Room) s m [.ref ((Gs 0).1 1)].toArray below meth c H locs (3 + 200 * b + 45 * q + 38) (6 * (3 + 200 * b + 45 * q + 38)) (MQ below (lqI D cI cL cZ Gs 1 [a] A) [.ref ((Gs 0).1 1)].toArray s 3600 21600 A) (F0 m 315 ls []) := by
                      intro H locs ls hw hl
                      refine lv_iload hx hb dL_kept_315 (lv_at hl 5 rfl) ?_
                      refine lv_lload hx hb dL_kept_317 (lv_at hl 0 rfl) ?_
                      refine lv_ldc2 (v := 2) hx hb hown (hts _ (mlA 182 rfl)) dL_kept_319 ?_
                      refine W.lcmp hx hb dL_kept_322 ?_
                      refine lv_if_ne (tgt := 330) hx hb dL_kept_323 (by decide) (fun c323 => ?_) (fun c323 => ?_)
                      · skip
                        have c323 := (fun z => c323 ((lg_cmp_eq _ _).mpr z))
                        have k2 : ¬ a.2.1.2.2 0 (4 * b + q) = 2 := fun z => c323 (by rw [z]; decide)
                        refine lv_iconst (v := 0) hx hb dL_kept_330 (by decide) ?_
                        refine lv_iadd hx hb dL_kept_331 ?_
                        refine lv_as (y := nI (cst (zr a.2.1) b 2 q + 0)) (nI_add (cst (zr a.2.1) b 2 q) (0)) ?_
                        refine lv_istore (lv' := [(8, .int (nI (cst (zr a.2.1) b 2 q + 0))), (10, .long ((a.2.1.2.2 0 (4 * b + q)).toInt64)), (12, .long ((tpZ a.2.1 (nI (4 * b + q)) 3).toInt64)), (9, .int (nI (4 * b + q))), (6, .int (nI (lvs (zr a.2.1) a.2.1.1.2 b (q + 1)))), (7, .int (nI (cst (zr a.2.1) b 0 (q + 1)))), (5, .int (nI (b))), (3, .int (1)), (4, .int (nI (cln (zr a.2.1) b))), (1, .int (nI (a.2.1.1.2))), (2, .int (bI (¬ a.2.1.1.1 = true))), (0, .ref ((Gs 0).1 1))]) hx hb dL_kept_332 hl (by decide) rfl (fun ls hl => ?_)
                        have hl : lv_has ls 15 [(8, .int (nI (cst (zr a.2.1) b 2 (q + 1)))), (10, .long ((a.2.1.2.2 0 (4 * b + q)).toInt64)), (12, .long ((tpZ a.2.1 (nI (4 * b + q)) 3).toInt64)), (9, .int (nI (4 * b + q))), (6, .int (nI (lvs (zr a.2.1) a.2.1.1.2 b (q + 1)))), (7, .int (nI (cst (zr a.2.1) b 0 (q + 1)))), (5, .int (nI (b))), (3, .int (1)), (4, .int (nI (cln (zr a.2.1) b))), (1, .int (nI (a.2.1.1.2))), (2, .int (bI (¬ a.2.1.1.1 = true))), (0, .ref ((Gs 0).1 1))] := lv_re hl 0 rfl (show (nI (cst (zr a.2.1) b 2 q + 0)) = nI (cst (zr a.2.1) b 2 (q + 1)) from by rw [cs_s, if_neg k2]; first | done | rfl)
                        exact W.widen (by omega) (by omega) (JP334  _ _ _  hw (lv_sub hl [1, 2, 3, 4, 5, 0, 6, 7, 8, 9, 10, 11] rfl))
                      · skip
                        have c323 := (lg_cmp_eq _ _).mp c323
                        have k2 : a.2.1.2.2 0 (4 * b + q) = 2 := jl_i2 c323
                        refine lv_iconst (v := 1) hx hb dL_kept_326 (by decide) ?_
                        refine lv_goto (tgt := 331) hx hb dL_kept_327 (by decide) ?_
                        refine lv_iadd hx hb dL_kept_331 ?_
                        refine lv_as (y := nI (cst (zr a.2.1) b 2 q + 1)) (nI_add (cst (zr a.2.1) b 2 q) (1)) ?_
                        refine lv_istore (lv' := [(8, .int (nI (cst (zr a.2.1) b 2 q + 1))), (10, .long ((a.2.1.2.2 0 (4 * b + q)).toInt64)), (12, .long ((tpZ a.2.1 (nI (4 * b + q)) 3).toInt64)), (9, .int (nI (4 * b + q))), (6, .int (nI (lvs (zr a.2.1) a.2.1.1.2 b (q + 1)))), (7, .int (nI (cst (zr a.2.1) b 0 (q + 1)))), (5, .int (nI (b))), (3, .int (1)), (4, .int (nI (cln (zr a.2.1) b))), (1, .int (nI (a.2.1.1.2))), (2, .int (bI (¬ a.2.1.1.1 = true))), (0, .ref ((Gs 0).1 1))]) hx hb dL_kept_332 hl (by decide) rfl (fun ls hl => ?_)
                        have hl : lv_has ls 15 [(8, .int (nI (cst (zr a.2.1) b 2 (q + 1)))), (10, .long ((a.2.1.2.2 0 (4 * b + q)).toInt64)), (12, .long ((tpZ a.2.1 (nI (4 * b + q)) 3).toInt64)), (9, .int (nI (4 * b + q))), (6, .int (nI (lvs (zr a.2.1) a.2.1.1.2 b (q + 1)))), (7, .int (nI (cst (zr a.2.1) b 0 (q + 1)))), (5, .int (nI (b))), (3, .int (1)), (4, .int (nI (cln (zr a.2.1) b))), (1, .int (nI (a.2.1.1.2))), (2, .int (bI (¬ a.2.1.1.1 = true))), (0, .ref ((Gs 0).1 1))] := lv_re hl 0 rfl (show (nI (cst (zr a.2.1) b 2 q + 1)) = nI (cst (zr a.2.1) b 2 (q + 1)) from by rw [cs_s, if_pos k2]; first | done | rfl)
                        exact W.widen (by omega) (by omega) (JP334  _ _ _  hw (lv_sub hl [1, 2, 3, 4, 5, 0, 6, 7, 8, 9, 10, 11] rfl))
                    have JP298 : ∀ (H : Heap) (locs : List Loc) (ls : Array Slot), LO D cI cL cZ A s Gs [a] H locs → lv_has ls 15 [(10, .long ((a.2.1.2.2 0 (4 * b + q)).toInt64)), (12, .long ((tpZ a.2.1 (nI (4 * b + q)) 3).toInt64)), (9, .int (nI (4 * b + q))), (6, .int (nI (lvs (zr a.2.1) a.2.1.1.2 b (q + 1)))), (7, .int (nI (cst (zr a.2.1) b 0 q))), (8, .int (nI (cst (zr a.2.1) b 2 q))), (5, .int (nI (b))), (3, .int (1)), (4, .int (nI (cln (zr a.2.1) b))), (1, .int (nI (a.2.1.1.2))), (2, .int (bI (¬ a.2.1.1.1 = true))), (0, .ref ((Gs 0).1 1))] → W p l e ({ frames := 9, cells := 3600, slots := 21600, locals := 186 } : Room) s m [.ref ((Gs 0).1 1)].toArray below meth c H locs (3 + 200 * b + 45 * q + 38) (6 * (3 + 200 * b + 45 * q + 38)) (MQ below (lqI D cI cL cZ Gs 1 [a] A) [.ref ((Gs 0).1 1)].toArray s 3600 21600 A) (F0 m 298 ls []) := by
                      intro H locs ls hw hl
                      refine lv_iload hx hb dL_kept_298 (lv_at hl 4 rfl) ?_
                      refine lv_lload hx hb dL_kept_300 (lv_at hl 0 rfl) ?_
                      refine lv_lconst (v := 0) hx hb dL_kept_302 (by decide) ?_
                      refine W.lcmp hx hb dL_kept_303 ?_
                      refine lv_if_ne (tgt := 311) hx hb dL_kept_304 (by decide) (fun c304 => ?_) (fun c304 => ?_)
                      · skip
                        have c304 := (fun z => c304 ((lg_cmp_eq _ _).mpr z))
                        have k0 : ¬ a.2.1.2.2 0 (4 * b + q) = 0 := fun z => c304 (by rw [z]; decide)
                        refine lv_iconst (v := 0) hx hb dL_kept_311 (by decide) ?_
                        refine lv_iadd hx hb dL_kept_312 ?_
                        refine lv_as (y := nI (cst (zr a.2.1) b 0 q + 0)) (nI_add (cst (zr a.2.1) b 0 q) (0)) ?_
                        refine lv_istore (lv' := [(7, .int (nI (cst (zr a.2.1) b 0 q + 0))), (10, .long ((a.2.1.2.2 0 (4 * b + q)).toInt64)), (12, .long ((tpZ a.2.1 (nI (4 * b + q)) 3).toInt64)), (9, .int (nI (4 * b + q))), (6, .int (nI (lvs (zr a.2.1) a.2.1.1.2 b (q + 1)))), (8, .int (nI (cst (zr a.2.1) b 2 q))), (5, .int (nI (b))), (3, .int (1)), (4, .int (nI (cln (zr a.2.1) b))), (1, .int (nI (a.2.1.1.2))), (2, .int (bI (¬ a.2.1.1.1 = true))), (0, .ref ((Gs 0).1 1))]) hx hb dL_kept_313 hl (by decide) rfl (fun ls hl => ?_)
                        have hl : lv_has ls 15 [(7, .int (nI (cst (zr a.2.1) b 0 (q + 1)))), (10, .long ((a.2.1.2.2 0 (4 * b + q)).toInt64)), (12, .long ((tpZ a.2.1 (nI (4 * b + q)) 3).toInt64)), (9, .int (nI (4 * b + q))), (6, .int (nI (lvs (zr a.2.1) a.2.1.1.2 b (q + 1)))), (8, .int (nI (cst (zr a.2.1) b 2 q))), (5, .int (nI (b))), (3, .int (1)), (4, .int (nI (cln (zr a.2.1) b))), (1, .int (nI (a.2.1.1.2))), (2, .int (bI (¬ a.2.1.1.1 = true))), (0, .ref ((Gs 0).1 1))] := lv_re hl 0 rfl (show (nI (cst (zr a.2.1) b 0 q + 0)) = nI (cst (zr a.2.1) b 0 (q + 1)) from by rw [cs_s, if_neg k0]; first | done | rfl)
                        exact W.widen (by omega) (by omega) (JP315  _ _ _  hw (lv_sub hl [1, 2, 3, 4, 0, 5, 6, 7, 8, 9, 10, 11] rfl))
                      · skip
                        have c304 := (lg_cmp_eq _ _).mp c304
                        have k0 : a.2.1.2.2 0 (4 * b + q) = 0 := jl_i0 c304
                        refine lv_iconst (v := 1) hx hb dL_kept_307 (by decide) ?_
                        refine lv_goto (tgt := 312) hx hb dL_kept_308 (by decide) ?_
                        refine lv_iadd hx hb dL_kept_312 ?_
                        refine lv_as (y := nI (cst (zr a.2.1) b 0 q + 1)) (nI_add (cst (zr a.2.1) b 0 q) (1)) ?_
                        refine lv_istore (lv' := [(7, .int (nI (cst (zr a.2.1) b 0 q + 1))), (10, .long ((a.2.1.2.2 0 (4 * b + q)).toInt64)), (12, .long ((tpZ a.2.1 (nI (4 * b + q)) 3).toInt64)), (9, .int (nI (4 * b + q))), (6, .int (nI (lvs (zr a.2.1) a.2.1.1.2 b (q + 1)))), (8, .int (nI (cst (zr a.2.1) b 2 q))), (5, .int (nI (b))), (3, .int (1)), (4, .int (nI (cln (zr a.2.1) b))), (1, .int (nI (a.2.1.1.2))), (2, .int (bI (¬ a.2.1.1.1 = true))), (0, .ref ((Gs 0).1 1))]) hx hb dL_kept_313 hl (by decide) rfl (fun ls hl => ?_)
                        have hl : lv_has ls 15 [(7, .int (nI (cst (zr a.2.1) b 0 (q + 1)))), (10, .long ((a.2.1.2.2 0 (4 * b + q)).toInt64)), (12, .long ((tpZ a.2.1 (nI (4 * b + q)) 3).toInt64)), (9, .int (nI (4 * b + q))), (6, .int (nI (lvs (zr a.2.1) a.2.1.1.2 b (q + 1)))), (8, .int (nI (cst (zr a.2.1) b 2 q))), (5, .int (nI (b))), (3, .int (1)), (4, .int (nI (cln (zr a.2.1) b))), (1, .int (nI (a.2.1.1.2))), (2, .int (bI (¬ a.2.1.1.1 = true))), (0, .ref ((Gs 0).1 1))] := lv_re hl 0 rfl (show (nI (cst (zr a.2.1) b 0 q + 1)) = nI (cst (zr a.2.1) b 0 (q + 1)) from by rw [cs_s, if_pos k0]; first | done | rfl)
                        exact W.widen (by omega) (by omega) (JP315  _ _ _  hw (lv_sub hl [1, 2, 3, 4, 0, 5, 6, 7, 8, 9, 10, 11] rfl))
                    have JP217 : ∀ (H : Heap) (locs : List Loc) (ls : Array Slot), LO D cI cL cZ A s Gs [a] H locs → lv_has ls 15 [(10, .long ((a.2.1.2.2 0 (4 * b + q)).toInt64)), (12, .long ((tpZ a.2.1 (nI (4 * b + q)) 3).toInt64)), (9, .int (nI (4 * b + q))), (6, .int (nI (lvs (zr a.2.1) a.2.1.1.2 b q))), (7, .int (nI (cst (zr a.2.1) b 0 q))), (8, .int (nI (cst (zr a.2.1) b 2 q))), (5, .int (nI (b))), (3, .int (1)), (4, .int (nI (cln (zr a.2.1) b))), (1, .int (nI (a.2.1.1.2))), (2, .int (bI (¬ a.2.1.1.1 = true))), (0, .ref ((Gs 0).1 1))] → W p l e ({ frames := 9, cells := 3600, slots := 21600, locals := 186 } : Room) s m [.ref ((Gs 0).1 1)].toArray below meth c H locs (3 + 200 * b + 45 * q + 6) (6 * (3 + 200 * b + 45 * q + 6)) (MQ below (lqI D cI cL cZ Gs 1 [a] A) [.ref ((Gs 0).1 1)].toArray s 3600 21600 A) (F0 m 217 ls []) := by
                      intro H locs ls hw hl
                      refine lv_iconst (v := 1) hx hb dL_kept_217 (by decide) ?_
                      refine lv_goto (tgt := 222) hx hb dL_kept_218 (by decide) ?_
                      refine lv_istore_n (lv' := [(3, .int (1)), (10, .long ((a.2.1.2.2 0 (4 * b + q)).toInt64)), (12, .long ((tpZ a.2.1 (nI (4 * b + q)) 3).toInt64)), (9, .int (nI (4 * b + q))), (6, .int (nI (lvs (zr a.2.1) a.2.1.1.2 b q))), (7, .int (nI (cst (zr a.2.1) b 0 q))), (8, .int (nI (cst (zr a.2.1) b 2 q))), (5, .int (nI (b))), (4, .int (nI (cln (zr a.2.1) b))), (1, .int (nI (a.2.1.1.2))), (2, .int (bI (¬ a.2.1.1.1 = true))), (0, .ref ((Gs 0).1 1))]) hx hb dL_kept_222 rfl hl (by decide) rfl (fun ls hl => ?_)
                      refine lv_iconst (v := 0) hx hb dL_kept_223 (by decide) ?_
                      refine lv_istore (lv' := [(14, .int (0)), (3, .int (1)), (10, .long ((a.2.1.2.2 0 (4 * b + q)).toInt64)), (12, .long ((tpZ a.2.1 (nI (4 * b + q)) 3).toInt64)), (9, .int (nI (4 * b + q))), (6, .int (nI (lvs (zr a.2.1) a.2.1.1.2 b q))), (7, .int (nI (cst (zr a.2.1) b 0 q))), (8, .int (nI (cst (zr a.2.1) b 2 q))), (5, .int (nI (b))), (4, .int (nI (cln (zr a.2.1) b))), (1, .int (nI (a.2.1.1.2))), (2, .int (bI (¬ a.2.1.1.1 = true))), (0, .ref ((Gs 0).1 1))]) hx hb dL_kept_224 hl (by decide) rfl (fun ls hl => ?_)
                      have LP226 : ∀ n9 : Nat, ∀ (o : Nat) (H : Heap) (locs : List Loc) (ls : Array Slot), (ho9 : o ≤ 4 * b + q) → 4 * b + q - o < n9 → LO D cI cL cZ A s Gs [a] H locs → lv_has ls 15 [(14, .int (nI (o))), (10, .long ((a.2.1.2.2 0 (4 * b + q)).toInt64)), (12, .long ((tpZ a.2.1 (nI (4 * b + q)) 3).toInt64)), (9, .int (nI (4 * b + q))), (6, .int (nI (lvs (zr a.2.1) a.2.1.1.2 b q))), (7, .int (nI (cst (zr a.2.1) b 0 q))), (8, .int (nI (cst (zr a.2.1) b 2 q))), (5, .int (nI (b))), (3, .int (1)), (4, .int (nI (cln (zr a.2.1) b))), (1, .int (nI (a.2.1.1.2))), (2, .int (bI (¬ a.2.1.1.1 = true))), (0, .ref ((Gs 0).1 1))] → W p l e ({ frames := 9, cells := 3600, slots := 21600, locals := 186 } : Room) s m [.ref ((Gs 0).1 1)].toArray below meth c H locs (3 + 200 * b + 45 * q + 6 + o) (6 * (3 + 200 * b + 45 * q + 6 + o)) (MQ below (lqI D cI cL cZ Gs 1 [a] A) [.ref ((Gs 0).1 1)].toArray s 3600 21600 A) (F0 m 226 ls []) := by
                        intro n9
                        induction n9 with
                        | zero => intros; omega
                        | succ n9 ih226 =>
                          intro o H locs ls ho9 hm9 hw hl
                          refine lv_iload hx hb dL_kept_226 (lv_at hl 0 rfl) ?_
                          refine lv_iload hx hb dL_kept_228 (lv_at hl 3 rfl) ?_
                          refine lv_icmp_ge (tgt := 269) hx hb dL_kept_230 (by decide) (fun c230 => ?_) (fun c230 => ?_)
                          · skip
                            have c230 := cn_le (a := 4 * b + q) (b := o) (by omega) (by omega) c230
                            refine lv_iload hx hb dL_kept_269 (lv_at hl 4 rfl) ?_
                            refine lv_lload hx hb dL_kept_271 (lv_at hl 1 rfl) ?_
                            refine lv_lconst (v := 1) hx hb dL_kept_273 (by decide) ?_
                            refine W.lcmp hx hb dL_kept_274 ?_
                            refine lv_if_ne (tgt := 294) hx hb dL_kept_275 (by decide) (fun c275 => ?_) (fun c275 => ?_)
                            · skip
                              have c275 := (fun z => c275 ((lg_cmp_eq _ _).mpr z))
                              have k1 : ¬ a.2.1.2.2 0 (4 * b + q) = 1 := fun z => c275 (by rw [z]; decide)
                              refine lv_iconst (v := 0) hx hb dL_kept_294 (by decide) ?_
                              refine lv_iadd hx hb dL_kept_295 ?_
                              refine lv_as (y := nI (lvs (zr a.2.1) a.2.1.1.2 b q + 0)) (nI_add (lvs (zr a.2.1) a.2.1.1.2 b q) (0)) ?_
                              refine lv_istore (lv' := [(6, .int (nI (lvs (zr a.2.1) a.2.1.1.2 b q + 0))), (14, .int (nI (o))), (10, .long ((a.2.1.2.2 0 (4 * b + q)).toInt64)), (12, .long ((tpZ a.2.1 (nI (4 * b + q)) 3).toInt64)), (9, .int (nI (4 * b + q))), (7, .int (nI (cst (zr a.2.1) b 0 q))), (8, .int (nI (cst (zr a.2.1) b 2 q))), (5, .int (nI (b))), (3, .int (1)), (4, .int (nI (cln (zr a.2.1) b))), (1, .int (nI (a.2.1.1.2))), (2, .int (bI (¬ a.2.1.1.1 = true))), (0, .ref ((Gs 0).1 1))]) hx hb dL_kept_296 hl (by decide) rfl (fun ls hl => ?_)
                              have hl : lv_has ls 15 [(6, .int (nI (lvs (zr a.2.1) a.2.1.1.2 b (q + 1)))), (14, .int (nI (o))), (10, .long ((a.2.1.2.2 0 (4 * b + q)).toInt64)), (12, .long ((tpZ a.2.1 (nI (4 * b + q)) 3).toInt64)), (9, .int (nI (4 * b + q))), (7, .int (nI (cst (zr a.2.1) b 0 q))), (8, .int (nI (cst (zr a.2.1) b 2 q))), (5, .int (nI (b))), (3, .int (1)), (4, .int (nI (cln (zr a.2.1) b))), (1, .int (nI (a.2.1.1.2))), (2, .int (bI (¬ a.2.1.1.1 = true))), (0, .ref ((Gs 0).1 1))] := lv_re hl 0 rfl (show (nI (lvs (zr a.2.1) a.2.1.1.2 b q + 0)) = nI (lvs (zr a.2.1) a.2.1.1.2 b (q + 1)) from by rw [lv_s hX.1 hb8 hq4, if_neg (fun z => k1 z.1)]; first | done | rfl)
                              exact W.widen (by omega) (by omega) (JP298  _ _ _  hw (lv_sub hl [2, 3, 4, 0, 5, 6, 7, 8, 9, 10, 11, 12] rfl))
                            · skip
                              have c275 := (lg_cmp_eq _ _).mp c275
                              have k1 : a.2.1.2.2 0 (4 * b + q) = 1 := jl_i1 c275
                              refine lv_aload_n hx hb dL_kept_278 rfl (lv_at hl 12 rfl) ?_
                              refine lv_iload hx hb dL_kept_279 (lv_at hl 3 rfl) ?_
                              refine lv_iconst (v := 4) hx hb dL_kept_281 (by decide) ?_
                              refine lo_callX hF (lx_eq (x_page (Gs := fun _ => Gs 0) hst hG hGo (nI (4 * b + q)) 4) (show _ = ((tpZ a.2.1 (nI (4 * b + q)) 4).toInt64) from pg_J (w := 4) hB hAB (by decide)) (show _ = [a] from rfl)) k_page ⟨Nat.le_of_ble_eq_true rfl, Nat.le_of_ble_eq_true rfl⟩ hw [0] (by decide) rfl (hg_one rfl) rfl hl.1 rfl (Nat.le_of_ble_eq_true rfl) dL_kept_282 ⟨by show _ ≤ (3600 : Nat); omega, by show _ ≤ (21600 : Nat); omega⟩ (fun H locs hw => ?_)
                              have hw : LO D cI cL cZ A s Gs [a] H locs := hw
                              refine W.widen (k := 3 + 200 * b + 45 * q + 6 + o + 1) (n := 6 * (3 + 200 * b + 45 * q + 6 + o + 1)) (Nat.le_refl _) (by omega) ?_
                              refine lv_lconst (v := 1) hx hb dL_kept_285 (by decide) ?_
                              refine W.lcmp hx hb dL_kept_286 ?_
                              refine lv_if_ne (tgt := 294) hx hb dL_kept_287 (by decide) (fun c287 => ?_) (fun c287 => ?_)
                              · skip
                                have c287 := (fun z => c287 ((lg_cmp_eq _ _).mpr z))
                                refine lv_iconst (v := 0) hx hb dL_kept_294 (by decide) ?_
                                refine lv_iadd hx hb dL_kept_295 ?_
                                refine lv_as (y := nI (lvs (zr a.2.1) a.2.1.1.2 b q + 0)) (nI_add (lvs (zr a.2.1) a.2.1.1.2 b q) (0)) ?_
                                refine lv_istore (lv' := [(6, .int (nI (lvs (zr a.2.1) a.2.1.1.2 b q + 0))), (14, .int (nI (o))), (10, .long ((a.2.1.2.2 0 (4 * b + q)).toInt64)), (12, .long ((tpZ a.2.1 (nI (4 * b + q)) 3).toInt64)), (9, .int (nI (4 * b + q))), (7, .int (nI (cst (zr a.2.1) b 0 q))), (8, .int (nI (cst (zr a.2.1) b 2 q))), (5, .int (nI (b))), (3, .int (1)), (4, .int (nI (cln (zr a.2.1) b))), (1, .int (nI (a.2.1.1.2))), (2, .int (bI (¬ a.2.1.1.1 = true))), (0, .ref ((Gs 0).1 1))]) hx hb dL_kept_296 hl (by decide) rfl (fun ls hl => ?_)
                                have hl : lv_has ls 15 [(6, .int (nI (lvs (zr a.2.1) a.2.1.1.2 b (q + 1)))), (14, .int (nI (o))), (10, .long ((a.2.1.2.2 0 (4 * b + q)).toInt64)), (12, .long ((tpZ a.2.1 (nI (4 * b + q)) 3).toInt64)), (9, .int (nI (4 * b + q))), (7, .int (nI (cst (zr a.2.1) b 0 q))), (8, .int (nI (cst (zr a.2.1) b 2 q))), (5, .int (nI (b))), (3, .int (1)), (4, .int (nI (cln (zr a.2.1) b))), (1, .int (nI (a.2.1.1.2))), (2, .int (bI (¬ a.2.1.1.1 = true))), (0, .ref ((Gs 0).1 1))] := lv_re hl 0 rfl (show (nI (lvs (zr a.2.1) a.2.1.1.2 b q + 0)) = nI (lvs (zr a.2.1) a.2.1.1.2 b (q + 1)) from by rw [lv_s hX.1 hb8 hq4, if_neg (fun z => c287 z.2)]; first | done | rfl)
                                exact W.widen (by omega) (by omega) (JP298  _ _ _  hw (lv_sub hl [2, 3, 4, 0, 5, 6, 7, 8, 9, 10, 11, 12] rfl))
                              · skip
                                have c287 := (lg_cmp_eq _ _).mp c287
                                refine lv_iconst (v := 1) hx hb dL_kept_290 (by decide) ?_
                                refine lv_goto (tgt := 295) hx hb dL_kept_291 (by decide) ?_
                                refine lv_iadd hx hb dL_kept_295 ?_
                                refine lv_as (y := nI (lvs (zr a.2.1) a.2.1.1.2 b q + 1)) (nI_add (lvs (zr a.2.1) a.2.1.1.2 b q) (1)) ?_
                                refine lv_istore (lv' := [(6, .int (nI (lvs (zr a.2.1) a.2.1.1.2 b q + 1))), (14, .int (nI (o))), (10, .long ((a.2.1.2.2 0 (4 * b + q)).toInt64)), (12, .long ((tpZ a.2.1 (nI (4 * b + q)) 3).toInt64)), (9, .int (nI (4 * b + q))), (7, .int (nI (cst (zr a.2.1) b 0 q))), (8, .int (nI (cst (zr a.2.1) b 2 q))), (5, .int (nI (b))), (3, .int (1)), (4, .int (nI (cln (zr a.2.1) b))), (1, .int (nI (a.2.1.1.2))), (2, .int (bI (¬ a.2.1.1.1 = true))), (0, .ref ((Gs 0).1 1))]) hx hb dL_kept_296 hl (by decide) rfl (fun ls hl => ?_)
                                have hl : lv_has ls 15 [(6, .int (nI (lvs (zr a.2.1) a.2.1.1.2 b (q + 1)))), (14, .int (nI (o))), (10, .long ((a.2.1.2.2 0 (4 * b + q)).toInt64)), (12, .long ((tpZ a.2.1 (nI (4 * b + q)) 3).toInt64)), (9, .int (nI (4 * b + q))), (7, .int (nI (cst (zr a.2.1) b 0 q))), (8, .int (nI (cst (zr a.2.1) b 2 q))), (5, .int (nI (b))), (3, .int (1)), (4, .int (nI (cln (zr a.2.1) b))), (1, .int (nI (a.2.1.1.2))), (2, .int (bI (¬ a.2.1.1.1 = true))), (0, .ref ((Gs 0).1 1))] := lv_re hl 0 rfl (show (nI (lvs (zr a.2.1) a.2.1.1.2 b q + 1)) = nI (lvs (zr a.2.1) a.2.1.1.2 b (q + 1)) from by rw [lv_s hX.1 hb8 hq4, if_pos ⟨k1, c287⟩]; first | done | rfl)
                                exact W.widen (by omega) (by omega) (JP298  _ _ _  hw (lv_sub hl [2, 3, 4, 0, 5, 6, 7, 8, 9, 10, 11, 12] rfl))
                          · skip
                            have c230 := cn_nle (a := 4 * b + q) (b := o) (by omega) (by omega) c230
                            refine lv_iload_n hx hb dL_kept_233 rfl (lv_at hl 8 rfl) ?_
                            refine lv_if_eq (tgt := 269) hx hb dL_kept_234 (by decide) (fun c234 => ?_) (fun c234 => ?_)
                            · skip
                              exact absurd c234 (by decide)
                            · skip
                              refine lv_lload hx hb dL_kept_237 (lv_at hl 1 rfl) ?_
                              refine lv_lconst (v := 1) hx hb dL_kept_239 (by decide) ?_
                              refine W.lcmp hx hb dL_kept_240 ?_
                              refine lv_if_ne (tgt := 257) hx hb dL_kept_241 (by decide) (fun c241 => ?_) (fun c241 => ?_)
                              · skip
                                have c241 := (fun z => c241 ((lg_cmp_eq _ _).mpr z))
                                refine lv_iconst (v := 1) hx hb dL_kept_257 (by decide) ?_
                                refine lv_goto (tgt := 262) hx hb dL_kept_258 (by decide) ?_
                                refine lv_istore_n (lv' := [(3, .int (1)), (14, .int (nI (o))), (10, .long ((a.2.1.2.2 0 (4 * b + q)).toInt64)), (12, .long ((tpZ a.2.1 (nI (4 * b + q)) 3).toInt64)), (9, .int (nI (4 * b + q))), (6, .int (nI (lvs (zr a.2.1) a.2.1.1.2 b q))), (7, .int (nI (cst (zr a.2.1) b 0 q))), (8, .int (nI (cst (zr a.2.1) b 2 q))), (5, .int (nI (b))), (4, .int (nI (cln (zr a.2.1) b))), (1, .int (nI (a.2.1.1.2))), (2, .int (bI (¬ a.2.1.1.1 = true))), (0, .ref ((Gs 0).1 1))]) hx hb dL_kept_262 rfl hl (by decide) rfl (fun ls hl => ?_)
                                refine lv_iinc (v := nI (o + 1)) (lv' := [(14, .int (nI (o + 1))), (3, .int (1)), (10, .long ((a.2.1.2.2 0 (4 * b + q)).toInt64)), (12, .long ((tpZ a.2.1 (nI (4 * b + q)) 3).toInt64)), (9, .int (nI (4 * b + q))), (6, .int (nI (lvs (zr a.2.1) a.2.1.1.2 b q))), (7, .int (nI (cst (zr a.2.1) b 0 q))), (8, .int (nI (cst (zr a.2.1) b 2 q))), (5, .int (nI (b))), (4, .int (nI (cln (zr a.2.1) b))), (1, .int (nI (a.2.1.1.2))), (2, .int (bI (¬ a.2.1.1.1 = true))), (0, .ref ((Gs 0).1 1))]) hx hb dL_kept_263 hl (k := 1) rfl (nI_add _ 1) (by decide) rfl (fun ls hl => ?_)
                                refine lv_goto (tgt := 226) hx hb dL_kept_266 (by decide) ?_
                                have hl : lv_has ls 15 [(14, .int (nI ((o + 1)))), (3, .int (1)), (10, .long ((a.2.1.2.2 0 (4 * b + q)).toInt64)), (12, .long ((tpZ a.2.1 (nI (4 * b + q)) 3).toInt64)), (9, .int (nI (4 * b + q))), (6, .int (nI (lvs (zr a.2.1) a.2.1.1.2 b q))), (7, .int (nI (cst (zr a.2.1) b 0 q))), (8, .int (nI (cst (zr a.2.1) b 2 q))), (5, .int (nI (b))), (4, .int (nI (cln (zr a.2.1) b))), (1, .int (nI (a.2.1.1.2))), (2, .int (bI (¬ a.2.1.1.1 = true))), (0, .ref ((Gs 0).1 1))] := lv_re hl 0 rfl (show (nI (o + 1)) = nI ((o + 1)) from rfl)
                                exact W.widen (by omega) (by omega) (ih226 (o + 1) _ _ _ (by omega) (by omega) hw (lv_sub hl [0, 2, 3, 4, 5, 6, 7, 8, 1, 9, 10, 11, 12] rfl))
                              · skip
                                have c241 := (lg_cmp_eq _ _).mp c241
                                have k1 : a.2.1.2.2 0 (4 * b + q) = 1 := jl_i1 c241
                                refine lv_aload_n hx hb dL_kept_244 rfl (lv_at hl 12 rfl) ?_
                                refine lv_iload hx hb dL_kept_245 (lv_at hl 0 rfl) ?_
                                refine lv_iconst (v := 3) hx hb dL_kept_247 (by decide) ?_
                                refine lo_callX hF (lx_eq (x_page (Gs := fun _ => Gs 0) hst hG hGo (nI (o)) 3) (show _ = ((tpZ a.2.1 (nI o) 3).toInt64) from pg_J (w := 3) hB (by omega) (by decide)) (show _ = [a] from rfl)) k_page ⟨Nat.le_of_ble_eq_true rfl, Nat.le_of_ble_eq_true rfl⟩ hw [0] (by decide) rfl (hg_one rfl) rfl hl.1 rfl (Nat.le_of_ble_eq_true rfl) dL_kept_248 ⟨by show _ ≤ (3600 : Nat); omega, by show _ ≤ (21600 : Nat); omega⟩ (fun H locs hw => ?_)
                                have hw : LO D cI cL cZ A s Gs [a] H locs := hw
                                refine W.widen (k := 3 + 200 * b + 45 * q + 6 + o + 1) (n := 6 * (3 + 200 * b + 45 * q + 6 + o + 1)) (Nat.le_refl _) (by omega) ?_
                                refine lv_lload hx hb dL_kept_251 (lv_at hl 2 rfl) ?_
                                refine W.lcmp hx hb dL_kept_253 ?_
                                refine lv_if_eq (tgt := 261) hx hb dL_kept_254 (by decide) (fun c254 => ?_) (fun c254 => ?_)
                                · skip
                                  have c254 := (lg_cmp_eq _ _).mp c254
                                  exact absurd c254 (mk_ne hX.1 hA (by omega) k1)
                                · skip
                                  have c254 := (fun z => c254 ((lg_cmp_eq _ _).mpr z))
                                  refine lv_iconst (v := 1) hx hb dL_kept_257 (by decide) ?_
                                  refine lv_goto (tgt := 262) hx hb dL_kept_258 (by decide) ?_
                                  refine lv_istore_n (lv' := [(3, .int (1)), (14, .int (nI (o))), (10, .long ((a.2.1.2.2 0 (4 * b + q)).toInt64)), (12, .long ((tpZ a.2.1 (nI (4 * b + q)) 3).toInt64)), (9, .int (nI (4 * b + q))), (6, .int (nI (lvs (zr a.2.1) a.2.1.1.2 b q))), (7, .int (nI (cst (zr a.2.1) b 0 q))), (8, .int (nI (cst (zr a.2.1) b 2 q))), (5, .int (nI (b))), (4, .int (nI (cln (zr a.2.1) b))), (1, .int (nI (a.2.1.1.2))), (2, .int (bI (¬ a.2.1.1.1 = true))), (0, .ref ((Gs 0).1 1))]) hx hb dL_kept_262 rfl hl (by decide) rfl (fun ls hl => ?_)
                                  refine lv_iinc (v := nI (o + 1)) (lv' := [(14, .int (nI (o + 1))), (3, .int (1)), (10, .long ((a.2.1.2.2 0 (4 * b + q)).toInt64)), (12, .long ((tpZ a.2.1 (nI (4 * b + q)) 3).toInt64)), (9, .int (nI (4 * b + q))), (6, .int (nI (lvs (zr a.2.1) a.2.1.1.2 b q))), (7, .int (nI (cst (zr a.2.1) b 0 q))), (8, .int (nI (cst (zr a.2.1) b 2 q))), (5, .int (nI (b))), (4, .int (nI (cln (zr a.2.1) b))), (1, .int (nI (a.2.1.1.2))), (2, .int (bI (¬ a.2.1.1.1 = true))), (0, .ref ((Gs 0).1 1))]) hx hb dL_kept_263 hl (k := 1) rfl (nI_add _ 1) (by decide) rfl (fun ls hl => ?_)
                                  refine lv_goto (tgt := 226) hx hb dL_kept_266 (by decide) ?_
                                  have hl : lv_has ls 15 [(14, .int (nI ((o + 1)))), (3, .int (1)), (10, .long ((a.2.1.2.2 0 (4 * b + q)).toInt64)), (12, .long ((tpZ a.2.1 (nI (4 * b + q)) 3).toInt64)), (9, .int (nI (4 * b + q))), (6, .int (nI (lvs (zr a.2.1) a.2.1.1.2 b q))), (7, .int (nI (cst (zr a.2.1) b 0 q))), (8, .int (nI (cst (zr a.2.1) b 2 q))), (5, .int (nI (b))), (4, .int (nI (cln (zr a.2.1) b))), (1, .int (nI (a.2.1.1.2))), (2, .int (bI (¬ a.2.1.1.1 = true))), (0, .ref ((Gs 0).1 1))] := lv_re hl 0 rfl (show (nI (o + 1)) = nI ((o + 1)) from rfl)
                                  exact W.widen (by omega) (by omega) (ih226 (o + 1) _ _ _ (by omega) (by omega) hw (lv_sub hl [0, 2, 3, 4, 5, 6, 7, 8, 1, 9, 10, 11, 12] rfl))
                      have hl : lv_has ls 15 [(14, .int (nI (0))), (3, .int (1)), (10, .long ((a.2.1.2.2 0 (4 * b + q)).toInt64)), (12, .long ((tpZ a.2.1 (nI (4 * b + q)) 3).toInt64)), (9, .int (nI (4 * b + q))), (6, .int (nI (lvs (zr a.2.1) a.2.1.1.2 b q))), (7, .int (nI (cst (zr a.2.1) b 0 q))), (8, .int (nI (cst (zr a.2.1) b 2 q))), (5, .int (nI (b))), (4, .int (nI (cln (zr a.2.1) b))), (1, .int (nI (a.2.1.1.2))), (2, .int (bI (¬ a.2.1.1.1 = true))), (0, .ref ((Gs 0).1 1))] := lv_re hl 0 rfl (show 0 = nI (0) from rfl)
                      exact W.widen (by omega) (by omega) (LP226 ((4 * b + q - 0) + 1) 0 _ _ _ (by omega) (by omega) hw (lv_sub hl [0, 2, 3, 4, 5, 6, 7, 8, 1, 9, 10, 11, 12] rfl))
                    refine lv_aload_n hx hb dL_kept_71 rfl (lv_at hl 9 rfl) ?_
                    refine lv_iload hx hb dL_kept_72 (lv_at hl 0 rfl) ?_
                    refine lv_iconst (v := 0) hx hb dL_kept_74 (by decide) ?_
                    refine lo_callX hF (lx_eq (x_page (Gs := fun _ => Gs 0) hst hG hGo (nI (4 * b + q)) 0) (show _ = ((a.2.1.2.2 0 (4 * b + q)).toInt64) from (pg_J (w := 0) hB hAB (by decide)).trans (congrArg Int32.toInt64 (tp_0 hA))) (show _ = [a] from rfl)) k_page ⟨Nat.le_of_ble_eq_true rfl, Nat.le_of_ble_eq_true rfl⟩ hw [0] (by decide) rfl (hg_one rfl) rfl hl.1 rfl (Nat.le_of_ble_eq_true rfl) dL_kept_75 ⟨by show _ ≤ (3600 : Nat); omega, by show _ ≤ (21600 : Nat); omega⟩ (fun H locs hw => ?_)
                    have hw : LO D cI cL cZ A s Gs [a] H locs := hw
                    refine W.widen (k := 3 + 200 * b + 45 * q + 1) (n := 6 * (3 + 200 * b + 45 * q + 1)) (Nat.le_refl _) (by omega) ?_
                    refine lv_lstore (lv' := [(10, .long ((a.2.1.2.2 0 (4 * b + q)).toInt64)), (9, .int (nI (4 * b + q))), (6, .int (nI (lvs (zr a.2.1) a.2.1.1.2 b q))), (7, .int (nI (cst (zr a.2.1) b 0 q))), (8, .int (nI (cst (zr a.2.1) b 2 q))), (5, .int (nI (b))), (3, .int (1)), (4, .int (nI (cln (zr a.2.1) b))), (1, .int (nI (a.2.1.1.2))), (2, .int (bI (¬ a.2.1.1.1 = true))), (0, .ref ((Gs 0).1 1))]) hx hb dL_kept_78 hl (by decide) rfl (fun ls hl => ?_)
                    refine lv_aload_n hx hb dL_kept_80 rfl (lv_at hl 10 rfl) ?_
                    refine lv_iload hx hb dL_kept_81 (lv_at hl 1 rfl) ?_
                    refine lv_iconst (v := 3) hx hb dL_kept_83 (by decide) ?_
                    refine lo_callX hF (lx_eq (x_page (Gs := fun _ => Gs 0) hst hG hGo (nI (4 * b + q)) 3) (show _ = ((tpZ a.2.1 (nI (4 * b + q)) 3).toInt64) from pg_J (w := 3) hB hAB (by decide)) (show _ = [a] from rfl)) k_page ⟨Nat.le_of_ble_eq_true rfl, Nat.le_of_ble_eq_true rfl⟩ hw [0] (by decide) rfl (hg_one rfl) rfl hl.1 rfl (Nat.le_of_ble_eq_true rfl) dL_kept_84 ⟨by show _ ≤ (3600 : Nat); omega, by show _ ≤ (21600 : Nat); omega⟩ (fun H locs hw => ?_)
                    have hw : LO D cI cL cZ A s Gs [a] H locs := hw
                    refine W.widen (k := 3 + 200 * b + 45 * q + 1 + 1) (n := 6 * (3 + 200 * b + 45 * q + 1 + 1)) (Nat.le_refl _) (by omega) ?_
                    refine lv_lstore (lv' := [(12, .long ((tpZ a.2.1 (nI (4 * b + q)) 3).toInt64)), (10, .long ((a.2.1.2.2 0 (4 * b + q)).toInt64)), (9, .int (nI (4 * b + q))), (6, .int (nI (lvs (zr a.2.1) a.2.1.1.2 b q))), (7, .int (nI (cst (zr a.2.1) b 0 q))), (8, .int (nI (cst (zr a.2.1) b 2 q))), (5, .int (nI (b))), (3, .int (1)), (4, .int (nI (cln (zr a.2.1) b))), (1, .int (nI (a.2.1.1.2))), (2, .int (bI (¬ a.2.1.1.1 = true))), (0, .ref ((Gs 0).1 1))]) hx hb dL_kept_87 hl (by decide) rfl (fun ls hl => ?_)
                    refine lv_lload hx hb dL_kept_89 (lv_at hl 1 rfl) ?_
                    refine lv_lconst (v := 0) hx hb dL_kept_91 (by decide) ?_
                    refine lv_ldc2 (v := 2) hx hb hown (hts _ (mlA 182 rfl)) dL_kept_92 ?_
                    refine lo_callZ hF (c_in l D cI cL cZ (fun _ => Gs 0) ((a.2.1.2.2 0 (4 * b + q)).toInt64) 0 2) k_in ⟨Nat.le_of_ble_eq_true rfl, Nat.le_of_ble_eq_true rfl⟩ hw [] (by decide) rfl (fun j k h => by simp at h) rfl hl.1 rfl (Nat.le_of_ble_eq_true rfl) dL_kept_95 ⟨by show _ ≤ (3600 : Nat); omega, by show _ ≤ (21600 : Nat); omega⟩ (fun H locs hw => ?_)
                    have hw : LO D cI cL cZ A s Gs [a] H locs := hw
                    refine W.widen (k := 3 + 200 * b + 45 * q + 1 + 1 + 0) (n := 6 * (3 + 200 * b + 45 * q + 1 + 1 + 0)) (Nat.le_refl _) (by omega) ?_
                    refine lv_if_eq (tgt := 221) hx hb dL_kept_98 (by decide) (fun c98 => ?_) (fun c98 => ?_)
                    · skip
                      have c98 := bI_f c98
                      exact (c98 (kd_in hX.1 hA)).elim
                    · skip
                      have c98 := bI_t c98
                      refine lv_lload hx hb dL_kept_101 (lv_at hl 1 rfl) ?_
                      refine lv_lconst (v := 1) hx hb dL_kept_103 (by decide) ?_
                      refine W.lcmp hx hb dL_kept_104 ?_
                      refine lv_if_ne (tgt := 166) hx hb dL_kept_105 (by decide) (fun c105 => ?_) (fun c105 => ?_)
                      · skip
                        have c105 := (fun z => c105 ((lg_cmp_eq _ _).mpr z))
                        have k1 : ¬ a.2.1.2.2 0 (4 * b + q) = 1 := fun z => c105 (by rw [z]; decide)
                        refine lv_lload hx hb dL_kept_166 (lv_at hl 0 rfl) ?_
                        refine lv_ldc2 (v := (-9)) hx hb hown (hts _ (mlA 118 rfl)) dL_kept_168 ?_
                        refine W.lcmp hx hb dL_kept_171 ?_
                        refine lv_if_ne (tgt := 221) hx hb dL_kept_172 (by decide) (fun c172 => ?_) (fun c172 => ?_)
                        · skip
                          have c172 := (fun z => c172 ((lg_cmp_eq _ _).mpr z))
                          exact (c172 (tp_9 (w := 3) hA (by decide) (by decide) k1)).elim
                        · skip
                          have c172 := (lg_cmp_eq _ _).mp c172
                          refine lv_aload_n hx hb dL_kept_175 rfl (lv_at hl 11 rfl) ?_
                          refine lv_iload hx hb dL_kept_176 (lv_at hl 2 rfl) ?_
                          refine lv_iconst (v := 1) hx hb dL_kept_178 (by decide) ?_
                          refine lo_callX hF (lx_eq (x_page (Gs := fun _ => Gs 0) hst hG hGo (nI (4 * b + q)) 1) (show _ = ((tpZ a.2.1 (nI (4 * b + q)) 1).toInt64) from pg_J (w := 1) hB hAB (by decide)) (show _ = [a] from rfl)) k_page ⟨Nat.le_of_ble_eq_true rfl, Nat.le_of_ble_eq_true rfl⟩ hw [0] (by decide) rfl (hg_one rfl) rfl hl.1 rfl (Nat.le_of_ble_eq_true rfl) dL_kept_179 ⟨by show _ ≤ (3600 : Nat); omega, by show _ ≤ (21600 : Nat); omega⟩ (fun H locs hw => ?_)
                          have hw : LO D cI cL cZ A s Gs [a] H locs := hw
                          refine W.widen (k := 3 + 200 * b + 45 * q + 1 + 1 + 0 + 1) (n := 6 * (3 + 200 * b + 45 * q + 1 + 1 + 0 + 1)) (Nat.le_refl _) (by omega) ?_
                          refine lv_ldc2 (v := (-9)) hx hb hown (hts _ (mlA 118 rfl)) dL_kept_182 ?_
                          refine W.lcmp hx hb dL_kept_185 ?_
                          refine lv_if_ne (tgt := 221) hx hb dL_kept_186 (by decide) (fun c186 => ?_) (fun c186 => ?_)
                          · skip
                            have c186 := (fun z => c186 ((lg_cmp_eq _ _).mpr z))
                            exact (c186 (tp_9 (w := 1) hA (by decide) (by decide) k1)).elim
                          · skip
                            have c186 := (lg_cmp_eq _ _).mp c186
                            refine lv_aload_n hx hb dL_kept_189 rfl (lv_at hl 11 rfl) ?_
                            refine lv_iload hx hb dL_kept_190 (lv_at hl 2 rfl) ?_
                            refine lv_iconst (v := 2) hx hb dL_kept_192 (by decide) ?_
                            refine lo_callX hF (lx_eq (x_page (Gs := fun _ => Gs 0) hst hG hGo (nI (4 * b + q)) 2) (show _ = ((tpZ a.2.1 (nI (4 * b + q)) 2).toInt64) from pg_J (w := 2) hB hAB (by decide)) (show _ = [a] from rfl)) k_page ⟨Nat.le_of_ble_eq_true rfl, Nat.le_of_ble_eq_true rfl⟩ hw [0] (by decide) rfl (hg_one rfl) rfl hl.1 rfl (Nat.le_of_ble_eq_true rfl) dL_kept_193 ⟨by show _ ≤ (3600 : Nat); omega, by show _ ≤ (21600 : Nat); omega⟩ (fun H locs hw => ?_)
                            have hw : LO D cI cL cZ A s Gs [a] H locs := hw
                            refine W.widen (k := 3 + 200 * b + 45 * q + 1 + 1 + 0 + 1 + 1) (n := 6 * (3 + 200 * b + 45 * q + 1 + 1 + 0 + 1 + 1)) (Nat.le_refl _) (by omega) ?_
                            refine lv_ldc2 (v := (-9)) hx hb hown (hts _ (mlA 118 rfl)) dL_kept_196 ?_
                            refine W.lcmp hx hb dL_kept_199 ?_
                            refine lv_if_ne (tgt := 221) hx hb dL_kept_200 (by decide) (fun c200 => ?_) (fun c200 => ?_)
                            · skip
                              have c200 := (fun z => c200 ((lg_cmp_eq _ _).mpr z))
                              exact (c200 (tp_9 (w := 2) hA (by decide) (by decide) k1)).elim
                            · skip
                              have c200 := (lg_cmp_eq _ _).mp c200
                              refine lv_aload_n hx hb dL_kept_203 rfl (lv_at hl 11 rfl) ?_
                              refine lv_iload hx hb dL_kept_204 (lv_at hl 2 rfl) ?_
                              refine lv_iconst (v := 4) hx hb dL_kept_206 (by decide) ?_
                              refine lo_callX hF (lx_eq (x_page (Gs := fun _ => Gs 0) hst hG hGo (nI (4 * b + q)) 4) (show _ = ((tpZ a.2.1 (nI (4 * b + q)) 4).toInt64) from pg_J (w := 4) hB hAB (by decide)) (show _ = [a] from rfl)) k_page ⟨Nat.le_of_ble_eq_true rfl, Nat.le_of_ble_eq_true rfl⟩ hw [0] (by decide) rfl (hg_one rfl) rfl hl.1 rfl (Nat.le_of_ble_eq_true rfl) dL_kept_207 ⟨by show _ ≤ (3600 : Nat); omega, by show _ ≤ (21600 : Nat); omega⟩ (fun H locs hw => ?_)
                              have hw : LO D cI cL cZ A s Gs [a] H locs := hw
                              refine W.widen (k := 3 + 200 * b + 45 * q + 1 + 1 + 0 + 1 + 1 + 1) (n := 6 * (3 + 200 * b + 45 * q + 1 + 1 + 0 + 1 + 1 + 1)) (Nat.le_refl _) (by omega) ?_
                              refine lv_ldc2 (v := (-9)) hx hb hown (hts _ (mlA 118 rfl)) dL_kept_210 ?_
                              refine W.lcmp hx hb dL_kept_213 ?_
                              refine lv_if_ne (tgt := 221) hx hb dL_kept_214 (by decide) (fun c214 => ?_) (fun c214 => ?_)
                              · skip
                                have c214 := (fun z => c214 ((lg_cmp_eq _ _).mpr z))
                                exact (c214 (tp_9 (w := 4) hA (by decide) (by decide) k1)).elim
                              · skip
                                have c214 := (lg_cmp_eq _ _).mp c214
                                exact W.widen (by omega) (by omega) (JP217  _ _ _  hw (lv_sub hl [1, 0, 2, 3, 4, 5, 6, 7, 8, 9, 10, 11] rfl))
                      · skip
                        have c105 := (lg_cmp_eq _ _).mp c105
                        have k1 : a.2.1.2.2 0 (4 * b + q) = 1 := jl_i1 c105
                        refine lv_lload hx hb dL_kept_108 (lv_at hl 0 rfl) ?_
                        refine lv_lconst (v := 0) hx hb dL_kept_110 (by decide) ?_
                        refine W.lcmp hx hb dL_kept_111 ?_
                        refine lv_if_le (tgt := 221) hx hb dL_kept_112 (by decide) (fun c112 => ?_) (fun c112 => ?_)
                        · skip
                          have c112 := (lg_cmp_le _ _).mp c112
                          exact absurd c112 (mk_pos hX.1 hA k1)
                        · skip
                          have c112 := (fun z => c112 ((lg_cmp_le _ _).mpr z))
                          refine lv_aload_n hx hb dL_kept_115 rfl (lv_at hl 11 rfl) ?_
                          refine lv_iload hx hb dL_kept_116 (lv_at hl 2 rfl) ?_
                          refine lv_iconst (v := 1) hx hb dL_kept_118 (by decide) ?_
                          refine lo_callX hF (lx_eq (x_page (Gs := fun _ => Gs 0) hst hG hGo (nI (4 * b + q)) 1) (show _ = ((tpZ a.2.1 (nI (4 * b + q)) 1).toInt64) from pg_J (w := 1) hB hAB (by decide)) (show _ = [a] from rfl)) k_page ⟨Nat.le_of_ble_eq_true rfl, Nat.le_of_ble_eq_true rfl⟩ hw [0] (by decide) rfl (hg_one rfl) rfl hl.1 rfl (Nat.le_of_ble_eq_true rfl) dL_kept_119 ⟨by show _ ≤ (3600 : Nat); omega, by show _ ≤ (21600 : Nat); omega⟩ (fun H locs hw => ?_)
                          have hw : LO D cI cL cZ A s Gs [a] H locs := hw
                          refine W.widen (k := 3 + 200 * b + 45 * q + 1 + 1 + 0 + 1) (n := 6 * (3 + 200 * b + 45 * q + 1 + 1 + 0 + 1)) (Nat.le_refl _) (by omega) ?_
                          refine lv_lconst (v := 0) hx hb dL_kept_122 (by decide) ?_
                          refine lv_ldc2 (v := 15) hx hb hown (hts _ (mlA 183 rfl)) dL_kept_123 ?_
                          refine lo_callZ hF (c_in l D cI cL cZ (fun _ => Gs 0) ((tpZ a.2.1 (nI (4 * b + q)) 1).toInt64) 0 15) k_in ⟨Nat.le_of_ble_eq_true rfl, Nat.le_of_ble_eq_true rfl⟩ hw [] (by decide) rfl (fun j k h => by simp at h) rfl hl.1 rfl (Nat.le_of_ble_eq_true rfl) dL_kept_126 ⟨by show _ ≤ (3600 : Nat); omega, by show _ ≤ (21600 : Nat); omega⟩ (fun H locs hw => ?_)
                          have hw : LO D cI cL cZ A s Gs [a] H locs := hw
                          refine W.widen (k := 3 + 200 * b + 45 * q + 1 + 1 + 0 + 1 + 0) (n := 6 * (3 + 200 * b + 45 * q + 1 + 1 + 0 + 1 + 0)) (Nat.le_refl _) (by omega) ?_
                          refine lv_if_eq (tgt := 221) hx hb dL_kept_129 (by decide) (fun c129 => ?_) (fun c129 => ?_)
                          · skip
                            have c129 := bI_f c129
                            exact (c129 (ky_in hX.1 hA k1)).elim
                          · skip
                            have c129 := bI_t c129
                            refine lv_aload_n hx hb dL_kept_132 rfl (lv_at hl 11 rfl) ?_
                            refine lv_iload hx hb dL_kept_133 (lv_at hl 2 rfl) ?_
                            refine lv_iconst (v := 2) hx hb dL_kept_135 (by decide) ?_
                            refine lo_callX hF (lx_eq (x_page (Gs := fun _ => Gs 0) hst hG hGo (nI (4 * b + q)) 2) (show _ = ((tpZ a.2.1 (nI (4 * b + q)) 2).toInt64) from pg_J (w := 2) hB hAB (by decide)) (show _ = [a] from rfl)) k_page ⟨Nat.le_of_ble_eq_true rfl, Nat.le_of_ble_eq_true rfl⟩ hw [0] (by decide) rfl (hg_one rfl) rfl hl.1 rfl (Nat.le_of_ble_eq_true rfl) dL_kept_136 ⟨by show _ ≤ (3600 : Nat); omega, by show _ ≤ (21600 : Nat); omega⟩ (fun H locs hw => ?_)
                            have hw : LO D cI cL cZ A s Gs [a] H locs := hw
                            refine W.widen (k := 3 + 200 * b + 45 * q + 1 + 1 + 0 + 1 + 0 + 1) (n := 6 * (3 + 200 * b + 45 * q + 1 + 1 + 0 + 1 + 0 + 1)) (Nat.le_refl _) (by omega) ?_
                            refine lv_ldc2 (v := (-9)) hx hb hown (hts _ (mlA 118 rfl)) dL_kept_139 ?_
                            refine W.lcmp hx hb dL_kept_142 ?_
                            refine lv_if_eq (tgt := 217) hx hb dL_kept_143 (by decide) (fun c143 => ?_) (fun c143 => ?_)
                            · skip
                              have c143 := (lg_cmp_eq _ _).mp c143
                              exact W.widen (by omega) (by omega) (JP217  _ _ _  hw (lv_sub hl [1, 0, 2, 3, 4, 5, 6, 7, 8, 9, 10, 11] rfl))
                            · skip
                              have c143 := (fun z => c143 ((lg_cmp_eq _ _).mpr z))
                              refine lv_aload_n hx hb dL_kept_146 rfl (lv_at hl 11 rfl) ?_
                              refine lv_iload hx hb dL_kept_147 (lv_at hl 2 rfl) ?_
                              refine lv_iconst (v := 2) hx hb dL_kept_149 (by decide) ?_
                              refine lo_callX hF (lx_eq (x_page (Gs := fun _ => Gs 0) hst hG hGo (nI (4 * b + q)) 2) (show _ = ((tpZ a.2.1 (nI (4 * b + q)) 2).toInt64) from pg_J (w := 2) hB hAB (by decide)) (show _ = [a] from rfl)) k_page ⟨Nat.le_of_ble_eq_true rfl, Nat.le_of_ble_eq_true rfl⟩ hw [0] (by decide) rfl (hg_one rfl) rfl hl.1 rfl (Nat.le_of_ble_eq_true rfl) dL_kept_150 ⟨by show _ ≤ (3600 : Nat); omega, by show _ ≤ (21600 : Nat); omega⟩ (fun H locs hw => ?_)
                              have hw : LO D cI cL cZ A s Gs [a] H locs := hw
                              refine W.widen (k := 3 + 200 * b + 45 * q + 1 + 1 + 0 + 1 + 0 + 1 + 1) (n := 6 * (3 + 200 * b + 45 * q + 1 + 1 + 0 + 1 + 0 + 1 + 1)) (Nat.le_refl _) (by omega) ?_
                              refine lv_lconst (v := 0) hx hb dL_kept_153 (by decide) ?_
                              refine lv_ldc2 (v := 999) hx hb hown (hts _ (mlA 184 rfl)) dL_kept_154 ?_
                              refine lo_callZ hF (c_in l D cI cL cZ (fun _ => Gs 0) ((tpZ a.2.1 (nI (4 * b + q)) 2).toInt64) 0 999) k_in ⟨Nat.le_of_ble_eq_true rfl, Nat.le_of_ble_eq_true rfl⟩ hw [] (by decide) rfl (fun j k h => by simp at h) rfl hl.1 rfl (Nat.le_of_ble_eq_true rfl) dL_kept_157 ⟨by show _ ≤ (3600 : Nat); omega, by show _ ≤ (21600 : Nat); omega⟩ (fun H locs hw => ?_)
                              have hw : LO D cI cL cZ A s Gs [a] H locs := hw
                              refine W.widen (k := 3 + 200 * b + 45 * q + 1 + 1 + 0 + 1 + 0 + 1 + 1 + 0) (n := 6 * (3 + 200 * b + 45 * q + 1 + 1 + 0 + 1 + 0 + 1 + 1 + 0)) (Nat.le_refl _) (by omega) ?_
                              refine lv_if_eq (tgt := 221) hx hb dL_kept_160 (by decide) (fun c160 => ?_) (fun c160 => ?_)
                              · skip
                                have c160 := bI_f c160
                                exact (c160 (va_in hX.2.1 hA k1 c143)).elim
                              · skip
                                have c160 := bI_t c160
                                refine lv_goto (tgt := 217) hx hb dL_kept_163 (by decide) ?_
                                exact W.widen (by omega) (by omega) (JP217  _ _ _  hw (lv_sub hl [1, 0, 2, 3, 4, 5, 6, 7, 8, 9, 10, 11] rfl))
            have hl : lv_has ls 15 [(9, .int (nI (4 * b + 0))), (8, .int (0)), (7, .int (0)), (6, .int (0)), (5, .int (nI (b))), (3, .int (1)), (4, .int (nI (cln (zr a.2.1) b))), (1, .int (nI (a.2.1.1.2))), (2, .int (bI (¬ a.2.1.1.1 = true))), (0, .ref ((Gs 0).1 1))] := lv_re hl 0 rfl (show (nI (4 * b)) = nI (4 * b + 0) from rfl)
            have hl : lv_has ls 15 [(9, .int (nI (4 * b + 0))), (8, .int (0)), (7, .int (0)), (6, .int (nI (lvs (zr a.2.1) a.2.1.1.2 b 0))), (5, .int (nI (b))), (3, .int (1)), (4, .int (nI (cln (zr a.2.1) b))), (1, .int (nI (a.2.1.1.2))), (2, .int (bI (¬ a.2.1.1.1 = true))), (0, .ref ((Gs 0).1 1))] := lv_re hl 3 rfl (show 0 = nI (lvs (zr a.2.1) a.2.1.1.2 b 0) from rfl)
            have hl : lv_has ls 15 [(9, .int (nI (4 * b + 0))), (8, .int (0)), (7, .int (nI (cst (zr a.2.1) b 0 0))), (6, .int (nI (lvs (zr a.2.1) a.2.1.1.2 b 0))), (5, .int (nI (b))), (3, .int (1)), (4, .int (nI (cln (zr a.2.1) b))), (1, .int (nI (a.2.1.1.2))), (2, .int (bI (¬ a.2.1.1.1 = true))), (0, .ref ((Gs 0).1 1))] := lv_re hl 2 rfl (show 0 = nI (cst (zr a.2.1) b 0 0) from rfl)
            have hl : lv_has ls 15 [(9, .int (nI (4 * b + 0))), (8, .int (nI (cst (zr a.2.1) b 2 0))), (7, .int (nI (cst (zr a.2.1) b 0 0))), (6, .int (nI (lvs (zr a.2.1) a.2.1.1.2 b 0))), (5, .int (nI (b))), (3, .int (1)), (4, .int (nI (cln (zr a.2.1) b))), (1, .int (nI (a.2.1.1.2))), (2, .int (bI (¬ a.2.1.1.1 = true))), (0, .ref ((Gs 0).1 1))] := lv_re hl 1 rfl (show 0 = nI (cst (zr a.2.1) b 2 0) from rfl)
            exact W.widen (by omega) (by omega) (LP56 ((4 - 0) + 1) 0 _ _ _ (by omega) (by omega) hw (lv_sub hl [0, 3, 2, 1, 4, 5, 6, 7, 8, 9] rfl))
    have hl : lv_has ls 15 [(5, .int (nI (0))), (4, .int (0)), (3, .int (1)), (1, .int (nI (a.2.1.1.2))), (2, .int (bI (¬ a.2.1.1.1 = true))), (0, .ref ((Gs 0).1 1))] := lv_re hl 0 rfl (show 0 = nI (0) from rfl)
    have hl : lv_has ls 15 [(5, .int (nI (0))), (4, .int (nI (cln (zr a.2.1) 0))), (3, .int (1)), (1, .int (nI (a.2.1.1.2))), (2, .int (bI (¬ a.2.1.1.1 = true))), (0, .ref ((Gs 0).1 1))] := lv_re hl 1 rfl (show 0 = nI (cln (zr a.2.1) 0) from rfl)
    exact W.widen (by omega) (by omega) (LP31 ((a.2.1.1.2 - 0) + 1) 0 _ _ _ (by omega) (by omega) hw (lv_sub hl [0, 2, 1, 3, 4, 5] rfl))
  refine lv_aload_n hx hb dL_kept_0 rfl (lv_at hl 0 rfl) ?_
  refine lv_iconst (v := 0) hx hb dL_kept_1 (by decide) ?_
  refine lo_callX hF (lx_eq (x_about (Gs := fun _ => Gs 0) hst hG hGo 0) (show _ = ((nI a.2.1.1.2).toInt64) from ab_0) (show _ = [a] from rfl)) k_about ⟨Nat.le_of_ble_eq_true rfl, Nat.le_of_ble_eq_true rfl⟩ hw [0] (by decide) rfl (hg_one rfl) rfl hl.1 rfl (Nat.le_of_ble_eq_true rfl) dL_kept_2 ⟨by show _ ≤ (3600 : Nat); omega, by show _ ≤ (21600 : Nat); omega⟩ (fun H locs hw => ?_)
  have hw : LO D cI cL cZ A s Gs [a] H locs := hw
  refine W.widen (k := 0 + 1) (n := 6 * (0 + 1)) (Nat.le_refl _) (by omega) ?_
  refine lv_l2i (v := ((nI a.2.1.1.2).toInt64).toInt32) hx hb dL_kept_5 rfl ?_
  refine lv_as (show ((nI a.2.1.1.2).toInt64).toInt32 = nI (a.2.1.1.2) from Int32.toInt32_toInt64 _) ?_
  refine lv_istore_n (lv' := [(1, .int (nI (a.2.1.1.2))), (0, .ref ((Gs 0).1 1))]) hx hb dL_kept_6 rfl hl (by decide) rfl (fun ls hl => ?_)
  refine lv_aload_n hx hb dL_kept_7 rfl (lv_at hl 1 rfl) ?_
  refine lv_iconst (v := 2) hx hb dL_kept_8 (by decide) ?_
  refine lo_callX hF (lx_eq (x_about (Gs := fun _ => Gs 0) hst hG hGo 2) (show _ = ((bI (a.2.1.1.1 = true)).toInt64) from ab_2) (show _ = [a] from rfl)) k_about ⟨Nat.le_of_ble_eq_true rfl, Nat.le_of_ble_eq_true rfl⟩ hw [0] (by decide) rfl (hg_one rfl) rfl hl.1 rfl (Nat.le_of_ble_eq_true rfl) dL_kept_9 ⟨by show _ ≤ (3600 : Nat); omega, by show _ ≤ (21600 : Nat); omega⟩ (fun H locs hw => ?_)
  have hw : LO D cI cL cZ A s Gs [a] H locs := hw
  refine W.widen (k := 0 + 1 + 1) (n := 6 * (0 + 1 + 1)) (Nat.le_refl _) (by omega) ?_
  refine lv_lconst (v := 0) hx hb dL_kept_12 (by decide) ?_
  refine W.lcmp hx hb dL_kept_13 ?_
  refine lv_if_ne (tgt := 21) hx hb dL_kept_14 (by decide) (fun c14 => ?_) (fun c14 => ?_)
  · skip
    have c14 := (fun z => c14 ((lg_cmp_eq _ _).mpr z))
    have c14 := Decidable.not_not.mpr (jl_b1 c14)
    refine lv_iconst (v := 0) hx hb dL_kept_21 (by decide) ?_
    refine lv_istore_n (lv' := [(2, .int (0)), (1, .int (nI (a.2.1.1.2))), (0, .ref ((Gs 0).1 1))]) hx hb dL_kept_22 rfl hl (by decide) rfl (fun ls hl => ?_)
    have hl : lv_has ls 15 [(2, .int (bI (¬ a.2.1.1.1 = true))), (1, .int (nI (a.2.1.1.2))), (0, .ref ((Gs 0).1 1))] := lv_re hl 0 rfl (show 0 = bI (¬ a.2.1.1.1 = true) from (bI_0 c14).symm)
    exact W.widen (by omega) (by omega) (JP23  _ _ _  hw (lv_sub hl [1, 0, 2] rfl))
  · skip
    have c14 := (lg_cmp_eq _ _).mp c14
    have c14 := jl_b0 c14
    refine lv_iconst (v := 1) hx hb dL_kept_17 (by decide) ?_
    refine lv_goto (tgt := 22) hx hb dL_kept_18 (by decide) ?_
    refine lv_istore_n (lv' := [(2, .int (1)), (1, .int (nI (a.2.1.1.2))), (0, .ref ((Gs 0).1 1))]) hx hb dL_kept_22 rfl hl (by decide) rfl (fun ls hl => ?_)
    have hl : lv_has ls 15 [(2, .int (bI (¬ a.2.1.1.1 = true))), (1, .int (nI (a.2.1.1.2))), (0, .ref ((Gs 0).1 1))] := lv_re hl 0 rfl (show 1 = bI (¬ a.2.1.1.1 = true) from (bI_1 c14).symm)
    exact W.widen (by omega) (by omega) (JP23  _ _ _  hw (lv_sub hl [1, 0, 2] rfl))
