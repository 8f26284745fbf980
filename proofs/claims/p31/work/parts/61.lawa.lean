theorem dL_in_0 : decode cL_in 0 = .ok (.lload_n 0, 1) := by decide +kernel
theorem dL_in_1 : decode cL_in 1 = .ok (.lload_n 2, 1) := by decide +kernel
theorem dL_in_2 : decode cL_in 2 = .ok (.lcmp, 1) := by decide +kernel
theorem dL_in_3 : decode cL_in 3 = .ok (.ifCond .lt 14, 3) := by decide +kernel
theorem dL_in_6 : decode cL_in 6 = .ok (.lload_n 0, 1) := by decide +kernel
theorem dL_in_7 : decode cL_in 7 = .ok (.lload 4, 2) := by decide +kernel
theorem dL_in_9 : decode cL_in 9 = .ok (.lcmp, 1) := by decide +kernel
theorem dL_in_10 : decode cL_in 10 = .ok (.ifCond .gt 7, 3) := by decide +kernel
theorem dL_in_13 : decode cL_in 13 = .ok (.iconst 1, 1) := by decide +kernel
theorem dL_in_14 : decode cL_in 14 = .ok (.goto 4, 3) := by decide +kernel
theorem dL_in_17 : decode cL_in 17 = .ok (.iconst 0, 1) := by decide +kernel
theorem dL_in_18 : decode cL_in 18 = .ok (.ireturn, 1) := by decide +kernel
set_option maxHeartbeats 8000000 in
set_option maxRecDepth 100000 in
theorem c_in (l : Launch) (D : va_G) (cI cL cZ : ClassId) (Gs : Nat → Geo) (x y v : Int64) : LZ l yL_in cL_in 6 0 0 0 0 D cI cL cZ Gs [] [.long (x), .long (y), .long (v)] (bI (¬ x < y ∧ ¬ v < x)) [] := by
  refine lz_of (by decide) rfl (Nat.le_of_ble_eq_true rfl) ?_
  intro p e s m below meth c ls H A hF hr hlocks hw hl
  have hx := hF.1.1
  have hb := hF.1.2.1
  have hown := hF.1.2.2.2.1
  have hts := hF.1.2.2.2.2
  have hl : lv_has ls 6 [(0, .long (x)), (2, .long (y)), (4, .long (v))] := hl
  refine W.widen (k := 0) (n := 6 * 0) (Nat.le_refl _) (Nat.le_refl _) ?_
  refine lv_lload_n hx hb dL_in_0 rfl (lv_at hl 0 rfl) ?_
  refine lv_lload_n hx hb dL_in_1 rfl (lv_at hl 1 rfl) ?_
  refine W.lcmp hx hb dL_in_2 ?_
  refine lv_if_lt (tgt := 17) hx hb dL_in_3 (by decide) (fun c3 => ?_) (fun c3 => ?_)
  · skip
    have c3 := (lg_cmp_lt _ _).mp c3
    refine lv_iconst (v := 0) hx hb dL_in_17 (by decide) ?_
    exact lo_retz hF hr hlocks hw ((bI_0 (fun h => h.1 c3)).symm) (rfl) (by omega) (by omega) dL_in_18
  · skip
    have c3 := (fun z => c3 ((lg_cmp_lt _ _).mpr z))
    refine lv_lload_n hx hb dL_in_6 rfl (lv_at hl 0 rfl) ?_
    refine lv_lload hx hb dL_in_7 (lv_at hl 2 rfl) ?_
    refine W.lcmp hx hb dL_in_9 ?_
    refine lv_if_gt (tgt := 17) hx hb dL_in_10 (by decide) (fun c10 => ?_) (fun c10 => ?_)
    · skip
      have c10 := (lg_cmp_gt _ _).mp c10
      refine lv_iconst (v := 0) hx hb dL_in_17 (by decide) ?_
      exact lo_retz hF hr hlocks hw ((bI_0 (fun h => h.2 c10)).symm) (rfl) (by omega) (by omega) dL_in_18
    · skip
      have c10 := (fun z => c10 ((lg_cmp_gt _ _).mpr z))
      refine lv_iconst (v := 1) hx hb dL_in_13 (by decide) ?_
      refine lv_goto (tgt := 18) hx hb dL_in_14 (by decide) ?_
      exact lo_retz hF hr hlocks hw ((bI_1 ⟨c3, c10⟩).symm) (rfl) (by omega) (by omega) dL_in_18
theorem dL_valueOf_0 : decode cL_valueOf 0 = .ok (.aload_n 0, 1) := by decide +kernel
theorem dL_valueOf_1 : decode cL_valueOf 1 = .ok (.iload_n 1, 1) := by decide +kernel
theorem dL_valueOf_2 : decode cL_valueOf 2 = .ok (.invokestatic 131, 3) := by decide +kernel
theorem dL_valueOf_5 : decode cL_valueOf 5 = .ok (.l2i, 1) := by decide +kernel
theorem dL_valueOf_6 : decode cL_valueOf 6 = .ok (.istore_n 2, 1) := by decide +kernel
theorem dL_valueOf_7 : decode cL_valueOf 7 = .ok (.iload_n 2, 1) := by decide +kernel
theorem dL_valueOf_8 : decode cL_valueOf 8 = .ok (.bipush (-9), 2) := by decide +kernel
theorem dL_valueOf_10 : decode cL_valueOf 10 = .ok (.if_icmp .ne 9, 3) := by decide +kernel
theorem dL_valueOf_13 : decode cL_valueOf 13 = .ok (.ldc2_w 142, 3) := by decide +kernel
theorem dL_valueOf_16 : decode cL_valueOf 16 = .ok (.goto 9, 3) := by decide +kernel
theorem dL_valueOf_19 : decode cL_valueOf 19 = .ok (.aload_n 0, 1) := by decide +kernel
theorem dL_valueOf_20 : decode cL_valueOf 20 = .ok (.iload_n 2, 1) := by decide +kernel
theorem dL_valueOf_21 : decode cL_valueOf 21 = .ok (.iconst 2, 1) := by decide +kernel
theorem dL_valueOf_22 : decode cL_valueOf 22 = .ok (.invokestatic 112, 3) := by decide +kernel
theorem dL_valueOf_25 : decode cL_valueOf 25 = .ok (.lreturn, 1) := by decide +kernel
set_option maxHeartbeats 8000000 in
set_option maxRecDepth 100000 in
theorem c_valueOf (l : Launch) (hst : l.stackTraces = false) (D : va_G) (cI cL cZ : ClassId) (Gs : Nat → Geo) (hG : GeoOk (Gs 0)) (a : AS) (hGo : Go a) (k : Nat) (hk : k < 16) : LJ l yL_valueOf cL_valueOf 3 8 135 2 12 D cI cL cZ Gs [a] [.ref ((Gs 0).1 1), .int (nI (k))] ((vaZ a.2.1 (nI k)).toInt64) [a] := by
  refine lj_of (by decide) rfl (Nat.le_of_ble_eq_true rfl) ?_
  intro p e s m below meth c ls H A hF hr hlocks hw hl
  have hx := hF.1.1
  have hb := hF.1.2.1
  have hown := hF.1.2.2.2.1
  have hts := hF.1.2.2.2.2
  have hl : lv_has ls 3 [(0, .ref ((Gs 0).1 1)), (1, .int (nI (k)))] := hl
  refine W.widen (k := 0) (n := 6 * 0) (Nat.le_refl _) (Nat.le_refl _) ?_
  refine lv_aload_n hx hb dL_valueOf_0 rfl (lv_at hl 0 rfl) ?_
  refine lv_iload_n hx hb dL_valueOf_1 rfl (lv_at hl 1 rfl) ?_
  refine lo_callX hF (lx_eq (x_newest (Gs := fun _ => Gs 0) hst hG hGo (nI (k))) (show _ = ((a.2.1.2.2 6 k).toInt64) from ne_J hk) (show _ = [a] from rfl)) k_newest ⟨Nat.le_of_ble_eq_true rfl, Nat.le_of_ble_eq_true rfl⟩ hw [0] (by decide) rfl (hg_one rfl) rfl hl.1 rfl (Nat.le_of_ble_eq_true rfl) dL_valueOf_2 ⟨by show _ ≤ (2 : Nat); omega, by show _ ≤ (12 : Nat); omega⟩ (fun H locs hw => ?_)
  have hw : LO D cI cL cZ A s Gs [a] H locs := hw
  refine W.widen (k := 0 + 1) (n := 6 * (0 + 1)) (Nat.le_refl _) (by omega) ?_
  refine lv_l2i (v := ((a.2.1.2.2 6 k).toInt64).toInt32) hx hb dL_valueOf_5 rfl ?_
  refine lv_as (show ((a.2.1.2.2 6 k).toInt64).toInt32 = a.2.1.2.2 6 k from Int32.toInt32_toInt64 _) ?_
  refine lv_istore_n (lv' := [(2, .int (a.2.1.2.2 6 k)), (0, .ref ((Gs 0).1 1)), (1, .int (nI (k)))]) hx hb dL_valueOf_6 rfl hl (by decide) rfl (fun ls hl => ?_)
  refine lv_iload_n hx hb dL_valueOf_7 rfl (lv_at hl 0 rfl) ?_
  refine lv_bipush (v := (-9)) hx hb dL_valueOf_8 (by decide) ?_
  refine lv_icmp_ne (tgt := 19) hx hb dL_valueOf_10 (by decide) (fun c10 => ?_) (fun c10 => ?_)
  · skip
    refine lv_aload_n hx hb dL_valueOf_19 rfl (lv_at hl 1 rfl) ?_
    refine lv_iload_n hx hb dL_valueOf_20 rfl (lv_at hl 0 rfl) ?_
    refine lv_iconst (v := 2) hx hb dL_valueOf_21 (by decide) ?_
    refine lo_callX hF (lx_eq (x_page (Gs := fun _ => Gs 0) hst hG hGo (a.2.1.2.2 6 k) 2) (show _ = ((vaZ a.2.1 (nI k)).toInt64) from pg_va hGo.2 hk c10) (show _ = [a] from rfl)) k_page ⟨Nat.le_of_ble_eq_true rfl, Nat.le_of_ble_eq_true rfl⟩ hw [0] (by decide) rfl (hg_one rfl) rfl hl.1 rfl (Nat.le_of_ble_eq_true rfl) dL_valueOf_22 ⟨by show _ ≤ (2 : Nat); omega, by show _ ≤ (12 : Nat); omega⟩ (fun H locs hw => ?_)
    have hw : LO D cI cL cZ A s Gs [a] H locs := hw
    refine W.widen (k := 0 + 1 + 1) (n := 6 * (0 + 1 + 1)) (Nat.le_refl _) (by omega) ?_
    exact lo_retl hF hr hlocks hw (rfl) (by omega) (by omega) dL_valueOf_25
  · skip
    refine lv_ldc2 (v := (-9)) hx hb hown (hts _ (mlA 118 rfl)) dL_valueOf_13 ?_
    refine lv_goto (tgt := 25) hx hb dL_valueOf_16 (by decide) ?_
    exact lo_retl hF hr hlocks hw (va_nJ hGo.2 hk c10) (by omega) (by omega) dL_valueOf_25
theorem dL_others_0 : decode cL_others 0 = .ok (.lconst 0, 1) := by decide +kernel
theorem dL_others_1 : decode cL_others 1 = .ok (.lstore_n 2, 1) := by decide +kernel
theorem dL_others_2 : decode cL_others 2 = .ok (.iconst 0, 1) := by decide +kernel
theorem dL_others_3 : decode cL_others 3 = .ok (.istore 4, 2) := by decide +kernel
theorem dL_others_5 : decode cL_others 5 = .ok (.iload 4, 2) := by decide +kernel
theorem dL_others_7 : decode cL_others 7 = .ok (.bipush 16, 2) := by decide +kernel
theorem dL_others_9 : decode cL_others 9 = .ok (.if_icmp .ge 57, 3) := by decide +kernel
theorem dL_others_12 : decode cL_others 12 = .ok (.ldc2_w 189, 3) := by decide +kernel
theorem dL_others_15 : decode cL_others 15 = .ok (.lload_n 2, 1) := by decide +kernel
theorem dL_others_16 : decode cL_others 16 = .ok (.lmul, 1) := by decide +kernel
theorem dL_others_17 : decode cL_others 17 = .ok (.iload 4, 2) := by decide +kernel
theorem dL_others_19 : decode cL_others 19 = .ok (.iload_n 1, 1) := by decide +kernel
theorem dL_others_20 : decode cL_others 20 = .ok (.if_icmp .ne 7, 3) := by decide +kernel
theorem dL_others_23 : decode cL_others 23 = .ok (.lconst 0, 1) := by decide +kernel
theorem dL_others_24 : decode cL_others 24 = .ok (.goto 34, 3) := by decide +kernel
theorem dL_others_27 : decode cL_others 27 = .ok (.aload_n 0, 1) := by decide +kernel
theorem dL_others_28 : decode cL_others 28 = .ok (.iload 4, 2) := by decide +kernel
theorem dL_others_30 : decode cL_others 30 = .ok (.invokestatic 131, 3) := by decide +kernel
theorem dL_others_33 : decode cL_others 33 = .ok (.ldc2_w 142, 3) := by decide +kernel
theorem dL_others_36 : decode cL_others 36 = .ok (.lcmp, 1) := by decide +kernel
theorem dL_others_37 : decode cL_others 37 = .ok (.ifCond .ne 9, 3) := by decide +kernel
theorem dL_others_40 : decode cL_others 40 = .ok (.ldc2_w 142, 3) := by decide +kernel
theorem dL_others_43 : decode cL_others 43 = .ok (.goto 15, 3) := by decide +kernel
theorem dL_others_46 : decode cL_others 46 = .ok (.aload_n 0, 1) := by decide +kernel
theorem dL_others_47 : decode cL_others 47 = .ok (.aload_n 0, 1) := by decide +kernel
theorem dL_others_48 : decode cL_others 48 = .ok (.iload 4, 2) := by decide +kernel
theorem dL_others_50 : decode cL_others 50 = .ok (.invokestatic 131, 3) := by decide +kernel
theorem dL_others_53 : decode cL_others 53 = .ok (.l2i, 1) := by decide +kernel
theorem dL_others_54 : decode cL_others 54 = .ok (.iconst 2, 1) := by decide +kernel
theorem dL_others_55 : decode cL_others 55 = .ok (.invokestatic 112, 3) := by decide +kernel
theorem dL_others_58 : decode cL_others 58 = .ok (.ladd, 1) := by decide +kernel
theorem dL_others_59 : decode cL_others 59 = .ok (.lstore_n 2, 1) := by decide +kernel
theorem dL_others_60 : decode cL_others 60 = .ok (.iinc 4 1, 3) := by decide +kernel
theorem dL_others_63 : decode cL_others 63 = .ok (.goto (-58), 3) := by decide +kernel
theorem dL_others_66 : decode cL_others 66 = .ok (.lload_n 2, 1) := by decide +kernel
theorem dL_others_67 : decode cL_others 67 = .ok (.lreturn, 1) := by decide +kernel
set_option maxHeartbeats 8000000 in
set_option maxRecDepth 100000 in
theorem c_others (l : Launch) (hst : l.stackTraces = false) (D : va_G) (cI cL cZ : ClassId) (Gs : Nat → Geo) (hG : GeoOk (Gs 0)) (a : AS) (hGo : Go a) (key : Nat) (hkey : key < 16) : LJ l yL_others cL_others 5 8 135 50 300 D cI cL cZ Gs [a] [.ref ((Gs 0).1 1), .int (nI (key))] (otZ a.2.1 key 16) [a] := by
  refine lj_of (by decide) rfl (Nat.le_of_ble_eq_true rfl) ?_
  intro p e s m below meth c ls H A hF hr hlocks hw hl
  have hx := hF.1.1
  have hb := hF.1.2.1
  have hown := hF.1.2.2.2.1
  have hts := hF.1.2.2.2.2
  have hl : lv_has ls 5 [(0, .ref ((Gs 0).1 1)), (1, .int (nI (key)))] := hl
  refine W.widen (k := 0) (n := 6 * 0) (Nat.le_refl _) (Nat.le_refl _) ?_
  refine lv_lconst (v := 0) hx hb dL_others_0 (by decide) ?_
  refine lv_lstore_n (lv' := [(2, .long (0)), (0, .ref ((Gs 0).1 1)), (1, .int (nI (key)))]) hx hb dL_others_1 rfl hl (by decide) rfl (fun ls hl => ?_)
  refine lv_iconst (v := 0) hx hb dL_others_2 (by decide) ?_
  refine lv_istore (lv' := [(4, .int (0)), (2, .long (0)), (0, .ref ((Gs 0).1 1)), (1, .int (nI (key)))]) hx hb dL_others_3 hl (by decide) rfl (fun ls hl => ?_)
  have LP5 : ∀ n9 : Nat, ∀ (k : Nat) (H : Heap) (locs : List Loc) (ls : Array Slot), (hk : k ≤ 16) → 16 - k < n9 → LO D cI cL cZ A s Gs [a] H locs → lv_has ls 5 [(4, .int (nI (k))), (2, .long (otZ a.2.1 key k)), (0, .ref ((Gs 0).1 1)), (1, .int (nI (key)))] → W p l e ({ frames := 8, cells := 50, slots := 300, locals := 135 } : Room) s m [.ref ((Gs 0).1 1), .int (nI (key))].toArray below meth c H locs (3 * k) (6 * (3 * k)) (MQ below (lqL D cI cL cZ Gs (otZ a.2.1 key 16) [a] A) [.ref ((Gs 0).1 1), .int (nI (key))].toArray s 50 300 A) (F0 m 5 ls []) := by
    intro n9
    induction n9 with
    | zero => intros; omega
    | succ n9 ih5 =>
      intro k H locs ls hk hm9 hw hl
      refine lv_iload hx hb dL_others_5 (lv_at hl 0 rfl) ?_
      refine lv_bipush (v := 16) hx hb dL_others_7 (by decide) ?_
      refine lv_icmp_ge (tgt := 66) hx hb dL_others_9 (by decide) (fun c9 => ?_) (fun c9 => ?_)
      · skip
        have c9 := cn_le (a := 16) (b := k) (by omega) (by omega) c9
        refine lv_lload_n hx hb dL_others_66 rfl (lv_at hl 1 rfl) ?_
        exact lo_retl hF hr hlocks hw (by rw [show k = 16 from by omega]) (by omega) (by omega) dL_others_67
      · skip
        have c9 := cn_nle (a := 16) (b := k) (by omega) (by omega) c9
        refine lv_ldc2 (v := 1009) hx hb hown (hts _ (mlA 195 rfl)) dL_others_12 ?_
        refine lv_lload_n hx hb dL_others_15 rfl (lv_at hl 1 rfl) ?_
        refine lv_lmul hx hb dL_others_16 ?_
        refine lv_iload hx hb dL_others_17 (lv_at hl 0 rfl) ?_
        refine lv_iload_n hx hb dL_others_19 rfl (lv_at hl 3 rfl) ?_
        refine lv_icmp_ne (tgt := 27) hx hb dL_others_20 (by decide) (fun c20 => ?_) (fun c20 => ?_)
        · skip
          have c20 := cn_ne (a := k) (b := key) (by omega) (by omega) c20
          refine lv_aload_n hx hb dL_others_27 rfl (lv_at hl 2 rfl) ?_
          refine lv_iload hx hb dL_others_28 (lv_at hl 0 rfl) ?_
          refine lo_callX hF (lx_eq (x_newest (Gs := fun _ => Gs 0) hst hG hGo (nI (k))) (show _ = ((a.2.1.2.2 6 k).toInt64) from ne_J (by omega)) (show _ = [a] from rfl)) k_newest ⟨Nat.le_of_ble_eq_true rfl, Nat.le_of_ble_eq_true rfl⟩ hw [0] (by decide) rfl (hg_one rfl) rfl hl.1 rfl (Nat.le_of_ble_eq_true rfl) dL_others_30 ⟨by show _ ≤ (50 : Nat); omega, by show _ ≤ (300 : Nat); omega⟩ (fun H locs hw => ?_)
          have hw : LO D cI cL cZ A s Gs [a] H locs := hw
          refine W.widen (k := 3 * k + 1) (n := 6 * (3 * k + 1)) (Nat.le_refl _) (by omega) ?_
          refine lv_ldc2 (v := (-9)) hx hb hown (hts _ (mlA 118 rfl)) dL_others_33 ?_
          refine W.lcmp hx hb dL_others_36 ?_
          refine lv_if_ne (tgt := 46) hx hb dL_others_37 (by decide) (fun c37 => ?_) (fun c37 => ?_)
          · skip
            have c37 := (fun z => c37 ((lg_cmp_eq _ _).mpr z))
            have c37 : ¬ a.2.1.2.2 6 k = -9 := fun z => c37 (by rw [z]; decide)
            refine lv_aload_n hx hb dL_others_46 rfl (lv_at hl 2 rfl) ?_
            refine lv_aload_n hx hb dL_others_47 rfl (lv_at hl 2 rfl) ?_
            refine lv_iload hx hb dL_others_48 (lv_at hl 0 rfl) ?_
            refine lo_callX hF (lx_eq (x_newest (Gs := fun _ => Gs 0) hst hG hGo (nI (k))) (show _ = ((a.2.1.2.2 6 k).toInt64) from ne_J (by omega)) (show _ = [a] from rfl)) k_newest ⟨Nat.le_of_ble_eq_true rfl, Nat.le_of_ble_eq_true rfl⟩ hw [0] (by decide) rfl (hg_one rfl) rfl hl.1 rfl (Nat.le_of_ble_eq_true rfl) dL_others_50 ⟨by show _ ≤ (50 : Nat); omega, by show _ ≤ (300 : Nat); omega⟩ (fun H locs hw => ?_)
            have hw : LO D cI cL cZ A s Gs [a] H locs := hw
            refine W.widen (k := 3 * k + 1 + 1) (n := 6 * (3 * k + 1 + 1)) (Nat.le_refl _) (by omega) ?_
            refine lv_l2i (v := ((a.2.1.2.2 6 k).toInt64).toInt32) hx hb dL_others_53 rfl ?_
            refine lv_as (show ((a.2.1.2.2 6 k).toInt64).toInt32 = a.2.1.2.2 6 k from Int32.toInt32_toInt64 _) ?_
            refine lv_iconst (v := 2) hx hb dL_others_54 (by decide) ?_
            refine lo_callX hF (lx_eq (x_page (Gs := fun _ => Gs 0) hst hG hGo (a.2.1.2.2 6 k) 2) (show _ = ((vaZ a.2.1 (nI k)).toInt64) from pg_va hGo.2 (by omega) c37) (show _ = [a] from rfl)) k_page ⟨Nat.le_of_ble_eq_true rfl, Nat.le_of_ble_eq_true rfl⟩ hw [0] (by decide) rfl (hg_one rfl) rfl hl.1 rfl (Nat.le_of_ble_eq_true rfl) dL_others_55 ⟨by show _ ≤ (50 : Nat); omega, by show _ ≤ (300 : Nat); omega⟩ (fun H locs hw => ?_)
            have hw : LO D cI cL cZ A s Gs [a] H locs := hw
            refine W.widen (k := 3 * k + 1 + 1 + 1) (n := 6 * (3 * k + 1 + 1 + 1)) (Nat.le_refl _) (by omega) ?_
            refine lv_ladd hx hb dL_others_58 ?_
            refine lv_lstore_n (lv' := [(2, .long ((1009 * (otZ a.2.1 key k)) + ((vaZ a.2.1 (nI k)).toInt64))), (4, .int (nI (k))), (0, .ref ((Gs 0).1 1)), (1, .int (nI (key)))]) hx hb dL_others_59 rfl hl (by decide) rfl (fun ls hl => ?_)
            refine lv_iinc (v := nI (k + 1)) (lv' := [(4, .int (nI (k + 1))), (2, .long ((1009 * (otZ a.2.1 key k)) + ((vaZ a.2.1 (nI k)).toInt64))), (0, .ref ((Gs 0).1 1)), (1, .int (nI (key)))]) hx hb dL_others_60 hl (k := 1) rfl (nI_add _ 1) (by decide) rfl (fun ls hl => ?_)
            refine lv_goto (tgt := 5) hx hb dL_others_63 (by decide) ?_
            have hl : lv_has ls 5 [(4, .int (nI ((k + 1)))), (2, .long ((1009 * (otZ a.2.1 key k)) + ((vaZ a.2.1 (nI k)).toInt64))), (0, .ref ((Gs 0).1 1)), (1, .int (nI (key)))] := lv_re hl 0 rfl (show (nI (k + 1)) = nI ((k + 1)) from rfl)
            have hl : lv_has ls 5 [(4, .int (nI ((k + 1)))), (2, .long (otZ a.2.1 key (k + 1))), (0, .ref ((Gs 0).1 1)), (1, .int (nI (key)))] := lv_rel hl 1 rfl (show ((1009 * (otZ a.2.1 key k)) + ((vaZ a.2.1 (nI k)).toInt64)) = (otZ a.2.1 key (k + 1)) from by rw [otZ, if_neg c20])
            exact W.widen (by omega) (by omega) (ih5 (k + 1) _ _ _ (by omega) (by omega) hw (lv_sub hl [0, 1, 2, 3] rfl))
          · skip
            have c37 := (lg_cmp_eq _ _).mp c37
            have c37 : a.2.1.2.2 6 k = -9 := jl_n9 c37
            refine lv_ldc2 (v := (-9)) hx hb hown (hts _ (mlA 118 rfl)) dL_others_40 ?_
            refine lv_asl (show (-9) = (vaZ a.2.1 (nI k)).toInt64 from va_nJ hGo.2 (by omega) c37) ?_
            refine lv_goto (tgt := 58) hx hb dL_others_43 (by decide) ?_
            refine lv_ladd hx hb dL_others_58 ?_
            refine lv_lstore_n (lv' := [(2, .long ((1009 * (otZ a.2.1 key k)) + ((vaZ a.2.1 (nI k)).toInt64))), (4, .int (nI (k))), (0, .ref ((Gs 0).1 1)), (1, .int (nI (key)))]) hx hb dL_others_59 rfl hl (by decide) rfl (fun ls hl => ?_)
            refine lv_iinc (v := nI (k + 1)) (lv' := [(4, .int (nI (k + 1))), (2, .long ((1009 * (otZ a.2.1 key k)) + ((vaZ a.2.1 (nI k)).toInt64))), (0, .ref ((Gs 0).1 1)), (1, .int (nI (key)))]) hx hb dL_others_60 hl (k := 1) rfl (nI_add _ 1) (by decide) rfl (fun ls hl => ?_)
            refine lv_goto (tgt := 5) hx hb dL_others_63 (by decide) ?_
            have hl : lv_has ls 5 [(4, .int (nI ((k + 1)))), (2, .long ((1009 * (otZ a.2.1 key k)) + ((vaZ a.2.1 (nI k)).toInt64))), (0, .ref ((Gs 0).1 1)), (1, .int (nI (key)))] := lv_re hl 0 rfl (show (nI (k + 1)) = nI ((k + 1)) from rfl)
            have hl : lv_has ls 5 [(4, .int (nI ((k + 1)))), (2, .long (otZ a.2.1 key (k + 1))), (0, .ref ((Gs 0).1 1)), (1, .int (nI (key)))] := lv_rel hl 1 rfl (show ((1009 * (otZ a.2.1 key k)) + ((vaZ a.2.1 (nI k)).toInt64)) = (otZ a.2.1 key (k + 1)) from by rw [otZ, if_neg c20])
            exact W.widen (by omega) (by omega) (ih5 (k + 1) _ _ _ (by omega) (by omega) hw (lv_sub hl [0, 1, 2, 3] rfl))
        · skip
          have c20 := cn_eq (a := k) (b := key) (by omega) (by omega) c20
          refine lv_lconst (v := 0) hx hb dL_others_23 (by decide) ?_
          refine lv_goto (tgt := 58) hx hb dL_others_24 (by decide) ?_
          refine lv_ladd hx hb dL_others_58 ?_
          refine lv_lstore_n (lv' := [(2, .long ((1009 * (otZ a.2.1 key k)) + 0)), (4, .int (nI (k))), (0, .ref ((Gs 0).1 1)), (1, .int (nI (key)))]) hx hb dL_others_59 rfl hl (by decide) rfl (fun ls hl => ?_)
          refine lv_iinc (v := nI (k + 1)) (lv' := [(4, .int (nI (k + 1))), (2, .long ((1009 * (otZ a.2.1 key k)) + 0)), (0, .ref ((Gs 0).1 1)), (1, .int (nI (key)))]) hx hb dL_others_60 hl (k := 1) rfl (nI_add _ 1) (by decide) rfl (fun ls hl => ?_)
          refine lv_goto (tgt := 5) hx hb dL_others_63 (by decide) ?_
          have hl : lv_has ls 5 [(4, .int (nI ((k + 1)))), (2, .long ((1009 * (otZ a.2.1 key k)) + 0)), (0, .ref ((Gs 0).1 1)), (1, .int (nI (key)))] := lv_re hl 0 rfl (show (nI (k + 1)) = nI ((k + 1)) from rfl)
          have hl : lv_has ls 5 [(4, .int (nI ((k + 1)))), (2, .long (otZ a.2.1 key (k + 1))), (0, .ref ((Gs 0).1 1)), (1, .int (nI (key)))] := lv_rel hl 1 rfl (show ((1009 * (otZ a.2.1 key k)) + 0) = (otZ a.2.1 key (k + 1)) from by rw [otZ, if_pos c20])
          exact W.widen (by omega) (by omega) (ih5 (k + 1) _ _ _ (by omega) (by omega) hw (lv_sub hl [0, 1, 2, 3] rfl))
  have hl : lv_has ls 5 [(4, .int (nI (0))), (2, .long (0)), (0, .ref ((Gs 0).1 1)), (1, .int (nI (key)))] := lv_re hl 0 rfl (show 0 = nI (0) from rfl)
  have hl : lv_has ls 5 [(4, .int (nI (0))), (2, .long (otZ a.2.1 key 0)), (0, .ref ((Gs 0).1 1)), (1, .int (nI (key)))] := lv_rel hl 1 rfl (show 0 = (otZ a.2.1 key 0) from rfl)
  exact W.widen (by omega) (by omega) (LP5 ((16 - 0) + 1) 0 _ _ _ (by omega) (by omega) hw (lv_sub hl [0, 1, 2, 3] rfl))
theorem dL_now_0 : decode cL_now 0 = .ok (.ldc2_w 98, 3) := by decide +kernel
theorem dL_now_3 : decode cL_now 3 = .ok (.lstore_n 1, 1) := by decide +kernel
theorem dL_now_4 : decode cL_now 4 = .ok (.iconst 0, 1) := by decide +kernel
theorem dL_now_5 : decode cL_now 5 = .ok (.istore_n 3, 1) := by decide +kernel
theorem dL_now_6 : decode cL_now 6 = .ok (.iload_n 3, 1) := by decide +kernel
theorem dL_now_7 : decode cL_now 7 = .ok (.bipush 14, 2) := by decide +kernel
theorem dL_now_9 : decode cL_now 9 = .ok (.if_icmp .ge 21, 3) := by decide +kernel
theorem dL_now_12 : decode cL_now 12 = .ok (.ldc2_w 100, 3) := by decide +kernel
theorem dL_now_15 : decode cL_now 15 = .ok (.lload_n 1, 1) := by decide +kernel
theorem dL_now_16 : decode cL_now 16 = .ok (.lmul, 1) := by decide +kernel
theorem dL_now_17 : decode cL_now 17 = .ok (.aload_n 0, 1) := by decide +kernel
theorem dL_now_18 : decode cL_now 18 = .ok (.iload_n 3, 1) := by decide +kernel
theorem dL_now_19 : decode cL_now 19 = .ok (.invokestatic 102, 3) := by decide +kernel
theorem dL_now_22 : decode cL_now 22 = .ok (.ladd, 1) := by decide +kernel
theorem dL_now_23 : decode cL_now 23 = .ok (.lstore_n 1, 1) := by decide +kernel
theorem dL_now_24 : decode cL_now 24 = .ok (.iinc 3 1, 3) := by decide +kernel
theorem dL_now_27 : decode cL_now 27 = .ok (.goto (-21), 3) := by decide +kernel
theorem dL_now_30 : decode cL_now 30 = .ok (.iconst 0, 1) := by decide +kernel
theorem dL_now_31 : decode cL_now 31 = .ok (.istore_n 3, 1) := by decide +kernel
theorem dL_now_32 : decode cL_now 32 = .ok (.iload_n 3, 1) := by decide +kernel
theorem dL_now_33 : decode cL_now 33 = .ok (.i2l, 1) := by decide +kernel
theorem dL_now_34 : decode cL_now 34 = .ok (.aload_n 0, 1) := by decide +kernel
theorem dL_now_35 : decode cL_now 35 = .ok (.iconst 0, 1) := by decide +kernel
theorem dL_now_36 : decode cL_now 36 = .ok (.invokestatic 102, 3) := by decide +kernel
theorem dL_now_39 : decode cL_now 39 = .ok (.lcmp, 1) := by decide +kernel
theorem dL_now_40 : decode cL_now 40 = .ok (.ifCond .ge 22, 3) := by decide +kernel
theorem dL_now_43 : decode cL_now 43 = .ok (.ldc2_w 100, 3) := by decide +kernel
theorem dL_now_46 : decode cL_now 46 = .ok (.lload_n 1, 1) := by decide +kernel
theorem dL_now_47 : decode cL_now 47 = .ok (.lmul, 1) := by decide +kernel
theorem dL_now_48 : decode cL_now 48 = .ok (.aload_n 0, 1) := by decide +kernel
theorem dL_now_49 : decode cL_now 49 = .ok (.iload_n 3, 1) := by decide +kernel
theorem dL_now_50 : decode cL_now 50 = .ok (.iconst 0, 1) := by decide +kernel
theorem dL_now_51 : decode cL_now 51 = .ok (.invokestatic 107, 3) := by decide +kernel
theorem dL_now_54 : decode cL_now 54 = .ok (.ladd, 1) := by decide +kernel
theorem dL_now_55 : decode cL_now 55 = .ok (.lstore_n 1, 1) := by decide +kernel
theorem dL_now_56 : decode cL_now 56 = .ok (.iinc 3 1, 3) := by decide +kernel
theorem dL_now_59 : decode cL_now 59 = .ok (.goto (-27), 3) := by decide +kernel
theorem dL_now_62 : decode cL_now 62 = .ok (.iconst 0, 1) := by decide +kernel
theorem dL_now_63 : decode cL_now 63 = .ok (.istore_n 3, 1) := by decide +kernel
theorem dL_now_64 : decode cL_now 64 = .ok (.iload_n 3, 1) := by decide +kernel
theorem dL_now_65 : decode cL_now 65 = .ok (.i2l, 1) := by decide +kernel
theorem dL_now_66 : decode cL_now 66 = .ok (.ldc2_w 110, 3) := by decide +kernel
theorem dL_now_69 : decode cL_now 69 = .ok (.aload_n 0, 1) := by decide +kernel
theorem dL_now_70 : decode cL_now 70 = .ok (.iconst 0, 1) := by decide +kernel
theorem dL_now_71 : decode cL_now 71 = .ok (.invokestatic 102, 3) := by decide +kernel
theorem dL_now_74 : decode cL_now 74 = .ok (.lmul, 1) := by decide +kernel
theorem dL_now_75 : decode cL_now 75 = .ok (.lcmp, 1) := by decide +kernel
theorem dL_now_76 : decode cL_now 76 = .ok (.ifCond .ge 38, 3) := by decide +kernel
theorem dL_now_79 : decode cL_now 79 = .ok (.iconst 0, 1) := by decide +kernel
theorem dL_now_80 : decode cL_now 80 = .ok (.istore 4, 2) := by decide +kernel
theorem dL_now_82 : decode cL_now 82 = .ok (.iload 4, 2) := by decide +kernel
theorem dL_now_84 : decode cL_now 84 = .ok (.iconst 4, 1) := by decide +kernel
theorem dL_now_85 : decode cL_now 85 = .ok (.if_icmp .ge 23, 3) := by decide +kernel
theorem dL_now_88 : decode cL_now 88 = .ok (.ldc2_w 100, 3) := by decide +kernel
theorem dL_now_91 : decode cL_now 91 = .ok (.lload_n 1, 1) := by decide +kernel
theorem dL_now_92 : decode cL_now 92 = .ok (.lmul, 1) := by decide +kernel
theorem dL_now_93 : decode cL_now 93 = .ok (.aload_n 0, 1) := by decide +kernel
theorem dL_now_94 : decode cL_now 94 = .ok (.iload_n 3, 1) := by decide +kernel
theorem dL_now_95 : decode cL_now 95 = .ok (.iload 4, 2) := by decide +kernel
theorem dL_now_97 : decode cL_now 97 = .ok (.invokestatic 112, 3) := by decide +kernel
theorem dL_now_100 : decode cL_now 100 = .ok (.ladd, 1) := by decide +kernel
theorem dL_now_101 : decode cL_now 101 = .ok (.lstore_n 1, 1) := by decide +kernel
theorem dL_now_102 : decode cL_now 102 = .ok (.iinc 4 1, 3) := by decide +kernel
theorem dL_now_105 : decode cL_now 105 = .ok (.goto (-23), 3) := by decide +kernel
theorem dL_now_108 : decode cL_now 108 = .ok (.iinc 3 1, 3) := by decide +kernel
theorem dL_now_111 : decode cL_now 111 = .ok (.goto (-47), 3) := by decide +kernel
theorem dL_now_114 : decode cL_now 114 = .ok (.lload_n 1, 1) := by decide +kernel
theorem dL_now_115 : decode cL_now 115 = .ok (.aload_n 0, 1) := by decide +kernel
theorem dL_now_116 : decode cL_now 116 = .ok (.iconst 0, 1) := by decide +kernel
theorem dL_now_117 : decode cL_now 117 = .ok (.invokestatic 114, 3) := by decide +kernel
theorem dL_now_120 : decode cL_now 120 = .ok (.ladd, 1) := by decide +kernel
theorem dL_now_121 : decode cL_now 121 = .ok (.ldc2_w 116, 3) := by decide +kernel
theorem dL_now_124 : decode cL_now 124 = .ok (.aload_n 0, 1) := by decide +kernel
theorem dL_now_125 : decode cL_now 125 = .ok (.iconst 1, 1) := by decide +kernel
theorem dL_now_126 : decode cL_now 126 = .ok (.invokestatic 114, 3) := by decide +kernel
theorem dL_now_129 : decode cL_now 129 = .ok (.lmul, 1) := by decide +kernel
theorem dL_now_130 : decode cL_now 130 = .ok (.ladd, 1) := by decide +kernel
theorem dL_now_131 : decode cL_now 131 = .ok (.ldc2_w 118, 3) := by decide +kernel
theorem dL_now_134 : decode cL_now 134 = .ok (.aload_n 0, 1) := by decide +kernel
theorem dL_now_135 : decode cL_now 135 = .ok (.iconst 2, 1) := by decide +kernel
theorem dL_now_136 : decode cL_now 136 = .ok (.invokestatic 114, 3) := by decide +kernel
theorem dL_now_139 : decode cL_now 139 = .ok (.lmul, 1) := by decide +kernel
theorem dL_now_140 : decode cL_now 140 = .ok (.ladd, 1) := by decide +kernel
theorem dL_now_141 : decode cL_now 141 = .ok (.lreturn, 1) := by decide +kernel
set_option maxHeartbeats 8000000 in
set_option maxRecDepth 100000 in
theorem c_now (l : Launch) (hst : l.stackTraces = false) (D : va_G) (cI cL cZ : ClassId) (Gs : Nat → Geo) (hG : GeoOk (Gs 0)) (a : AS) (hGo : Go a) : LJ l yL_now cL_now 5 8 135 200 1200 D cI cL cZ Gs [a] [.ref ((Gs 0).1 1)] (nwZ a.2.1) [a] := by
  have hB := inv_B hGo.2
  refine lj_of (by decide) rfl (Nat.le_of_ble_eq_true rfl) ?_
  intro p e s m below meth c ls H A hF hr hlocks hw hl
  have hx := hF.1.1
  have hb := hF.1.2.1
  have hown := hF.1.2.2.2.1
  have hts := hF.1.2.2.2.2
  have hl : lv_has ls 5 [(0, .ref ((Gs 0).1 1))] := hl
  refine W.widen (k := 0) (n := 6 * 0) (Nat.le_refl _) (Nat.le_refl _) ?_
  refine lv_ldc2 (v := 19) hx hb hown (hts _ (mlA 100 rfl)) dL_now_0 ?_
  refine lv_lstore_n (lv' := [(1, .long (19)), (0, .ref ((Gs 0).1 1))]) hx hb dL_now_3 rfl hl (by decide) rfl (fun ls hl => ?_)
  refine lv_iconst (v := 0) hx hb dL_now_4 (by decide) ?_
  refine lv_istore_n (lv' := [(3, .int (0)), (1, .long (19)), (0, .ref ((Gs 0).1 1))]) hx hb dL_now_5 rfl hl (by decide) rfl (fun ls hl => ?_)
  have LP6 : ∀ n9 : Nat, ∀ (k : Nat) (H : Heap) (locs : List Loc) (ls : Array Slot), (hk : k ≤ 14) → 14 - k < n9 → LO D cI cL cZ A s Gs [a] H locs → lv_has ls 5 [(3, .int (nI (k))), (1, .long (nwA a.2.1 k)), (0, .ref ((Gs 0).1 1))] → W p l e ({ frames := 8, cells := 200, slots := 1200, locals := 135 } : Room) s m [.ref ((Gs 0).1 1)].toArray below meth c H locs (k) (6 * (k)) (MQ below (lqL D cI cL cZ Gs (nwZ a.2.1) [a] A) [.ref ((Gs 0).1 1)].toArray s 200 1200 A) (F0 m 6 ls []) := by
    intro n9
    induction n9 with
    | zero => intros; omega
    | succ n9 ih6 =>
      intro k H locs ls hk hm9 hw hl
      refine lv_iload_n hx hb dL_now_6 rfl (lv_at hl 0 rfl) ?_
      refine lv_bipush (v := 14) hx hb dL_now_7 (by decide) ?_
      refine lv_icmp_ge (tgt := 30) hx hb dL_now_9 (by decide) (fun c9 => ?_) (fun c9 => ?_)
      · skip
        have c9 := cn_le (a := 14) (b := k) (by omega) (by omega) c9
        refine lv_iconst (v := 0) hx hb dL_now_30 (by decide) ?_
        refine lv_istore_n (lv' := [(3, .int (0)), (1, .long (nwA a.2.1 k)), (0, .ref ((Gs 0).1 1))]) hx hb dL_now_31 rfl hl (by decide) rfl (fun ls hl => ?_)
        have LP32 : ∀ n9 : Nat, ∀ (b : Nat) (H : Heap) (locs : List Loc) (ls : Array Slot), (hb9 : b ≤ a.2.1.1.2) → a.2.1.1.2 - b < n9 → LO D cI cL cZ A s Gs [a] H locs → lv_has ls 5 [(3, .int (nI (b))), (1, .long (nwB a.2.1 b)), (0, .ref ((Gs 0).1 1))] → W p l e ({ frames := 8, cells := 200, slots := 1200, locals := 135 } : Room) s m [.ref ((Gs 0).1 1)].toArray below meth c H locs (14 + 2 * b) (6 * (14 + 2 * b)) (MQ below (lqL D cI cL cZ Gs (nwZ a.2.1) [a] A) [.ref ((Gs 0).1 1)].toArray s 200 1200 A) (F0 m 32 ls []) := by
          intro n9
          induction n9 with
          | zero => intros; omega
          | succ n9 ih32 =>
            intro b H locs ls hb9 hm9 hw hl
            refine lv_iload_n hx hb dL_now_32 rfl (lv_at hl 0 rfl) ?_
            refine lv_i2l (v := (nI (b) : Int32).toInt64) hx hb dL_now_33 rfl ?_
            refine lv_aload_n hx hb dL_now_34 rfl (lv_at hl 2 rfl) ?_
            refine lv_iconst (v := 0) hx hb dL_now_35 (by decide) ?_
            refine lo_callX hF (lx_eq (x_about (Gs := fun _ => Gs 0) hst hG hGo 0) (show _ = ((nI a.2.1.1.2).toInt64) from ab_0) (show _ = [a] from rfl)) k_about ⟨Nat.le_of_ble_eq_true rfl, Nat.le_of_ble_eq_true rfl⟩ hw [0] (by decide) rfl (hg_one rfl) rfl hl.1 rfl (Nat.le_of_ble_eq_true rfl) dL_now_36 ⟨by show _ ≤ (200 : Nat); omega, by show _ ≤ (1200 : Nat); omega⟩ (fun H locs hw => ?_)
            have hw : LO D cI cL cZ A s Gs [a] H locs := hw
            refine W.widen (k := 14 + 2 * b + 1) (n := 6 * (14 + 2 * b + 1)) (Nat.le_refl _) (by omega) ?_
            refine W.lcmp hx hb dL_now_39 ?_
            refine lv_if_ge (tgt := 62) hx hb dL_now_40 (by decide) (fun c40 => ?_) (fun c40 => ?_)
            · skip
              have c40 := (lg_cmp_ge _ _).mp c40
              have c40 := (jl_le (a := a.2.1.1.2) (b := b) (by omega) (by omega)).mp c40
              refine lv_iconst (v := 0) hx hb dL_now_62 (by decide) ?_
              refine lv_istore_n (lv' := [(3, .int (0)), (1, .long (nwB a.2.1 b)), (0, .ref ((Gs 0).1 1))]) hx hb dL_now_63 rfl hl (by decide) rfl (fun ls hl => ?_)
              have LP64 : ∀ n9 : Nat, ∀ (c9 : Nat) (H : Heap) (locs : List Loc) (ls : Array Slot), (hc9 : c9 ≤ 4 * a.2.1.1.2) → 4 * a.2.1.1.2 - c9 < n9 → LO D cI cL cZ A s Gs [a] H locs → lv_has ls 5 [(3, .int (nI (c9))), (1, .long (nwC a.2.1 c9)), (0, .ref ((Gs 0).1 1))] → W p l e ({ frames := 8, cells := 200, slots := 1200, locals := 135 } : Room) s m [.ref ((Gs 0).1 1)].toArray below meth c H locs (31 + 5 * c9) (6 * (31 + 5 * c9)) (MQ below (lqL D cI cL cZ Gs (nwZ a.2.1) [a] A) [.ref ((Gs 0).1 1)].toArray s 200 1200 A) (F0 m 64 ls []) := by
                intro n9
                induction n9 with
                | zero => intros; omega
                | succ n9 ih64 =>
                  intro c9 H locs ls hc9 hm9 hw hl
                  refine lv_iload_n hx hb dL_now_64 rfl (lv_at hl 0 rfl) ?_
                  refine lv_i2l (v := (nI (c9) : Int32).toInt64) hx hb dL_now_65 rfl ?_
                  refine lv_ldc2 (v := 4) hx hb hown (hts _ (mlA 102 rfl)) dL_now_66 ?_
                  refine lv_aload_n hx hb dL_now_69 rfl (lv_at hl 2 rfl) ?_
                  refine lv_iconst (v := 0) hx hb dL_now_70 (by decide) ?_
                  refine lo_callX hF (lx_eq (x_about (Gs := fun _ => Gs 0) hst hG hGo 0) (show _ = ((nI a.2.1.1.2).toInt64) from ab_0) (show _ = [a] from rfl)) k_about ⟨Nat.le_of_ble_eq_true rfl, Nat.le_of_ble_eq_true rfl⟩ hw [0] (by decide) rfl (hg_one rfl) rfl hl.1 rfl (Nat.le_of_ble_eq_true rfl) dL_now_71 ⟨by show _ ≤ (200 : Nat); omega, by show _ ≤ (1200 : Nat); omega⟩ (fun H locs hw => ?_)
                  have hw : LO D cI cL cZ A s Gs [a] H locs := hw
                  refine W.widen (k := 31 + 5 * c9 + 1) (n := 6 * (31 + 5 * c9 + 1)) (Nat.le_refl _) (by omega) ?_
                  refine lv_lmul hx hb dL_now_74 ?_
                  refine lv_asl (show 4 * ((nI a.2.1.1.2).toInt64) = (nI (4 * a.2.1.1.2)).toInt64 from jl_mul4 hB) ?_
                  refine W.lcmp hx hb dL_now_75 ?_
                  refine lv_if_ge (tgt := 114) hx hb dL_now_76 (by decide) (fun c76 => ?_) (fun c76 => ?_)
                  · skip
                    have c76 := (lg_cmp_ge _ _).mp c76
                    have c76 := (jl_le (a := 4 * a.2.1.1.2) (b := c9) (by omega) (by omega)).mp c76
                    refine lv_lload_n hx hb dL_now_114 rfl (lv_at hl 1 rfl) ?_
                    refine lv_aload_n hx hb dL_now_115 rfl (lv_at hl 2 rfl) ?_
                    refine lv_iconst (v := 0) hx hb dL_now_116 (by decide) ?_
                    refine lo_callX hF (lx_eq (x_lastCut (Gs := fun _ => Gs 0) hst hG hGo 0) (show _ = ((a.2.1.2.1 10).toInt64) from (lc_J (k := 0) (by decide)).trans rfl) (show _ = [a] from rfl)) k_lastCut ⟨Nat.le_of_ble_eq_true rfl, Nat.le_of_ble_eq_true rfl⟩ hw [0] (by decide) rfl (hg_one rfl) rfl hl.1 rfl (Nat.le_of_ble_eq_true rfl) dL_now_117 ⟨by show _ ≤ (200 : Nat); omega, by show _ ≤ (1200 : Nat); omega⟩ (fun H locs hw => ?_)
                    have hw : LO D cI cL cZ A s Gs [a] H locs := hw
                    refine W.widen (k := 31 + 5 * c9 + 1 + 1) (n := 6 * (31 + 5 * c9 + 1 + 1)) (Nat.le_refl _) (by omega) ?_
                    refine lv_ladd hx hb dL_now_120 ?_
                    refine lv_ldc2 (v := 37) hx hb hown (hts _ (mlA 103 rfl)) dL_now_121 ?_
                    refine lv_aload_n hx hb dL_now_124 rfl (lv_at hl 2 rfl) ?_
                    refine lv_iconst (v := 1) hx hb dL_now_125 (by decide) ?_
                    refine lo_callX hF (lx_eq (x_lastCut (Gs := fun _ => Gs 0) hst hG hGo 1) (show _ = ((a.2.1.2.1 11).toInt64) from (lc_J (k := 1) (by decide)).trans rfl) (show _ = [a] from rfl)) k_lastCut ⟨Nat.le_of_ble_eq_true rfl, Nat.le_of_ble_eq_true rfl⟩ hw [0] (by decide) rfl (hg_one rfl) rfl hl.1 rfl (Nat.le_of_ble_eq_true rfl) dL_now_126 ⟨by show _ ≤ (200 : Nat); omega, by show _ ≤ (1200 : Nat); omega⟩ (fun H locs hw => ?_)
                    have hw : LO D cI cL cZ A s Gs [a] H locs := hw
                    refine W.widen (k := 31 + 5 * c9 + 1 + 1 + 1) (n := 6 * (31 + 5 * c9 + 1 + 1 + 1)) (Nat.le_refl _) (by omega) ?_
                    refine lv_lmul hx hb dL_now_129 ?_
                    refine lv_ladd hx hb dL_now_130 ?_
                    refine lv_ldc2 (v := 41) hx hb hown (hts _ (mlA 104 rfl)) dL_now_131 ?_
                    refine lv_aload_n hx hb dL_now_134 rfl (lv_at hl 2 rfl) ?_
                    refine lv_iconst (v := 2) hx hb dL_now_135 (by decide) ?_
                    refine lo_callX hF (lx_eq (x_lastCut (Gs := fun _ => Gs 0) hst hG hGo 2) (show _ = ((a.2.1.2.1 12).toInt64) from (lc_J (k := 2) (by decide)).trans rfl) (show _ = [a] from rfl)) k_lastCut ⟨Nat.le_of_ble_eq_true rfl, Nat.le_of_ble_eq_true rfl⟩ hw [0] (by decide) rfl (hg_one rfl) rfl hl.1 rfl (Nat.le_of_ble_eq_true rfl) dL_now_136 ⟨by show _ ≤ (200 : Nat); omega, by show _ ≤ (1200 : Nat); omega⟩ (fun H locs hw => ?_)
                    have hw : LO D cI cL cZ A s Gs [a] H locs := hw
                    refine W.widen (k := 31 + 5 * c9 + 1 + 1 + 1 + 1) (n := 6 * (31 + 5 * c9 + 1 + 1 + 1 + 1)) (Nat.le_refl _) (by omega) ?_
                    refine lv_lmul hx hb dL_now_139 ?_
                    refine lv_ladd hx hb dL_now_140 ?_
                    exact lo_retl hF hr hlocks hw (by rw [nwZ, show 4 * a.2.1.1.2 = c9 from by omega]) (by omega) (by omega) dL_now_141
                  · skip
                    have c76 := (fun z => c76 ((lg_cmp_ge _ _).mpr z))
                    have c76 : c9 < 4 * a.2.1.1.2 := Nat.lt_of_not_le (fun z => c76 ((jl_le (a := 4 * a.2.1.1.2) (b := c9) (by omega) (by omega)).mpr z))
                    refine lv_iconst (v := 0) hx hb dL_now_79 (by decide) ?_
                    refine lv_istore (lv' := [(4, .int (0)), (3, .int (nI (c9))), (1, .long (nwC a.2.1 c9)), (0, .ref ((Gs 0).1 1))]) hx hb dL_now_80 hl (by decide) rfl (fun ls hl => ?_)
                    have LP82 : ∀ n9 : Nat, ∀ (k : Nat) (H : Heap) (locs : List Loc) (ls : Array Slot), (hk : k ≤ 4) → 4 - k < n9 → LO D cI cL cZ A s Gs [a] H locs → lv_has ls 5 [(4, .int (nI (k))), (3, .int (nI (c9))), (1, .long (nwP a.2.1 c9 (nwC a.2.1 c9) k)), (0, .ref ((Gs 0).1 1))] → W p l e ({ frames := 8, cells := 200, slots := 1200, locals := 135 } : Room) s m [.ref ((Gs 0).1 1)].toArray below meth c H locs (31 + 5 * c9 + 1 + k) (6 * (31 + 5 * c9 + 1 + k)) (MQ below (lqL D cI cL cZ Gs (nwZ a.2.1) [a] A) [.ref ((Gs 0).1 1)].toArray s 200 1200 A) (F0 m 82 ls []) := by
                      intro n9
                      induction n9 with
                      | zero => intros; omega
                      | succ n9 ih82 =>
                        intro k H locs ls hk hm9 hw hl
                        refine lv_iload hx hb dL_now_82 (lv_at hl 0 rfl) ?_
                        refine lv_iconst (v := 4) hx hb dL_now_84 (by decide) ?_
                        refine lv_icmp_ge (tgt := 108) hx hb dL_now_85 (by decide) (fun c85 => ?_) (fun c85 => ?_)
                        · skip
                          have c85 := cn_le (a := 4) (b := k) (by omega) (by omega) c85
                          refine lv_iinc (v := nI (c9 + 1)) (lv' := [(3, .int (nI (c9 + 1))), (4, .int (nI (k))), (1, .long (nwP a.2.1 c9 (nwC a.2.1 c9) k)), (0, .ref ((Gs 0).1 1))]) hx hb dL_now_108 hl (k := 1) rfl (nI_add _ 1) (by decide) rfl (fun ls hl => ?_)
                          refine lv_goto (tgt := 64) hx hb dL_now_111 (by decide) ?_
                          have hl : lv_has ls 5 [(3, .int (nI ((c9 + 1)))), (4, .int (nI (k))), (1, .long (nwP a.2.1 c9 (nwC a.2.1 c9) k)), (0, .ref ((Gs 0).1 1))] := lv_re hl 0 rfl (show (nI (c9 + 1)) = nI ((c9 + 1)) from rfl)
                          have hl : lv_has ls 5 [(3, .int (nI ((c9 + 1)))), (4, .int (nI (k))), (1, .long (nwC a.2.1 (c9 + 1))), (0, .ref ((Gs 0).1 1))] := lv_rel hl 2 rfl (show (nwP a.2.1 c9 (nwC a.2.1 c9) k) = (nwC a.2.1 (c9 + 1)) from by rw [show k = 4 from by omega]; rfl)
                          exact W.widen (by omega) (by omega) (ih64 (c9 + 1) _ _ _ (by omega) (by omega) hw (lv_sub hl [0, 2, 3] rfl))
                        · skip
                          have c85 := cn_nle (a := 4) (b := k) (by omega) (by omega) c85
                          refine lv_ldc2 (v := 31) hx hb hown (hts _ (mlA 101 rfl)) dL_now_88 ?_
                          refine lv_lload_n hx hb dL_now_91 rfl (lv_at hl 2 rfl) ?_
                          refine lv_lmul hx hb dL_now_92 ?_
                          refine lv_aload_n hx hb dL_now_93 rfl (lv_at hl 3 rfl) ?_
                          refine lv_iload_n hx hb dL_now_94 rfl (lv_at hl 1 rfl) ?_
                          refine lv_iload hx hb dL_now_95 (lv_at hl 0 rfl) ?_
                          refine lo_callX hF (lx_eq (x_page (Gs := fun _ => Gs 0) hst hG hGo (nI (c9)) (nI (k))) (show _ = ((tpZ a.2.1 (nI c9) (nI k)).toInt64) from pg_J hB (by omega) (by omega)) (show _ = [a] from rfl)) k_page ⟨Nat.le_of_ble_eq_true rfl, Nat.le_of_ble_eq_true rfl⟩ hw [0] (by decide) rfl (hg_one rfl) rfl hl.1 rfl (Nat.le_of_ble_eq_true rfl) dL_now_97 ⟨by show _ ≤ (200 : Nat); omega, by show _ ≤ (1200 : Nat); omega⟩ (fun H locs hw => ?_)
                          have hw : LO D cI cL cZ A s Gs [a] H locs := hw
                          refine W.widen (k := 31 + 5 * c9 + 1 + k + 1) (n := 6 * (31 + 5 * c9 + 1 + k + 1)) (Nat.le_refl _) (by omega) ?_
                          refine lv_ladd hx hb dL_now_100 ?_
                          refine lv_lstore_n (lv' := [(1, .long ((31 * (nwP a.2.1 c9 (nwC a.2.1 c9) k)) + ((tpZ a.2.1 (nI c9) (nI k)).toInt64))), (4, .int (nI (k))), (3, .int (nI (c9))), (0, .ref ((Gs 0).1 1))]) hx hb dL_now_101 rfl hl (by decide) rfl (fun ls hl => ?_)
                          refine lv_iinc (v := nI (k + 1)) (lv' := [(4, .int (nI (k + 1))), (1, .long ((31 * (nwP a.2.1 c9 (nwC a.2.1 c9) k)) + ((tpZ a.2.1 (nI c9) (nI k)).toInt64))), (3, .int (nI (c9))), (0, .ref ((Gs 0).1 1))]) hx hb dL_now_102 hl (k := 1) rfl (nI_add _ 1) (by decide) rfl (fun ls hl => ?_)
                          refine lv_goto (tgt := 82) hx hb dL_now_105 (by decide) ?_
                          have hl : lv_has ls 5 [(4, .int (nI ((k + 1)))), (1, .long ((31 * (nwP a.2.1 c9 (nwC a.2.1 c9) k)) + ((tpZ a.2.1 (nI c9) (nI k)).toInt64))), (3, .int (nI (c9))), (0, .ref ((Gs 0).1 1))] := lv_re hl 0 rfl (show (nI (k + 1)) = nI ((k + 1)) from rfl)
                          have hl : lv_has ls 5 [(4, .int (nI ((k + 1)))), (1, .long (nwP a.2.1 c9 (nwC a.2.1 c9) (k + 1))), (3, .int (nI (c9))), (0, .ref ((Gs 0).1 1))] := lv_rel hl 1 rfl (show ((31 * (nwP a.2.1 c9 (nwC a.2.1 c9) k)) + ((tpZ a.2.1 (nI c9) (nI k)).toInt64)) = (nwP a.2.1 c9 (nwC a.2.1 c9) (k + 1)) from rfl)
                          exact W.widen (by omega) (by omega) (ih82 (k + 1) _ _ _ (by omega) (by omega) hw (lv_sub hl [0, 2, 1, 3] rfl))
                    have hl : lv_has ls 5 [(4, .int (nI (0))), (3, .int (nI (c9))), (1, .long (nwC a.2.1 c9)), (0, .ref ((Gs 0).1 1))] := lv_re hl 0 rfl (show 0 = nI (0) from rfl)
                    have hl : lv_has ls 5 [(4, .int (nI (0))), (3, .int (nI (c9))), (1, .long (nwP a.2.1 c9 (nwC a.2.1 c9) 0)), (0, .ref ((Gs 0).1 1))] := lv_rel hl 2 rfl (show (nwC a.2.1 c9) = (nwP a.2.1 c9 (nwC a.2.1 c9) 0) from rfl)
                    exact W.widen (by omega) (by omega) (LP82 ((4 - 0) + 1) 0 _ _ _ (by omega) (by omega) hw (lv_sub hl [0, 1, 2, 3] rfl))
              have hl : lv_has ls 5 [(3, .int (nI (0))), (1, .long (nwB a.2.1 b)), (0, .ref ((Gs 0).1 1))] := lv_re hl 0 rfl (show 0 = nI (0) from rfl)
              have hl : lv_has ls 5 [(3, .int (nI (0))), (1, .long (nwC a.2.1 0)), (0, .ref ((Gs 0).1 1))] := lv_rel hl 1 rfl (show (nwB a.2.1 b) = (nwC a.2.1 0) from by rw [show b = a.2.1.1.2 from by omega]; rfl)
              exact W.widen (by omega) (by omega) (LP64 ((4 * a.2.1.1.2 - 0) + 1) 0 _ _ _ (by omega) (by omega) hw (lv_sub hl [0, 1, 2] rfl))
            · skip
              have c40 := (fun z => c40 ((lg_cmp_ge _ _).mpr z))
              have c40 : b < a.2.1.1.2 := Nat.lt_of_not_le (fun z => c40 ((jl_le (a := a.2.1.1.2) (b := b) (by omega) (by omega)).mpr z))
              refine lv_ldc2 (v := 31) hx hb hown (hts _ (mlA 101 rfl)) dL_now_43 ?_
              refine lv_lload_n hx hb dL_now_46 rfl (lv_at hl 1 rfl) ?_
              refine lv_lmul hx hb dL_now_47 ?_
              refine lv_aload_n hx hb dL_now_48 rfl (lv_at hl 2 rfl) ?_
              refine lv_iload_n hx hb dL_now_49 rfl (lv_at hl 0 rfl) ?_
              refine lv_iconst (v := 0) hx hb dL_now_50 (by decide) ?_
              refine lo_callX hF (lx_eq (x_block (Gs := fun _ => Gs 0) hst hG hGo (nI (b)) 0) (show _ = ((blZ a.2.1 (nI b) 0).toInt64) from bl_J (w := 0) hB (by omega) (by decide)) (show _ = [a] from rfl)) k_block ⟨Nat.le_of_ble_eq_true rfl, Nat.le_of_ble_eq_true rfl⟩ hw [0] (by decide) rfl (hg_one rfl) rfl hl.1 rfl (Nat.le_of_ble_eq_true rfl) dL_now_51 ⟨by show _ ≤ (200 : Nat); omega, by show _ ≤ (1200 : Nat); omega⟩ (fun H locs hw => ?_)
              have hw : LO D cI cL cZ A s Gs [a] H locs := hw
              refine W.widen (k := 14 + 2 * b + 1 + 1) (n := 6 * (14 + 2 * b + 1 + 1)) (Nat.le_refl _) (by omega) ?_
              refine lv_ladd hx hb dL_now_54 ?_
              refine lv_lstore_n (lv' := [(1, .long ((31 * (nwB a.2.1 b)) + ((blZ a.2.1 (nI b) 0).toInt64))), (3, .int (nI (b))), (0, .ref ((Gs 0).1 1))]) hx hb dL_now_55 rfl hl (by decide) rfl (fun ls hl => ?_)
              refine lv_iinc (v := nI (b + 1)) (lv' := [(3, .int (nI (b + 1))), (1, .long ((31 * (nwB a.2.1 b)) + ((blZ a.2.1 (nI b) 0).toInt64))), (0, .ref ((Gs 0).1 1))]) hx hb dL_now_56 hl (k := 1) rfl (nI_add _ 1) (by decide) rfl (fun ls hl => ?_)
              refine lv_goto (tgt := 32) hx hb dL_now_59 (by decide) ?_
              have hl : lv_has ls 5 [(3, .int (nI ((b + 1)))), (1, .long ((31 * (nwB a.2.1 b)) + ((blZ a.2.1 (nI b) 0).toInt64))), (0, .ref ((Gs 0).1 1))] := lv_re hl 0 rfl (show (nI (b + 1)) = nI ((b + 1)) from rfl)
              have hl : lv_has ls 5 [(3, .int (nI ((b + 1)))), (1, .long (nwB a.2.1 (b + 1))), (0, .ref ((Gs 0).1 1))] := lv_rel hl 1 rfl (show ((31 * (nwB a.2.1 b)) + ((blZ a.2.1 (nI b) 0).toInt64)) = (nwB a.2.1 (b + 1)) from rfl)
              exact W.widen (by omega) (by omega) (ih32 (b + 1) _ _ _ (by omega) (by omega) hw (lv_sub hl [0, 1, 2] rfl))
        have hl : lv_has ls 5 [(3, .int (nI (0))), (1, .long (nwA a.2.1 k)), (0, .ref ((Gs 0).1 1))] := lv_re hl 0 rfl (show 0 = nI (0) from rfl)
        have hl : lv_has ls 5 [(3, .int (nI (0))), (1, .long (nwB a.2.1 0)), (0, .ref ((Gs 0).1 1))] := lv_rel hl 1 rfl (show (nwA a.2.1 k) = (nwB a.2.1 0) from by rw [show k = 14 from by omega]; rfl)
        exact W.widen (by omega) (by omega) (LP32 ((a.2.1.1.2 - 0) + 1) 0 _ _ _ (by omega) (by omega) hw (lv_sub hl [0, 1, 2] rfl))
      · skip
        have c9 := cn_nle (a := 14) (b := k) (by omega) (by omega) c9
        refine lv_ldc2 (v := 31) hx hb hown (hts _ (mlA 101 rfl)) dL_now_12 ?_
        refine lv_lload_n hx hb dL_now_15 rfl (lv_at hl 1 rfl) ?_
        refine lv_lmul hx hb dL_now_16 ?_
        refine lv_aload_n hx hb dL_now_17 rfl (lv_at hl 2 rfl) ?_
        refine lv_iload_n hx hb dL_now_18 rfl (lv_at hl 0 rfl) ?_
        refine lo_callX hF (lx_eq (x_about (Gs := fun _ => Gs 0) hst hG hGo (nI (k))) (show _ = ((abZ a.2.1 k).toInt64) from ab_J (by omega)) (show _ = [a] from rfl)) k_about ⟨Nat.le_of_ble_eq_true rfl, Nat.le_of_ble_eq_true rfl⟩ hw [0] (by decide) rfl (hg_one rfl) rfl hl.1 rfl (Nat.le_of_ble_eq_true rfl) dL_now_19 ⟨by show _ ≤ (200 : Nat); omega, by show _ ≤ (1200 : Nat); omega⟩ (fun H locs hw => ?_)
        have hw : LO D cI cL cZ A s Gs [a] H locs := hw
        refine W.widen (k := k + 1) (n := 6 * (k + 1)) (Nat.le_refl _) (by omega) ?_
        refine lv_ladd hx hb dL_now_22 ?_
        refine lv_lstore_n (lv' := [(1, .long ((31 * (nwA a.2.1 k)) + ((abZ a.2.1 k).toInt64))), (3, .int (nI (k))), (0, .ref ((Gs 0).1 1))]) hx hb dL_now_23 rfl hl (by decide) rfl (fun ls hl => ?_)
        refine lv_iinc (v := nI (k + 1)) (lv' := [(3, .int (nI (k + 1))), (1, .long ((31 * (nwA a.2.1 k)) + ((abZ a.2.1 k).toInt64))), (0, .ref ((Gs 0).1 1))]) hx hb dL_now_24 hl (k := 1) rfl (nI_add _ 1) (by decide) rfl (fun ls hl => ?_)
        refine lv_goto (tgt := 6) hx hb dL_now_27 (by decide) ?_
        have hl : lv_has ls 5 [(3, .int (nI ((k + 1)))), (1, .long ((31 * (nwA a.2.1 k)) + ((abZ a.2.1 k).toInt64))), (0, .ref ((Gs 0).1 1))] := lv_re hl 0 rfl (show (nI (k + 1)) = nI ((k + 1)) from rfl)
        have hl : lv_has ls 5 [(3, .int (nI ((k + 1)))), (1, .long (nwA a.2.1 (k + 1))), (0, .ref ((Gs 0).1 1))] := lv_rel hl 1 rfl (show ((31 * (nwA a.2.1 k)) + ((abZ a.2.1 k).toInt64)) = (nwA a.2.1 (k + 1)) from rfl)
        exact W.widen (by omega) (by omega) (ih6 (k + 1) _ _ _ (by omega) (by omega) hw (lv_sub hl [0, 1, 2] rfl))
  have hl : lv_has ls 5 [(3, .int (nI (0))), (1, .long (19)), (0, .ref ((Gs 0).1 1))] := lv_re hl 0 rfl (show 0 = nI (0) from rfl)
  have hl : lv_has ls 5 [(3, .int (nI (0))), (1, .long (nwA a.2.1 0)), (0, .ref ((Gs 0).1 1))] := lv_rel hl 1 rfl (show 19 = (nwA a.2.1 0) from rfl)
  exact W.widen (by omega) (by omega) (LP6 ((14 - 0) + 1) 0 _ _ _ (by omega) (by omega) hw (lv_sub hl [0, 1, 2] rfl))
