theorem dL_alike_0 : decode cL_alike 0 = .ok (.aload_n 0, 1) := by decide +kernel
theorem dL_alike_1 : decode cL_alike 1 = .ok (.invokestatic 120, 3) := by decide +kernel
theorem dL_alike_4 : decode cL_alike 4 = .ok (.aload_n 1, 1) := by decide +kernel
theorem dL_alike_5 : decode cL_alike 5 = .ok (.invokestatic 120, 3) := by decide +kernel
theorem dL_alike_8 : decode cL_alike 8 = .ok (.lcmp, 1) := by decide +kernel
theorem dL_alike_9 : decode cL_alike 9 = .ok (.ifCond .ne 179, 3) := by decide +kernel
theorem dL_alike_12 : decode cL_alike 12 = .ok (.aload_n 0, 1) := by decide +kernel
theorem dL_alike_13 : decode cL_alike 13 = .ok (.invokevirtual 203, 3) := by decide +kernel
theorem dL_alike_16 : decode cL_alike 16 = .ok (.aload_n 1, 1) := by decide +kernel
theorem dL_alike_17 : decode cL_alike 17 = .ok (.invokevirtual 203, 3) := by decide +kernel
theorem dL_alike_20 : decode cL_alike 20 = .ok (.if_icmp .ne 168, 3) := by decide +kernel
theorem dL_alike_23 : decode cL_alike 23 = .ok (.aload_n 0, 1) := by decide +kernel
theorem dL_alike_24 : decode cL_alike 24 = .ok (.invokevirtual 144, 3) := by decide +kernel
theorem dL_alike_27 : decode cL_alike 27 = .ok (.aload_n 1, 1) := by decide +kernel
theorem dL_alike_28 : decode cL_alike 28 = .ok (.invokevirtual 144, 3) := by decide +kernel
theorem dL_alike_31 : decode cL_alike 31 = .ok (.if_icmp .ne 157, 3) := by decide +kernel
theorem dL_alike_34 : decode cL_alike 34 = .ok (.aload_n 0, 1) := by decide +kernel
theorem dL_alike_35 : decode cL_alike 35 = .ok (.invokevirtual 124, 3) := by decide +kernel
theorem dL_alike_38 : decode cL_alike 38 = .ok (.aload_n 1, 1) := by decide +kernel
theorem dL_alike_39 : decode cL_alike 39 = .ok (.invokevirtual 124, 3) := by decide +kernel
theorem dL_alike_42 : decode cL_alike 42 = .ok (.if_icmp .ne 146, 3) := by decide +kernel
theorem dL_alike_45 : decode cL_alike 45 = .ok (.aload_n 0, 1) := by decide +kernel
theorem dL_alike_46 : decode cL_alike 46 = .ok (.invokestatic 135, 3) := by decide +kernel
theorem dL_alike_49 : decode cL_alike 49 = .ok (.aload_n 1, 1) := by decide +kernel
theorem dL_alike_50 : decode cL_alike 50 = .ok (.invokestatic 135, 3) := by decide +kernel
theorem dL_alike_53 : decode cL_alike 53 = .ok (.lcmp, 1) := by decide +kernel
theorem dL_alike_54 : decode cL_alike 54 = .ok (.ifCond .ne 134, 3) := by decide +kernel
theorem dL_alike_57 : decode cL_alike 57 = .ok (.aload_n 0, 1) := by decide +kernel
theorem dL_alike_58 : decode cL_alike 58 = .ok (.invokevirtual 182, 3) := by decide +kernel
theorem dL_alike_61 : decode cL_alike 61 = .ok (.aload_n 1, 1) := by decide +kernel
theorem dL_alike_62 : decode cL_alike 62 = .ok (.invokevirtual 182, 3) := by decide +kernel
theorem dL_alike_65 : decode cL_alike 65 = .ok (.if_icmp .ne 123, 3) := by decide +kernel
theorem dL_alike_68 : decode cL_alike 68 = .ok (.aload_n 0, 1) := by decide +kernel
theorem dL_alike_69 : decode cL_alike 69 = .ok (.iload_n 2, 1) := by decide +kernel
theorem dL_alike_70 : decode cL_alike 70 = .ok (.bipush 16, 2) := by decide +kernel
theorem dL_alike_72 : decode cL_alike 72 = .ok (.irem, 1) := by decide +kernel
theorem dL_alike_73 : decode cL_alike 73 = .ok (.invokestatic 155, 3) := by decide +kernel
theorem dL_alike_76 : decode cL_alike 76 = .ok (.aload_n 1, 1) := by decide +kernel
theorem dL_alike_77 : decode cL_alike 77 = .ok (.iload_n 2, 1) := by decide +kernel
theorem dL_alike_78 : decode cL_alike 78 = .ok (.bipush 16, 2) := by decide +kernel
theorem dL_alike_80 : decode cL_alike 80 = .ok (.irem, 1) := by decide +kernel
theorem dL_alike_81 : decode cL_alike 81 = .ok (.invokestatic 155, 3) := by decide +kernel
theorem dL_alike_84 : decode cL_alike 84 = .ok (.lcmp, 1) := by decide +kernel
theorem dL_alike_85 : decode cL_alike 85 = .ok (.ifCond .ne 103, 3) := by decide +kernel
theorem dL_alike_88 : decode cL_alike 88 = .ok (.aload_n 0, 1) := by decide +kernel
theorem dL_alike_89 : decode cL_alike 89 = .ok (.iload_n 2, 1) := by decide +kernel
theorem dL_alike_90 : decode cL_alike 90 = .ok (.bipush 16, 2) := by decide +kernel
theorem dL_alike_92 : decode cL_alike 92 = .ok (.irem, 1) := by decide +kernel
theorem dL_alike_93 : decode cL_alike 93 = .ok (.iload_n 2, 1) := by decide +kernel
theorem dL_alike_94 : decode cL_alike 94 = .ok (.sipush 1000, 3) := by decide +kernel
theorem dL_alike_97 : decode cL_alike 97 = .ok (.irem, 1) := by decide +kernel
theorem dL_alike_98 : decode cL_alike 98 = .ok (.iconst 1, 1) := by decide +kernel
theorem dL_alike_99 : decode cL_alike 99 = .ok (.iload_n 2, 1) := by decide +kernel
theorem dL_alike_100 : decode cL_alike 100 = .ok (.bipush 9, 2) := by decide +kernel
theorem dL_alike_102 : decode cL_alike 102 = .ok (.irem, 1) := by decide +kernel
theorem dL_alike_103 : decode cL_alike 103 = .ok (.iadd, 1) := by decide +kernel
theorem dL_alike_104 : decode cL_alike 104 = .ok (.invokestatic 137, 3) := by decide +kernel
theorem dL_alike_107 : decode cL_alike 107 = .ok (.aload_n 1, 1) := by decide +kernel
theorem dL_alike_108 : decode cL_alike 108 = .ok (.iload_n 2, 1) := by decide +kernel
theorem dL_alike_109 : decode cL_alike 109 = .ok (.bipush 16, 2) := by decide +kernel
theorem dL_alike_111 : decode cL_alike 111 = .ok (.irem, 1) := by decide +kernel
theorem dL_alike_112 : decode cL_alike 112 = .ok (.iload_n 2, 1) := by decide +kernel
theorem dL_alike_113 : decode cL_alike 113 = .ok (.sipush 1000, 3) := by decide +kernel
theorem dL_alike_116 : decode cL_alike 116 = .ok (.irem, 1) := by decide +kernel
theorem dL_alike_117 : decode cL_alike 117 = .ok (.iconst 1, 1) := by decide +kernel
theorem dL_alike_118 : decode cL_alike 118 = .ok (.iload_n 2, 1) := by decide +kernel
theorem dL_alike_119 : decode cL_alike 119 = .ok (.bipush 9, 2) := by decide +kernel
theorem dL_alike_121 : decode cL_alike 121 = .ok (.irem, 1) := by decide +kernel
theorem dL_alike_122 : decode cL_alike 122 = .ok (.iadd, 1) := by decide +kernel
theorem dL_alike_123 : decode cL_alike 123 = .ok (.invokestatic 137, 3) := by decide +kernel
theorem dL_alike_126 : decode cL_alike 126 = .ok (.lcmp, 1) := by decide +kernel
theorem dL_alike_127 : decode cL_alike 127 = .ok (.ifCond .ne 61, 3) := by decide +kernel
theorem dL_alike_130 : decode cL_alike 130 = .ok (.aload_n 0, 1) := by decide +kernel
theorem dL_alike_131 : decode cL_alike 131 = .ok (.iload_n 2, 1) := by decide +kernel
theorem dL_alike_132 : decode cL_alike 132 = .ok (.i2l, 1) := by decide +kernel
theorem dL_alike_133 : decode cL_alike 133 = .ok (.bipush 20, 2) := by decide +kernel
theorem dL_alike_135 : decode cL_alike 135 = .ok (.invokestatic 163, 3) := by decide +kernel
theorem dL_alike_138 : decode cL_alike 138 = .ok (.aload_n 1, 1) := by decide +kernel
theorem dL_alike_139 : decode cL_alike 139 = .ok (.iload_n 2, 1) := by decide +kernel
theorem dL_alike_140 : decode cL_alike 140 = .ok (.i2l, 1) := by decide +kernel
theorem dL_alike_141 : decode cL_alike 141 = .ok (.bipush 20, 2) := by decide +kernel
theorem dL_alike_143 : decode cL_alike 143 = .ok (.invokestatic 163, 3) := by decide +kernel
theorem dL_alike_146 : decode cL_alike 146 = .ok (.lcmp, 1) := by decide +kernel
theorem dL_alike_147 : decode cL_alike 147 = .ok (.ifCond .ne 41, 3) := by decide +kernel
theorem dL_alike_150 : decode cL_alike 150 = .ok (.aload_n 0, 1) := by decide +kernel
theorem dL_alike_151 : decode cL_alike 151 = .ok (.iconst 3, 1) := by decide +kernel
theorem dL_alike_152 : decode cL_alike 152 = .ok (.ldc2_w 206, 3) := by decide +kernel
theorem dL_alike_155 : decode cL_alike 155 = .ok (.iload_n 2, 1) := by decide +kernel
theorem dL_alike_156 : decode cL_alike 156 = .ok (.sipush 900, 3) := by decide +kernel
theorem dL_alike_159 : decode cL_alike 159 = .ok (.irem, 1) := by decide +kernel
theorem dL_alike_160 : decode cL_alike 160 = .ok (.i2l, 1) := by decide +kernel
theorem dL_alike_161 : decode cL_alike 161 = .ok (.ladd, 1) := by decide +kernel
theorem dL_alike_162 : decode cL_alike 162 = .ok (.invokestatic 157, 3) := by decide +kernel
theorem dL_alike_165 : decode cL_alike 165 = .ok (.aload_n 1, 1) := by decide +kernel
theorem dL_alike_166 : decode cL_alike 166 = .ok (.iconst 3, 1) := by decide +kernel
theorem dL_alike_167 : decode cL_alike 167 = .ok (.ldc2_w 206, 3) := by decide +kernel
theorem dL_alike_170 : decode cL_alike 170 = .ok (.iload_n 2, 1) := by decide +kernel
theorem dL_alike_171 : decode cL_alike 171 = .ok (.sipush 900, 3) := by decide +kernel
theorem dL_alike_174 : decode cL_alike 174 = .ok (.irem, 1) := by decide +kernel
theorem dL_alike_175 : decode cL_alike 175 = .ok (.i2l, 1) := by decide +kernel
theorem dL_alike_176 : decode cL_alike 176 = .ok (.ladd, 1) := by decide +kernel
theorem dL_alike_177 : decode cL_alike 177 = .ok (.invokestatic 157, 3) := by decide +kernel
theorem dL_alike_180 : decode cL_alike 180 = .ok (.lcmp, 1) := by decide +kernel
theorem dL_alike_181 : decode cL_alike 181 = .ok (.ifCond .ne 7, 3) := by decide +kernel
theorem dL_alike_184 : decode cL_alike 184 = .ok (.iconst 1, 1) := by decide +kernel
theorem dL_alike_185 : decode cL_alike 185 = .ok (.goto 4, 3) := by decide +kernel
theorem dL_alike_189 : decode cL_alike 189 = .ok (.ireturn, 1) := by decide +kernel
set_option maxHeartbeats 8000000 in
set_option maxRecDepth 100000 in
theorem c_alike (l : Launch) (hst : l.stackTraces = false) (D : va_G) (cI cL cZ : ClassId) (Gs : Nat → Geo) (hG : GeoOk (Gs 0)) (hG1 : GeoOk (Gs 1)) (a : AS) (hGo : Go a) (x : Nat) (hx9 : x < 2 ^ 31) : LZ l yL_alike cL_alike 3 9 222 420 2520 D cI cL cZ Gs [a, a] [.ref ((Gs 0).1 1), .ref ((Gs 1).1 1), .int (nI (x))] 1 [a, a] := by
  refine lz_of (by decide) rfl (Nat.le_of_ble_eq_true rfl) ?_
  intro p e s m below meth c ls H A hF hr hlocks hw hl
  have hx := hF.1.1
  have hb := hF.1.2.1
  have hown := hF.1.2.2.2.1
  have hts := hF.1.2.2.2.2
  have hl : lv_has ls 3 [(0, .ref ((Gs 0).1 1)), (1, .ref ((Gs 1).1 1)), (2, .int (nI (x)))] := hl
  refine W.widen (k := 0) (n := 6 * 0) (Nat.le_refl _) (Nat.le_refl _) ?_
  refine lv_aload_n hx hb dL_alike_0 rfl (lv_at hl 0 rfl) ?_
  refine lo_callJ hF (c_now l hst D cI cL cZ (fun _ => Gs 0) hG a hGo ) k_now ⟨Nat.le_of_ble_eq_true rfl, Nat.le_of_ble_eq_true rfl⟩ hw [0] (by decide) rfl (hg_one rfl) rfl hl.1 rfl (Nat.le_of_ble_eq_true rfl) dL_alike_1 ⟨by show _ ≤ (420 : Nat); omega, by show _ ≤ (2520 : Nat); omega⟩ (fun H locs hw => ?_)
  have hw : LO D cI cL cZ A s Gs [a, a] H locs := hw
  refine W.widen (k := 0 + 200) (n := 6 * (0 + 200)) (Nat.le_refl _) (by omega) ?_
  refine lv_aload_n hx hb dL_alike_4 rfl (lv_at hl 1 rfl) ?_
  refine lo_callJ hF (c_now l hst D cI cL cZ (fun _ => Gs 1) hG1 a hGo ) k_now ⟨Nat.le_of_ble_eq_true rfl, Nat.le_of_ble_eq_true rfl⟩ hw [1] (by decide) rfl (hg_one rfl) rfl hl.1 rfl (Nat.le_of_ble_eq_true rfl) dL_alike_5 ⟨by show _ ≤ (420 : Nat); omega, by show _ ≤ (2520 : Nat); omega⟩ (fun H locs hw => ?_)
  have hw : LO D cI cL cZ A s Gs [a, a] H locs := hw
  refine W.widen (k := 0 + 200 + 200) (n := 6 * (0 + 200 + 200)) (Nat.le_refl _) (by omega) ?_
  refine W.lcmp hx hb dL_alike_8 ?_
  refine lv_if_ne (tgt := 188) hx hb dL_alike_9 (by decide) (fun c9 => ?_) (fun c9 => ?_)
  · skip
    exact (c9 ((lg_cmp_eq _ _).mpr rfl)).elim
  · skip
    have c9 := (lg_cmp_eq _ _).mp c9
    refine lv_aload_n hx hb dL_alike_12 rfl (lv_at hl 0 rfl) ?_
    refine lo_callV (i := 0) hF (x_errorPosition (Gs := fun _ => Gs 0) hGo) k_errorPosition ⟨Nat.le_of_ble_eq_true rfl, Nat.le_of_ble_eq_true rfl⟩ hw rfl rfl rfl hl.1 rfl (Nat.le_of_ble_eq_true rfl) dL_alike_13 ⟨by show _ ≤ (420 : Nat); omega, by show _ ≤ (2520 : Nat); omega⟩ (fun H locs hw => ?_)
    have hw : LO D cI cL cZ A s Gs [a, a] H locs := hw
    refine lv_aload_n hx hb dL_alike_16 rfl (lv_at hl 1 rfl) ?_
    refine lo_callV (i := 1) hF (x_errorPosition (Gs := fun _ => Gs 1) hGo) k_errorPosition ⟨Nat.le_of_ble_eq_true rfl, Nat.le_of_ble_eq_true rfl⟩ hw rfl rfl rfl hl.1 rfl (Nat.le_of_ble_eq_true rfl) dL_alike_17 ⟨by show _ ≤ (420 : Nat); omega, by show _ ≤ (2520 : Nat); omega⟩ (fun H locs hw => ?_)
    have hw : LO D cI cL cZ A s Gs [a, a] H locs := hw
    refine lv_icmp_ne (tgt := 188) hx hb dL_alike_20 (by decide) (fun c20 => ?_) (fun c20 => ?_)
    · skip
      exact (c20 rfl).elim
    · skip
      refine lv_aload_n hx hb dL_alike_23 rfl (lv_at hl 0 rfl) ?_
      refine lo_callV (i := 0) hF (x_victim (Gs := fun _ => Gs 0) hGo) k_victim ⟨Nat.le_of_ble_eq_true rfl, Nat.le_of_ble_eq_true rfl⟩ hw rfl rfl rfl hl.1 rfl (Nat.le_of_ble_eq_true rfl) dL_alike_24 ⟨by show _ ≤ (420 : Nat); omega, by show _ ≤ (2520 : Nat); omega⟩ (fun H locs hw => ?_)
      have hw : LO D cI cL cZ A s Gs [a, a] H locs := hw
      refine lv_aload_n hx hb dL_alike_27 rfl (lv_at hl 1 rfl) ?_
      refine lo_callV (i := 1) hF (x_victim (Gs := fun _ => Gs 1) hGo) k_victim ⟨Nat.le_of_ble_eq_true rfl, Nat.le_of_ble_eq_true rfl⟩ hw rfl rfl rfl hl.1 rfl (Nat.le_of_ble_eq_true rfl) dL_alike_28 ⟨by show _ ≤ (420 : Nat); omega, by show _ ≤ (2520 : Nat); omega⟩ (fun H locs hw => ?_)
      have hw : LO D cI cL cZ A s Gs [a, a] H locs := hw
      refine lv_icmp_ne (tgt := 188) hx hb dL_alike_31 (by decide) (fun c31 => ?_) (fun c31 => ?_)
      · skip
        exact (c31 rfl).elim
      · skip
        refine lv_aload_n hx hb dL_alike_34 rfl (lv_at hl 0 rfl) ?_
        refine lo_callV (i := 0) hF (x_whyNoRoom (Gs := fun _ => Gs 0) hGo) k_whyNoRoom ⟨Nat.le_of_ble_eq_true rfl, Nat.le_of_ble_eq_true rfl⟩ hw rfl rfl rfl hl.1 rfl (Nat.le_of_ble_eq_true rfl) dL_alike_35 ⟨by show _ ≤ (420 : Nat); omega, by show _ ≤ (2520 : Nat); omega⟩ (fun H locs hw => ?_)
        have hw : LO D cI cL cZ A s Gs [a, a] H locs := hw
        refine lv_aload_n hx hb dL_alike_38 rfl (lv_at hl 1 rfl) ?_
        refine lo_callV (i := 1) hF (x_whyNoRoom (Gs := fun _ => Gs 1) hGo) k_whyNoRoom ⟨Nat.le_of_ble_eq_true rfl, Nat.le_of_ble_eq_true rfl⟩ hw rfl rfl rfl hl.1 rfl (Nat.le_of_ble_eq_true rfl) dL_alike_39 ⟨by show _ ≤ (420 : Nat); omega, by show _ ≤ (2520 : Nat); omega⟩ (fun H locs hw => ?_)
        have hw : LO D cI cL cZ A s Gs [a, a] H locs := hw
        refine lv_icmp_ne (tgt := 188) hx hb dL_alike_42 (by decide) (fun c42 => ?_) (fun c42 => ?_)
        · skip
          exact (c42 rfl).elim
        · skip
          refine lv_aload_n hx hb dL_alike_45 rfl (lv_at hl 0 rfl) ?_
          refine lo_callX hF (x_operations (Gs := fun _ => Gs 0) hst hG hGo ) k_operations ⟨Nat.le_of_ble_eq_true rfl, Nat.le_of_ble_eq_true rfl⟩ hw [0] (by decide) rfl (hg_one rfl) rfl hl.1 rfl (Nat.le_of_ble_eq_true rfl) dL_alike_46 ⟨by show _ ≤ (420 : Nat); omega, by show _ ≤ (2520 : Nat); omega⟩ (fun H locs hw => ?_)
          have hw : LO D cI cL cZ A s Gs [a, a] H locs := hw
          refine W.widen (k := 0 + 200 + 200 + 1) (n := 6 * (0 + 200 + 200 + 1)) (Nat.le_refl _) (by omega) ?_
          refine lv_aload_n hx hb dL_alike_49 rfl (lv_at hl 1 rfl) ?_
          refine lo_callX hF (x_operations (Gs := fun _ => Gs 1) hst hG1 hGo ) k_operations ⟨Nat.le_of_ble_eq_true rfl, Nat.le_of_ble_eq_true rfl⟩ hw [1] (by decide) rfl (hg_one rfl) rfl hl.1 rfl (Nat.le_of_ble_eq_true rfl) dL_alike_50 ⟨by show _ ≤ (420 : Nat); omega, by show _ ≤ (2520 : Nat); omega⟩ (fun H locs hw => ?_)
          have hw : LO D cI cL cZ A s Gs [a, a] H locs := hw
          refine W.widen (k := 0 + 200 + 200 + 1 + 1) (n := 6 * (0 + 200 + 200 + 1 + 1)) (Nat.le_refl _) (by omega) ?_
          refine W.lcmp hx hb dL_alike_53 ?_
          refine lv_if_ne (tgt := 188) hx hb dL_alike_54 (by decide) (fun c54 => ?_) (fun c54 => ?_)
          · skip
            exact (c54 ((lg_cmp_eq _ _).mpr rfl)).elim
          · skip
            have c54 := (lg_cmp_eq _ _).mp c54
            refine lv_aload_n hx hb dL_alike_57 rfl (lv_at hl 0 rfl) ?_
            refine lo_callV (i := 0) hF (x_oldest (Gs := fun _ => Gs 0) hGo) k_oldest ⟨Nat.le_of_ble_eq_true rfl, Nat.le_of_ble_eq_true rfl⟩ hw rfl rfl rfl hl.1 rfl (Nat.le_of_ble_eq_true rfl) dL_alike_58 ⟨by show _ ≤ (420 : Nat); omega, by show _ ≤ (2520 : Nat); omega⟩ (fun H locs hw => ?_)
            have hw : LO D cI cL cZ A s Gs [a, a] H locs := hw
            refine lv_aload_n hx hb dL_alike_61 rfl (lv_at hl 1 rfl) ?_
            refine lo_callV (i := 1) hF (x_oldest (Gs := fun _ => Gs 1) hGo) k_oldest ⟨Nat.le_of_ble_eq_true rfl, Nat.le_of_ble_eq_true rfl⟩ hw rfl rfl rfl hl.1 rfl (Nat.le_of_ble_eq_true rfl) dL_alike_62 ⟨by show _ ≤ (420 : Nat); omega, by show _ ≤ (2520 : Nat); omega⟩ (fun H locs hw => ?_)
            have hw : LO D cI cL cZ A s Gs [a, a] H locs := hw
            refine lv_icmp_ne (tgt := 188) hx hb dL_alike_65 (by decide) (fun c65 => ?_) (fun c65 => ?_)
            · skip
              exact (c65 rfl).elim
            · skip
              refine lv_aload_n hx hb dL_alike_68 rfl (lv_at hl 0 rfl) ?_
              refine lv_iload_n hx hb dL_alike_69 rfl (lv_at hl 2 rfl) ?_
              refine lv_bipush (v := 16) hx hb dL_alike_70 (by decide) ?_
              refine lv_irem hx hb dL_alike_72 (by decide) ?_
              refine lv_as (y := nI (x % 16)) (pk_rem (a := x) (d := 16) (by omega) (by decide) (by decide)) ?_
              refine lo_callX hF (x_lasts (Gs := fun _ => Gs 0) hst hG hGo (nI (x % 16))) k_lasts ⟨Nat.le_of_ble_eq_true rfl, Nat.le_of_ble_eq_true rfl⟩ hw [0] (by decide) rfl (hg_one rfl) rfl hl.1 rfl (Nat.le_of_ble_eq_true rfl) dL_alike_73 ⟨by show _ ≤ (420 : Nat); omega, by show _ ≤ (2520 : Nat); omega⟩ (fun H locs hw => ?_)
              have hw : LO D cI cL cZ A s Gs [a, a] H locs := hw
              refine W.widen (k := 0 + 200 + 200 + 1 + 1 + 1) (n := 6 * (0 + 200 + 200 + 1 + 1 + 1)) (Nat.le_refl _) (by omega) ?_
              refine lv_aload_n hx hb dL_alike_76 rfl (lv_at hl 1 rfl) ?_
              refine lv_iload_n hx hb dL_alike_77 rfl (lv_at hl 2 rfl) ?_
              refine lv_bipush (v := 16) hx hb dL_alike_78 (by decide) ?_
              refine lv_irem hx hb dL_alike_80 (by decide) ?_
              refine lv_as (y := nI (x % 16)) (pk_rem (a := x) (d := 16) (by omega) (by decide) (by decide)) ?_
              refine lo_callX hF (x_lasts (Gs := fun _ => Gs 1) hst hG1 hGo (nI (x % 16))) k_lasts ⟨Nat.le_of_ble_eq_true rfl, Nat.le_of_ble_eq_true rfl⟩ hw [1] (by decide) rfl (hg_one rfl) rfl hl.1 rfl (Nat.le_of_ble_eq_true rfl) dL_alike_81 ⟨by show _ ≤ (420 : Nat); omega, by show _ ≤ (2520 : Nat); omega⟩ (fun H locs hw => ?_)
              have hw : LO D cI cL cZ A s Gs [a, a] H locs := hw
              refine W.widen (k := 0 + 200 + 200 + 1 + 1 + 1 + 1) (n := 6 * (0 + 200 + 200 + 1 + 1 + 1 + 1)) (Nat.le_refl _) (by omega) ?_
              refine W.lcmp hx hb dL_alike_84 ?_
              refine lv_if_ne (tgt := 188) hx hb dL_alike_85 (by decide) (fun c85 => ?_) (fun c85 => ?_)
              · skip
                exact (c85 ((lg_cmp_eq _ _).mpr rfl)).elim
              · skip
                have c85 := (lg_cmp_eq _ _).mp c85
                refine lv_aload_n hx hb dL_alike_88 rfl (lv_at hl 0 rfl) ?_
                refine lv_iload_n hx hb dL_alike_89 rfl (lv_at hl 2 rfl) ?_
                refine lv_bipush (v := 16) hx hb dL_alike_90 (by decide) ?_
                refine lv_irem hx hb dL_alike_92 (by decide) ?_
                refine lv_as (y := nI (x % 16)) (pk_rem (a := x) (d := 16) (by omega) (by decide) (by decide)) ?_
                refine lv_iload_n hx hb dL_alike_93 rfl (lv_at hl 2 rfl) ?_
                refine lv_sipush (v := 1000) hx hb dL_alike_94 (by decide) ?_
                refine lv_irem hx hb dL_alike_97 (by decide) ?_
                refine lv_as (y := nI (x % 1000)) (pk_rem (a := x) (d := 1000) (by omega) (by decide) (by decide)) ?_
                refine lv_iconst (v := 1) hx hb dL_alike_98 (by decide) ?_
                refine lv_iload_n hx hb dL_alike_99 rfl (lv_at hl 2 rfl) ?_
                refine lv_bipush (v := 9) hx hb dL_alike_100 (by decide) ?_
                refine lv_irem hx hb dL_alike_102 (by decide) ?_
                refine lv_as (y := nI (x % 9)) (pk_rem (a := x) (d := 9) (by omega) (by decide) (by decide)) ?_
                refine lv_iadd hx hb dL_alike_103 ?_
                refine lv_as (y := nI (1 + x % 9)) (nI_add (1) (x % 9)) ?_
                refine lo_callX hF (x_afterCut (Gs := fun _ => Gs 0) hst hG hGo (nI (x % 16)) (nI (x % 1000)) (nI (1 + x % 9))) k_afterCut ⟨Nat.le_of_ble_eq_true rfl, Nat.le_of_ble_eq_true rfl⟩ hw [0] (by decide) rfl (hg_one rfl) rfl hl.1 rfl (Nat.le_of_ble_eq_true rfl) dL_alike_104 ⟨by show _ ≤ (420 : Nat); omega, by show _ ≤ (2520 : Nat); omega⟩ (fun H locs hw => ?_)
                have hw : LO D cI cL cZ A s Gs [a, a] H locs := hw
                refine W.widen (k := 0 + 200 + 200 + 1 + 1 + 1 + 1 + 1) (n := 6 * (0 + 200 + 200 + 1 + 1 + 1 + 1 + 1)) (Nat.le_refl _) (by omega) ?_
                refine lv_aload_n hx hb dL_alike_107 rfl (lv_at hl 1 rfl) ?_
                refine lv_iload_n hx hb dL_alike_108 rfl (lv_at hl 2 rfl) ?_
                refine lv_bipush (v := 16) hx hb dL_alike_109 (by decide) ?_
                refine lv_irem hx hb dL_alike_111 (by decide) ?_
                refine lv_as (y := nI (x % 16)) (pk_rem (a := x) (d := 16) (by omega) (by decide) (by decide)) ?_
                refine lv_iload_n hx hb dL_alike_112 rfl (lv_at hl 2 rfl) ?_
                refine lv_sipush (v := 1000) hx hb dL_alike_113 (by decide) ?_
                refine lv_irem hx hb dL_alike_116 (by decide) ?_
                refine lv_as (y := nI (x % 1000)) (pk_rem (a := x) (d := 1000) (by omega) (by decide) (by decide)) ?_
                refine lv_iconst (v := 1) hx hb dL_alike_117 (by decide) ?_
                refine lv_iload_n hx hb dL_alike_118 rfl (lv_at hl 2 rfl) ?_
                refine lv_bipush (v := 9) hx hb dL_alike_119 (by decide) ?_
                refine lv_irem hx hb dL_alike_121 (by decide) ?_
                refine lv_as (y := nI (x % 9)) (pk_rem (a := x) (d := 9) (by omega) (by decide) (by decide)) ?_
                refine lv_iadd hx hb dL_alike_122 ?_
                refine lv_as (y := nI (1 + x % 9)) (nI_add (1) (x % 9)) ?_
                refine lo_callX hF (x_afterCut (Gs := fun _ => Gs 1) hst hG1 hGo (nI (x % 16)) (nI (x % 1000)) (nI (1 + x % 9))) k_afterCut ⟨Nat.le_of_ble_eq_true rfl, Nat.le_of_ble_eq_true rfl⟩ hw [1] (by decide) rfl (hg_one rfl) rfl hl.1 rfl (Nat.le_of_ble_eq_true rfl) dL_alike_123 ⟨by show _ ≤ (420 : Nat); omega, by show _ ≤ (2520 : Nat); omega⟩ (fun H locs hw => ?_)
                have hw : LO D cI cL cZ A s Gs [a, a] H locs := hw
                refine W.widen (k := 0 + 200 + 200 + 1 + 1 + 1 + 1 + 1 + 1) (n := 6 * (0 + 200 + 200 + 1 + 1 + 1 + 1 + 1 + 1)) (Nat.le_refl _) (by omega) ?_
                refine W.lcmp hx hb dL_alike_126 ?_
                refine lv_if_ne (tgt := 188) hx hb dL_alike_127 (by decide) (fun c127 => ?_) (fun c127 => ?_)
                · skip
                  exact (c127 ((lg_cmp_eq _ _).mpr rfl)).elim
                · skip
                  have c127 := (lg_cmp_eq _ _).mp c127
                  refine lv_aload_n hx hb dL_alike_130 rfl (lv_at hl 0 rfl) ?_
                  refine lv_iload_n hx hb dL_alike_131 rfl (lv_at hl 2 rfl) ?_
                  refine lv_i2l (v := (nI (x) : Int32).toInt64) hx hb dL_alike_132 rfl ?_
                  refine lv_bipush (v := 20) hx hb dL_alike_133 (by decide) ?_
                  refine lo_callX hF (x_simulate (Gs := fun _ => Gs 0) hst hG hGo ((nI (x) : Int32).toInt64) 20) k_simulate ⟨Nat.le_of_ble_eq_true rfl, Nat.le_of_ble_eq_true rfl⟩ hw [0] (by decide) rfl (hg_one rfl) rfl hl.1 rfl (Nat.le_of_ble_eq_true rfl) dL_alike_135 ⟨by show _ ≤ (420 : Nat); omega, by show _ ≤ (2520 : Nat); omega⟩ (fun H locs hw => ?_)
                  have hw : LO D cI cL cZ A s Gs [a, a] H locs := hw
                  refine W.widen (k := 0 + 200 + 200 + 1 + 1 + 1 + 1 + 1 + 1 + 1) (n := 6 * (0 + 200 + 200 + 1 + 1 + 1 + 1 + 1 + 1 + 1)) (Nat.le_refl _) (by omega) ?_
                  refine lv_aload_n hx hb dL_alike_138 rfl (lv_at hl 1 rfl) ?_
                  refine lv_iload_n hx hb dL_alike_139 rfl (lv_at hl 2 rfl) ?_
                  refine lv_i2l (v := (nI (x) : Int32).toInt64) hx hb dL_alike_140 rfl ?_
                  refine lv_bipush (v := 20) hx hb dL_alike_141 (by decide) ?_
                  refine lo_callX hF (x_simulate (Gs := fun _ => Gs 1) hst hG1 hGo ((nI (x) : Int32).toInt64) 20) k_simulate ⟨Nat.le_of_ble_eq_true rfl, Nat.le_of_ble_eq_true rfl⟩ hw [1] (by decide) rfl (hg_one rfl) rfl hl.1 rfl (Nat.le_of_ble_eq_true rfl) dL_alike_143 ⟨by show _ ≤ (420 : Nat); omega, by show _ ≤ (2520 : Nat); omega⟩ (fun H locs hw => ?_)
                  have hw : LO D cI cL cZ A s Gs [a, a] H locs := hw
                  refine W.widen (k := 0 + 200 + 200 + 1 + 1 + 1 + 1 + 1 + 1 + 1 + 1) (n := 6 * (0 + 200 + 200 + 1 + 1 + 1 + 1 + 1 + 1 + 1 + 1)) (Nat.le_refl _) (by omega) ?_
                  refine W.lcmp hx hb dL_alike_146 ?_
                  refine lv_if_ne (tgt := 188) hx hb dL_alike_147 (by decide) (fun c147 => ?_) (fun c147 => ?_)
                  · skip
                    exact (c147 ((lg_cmp_eq _ _).mpr rfl)).elim
                  · skip
                    have c147 := (lg_cmp_eq _ _).mp c147
                    refine lv_aload_n hx hb dL_alike_150 rfl (lv_at hl 0 rfl) ?_
                    refine lv_iconst (v := 3) hx hb dL_alike_151 (by decide) ?_
                    refine lv_ldc2 (v := 400210003000) hx hb hown (hts _ (mlA 207 rfl)) dL_alike_152 ?_
                    refine lv_iload_n hx hb dL_alike_155 rfl (lv_at hl 2 rfl) ?_
                    refine lv_sipush (v := 900) hx hb dL_alike_156 (by decide) ?_
                    refine lv_irem hx hb dL_alike_159 (by decide) ?_
                    refine lv_as (y := nI (x % 900)) (pk_rem (a := x) (d := 900) (by omega) (by decide) (by decide)) ?_
                    refine lv_i2l (v := (nI (x % 900) : Int32).toInt64) hx hb dL_alike_160 rfl ?_
                    refine lv_ladd hx hb dL_alike_161 ?_
                    refine lo_callX hF (x_script (Gs := fun _ => Gs 0) hst hG hGo 3 (400210003000 + ((nI (x % 900) : Int32).toInt64))) k_script ⟨Nat.le_of_ble_eq_true rfl, Nat.le_of_ble_eq_true rfl⟩ hw [0] (by decide) rfl (hg_one rfl) rfl hl.1 rfl (Nat.le_of_ble_eq_true rfl) dL_alike_162 ⟨by show _ ≤ (420 : Nat); omega, by show _ ≤ (2520 : Nat); omega⟩ (fun H locs hw => ?_)
                    have hw : LO D cI cL cZ A s Gs [a, a] H locs := hw
                    refine W.widen (k := 0 + 200 + 200 + 1 + 1 + 1 + 1 + 1 + 1 + 1 + 1 + 1) (n := 6 * (0 + 200 + 200 + 1 + 1 + 1 + 1 + 1 + 1 + 1 + 1 + 1)) (Nat.le_refl _) (by omega) ?_
                    refine lv_aload_n hx hb dL_alike_165 rfl (lv_at hl 1 rfl) ?_
                    refine lv_iconst (v := 3) hx hb dL_alike_166 (by decide) ?_
                    refine lv_ldc2 (v := 400210003000) hx hb hown (hts _ (mlA 207 rfl)) dL_alike_167 ?_
                    refine lv_iload_n hx hb dL_alike_170 rfl (lv_at hl 2 rfl) ?_
                    refine lv_sipush (v := 900) hx hb dL_alike_171 (by decide) ?_
                    refine lv_irem hx hb dL_alike_174 (by decide) ?_
                    refine lv_as (y := nI (x % 900)) (pk_rem (a := x) (d := 900) (by omega) (by decide) (by decide)) ?_
                    refine lv_i2l (v := (nI (x % 900) : Int32).toInt64) hx hb dL_alike_175 rfl ?_
                    refine lv_ladd hx hb dL_alike_176 ?_
                    refine lo_callX hF (x_script (Gs := fun _ => Gs 1) hst hG1 hGo 3 (400210003000 + ((nI (x % 900) : Int32).toInt64))) k_script ⟨Nat.le_of_ble_eq_true rfl, Nat.le_of_ble_eq_true rfl⟩ hw [1] (by decide) rfl (hg_one rfl) rfl hl.1 rfl (Nat.le_of_ble_eq_true rfl) dL_alike_177 ⟨by show _ ≤ (420 : Nat); omega, by show _ ≤ (2520 : Nat); omega⟩ (fun H locs hw => ?_)
                    have hw : LO D cI cL cZ A s Gs [a, a] H locs := hw
                    refine W.widen (k := 0 + 200 + 200 + 1 + 1 + 1 + 1 + 1 + 1 + 1 + 1 + 1 + 1) (n := 6 * (0 + 200 + 200 + 1 + 1 + 1 + 1 + 1 + 1 + 1 + 1 + 1 + 1)) (Nat.le_refl _) (by omega) ?_
                    refine W.lcmp hx hb dL_alike_180 ?_
                    refine lv_if_ne (tgt := 188) hx hb dL_alike_181 (by decide) (fun c181 => ?_) (fun c181 => ?_)
                    · skip
                      exact (c181 ((lg_cmp_eq _ _).mpr rfl)).elim
                    · skip
                      have c181 := (lg_cmp_eq _ _).mp c181
                      refine lv_iconst (v := 1) hx hb dL_alike_184 (by decide) ?_
                      refine lv_goto (tgt := 189) hx hb dL_alike_185 (by decide) ?_
                      exact lo_retz hF hr hlocks hw (rfl) (rfl) (by omega) (by omega) dL_alike_189
theorem dL_types_0 : decode cL_types 0 = .ok (.iconst 1, 1) := by decide +kernel
theorem dL_types_1 : decode cL_types 1 = .ok (.istore_n 3, 1) := by decide +kernel
theorem dL_types_2 : decode cL_types 2 = .ok (.iload_n 2, 1) := by decide +kernel
theorem dL_types_3 : decode cL_types 3 = .ok (.iconst 3, 1) := by decide +kernel
theorem dL_types_4 : decode cL_types 4 = .ok (.if_icmp .ne 8, 3) := by decide +kernel
theorem dL_types_12 : decode cL_types 12 = .ok (.iload_n 2, 1) := by decide +kernel
theorem dL_types_13 : decode cL_types 13 = .ok (.iconst 2, 1) := by decide +kernel
theorem dL_types_14 : decode cL_types 14 = .ok (.if_icmp .ne 8, 3) := by decide +kernel
theorem dL_types_22 : decode cL_types 22 = .ok (.iconst 1, 1) := by decide +kernel
theorem dL_types_23 : decode cL_types 23 = .ok (.istore 4, 2) := by decide +kernel
theorem dL_types_25 : decode cL_types 25 = .ok (.iload 4, 2) := by decide +kernel
theorem dL_types_27 : decode cL_types 27 = .ok (.ifCond .le 42, 3) := by decide +kernel
theorem dL_types_30 : decode cL_types 30 = .ok (.iload_n 3, 1) := by decide +kernel
theorem dL_types_31 : decode cL_types 31 = .ok (.ifCond .eq 38, 3) := by decide +kernel
theorem dL_types_34 : decode cL_types 34 = .ok (.aload_n 0, 1) := by decide +kernel
theorem dL_types_35 : decode cL_types 35 = .ok (.bipush 48, 2) := by decide +kernel
theorem dL_types_37 : decode cL_types 37 = .ok (.iload_n 1, 1) := by decide +kernel
theorem dL_types_38 : decode cL_types 38 = .ok (.iload 4, 2) := by decide +kernel
theorem dL_types_40 : decode cL_types 40 = .ok (.idiv, 1) := by decide +kernel
theorem dL_types_41 : decode cL_types 41 = .ok (.bipush 10, 2) := by decide +kernel
theorem dL_types_43 : decode cL_types 43 = .ok (.irem, 1) := by decide +kernel
theorem dL_types_44 : decode cL_types 44 = .ok (.iadd, 1) := by decide +kernel
theorem dL_types_45 : decode cL_types 45 = .ok (.invokestatic 170, 3) := by decide +kernel
theorem dL_types_48 : decode cL_types 48 = .ok (.lconst 0, 1) := by decide +kernel
theorem dL_types_49 : decode cL_types 49 = .ok (.lcmp, 1) := by decide +kernel
theorem dL_types_50 : decode cL_types 50 = .ok (.ifCond .le 7, 3) := by decide +kernel
theorem dL_types_53 : decode cL_types 53 = .ok (.iconst 1, 1) := by decide +kernel
theorem dL_types_54 : decode cL_types 54 = .ok (.goto 4, 3) := by decide +kernel
theorem dL_types_58 : decode cL_types 58 = .ok (.istore_n 3, 1) := by decide +kernel
theorem dL_types_59 : decode cL_types 59 = .ok (.iload 4, 2) := by decide +kernel
theorem dL_types_61 : decode cL_types 61 = .ok (.bipush 10, 2) := by decide +kernel
theorem dL_types_63 : decode cL_types 63 = .ok (.idiv, 1) := by decide +kernel
theorem dL_types_64 : decode cL_types 64 = .ok (.istore 4, 2) := by decide +kernel
theorem dL_types_66 : decode cL_types 66 = .ok (.goto (-41), 3) := by decide +kernel
theorem dL_types_69 : decode cL_types 69 = .ok (.iload_n 3, 1) := by decide +kernel
theorem dL_types_70 : decode cL_types 70 = .ok (.ireturn, 1) := by decide +kernel
set_option maxHeartbeats 8000000 in
set_option maxRecDepth 100000 in
theorem c_types1 (l : Launch) (hst : l.stackTraces = false) (D : va_G) (cI cL cZ : ClassId) (Gs : Nat → Geo) (hG : GeoOk (Gs 0)) (a : AS) (hGo : Go a) (v : Nat) (hv : v < 1000) (hn : a.1.2 + 1 ≤ 90) : LZ l yL_types cL_types 5 8 133 3 18 D cI cL cZ Gs [a] [.ref ((Gs 0).1 1), .int (nI (v)), .int (1)] 1 [tyA a (48 + v / 1 % 10)] := by
  refine lz_of (by decide) rfl (Nat.le_of_ble_eq_true rfl) ?_
  intro p e s m below meth c ls H A hF hr hlocks hw hl
  have hx := hF.1.1
  have hb := hF.1.2.1
  have hown := hF.1.2.2.2.1
  have hts := hF.1.2.2.2.2
  have hl : lv_has ls 5 [(0, .ref ((Gs 0).1 1)), (1, .int (nI (v))), (2, .int (1))] := hl
  refine W.widen (k := 0) (n := 6 * 0) (Nat.le_refl _) (Nat.le_refl _) ?_
  refine lv_iconst (v := 1) hx hb dL_types_0 (by decide) ?_
  refine lv_istore_n (lv' := [(3, .int (1)), (0, .ref ((Gs 0).1 1)), (1, .int (nI (v))), (2, .int (1))]) hx hb dL_types_1 rfl hl (by decide) rfl (fun ls hl => ?_)
  refine lv_iload_n hx hb dL_types_2 rfl (lv_at hl 3 rfl) ?_
  refine lv_iconst (v := 3) hx hb dL_types_3 (by decide) ?_
  refine lv_icmp_ne (tgt := 12) hx hb dL_types_4 (by decide) (fun c4 => ?_) (fun c4 => ?_)
  · skip
    refine lv_iload_n hx hb dL_types_12 rfl (lv_at hl 3 rfl) ?_
    refine lv_iconst (v := 2) hx hb dL_types_13 (by decide) ?_
    refine lv_icmp_ne (tgt := 22) hx hb dL_types_14 (by decide) (fun c14 => ?_) (fun c14 => ?_)
    · skip
      refine lv_iconst (v := 1) hx hb dL_types_22 (by decide) ?_
      refine lv_istore (lv' := [(4, .int (1)), (3, .int (1)), (0, .ref ((Gs 0).1 1)), (1, .int (nI (v))), (2, .int (1))]) hx hb dL_types_23 hl (by decide) rfl (fun ls hl => ?_)
      refine lv_iload hx hb dL_types_25 (lv_at hl 0 rfl) ?_
      refine lv_if_le (tgt := 69) hx hb dL_types_27 (by decide) (fun c27 => ?_) (fun c27 => ?_)
      · skip
        exact absurd c27 (by decide)
      · skip
        refine lv_iload_n hx hb dL_types_30 rfl (lv_at hl 1 rfl) ?_
        refine lv_if_eq (tgt := 69) hx hb dL_types_31 (by decide) (fun c31 => ?_) (fun c31 => ?_)
        · skip
          exact absurd c31 (by decide)
        · skip
          refine lv_aload_n hx hb dL_types_34 rfl (lv_at hl 2 rfl) ?_
          refine lv_bipush (v := 48) hx hb dL_types_35 (by decide) ?_
          refine lv_iload_n hx hb dL_types_37 rfl (lv_at hl 3 rfl) ?_
          refine lv_iload hx hb dL_types_38 (lv_at hl 0 rfl) ?_
          refine lv_idiv hx hb dL_types_40 (by decide) ?_
          refine lv_as (y := nI (v / 1)) (pk_div (a := v) (d := 1) (by omega) (by decide) (by decide)) ?_
          refine lv_bipush (v := 10) hx hb dL_types_41 (by decide) ?_
          refine lv_irem hx hb dL_types_43 (by decide) ?_
          refine lv_as (y := nI ((v / 1) % 10)) (pk_rem (a := v / 1) (d := 10) (by omega) (by decide) (by decide)) ?_
          refine lv_iadd hx hb dL_types_44 ?_
          refine lv_as (y := nI (48 + (v / 1) % 10)) (nI_add (48) ((v / 1) % 10)) ?_
          refine lo_callX hF (lx_eq (x_append (Gs := fun _ => Gs 0) hst hG hGo (nI (48 + (v / 1) % 10))) (show _ = ((nI (a.1.2 + 1)).toInt64) from (tyA_ap (c := 48 + (v / 1) % 10) (by show _ < 90; first | omega | (simp only [tyA]; omega)) (by omega)).1) (show _ = [tyA a (48 + (v / 1) % 10)] from congrArg (fun y => [y]) (tyA_ap (c := 48 + (v / 1) % 10) (by show _ < 90; first | omega | (simp only [tyA]; omega)) (by omega)).2)) k_append ⟨Nat.le_of_ble_eq_true rfl, Nat.le_of_ble_eq_true rfl⟩ hw [0] (by decide) rfl (hg_one rfl) rfl hl.1 rfl (Nat.le_of_ble_eq_true rfl) dL_types_45 ⟨by show _ ≤ (3 : Nat); omega, by show _ ≤ (18 : Nat); omega⟩ (fun H locs hw => ?_)
          have hw : LO D cI cL cZ A s Gs [tyA a (48 + (v / 1) % 10)] H locs := hw
          refine W.widen (k := 0 + 1) (n := 6 * (0 + 1)) (Nat.le_refl _) (by omega) ?_
          refine lv_lconst (v := 0) hx hb dL_types_48 (by decide) ?_
          refine W.lcmp hx hb dL_types_49 ?_
          refine lv_if_le (tgt := 57) hx hb dL_types_50 (by decide) (fun c50 => ?_) (fun c50 => ?_)
          · skip
            have c50 := (lg_cmp_le _ _).mp c50
            exact absurd c50 (jl_pos (by show _ + 1 < _; first | omega | (simp only [tyA]; omega)))
          · skip
            have c50 := (fun z => c50 ((lg_cmp_le _ _).mpr z))
            refine lv_iconst (v := 1) hx hb dL_types_53 (by decide) ?_
            refine lv_goto (tgt := 58) hx hb dL_types_54 (by decide) ?_
            refine lv_istore_n (lv' := [(3, .int (1)), (4, .int (1)), (0, .ref ((Gs 0).1 1)), (1, .int (nI (v))), (2, .int (1))]) hx hb dL_types_58 rfl hl (by decide) rfl (fun ls hl => ?_)
            refine lv_iload hx hb dL_types_59 (lv_at hl 1 rfl) ?_
            refine lv_bipush (v := 10) hx hb dL_types_61 (by decide) ?_
            refine lv_idiv hx hb dL_types_63 (by decide) ?_
            refine lv_as (y := 0) (by decide) ?_
            refine lv_istore (lv' := [(4, .int (0)), (3, .int (1)), (0, .ref ((Gs 0).1 1)), (1, .int (nI (v))), (2, .int (1))]) hx hb dL_types_64 hl (by decide) rfl (fun ls hl => ?_)
            refine lv_goto (tgt := 25) hx hb dL_types_66 (by decide) ?_
            refine lv_iload hx hb dL_types_25 (lv_at hl 0 rfl) ?_
            refine lv_if_le (tgt := 69) hx hb dL_types_27 (by decide) (fun c27 => ?_) (fun c27 => ?_)
            · skip
              refine lv_iload_n hx hb dL_types_69 rfl (lv_at hl 1 rfl) ?_
              exact lo_retz hF hr hlocks hw (rfl) (rfl) (by omega) (by omega) dL_types_70
            · skip
              exact absurd c27 (by decide)
    · skip
      exact absurd c14 (by decide)
  · skip
    exact absurd c4 (by decide)
theorem dL_types_17 : decode cL_types 17 = .ok (.bipush 10, 2) := by decide +kernel
theorem dL_types_19 : decode cL_types 19 = .ok (.goto 4, 3) := by decide +kernel
set_option maxHeartbeats 8000000 in
set_option maxRecDepth 100000 in
theorem c_types2 (l : Launch) (hst : l.stackTraces = false) (D : va_G) (cI cL cZ : ClassId) (Gs : Nat → Geo) (hG : GeoOk (Gs 0)) (a : AS) (hGo : Go a) (v : Nat) (hv : v < 1000) (hn : a.1.2 + 2 ≤ 90) : LZ l yL_types cL_types 5 8 133 3 18 D cI cL cZ Gs [a] [.ref ((Gs 0).1 1), .int (nI (v)), .int (2)] 1 [tyA (tyA a (48 + v / 10 % 10)) (48 + v / 1 % 10)] := by
  refine lz_of (by decide) rfl (Nat.le_of_ble_eq_true rfl) ?_
  intro p e s m below meth c ls H A hF hr hlocks hw hl
  have hx := hF.1.1
  have hb := hF.1.2.1
  have hown := hF.1.2.2.2.1
  have hts := hF.1.2.2.2.2
  have hl : lv_has ls 5 [(0, .ref ((Gs 0).1 1)), (1, .int (nI (v))), (2, .int (2))] := hl
  refine W.widen (k := 0) (n := 6 * 0) (Nat.le_refl _) (Nat.le_refl _) ?_
  refine lv_iconst (v := 1) hx hb dL_types_0 (by decide) ?_
  refine lv_istore_n (lv' := [(3, .int (1)), (0, .ref ((Gs 0).1 1)), (1, .int (nI (v))), (2, .int (2))]) hx hb dL_types_1 rfl hl (by decide) rfl (fun ls hl => ?_)
  refine lv_iload_n hx hb dL_types_2 rfl (lv_at hl 3 rfl) ?_
  refine lv_iconst (v := 3) hx hb dL_types_3 (by decide) ?_
  refine lv_icmp_ne (tgt := 12) hx hb dL_types_4 (by decide) (fun c4 => ?_) (fun c4 => ?_)
  · skip
    refine lv_iload_n hx hb dL_types_12 rfl (lv_at hl 3 rfl) ?_
    refine lv_iconst (v := 2) hx hb dL_types_13 (by decide) ?_
    refine lv_icmp_ne (tgt := 22) hx hb dL_types_14 (by decide) (fun c14 => ?_) (fun c14 => ?_)
    · skip
      exact absurd c14 (by decide)
    · skip
      refine lv_bipush (v := 10) hx hb dL_types_17 (by decide) ?_
      refine lv_goto (tgt := 23) hx hb dL_types_19 (by decide) ?_
      refine lv_istore (lv' := [(4, .int (10)), (3, .int (1)), (0, .ref ((Gs 0).1 1)), (1, .int (nI (v))), (2, .int (2))]) hx hb dL_types_23 hl (by decide) rfl (fun ls hl => ?_)
      refine lv_iload hx hb dL_types_25 (lv_at hl 0 rfl) ?_
      refine lv_if_le (tgt := 69) hx hb dL_types_27 (by decide) (fun c27 => ?_) (fun c27 => ?_)
      · skip
        exact absurd c27 (by decide)
      · skip
        refine lv_iload_n hx hb dL_types_30 rfl (lv_at hl 1 rfl) ?_
        refine lv_if_eq (tgt := 69) hx hb dL_types_31 (by decide) (fun c31 => ?_) (fun c31 => ?_)
        · skip
          exact absurd c31 (by decide)
        · skip
          refine lv_aload_n hx hb dL_types_34 rfl (lv_at hl 2 rfl) ?_
          refine lv_bipush (v := 48) hx hb dL_types_35 (by decide) ?_
          refine lv_iload_n hx hb dL_types_37 rfl (lv_at hl 3 rfl) ?_
          refine lv_iload hx hb dL_types_38 (lv_at hl 0 rfl) ?_
          refine lv_idiv hx hb dL_types_40 (by decide) ?_
          refine lv_as (y := nI (v / 10)) (pk_div (a := v) (d := 10) (by omega) (by decide) (by decide)) ?_
          refine lv_bipush (v := 10) hx hb dL_types_41 (by decide) ?_
          refine lv_irem hx hb dL_types_43 (by decide) ?_
          refine lv_as (y := nI ((v / 10) % 10)) (pk_rem (a := v / 10) (d := 10) (by omega) (by decide) (by decide)) ?_
          refine lv_iadd hx hb dL_types_44 ?_
          refine lv_as (y := nI (48 + (v / 10) % 10)) (nI_add (48) ((v / 10) % 10)) ?_
          refine lo_callX hF (lx_eq (x_append (Gs := fun _ => Gs 0) hst hG hGo (nI (48 + (v / 10) % 10))) (show _ = ((nI (a.1.2 + 1)).toInt64) from (tyA_ap (c := 48 + (v / 10) % 10) (by show _ < 90; first | omega | (simp only [tyA]; omega)) (by omega)).1) (show _ = [tyA a (48 + (v / 10) % 10)] from congrArg (fun y => [y]) (tyA_ap (c := 48 + (v / 10) % 10) (by show _ < 90; first | omega | (simp only [tyA]; omega)) (by omega)).2)) k_append ⟨Nat.le_of_ble_eq_true rfl, Nat.le_of_ble_eq_true rfl⟩ hw [0] (by decide) rfl (hg_one rfl) rfl hl.1 rfl (Nat.le_of_ble_eq_true rfl) dL_types_45 ⟨by show _ ≤ (3 : Nat); omega, by show _ ≤ (18 : Nat); omega⟩ (fun H locs hw => ?_)
          have hw : LO D cI cL cZ A s Gs [tyA a (48 + (v / 10) % 10)] H locs := hw
          refine W.widen (k := 0 + 1) (n := 6 * (0 + 1)) (Nat.le_refl _) (by omega) ?_
          refine lv_lconst (v := 0) hx hb dL_types_48 (by decide) ?_
          refine W.lcmp hx hb dL_types_49 ?_
          refine lv_if_le (tgt := 57) hx hb dL_types_50 (by decide) (fun c50 => ?_) (fun c50 => ?_)
          · skip
            have c50 := (lg_cmp_le _ _).mp c50
            exact absurd c50 (jl_pos (by show _ + 1 < _; first | omega | (simp only [tyA]; omega)))
          · skip
            have c50 := (fun z => c50 ((lg_cmp_le _ _).mpr z))
            refine lv_iconst (v := 1) hx hb dL_types_53 (by decide) ?_
            refine lv_goto (tgt := 58) hx hb dL_types_54 (by decide) ?_
            refine lv_istore_n (lv' := [(3, .int (1)), (4, .int (10)), (0, .ref ((Gs 0).1 1)), (1, .int (nI (v))), (2, .int (2))]) hx hb dL_types_58 rfl hl (by decide) rfl (fun ls hl => ?_)
            refine lv_iload hx hb dL_types_59 (lv_at hl 1 rfl) ?_
            refine lv_bipush (v := 10) hx hb dL_types_61 (by decide) ?_
            refine lv_idiv hx hb dL_types_63 (by decide) ?_
            refine lv_as (y := 1) (by decide) ?_
            refine lv_istore (lv' := [(4, .int (1)), (3, .int (1)), (0, .ref ((Gs 0).1 1)), (1, .int (nI (v))), (2, .int (2))]) hx hb dL_types_64 hl (by decide) rfl (fun ls hl => ?_)
            refine lv_goto (tgt := 25) hx hb dL_types_66 (by decide) ?_
            refine lv_iload hx hb dL_types_25 (lv_at hl 0 rfl) ?_
            refine lv_if_le (tgt := 69) hx hb dL_types_27 (by decide) (fun c27 => ?_) (fun c27 => ?_)
            · skip
              exact absurd c27 (by decide)
            · skip
              refine lv_iload_n hx hb dL_types_30 rfl (lv_at hl 1 rfl) ?_
              refine lv_if_eq (tgt := 69) hx hb dL_types_31 (by decide) (fun c31 => ?_) (fun c31 => ?_)
              · skip
                exact absurd c31 (by decide)
              · skip
                refine lv_aload_n hx hb dL_types_34 rfl (lv_at hl 2 rfl) ?_
                refine lv_bipush (v := 48) hx hb dL_types_35 (by decide) ?_
                refine lv_iload_n hx hb dL_types_37 rfl (lv_at hl 3 rfl) ?_
                refine lv_iload hx hb dL_types_38 (lv_at hl 0 rfl) ?_
                refine lv_idiv hx hb dL_types_40 (by decide) ?_
                refine lv_as (y := nI (v / 1)) (pk_div (a := v) (d := 1) (by omega) (by decide) (by decide)) ?_
                refine lv_bipush (v := 10) hx hb dL_types_41 (by decide) ?_
                refine lv_irem hx hb dL_types_43 (by decide) ?_
                refine lv_as (y := nI ((v / 1) % 10)) (pk_rem (a := v / 1) (d := 10) (by omega) (by decide) (by decide)) ?_
                refine lv_iadd hx hb dL_types_44 ?_
                refine lv_as (y := nI (48 + (v / 1) % 10)) (nI_add (48) ((v / 1) % 10)) ?_
                refine lo_callX hF (lx_eq (x_append (Gs := fun _ => Gs 0) hst hG (go_ty hGo (by show _ < 90; first | omega | (simp only [tyA]; omega))) (nI (48 + (v / 1) % 10))) (show _ = ((nI ((tyA a (48 + (v / 10) % 10)).1.2 + 1)).toInt64) from (tyA_ap (c := 48 + (v / 1) % 10) (by show _ < 90; first | omega | (simp only [tyA]; omega)) (by omega)).1) (show _ = [tyA (tyA a (48 + (v / 10) % 10)) (48 + (v / 1) % 10)] from congrArg (fun y => [y]) (tyA_ap (c := 48 + (v / 1) % 10) (by show _ < 90; first | omega | (simp only [tyA]; omega)) (by omega)).2)) k_append ⟨Nat.le_of_ble_eq_true rfl, Nat.le_of_ble_eq_true rfl⟩ hw [0] (by decide) rfl (hg_one rfl) rfl hl.1 rfl (Nat.le_of_ble_eq_true rfl) dL_types_45 ⟨by show _ ≤ (3 : Nat); omega, by show _ ≤ (18 : Nat); omega⟩ (fun H locs hw => ?_)
                have hw : LO D cI cL cZ A s Gs [tyA (tyA a (48 + (v / 10) % 10)) (48 + (v / 1) % 10)] H locs := hw
                refine W.widen (k := 0 + 1 + 1) (n := 6 * (0 + 1 + 1)) (Nat.le_refl _) (by omega) ?_
                refine lv_lconst (v := 0) hx hb dL_types_48 (by decide) ?_
                refine W.lcmp hx hb dL_types_49 ?_
                refine lv_if_le (tgt := 57) hx hb dL_types_50 (by decide) (fun c50 => ?_) (fun c50 => ?_)
                · skip
                  have c50 := (lg_cmp_le _ _).mp c50
                  exact absurd c50 (jl_pos (by show _ + 1 < _; first | omega | (simp only [tyA]; omega)))
                · skip
                  have c50 := (fun z => c50 ((lg_cmp_le _ _).mpr z))
                  refine lv_iconst (v := 1) hx hb dL_types_53 (by decide) ?_
                  refine lv_goto (tgt := 58) hx hb dL_types_54 (by decide) ?_
                  refine lv_istore_n (lv' := [(3, .int (1)), (4, .int (1)), (0, .ref ((Gs 0).1 1)), (1, .int (nI (v))), (2, .int (2))]) hx hb dL_types_58 rfl hl (by decide) rfl (fun ls hl => ?_)
                  refine lv_iload hx hb dL_types_59 (lv_at hl 1 rfl) ?_
                  refine lv_bipush (v := 10) hx hb dL_types_61 (by decide) ?_
                  refine lv_idiv hx hb dL_types_63 (by decide) ?_
                  refine lv_as (y := 0) (by decide) ?_
                  refine lv_istore (lv' := [(4, .int (0)), (3, .int (1)), (0, .ref ((Gs 0).1 1)), (1, .int (nI (v))), (2, .int (2))]) hx hb dL_types_64 hl (by decide) rfl (fun ls hl => ?_)
                  refine lv_goto (tgt := 25) hx hb dL_types_66 (by decide) ?_
                  refine lv_iload hx hb dL_types_25 (lv_at hl 0 rfl) ?_
                  refine lv_if_le (tgt := 69) hx hb dL_types_27 (by decide) (fun c27 => ?_) (fun c27 => ?_)
                  · skip
                    refine lv_iload_n hx hb dL_types_69 rfl (lv_at hl 1 rfl) ?_
                    exact lo_retz hF hr hlocks hw (rfl) (rfl) (by omega) (by omega) dL_types_70
                  · skip
                    exact absurd c27 (by decide)
  · skip
    exact absurd c4 (by decide)
theorem dL_types_7 : decode cL_types 7 = .ok (.bipush 100, 2) := by decide +kernel
theorem dL_types_9 : decode cL_types 9 = .ok (.goto 14, 3) := by decide +kernel
set_option maxHeartbeats 8000000 in
set_option maxRecDepth 100000 in
theorem c_types3 (l : Launch) (hst : l.stackTraces = false) (D : va_G) (cI cL cZ : ClassId) (Gs : Nat → Geo) (hG : GeoOk (Gs 0)) (a : AS) (hGo : Go a) (v : Nat) (hv : v < 1000) (hn : a.1.2 + 3 ≤ 90) : LZ l yL_types cL_types 5 8 133 3 18 D cI cL cZ Gs [a] [.ref ((Gs 0).1 1), .int (nI (v)), .int (3)] 1 [tyA (tyA (tyA a (48 + v / 100 % 10)) (48 + v / 10 % 10)) (48 + v / 1 % 10)] := by
  refine lz_of (by decide) rfl (Nat.le_of_ble_eq_true rfl) ?_
  intro p e s m below meth c ls H A hF hr hlocks hw hl
  have hx := hF.1.1
  have hb := hF.1.2.1
  have hown := hF.1.2.2.2.1
  have hts := hF.1.2.2.2.2
  have hl : lv_has ls 5 [(0, .ref ((Gs 0).1 1)), (1, .int (nI (v))), (2, .int (3))] := hl
  refine W.widen (k := 0) (n := 6 * 0) (Nat.le_refl _) (Nat.le_refl _) ?_
  refine lv_iconst (v := 1) hx hb dL_types_0 (by decide) ?_
  refine lv_istore_n (lv' := [(3, .int (1)), (0, .ref ((Gs 0).1 1)), (1, .int (nI (v))), (2, .int (3))]) hx hb dL_types_1 rfl hl (by decide) rfl (fun ls hl => ?_)
  refine lv_iload_n hx hb dL_types_2 rfl (lv_at hl 3 rfl) ?_
  refine lv_iconst (v := 3) hx hb dL_types_3 (by decide) ?_
  refine lv_icmp_ne (tgt := 12) hx hb dL_types_4 (by decide) (fun c4 => ?_) (fun c4 => ?_)
  · skip
    exact absurd c4 (by decide)
  · skip
    refine lv_bipush (v := 100) hx hb dL_types_7 (by decide) ?_
    refine lv_goto (tgt := 23) hx hb dL_types_9 (by decide) ?_
    refine lv_istore (lv' := [(4, .int (100)), (3, .int (1)), (0, .ref ((Gs 0).1 1)), (1, .int (nI (v))), (2, .int (3))]) hx hb dL_types_23 hl (by decide) rfl (fun ls hl => ?_)
    refine lv_iload hx hb dL_types_25 (lv_at hl 0 rfl) ?_
    refine lv_if_le (tgt := 69) hx hb dL_types_27 (by decide) (fun c27 => ?_) (fun c27 => ?_)
    · skip
      exact absurd c27 (by decide)
    · skip
      refine lv_iload_n hx hb dL_types_30 rfl (lv_at hl 1 rfl) ?_
      refine lv_if_eq (tgt := 69) hx hb dL_types_31 (by decide) (fun c31 => ?_) (fun c31 => ?_)
      · skip
        exact absurd c31 (by decide)
      · skip
        refine lv_aload_n hx hb dL_types_34 rfl (lv_at hl 2 rfl) ?_
        refine lv_bipush (v := 48) hx hb dL_types_35 (by decide) ?_
        refine lv_iload_n hx hb dL_types_37 rfl (lv_at hl 3 rfl) ?_
        refine lv_iload hx hb dL_types_38 (lv_at hl 0 rfl) ?_
        refine lv_idiv hx hb dL_types_40 (by decide) ?_
        refine lv_as (y := nI (v / 100)) (pk_div (a := v) (d := 100) (by omega) (by decide) (by decide)) ?_
        refine lv_bipush (v := 10) hx hb dL_types_41 (by decide) ?_
        refine lv_irem hx hb dL_types_43 (by decide) ?_
        refine lv_as (y := nI ((v / 100) % 10)) (pk_rem (a := v / 100) (d := 10) (by omega) (by decide) (by decide)) ?_
        refine lv_iadd hx hb dL_types_44 ?_
        refine lv_as (y := nI (48 + (v / 100) % 10)) (nI_add (48) ((v / 100) % 10)) ?_
        refine lo_callX hF (lx_eq (x_append (Gs := fun _ => Gs 0) hst hG hGo (nI (48 + (v / 100) % 10))) (show _ = ((nI (a.1.2 + 1)).toInt64) from (tyA_ap (c := 48 + (v / 100) % 10) (by show _ < 90; first | omega | (simp only [tyA]; omega)) (by omega)).1) (show _ = [tyA a (48 + (v / 100) % 10)] from congrArg (fun y => [y]) (tyA_ap (c := 48 + (v / 100) % 10) (by show _ < 90; first | omega | (simp only [tyA]; omega)) (by omega)).2)) k_append ⟨Nat.le_of_ble_eq_true rfl, Nat.le_of_ble_eq_true rfl⟩ hw [0] (by decide) rfl (hg_one rfl) rfl hl.1 rfl (Nat.le_of_ble_eq_true rfl) dL_types_45 ⟨by show _ ≤ (3 : Nat); omega, by show _ ≤ (18 : Nat); omega⟩ (fun H locs hw => ?_)
        have hw : LO D cI cL cZ A s Gs [tyA a (48 + (v / 100) % 10)] H locs := hw
        refine W.widen (k := 0 + 1) (n := 6 * (0 + 1)) (Nat.le_refl _) (by omega) ?_
        refine lv_lconst (v := 0) hx hb dL_types_48 (by decide) ?_
        refine W.lcmp hx hb dL_types_49 ?_
        refine lv_if_le (tgt := 57) hx hb dL_types_50 (by decide) (fun c50 => ?_) (fun c50 => ?_)
        · skip
          have c50 := (lg_cmp_le _ _).mp c50
          exact absurd c50 (jl_pos (by show _ + 1 < _; first | omega | (simp only [tyA]; omega)))
        · skip
          have c50 := (fun z => c50 ((lg_cmp_le _ _).mpr z))
          refine lv_iconst (v := 1) hx hb dL_types_53 (by decide) ?_
          refine lv_goto (tgt := 58) hx hb dL_types_54 (by decide) ?_
          refine lv_istore_n (lv' := [(3, .int (1)), (4, .int (100)), (0, .ref ((Gs 0).1 1)), (1, .int (nI (v))), (2, .int (3))]) hx hb dL_types_58 rfl hl (by decide) rfl (fun ls hl => ?_)
          refine lv_iload hx hb dL_types_59 (lv_at hl 1 rfl) ?_
          refine lv_bipush (v := 10) hx hb dL_types_61 (by decide) ?_
          refine lv_idiv hx hb dL_types_63 (by decide) ?_
          refine lv_as (y := 10) (by decide) ?_
          refine lv_istore (lv' := [(4, .int (10)), (3, .int (1)), (0, .ref ((Gs 0).1 1)), (1, .int (nI (v))), (2, .int (3))]) hx hb dL_types_64 hl (by decide) rfl (fun ls hl => ?_)
          refine lv_goto (tgt := 25) hx hb dL_types_66 (by decide) ?_
          refine lv_iload hx hb dL_types_25 (lv_at hl 0 rfl) ?_
          refine lv_if_le (tgt := 69) hx hb dL_types_27 (by decide) (fun c27 => ?_) (fun c27 => ?_)
          · skip
            exact absurd c27 (by decide)
          · skip
            refine lv_iload_n hx hb dL_types_30 rfl (lv_at hl 1 rfl) ?_
            refine lv_if_eq (tgt := 69) hx hb dL_types_31 (by decide) (fun c31 => ?_) (fun c31 => ?_)
            · skip
              exact absurd c31 (by decide)
            · skip
              refine lv_aload_n hx hb dL_types_34 rfl (lv_at hl 2 rfl) ?_
              refine lv_bipush (v := 48) hx hb dL_types_35 (by decide) ?_
              refine lv_iload_n hx hb dL_types_37 rfl (lv_at hl 3 rfl) ?_
              refine lv_iload hx hb dL_types_38 (lv_at hl 0 rfl) ?_
              refine lv_idiv hx hb dL_types_40 (by decide) ?_
              refine lv_as (y := nI (v / 10)) (pk_div (a := v) (d := 10) (by omega) (by decide) (by decide)) ?_
              refine lv_bipush (v := 10) hx hb dL_types_41 (by decide) ?_
              refine lv_irem hx hb dL_types_43 (by decide) ?_
              refine lv_as (y := nI ((v / 10) % 10)) (pk_rem (a := v / 10) (d := 10) (by omega) (by decide) (by decide)) ?_
              refine lv_iadd hx hb dL_types_44 ?_
              refine lv_as (y := nI (48 + (v / 10) % 10)) (nI_add (48) ((v / 10) % 10)) ?_
              refine lo_callX hF (lx_eq (x_append (Gs := fun _ => Gs 0) hst hG (go_ty hGo (by show _ < 90; first | omega | (simp only [tyA]; omega))) (nI (48 + (v / 10) % 10))) (show _ = ((nI ((tyA a (48 + (v / 100) % 10)).1.2 + 1)).toInt64) from (tyA_ap (c := 48 + (v / 10) % 10) (by show _ < 90; first | omega | (simp only [tyA]; omega)) (by omega)).1) (show _ = [tyA (tyA a (48 + (v / 100) % 10)) (48 + (v / 10) % 10)] from congrArg (fun y => [y]) (tyA_ap (c := 48 + (v / 10) % 10) (by show _ < 90; first | omega | (simp only [tyA]; omega)) (by omega)).2)) k_append ⟨Nat.le_of_ble_eq_true rfl, Nat.le_of_ble_eq_true rfl⟩ hw [0] (by decide) rfl (hg_one rfl) rfl hl.1 rfl (Nat.le_of_ble_eq_true rfl) dL_types_45 ⟨by show _ ≤ (3 : Nat); omega, by show _ ≤ (18 : Nat); omega⟩ (fun H locs hw => ?_)
              have hw : LO D cI cL cZ A s Gs [tyA (tyA a (48 + (v / 100) % 10)) (48 + (v / 10) % 10)] H locs := hw
              refine W.widen (k := 0 + 1 + 1) (n := 6 * (0 + 1 + 1)) (Nat.le_refl _) (by omega) ?_
              refine lv_lconst (v := 0) hx hb dL_types_48 (by decide) ?_
              refine W.lcmp hx hb dL_types_49 ?_
              refine lv_if_le (tgt := 57) hx hb dL_types_50 (by decide) (fun c50 => ?_) (fun c50 => ?_)
              · skip
                have c50 := (lg_cmp_le _ _).mp c50
                exact absurd c50 (jl_pos (by show _ + 1 < _; first | omega | (simp only [tyA]; omega)))
              · skip
                have c50 := (fun z => c50 ((lg_cmp_le _ _).mpr z))
                refine lv_iconst (v := 1) hx hb dL_types_53 (by decide) ?_
                refine lv_goto (tgt := 58) hx hb dL_types_54 (by decide) ?_
                refine lv_istore_n (lv' := [(3, .int (1)), (4, .int (10)), (0, .ref ((Gs 0).1 1)), (1, .int (nI (v))), (2, .int (3))]) hx hb dL_types_58 rfl hl (by decide) rfl (fun ls hl => ?_)
                refine lv_iload hx hb dL_types_59 (lv_at hl 1 rfl) ?_
                refine lv_bipush (v := 10) hx hb dL_types_61 (by decide) ?_
                refine lv_idiv hx hb dL_types_63 (by decide) ?_
                refine lv_as (y := 1) (by decide) ?_
                refine lv_istore (lv' := [(4, .int (1)), (3, .int (1)), (0, .ref ((Gs 0).1 1)), (1, .int (nI (v))), (2, .int (3))]) hx hb dL_types_64 hl (by decide) rfl (fun ls hl => ?_)
                refine lv_goto (tgt := 25) hx hb dL_types_66 (by decide) ?_
                refine lv_iload hx hb dL_types_25 (lv_at hl 0 rfl) ?_
                refine lv_if_le (tgt := 69) hx hb dL_types_27 (by decide) (fun c27 => ?_) (fun c27 => ?_)
                · skip
                  exact absurd c27 (by decide)
                · skip
                  refine lv_iload_n hx hb dL_types_30 rfl (lv_at hl 1 rfl) ?_
                  refine lv_if_eq (tgt := 69) hx hb dL_types_31 (by decide) (fun c31 => ?_) (fun c31 => ?_)
                  · skip
                    exact absurd c31 (by decide)
                  · skip
                    refine lv_aload_n hx hb dL_types_34 rfl (lv_at hl 2 rfl) ?_
                    refine lv_bipush (v := 48) hx hb dL_types_35 (by decide) ?_
                    refine lv_iload_n hx hb dL_types_37 rfl (lv_at hl 3 rfl) ?_
                    refine lv_iload hx hb dL_types_38 (lv_at hl 0 rfl) ?_
                    refine lv_idiv hx hb dL_types_40 (by decide) ?_
                    refine lv_as (y := nI (v / 1)) (pk_div (a := v) (d := 1) (by omega) (by decide) (by decide)) ?_
                    refine lv_bipush (v := 10) hx hb dL_types_41 (by decide) ?_
                    refine lv_irem hx hb dL_types_43 (by decide) ?_
                    refine lv_as (y := nI ((v / 1) % 10)) (pk_rem (a := v / 1) (d := 10) (by omega) (by decide) (by decide)) ?_
                    refine lv_iadd hx hb dL_types_44 ?_
                    refine lv_as (y := nI (48 + (v / 1) % 10)) (nI_add (48) ((v / 1) % 10)) ?_
                    refine lo_callX hF (lx_eq (x_append (Gs := fun _ => Gs 0) hst hG (go_ty (go_ty hGo (by show _ < 90; first | omega | (simp only [tyA]; omega))) (by show _ < 90; first | omega | (simp only [tyA]; omega))) (nI (48 + (v / 1) % 10))) (show _ = ((nI ((tyA (tyA a (48 + (v / 100) % 10)) (48 + (v / 10) % 10)).1.2 + 1)).toInt64) from (tyA_ap (c := 48 + (v / 1) % 10) (by show _ < 90; first | omega | (simp only [tyA]; omega)) (by omega)).1) (show _ = [tyA (tyA (tyA a (48 + (v / 100) % 10)) (48 + (v / 10) % 10)) (48 + (v / 1) % 10)] from congrArg (fun y => [y]) (tyA_ap (c := 48 + (v / 1) % 10) (by show _ < 90; first | omega | (simp only [tyA]; omega)) (by omega)).2)) k_append ⟨Nat.le_of_ble_eq_true rfl, Nat.le_of_ble_eq_true rfl⟩ hw [0] (by decide) rfl (hg_one rfl) rfl hl.1 rfl (Nat.le_of_ble_eq_true rfl) dL_types_45 ⟨by show _ ≤ (3 : Nat); omega, by show _ ≤ (18 : Nat); omega⟩ (fun H locs hw => ?_)
                    have hw : LO D cI cL cZ A s Gs [tyA (tyA (tyA a (48 + (v / 100) % 10)) (48 + (v / 10) % 10)) (48 + (v / 1) % 10)] H locs := hw
                    refine W.widen (k := 0 + 1 + 1 + 1) (n := 6 * (0 + 1 + 1 + 1)) (Nat.le_refl _) (by omega) ?_
                    refine lv_lconst (v := 0) hx hb dL_types_48 (by decide) ?_
                    refine W.lcmp hx hb dL_types_49 ?_
                    refine lv_if_le (tgt := 57) hx hb dL_types_50 (by decide) (fun c50 => ?_) (fun c50 => ?_)
                    · skip
                      have c50 := (lg_cmp_le _ _).mp c50
                      exact absurd c50 (jl_pos (by show _ + 1 < _; first | omega | (simp only [tyA]; omega)))
                    · skip
                      have c50 := (fun z => c50 ((lg_cmp_le _ _).mpr z))
                      refine lv_iconst (v := 1) hx hb dL_types_53 (by decide) ?_
                      refine lv_goto (tgt := 58) hx hb dL_types_54 (by decide) ?_
                      refine lv_istore_n (lv' := [(3, .int (1)), (4, .int (1)), (0, .ref ((Gs 0).1 1)), (1, .int (nI (v))), (2, .int (3))]) hx hb dL_types_58 rfl hl (by decide) rfl (fun ls hl => ?_)
                      refine lv_iload hx hb dL_types_59 (lv_at hl 1 rfl) ?_
                      refine lv_bipush (v := 10) hx hb dL_types_61 (by decide) ?_
                      refine lv_idiv hx hb dL_types_63 (by decide) ?_
                      refine lv_as (y := 0) (by decide) ?_
                      refine lv_istore (lv' := [(4, .int (0)), (3, .int (1)), (0, .ref ((Gs 0).1 1)), (1, .int (nI (v))), (2, .int (3))]) hx hb dL_types_64 hl (by decide) rfl (fun ls hl => ?_)
                      refine lv_goto (tgt := 25) hx hb dL_types_66 (by decide) ?_
                      refine lv_iload hx hb dL_types_25 (lv_at hl 0 rfl) ?_
                      refine lv_if_le (tgt := 69) hx hb dL_types_27 (by decide) (fun c27 => ?_) (fun c27 => ?_)
                      · skip
                        refine lv_iload_n hx hb dL_types_69 rfl (lv_at hl 1 rfl) ?_
                        exact lo_retz hF hr hlocks hw (rfl) (rfl) (by omega) (by omega) dL_types_70
                      · skip
                        exact absurd c27 (by decide)
theorem dL_tells_0 : decode cL_tells 0 = .ok (.aload_n 0, 1) := by decide +kernel
theorem dL_tells_1 : decode cL_tells 1 = .ok (.invokevirtual 208, 3) := by decide +kernel
theorem dL_tells_4 : decode cL_tells 4 = .ok (.ifCond .lt 66, 3) := by decide +kernel
theorem dL_tells_7 : decode cL_tells 7 = .ok (.aload_n 0, 1) := by decide +kernel
theorem dL_tells_8 : decode cL_tells 8 = .ok (.bipush 70, 2) := by decide +kernel
theorem dL_tells_10 : decode cL_tells 10 = .ok (.invokestatic 170, 3) := by decide +kernel
theorem dL_tells_13 : decode cL_tells 13 = .ok (.lconst 1, 1) := by decide +kernel
theorem dL_tells_14 : decode cL_tells 14 = .ok (.lcmp, 1) := by decide +kernel
theorem dL_tells_15 : decode cL_tells 15 = .ok (.ifCond .ne 55, 3) := by decide +kernel
theorem dL_tells_18 : decode cL_tells 18 = .ok (.aload_n 0, 1) := by decide +kernel
theorem dL_tells_19 : decode cL_tells 19 = .ok (.iconst 3, 1) := by decide +kernel
theorem dL_tells_20 : decode cL_tells 20 = .ok (.iload_n 1, 1) := by decide +kernel
theorem dL_tells_21 : decode cL_tells 21 = .ok (.bipush 6, 2) := by decide +kernel
theorem dL_tells_23 : decode cL_tells 23 = .ok (.irem, 1) := by decide +kernel
theorem dL_tells_24 : decode cL_tells 24 = .ok (.iadd, 1) := by decide +kernel
theorem dL_tells_25 : decode cL_tells 25 = .ok (.iconst 1, 1) := by decide +kernel
theorem dL_tells_26 : decode cL_tells 26 = .ok (.invokestatic 211, 3) := by decide +kernel
theorem dL_tells_29 : decode cL_tells 29 = .ok (.ifCond .eq 41, 3) := by decide +kernel
theorem dL_tells_32 : decode cL_tells 32 = .ok (.aload_n 0, 1) := by decide +kernel
theorem dL_tells_33 : decode cL_tells 33 = .ok (.iload_n 1, 1) := by decide +kernel
theorem dL_tells_34 : decode cL_tells 34 = .ok (.iconst 3, 1) := by decide +kernel
theorem dL_tells_35 : decode cL_tells 35 = .ok (.irem, 1) := by decide +kernel
theorem dL_tells_36 : decode cL_tells 36 = .ok (.ifCond .ne 14, 3) := by decide +kernel
theorem dL_tells_39 : decode cL_tells 39 = .ok (.iconst 1, 1) := by decide +kernel
theorem dL_tells_40 : decode cL_tells 40 = .ok (.iload_n 1, 1) := by decide +kernel
theorem dL_tells_41 : decode cL_tells 41 = .ok (.bipush 6, 2) := by decide +kernel
theorem dL_tells_43 : decode cL_tells 43 = .ok (.idiv, 1) := by decide +kernel
theorem dL_tells_44 : decode cL_tells 44 = .ok (.iconst 3, 1) := by decide +kernel
theorem dL_tells_45 : decode cL_tells 45 = .ok (.irem, 1) := by decide +kernel
theorem dL_tells_46 : decode cL_tells 46 = .ok (.iadd, 1) := by decide +kernel
theorem dL_tells_47 : decode cL_tells 47 = .ok (.goto 12, 3) := by decide +kernel
theorem dL_tells_50 : decode cL_tells 50 = .ok (.iconst 1, 1) := by decide +kernel
theorem dL_tells_51 : decode cL_tells 51 = .ok (.iload_n 1, 1) := by decide +kernel
theorem dL_tells_52 : decode cL_tells 52 = .ok (.bipush 6, 2) := by decide +kernel
theorem dL_tells_54 : decode cL_tells 54 = .ok (.idiv, 1) := by decide +kernel
theorem dL_tells_55 : decode cL_tells 55 = .ok (.bipush 99, 2) := by decide +kernel
theorem dL_tells_57 : decode cL_tells 57 = .ok (.irem, 1) := by decide +kernel
theorem dL_tells_58 : decode cL_tells 58 = .ok (.iadd, 1) := by decide +kernel
theorem dL_tells_59 : decode cL_tells 59 = .ok (.iconst 2, 1) := by decide +kernel
theorem dL_tells_60 : decode cL_tells 60 = .ok (.invokestatic 211, 3) := by decide +kernel
theorem dL_tells_63 : decode cL_tells 63 = .ok (.ifCond .eq 7, 3) := by decide +kernel
theorem dL_tells_66 : decode cL_tells 66 = .ok (.iconst 1, 1) := by decide +kernel
theorem dL_tells_67 : decode cL_tells 67 = .ok (.goto 4, 3) := by decide +kernel
theorem dL_tells_71 : decode cL_tells 71 = .ok (.istore_n 3, 1) := by decide +kernel
theorem dL_tells_72 : decode cL_tells 72 = .ok (.iconst 0, 1) := by decide +kernel
theorem dL_tells_73 : decode cL_tells 73 = .ok (.istore 4, 2) := by decide +kernel
theorem dL_tells_75 : decode cL_tells 75 = .ok (.iload 4, 2) := by decide +kernel
theorem dL_tells_77 : decode cL_tells 77 = .ok (.iload_n 2, 1) := by decide +kernel
theorem dL_tells_78 : decode cL_tells 78 = .ok (.bipush 12, 2) := by decide +kernel
theorem dL_tells_80 : decode cL_tells 80 = .ok (.irem, 1) := by decide +kernel
theorem dL_tells_81 : decode cL_tells 81 = .ok (.if_icmp .ge 213, 3) := by decide +kernel
theorem dL_tells_84 : decode cL_tells 84 = .ok (.iload_n 3, 1) := by decide +kernel
theorem dL_tells_85 : decode cL_tells 85 = .ok (.ifCond .eq 209, 3) := by decide +kernel
theorem dL_tells_88 : decode cL_tells 88 = .ok (.iload_n 1, 1) := by decide +kernel
theorem dL_tells_89 : decode cL_tells 89 = .ok (.iload 4, 2) := by decide +kernel
theorem dL_tells_91 : decode cL_tells 91 = .ok (.ishr, 1) := by decide +kernel
theorem dL_tells_92 : decode cL_tells 92 = .ok (.ldc 215, 2) := by decide +kernel
theorem dL_tells_94 : decode cL_tells 94 = .ok (.iand, 1) := by decide +kernel
theorem dL_tells_95 : decode cL_tells 95 = .ok (.istore 5, 2) := by decide +kernel
theorem dL_tells_97 : decode cL_tells 97 = .ok (.iload 5, 2) := by decide +kernel
theorem dL_tells_99 : decode cL_tells 99 = .ok (.bipush 7, 2) := by decide +kernel
theorem dL_tells_101 : decode cL_tells 101 = .ok (.irem, 1) := by decide +kernel
theorem dL_tells_102 : decode cL_tells 102 = .ok (.ifCond .ne 37, 3) := by decide +kernel
theorem dL_tells_105 : decode cL_tells 105 = .ok (.aload_n 0, 1) := by decide +kernel
theorem dL_tells_106 : decode cL_tells 106 = .ok (.bipush 100, 2) := by decide +kernel
theorem dL_tells_108 : decode cL_tells 108 = .ok (.invokestatic 170, 3) := by decide +kernel
theorem dL_tells_111 : decode cL_tells 111 = .ok (.lconst 0, 1) := by decide +kernel
theorem dL_tells_112 : decode cL_tells 112 = .ok (.lcmp, 1) := by decide +kernel
theorem dL_tells_113 : decode cL_tells 113 = .ok (.ifCond .le 22, 3) := by decide +kernel
theorem dL_tells_116 : decode cL_tells 116 = .ok (.aload_n 0, 1) := by decide +kernel
theorem dL_tells_117 : decode cL_tells 117 = .ok (.iload 5, 2) := by decide +kernel
theorem dL_tells_119 : decode cL_tells 119 = .ok (.bipush 7, 2) := by decide +kernel
theorem dL_tells_121 : decode cL_tells 121 = .ok (.idiv, 1) := by decide +kernel
theorem dL_tells_122 : decode cL_tells 122 = .ok (.iconst 4, 1) := by decide +kernel
theorem dL_tells_123 : decode cL_tells 123 = .ok (.irem, 1) := by decide +kernel
theorem dL_tells_124 : decode cL_tells 124 = .ok (.iconst 2, 1) := by decide +kernel
theorem dL_tells_125 : decode cL_tells 125 = .ok (.invokestatic 211, 3) := by decide +kernel
theorem dL_tells_128 : decode cL_tells 128 = .ok (.ifCond .eq 7, 3) := by decide +kernel
theorem dL_tells_131 : decode cL_tells 131 = .ok (.iconst 1, 1) := by decide +kernel
theorem dL_tells_132 : decode cL_tells 132 = .ok (.goto 155, 3) := by decide +kernel
theorem dL_tells_139 : decode cL_tells 139 = .ok (.iload 5, 2) := by decide +kernel
theorem dL_tells_141 : decode cL_tells 141 = .ok (.bipush 7, 2) := by decide +kernel
theorem dL_tells_143 : decode cL_tells 143 = .ok (.irem, 1) := by decide +kernel
theorem dL_tells_144 : decode cL_tells 144 = .ok (.iconst 1, 1) := by decide +kernel
theorem dL_tells_145 : decode cL_tells 145 = .ok (.if_icmp .ne 22, 3) := by decide +kernel
theorem dL_tells_148 : decode cL_tells 148 = .ok (.aload_n 0, 1) := by decide +kernel
theorem dL_tells_149 : decode cL_tells 149 = .ok (.bipush 119, 2) := by decide +kernel
theorem dL_tells_151 : decode cL_tells 151 = .ok (.invokestatic 170, 3) := by decide +kernel
theorem dL_tells_154 : decode cL_tells 154 = .ok (.lconst 0, 1) := by decide +kernel
theorem dL_tells_155 : decode cL_tells 155 = .ok (.lcmp, 1) := by decide +kernel
theorem dL_tells_156 : decode cL_tells 156 = .ok (.ifCond .le 7, 3) := by decide +kernel
theorem dL_tells_159 : decode cL_tells 159 = .ok (.iconst 1, 1) := by decide +kernel
theorem dL_tells_160 : decode cL_tells 160 = .ok (.goto 127, 3) := by decide +kernel
theorem dL_tells_167 : decode cL_tells 167 = .ok (.iload 5, 2) := by decide +kernel
theorem dL_tells_169 : decode cL_tells 169 = .ok (.bipush 7, 2) := by decide +kernel
theorem dL_tells_171 : decode cL_tells 171 = .ok (.irem, 1) := by decide +kernel
theorem dL_tells_172 : decode cL_tells 172 = .ok (.iconst 2, 1) := by decide +kernel
theorem dL_tells_173 : decode cL_tells 173 = .ok (.if_icmp .ne 38, 3) := by decide +kernel
theorem dL_tells_176 : decode cL_tells 176 = .ok (.aload_n 0, 1) := by decide +kernel
theorem dL_tells_177 : decode cL_tells 177 = .ok (.bipush 99, 2) := by decide +kernel
theorem dL_tells_179 : decode cL_tells 179 = .ok (.invokestatic 170, 3) := by decide +kernel
theorem dL_tells_182 : decode cL_tells 182 = .ok (.lconst 0, 1) := by decide +kernel
theorem dL_tells_183 : decode cL_tells 183 = .ok (.lcmp, 1) := by decide +kernel
theorem dL_tells_184 : decode cL_tells 184 = .ok (.ifCond .le 23, 3) := by decide +kernel
theorem dL_tells_187 : decode cL_tells 187 = .ok (.aload_n 0, 1) := by decide +kernel
theorem dL_tells_188 : decode cL_tells 188 = .ok (.iload 5, 2) := by decide +kernel
theorem dL_tells_190 : decode cL_tells 190 = .ok (.bipush 7, 2) := by decide +kernel
theorem dL_tells_192 : decode cL_tells 192 = .ok (.idiv, 1) := by decide +kernel
theorem dL_tells_193 : decode cL_tells 193 = .ok (.bipush 30, 2) := by decide +kernel
theorem dL_tells_195 : decode cL_tells 195 = .ok (.irem, 1) := by decide +kernel
theorem dL_tells_196 : decode cL_tells 196 = .ok (.iconst 2, 1) := by decide +kernel
theorem dL_tells_197 : decode cL_tells 197 = .ok (.invokestatic 211, 3) := by decide +kernel
theorem dL_tells_200 : decode cL_tells 200 = .ok (.ifCond .eq 7, 3) := by decide +kernel
theorem dL_tells_203 : decode cL_tells 203 = .ok (.iconst 1, 1) := by decide +kernel
theorem dL_tells_204 : decode cL_tells 204 = .ok (.goto 83, 3) := by decide +kernel
theorem dL_tells_211 : decode cL_tells 211 = .ok (.iload 5, 2) := by decide +kernel
theorem dL_tells_213 : decode cL_tells 213 = .ok (.bipush 7, 2) := by decide +kernel
theorem dL_tells_215 : decode cL_tells 215 = .ok (.irem, 1) := by decide +kernel
theorem dL_tells_216 : decode cL_tells 216 = .ok (.iconst 3, 1) := by decide +kernel
theorem dL_tells_217 : decode cL_tells 217 = .ok (.if_icmp .ne 22, 3) := by decide +kernel
theorem dL_tells_220 : decode cL_tells 220 = .ok (.aload_n 0, 1) := by decide +kernel
theorem dL_tells_221 : decode cL_tells 221 = .ok (.bipush 115, 2) := by decide +kernel
theorem dL_tells_223 : decode cL_tells 223 = .ok (.invokestatic 170, 3) := by decide +kernel
theorem dL_tells_226 : decode cL_tells 226 = .ok (.lconst 0, 1) := by decide +kernel
theorem dL_tells_227 : decode cL_tells 227 = .ok (.lcmp, 1) := by decide +kernel
theorem dL_tells_228 : decode cL_tells 228 = .ok (.ifCond .le 7, 3) := by decide +kernel
theorem dL_tells_231 : decode cL_tells 231 = .ok (.iconst 1, 1) := by decide +kernel
theorem dL_tells_232 : decode cL_tells 232 = .ok (.goto 55, 3) := by decide +kernel
theorem dL_tells_239 : decode cL_tells 239 = .ok (.aload_n 0, 1) := by decide +kernel
theorem dL_tells_240 : decode cL_tells 240 = .ok (.bipush 112, 2) := by decide +kernel
theorem dL_tells_242 : decode cL_tells 242 = .ok (.invokestatic 170, 3) := by decide +kernel
theorem dL_tells_245 : decode cL_tells 245 = .ok (.lconst 0, 1) := by decide +kernel
theorem dL_tells_246 : decode cL_tells 246 = .ok (.lcmp, 1) := by decide +kernel
theorem dL_tells_247 : decode cL_tells 247 = .ok (.ifCond .le 39, 3) := by decide +kernel
theorem dL_tells_250 : decode cL_tells 250 = .ok (.aload_n 0, 1) := by decide +kernel
theorem dL_tells_251 : decode cL_tells 251 = .ok (.iload 5, 2) := by decide +kernel
theorem dL_tells_253 : decode cL_tells 253 = .ok (.bipush 7, 2) := by decide +kernel
theorem dL_tells_255 : decode cL_tells 255 = .ok (.idiv, 1) := by decide +kernel
theorem dL_tells_256 : decode cL_tells 256 = .ok (.iconst 5, 1) := by decide +kernel
theorem dL_tells_257 : decode cL_tells 257 = .ok (.irem, 1) := by decide +kernel
theorem dL_tells_258 : decode cL_tells 258 = .ok (.iconst 2, 1) := by decide +kernel
theorem dL_tells_259 : decode cL_tells 259 = .ok (.invokestatic 211, 3) := by decide +kernel
theorem dL_tells_262 : decode cL_tells 262 = .ok (.ifCond .eq 24, 3) := by decide +kernel
theorem dL_tells_265 : decode cL_tells 265 = .ok (.aload_n 0, 1) := by decide +kernel
theorem dL_tells_266 : decode cL_tells 266 = .ok (.iload 5, 2) := by decide +kernel
theorem dL_tells_268 : decode cL_tells 268 = .ok (.bipush 35, 2) := by decide +kernel
theorem dL_tells_270 : decode cL_tells 270 = .ok (.idiv, 1) := by decide +kernel
theorem dL_tells_271 : decode cL_tells 271 = .ok (.sipush 1000, 3) := by decide +kernel
theorem dL_tells_274 : decode cL_tells 274 = .ok (.irem, 1) := by decide +kernel
theorem dL_tells_275 : decode cL_tells 275 = .ok (.iconst 3, 1) := by decide +kernel
theorem dL_tells_276 : decode cL_tells 276 = .ok (.invokestatic 211, 3) := by decide +kernel
theorem dL_tells_279 : decode cL_tells 279 = .ok (.ifCond .eq 7, 3) := by decide +kernel
theorem dL_tells_282 : decode cL_tells 282 = .ok (.iconst 1, 1) := by decide +kernel
theorem dL_tells_283 : decode cL_tells 283 = .ok (.goto 4, 3) := by decide +kernel
theorem dL_tells_287 : decode cL_tells 287 = .ok (.istore_n 3, 1) := by decide +kernel
theorem dL_tells_288 : decode cL_tells 288 = .ok (.iinc 4 1, 3) := by decide +kernel
theorem dL_tells_291 : decode cL_tells 291 = .ok (.goto (-216), 3) := by decide +kernel
theorem dL_tells_294 : decode cL_tells 294 = .ok (.iload_n 3, 1) := by decide +kernel
theorem dL_tells_295 : decode cL_tells 295 = .ok (.ifCond .eq 16, 3) := by decide +kernel
theorem dL_tells_298 : decode cL_tells 298 = .ok (.aload_n 0, 1) := by decide +kernel
theorem dL_tells_299 : decode cL_tells 299 = .ok (.invokevirtual 203, 3) := by decide +kernel
theorem dL_tells_302 : decode cL_tells 302 = .ok (.bipush (-9), 2) := by decide +kernel
theorem dL_tells_304 : decode cL_tells 304 = .ok (.if_icmp .ne 7, 3) := by decide +kernel
theorem dL_tells_307 : decode cL_tells 307 = .ok (.iconst 1, 1) := by decide +kernel
theorem dL_tells_308 : decode cL_tells 308 = .ok (.goto 4, 3) := by decide +kernel
theorem dL_tells_312 : decode cL_tells 312 = .ok (.ireturn, 1) := by decide +kernel
set_option maxHeartbeats 8000000 in
set_option maxRecDepth 100000 in
theorem c_tells (l : Launch) (hst : l.stackTraces = false) (D : va_G) (cI cL cZ : ClassId) (Gs : Nat → Geo) (hG : GeoOk (Gs 0)) (a : AS) (hGo : Go a) (x y : Nat) (hx9 : x < 2 ^ 31) (hy9 : y < 2 ^ 31) : LZ l yL_tells cL_tells 6 9 157 100 600 D cI cL cZ Gs [a] [.ref ((Gs 0).1 1), .int (nI (x)), .int (nI (y))] 1 [tlS a x (y % 12)] := by
  have hz9 := hGo.2
  have hn9 : a.1.2 ≤ 90 := hGo.1
  refine lz_of (by decide) rfl (Nat.le_of_ble_eq_true rfl) ?_
  intro p e s m below meth c ls H A hF hr hlocks hw hl
  have hx := hF.1.1
  have hb := hF.1.2.1
  have hown := hF.1.2.2.2.1
  have hts := hF.1.2.2.2.2
  have hl : lv_has ls 6 [(0, .ref ((Gs 0).1 1)), (1, .int (nI (x))), (2, .int (nI (y)))] := hl
  refine W.widen (k := 0) (n := 6 * 0) (Nat.le_refl _) (Nat.le_refl _) ?_
  refine lv_aload_n hx hb dL_tells_0 rfl (lv_at hl 0 rfl) ?_
  refine lo_callV (i := 0) hF (x_clearText (Gs := fun _ => Gs 0) hGo) k_clearText ⟨Nat.le_of_ble_eq_true rfl, Nat.le_of_ble_eq_true rfl⟩ hw rfl rfl rfl hl.1 rfl (Nat.le_of_ble_eq_true rfl) dL_tells_1 ⟨by show _ ≤ (100 : Nat); omega, by show _ ≤ (600 : Nat); omega⟩ (fun H locs hw => ?_)
  have hw : LO D cI cL cZ A s Gs [((a.1.1, 0), a.2)] H locs := hw
  refine lv_if_lt (tgt := 70) hx hb dL_tells_4 (by decide) (fun c4 => ?_) (fun c4 => ?_)
  · skip
    have c4 := cn_lt (a := a.1.2) (b := 0) (by omega) (by omega) c4
    omega
  · skip
    have c4 := cn_nlt (a := a.1.2) (b := 0) (by omega) (by omega) c4
    refine lv_aload_n hx hb dL_tells_7 rfl (lv_at hl 0 rfl) ?_
    refine lv_bipush (v := 70) hx hb dL_tells_8 (by decide) ?_
    refine lo_callX hF (lx_eq (x_append (Gs := fun _ => Gs 0) hst hG (show Go (((a.1.1, 0), a.2)) from ⟨by first | omega | (simp only [ty2, ty3, tyA]; omega), hz9⟩) 70) (show _ = ((nI (((a.1.1, 0), a.2).1.2 + 1)).toInt64) from (tyA_ap (c := 70) (by first | omega | (simp only [ty2, ty3, tyA]; omega)) (by omega)).1) (show _ = [tyA ((a.1.1, 0), a.2) 70] from congrArg (fun y => [y]) (tyA_ap (c := 70) (by first | omega | (simp only [ty2, ty3, tyA]; omega)) (by omega)).2)) k_append ⟨Nat.le_of_ble_eq_true rfl, Nat.le_of_ble_eq_true rfl⟩ hw [0] (by decide) rfl (hg_one rfl) rfl hl.1 rfl (Nat.le_of_ble_eq_true rfl) dL_tells_10 ⟨by show _ ≤ (100 : Nat); omega, by show _ ≤ (600 : Nat); omega⟩ (fun H locs hw => ?_)
    have hw : LO D cI cL cZ A s Gs [tyA ((a.1.1, 0), a.2) 70] H locs := hw
    refine W.widen (k := 0 + 1) (n := 6 * (0 + 1)) (Nat.le_refl _) (by omega) ?_
    refine lv_lconst (v := 1) hx hb dL_tells_13 (by decide) ?_
    refine W.lcmp hx hb dL_tells_14 ?_
    refine lv_if_ne (tgt := 70) hx hb dL_tells_15 (by decide) (fun c15 => ?_) (fun c15 => ?_)
    · skip
      have c15 := (fun z => c15 ((lg_cmp_eq _ _).mpr z))
      exact (c15 (show (nI (0 + 1)).toInt64 = 1 from by decide)).elim
    · skip
      have c15 := (lg_cmp_eq _ _).mp c15
      refine lv_aload_n hx hb dL_tells_18 rfl (lv_at hl 0 rfl) ?_
      refine lv_iconst (v := 3) hx hb dL_tells_19 (by decide) ?_
      refine lv_iload_n hx hb dL_tells_20 rfl (lv_at hl 1 rfl) ?_
      refine lv_bipush (v := 6) hx hb dL_tells_21 (by decide) ?_
      refine lv_irem hx hb dL_tells_23 (by decide) ?_
      refine lv_as (y := nI (x % 6)) (pk_rem (a := x) (d := 6) (by omega) (by decide) (by decide)) ?_
      refine lv_iadd hx hb dL_tells_24 ?_
      refine lv_as (y := nI (3 + x % 6)) (nI_add (3) (x % 6)) ?_
      refine lv_iconst (v := 1) hx hb dL_tells_25 (by decide) ?_
      refine lo_callZ hF (c_types1 l hst D cI cL cZ (fun _ => Gs 0) hG (tyA ((a.1.1, 0), a.2) 70) (show Go (tyA ((a.1.1, 0), a.2) 70) from ⟨by first | omega | (simp only [ty2, ty3, tyA]; omega), hz9⟩) (3 + x % 6) (by omega) (by first | omega | (simp only [ty2, ty3, tyA]; omega))) k_types ⟨Nat.le_of_ble_eq_true rfl, Nat.le_of_ble_eq_true rfl⟩ hw [0] (by decide) rfl (hg_one rfl) rfl hl.1 rfl (Nat.le_of_ble_eq_true rfl) dL_tells_26 ⟨by show _ ≤ (100 : Nat); omega, by show _ ≤ (600 : Nat); omega⟩ (fun H locs hw => ?_)
      have hw : LO D cI cL cZ A s Gs [tyA (tyA ((a.1.1, 0), a.2) 70) (48 + (3 + x % 6) / 1 % 10)] H locs := hw
      refine W.widen (k := 0 + 1 + 3) (n := 6 * (0 + 1 + 3)) (Nat.le_refl _) (by omega) ?_
      refine lv_if_eq (tgt := 70) hx hb dL_tells_29 (by decide) (fun c29 => ?_) (fun c29 => ?_)
      · skip
        exact absurd c29 (by decide)
      · skip
        refine lv_aload_n hx hb dL_tells_32 rfl (lv_at hl 0 rfl) ?_
        refine lv_iload_n hx hb dL_tells_33 rfl (lv_at hl 1 rfl) ?_
        refine lv_iconst (v := 3) hx hb dL_tells_34 (by decide) ?_
        refine lv_irem hx hb dL_tells_35 (by decide) ?_
        refine lv_as (y := nI (x % 3)) (pk_rem (a := x) (d := 3) (by omega) (by decide) (by decide)) ?_
        refine lv_if_ne (tgt := 50) hx hb dL_tells_36 (by decide) (fun c36 => ?_) (fun c36 => ?_)
        · skip
          have c36 := cn_ne (a := x % 3) (b := 0) (by omega) (by omega) c36
          refine lv_iconst (v := 1) hx hb dL_tells_50 (by decide) ?_
          refine lv_iload_n hx hb dL_tells_51 rfl (lv_at hl 1 rfl) ?_
          refine lv_bipush (v := 6) hx hb dL_tells_52 (by decide) ?_
          refine lv_idiv hx hb dL_tells_54 (by decide) ?_
          refine lv_as (y := nI (x / 6)) (pk_div (a := x) (d := 6) (by omega) (by decide) (by decide)) ?_
          refine lv_bipush (v := 99) hx hb dL_tells_55 (by decide) ?_
          refine lv_irem hx hb dL_tells_57 (by decide) ?_
          refine lv_as (y := nI ((x / 6) % 99)) (pk_rem (a := x / 6) (d := 99) (by omega) (by decide) (by decide)) ?_
          refine lv_iadd hx hb dL_tells_58 ?_
          refine lv_as (y := nI (1 + (x / 6) % 99)) (nI_add (1) ((x / 6) % 99)) ?_
          refine lv_iconst (v := 2) hx hb dL_tells_59 (by decide) ?_
          refine lo_callZ hF (c_types2 l hst D cI cL cZ (fun _ => Gs 0) hG (tyA (tyA ((a.1.1, 0), a.2) 70) (48 + (3 + x % 6) / 1 % 10)) (show Go (tyA (tyA ((a.1.1, 0), a.2) 70) (48 + (3 + x % 6) / 1 % 10)) from ⟨by first | omega | (simp only [ty2, ty3, tyA]; omega), hz9⟩) (1 + (x / 6) % 99) (by omega) (by first | omega | (simp only [ty2, ty3, tyA]; omega))) k_types ⟨Nat.le_of_ble_eq_true rfl, Nat.le_of_ble_eq_true rfl⟩ hw [0] (by decide) rfl (hg_one rfl) rfl hl.1 rfl (Nat.le_of_ble_eq_true rfl) dL_tells_60 ⟨by show _ ≤ (100 : Nat); omega, by show _ ≤ (600 : Nat); omega⟩ (fun H locs hw => ?_)
          have hw : LO D cI cL cZ A s Gs [ty2 (tyA (tyA ((a.1.1, 0), a.2) 70) (48 + (3 + x % 6) / 1 % 10)) (1 + (x / 6) % 99)] H locs := hw
          refine W.widen (k := 0 + 1 + 3 + 3) (n := 6 * (0 + 1 + 3 + 3)) (Nat.le_refl _) (by omega) ?_
          refine lv_if_eq (tgt := 70) hx hb dL_tells_63 (by decide) (fun c63 => ?_) (fun c63 => ?_)
          · skip
            exact absurd c63 (by decide)
          · skip
            refine lv_iconst (v := 1) hx hb dL_tells_66 (by decide) ?_
            refine lv_goto (tgt := 71) hx hb dL_tells_67 (by decide) ?_
            refine lv_istore_n (lv' := [(3, .int (1)), (0, .ref ((Gs 0).1 1)), (1, .int (nI (x))), (2, .int (nI (y)))]) hx hb dL_tells_71 rfl hl (by decide) rfl (fun ls hl => ?_)
            refine lv_iconst (v := 0) hx hb dL_tells_72 (by decide) ?_
            refine lv_istore (lv' := [(4, .int (0)), (3, .int (1)), (0, .ref ((Gs 0).1 1)), (1, .int (nI (x))), (2, .int (nI (y)))]) hx hb dL_tells_73 hl (by decide) rfl (fun ls hl => ?_)
            have LP75 : ∀ n9 : Nat, ∀ (i : Nat) (H : Heap) (locs : List Loc) (ls : Array Slot), (hi : i ≤ y % 12) → y % 12 - i < n9 → LO D cI cL cZ A s Gs [tlS a x i] H locs → lv_has ls 6 [(4, .int (nI (i))), (3, .int (1)), (0, .ref ((Gs 0).1 1)), (1, .int (nI (x))), (2, .int (nI (y)))] → W p l e ({ frames := 9, cells := 100, slots := 600, locals := 157 } : Room) s m [.ref ((Gs 0).1 1), .int (nI (x)), .int (nI (y))].toArray below meth c H locs (10 + 7 * i) (6 * (10 + 7 * i)) (MQ below (lqI D cI cL cZ Gs 1 [tlS a x (y % 12)] A) [.ref ((Gs 0).1 1), .int (nI (x)), .int (nI (y))].toArray s 100 600 A) (F0 m 75 ls []) := by
              intro n9
              induction n9 with
              | zero => intros; omega
              | succ n9 ih75 =>
                intro i H locs ls hi hm9 hw hl
                refine lv_iload hx hb dL_tells_75 (lv_at hl 0 rfl) ?_
                refine lv_iload_n hx hb dL_tells_77 rfl (lv_at hl 4 rfl) ?_
                refine lv_bipush (v := 12) hx hb dL_tells_78 (by decide) ?_
                refine lv_irem hx hb dL_tells_80 (by decide) ?_
                refine lv_as (y := nI (y % 12)) (pk_rem (a := y) (d := 12) (by omega) (by decide) (by decide)) ?_
                refine lv_icmp_ge (tgt := 294) hx hb dL_tells_81 (by decide) (fun c81 => ?_) (fun c81 => ?_)
                · skip
                  have c81 := cn_le (a := y % 12) (b := i) (by omega) (by omega) c81
                  have hlast : i = y % 12 := by omega
                  rw [hlast] at hw
                  refine lv_iload_n hx hb dL_tells_294 rfl (lv_at hl 1 rfl) ?_
                  refine lv_if_eq (tgt := 311) hx hb dL_tells_295 (by decide) (fun c295 => ?_) (fun c295 => ?_)
                  · skip
                    exact absurd c295 (by decide)
                  · skip
                    refine lv_aload_n hx hb dL_tells_298 rfl (lv_at hl 2 rfl) ?_
                    refine lo_callV (i := 0) hF (lv_eq (x_errorPosition (Gs := fun _ => Gs 0) (tlS_go hGo (by omega))) (show _ = (-9) from tlS_ok (by omega)) (show _ = [tlS a x (y % 12)] from rfl)) k_errorPosition ⟨Nat.le_of_ble_eq_true rfl, Nat.le_of_ble_eq_true rfl⟩ hw rfl rfl rfl hl.1 rfl (Nat.le_of_ble_eq_true rfl) dL_tells_299 ⟨by show _ ≤ (100 : Nat); omega, by show _ ≤ (600 : Nat); omega⟩ (fun H locs hw => ?_)
                    have hw : LO D cI cL cZ A s Gs [tlS a x (y % 12)] H locs := hw
                    refine lv_bipush (v := (-9)) hx hb dL_tells_302 (by decide) ?_
                    refine lv_icmp_ne (tgt := 311) hx hb dL_tells_304 (by decide) (fun c304 => ?_) (fun c304 => ?_)
                    · skip
                      exact absurd c304 (by decide)
                    · skip
                      refine lv_iconst (v := 1) hx hb dL_tells_307 (by decide) ?_
                      refine lv_goto (tgt := 312) hx hb dL_tells_308 (by decide) ?_
                      exact lo_retz hF hr hlocks hw (rfl) (rfl) (by omega) (by omega) dL_tells_312
                · skip
                  have c81 := cn_nle (a := y % 12) (b := i) (by omega) (by omega) c81
                  obtain ⟨hT1, hT2⟩ := tlS_n (a := a) (x := x) i
                  have hT3 : (tlS a x i).2 = a.2 := hT2
                  have hz9 : Inv (tlS a x i).2.1 := by rw [hT3]; exact hGo.2
                  refine lv_iload_n hx hb dL_tells_84 rfl (lv_at hl 1 rfl) ?_
                  refine lv_if_eq (tgt := 294) hx hb dL_tells_85 (by decide) (fun c85 => ?_) (fun c85 => ?_)
                  · skip
                    exact absurd c85 (by decide)
                  · skip
                    refine lv_iload_n hx hb dL_tells_88 rfl (lv_at hl 3 rfl) ?_
                    refine lv_iload hx hb dL_tells_89 (lv_at hl 0 rfl) ?_
                    refine lv_ishr hx hb dL_tells_91 ?_
                    refine lv_as (y := nI (x / 2 ^ i)) (shr_i hx9 (by omega)) ?_
                    refine lv_ldc (v := 65535) hx hb hown (hts _ (mlA 212 rfl)) dL_tells_92 ?_
                    refine lv_iand hx hb dL_tells_94 ?_
                    refine lv_as (y := nI (x / 2 ^ i % 2 ^ 16)) (pk_andN (by have := Nat.div_le_self x (2 ^ i); omega) 16 (by decide)) ?_
                    refine lv_istore (lv' := [(5, .int (nI (x / 2 ^ i % 2 ^ 16))), (4, .int (nI (i))), (3, .int (1)), (0, .ref ((Gs 0).1 1)), (1, .int (nI (x))), (2, .int (nI (y)))]) hx hb dL_tells_95 hl (by decide) rfl (fun ls hl => ?_)
                    refine lv_iload hx hb dL_tells_97 (lv_at hl 0 rfl) ?_
                    refine lv_bipush (v := 7) hx hb dL_tells_99 (by decide) ?_
                    refine lv_irem hx hb dL_tells_101 (by decide) ?_
                    refine lv_as (y := nI ((x / 2 ^ i % 2 ^ 16) % 7)) (pk_rem (a := x / 2 ^ i % 2 ^ 16) (d := 7) (by omega) (by decide) (by decide)) ?_
                    refine lv_if_ne (tgt := 139) hx hb dL_tells_102 (by decide) (fun c102 => ?_) (fun c102 => ?_)
                    · skip
                      have c102 := cn_ne (a := (x / 2 ^ i % 2 ^ 16) % 7) (b := 0) (by omega) (by omega) c102
                      refine lv_iload hx hb dL_tells_139 (lv_at hl 0 rfl) ?_
                      refine lv_bipush (v := 7) hx hb dL_tells_141 (by decide) ?_
                      refine lv_irem hx hb dL_tells_143 (by decide) ?_
                      refine lv_as (y := nI ((x / 2 ^ i % 2 ^ 16) % 7)) (pk_rem (a := x / 2 ^ i % 2 ^ 16) (d := 7) (by omega) (by decide) (by decide)) ?_
                      refine lv_iconst (v := 1) hx hb dL_tells_144 (by decide) ?_
                      refine lv_icmp_ne (tgt := 167) hx hb dL_tells_145 (by decide) (fun c145 => ?_) (fun c145 => ?_)
                      · skip
                        have c145 := cn_ne (a := (x / 2 ^ i % 2 ^ 16) % 7) (b := 1) (by omega) (by omega) c145
                        refine lv_iload hx hb dL_tells_167 (lv_at hl 0 rfl) ?_
                        refine lv_bipush (v := 7) hx hb dL_tells_169 (by decide) ?_
                        refine lv_irem hx hb dL_tells_171 (by decide) ?_
                        refine lv_as (y := nI ((x / 2 ^ i % 2 ^ 16) % 7)) (pk_rem (a := x / 2 ^ i % 2 ^ 16) (d := 7) (by omega) (by decide) (by decide)) ?_
                        refine lv_iconst (v := 2) hx hb dL_tells_172 (by decide) ?_
                        refine lv_icmp_ne (tgt := 211) hx hb dL_tells_173 (by decide) (fun c173 => ?_) (fun c173 => ?_)
                        · skip
                          have c173 := cn_ne (a := (x / 2 ^ i % 2 ^ 16) % 7) (b := 2) (by omega) (by omega) c173
                          refine lv_iload hx hb dL_tells_211 (lv_at hl 0 rfl) ?_
                          refine lv_bipush (v := 7) hx hb dL_tells_213 (by decide) ?_
                          refine lv_irem hx hb dL_tells_215 (by decide) ?_
                          refine lv_as (y := nI ((x / 2 ^ i % 2 ^ 16) % 7)) (pk_rem (a := x / 2 ^ i % 2 ^ 16) (d := 7) (by omega) (by decide) (by decide)) ?_
                          refine lv_iconst (v := 3) hx hb dL_tells_216 (by decide) ?_
                          refine lv_icmp_ne (tgt := 239) hx hb dL_tells_217 (by decide) (fun c217 => ?_) (fun c217 => ?_)
                          · skip
                            have c217 := cn_ne (a := (x / 2 ^ i % 2 ^ 16) % 7) (b := 3) (by omega) (by omega) c217
                            refine lv_aload_n hx hb dL_tells_239 rfl (lv_at hl 3 rfl) ?_
                            refine lv_bipush (v := 112) hx hb dL_tells_240 (by decide) ?_
                            refine lo_callX hF (lx_eq (x_append (Gs := fun _ => Gs 0) hst hG (tlS_go hGo (by omega)) 112) (show _ = ((nI ((tlS a x i).1.2 + 1)).toInt64) from (tyA_ap (c := 112) (by first | omega | (simp only [ty2, ty3, tyA]; omega)) (by omega)).1) (show _ = [tyA (tlS a x i) 112] from congrArg (fun y => [y]) (tyA_ap (c := 112) (by first | omega | (simp only [ty2, ty3, tyA]; omega)) (by omega)).2)) k_append ⟨Nat.le_of_ble_eq_true rfl, Nat.le_of_ble_eq_true rfl⟩ hw [0] (by decide) rfl (hg_one rfl) rfl hl.1 rfl (Nat.le_of_ble_eq_true rfl) dL_tells_242 ⟨by show _ ≤ (100 : Nat); omega, by show _ ≤ (600 : Nat); omega⟩ (fun H locs hw => ?_)
                            have hw : LO D cI cL cZ A s Gs [tyA (tlS a x i) 112] H locs := hw
                            refine W.widen (k := 10 + 7 * i + 1) (n := 6 * (10 + 7 * i + 1)) (Nat.le_refl _) (by omega) ?_
                            refine lv_lconst (v := 0) hx hb dL_tells_245 (by decide) ?_
                            refine W.lcmp hx hb dL_tells_246 ?_
                            refine lv_if_le (tgt := 286) hx hb dL_tells_247 (by decide) (fun c247 => ?_) (fun c247 => ?_)
                            · skip
                              have c247 := (lg_cmp_le _ _).mp c247
                              exact absurd c247 (jl_pos (by first | omega | (simp only [ty2, ty3, tyA]; omega)))
                            · skip
                              have c247 := (fun z => c247 ((lg_cmp_le _ _).mpr z))
                              refine lv_aload_n hx hb dL_tells_250 rfl (lv_at hl 3 rfl) ?_
                              refine lv_iload hx hb dL_tells_251 (lv_at hl 0 rfl) ?_
                              refine lv_bipush (v := 7) hx hb dL_tells_253 (by decide) ?_
                              refine lv_idiv hx hb dL_tells_255 (by decide) ?_
                              refine lv_as (y := nI ((x / 2 ^ i % 2 ^ 16) / 7)) (pk_div (a := x / 2 ^ i % 2 ^ 16) (d := 7) (by omega) (by decide) (by decide)) ?_
                              refine lv_iconst (v := 5) hx hb dL_tells_256 (by decide) ?_
                              refine lv_irem hx hb dL_tells_257 (by decide) ?_
                              refine lv_as (y := nI (((x / 2 ^ i % 2 ^ 16) / 7) % 5)) (pk_rem (a := (x / 2 ^ i % 2 ^ 16) / 7) (d := 5) (by omega) (by decide) (by decide)) ?_
                              refine lv_iconst (v := 2) hx hb dL_tells_258 (by decide) ?_
                              refine lo_callZ hF (c_types2 l hst D cI cL cZ (fun _ => Gs 0) hG (tyA (tlS a x i) 112) (show Go (tyA (tlS a x i) 112) from ⟨by first | omega | (simp only [ty2, ty3, tyA]; omega), hz9⟩) (((x / 2 ^ i % 2 ^ 16) / 7) % 5) (by omega) (by first | omega | (simp only [ty2, ty3, tyA]; omega))) k_types ⟨Nat.le_of_ble_eq_true rfl, Nat.le_of_ble_eq_true rfl⟩ hw [0] (by decide) rfl (hg_one rfl) rfl hl.1 rfl (Nat.le_of_ble_eq_true rfl) dL_tells_259 ⟨by show _ ≤ (100 : Nat); omega, by show _ ≤ (600 : Nat); omega⟩ (fun H locs hw => ?_)
                              have hw : LO D cI cL cZ A s Gs [ty2 (tyA (tlS a x i) 112) (((x / 2 ^ i % 2 ^ 16) / 7) % 5)] H locs := hw
                              refine W.widen (k := 10 + 7 * i + 1 + 3) (n := 6 * (10 + 7 * i + 1 + 3)) (Nat.le_refl _) (by omega) ?_
                              refine lv_if_eq (tgt := 286) hx hb dL_tells_262 (by decide) (fun c262 => ?_) (fun c262 => ?_)
                              · skip
                                exact absurd c262 (by decide)
                              · skip
                                refine lv_aload_n hx hb dL_tells_265 rfl (lv_at hl 3 rfl) ?_
                                refine lv_iload hx hb dL_tells_266 (lv_at hl 0 rfl) ?_
                                refine lv_bipush (v := 35) hx hb dL_tells_268 (by decide) ?_
                                refine lv_idiv hx hb dL_tells_270 (by decide) ?_
                                refine lv_as (y := nI ((x / 2 ^ i % 2 ^ 16) / 35)) (pk_div (a := x / 2 ^ i % 2 ^ 16) (d := 35) (by omega) (by decide) (by decide)) ?_
                                refine lv_sipush (v := 1000) hx hb dL_tells_271 (by decide) ?_
                                refine lv_irem hx hb dL_tells_274 (by decide) ?_
                                refine lv_as (y := nI (((x / 2 ^ i % 2 ^ 16) / 35) % 1000)) (pk_rem (a := (x / 2 ^ i % 2 ^ 16) / 35) (d := 1000) (by omega) (by decide) (by decide)) ?_
                                refine lv_iconst (v := 3) hx hb dL_tells_275 (by decide) ?_
                                refine lo_callZ hF (c_types3 l hst D cI cL cZ (fun _ => Gs 0) hG (ty2 (tyA (tlS a x i) 112) (((x / 2 ^ i % 2 ^ 16) / 7) % 5)) (show Go (ty2 (tyA (tlS a x i) 112) (((x / 2 ^ i % 2 ^ 16) / 7) % 5)) from ⟨by first | omega | (simp only [ty2, ty3, tyA]; omega), hz9⟩) (((x / 2 ^ i % 2 ^ 16) / 35) % 1000) (by omega) (by first | omega | (simp only [ty2, ty3, tyA]; omega))) k_types ⟨Nat.le_of_ble_eq_true rfl, Nat.le_of_ble_eq_true rfl⟩ hw [0] (by decide) rfl (hg_one rfl) rfl hl.1 rfl (Nat.le_of_ble_eq_true rfl) dL_tells_276 ⟨by show _ ≤ (100 : Nat); omega, by show _ ≤ (600 : Nat); omega⟩ (fun H locs hw => ?_)
                                have hw : LO D cI cL cZ A s Gs [ty3 (ty2 (tyA (tlS a x i) 112) (((x / 2 ^ i % 2 ^ 16) / 7) % 5)) (((x / 2 ^ i % 2 ^ 16) / 35) % 1000)] H locs := hw
                                refine W.widen (k := 10 + 7 * i + 1 + 3 + 3) (n := 6 * (10 + 7 * i + 1 + 3 + 3)) (Nat.le_refl _) (by omega) ?_
                                refine lv_if_eq (tgt := 286) hx hb dL_tells_279 (by decide) (fun c279 => ?_) (fun c279 => ?_)
                                · skip
                                  exact absurd c279 (by decide)
                                · skip
                                  refine lv_iconst (v := 1) hx hb dL_tells_282 (by decide) ?_
                                  refine lv_goto (tgt := 287) hx hb dL_tells_283 (by decide) ?_
                                  refine lv_istore_n (lv' := [(3, .int (1)), (5, .int (nI (x / 2 ^ i % 2 ^ 16))), (4, .int (nI (i))), (0, .ref ((Gs 0).1 1)), (1, .int (nI (x))), (2, .int (nI (y)))]) hx hb dL_tells_287 rfl hl (by decide) rfl (fun ls hl => ?_)
                                  refine lv_iinc (v := nI (i + 1)) (lv' := [(4, .int (nI (i + 1))), (3, .int (1)), (5, .int (nI (x / 2 ^ i % 2 ^ 16))), (0, .ref ((Gs 0).1 1)), (1, .int (nI (x))), (2, .int (nI (y)))]) hx hb dL_tells_288 hl (k := 2) rfl (nI_add _ 1) (by decide) rfl (fun ls hl => ?_)
                                  refine lv_goto (tgt := 75) hx hb dL_tells_291 (by decide) ?_
                                  have hl : lv_has ls 6 [(4, .int (nI ((i + 1)))), (3, .int (1)), (5, .int (nI (x / 2 ^ i % 2 ^ 16))), (0, .ref ((Gs 0).1 1)), (1, .int (nI (x))), (2, .int (nI (y)))] := lv_re hl 0 rfl (show (nI (i + 1)) = nI ((i + 1)) from rfl)
                                  have hw : LO D cI cL cZ A s Gs [tlS a x (i + 1)] H locs := by
                                    rw [show ([tlS a x (i + 1)] : List AS) = [ty3 (ty2 (tyA (tlS a x i) 112) (((x / 2 ^ i % 2 ^ 16) / 7) % 5)) (((x / 2 ^ i % 2 ^ 16) / 35) % 1000)] from (by show [tlC (tlS a x i) (x / 2 ^ i % 2 ^ 16)] = _; rw [tlC, if_neg c102, if_neg c145, if_neg c173, if_neg c217])]
                                    exact hw
                                  exact W.widen (by omega) (by omega) (ih75 (i + 1) _ _ _ (by omega) (by omega) hw (lv_sub hl [0, 1, 3, 4, 5] rfl))
                          · skip
                            have c217 := cn_eq (a := (x / 2 ^ i % 2 ^ 16) % 7) (b := 3) (by omega) (by omega) c217
                            refine lv_aload_n hx hb dL_tells_220 rfl (lv_at hl 3 rfl) ?_
                            refine lv_bipush (v := 115) hx hb dL_tells_221 (by decide) ?_
                            refine lo_callX hF (lx_eq (x_append (Gs := fun _ => Gs 0) hst hG (tlS_go hGo (by omega)) 115) (show _ = ((nI ((tlS a x i).1.2 + 1)).toInt64) from (tyA_ap (c := 115) (by first | omega | (simp only [ty2, ty3, tyA]; omega)) (by omega)).1) (show _ = [tyA (tlS a x i) 115] from congrArg (fun y => [y]) (tyA_ap (c := 115) (by first | omega | (simp only [ty2, ty3, tyA]; omega)) (by omega)).2)) k_append ⟨Nat.le_of_ble_eq_true rfl, Nat.le_of_ble_eq_true rfl⟩ hw [0] (by decide) rfl (hg_one rfl) rfl hl.1 rfl (Nat.le_of_ble_eq_true rfl) dL_tells_223 ⟨by show _ ≤ (100 : Nat); omega, by show _ ≤ (600 : Nat); omega⟩ (fun H locs hw => ?_)
                            have hw : LO D cI cL cZ A s Gs [tyA (tlS a x i) 115] H locs := hw
                            refine W.widen (k := 10 + 7 * i + 1) (n := 6 * (10 + 7 * i + 1)) (Nat.le_refl _) (by omega) ?_
                            refine lv_lconst (v := 0) hx hb dL_tells_226 (by decide) ?_
                            refine W.lcmp hx hb dL_tells_227 ?_
                            refine lv_if_le (tgt := 235) hx hb dL_tells_228 (by decide) (fun c228 => ?_) (fun c228 => ?_)
                            · skip
                              have c228 := (lg_cmp_le _ _).mp c228
                              exact absurd c228 (jl_pos (by first | omega | (simp only [ty2, ty3, tyA]; omega)))
                            · skip
                              have c228 := (fun z => c228 ((lg_cmp_le _ _).mpr z))
                              refine lv_iconst (v := 1) hx hb dL_tells_231 (by decide) ?_
                              refine lv_goto (tgt := 287) hx hb dL_tells_232 (by decide) ?_
                              refine lv_istore_n (lv' := [(3, .int (1)), (5, .int (nI (x / 2 ^ i % 2 ^ 16))), (4, .int (nI (i))), (0, .ref ((Gs 0).1 1)), (1, .int (nI (x))), (2, .int (nI (y)))]) hx hb dL_tells_287 rfl hl (by decide) rfl (fun ls hl => ?_)
                              refine lv_iinc (v := nI (i + 1)) (lv' := [(4, .int (nI (i + 1))), (3, .int (1)), (5, .int (nI (x / 2 ^ i % 2 ^ 16))), (0, .ref ((Gs 0).1 1)), (1, .int (nI (x))), (2, .int (nI (y)))]) hx hb dL_tells_288 hl (k := 2) rfl (nI_add _ 1) (by decide) rfl (fun ls hl => ?_)
                              refine lv_goto (tgt := 75) hx hb dL_tells_291 (by decide) ?_
                              have hl : lv_has ls 6 [(4, .int (nI ((i + 1)))), (3, .int (1)), (5, .int (nI (x / 2 ^ i % 2 ^ 16))), (0, .ref ((Gs 0).1 1)), (1, .int (nI (x))), (2, .int (nI (y)))] := lv_re hl 0 rfl (show (nI (i + 1)) = nI ((i + 1)) from rfl)
                              have hw : LO D cI cL cZ A s Gs [tlS a x (i + 1)] H locs := by
                                rw [show ([tlS a x (i + 1)] : List AS) = [tyA (tlS a x i) 115] from (by show [tlC (tlS a x i) (x / 2 ^ i % 2 ^ 16)] = _; rw [tlC, if_neg c102, if_neg c145, if_neg c173, if_pos c217])]
                                exact hw
                              exact W.widen (by omega) (by omega) (ih75 (i + 1) _ _ _ (by omega) (by omega) hw (lv_sub hl [0, 1, 3, 4, 5] rfl))
                        · skip
                          have c173 := cn_eq (a := (x / 2 ^ i % 2 ^ 16) % 7) (b := 2) (by omega) (by omega) c173
                          refine lv_aload_n hx hb dL_tells_176 rfl (lv_at hl 3 rfl) ?_
                          refine lv_bipush (v := 99) hx hb dL_tells_177 (by decide) ?_
                          refine lo_callX hF (lx_eq (x_append (Gs := fun _ => Gs 0) hst hG (tlS_go hGo (by omega)) 99) (show _ = ((nI ((tlS a x i).1.2 + 1)).toInt64) from (tyA_ap (c := 99) (by first | omega | (simp only [ty2, ty3, tyA]; omega)) (by omega)).1) (show _ = [tyA (tlS a x i) 99] from congrArg (fun y => [y]) (tyA_ap (c := 99) (by first | omega | (simp only [ty2, ty3, tyA]; omega)) (by omega)).2)) k_append ⟨Nat.le_of_ble_eq_true rfl, Nat.le_of_ble_eq_true rfl⟩ hw [0] (by decide) rfl (hg_one rfl) rfl hl.1 rfl (Nat.le_of_ble_eq_true rfl) dL_tells_179 ⟨by show _ ≤ (100 : Nat); omega, by show _ ≤ (600 : Nat); omega⟩ (fun H locs hw => ?_)
                          have hw : LO D cI cL cZ A s Gs [tyA (tlS a x i) 99] H locs := hw
                          refine W.widen (k := 10 + 7 * i + 1) (n := 6 * (10 + 7 * i + 1)) (Nat.le_refl _) (by omega) ?_
                          refine lv_lconst (v := 0) hx hb dL_tells_182 (by decide) ?_
                          refine W.lcmp hx hb dL_tells_183 ?_
                          refine lv_if_le (tgt := 207) hx hb dL_tells_184 (by decide) (fun c184 => ?_) (fun c184 => ?_)
                          · skip
                            have c184 := (lg_cmp_le _ _).mp c184
                            exact absurd c184 (jl_pos (by first | omega | (simp only [ty2, ty3, tyA]; omega)))
                          · skip
                            have c184 := (fun z => c184 ((lg_cmp_le _ _).mpr z))
                            refine lv_aload_n hx hb dL_tells_187 rfl (lv_at hl 3 rfl) ?_
                            refine lv_iload hx hb dL_tells_188 (lv_at hl 0 rfl) ?_
                            refine lv_bipush (v := 7) hx hb dL_tells_190 (by decide) ?_
                            refine lv_idiv hx hb dL_tells_192 (by decide) ?_
                            refine lv_as (y := nI ((x / 2 ^ i % 2 ^ 16) / 7)) (pk_div (a := x / 2 ^ i % 2 ^ 16) (d := 7) (by omega) (by decide) (by decide)) ?_
                            refine lv_bipush (v := 30) hx hb dL_tells_193 (by decide) ?_
                            refine lv_irem hx hb dL_tells_195 (by decide) ?_
                            refine lv_as (y := nI (((x / 2 ^ i % 2 ^ 16) / 7) % 30)) (pk_rem (a := (x / 2 ^ i % 2 ^ 16) / 7) (d := 30) (by omega) (by decide) (by decide)) ?_
                            refine lv_iconst (v := 2) hx hb dL_tells_196 (by decide) ?_
                            refine lo_callZ hF (c_types2 l hst D cI cL cZ (fun _ => Gs 0) hG (tyA (tlS a x i) 99) (show Go (tyA (tlS a x i) 99) from ⟨by first | omega | (simp only [ty2, ty3, tyA]; omega), hz9⟩) (((x / 2 ^ i % 2 ^ 16) / 7) % 30) (by omega) (by first | omega | (simp only [ty2, ty3, tyA]; omega))) k_types ⟨Nat.le_of_ble_eq_true rfl, Nat.le_of_ble_eq_true rfl⟩ hw [0] (by decide) rfl (hg_one rfl) rfl hl.1 rfl (Nat.le_of_ble_eq_true rfl) dL_tells_197 ⟨by show _ ≤ (100 : Nat); omega, by show _ ≤ (600 : Nat); omega⟩ (fun H locs hw => ?_)
                            have hw : LO D cI cL cZ A s Gs [ty2 (tyA (tlS a x i) 99) (((x / 2 ^ i % 2 ^ 16) / 7) % 30)] H locs := hw
                            refine W.widen (k := 10 + 7 * i + 1 + 3) (n := 6 * (10 + 7 * i + 1 + 3)) (Nat.le_refl _) (by omega) ?_
                            refine lv_if_eq (tgt := 207) hx hb dL_tells_200 (by decide) (fun c200 => ?_) (fun c200 => ?_)
                            · skip
                              exact absurd c200 (by decide)
                            · skip
                              refine lv_iconst (v := 1) hx hb dL_tells_203 (by decide) ?_
                              refine lv_goto (tgt := 287) hx hb dL_tells_204 (by decide) ?_
                              refine lv_istore_n (lv' := [(3, .int (1)), (5, .int (nI (x / 2 ^ i % 2 ^ 16))), (4, .int (nI (i))), (0, .ref ((Gs 0).1 1)), (1, .int (nI (x))), (2, .int (nI (y)))]) hx hb dL_tells_287 rfl hl (by decide) rfl (fun ls hl => ?_)
                              refine lv_iinc (v := nI (i + 1)) (lv' := [(4, .int (nI (i + 1))), (3, .int (1)), (5, .int (nI (x / 2 ^ i % 2 ^ 16))), (0, .ref ((Gs 0).1 1)), (1, .int (nI (x))), (2, .int (nI (y)))]) hx hb dL_tells_288 hl (k := 2) rfl (nI_add _ 1) (by decide) rfl (fun ls hl => ?_)
                              refine lv_goto (tgt := 75) hx hb dL_tells_291 (by decide) ?_
                              have hl : lv_has ls 6 [(4, .int (nI ((i + 1)))), (3, .int (1)), (5, .int (nI (x / 2 ^ i % 2 ^ 16))), (0, .ref ((Gs 0).1 1)), (1, .int (nI (x))), (2, .int (nI (y)))] := lv_re hl 0 rfl (show (nI (i + 1)) = nI ((i + 1)) from rfl)
                              have hw : LO D cI cL cZ A s Gs [tlS a x (i + 1)] H locs := by
                                rw [show ([tlS a x (i + 1)] : List AS) = [ty2 (tyA (tlS a x i) 99) (((x / 2 ^ i % 2 ^ 16) / 7) % 30)] from (by show [tlC (tlS a x i) (x / 2 ^ i % 2 ^ 16)] = _; rw [tlC, if_neg c102, if_neg c145, if_pos c173])]
                                exact hw
                              exact W.widen (by omega) (by omega) (ih75 (i + 1) _ _ _ (by omega) (by omega) hw (lv_sub hl [0, 1, 3, 4, 5] rfl))
                      · skip
                        have c145 := cn_eq (a := (x / 2 ^ i % 2 ^ 16) % 7) (b := 1) (by omega) (by omega) c145
                        refine lv_aload_n hx hb dL_tells_148 rfl (lv_at hl 3 rfl) ?_
                        refine lv_bipush (v := 119) hx hb dL_tells_149 (by decide) ?_
                        refine lo_callX hF (lx_eq (x_append (Gs := fun _ => Gs 0) hst hG (tlS_go hGo (by omega)) 119) (show _ = ((nI ((tlS a x i).1.2 + 1)).toInt64) from (tyA_ap (c := 119) (by first | omega | (simp only [ty2, ty3, tyA]; omega)) (by omega)).1) (show _ = [tyA (tlS a x i) 119] from congrArg (fun y => [y]) (tyA_ap (c := 119) (by first | omega | (simp only [ty2, ty3, tyA]; omega)) (by omega)).2)) k_append ⟨Nat.le_of_ble_eq_true rfl, Nat.le_of_ble_eq_true rfl⟩ hw [0] (by decide) rfl (hg_one rfl) rfl hl.1 rfl (Nat.le_of_ble_eq_true rfl) dL_tells_151 ⟨by show _ ≤ (100 : Nat); omega, by show _ ≤ (600 : Nat); omega⟩ (fun H locs hw => ?_)
                        have hw : LO D cI cL cZ A s Gs [tyA (tlS a x i) 119] H locs := hw
                        refine W.widen (k := 10 + 7 * i + 1) (n := 6 * (10 + 7 * i + 1)) (Nat.le_refl _) (by omega) ?_
                        refine lv_lconst (v := 0) hx hb dL_tells_154 (by decide) ?_
                        refine W.lcmp hx hb dL_tells_155 ?_
                        refine lv_if_le (tgt := 163) hx hb dL_tells_156 (by decide) (fun c156 => ?_) (fun c156 => ?_)
                        · skip
                          have c156 := (lg_cmp_le _ _).mp c156
                          exact absurd c156 (jl_pos (by first | omega | (simp only [ty2, ty3, tyA]; omega)))
                        · skip
                          have c156 := (fun z => c156 ((lg_cmp_le _ _).mpr z))
                          refine lv_iconst (v := 1) hx hb dL_tells_159 (by decide) ?_
                          refine lv_goto (tgt := 287) hx hb dL_tells_160 (by decide) ?_
                          refine lv_istore_n (lv' := [(3, .int (1)), (5, .int (nI (x / 2 ^ i % 2 ^ 16))), (4, .int (nI (i))), (0, .ref ((Gs 0).1 1)), (1, .int (nI (x))), (2, .int (nI (y)))]) hx hb dL_tells_287 rfl hl (by decide) rfl (fun ls hl => ?_)
                          refine lv_iinc (v := nI (i + 1)) (lv' := [(4, .int (nI (i + 1))), (3, .int (1)), (5, .int (nI (x / 2 ^ i % 2 ^ 16))), (0, .ref ((Gs 0).1 1)), (1, .int (nI (x))), (2, .int (nI (y)))]) hx hb dL_tells_288 hl (k := 2) rfl (nI_add _ 1) (by decide) rfl (fun ls hl => ?_)
                          refine lv_goto (tgt := 75) hx hb dL_tells_291 (by decide) ?_
                          have hl : lv_has ls 6 [(4, .int (nI ((i + 1)))), (3, .int (1)), (5, .int (nI (x / 2 ^ i % 2 ^ 16))), (0, .ref ((Gs 0).1 1)), (1, .int (nI (x))), (2, .int (nI (y)))] := lv_re hl 0 rfl (show (nI (i + 1)) = nI ((i + 1)) from rfl)
                          have hw : LO D cI cL cZ A s Gs [tlS a x (i + 1)] H locs := by
                            rw [show ([tlS a x (i + 1)] : List AS) = [tyA (tlS a x i) 119] from (by show [tlC (tlS a x i) (x / 2 ^ i % 2 ^ 16)] = _; rw [tlC, if_neg c102, if_pos c145])]
                            exact hw
                          exact W.widen (by omega) (by omega) (ih75 (i + 1) _ _ _ (by omega) (by omega) hw (lv_sub hl [0, 1, 3, 4, 5] rfl))
                    · skip
                      have c102 := cn_eq (a := (x / 2 ^ i % 2 ^ 16) % 7) (b := 0) (by omega) (by omega) c102
                      refine lv_aload_n hx hb dL_tells_105 rfl (lv_at hl 3 rfl) ?_
                      refine lv_bipush (v := 100) hx hb dL_tells_106 (by decide) ?_
                      refine lo_callX hF (lx_eq (x_append (Gs := fun _ => Gs 0) hst hG (tlS_go hGo (by omega)) 100) (show _ = ((nI ((tlS a x i).1.2 + 1)).toInt64) from (tyA_ap (c := 100) (by first | omega | (simp only [ty2, ty3, tyA]; omega)) (by omega)).1) (show _ = [tyA (tlS a x i) 100] from congrArg (fun y => [y]) (tyA_ap (c := 100) (by first | omega | (simp only [ty2, ty3, tyA]; omega)) (by omega)).2)) k_append ⟨Nat.le_of_ble_eq_true rfl, Nat.le_of_ble_eq_true rfl⟩ hw [0] (by decide) rfl (hg_one rfl) rfl hl.1 rfl (Nat.le_of_ble_eq_true rfl) dL_tells_108 ⟨by show _ ≤ (100 : Nat); omega, by show _ ≤ (600 : Nat); omega⟩ (fun H locs hw => ?_)
                      have hw : LO D cI cL cZ A s Gs [tyA (tlS a x i) 100] H locs := hw
                      refine W.widen (k := 10 + 7 * i + 1) (n := 6 * (10 + 7 * i + 1)) (Nat.le_refl _) (by omega) ?_
                      refine lv_lconst (v := 0) hx hb dL_tells_111 (by decide) ?_
                      refine W.lcmp hx hb dL_tells_112 ?_
                      refine lv_if_le (tgt := 135) hx hb dL_tells_113 (by decide) (fun c113 => ?_) (fun c113 => ?_)
                      · skip
                        have c113 := (lg_cmp_le _ _).mp c113
                        exact absurd c113 (jl_pos (by first | omega | (simp only [ty2, ty3, tyA]; omega)))
                      · skip
                        have c113 := (fun z => c113 ((lg_cmp_le _ _).mpr z))
                        refine lv_aload_n hx hb dL_tells_116 rfl (lv_at hl 3 rfl) ?_
                        refine lv_iload hx hb dL_tells_117 (lv_at hl 0 rfl) ?_
                        refine lv_bipush (v := 7) hx hb dL_tells_119 (by decide) ?_
                        refine lv_idiv hx hb dL_tells_121 (by decide) ?_
                        refine lv_as (y := nI ((x / 2 ^ i % 2 ^ 16) / 7)) (pk_div (a := x / 2 ^ i % 2 ^ 16) (d := 7) (by omega) (by decide) (by decide)) ?_
                        refine lv_iconst (v := 4) hx hb dL_tells_122 (by decide) ?_
                        refine lv_irem hx hb dL_tells_123 (by decide) ?_
                        refine lv_as (y := nI (((x / 2 ^ i % 2 ^ 16) / 7) % 4)) (pk_rem (a := (x / 2 ^ i % 2 ^ 16) / 7) (d := 4) (by omega) (by decide) (by decide)) ?_
                        refine lv_iconst (v := 2) hx hb dL_tells_124 (by decide) ?_
                        refine lo_callZ hF (c_types2 l hst D cI cL cZ (fun _ => Gs 0) hG (tyA (tlS a x i) 100) (show Go (tyA (tlS a x i) 100) from ⟨by first | omega | (simp only [ty2, ty3, tyA]; omega), hz9⟩) (((x / 2 ^ i % 2 ^ 16) / 7) % 4) (by omega) (by first | omega | (simp only [ty2, ty3, tyA]; omega))) k_types ⟨Nat.le_of_ble_eq_true rfl, Nat.le_of_ble_eq_true rfl⟩ hw [0] (by decide) rfl (hg_one rfl) rfl hl.1 rfl (Nat.le_of_ble_eq_true rfl) dL_tells_125 ⟨by show _ ≤ (100 : Nat); omega, by show _ ≤ (600 : Nat); omega⟩ (fun H locs hw => ?_)
                        have hw : LO D cI cL cZ A s Gs [ty2 (tyA (tlS a x i) 100) (((x / 2 ^ i % 2 ^ 16) / 7) % 4)] H locs := hw
                        refine W.widen (k := 10 + 7 * i + 1 + 3) (n := 6 * (10 + 7 * i + 1 + 3)) (Nat.le_refl _) (by omega) ?_
                        refine lv_if_eq (tgt := 135) hx hb dL_tells_128 (by decide) (fun c128 => ?_) (fun c128 => ?_)
                        · skip
                          exact absurd c128 (by decide)
                        · skip
                          refine lv_iconst (v := 1) hx hb dL_tells_131 (by decide) ?_
                          refine lv_goto (tgt := 287) hx hb dL_tells_132 (by decide) ?_
                          refine lv_istore_n (lv' := [(3, .int (1)), (5, .int (nI (x / 2 ^ i % 2 ^ 16))), (4, .int (nI (i))), (0, .ref ((Gs 0).1 1)), (1, .int (nI (x))), (2, .int (nI (y)))]) hx hb dL_tells_287 rfl hl (by decide) rfl (fun ls hl => ?_)
                          refine lv_iinc (v := nI (i + 1)) (lv' := [(4, .int (nI (i + 1))), (3, .int (1)), (5, .int (nI (x / 2 ^ i % 2 ^ 16))), (0, .ref ((Gs 0).1 1)), (1, .int (nI (x))), (2, .int (nI (y)))]) hx hb dL_tells_288 hl (k := 2) rfl (nI_add _ 1) (by decide) rfl (fun ls hl => ?_)
                          refine lv_goto (tgt := 75) hx hb dL_tells_291 (by decide) ?_
                          have hl : lv_has ls 6 [(4, .int (nI ((i + 1)))), (3, .int (1)), (5, .int (nI (x / 2 ^ i % 2 ^ 16))), (0, .ref ((Gs 0).1 1)), (1, .int (nI (x))), (2, .int (nI (y)))] := lv_re hl 0 rfl (show (nI (i + 1)) = nI ((i + 1)) from rfl)
                          have hw : LO D cI cL cZ A s Gs [tlS a x (i + 1)] H locs := by
                            rw [show ([tlS a x (i + 1)] : List AS) = [ty2 (tyA (tlS a x i) 100) (((x / 2 ^ i % 2 ^ 16) / 7) % 4)] from (by show [tlC (tlS a x i) (x / 2 ^ i % 2 ^ 16)] = _; rw [tlC, if_pos c102])]
                            exact hw
                          exact W.widen (by omega) (by omega) (ih75 (i + 1) _ _ _ (by omega) (by omega) hw (lv_sub hl [0, 1, 3, 4, 5] rfl))
            have hl : lv_has ls 6 [(4, .int (nI (0))), (3, .int (1)), (0, .ref ((Gs 0).1 1)), (1, .int (nI (x))), (2, .int (nI (y)))] := lv_re hl 0 rfl (show 0 = nI (0) from rfl)
            have hw : LO D cI cL cZ A s Gs [tlS a x 0] H locs := by
              rw [show ([tlS a x 0] : List AS) = [ty2 (tyA (tyA ((a.1.1, 0), a.2) 70) (48 + (3 + x % 6) / 1 % 10)) (1 + (x / 6) % 99)] from (by show [tl0 a x] = _; rw [tl0, if_neg c36])]
              exact hw
            exact W.widen (by omega) (by omega) (LP75 ((y % 12 - 0) + 1) 0 _ _ _ (by omega) (by omega) hw (lv_sub hl [0, 1, 2, 3, 4] rfl))
        · skip
          have c36 := cn_eq (a := x % 3) (b := 0) (by omega) (by omega) c36
          refine lv_iconst (v := 1) hx hb dL_tells_39 (by decide) ?_
          refine lv_iload_n hx hb dL_tells_40 rfl (lv_at hl 1 rfl) ?_
          refine lv_bipush (v := 6) hx hb dL_tells_41 (by decide) ?_
          refine lv_idiv hx hb dL_tells_43 (by decide) ?_
          refine lv_as (y := nI (x / 6)) (pk_div (a := x) (d := 6) (by omega) (by decide) (by decide)) ?_
          refine lv_iconst (v := 3) hx hb dL_tells_44 (by decide) ?_
          refine lv_irem hx hb dL_tells_45 (by decide) ?_
          refine lv_as (y := nI ((x / 6) % 3)) (pk_rem (a := x / 6) (d := 3) (by omega) (by decide) (by decide)) ?_
          refine lv_iadd hx hb dL_tells_46 ?_
          refine lv_as (y := nI (1 + (x / 6) % 3)) (nI_add (1) ((x / 6) % 3)) ?_
          refine lv_goto (tgt := 59) hx hb dL_tells_47 (by decide) ?_
          refine lv_iconst (v := 2) hx hb dL_tells_59 (by decide) ?_
          refine lo_callZ hF (c_types2 l hst D cI cL cZ (fun _ => Gs 0) hG (tyA (tyA ((a.1.1, 0), a.2) 70) (48 + (3 + x % 6) / 1 % 10)) (show Go (tyA (tyA ((a.1.1, 0), a.2) 70) (48 + (3 + x % 6) / 1 % 10)) from ⟨by first | omega | (simp only [ty2, ty3, tyA]; omega), hz9⟩) (1 + (x / 6) % 3) (by omega) (by first | omega | (simp only [ty2, ty3, tyA]; omega))) k_types ⟨Nat.le_of_ble_eq_true rfl, Nat.le_of_ble_eq_true rfl⟩ hw [0] (by decide) rfl (hg_one rfl) rfl hl.1 rfl (Nat.le_of_ble_eq_true rfl) dL_tells_60 ⟨by show _ ≤ (100 : Nat); omega, by show _ ≤ (600 : Nat); omega⟩ (fun H locs hw => ?_)
          have hw : LO D cI cL cZ A s Gs [ty2 (tyA (tyA ((a.1.1, 0), a.2) 70) (48 + (3 + x % 6) / 1 % 10)) (1 + (x / 6) % 3)] H locs := hw
          refine W.widen (k := 0 + 1 + 3 + 3) (n := 6 * (0 + 1 + 3 + 3)) (Nat.le_refl _) (by omega) ?_
          refine lv_if_eq (tgt := 70) hx hb dL_tells_63 (by decide) (fun c63 => ?_) (fun c63 => ?_)
          · skip
            exact absurd c63 (by decide)
          · skip
            refine lv_iconst (v := 1) hx hb dL_tells_66 (by decide) ?_
            refine lv_goto (tgt := 71) hx hb dL_tells_67 (by decide) ?_
            refine lv_istore_n (lv' := [(3, .int (1)), (0, .ref ((Gs 0).1 1)), (1, .int (nI (x))), (2, .int (nI (y)))]) hx hb dL_tells_71 rfl hl (by decide) rfl (fun ls hl => ?_)
            refine lv_iconst (v := 0) hx hb dL_tells_72 (by decide) ?_
            refine lv_istore (lv' := [(4, .int (0)), (3, .int (1)), (0, .ref ((Gs 0).1 1)), (1, .int (nI (x))), (2, .int (nI (y)))]) hx hb dL_tells_73 hl (by decide) rfl (fun ls hl => ?_)
            have LP75 : ∀ n9 : Nat, ∀ (i : Nat) (H : Heap) (locs : List Loc) (ls : Array Slot), (hi : i ≤ y % 12) → y % 12 - i < n9 → LO D cI cL cZ A s Gs [tlS a x i] H locs → lv_has ls 6 [(4, .int (nI (i))), (3, .int (1)), (0, .ref ((Gs 0).1 1)), (1, .int (nI (x))), (2, .int (nI (y)))] → W p l e ({ frames := 9, cells := 100, slots := 600, locals := 157 } : Room) s m [.ref ((Gs 0).1 1), .int (nI (x)), .int (nI (y))].toArray below meth c H locs (10 + 7 * i) (6 * (10 + 7 * i)) (MQ below (lqI D cI cL cZ Gs 1 [tlS a x (y % 12)] A) [.ref ((Gs 0).1 1), .int (nI (x)), .int (nI (y))].toArray s 100 600 A) (F0 m 75 ls []) := by
              intro n9
              induction n9 with
              | zero => intros; omega
              | succ n9 ih75 =>
                intro i H locs ls hi hm9 hw hl
                refine lv_iload hx hb dL_tells_75 (lv_at hl 0 rfl) ?_
                refine lv_iload_n hx hb dL_tells_77 rfl (lv_at hl 4 rfl) ?_
                refine lv_bipush (v := 12) hx hb dL_tells_78 (by decide) ?_
                refine lv_irem hx hb dL_tells_80 (by decide) ?_
                refine lv_as (y := nI (y % 12)) (pk_rem (a := y) (d := 12) (by omega) (by decide) (by decide)) ?_
                refine lv_icmp_ge (tgt := 294) hx hb dL_tells_81 (by decide) (fun c81 => ?_) (fun c81 => ?_)
                · skip
                  have c81 := cn_le (a := y % 12) (b := i) (by omega) (by omega) c81
                  have hlast : i = y % 12 := by omega
                  rw [hlast] at hw
                  refine lv_iload_n hx hb dL_tells_294 rfl (lv_at hl 1 rfl) ?_
                  refine lv_if_eq (tgt := 311) hx hb dL_tells_295 (by decide) (fun c295 => ?_) (fun c295 => ?_)
                  · skip
                    exact absurd c295 (by decide)
                  · skip
                    refine lv_aload_n hx hb dL_tells_298 rfl (lv_at hl 2 rfl) ?_
                    refine lo_callV (i := 0) hF (lv_eq (x_errorPosition (Gs := fun _ => Gs 0) (tlS_go hGo (by omega))) (show _ = (-9) from tlS_ok (by omega)) (show _ = [tlS a x (y % 12)] from rfl)) k_errorPosition ⟨Nat.le_of_ble_eq_true rfl, Nat.le_of_ble_eq_true rfl⟩ hw rfl rfl rfl hl.1 rfl (Nat.le_of_ble_eq_true rfl) dL_tells_299 ⟨by show _ ≤ (100 : Nat); omega, by show _ ≤ (600 : Nat); omega⟩ (fun H locs hw => ?_)
                    have hw : LO D cI cL cZ A s Gs [tlS a x (y % 12)] H locs := hw
                    refine lv_bipush (v := (-9)) hx hb dL_tells_302 (by decide) ?_
                    refine lv_icmp_ne (tgt := 311) hx hb dL_tells_304 (by decide) (fun c304 => ?_) (fun c304 => ?_)
                    · skip
                      exact absurd c304 (by decide)
                    · skip
                      refine lv_iconst (v := 1) hx hb dL_tells_307 (by decide) ?_
                      refine lv_goto (tgt := 312) hx hb dL_tells_308 (by decide) ?_
                      exact lo_retz hF hr hlocks hw (rfl) (rfl) (by omega) (by omega) dL_tells_312
                · skip
                  have c81 := cn_nle (a := y % 12) (b := i) (by omega) (by omega) c81
                  obtain ⟨hT1, hT2⟩ := tlS_n (a := a) (x := x) i
                  have hT3 : (tlS a x i).2 = a.2 := hT2
                  have hz9 : Inv (tlS a x i).2.1 := by rw [hT3]; exact hGo.2
                  refine lv_iload_n hx hb dL_tells_84 rfl (lv_at hl 1 rfl) ?_
                  refine lv_if_eq (tgt := 294) hx hb dL_tells_85 (by decide) (fun c85 => ?_) (fun c85 => ?_)
                  · skip
                    exact absurd c85 (by decide)
                  · skip
                    refine lv_iload_n hx hb dL_tells_88 rfl (lv_at hl 3 rfl) ?_
                    refine lv_iload hx hb dL_tells_89 (lv_at hl 0 rfl) ?_
                    refine lv_ishr hx hb dL_tells_91 ?_
                    refine lv_as (y := nI (x / 2 ^ i)) (shr_i hx9 (by omega)) ?_
                    refine lv_ldc (v := 65535) hx hb hown (hts _ (mlA 212 rfl)) dL_tells_92 ?_
                    refine lv_iand hx hb dL_tells_94 ?_
                    refine lv_as (y := nI (x / 2 ^ i % 2 ^ 16)) (pk_andN (by have := Nat.div_le_self x (2 ^ i); omega) 16 (by decide)) ?_
                    refine lv_istore (lv' := [(5, .int (nI (x / 2 ^ i % 2 ^ 16))), (4, .int (nI (i))), (3, .int (1)), (0, .ref ((Gs 0).1 1)), (1, .int (nI (x))), (2, .int (nI (y)))]) hx hb dL_tells_95 hl (by decide) rfl (fun ls hl => ?_)
                    refine lv_iload hx hb dL_tells_97 (lv_at hl 0 rfl) ?_
                    refine lv_bipush (v := 7) hx hb dL_tells_99 (by decide) ?_
                    refine lv_irem hx hb dL_tells_101 (by decide) ?_
                    refine lv_as (y := nI ((x / 2 ^ i % 2 ^ 16) % 7)) (pk_rem (a := x / 2 ^ i % 2 ^ 16) (d := 7) (by omega) (by decide) (by decide)) ?_
                    refine lv_if_ne (tgt := 139) hx hb dL_tells_102 (by decide) (fun c102 => ?_) (fun c102 => ?_)
                    · skip
                      have c102 := cn_ne (a := (x / 2 ^ i % 2 ^ 16) % 7) (b := 0) (by omega) (by omega) c102
                      refine lv_iload hx hb dL_tells_139 (lv_at hl 0 rfl) ?_
                      refine lv_bipush (v := 7) hx hb dL_tells_141 (by decide) ?_
                      refine lv_irem hx hb dL_tells_143 (by decide) ?_
                      refine lv_as (y := nI ((x / 2 ^ i % 2 ^ 16) % 7)) (pk_rem (a := x / 2 ^ i % 2 ^ 16) (d := 7) (by omega) (by decide) (by decide)) ?_
                      refine lv_iconst (v := 1) hx hb dL_tells_144 (by decide) ?_
                      refine lv_icmp_ne (tgt := 167) hx hb dL_tells_145 (by decide) (fun c145 => ?_) (fun c145 => ?_)
                      · skip
                        have c145 := cn_ne (a := (x / 2 ^ i % 2 ^ 16) % 7) (b := 1) (by omega) (by omega) c145
                        refine lv_iload hx hb dL_tells_167 (lv_at hl 0 rfl) ?_
                        refine lv_bipush (v := 7) hx hb dL_tells_169 (by decide) ?_
                        refine lv_irem hx hb dL_tells_171 (by decide) ?_
                        refine lv_as (y := nI ((x / 2 ^ i % 2 ^ 16) % 7)) (pk_rem (a := x / 2 ^ i % 2 ^ 16) (d := 7) (by omega) (by decide) (by decide)) ?_
                        refine lv_iconst (v := 2) hx hb dL_tells_172 (by decide) ?_
                        refine lv_icmp_ne (tgt := 211) hx hb dL_tells_173 (by decide) (fun c173 => ?_) (fun c173 => ?_)
                        · skip
                          have c173 := cn_ne (a := (x / 2 ^ i % 2 ^ 16) % 7) (b := 2) (by omega) (by omega) c173
                          refine lv_iload hx hb dL_tells_211 (lv_at hl 0 rfl) ?_
                          refine lv_bipush (v := 7) hx hb dL_tells_213 (by decide) ?_
                          refine lv_irem hx hb dL_tells_215 (by decide) ?_
                          refine lv_as (y := nI ((x / 2 ^ i % 2 ^ 16) % 7)) (pk_rem (a := x / 2 ^ i % 2 ^ 16) (d := 7) (by omega) (by decide) (by decide)) ?_
                          refine lv_iconst (v := 3) hx hb dL_tells_216 (by decide) ?_
                          refine lv_icmp_ne (tgt := 239) hx hb dL_tells_217 (by decide) (fun c217 => ?_) (fun c217 => ?_)
                          · skip
                            have c217 := cn_ne (a := (x / 2 ^ i % 2 ^ 16) % 7) (b := 3) (by omega) (by omega) c217
                            refine lv_aload_n hx hb dL_tells_239 rfl (lv_at hl 3 rfl) ?_
                            refine lv_bipush (v := 112) hx hb dL_tells_240 (by decide) ?_
                            refine lo_callX hF (lx_eq (x_append (Gs := fun _ => Gs 0) hst hG (tlS_go hGo (by omega)) 112) (show _ = ((nI ((tlS a x i).1.2 + 1)).toInt64) from (tyA_ap (c := 112) (by first | omega | (simp only [ty2, ty3, tyA]; omega)) (by omega)).1) (show _ = [tyA (tlS a x i) 112] from congrArg (fun y => [y]) (tyA_ap (c := 112) (by first | omega | (simp only [ty2, ty3, tyA]; omega)) (by omega)).2)) k_append ⟨Nat.le_of_ble_eq_true rfl, Nat.le_of_ble_eq_true rfl⟩ hw [0] (by decide) rfl (hg_one rfl) rfl hl.1 rfl (Nat.le_of_ble_eq_true rfl) dL_tells_242 ⟨by show _ ≤ (100 : Nat); omega, by show _ ≤ (600 : Nat); omega⟩ (fun H locs hw => ?_)
                            have hw : LO D cI cL cZ A s Gs [tyA (tlS a x i) 112] H locs := hw
                            refine W.widen (k := 10 + 7 * i + 1) (n := 6 * (10 + 7 * i + 1)) (Nat.le_refl _) (by omega) ?_
                            refine lv_lconst (v := 0) hx hb dL_tells_245 (by decide) ?_
                            refine W.lcmp hx hb dL_tells_246 ?_
                            refine lv_if_le (tgt := 286) hx hb dL_tells_247 (by decide) (fun c247 => ?_) (fun c247 => ?_)
                            · skip
                              have c247 := (lg_cmp_le _ _).mp c247
                              exact absurd c247 (jl_pos (by first | omega | (simp only [ty2, ty3, tyA]; omega)))
                            · skip
                              have c247 := (fun z => c247 ((lg_cmp_le _ _).mpr z))
                              refine lv_aload_n hx hb dL_tells_250 rfl (lv_at hl 3 rfl) ?_
                              refine lv_iload hx hb dL_tells_251 (lv_at hl 0 rfl) ?_
                              refine lv_bipush (v := 7) hx hb dL_tells_253 (by decide) ?_
                              refine lv_idiv hx hb dL_tells_255 (by decide) ?_
                              refine lv_as (y := nI ((x / 2 ^ i % 2 ^ 16) / 7)) (pk_div (a := x / 2 ^ i % 2 ^ 16) (d := 7) (by omega) (by decide) (by decide)) ?_
                              refine lv_iconst (v := 5) hx hb dL_tells_256 (by decide) ?_
                              refine lv_irem hx hb dL_tells_257 (by decide) ?_
                              refine lv_as (y := nI (((x / 2 ^ i % 2 ^ 16) / 7) % 5)) (pk_rem (a := (x / 2 ^ i % 2 ^ 16) / 7) (d := 5) (by omega) (by decide) (by decide)) ?_
                              refine lv_iconst (v := 2) hx hb dL_tells_258 (by decide) ?_
                              refine lo_callZ hF (c_types2 l hst D cI cL cZ (fun _ => Gs 0) hG (tyA (tlS a x i) 112) (show Go (tyA (tlS a x i) 112) from ⟨by first | omega | (simp only [ty2, ty3, tyA]; omega), hz9⟩) (((x / 2 ^ i % 2 ^ 16) / 7) % 5) (by omega) (by first | omega | (simp only [ty2, ty3, tyA]; omega))) k_types ⟨Nat.le_of_ble_eq_true rfl, Nat.le_of_ble_eq_true rfl⟩ hw [0] (by decide) rfl (hg_one rfl) rfl hl.1 rfl (Nat.le_of_ble_eq_true rfl) dL_tells_259 ⟨by show _ ≤ (100 : Nat); omega, by show _ ≤ (600 : Nat); omega⟩ (fun H locs hw => ?_)
                              have hw : LO D cI cL cZ A s Gs [ty2 (tyA (tlS a x i) 112) (((x / 2 ^ i % 2 ^ 16) / 7) % 5)] H locs := hw
                              refine W.widen (k := 10 + 7 * i + 1 + 3) (n := 6 * (10 + 7 * i + 1 + 3)) (Nat.le_refl _) (by omega) ?_
                              refine lv_if_eq (tgt := 286) hx hb dL_tells_262 (by decide) (fun c262 => ?_) (fun c262 => ?_)
                              · skip
                                exact absurd c262 (by decide)
                              · skip
                                refine lv_aload_n hx hb dL_tells_265 rfl (lv_at hl 3 rfl) ?_
                                refine lv_iload hx hb dL_tells_266 (lv_at hl 0 rfl) ?_
                                refine lv_bipush (v := 35) hx hb dL_tells_268 (by decide) ?_
                                refine lv_idiv hx hb dL_tells_270 (by decide) ?_
                                refine lv_as (y := nI ((x / 2 ^ i % 2 ^ 16) / 35)) (pk_div (a := x / 2 ^ i % 2 ^ 16) (d := 35) (by omega) (by decide) (by decide)) ?_
                                refine lv_sipush (v := 1000) hx hb dL_tells_271 (by decide) ?_
                                refine lv_irem hx hb dL_tells_274 (by decide) ?_
                                refine lv_as (y := nI (((x / 2 ^ i % 2 ^ 16) / 35) % 1000)) (pk_rem (a := (x / 2 ^ i % 2 ^ 16) / 35) (d := 1000) (by omega) (by decide) (by decide)) ?_
                                refine lv_iconst (v := 3) hx hb dL_tells_275 (by decide) ?_
                                refine lo_callZ hF (c_types3 l hst D cI cL cZ (fun _ => Gs 0) hG (ty2 (tyA (tlS a x i) 112) (((x / 2 ^ i % 2 ^ 16) / 7) % 5)) (show Go (ty2 (tyA (tlS a x i) 112) (((x / 2 ^ i % 2 ^ 16) / 7) % 5)) from ⟨by first | omega | (simp only [ty2, ty3, tyA]; omega), hz9⟩) (((x / 2 ^ i % 2 ^ 16) / 35) % 1000) (by omega) (by first | omega | (simp only [ty2, ty3, tyA]; omega))) k_types ⟨Nat.le_of_ble_eq_true rfl, Nat.le_of_ble_eq_true rfl⟩ hw [0] (by decide) rfl (hg_one rfl) rfl hl.1 rfl (Nat.le_of_ble_eq_true rfl) dL_tells_276 ⟨by show _ ≤ (100 : Nat); omega, by show _ ≤ (600 : Nat); omega⟩ (fun H locs hw => ?_)
                                have hw : LO D cI cL cZ A s Gs [ty3 (ty2 (tyA (tlS a x i) 112) (((x / 2 ^ i % 2 ^ 16) / 7) % 5)) (((x / 2 ^ i % 2 ^ 16) / 35) % 1000)] H locs := hw
                                refine W.widen (k := 10 + 7 * i + 1 + 3 + 3) (n := 6 * (10 + 7 * i + 1 + 3 + 3)) (Nat.le_refl _) (by omega) ?_
                                refine lv_if_eq (tgt := 286) hx hb dL_tells_279 (by decide) (fun c279 => ?_) (fun c279 => ?_)
                                · skip
                                  exact absurd c279 (by decide)
                                · skip
                                  refine lv_iconst (v := 1) hx hb dL_tells_282 (by decide) ?_
                                  refine lv_goto (tgt := 287) hx hb dL_tells_283 (by decide) ?_
                                  refine lv_istore_n (lv' := [(3, .int (1)), (5, .int (nI (x / 2 ^ i % 2 ^ 16))), (4, .int (nI (i))), (0, .ref ((Gs 0).1 1)), (1, .int (nI (x))), (2, .int (nI (y)))]) hx hb dL_tells_287 rfl hl (by decide) rfl (fun ls hl => ?_)
                                  refine lv_iinc (v := nI (i + 1)) (lv' := [(4, .int (nI (i + 1))), (3, .int (1)), (5, .int (nI (x / 2 ^ i % 2 ^ 16))), (0, .ref ((Gs 0).1 1)), (1, .int (nI (x))), (2, .int (nI (y)))]) hx hb dL_tells_288 hl (k := 2) rfl (nI_add _ 1) (by decide) rfl (fun ls hl => ?_)
                                  refine lv_goto (tgt := 75) hx hb dL_tells_291 (by decide) ?_
                                  have hl : lv_has ls 6 [(4, .int (nI ((i + 1)))), (3, .int (1)), (5, .int (nI (x / 2 ^ i % 2 ^ 16))), (0, .ref ((Gs 0).1 1)), (1, .int (nI (x))), (2, .int (nI (y)))] := lv_re hl 0 rfl (show (nI (i + 1)) = nI ((i + 1)) from rfl)
                                  have hw : LO D cI cL cZ A s Gs [tlS a x (i + 1)] H locs := by
                                    rw [show ([tlS a x (i + 1)] : List AS) = [ty3 (ty2 (tyA (tlS a x i) 112) (((x / 2 ^ i % 2 ^ 16) / 7) % 5)) (((x / 2 ^ i % 2 ^ 16) / 35) % 1000)] from (by show [tlC (tlS a x i) (x / 2 ^ i % 2 ^ 16)] = _; rw [tlC, if_neg c102, if_neg c145, if_neg c173, if_neg c217])]
                                    exact hw
                                  exact W.widen (by omega) (by omega) (ih75 (i + 1) _ _ _ (by omega) (by omega) hw (lv_sub hl [0, 1, 3, 4, 5] rfl))
                          · skip
                            have c217 := cn_eq (a := (x / 2 ^ i % 2 ^ 16) % 7) (b := 3) (by omega) (by omega) c217
                            refine lv_aload_n hx hb dL_tells_220 rfl (lv_at hl 3 rfl) ?_
                            refine lv_bipush (v := 115) hx hb dL_tells_221 (by decide) ?_
                            refine lo_callX hF (lx_eq (x_append (Gs := fun _ => Gs 0) hst hG (tlS_go hGo (by omega)) 115) (show _ = ((nI ((tlS a x i).1.2 + 1)).toInt64) from (tyA_ap (c := 115) (by first | omega | (simp only [ty2, ty3, tyA]; omega)) (by omega)).1) (show _ = [tyA (tlS a x i) 115] from congrArg (fun y => [y]) (tyA_ap (c := 115) (by first | omega | (simp only [ty2, ty3, tyA]; omega)) (by omega)).2)) k_append ⟨Nat.le_of_ble_eq_true rfl, Nat.le_of_ble_eq_true rfl⟩ hw [0] (by decide) rfl (hg_one rfl) rfl hl.1 rfl (Nat.le_of_ble_eq_true rfl) dL_tells_223 ⟨by show _ ≤ (100 : Nat); omega, by show _ ≤ (600 : Nat); omega⟩ (fun H locs hw => ?_)
                            have hw : LO D cI cL cZ A s Gs [tyA (tlS a x i) 115] H locs := hw
                            refine W.widen (k := 10 + 7 * i + 1) (n := 6 * (10 + 7 * i + 1)) (Nat.le_refl _) (by omega) ?_
                            refine lv_lconst (v := 0) hx hb dL_tells_226 (by decide) ?_
                            refine W.lcmp hx hb dL_tells_227 ?_
                            refine lv_if_le (tgt := 235) hx hb dL_tells_228 (by decide) (fun c228 => ?_) (fun c228 => ?_)
                            · skip
                              have c228 := (lg_cmp_le _ _).mp c228
                              exact absurd c228 (jl_pos (by first | omega | (simp only [ty2, ty3, tyA]; omega)))
                            · skip
                              have c228 := (fun z => c228 ((lg_cmp_le _ _).mpr z))
                              refine lv_iconst (v := 1) hx hb dL_tells_231 (by decide) ?_
                              refine lv_goto (tgt := 287) hx hb dL_tells_232 (by decide) ?_
                              refine lv_istore_n (lv' := [(3, .int (1)), (5, .int (nI (x / 2 ^ i % 2 ^ 16))), (4, .int (nI (i))), (0, .ref ((Gs 0).1 1)), (1, .int (nI (x))), (2, .int (nI (y)))]) hx hb dL_tells_287 rfl hl (by decide) rfl (fun ls hl => ?_)
                              refine lv_iinc (v := nI (i + 1)) (lv' := [(4, .int (nI (i + 1))), (3, .int (1)), (5, .int (nI (x / 2 ^ i % 2 ^ 16))), (0, .ref ((Gs 0).1 1)), (1, .int (nI (x))), (2, .int (nI (y)))]) hx hb dL_tells_288 hl (k := 2) rfl (nI_add _ 1) (by decide) rfl (fun ls hl => ?_)
                              refine lv_goto (tgt := 75) hx hb dL_tells_291 (by decide) ?_
                              have hl : lv_has ls 6 [(4, .int (nI ((i + 1)))), (3, .int (1)), (5, .int (nI (x / 2 ^ i % 2 ^ 16))), (0, .ref ((Gs 0).1 1)), (1, .int (nI (x))), (2, .int (nI (y)))] := lv_re hl 0 rfl (show (nI (i + 1)) = nI ((i + 1)) from rfl)
                              have hw : LO D cI cL cZ A s Gs [tlS a x (i + 1)] H locs := by
                                rw [show ([tlS a x (i + 1)] : List AS) = [tyA (tlS a x i) 115] from (by show [tlC (tlS a x i) (x / 2 ^ i % 2 ^ 16)] = _; rw [tlC, if_neg c102, if_neg c145, if_neg c173, if_pos c217])]
                                exact hw
                              exact W.widen (by omega) (by omega) (ih75 (i + 1) _ _ _ (by omega) (by omega) hw (lv_sub hl [0, 1, 3, 4, 5] rfl))
                        · skip
                          have c173 := cn_eq (a := (x / 2 ^ i % 2 ^ 16) % 7) (b := 2) (by omega) (by omega) c173
                          refine lv_aload_n hx hb dL_tells_176 rfl (lv_at hl 3 rfl) ?_
                          refine lv_bipush (v := 99) hx hb dL_tells_177 (by decide) ?_
                          refine lo_callX hF (lx_eq (x_append (Gs := fun _ => Gs 0) hst hG (tlS_go hGo (by omega)) 99) (show _ = ((nI ((tlS a x i).1.2 + 1)).toInt64) from (tyA_ap (c := 99) (by first | omega | (simp only [ty2, ty3, tyA]; omega)) (by omega)).1) (show _ = [tyA (tlS a x i) 99] from congrArg (fun y => [y]) (tyA_ap (c := 99) (by first | omega | (simp only [ty2, ty3, tyA]; omega)) (by omega)).2)) k_append ⟨Nat.le_of_ble_eq_true rfl, Nat.le_of_ble_eq_true rfl⟩ hw [0] (by decide) rfl (hg_one rfl) rfl hl.1 rfl (Nat.le_of_ble_eq_true rfl) dL_tells_179 ⟨by show _ ≤ (100 : Nat); omega, by show _ ≤ (600 : Nat); omega⟩ (fun H locs hw => ?_)
                          have hw : LO D cI cL cZ A s Gs [tyA (tlS a x i) 99] H locs := hw
                          refine W.widen (k := 10 + 7 * i + 1) (n := 6 * (10 + 7 * i + 1)) (Nat.le_refl _) (by omega) ?_
                          refine lv_lconst (v := 0) hx hb dL_tells_182 (by decide) ?_
                          refine W.lcmp hx hb dL_tells_183 ?_
                          refine lv_if_le (tgt := 207) hx hb dL_tells_184 (by decide) (fun c184 => ?_) (fun c184 => ?_)
                          · skip
                            have c184 := (lg_cmp_le _ _).mp c184
                            exact absurd c184 (jl_pos (by first | omega | (simp only [ty2, ty3, tyA]; omega)))
                          · skip
                            have c184 := (fun z => c184 ((lg_cmp_le _ _).mpr z))
                            refine lv_aload_n hx hb dL_tells_187 rfl (lv_at hl 3 rfl) ?_
                            refine lv_iload hx hb dL_tells_188 (lv_at hl 0 rfl) ?_
                            refine lv_bipush (v := 7) hx hb dL_tells_190 (by decide) ?_
                            refine lv_idiv hx hb dL_tells_192 (by decide) ?_
                            refine lv_as (y := nI ((x / 2 ^ i % 2 ^ 16) / 7)) (pk_div (a := x / 2 ^ i % 2 ^ 16) (d := 7) (by omega) (by decide) (by decide)) ?_
                            refine lv_bipush (v := 30) hx hb dL_tells_193 (by decide) ?_
                            refine lv_irem hx hb dL_tells_195 (by decide) ?_
                            refine lv_as (y := nI (((x / 2 ^ i % 2 ^ 16) / 7) % 30)) (pk_rem (a := (x / 2 ^ i % 2 ^ 16) / 7) (d := 30) (by omega) (by decide) (by decide)) ?_
                            refine lv_iconst (v := 2) hx hb dL_tells_196 (by decide) ?_
                            refine lo_callZ hF (c_types2 l hst D cI cL cZ (fun _ => Gs 0) hG (tyA (tlS a x i) 99) (show Go (tyA (tlS a x i) 99) from ⟨by first | omega | (simp only [ty2, ty3, tyA]; omega), hz9⟩) (((x / 2 ^ i % 2 ^ 16) / 7) % 30) (by omega) (by first | omega | (simp only [ty2, ty3, tyA]; omega))) k_types ⟨Nat.le_of_ble_eq_true rfl, Nat.le_of_ble_eq_true rfl⟩ hw [0] (by decide) rfl (hg_one rfl) rfl hl.1 rfl (Nat.le_of_ble_eq_true rfl) dL_tells_197 ⟨by show _ ≤ (100 : Nat); omega, by show _ ≤ (600 : Nat); omega⟩ (fun H locs hw => ?_)
                            have hw : LO D cI cL cZ A s Gs [ty2 (tyA (tlS a x i) 99) (((x / 2 ^ i % 2 ^ 16) / 7) % 30)] H locs := hw
                            refine W.widen (k := 10 + 7 * i + 1 + 3) (n := 6 * (10 + 7 * i + 1 + 3)) (Nat.le_refl _) (by omega) ?_
                            refine lv_if_eq (tgt := 207) hx hb dL_tells_200 (by decide) (fun c200 => ?_) (fun c200 => ?_)
                            · skip
                              exact absurd c200 (by decide)
                            · skip
                              refine lv_iconst (v := 1) hx hb dL_tells_203 (by decide) ?_
                              refine lv_goto (tgt := 287) hx hb dL_tells_204 (by decide) ?_
                              refine lv_istore_n (lv' := [(3, .int (1)), (5, .int (nI (x / 2 ^ i % 2 ^ 16))), (4, .int (nI (i))), (0, .ref ((Gs 0).1 1)), (1, .int (nI (x))), (2, .int (nI (y)))]) hx hb dL_tells_287 rfl hl (by decide) rfl (fun ls hl => ?_)
                              refine lv_iinc (v := nI (i + 1)) (lv' := [(4, .int (nI (i + 1))), (3, .int (1)), (5, .int (nI (x / 2 ^ i % 2 ^ 16))), (0, .ref ((Gs 0).1 1)), (1, .int (nI (x))), (2, .int (nI (y)))]) hx hb dL_tells_288 hl (k := 2) rfl (nI_add _ 1) (by decide) rfl (fun ls hl => ?_)
                              refine lv_goto (tgt := 75) hx hb dL_tells_291 (by decide) ?_
                              have hl : lv_has ls 6 [(4, .int (nI ((i + 1)))), (3, .int (1)), (5, .int (nI (x / 2 ^ i % 2 ^ 16))), (0, .ref ((Gs 0).1 1)), (1, .int (nI (x))), (2, .int (nI (y)))] := lv_re hl 0 rfl (show (nI (i + 1)) = nI ((i + 1)) from rfl)
                              have hw : LO D cI cL cZ A s Gs [tlS a x (i + 1)] H locs := by
                                rw [show ([tlS a x (i + 1)] : List AS) = [ty2 (tyA (tlS a x i) 99) (((x / 2 ^ i % 2 ^ 16) / 7) % 30)] from (by show [tlC (tlS a x i) (x / 2 ^ i % 2 ^ 16)] = _; rw [tlC, if_neg c102, if_neg c145, if_pos c173])]
                                exact hw
                              exact W.widen (by omega) (by omega) (ih75 (i + 1) _ _ _ (by omega) (by omega) hw (lv_sub hl [0, 1, 3, 4, 5] rfl))
                      · skip
                        have c145 := cn_eq (a := (x / 2 ^ i % 2 ^ 16) % 7) (b := 1) (by omega) (by omega) c145
                        refine lv_aload_n hx hb dL_tells_148 rfl (lv_at hl 3 rfl) ?_
                        refine lv_bipush (v := 119) hx hb dL_tells_149 (by decide) ?_
                        refine lo_callX hF (lx_eq (x_append (Gs := fun _ => Gs 0) hst hG (tlS_go hGo (by omega)) 119) (show _ = ((nI ((tlS a x i).1.2 + 1)).toInt64) from (tyA_ap (c := 119) (by first | omega | (simp only [ty2, ty3, tyA]; omega)) (by omega)).1) (show _ = [tyA (tlS a x i) 119] from congrArg (fun y => [y]) (tyA_ap (c := 119) (by first | omega | (simp only [ty2, ty3, tyA]; omega)) (by omega)).2)) k_append ⟨Nat.le_of_ble_eq_true rfl, Nat.le_of_ble_eq_true rfl⟩ hw [0] (by decide) rfl (hg_one rfl) rfl hl.1 rfl (Nat.le_of_ble_eq_true rfl) dL_tells_151 ⟨by show _ ≤ (100 : Nat); omega, by show _ ≤ (600 : Nat); omega⟩ (fun H locs hw => ?_)
                        have hw : LO D cI cL cZ A s Gs [tyA (tlS a x i) 119] H locs := hw
                        refine W.widen (k := 10 + 7 * i + 1) (n := 6 * (10 + 7 * i + 1)) (Nat.le_refl _) (by omega) ?_
                        refine lv_lconst (v := 0) hx hb dL_tells_154 (by decide) ?_
                        refine W.lcmp hx hb dL_tells_155 ?_
                        refine lv_if_le (tgt := 163) hx hb dL_tells_156 (by decide) (fun c156 => ?_) (fun c156 => ?_)
                        · skip
                          have c156 := (lg_cmp_le _ _).mp c156
                          exact absurd c156 (jl_pos (by first | omega | (simp only [ty2, ty3, tyA]; omega)))
                        · skip
                          have c156 := (fun z => c156 ((lg_cmp_le _ _).mpr z))
                          refine lv_iconst (v := 1) hx hb dL_tells_159 (by decide) ?_
                          refine lv_goto (tgt := 287) hx hb dL_tells_160 (by decide) ?_
                          refine lv_istore_n (lv' := [(3, .int (1)), (5, .int (nI (x / 2 ^ i % 2 ^ 16))), (4, .int (nI (i))), (0, .ref ((Gs 0).1 1)), (1, .int (nI (x))), (2, .int (nI (y)))]) hx hb dL_tells_287 rfl hl (by decide) rfl (fun ls hl => ?_)
                          refine lv_iinc (v := nI (i + 1)) (lv' := [(4, .int (nI (i + 1))), (3, .int (1)), (5, .int (nI (x / 2 ^ i % 2 ^ 16))), (0, .ref ((Gs 0).1 1)), (1, .int (nI (x))), (2, .int (nI (y)))]) hx hb dL_tells_288 hl (k := 2) rfl (nI_add _ 1) (by decide) rfl (fun ls hl => ?_)
                          refine lv_goto (tgt := 75) hx hb dL_tells_291 (by decide) ?_
                          have hl : lv_has ls 6 [(4, .int (nI ((i + 1)))), (3, .int (1)), (5, .int (nI (x / 2 ^ i % 2 ^ 16))), (0, .ref ((Gs 0).1 1)), (1, .int (nI (x))), (2, .int (nI (y)))] := lv_re hl 0 rfl (show (nI (i + 1)) = nI ((i + 1)) from rfl)
                          have hw : LO D cI cL cZ A s Gs [tlS a x (i + 1)] H locs := by
                            rw [show ([tlS a x (i + 1)] : List AS) = [tyA (tlS a x i) 119] from (by show [tlC (tlS a x i) (x / 2 ^ i % 2 ^ 16)] = _; rw [tlC, if_neg c102, if_pos c145])]
                            exact hw
                          exact W.widen (by omega) (by omega) (ih75 (i + 1) _ _ _ (by omega) (by omega) hw (lv_sub hl [0, 1, 3, 4, 5] rfl))
                    · skip
                      have c102 := cn_eq (a := (x / 2 ^ i % 2 ^ 16) % 7) (b := 0) (by omega) (by omega) c102
                      refine lv_aload_n hx hb dL_tells_105 rfl (lv_at hl 3 rfl) ?_
                      refine lv_bipush (v := 100) hx hb dL_tells_106 (by decide) ?_
                      refine lo_callX hF (lx_eq (x_append (Gs := fun _ => Gs 0) hst hG (tlS_go hGo (by omega)) 100) (show _ = ((nI ((tlS a x i).1.2 + 1)).toInt64) from (tyA_ap (c := 100) (by first | omega | (simp only [ty2, ty3, tyA]; omega)) (by omega)).1) (show _ = [tyA (tlS a x i) 100] from congrArg (fun y => [y]) (tyA_ap (c := 100) (by first | omega | (simp only [ty2, ty3, tyA]; omega)) (by omega)).2)) k_append ⟨Nat.le_of_ble_eq_true rfl, Nat.le_of_ble_eq_true rfl⟩ hw [0] (by decide) rfl (hg_one rfl) rfl hl.1 rfl (Nat.le_of_ble_eq_true rfl) dL_tells_108 ⟨by show _ ≤ (100 : Nat); omega, by show _ ≤ (600 : Nat); omega⟩ (fun H locs hw => ?_)
                      have hw : LO D cI cL cZ A s Gs [tyA (tlS a x i) 100] H locs := hw
                      refine W.widen (k := 10 + 7 * i + 1) (n := 6 * (10 + 7 * i + 1)) (Nat.le_refl _) (by omega) ?_
                      refine lv_lconst (v := 0) hx hb dL_tells_111 (by decide) ?_
                      refine W.lcmp hx hb dL_tells_112 ?_
                      refine lv_if_le (tgt := 135) hx hb dL_tells_113 (by decide) (fun c113 => ?_) (fun c113 => ?_)
                      · skip
                        have c113 := (lg_cmp_le _ _).mp c113
                        exact absurd c113 (jl_pos (by first | omega | (simp only [ty2, ty3, tyA]; omega)))
                      · skip
                        have c113 := (fun z => c113 ((lg_cmp_le _ _).mpr z))
                        refine lv_aload_n hx hb dL_tells_116 rfl (lv_at hl 3 rfl) ?_
                        refine lv_iload hx hb dL_tells_117 (lv_at hl 0 rfl) ?_
                        refine lv_bipush (v := 7) hx hb dL_tells_119 (by decide) ?_
                        refine lv_idiv hx hb dL_tells_121 (by decide) ?_
                        refine lv_as (y := nI ((x / 2 ^ i % 2 ^ 16) / 7)) (pk_div (a := x / 2 ^ i % 2 ^ 16) (d := 7) (by omega) (by decide) (by decide)) ?_
                        refine lv_iconst (v := 4) hx hb dL_tells_122 (by decide) ?_
                        refine lv_irem hx hb dL_tells_123 (by decide) ?_
                        refine lv_as (y := nI (((x / 2 ^ i % 2 ^ 16) / 7) % 4)) (pk_rem (a := (x / 2 ^ i % 2 ^ 16) / 7) (d := 4) (by omega) (by decide) (by decide)) ?_
                        refine lv_iconst (v := 2) hx hb dL_tells_124 (by decide) ?_
                        refine lo_callZ hF (c_types2 l hst D cI cL cZ (fun _ => Gs 0) hG (tyA (tlS a x i) 100) (show Go (tyA (tlS a x i) 100) from ⟨by first | omega | (simp only [ty2, ty3, tyA]; omega), hz9⟩) (((x / 2 ^ i % 2 ^ 16) / 7) % 4) (by omega) (by first | omega | (simp only [ty2, ty3, tyA]; omega))) k_types ⟨Nat.le_of_ble_eq_true rfl, Nat.le_of_ble_eq_true rfl⟩ hw [0] (by decide) rfl (hg_one rfl) rfl hl.1 rfl (Nat.le_of_ble_eq_true rfl) dL_tells_125 ⟨by show _ ≤ (100 : Nat); omega, by show _ ≤ (600 : Nat); omega⟩ (fun H locs hw => ?_)
                        have hw : LO D cI cL cZ A s Gs [ty2 (tyA (tlS a x i) 100) (((x / 2 ^ i % 2 ^ 16) / 7) % 4)] H locs := hw
                        refine W.widen (k := 10 + 7 * i + 1 + 3) (n := 6 * (10 + 7 * i + 1 + 3)) (Nat.le_refl _) (by omega) ?_
                        refine lv_if_eq (tgt := 135) hx hb dL_tells_128 (by decide) (fun c128 => ?_) (fun c128 => ?_)
                        · skip
                          exact absurd c128 (by decide)
                        · skip
                          refine lv_iconst (v := 1) hx hb dL_tells_131 (by decide) ?_
                          refine lv_goto (tgt := 287) hx hb dL_tells_132 (by decide) ?_
                          refine lv_istore_n (lv' := [(3, .int (1)), (5, .int (nI (x / 2 ^ i % 2 ^ 16))), (4, .int (nI (i))), (0, .ref ((Gs 0).1 1)), (1, .int (nI (x))), (2, .int (nI (y)))]) hx hb dL_tells_287 rfl hl (by decide) rfl (fun ls hl => ?_)
                          refine lv_iinc (v := nI (i + 1)) (lv' := [(4, .int (nI (i + 1))), (3, .int (1)), (5, .int (nI (x / 2 ^ i % 2 ^ 16))), (0, .ref ((Gs 0).1 1)), (1, .int (nI (x))), (2, .int (nI (y)))]) hx hb dL_tells_288 hl (k := 2) rfl (nI_add _ 1) (by decide) rfl (fun ls hl => ?_)
                          refine lv_goto (tgt := 75) hx hb dL_tells_291 (by decide) ?_
                          have hl : lv_has ls 6 [(4, .int (nI ((i + 1)))), (3, .int (1)), (5, .int (nI (x / 2 ^ i % 2 ^ 16))), (0, .ref ((Gs 0).1 1)), (1, .int (nI (x))), (2, .int (nI (y)))] := lv_re hl 0 rfl (show (nI (i + 1)) = nI ((i + 1)) from rfl)
                          have hw : LO D cI cL cZ A s Gs [tlS a x (i + 1)] H locs := by
                            rw [show ([tlS a x (i + 1)] : List AS) = [ty2 (tyA (tlS a x i) 100) (((x / 2 ^ i % 2 ^ 16) / 7) % 4)] from (by show [tlC (tlS a x i) (x / 2 ^ i % 2 ^ 16)] = _; rw [tlC, if_pos c102])]
                            exact hw
                          exact W.widen (by omega) (by omega) (ih75 (i + 1) _ _ _ (by omega) (by omega) hw (lv_sub hl [0, 1, 3, 4, 5] rfl))
            have hl : lv_has ls 6 [(4, .int (nI (0))), (3, .int (1)), (0, .ref ((Gs 0).1 1)), (1, .int (nI (x))), (2, .int (nI (y)))] := lv_re hl 0 rfl (show 0 = nI (0) from rfl)
            have hw : LO D cI cL cZ A s Gs [tlS a x 0] H locs := by
              rw [show ([tlS a x 0] : List AS) = [ty2 (tyA (tyA ((a.1.1, 0), a.2) 70) (48 + (3 + x % 6) / 1 % 10)) (1 + (x / 6) % 3)] from (by show [tl0 a x] = _; rw [tl0, if_pos c36])]
              exact hw
            exact W.widen (by omega) (by omega) (LP75 ((y % 12 - 0) + 1) 0 _ _ _ (by omega) (by omega) hw (lv_sub hl [0, 1, 2, 3, 4] rfl))
theorem dL_act_0 : decode cL_act 0 = .ok (.iload_n 1, 1) := by decide +kernel
theorem dL_act_1 : decode cL_act 1 = .ok (.bipush 18, 2) := by decide +kernel
theorem dL_act_3 : decode cL_act 3 = .ok (.irem, 1) := by decide +kernel
theorem dL_act_4 : decode cL_act 4 = .ok (.tableswitch 132 0 11 #[64, 64, 64, 72, 72, 77, 77, 86, 86, 91, 99, 104], 64) := by decide +kernel
theorem dL_act_68 : decode cL_act 68 = .ok (.aload_n 0, 1) := by decide +kernel
theorem dL_act_69 : decode cL_act 69 = .ok (.iload_n 2, 1) := by decide +kernel
theorem dL_act_70 : decode cL_act 70 = .ok (.iconst 5, 1) := by decide +kernel
theorem dL_act_71 : decode cL_act 71 = .ok (.irem, 1) := by decide +kernel
theorem dL_act_72 : decode cL_act 72 = .ok (.invokestatic 140, 3) := by decide +kernel
theorem dL_act_75 : decode cL_act 75 = .ok (.lreturn, 1) := by decide +kernel
theorem dL_act_76 : decode cL_act 76 = .ok (.aload_n 0, 1) := by decide +kernel
theorem dL_act_77 : decode cL_act 77 = .ok (.invokestatic 147, 3) := by decide +kernel
theorem dL_act_80 : decode cL_act 80 = .ok (.lreturn, 1) := by decide +kernel
theorem dL_act_81 : decode cL_act 81 = .ok (.aload_n 0, 1) := by decide +kernel
theorem dL_act_82 : decode cL_act 82 = .ok (.iload_n 2, 1) := by decide +kernel
theorem dL_act_83 : decode cL_act 83 = .ok (.bipush 14, 2) := by decide +kernel
theorem dL_act_85 : decode cL_act 85 = .ok (.irem, 1) := by decide +kernel
theorem dL_act_86 : decode cL_act 86 = .ok (.invokestatic 149, 3) := by decide +kernel
theorem dL_act_89 : decode cL_act 89 = .ok (.lreturn, 1) := by decide +kernel
theorem dL_act_90 : decode cL_act 90 = .ok (.aload_n 0, 1) := by decide +kernel
theorem dL_act_91 : decode cL_act 91 = .ok (.invokestatic 151, 3) := by decide +kernel
theorem dL_act_94 : decode cL_act 94 = .ok (.lreturn, 1) := by decide +kernel
theorem dL_act_95 : decode cL_act 95 = .ok (.aload_n 0, 1) := by decide +kernel
theorem dL_act_96 : decode cL_act 96 = .ok (.iload_n 2, 1) := by decide +kernel
theorem dL_act_97 : decode cL_act 97 = .ok (.iconst 3, 1) := by decide +kernel
theorem dL_act_98 : decode cL_act 98 = .ok (.irem, 1) := by decide +kernel
theorem dL_act_99 : decode cL_act 99 = .ok (.invokestatic 153, 3) := by decide +kernel
theorem dL_act_102 : decode cL_act 102 = .ok (.lreturn, 1) := by decide +kernel
theorem dL_act_103 : decode cL_act 103 = .ok (.aload_n 0, 1) := by decide +kernel
theorem dL_act_104 : decode cL_act 104 = .ok (.invokestatic 201, 3) := by decide +kernel
theorem dL_act_107 : decode cL_act 107 = .ok (.lreturn, 1) := by decide +kernel
theorem dL_act_108 : decode cL_act 108 = .ok (.iload_n 2, 1) := by decide +kernel
theorem dL_act_109 : decode cL_act 109 = .ok (.iconst 2, 1) := by decide +kernel
theorem dL_act_110 : decode cL_act 110 = .ok (.irem, 1) := by decide +kernel
theorem dL_act_111 : decode cL_act 111 = .ok (.ifCond .ne 15, 3) := by decide +kernel
theorem dL_act_114 : decode cL_act 114 = .ok (.aload_n 0, 1) := by decide +kernel
theorem dL_act_115 : decode cL_act 115 = .ok (.iload_n 2, 1) := by decide +kernel
theorem dL_act_116 : decode cL_act 116 = .ok (.iconst 2, 1) := by decide +kernel
theorem dL_act_117 : decode cL_act 117 = .ok (.idiv, 1) := by decide +kernel
theorem dL_act_118 : decode cL_act 118 = .ok (.iconst 1, 1) := by decide +kernel
theorem dL_act_119 : decode cL_act 119 = .ok (.iand, 1) := by decide +kernel
theorem dL_act_120 : decode cL_act 120 = .ok (.invokestatic 166, 3) := by decide +kernel
theorem dL_act_123 : decode cL_act 123 = .ok (.goto 12, 3) := by decide +kernel
theorem dL_act_126 : decode cL_act 126 = .ok (.aload_n 0, 1) := by decide +kernel
theorem dL_act_127 : decode cL_act 127 = .ok (.iload_n 2, 1) := by decide +kernel
theorem dL_act_128 : decode cL_act 128 = .ok (.iconst 2, 1) := by decide +kernel
theorem dL_act_129 : decode cL_act 129 = .ok (.idiv, 1) := by decide +kernel
theorem dL_act_130 : decode cL_act 130 = .ok (.iconst 1, 1) := by decide +kernel
theorem dL_act_131 : decode cL_act 131 = .ok (.iand, 1) := by decide +kernel
theorem dL_act_132 : decode cL_act 132 = .ok (.invokestatic 168, 3) := by decide +kernel
theorem dL_act_135 : decode cL_act 135 = .ok (.lreturn, 1) := by decide +kernel
theorem dL_act_136 : decode cL_act 136 = .ok (.aload_n 0, 1) := by decide +kernel
theorem dL_act_137 : decode cL_act 137 = .ok (.iload_n 2, 1) := by decide +kernel
theorem dL_act_138 : decode cL_act 138 = .ok (.iconst 3, 1) := by decide +kernel
theorem dL_act_139 : decode cL_act 139 = .ok (.irem, 1) := by decide +kernel
theorem dL_act_140 : decode cL_act 140 = .ok (.ifCond .ne 12, 3) := by decide +kernel
theorem dL_act_143 : decode cL_act 143 = .ok (.iload_n 2, 1) := by decide +kernel
theorem dL_act_144 : decode cL_act 144 = .ok (.iconst 3, 1) := by decide +kernel
theorem dL_act_145 : decode cL_act 145 = .ok (.idiv, 1) := by decide +kernel
theorem dL_act_146 : decode cL_act 146 = .ok (.bipush 16, 2) := by decide +kernel
theorem dL_act_148 : decode cL_act 148 = .ok (.irem, 1) := by decide +kernel
theorem dL_act_149 : decode cL_act 149 = .ok (.goto 6, 3) := by decide +kernel
theorem dL_act_152 : decode cL_act 152 = .ok (.iload_n 2, 1) := by decide +kernel
theorem dL_act_153 : decode cL_act 153 = .ok (.iconst 5, 1) := by decide +kernel
theorem dL_act_154 : decode cL_act 154 = .ok (.irem, 1) := by decide +kernel
theorem dL_act_155 : decode cL_act 155 = .ok (.iload_n 2, 1) := by decide +kernel
theorem dL_act_156 : decode cL_act 156 = .ok (.iconst 5, 1) := by decide +kernel
theorem dL_act_157 : decode cL_act 157 = .ok (.idiv, 1) := by decide +kernel
theorem dL_act_158 : decode cL_act 158 = .ok (.sipush 1000, 3) := by decide +kernel
theorem dL_act_161 : decode cL_act 161 = .ok (.irem, 1) := by decide +kernel
theorem dL_act_162 : decode cL_act 162 = .ok (.invokestatic 133, 3) := by decide +kernel
theorem dL_act_165 : decode cL_act 165 = .ok (.lreturn, 1) := by decide +kernel
set_option maxHeartbeats 8000000 in
set_option maxRecDepth 100000 in
theorem c_act (l : Launch) (hst : l.stackTraces = false) (D : va_G) (cI cL cZ : ClassId) (Gs : Nat → Geo) (hG : GeoOk (Gs 0)) (a : AS) (hGo : Go a) (x y : Nat) (hx9 : x < 2 ^ 31) (hy9 : y < 2 ^ 31) : LJ l yL_act cL_act 3 8 189 1 6 D cI cL cZ Gs [a] [.ref ((Gs 0).1 1), .int (nI (x)), .int (nI (y))] ((acR a x y).1) [(acR a x y).2] := by
  refine lj_of (by decide) rfl (Nat.le_of_ble_eq_true rfl) ?_
  intro p e s m below meth c ls H A hF hr hlocks hw hl
  have hx := hF.1.1
  have hb := hF.1.2.1
  have hown := hF.1.2.2.2.1
  have hts := hF.1.2.2.2.2
  have hl : lv_has ls 3 [(0, .ref ((Gs 0).1 1)), (1, .int (nI (x))), (2, .int (nI (y)))] := hl
  refine W.widen (k := 0) (n := 6 * 0) (Nat.le_refl _) (Nat.le_refl _) ?_
  refine lv_iload_n hx hb dL_act_0 rfl (lv_at hl 1 rfl) ?_
  refine lv_bipush (v := 18) hx hb dL_act_1 (by decide) ?_
  refine lv_irem hx hb dL_act_3 (by decide) ?_
  refine lv_as (y := nI (x % 18)) (pk_rem (a := x) (d := 18) (by omega) (by decide) (by decide)) ?_
  rcases (show x % 18 = 0 ∨ x % 18 = 1 ∨ x % 18 = 2 ∨ x % 18 = 3 ∨ x % 18 = 4 ∨ x % 18 = 5 ∨ x % 18 = 6 ∨ x % 18 = 7 ∨ x % 18 = 8 ∨ x % 18 = 9 ∨ x % 18 = 10 ∨ x % 18 = 11 ∨ x % 18 = 12 ∨ x % 18 = 13 ∨ x % 18 = 14 ∨ x % 18 = 15 ∨ x % 18 = 16 ∨ x % 18 = 17 by omega) with h18 | h18 | h18 | h18 | h18 | h18 | h18 | h18 | h18 | h18 | h18 | h18 | h18 | h18 | h18 | h18 | h18 | h18
  · skip
    refine lv_as (show nI (x % 18) = 0 from by rw [h18]; rfl) ?_
    refine lv_tableIn (off := 64) (tgt := 68) hx hb dL_act_4 (by decide) (by decide) (by decide) (by decide) ?_
    refine lv_aload_n hx hb dL_act_68 rfl (lv_at hl 0 rfl) ?_
    refine lv_iload_n hx hb dL_act_69 rfl (lv_at hl 2 rfl) ?_
    refine lv_iconst (v := 5) hx hb dL_act_70 (by decide) ?_
    refine lv_irem hx hb dL_act_71 (by decide) ?_
    refine lv_as (y := nI (y % 5)) (pk_rem (a := y) (d := 5) (by omega) (by decide) (by decide)) ?_
    refine lo_callX hF (x_remove (Gs := fun _ => Gs 0) hst hG hGo (nI (y % 5))) k_remove ⟨Nat.le_of_ble_eq_true rfl, Nat.le_of_ble_eq_true rfl⟩ hw [0] (by decide) rfl (hg_one rfl) rfl hl.1 rfl (Nat.le_of_ble_eq_true rfl) dL_act_72 ⟨by show _ ≤ (1 : Nat); omega, by show _ ≤ (6 : Nat); omega⟩ (fun H locs hw => ?_)
    have hw : LO D cI cL cZ A s Gs [reA a (nI (y % 5))] H locs := hw
    refine W.widen (k := 0 + 1) (n := 6 * (0 + 1)) (Nat.le_refl _) (by omega) ?_
    have hw : LO D cI cL cZ A s Gs [(acR a x y).2] H locs := by
      rw [acR_rem (by omega)]
      exact hw
    exact lo_retl hF hr hlocks hw ((by rw [acR_rem (by omega)])) (by omega) (by omega) dL_act_75
  · skip
    refine lv_as (show nI (x % 18) = 1 from by rw [h18]; rfl) ?_
    refine lv_tableIn (off := 64) (tgt := 68) hx hb dL_act_4 (by decide) (by decide) (by decide) (by decide) ?_
    refine lv_aload_n hx hb dL_act_68 rfl (lv_at hl 0 rfl) ?_
    refine lv_iload_n hx hb dL_act_69 rfl (lv_at hl 2 rfl) ?_
    refine lv_iconst (v := 5) hx hb dL_act_70 (by decide) ?_
    refine lv_irem hx hb dL_act_71 (by decide) ?_
    refine lv_as (y := nI (y % 5)) (pk_rem (a := y) (d := 5) (by omega) (by decide) (by decide)) ?_
    refine lo_callX hF (x_remove (Gs := fun _ => Gs 0) hst hG hGo (nI (y % 5))) k_remove ⟨Nat.le_of_ble_eq_true rfl, Nat.le_of_ble_eq_true rfl⟩ hw [0] (by decide) rfl (hg_one rfl) rfl hl.1 rfl (Nat.le_of_ble_eq_true rfl) dL_act_72 ⟨by show _ ≤ (1 : Nat); omega, by show _ ≤ (6 : Nat); omega⟩ (fun H locs hw => ?_)
    have hw : LO D cI cL cZ A s Gs [reA a (nI (y % 5))] H locs := hw
    refine W.widen (k := 0 + 1) (n := 6 * (0 + 1)) (Nat.le_refl _) (by omega) ?_
    have hw : LO D cI cL cZ A s Gs [(acR a x y).2] H locs := by
      rw [acR_rem (by omega)]
      exact hw
    exact lo_retl hF hr hlocks hw ((by rw [acR_rem (by omega)])) (by omega) (by omega) dL_act_75
  · skip
    refine lv_as (show nI (x % 18) = 2 from by rw [h18]; rfl) ?_
    refine lv_tableIn (off := 64) (tgt := 68) hx hb dL_act_4 (by decide) (by decide) (by decide) (by decide) ?_
    refine lv_aload_n hx hb dL_act_68 rfl (lv_at hl 0 rfl) ?_
    refine lv_iload_n hx hb dL_act_69 rfl (lv_at hl 2 rfl) ?_
    refine lv_iconst (v := 5) hx hb dL_act_70 (by decide) ?_
    refine lv_irem hx hb dL_act_71 (by decide) ?_
    refine lv_as (y := nI (y % 5)) (pk_rem (a := y) (d := 5) (by omega) (by decide) (by decide)) ?_
    refine lo_callX hF (x_remove (Gs := fun _ => Gs 0) hst hG hGo (nI (y % 5))) k_remove ⟨Nat.le_of_ble_eq_true rfl, Nat.le_of_ble_eq_true rfl⟩ hw [0] (by decide) rfl (hg_one rfl) rfl hl.1 rfl (Nat.le_of_ble_eq_true rfl) dL_act_72 ⟨by show _ ≤ (1 : Nat); omega, by show _ ≤ (6 : Nat); omega⟩ (fun H locs hw => ?_)
    have hw : LO D cI cL cZ A s Gs [reA a (nI (y % 5))] H locs := hw
    refine W.widen (k := 0 + 1) (n := 6 * (0 + 1)) (Nat.le_refl _) (by omega) ?_
    have hw : LO D cI cL cZ A s Gs [(acR a x y).2] H locs := by
      rw [acR_rem (by omega)]
      exact hw
    exact lo_retl hF hr hlocks hw ((by rw [acR_rem (by omega)])) (by omega) (by omega) dL_act_75
  · skip
    refine lv_as (show nI (x % 18) = 3 from by rw [h18]; rfl) ?_
    refine lv_tableIn (off := 72) (tgt := 76) hx hb dL_act_4 (by decide) (by decide) (by decide) (by decide) ?_
    refine lv_aload_n hx hb dL_act_76 rfl (lv_at hl 0 rfl) ?_
    refine lo_callX hF (x_sweep (Gs := fun _ => Gs 0) hst hG hGo ) k_sweep ⟨Nat.le_of_ble_eq_true rfl, Nat.le_of_ble_eq_true rfl⟩ hw [0] (by decide) rfl (hg_one rfl) rfl hl.1 rfl (Nat.le_of_ble_eq_true rfl) dL_act_77 ⟨by show _ ≤ (1 : Nat); omega, by show _ ≤ (6 : Nat); omega⟩ (fun H locs hw => ?_)
    have hw : LO D cI cL cZ A s Gs [swA a] H locs := hw
    refine W.widen (k := 0 + 1) (n := 6 * (0 + 1)) (Nat.le_refl _) (by omega) ?_
    have hw : LO D cI cL cZ A s Gs [(acR a x y).2] H locs := by
      rw [acR_swp (by omega)]
      exact hw
    exact lo_retl hF hr hlocks hw ((by rw [acR_swp (by omega)])) (by omega) (by omega) dL_act_80
  · skip
    refine lv_as (show nI (x % 18) = 4 from by rw [h18]; rfl) ?_
    refine lv_tableIn (off := 72) (tgt := 76) hx hb dL_act_4 (by decide) (by decide) (by decide) (by decide) ?_
    refine lv_aload_n hx hb dL_act_76 rfl (lv_at hl 0 rfl) ?_
    refine lo_callX hF (x_sweep (Gs := fun _ => Gs 0) hst hG hGo ) k_sweep ⟨Nat.le_of_ble_eq_true rfl, Nat.le_of_ble_eq_true rfl⟩ hw [0] (by decide) rfl (hg_one rfl) rfl hl.1 rfl (Nat.le_of_ble_eq_true rfl) dL_act_77 ⟨by show _ ≤ (1 : Nat); omega, by show _ ≤ (6 : Nat); omega⟩ (fun H locs hw => ?_)
    have hw : LO D cI cL cZ A s Gs [swA a] H locs := hw
    refine W.widen (k := 0 + 1) (n := 6 * (0 + 1)) (Nat.le_refl _) (by omega) ?_
    have hw : LO D cI cL cZ A s Gs [(acR a x y).2] H locs := by
      rw [acR_swp (by omega)]
      exact hw
    exact lo_retl hF hr hlocks hw ((by rw [acR_swp (by omega)])) (by omega) (by omega) dL_act_80
  · skip
    refine lv_as (show nI (x % 18) = 5 from by rw [h18]; rfl) ?_
    refine lv_tableIn (off := 77) (tgt := 81) hx hb dL_act_4 (by decide) (by decide) (by decide) (by decide) ?_
    refine lv_aload_n hx hb dL_act_81 rfl (lv_at hl 0 rfl) ?_
    refine lv_iload_n hx hb dL_act_82 rfl (lv_at hl 2 rfl) ?_
    refine lv_bipush (v := 14) hx hb dL_act_83 (by decide) ?_
    refine lv_irem hx hb dL_act_85 (by decide) ?_
    refine lv_as (y := nI (y % 14)) (pk_rem (a := y) (d := 14) (by omega) (by decide) (by decide)) ?_
    refine lo_callX hF (x_cut (Gs := fun _ => Gs 0) hst hG hGo (nI (y % 14))) k_cut ⟨Nat.le_of_ble_eq_true rfl, Nat.le_of_ble_eq_true rfl⟩ hw [0] (by decide) rfl (hg_one rfl) rfl hl.1 rfl (Nat.le_of_ble_eq_true rfl) dL_act_86 ⟨by show _ ≤ (1 : Nat); omega, by show _ ≤ (6 : Nat); omega⟩ (fun H locs hw => ?_)
    have hw : LO D cI cL cZ A s Gs [cuA a (nI (y % 14))] H locs := hw
    refine W.widen (k := 0 + 1) (n := 6 * (0 + 1)) (Nat.le_refl _) (by omega) ?_
    have hw : LO D cI cL cZ A s Gs [(acR a x y).2] H locs := by
      rw [acR_cut (by omega)]
      exact hw
    exact lo_retl hF hr hlocks hw ((by rw [acR_cut (by omega)])) (by omega) (by omega) dL_act_89
  · skip
    refine lv_as (show nI (x % 18) = 6 from by rw [h18]; rfl) ?_
    refine lv_tableIn (off := 77) (tgt := 81) hx hb dL_act_4 (by decide) (by decide) (by decide) (by decide) ?_
    refine lv_aload_n hx hb dL_act_81 rfl (lv_at hl 0 rfl) ?_
    refine lv_iload_n hx hb dL_act_82 rfl (lv_at hl 2 rfl) ?_
    refine lv_bipush (v := 14) hx hb dL_act_83 (by decide) ?_
    refine lv_irem hx hb dL_act_85 (by decide) ?_
    refine lv_as (y := nI (y % 14)) (pk_rem (a := y) (d := 14) (by omega) (by decide) (by decide)) ?_
    refine lo_callX hF (x_cut (Gs := fun _ => Gs 0) hst hG hGo (nI (y % 14))) k_cut ⟨Nat.le_of_ble_eq_true rfl, Nat.le_of_ble_eq_true rfl⟩ hw [0] (by decide) rfl (hg_one rfl) rfl hl.1 rfl (Nat.le_of_ble_eq_true rfl) dL_act_86 ⟨by show _ ≤ (1 : Nat); omega, by show _ ≤ (6 : Nat); omega⟩ (fun H locs hw => ?_)
    have hw : LO D cI cL cZ A s Gs [cuA a (nI (y % 14))] H locs := hw
    refine W.widen (k := 0 + 1) (n := 6 * (0 + 1)) (Nat.le_refl _) (by omega) ?_
    have hw : LO D cI cL cZ A s Gs [(acR a x y).2] H locs := by
      rw [acR_cut (by omega)]
      exact hw
    exact lo_retl hF hr hlocks hw ((by rw [acR_cut (by omega)])) (by omega) (by omega) dL_act_89
  · skip
    refine lv_as (show nI (x % 18) = 7 from by rw [h18]; rfl) ?_
    refine lv_tableIn (off := 86) (tgt := 90) hx hb dL_act_4 (by decide) (by decide) (by decide) (by decide) ?_
    refine lv_aload_n hx hb dL_act_90 rfl (lv_at hl 0 rfl) ?_
    refine lo_callX hF (x_start (Gs := fun _ => Gs 0) hst hG hGo ) k_start ⟨Nat.le_of_ble_eq_true rfl, Nat.le_of_ble_eq_true rfl⟩ hw [0] (by decide) rfl (hg_one rfl) rfl hl.1 rfl (Nat.le_of_ble_eq_true rfl) dL_act_91 ⟨by show _ ≤ (1 : Nat); omega, by show _ ≤ (6 : Nat); omega⟩ (fun H locs hw => ?_)
    have hw : LO D cI cL cZ A s Gs [stA a] H locs := hw
    refine W.widen (k := 0 + 1) (n := 6 * (0 + 1)) (Nat.le_refl _) (by omega) ?_
    have hw : LO D cI cL cZ A s Gs [(acR a x y).2] H locs := by
      rw [acR_sta (by omega)]
      exact hw
    exact lo_retl hF hr hlocks hw ((by rw [acR_sta (by omega)])) (by omega) (by omega) dL_act_94
  · skip
    refine lv_as (show nI (x % 18) = 8 from by rw [h18]; rfl) ?_
    refine lv_tableIn (off := 86) (tgt := 90) hx hb dL_act_4 (by decide) (by decide) (by decide) (by decide) ?_
    refine lv_aload_n hx hb dL_act_90 rfl (lv_at hl 0 rfl) ?_
    refine lo_callX hF (x_start (Gs := fun _ => Gs 0) hst hG hGo ) k_start ⟨Nat.le_of_ble_eq_true rfl, Nat.le_of_ble_eq_true rfl⟩ hw [0] (by decide) rfl (hg_one rfl) rfl hl.1 rfl (Nat.le_of_ble_eq_true rfl) dL_act_91 ⟨by show _ ≤ (1 : Nat); omega, by show _ ≤ (6 : Nat); omega⟩ (fun H locs hw => ?_)
    have hw : LO D cI cL cZ A s Gs [stA a] H locs := hw
    refine W.widen (k := 0 + 1) (n := 6 * (0 + 1)) (Nat.le_refl _) (by omega) ?_
    have hw : LO D cI cL cZ A s Gs [(acR a x y).2] H locs := by
      rw [acR_sta (by omega)]
      exact hw
    exact lo_retl hF hr hlocks hw ((by rw [acR_sta (by omega)])) (by omega) (by omega) dL_act_94
  · skip
    refine lv_as (show nI (x % 18) = 9 from by rw [h18]; rfl) ?_
    refine lv_tableIn (off := 91) (tgt := 95) hx hb dL_act_4 (by decide) (by decide) (by decide) (by decide) ?_
    refine lv_aload_n hx hb dL_act_95 rfl (lv_at hl 0 rfl) ?_
    refine lv_iload_n hx hb dL_act_96 rfl (lv_at hl 2 rfl) ?_
    refine lv_iconst (v := 3) hx hb dL_act_97 (by decide) ?_
    refine lv_irem hx hb dL_act_98 (by decide) ?_
    refine lv_as (y := nI (y % 3)) (pk_rem (a := y) (d := 3) (by omega) (by decide) (by decide)) ?_
    refine lo_callX hF (x_setPolicy (Gs := fun _ => Gs 0) hst hG hGo (nI (y % 3))) k_setPolicy ⟨Nat.le_of_ble_eq_true rfl, Nat.le_of_ble_eq_true rfl⟩ hw [0] (by decide) rfl (hg_one rfl) rfl hl.1 rfl (Nat.le_of_ble_eq_true rfl) dL_act_99 ⟨by show _ ≤ (1 : Nat); omega, by show _ ≤ (6 : Nat); omega⟩ (fun H locs hw => ?_)
    have hw : LO D cI cL cZ A s Gs [poA a (nI (y % 3))] H locs := hw
    refine W.widen (k := 0 + 1) (n := 6 * (0 + 1)) (Nat.le_refl _) (by omega) ?_
    have hw : LO D cI cL cZ A s Gs [(acR a x y).2] H locs := by
      rw [acR_pol (by omega)]
      exact hw
    exact lo_retl hF hr hlocks hw ((by rw [acR_pol (by omega)])) (by omega) (by omega) dL_act_102
  · skip
    refine lv_as (show nI (x % 18) = 10 from by rw [h18]; rfl) ?_
    refine lv_tableIn (off := 99) (tgt := 103) hx hb dL_act_4 (by decide) (by decide) (by decide) (by decide) ?_
    refine lv_aload_n hx hb dL_act_103 rfl (lv_at hl 0 rfl) ?_
    refine lo_callX hF (x_undo (Gs := fun _ => Gs 0) hst hG hGo ) k_undo ⟨Nat.le_of_ble_eq_true rfl, Nat.le_of_ble_eq_true rfl⟩ hw [0] (by decide) rfl (hg_one rfl) rfl hl.1 rfl (Nat.le_of_ble_eq_true rfl) dL_act_104 ⟨by show _ ≤ (1 : Nat); omega, by show _ ≤ (6 : Nat); omega⟩ (fun H locs hw => ?_)
    have hw : LO D cI cL cZ A s Gs [unA a] H locs := hw
    refine W.widen (k := 0 + 1) (n := 6 * (0 + 1)) (Nat.le_refl _) (by omega) ?_
    have hw : LO D cI cL cZ A s Gs [(acR a x y).2] H locs := by
      rw [acR_und (by omega)]
      exact hw
    exact lo_retl hF hr hlocks hw ((by rw [acR_und (by omega)])) (by omega) (by omega) dL_act_107
  · skip
    refine lv_as (show nI (x % 18) = 11 from by rw [h18]; rfl) ?_
    refine lv_tableIn (off := 104) (tgt := 108) hx hb dL_act_4 (by decide) (by decide) (by decide) (by decide) ?_
    refine lv_iload_n hx hb dL_act_108 rfl (lv_at hl 2 rfl) ?_
    refine lv_iconst (v := 2) hx hb dL_act_109 (by decide) ?_
    refine lv_irem hx hb dL_act_110 (by decide) ?_
    refine lv_as (y := nI (y % 2)) (pk_rem (a := y) (d := 2) (by omega) (by decide) (by decide)) ?_
    refine lv_if_ne (tgt := 126) hx hb dL_act_111 (by decide) (fun c111 => ?_) (fun c111 => ?_)
    · skip
      have c111 := cn_ne (a := y % 2) (b := 0) (by omega) (by omega) c111
      refine lv_aload_n hx hb dL_act_126 rfl (lv_at hl 0 rfl) ?_
      refine lv_iload_n hx hb dL_act_127 rfl (lv_at hl 2 rfl) ?_
      refine lv_iconst (v := 2) hx hb dL_act_128 (by decide) ?_
      refine lv_idiv hx hb dL_act_129 (by decide) ?_
      refine lv_as (y := nI (y / 2)) (pk_div (a := y) (d := 2) (by omega) (by decide) (by decide)) ?_
      refine lv_iconst (v := 1) hx hb dL_act_130 (by decide) ?_
      refine lv_iand hx hb dL_act_131 ?_
      refine lv_as (y := nI (y / 2 % 2)) ((pk_andN (n := y / 2) (by omega) 1 (by decide)).trans (by rw [Nat.pow_one])) ?_
      refine lo_callX hF (x_restore (Gs := fun _ => Gs 0) hst hG hGo (nI (y / 2 % 2))) k_restore ⟨Nat.le_of_ble_eq_true rfl, Nat.le_of_ble_eq_true rfl⟩ hw [0] (by decide) rfl (hg_one rfl) rfl hl.1 rfl (Nat.le_of_ble_eq_true rfl) dL_act_132 ⟨by show _ ≤ (1 : Nat); omega, by show _ ≤ (6 : Nat); omega⟩ (fun H locs hw => ?_)
      have hw : LO D cI cL cZ A s Gs [rsA a (nI (y / 2 % 2))] H locs := hw
      refine W.widen (k := 0 + 1) (n := 6 * (0 + 1)) (Nat.le_refl _) (by omega) ?_
      have hw : LO D cI cL cZ A s Gs [(acR a x y).2] H locs := by
        rw [acR_rst (by omega) (by omega)]
        exact hw
      exact lo_retl hF hr hlocks hw ((by rw [acR_rst (by omega) (by omega)])) (by omega) (by omega) dL_act_135
    · skip
      have c111 := cn_eq (a := y % 2) (b := 0) (by omega) (by omega) c111
      refine lv_aload_n hx hb dL_act_114 rfl (lv_at hl 0 rfl) ?_
      refine lv_iload_n hx hb dL_act_115 rfl (lv_at hl 2 rfl) ?_
      refine lv_iconst (v := 2) hx hb dL_act_116 (by decide) ?_
      refine lv_idiv hx hb dL_act_117 (by decide) ?_
      refine lv_as (y := nI (y / 2)) (pk_div (a := y) (d := 2) (by omega) (by decide) (by decide)) ?_
      refine lv_iconst (v := 1) hx hb dL_act_118 (by decide) ?_
      refine lv_iand hx hb dL_act_119 ?_
      refine lv_as (y := nI (y / 2 % 2)) ((pk_andN (n := y / 2) (by omega) 1 (by decide)).trans (by rw [Nat.pow_one])) ?_
      refine lo_callX hF (x_save (Gs := fun _ => Gs 0) hst hG hGo (nI (y / 2 % 2))) k_save ⟨Nat.le_of_ble_eq_true rfl, Nat.le_of_ble_eq_true rfl⟩ hw [0] (by decide) rfl (hg_one rfl) rfl hl.1 rfl (Nat.le_of_ble_eq_true rfl) dL_act_120 ⟨by show _ ≤ (1 : Nat); omega, by show _ ≤ (6 : Nat); omega⟩ (fun H locs hw => ?_)
      have hw : LO D cI cL cZ A s Gs [saA a (nI (y / 2 % 2))] H locs := hw
      refine W.widen (k := 0 + 1) (n := 6 * (0 + 1)) (Nat.le_refl _) (by omega) ?_
      refine lv_goto (tgt := 135) hx hb dL_act_123 (by decide) ?_
      have hw : LO D cI cL cZ A s Gs [(acR a x y).2] H locs := by
        rw [acR_sav (by omega) (by omega)]
        exact hw
      exact lo_retl hF hr hlocks hw ((by rw [acR_sav (by omega) (by omega)])) (by omega) (by omega) dL_act_135
  · skip
    refine lv_as (show nI (x % 18) = 12 from by rw [h18]; rfl) ?_
    refine lv_tableOut (tgt := 136) hx hb dL_act_4 (by decide) (by decide) ?_
    refine lv_aload_n hx hb dL_act_136 rfl (lv_at hl 0 rfl) ?_
    refine lv_iload_n hx hb dL_act_137 rfl (lv_at hl 2 rfl) ?_
    refine lv_iconst (v := 3) hx hb dL_act_138 (by decide) ?_
    refine lv_irem hx hb dL_act_139 (by decide) ?_
    refine lv_as (y := nI (y % 3)) (pk_rem (a := y) (d := 3) (by omega) (by decide) (by decide)) ?_
    refine lv_if_ne (tgt := 152) hx hb dL_act_140 (by decide) (fun c140 => ?_) (fun c140 => ?_)
    · skip
      have c140 := cn_ne (a := y % 3) (b := 0) (by omega) (by omega) c140
      refine lv_iload_n hx hb dL_act_152 rfl (lv_at hl 2 rfl) ?_
      refine lv_iconst (v := 5) hx hb dL_act_153 (by decide) ?_
      refine lv_irem hx hb dL_act_154 (by decide) ?_
      refine lv_as (y := nI (y % 5)) (pk_rem (a := y) (d := 5) (by omega) (by decide) (by decide)) ?_
      refine lv_iload_n hx hb dL_act_155 rfl (lv_at hl 2 rfl) ?_
      refine lv_iconst (v := 5) hx hb dL_act_156 (by decide) ?_
      refine lv_idiv hx hb dL_act_157 (by decide) ?_
      refine lv_as (y := nI (y / 5)) (pk_div (a := y) (d := 5) (by omega) (by decide) (by decide)) ?_
      refine lv_sipush (v := 1000) hx hb dL_act_158 (by decide) ?_
      refine lv_irem hx hb dL_act_161 (by decide) ?_
      refine lv_as (y := nI ((y / 5) % 1000)) (pk_rem (a := y / 5) (d := 1000) (by omega) (by decide) (by decide)) ?_
      refine lo_callX hF (x_put (Gs := fun _ => Gs 0) hst hG hGo (nI (y % 5)) (nI ((y / 5) % 1000))) k_put ⟨Nat.le_of_ble_eq_true rfl, Nat.le_of_ble_eq_true rfl⟩ hw [0] (by decide) rfl (hg_one rfl) rfl hl.1 rfl (Nat.le_of_ble_eq_true rfl) dL_act_162 ⟨by show _ ≤ (1 : Nat); omega, by show _ ≤ (6 : Nat); omega⟩ (fun H locs hw => ?_)
      have hw : LO D cI cL cZ A s Gs [puA a (nI (y % 5)) (nI ((y / 5) % 1000))] H locs := hw
      refine W.widen (k := 0 + 1) (n := 6 * (0 + 1)) (Nat.le_refl _) (by omega) ?_
      have hw : LO D cI cL cZ A s Gs [(acR a x y).2] H locs := by
        rw [acR_put1 (by omega) (by omega)]
        exact hw
      exact lo_retl hF hr hlocks hw ((by rw [acR_put1 (by omega) (by omega)])) (by omega) (by omega) dL_act_165
    · skip
      have c140 := cn_eq (a := y % 3) (b := 0) (by omega) (by omega) c140
      refine lv_iload_n hx hb dL_act_143 rfl (lv_at hl 2 rfl) ?_
      refine lv_iconst (v := 3) hx hb dL_act_144 (by decide) ?_
      refine lv_idiv hx hb dL_act_145 (by decide) ?_
      refine lv_as (y := nI (y / 3)) (pk_div (a := y) (d := 3) (by omega) (by decide) (by decide)) ?_
      refine lv_bipush (v := 16) hx hb dL_act_146 (by decide) ?_
      refine lv_irem hx hb dL_act_148 (by decide) ?_
      refine lv_as (y := nI ((y / 3) % 16)) (pk_rem (a := y / 3) (d := 16) (by omega) (by decide) (by decide)) ?_
      refine lv_goto (tgt := 155) hx hb dL_act_149 (by decide) ?_
      refine lv_iload_n hx hb dL_act_155 rfl (lv_at hl 2 rfl) ?_
      refine lv_iconst (v := 5) hx hb dL_act_156 (by decide) ?_
      refine lv_idiv hx hb dL_act_157 (by decide) ?_
      refine lv_as (y := nI (y / 5)) (pk_div (a := y) (d := 5) (by omega) (by decide) (by decide)) ?_
      refine lv_sipush (v := 1000) hx hb dL_act_158 (by decide) ?_
      refine lv_irem hx hb dL_act_161 (by decide) ?_
      refine lv_as (y := nI ((y / 5) % 1000)) (pk_rem (a := y / 5) (d := 1000) (by omega) (by decide) (by decide)) ?_
      refine lo_callX hF (x_put (Gs := fun _ => Gs 0) hst hG hGo (nI ((y / 3) % 16)) (nI ((y / 5) % 1000))) k_put ⟨Nat.le_of_ble_eq_true rfl, Nat.le_of_ble_eq_true rfl⟩ hw [0] (by decide) rfl (hg_one rfl) rfl hl.1 rfl (Nat.le_of_ble_eq_true rfl) dL_act_162 ⟨by show _ ≤ (1 : Nat); omega, by show _ ≤ (6 : Nat); omega⟩ (fun H locs hw => ?_)
      have hw : LO D cI cL cZ A s Gs [puA a (nI ((y / 3) % 16)) (nI ((y / 5) % 1000))] H locs := hw
      refine W.widen (k := 0 + 1) (n := 6 * (0 + 1)) (Nat.le_refl _) (by omega) ?_
      have hw : LO D cI cL cZ A s Gs [(acR a x y).2] H locs := by
        rw [acR_put0 (by omega) (by omega)]
        exact hw
      exact lo_retl hF hr hlocks hw ((by rw [acR_put0 (by omega) (by omega)])) (by omega) (by omega) dL_act_165
  · skip
    refine lv_as (show nI (x % 18) = 13 from by rw [h18]; rfl) ?_
    refine lv_tableOut (tgt := 136) hx hb dL_act_4 (by decide) (by decide) ?_
    refine lv_aload_n hx hb dL_act_136 rfl (lv_at hl 0 rfl) ?_
    refine lv_iload_n hx hb dL_act_137 rfl (lv_at hl 2 rfl) ?_
    refine lv_iconst (v := 3) hx hb dL_act_138 (by decide) ?_
    refine lv_irem hx hb dL_act_139 (by decide) ?_
    refine lv_as (y := nI (y % 3)) (pk_rem (a := y) (d := 3) (by omega) (by decide) (by decide)) ?_
    refine lv_if_ne (tgt := 152) hx hb dL_act_140 (by decide) (fun c140 => ?_) (fun c140 => ?_)
    · skip
      have c140 := cn_ne (a := y % 3) (b := 0) (by omega) (by omega) c140
      refine lv_iload_n hx hb dL_act_152 rfl (lv_at hl 2 rfl) ?_
      refine lv_iconst (v := 5) hx hb dL_act_153 (by decide) ?_
      refine lv_irem hx hb dL_act_154 (by decide) ?_
      refine lv_as (y := nI (y % 5)) (pk_rem (a := y) (d := 5) (by omega) (by decide) (by decide)) ?_
      refine lv_iload_n hx hb dL_act_155 rfl (lv_at hl 2 rfl) ?_
      refine lv_iconst (v := 5) hx hb dL_act_156 (by decide) ?_
      refine lv_idiv hx hb dL_act_157 (by decide) ?_
      refine lv_as (y := nI (y / 5)) (pk_div (a := y) (d := 5) (by omega) (by decide) (by decide)) ?_
      refine lv_sipush (v := 1000) hx hb dL_act_158 (by decide) ?_
      refine lv_irem hx hb dL_act_161 (by decide) ?_
      refine lv_as (y := nI ((y / 5) % 1000)) (pk_rem (a := y / 5) (d := 1000) (by omega) (by decide) (by decide)) ?_
      refine lo_callX hF (x_put (Gs := fun _ => Gs 0) hst hG hGo (nI (y % 5)) (nI ((y / 5) % 1000))) k_put ⟨Nat.le_of_ble_eq_true rfl, Nat.le_of_ble_eq_true rfl⟩ hw [0] (by decide) rfl (hg_one rfl) rfl hl.1 rfl (Nat.le_of_ble_eq_true rfl) dL_act_162 ⟨by show _ ≤ (1 : Nat); omega, by show _ ≤ (6 : Nat); omega⟩ (fun H locs hw => ?_)
      have hw : LO D cI cL cZ A s Gs [puA a (nI (y % 5)) (nI ((y / 5) % 1000))] H locs := hw
      refine W.widen (k := 0 + 1) (n := 6 * (0 + 1)) (Nat.le_refl _) (by omega) ?_
      have hw : LO D cI cL cZ A s Gs [(acR a x y).2] H locs := by
        rw [acR_put1 (by omega) (by omega)]
        exact hw
      exact lo_retl hF hr hlocks hw ((by rw [acR_put1 (by omega) (by omega)])) (by omega) (by omega) dL_act_165
    · skip
      have c140 := cn_eq (a := y % 3) (b := 0) (by omega) (by omega) c140
      refine lv_iload_n hx hb dL_act_143 rfl (lv_at hl 2 rfl) ?_
      refine lv_iconst (v := 3) hx hb dL_act_144 (by decide) ?_
      refine lv_idiv hx hb dL_act_145 (by decide) ?_
      refine lv_as (y := nI (y / 3)) (pk_div (a := y) (d := 3) (by omega) (by decide) (by decide)) ?_
      refine lv_bipush (v := 16) hx hb dL_act_146 (by decide) ?_
      refine lv_irem hx hb dL_act_148 (by decide) ?_
      refine lv_as (y := nI ((y / 3) % 16)) (pk_rem (a := y / 3) (d := 16) (by omega) (by decide) (by decide)) ?_
      refine lv_goto (tgt := 155) hx hb dL_act_149 (by decide) ?_
      refine lv_iload_n hx hb dL_act_155 rfl (lv_at hl 2 rfl) ?_
      refine lv_iconst (v := 5) hx hb dL_act_156 (by decide) ?_
      refine lv_idiv hx hb dL_act_157 (by decide) ?_
      refine lv_as (y := nI (y / 5)) (pk_div (a := y) (d := 5) (by omega) (by decide) (by decide)) ?_
      refine lv_sipush (v := 1000) hx hb dL_act_158 (by decide) ?_
      refine lv_irem hx hb dL_act_161 (by decide) ?_
      refine lv_as (y := nI ((y / 5) % 1000)) (pk_rem (a := y / 5) (d := 1000) (by omega) (by decide) (by decide)) ?_
      refine lo_callX hF (x_put (Gs := fun _ => Gs 0) hst hG hGo (nI ((y / 3) % 16)) (nI ((y / 5) % 1000))) k_put ⟨Nat.le_of_ble_eq_true rfl, Nat.le_of_ble_eq_true rfl⟩ hw [0] (by decide) rfl (hg_one rfl) rfl hl.1 rfl (Nat.le_of_ble_eq_true rfl) dL_act_162 ⟨by show _ ≤ (1 : Nat); omega, by show _ ≤ (6 : Nat); omega⟩ (fun H locs hw => ?_)
      have hw : LO D cI cL cZ A s Gs [puA a (nI ((y / 3) % 16)) (nI ((y / 5) % 1000))] H locs := hw
      refine W.widen (k := 0 + 1) (n := 6 * (0 + 1)) (Nat.le_refl _) (by omega) ?_
      have hw : LO D cI cL cZ A s Gs [(acR a x y).2] H locs := by
        rw [acR_put0 (by omega) (by omega)]
        exact hw
      exact lo_retl hF hr hlocks hw ((by rw [acR_put0 (by omega) (by omega)])) (by omega) (by omega) dL_act_165
  · skip
    refine lv_as (show nI (x % 18) = 14 from by rw [h18]; rfl) ?_
    refine lv_tableOut (tgt := 136) hx hb dL_act_4 (by decide) (by decide) ?_
    refine lv_aload_n hx hb dL_act_136 rfl (lv_at hl 0 rfl) ?_
    refine lv_iload_n hx hb dL_act_137 rfl (lv_at hl 2 rfl) ?_
    refine lv_iconst (v := 3) hx hb dL_act_138 (by decide) ?_
    refine lv_irem hx hb dL_act_139 (by decide) ?_
    refine lv_as (y := nI (y % 3)) (pk_rem (a := y) (d := 3) (by omega) (by decide) (by decide)) ?_
    refine lv_if_ne (tgt := 152) hx hb dL_act_140 (by decide) (fun c140 => ?_) (fun c140 => ?_)
    · skip
      have c140 := cn_ne (a := y % 3) (b := 0) (by omega) (by omega) c140
      refine lv_iload_n hx hb dL_act_152 rfl (lv_at hl 2 rfl) ?_
      refine lv_iconst (v := 5) hx hb dL_act_153 (by decide) ?_
      refine lv_irem hx hb dL_act_154 (by decide) ?_
      refine lv_as (y := nI (y % 5)) (pk_rem (a := y) (d := 5) (by omega) (by decide) (by decide)) ?_
      refine lv_iload_n hx hb dL_act_155 rfl (lv_at hl 2 rfl) ?_
      refine lv_iconst (v := 5) hx hb dL_act_156 (by decide) ?_
      refine lv_idiv hx hb dL_act_157 (by decide) ?_
      refine lv_as (y := nI (y / 5)) (pk_div (a := y) (d := 5) (by omega) (by decide) (by decide)) ?_
      refine lv_sipush (v := 1000) hx hb dL_act_158 (by decide) ?_
      refine lv_irem hx hb dL_act_161 (by decide) ?_
      refine lv_as (y := nI ((y / 5) % 1000)) (pk_rem (a := y / 5) (d := 1000) (by omega) (by decide) (by decide)) ?_
      refine lo_callX hF (x_put (Gs := fun _ => Gs 0) hst hG hGo (nI (y % 5)) (nI ((y / 5) % 1000))) k_put ⟨Nat.le_of_ble_eq_true rfl, Nat.le_of_ble_eq_true rfl⟩ hw [0] (by decide) rfl (hg_one rfl) rfl hl.1 rfl (Nat.le_of_ble_eq_true rfl) dL_act_162 ⟨by show _ ≤ (1 : Nat); omega, by show _ ≤ (6 : Nat); omega⟩ (fun H locs hw => ?_)
      have hw : LO D cI cL cZ A s Gs [puA a (nI (y % 5)) (nI ((y / 5) % 1000))] H locs := hw
      refine W.widen (k := 0 + 1) (n := 6 * (0 + 1)) (Nat.le_refl _) (by omega) ?_
      have hw : LO D cI cL cZ A s Gs [(acR a x y).2] H locs := by
        rw [acR_put1 (by omega) (by omega)]
        exact hw
      exact lo_retl hF hr hlocks hw ((by rw [acR_put1 (by omega) (by omega)])) (by omega) (by omega) dL_act_165
    · skip
      have c140 := cn_eq (a := y % 3) (b := 0) (by omega) (by omega) c140
      refine lv_iload_n hx hb dL_act_143 rfl (lv_at hl 2 rfl) ?_
      refine lv_iconst (v := 3) hx hb dL_act_144 (by decide) ?_
      refine lv_idiv hx hb dL_act_145 (by decide) ?_
      refine lv_as (y := nI (y / 3)) (pk_div (a := y) (d := 3) (by omega) (by decide) (by decide)) ?_
      refine lv_bipush (v := 16) hx hb dL_act_146 (by decide) ?_
      refine lv_irem hx hb dL_act_148 (by decide) ?_
      refine lv_as (y := nI ((y / 3) % 16)) (pk_rem (a := y / 3) (d := 16) (by omega) (by decide) (by decide)) ?_
      refine lv_goto (tgt := 155) hx hb dL_act_149 (by decide) ?_
      refine lv_iload_n hx hb dL_act_155 rfl (lv_at hl 2 rfl) ?_
      refine lv_iconst (v := 5) hx hb dL_act_156 (by decide) ?_
      refine lv_idiv hx hb dL_act_157 (by decide) ?_
      refine lv_as (y := nI (y / 5)) (pk_div (a := y) (d := 5) (by omega) (by decide) (by decide)) ?_
      refine lv_sipush (v := 1000) hx hb dL_act_158 (by decide) ?_
      refine lv_irem hx hb dL_act_161 (by decide) ?_
      refine lv_as (y := nI ((y / 5) % 1000)) (pk_rem (a := y / 5) (d := 1000) (by omega) (by decide) (by decide)) ?_
      refine lo_callX hF (x_put (Gs := fun _ => Gs 0) hst hG hGo (nI ((y / 3) % 16)) (nI ((y / 5) % 1000))) k_put ⟨Nat.le_of_ble_eq_true rfl, Nat.le_of_ble_eq_true rfl⟩ hw [0] (by decide) rfl (hg_one rfl) rfl hl.1 rfl (Nat.le_of_ble_eq_true rfl) dL_act_162 ⟨by show _ ≤ (1 : Nat); omega, by show _ ≤ (6 : Nat); omega⟩ (fun H locs hw => ?_)
      have hw : LO D cI cL cZ A s Gs [puA a (nI ((y / 3) % 16)) (nI ((y / 5) % 1000))] H locs := hw
      refine W.widen (k := 0 + 1) (n := 6 * (0 + 1)) (Nat.le_refl _) (by omega) ?_
      have hw : LO D cI cL cZ A s Gs [(acR a x y).2] H locs := by
        rw [acR_put0 (by omega) (by omega)]
        exact hw
      exact lo_retl hF hr hlocks hw ((by rw [acR_put0 (by omega) (by omega)])) (by omega) (by omega) dL_act_165
  · skip
    refine lv_as (show nI (x % 18) = 15 from by rw [h18]; rfl) ?_
    refine lv_tableOut (tgt := 136) hx hb dL_act_4 (by decide) (by decide) ?_
    refine lv_aload_n hx hb dL_act_136 rfl (lv_at hl 0 rfl) ?_
    refine lv_iload_n hx hb dL_act_137 rfl (lv_at hl 2 rfl) ?_
    refine lv_iconst (v := 3) hx hb dL_act_138 (by decide) ?_
    refine lv_irem hx hb dL_act_139 (by decide) ?_
    refine lv_as (y := nI (y % 3)) (pk_rem (a := y) (d := 3) (by omega) (by decide) (by decide)) ?_
    refine lv_if_ne (tgt := 152) hx hb dL_act_140 (by decide) (fun c140 => ?_) (fun c140 => ?_)
    · skip
      have c140 := cn_ne (a := y % 3) (b := 0) (by omega) (by omega) c140
      refine lv_iload_n hx hb dL_act_152 rfl (lv_at hl 2 rfl) ?_
      refine lv_iconst (v := 5) hx hb dL_act_153 (by decide) ?_
      refine lv_irem hx hb dL_act_154 (by decide) ?_
      refine lv_as (y := nI (y % 5)) (pk_rem (a := y) (d := 5) (by omega) (by decide) (by decide)) ?_
      refine lv_iload_n hx hb dL_act_155 rfl (lv_at hl 2 rfl) ?_
      refine lv_iconst (v := 5) hx hb dL_act_156 (by decide) ?_
      refine lv_idiv hx hb dL_act_157 (by decide) ?_
      refine lv_as (y := nI (y / 5)) (pk_div (a := y) (d := 5) (by omega) (by decide) (by decide)) ?_
      refine lv_sipush (v := 1000) hx hb dL_act_158 (by decide) ?_
      refine lv_irem hx hb dL_act_161 (by decide) ?_
      refine lv_as (y := nI ((y / 5) % 1000)) (pk_rem (a := y / 5) (d := 1000) (by omega) (by decide) (by decide)) ?_
      refine lo_callX hF (x_put (Gs := fun _ => Gs 0) hst hG hGo (nI (y % 5)) (nI ((y / 5) % 1000))) k_put ⟨Nat.le_of_ble_eq_true rfl, Nat.le_of_ble_eq_true rfl⟩ hw [0] (by decide) rfl (hg_one rfl) rfl hl.1 rfl (Nat.le_of_ble_eq_true rfl) dL_act_162 ⟨by show _ ≤ (1 : Nat); omega, by show _ ≤ (6 : Nat); omega⟩ (fun H locs hw => ?_)
      have hw : LO D cI cL cZ A s Gs [puA a (nI (y % 5)) (nI ((y / 5) % 1000))] H locs := hw
      refine W.widen (k := 0 + 1) (n := 6 * (0 + 1)) (Nat.le_refl _) (by omega) ?_
      have hw : LO D cI cL cZ A s Gs [(acR a x y).2] H locs := by
        rw [acR_put1 (by omega) (by omega)]
        exact hw
      exact lo_retl hF hr hlocks hw ((by rw [acR_put1 (by omega) (by omega)])) (by omega) (by omega) dL_act_165
    · skip
      have c140 := cn_eq (a := y % 3) (b := 0) (by omega) (by omega) c140
      refine lv_iload_n hx hb dL_act_143 rfl (lv_at hl 2 rfl) ?_
      refine lv_iconst (v := 3) hx hb dL_act_144 (by decide) ?_
      refine lv_idiv hx hb dL_act_145 (by decide) ?_
      refine lv_as (y := nI (y / 3)) (pk_div (a := y) (d := 3) (by omega) (by decide) (by decide)) ?_
      refine lv_bipush (v := 16) hx hb dL_act_146 (by decide) ?_
      refine lv_irem hx hb dL_act_148 (by decide) ?_
      refine lv_as (y := nI ((y / 3) % 16)) (pk_rem (a := y / 3) (d := 16) (by omega) (by decide) (by decide)) ?_
      refine lv_goto (tgt := 155) hx hb dL_act_149 (by decide) ?_
      refine lv_iload_n hx hb dL_act_155 rfl (lv_at hl 2 rfl) ?_
      refine lv_iconst (v := 5) hx hb dL_act_156 (by decide) ?_
      refine lv_idiv hx hb dL_act_157 (by decide) ?_
      refine lv_as (y := nI (y / 5)) (pk_div (a := y) (d := 5) (by omega) (by decide) (by decide)) ?_
      refine lv_sipush (v := 1000) hx hb dL_act_158 (by decide) ?_
      refine lv_irem hx hb dL_act_161 (by decide) ?_
      refine lv_as (y := nI ((y / 5) % 1000)) (pk_rem (a := y / 5) (d := 1000) (by omega) (by decide) (by decide)) ?_
      refine lo_callX hF (x_put (Gs := fun _ => Gs 0) hst hG hGo (nI ((y / 3) % 16)) (nI ((y / 5) % 1000))) k_put ⟨Nat.le_of_ble_eq_true rfl, Nat.le_of_ble_eq_true rfl⟩ hw [0] (by decide) rfl (hg_one rfl) rfl hl.1 rfl (Nat.le_of_ble_eq_true rfl) dL_act_162 ⟨by show _ ≤ (1 : Nat); omega, by show _ ≤ (6 : Nat); omega⟩ (fun H locs hw => ?_)
      have hw : LO D cI cL cZ A s Gs [puA a (nI ((y / 3) % 16)) (nI ((y / 5) % 1000))] H locs := hw
      refine W.widen (k := 0 + 1) (n := 6 * (0 + 1)) (Nat.le_refl _) (by omega) ?_
      have hw : LO D cI cL cZ A s Gs [(acR a x y).2] H locs := by
        rw [acR_put0 (by omega) (by omega)]
        exact hw
      exact lo_retl hF hr hlocks hw ((by rw [acR_put0 (by omega) (by omega)])) (by omega) (by omega) dL_act_165
  · skip
    refine lv_as (show nI (x % 18) = 16 from by rw [h18]; rfl) ?_
    refine lv_tableOut (tgt := 136) hx hb dL_act_4 (by decide) (by decide) ?_
    refine lv_aload_n hx hb dL_act_136 rfl (lv_at hl 0 rfl) ?_
    refine lv_iload_n hx hb dL_act_137 rfl (lv_at hl 2 rfl) ?_
    refine lv_iconst (v := 3) hx hb dL_act_138 (by decide) ?_
    refine lv_irem hx hb dL_act_139 (by decide) ?_
    refine lv_as (y := nI (y % 3)) (pk_rem (a := y) (d := 3) (by omega) (by decide) (by decide)) ?_
    refine lv_if_ne (tgt := 152) hx hb dL_act_140 (by decide) (fun c140 => ?_) (fun c140 => ?_)
    · skip
      have c140 := cn_ne (a := y % 3) (b := 0) (by omega) (by omega) c140
      refine lv_iload_n hx hb dL_act_152 rfl (lv_at hl 2 rfl) ?_
      refine lv_iconst (v := 5) hx hb dL_act_153 (by decide) ?_
      refine lv_irem hx hb dL_act_154 (by decide) ?_
      refine lv_as (y := nI (y % 5)) (pk_rem (a := y) (d := 5) (by omega) (by decide) (by decide)) ?_
      refine lv_iload_n hx hb dL_act_155 rfl (lv_at hl 2 rfl) ?_
      refine lv_iconst (v := 5) hx hb dL_act_156 (by decide) ?_
      refine lv_idiv hx hb dL_act_157 (by decide) ?_
      refine lv_as (y := nI (y / 5)) (pk_div (a := y) (d := 5) (by omega) (by decide) (by decide)) ?_
      refine lv_sipush (v := 1000) hx hb dL_act_158 (by decide) ?_
      refine lv_irem hx hb dL_act_161 (by decide) ?_
      refine lv_as (y := nI ((y / 5) % 1000)) (pk_rem (a := y / 5) (d := 1000) (by omega) (by decide) (by decide)) ?_
      refine lo_callX hF (x_put (Gs := fun _ => Gs 0) hst hG hGo (nI (y % 5)) (nI ((y / 5) % 1000))) k_put ⟨Nat.le_of_ble_eq_true rfl, Nat.le_of_ble_eq_true rfl⟩ hw [0] (by decide) rfl (hg_one rfl) rfl hl.1 rfl (Nat.le_of_ble_eq_true rfl) dL_act_162 ⟨by show _ ≤ (1 : Nat); omega, by show _ ≤ (6 : Nat); omega⟩ (fun H locs hw => ?_)
      have hw : LO D cI cL cZ A s Gs [puA a (nI (y % 5)) (nI ((y / 5) % 1000))] H locs := hw
      refine W.widen (k := 0 + 1) (n := 6 * (0 + 1)) (Nat.le_refl _) (by omega) ?_
      have hw : LO D cI cL cZ A s Gs [(acR a x y).2] H locs := by
        rw [acR_put1 (by omega) (by omega)]
        exact hw
      exact lo_retl hF hr hlocks hw ((by rw [acR_put1 (by omega) (by omega)])) (by omega) (by omega) dL_act_165
    · skip
      have c140 := cn_eq (a := y % 3) (b := 0) (by omega) (by omega) c140
      refine lv_iload_n hx hb dL_act_143 rfl (lv_at hl 2 rfl) ?_
      refine lv_iconst (v := 3) hx hb dL_act_144 (by decide) ?_
      refine lv_idiv hx hb dL_act_145 (by decide) ?_
      refine lv_as (y := nI (y / 3)) (pk_div (a := y) (d := 3) (by omega) (by decide) (by decide)) ?_
      refine lv_bipush (v := 16) hx hb dL_act_146 (by decide) ?_
      refine lv_irem hx hb dL_act_148 (by decide) ?_
      refine lv_as (y := nI ((y / 3) % 16)) (pk_rem (a := y / 3) (d := 16) (by omega) (by decide) (by decide)) ?_
      refine lv_goto (tgt := 155) hx hb dL_act_149 (by decide) ?_
      refine lv_iload_n hx hb dL_act_155 rfl (lv_at hl 2 rfl) ?_
      refine lv_iconst (v := 5) hx hb dL_act_156 (by decide) ?_
      refine lv_idiv hx hb dL_act_157 (by decide) ?_
      refine lv_as (y := nI (y / 5)) (pk_div (a := y) (d := 5) (by omega) (by decide) (by decide)) ?_
      refine lv_sipush (v := 1000) hx hb dL_act_158 (by decide) ?_
      refine lv_irem hx hb dL_act_161 (by decide) ?_
      refine lv_as (y := nI ((y / 5) % 1000)) (pk_rem (a := y / 5) (d := 1000) (by omega) (by decide) (by decide)) ?_
      refine lo_callX hF (x_put (Gs := fun _ => Gs 0) hst hG hGo (nI ((y / 3) % 16)) (nI ((y / 5) % 1000))) k_put ⟨Nat.le_of_ble_eq_true rfl, Nat.le_of_ble_eq_true rfl⟩ hw [0] (by decide) rfl (hg_one rfl) rfl hl.1 rfl (Nat.le_of_ble_eq_true rfl) dL_act_162 ⟨by show _ ≤ (1 : Nat); omega, by show _ ≤ (6 : Nat); omega⟩ (fun H locs hw => ?_)
      have hw : LO D cI cL cZ A s Gs [puA a (nI ((y / 3) % 16)) (nI ((y / 5) % 1000))] H locs := hw
      refine W.widen (k := 0 + 1) (n := 6 * (0 + 1)) (Nat.le_refl _) (by omega) ?_
      have hw : LO D cI cL cZ A s Gs [(acR a x y).2] H locs := by
        rw [acR_put0 (by omega) (by omega)]
        exact hw
      exact lo_retl hF hr hlocks hw ((by rw [acR_put0 (by omega) (by omega)])) (by omega) (by omega) dL_act_165
  · skip
    refine lv_as (show nI (x % 18) = 17 from by rw [h18]; rfl) ?_
    refine lv_tableOut (tgt := 136) hx hb dL_act_4 (by decide) (by decide) ?_
    refine lv_aload_n hx hb dL_act_136 rfl (lv_at hl 0 rfl) ?_
    refine lv_iload_n hx hb dL_act_137 rfl (lv_at hl 2 rfl) ?_
    refine lv_iconst (v := 3) hx hb dL_act_138 (by decide) ?_
    refine lv_irem hx hb dL_act_139 (by decide) ?_
    refine lv_as (y := nI (y % 3)) (pk_rem (a := y) (d := 3) (by omega) (by decide) (by decide)) ?_
    refine lv_if_ne (tgt := 152) hx hb dL_act_140 (by decide) (fun c140 => ?_) (fun c140 => ?_)
    · skip
      have c140 := cn_ne (a := y % 3) (b := 0) (by omega) (by omega) c140
      refine lv_iload_n hx hb dL_act_152 rfl (lv_at hl 2 rfl) ?_
      refine lv_iconst (v := 5) hx hb dL_act_153 (by decide) ?_
      refine lv_irem hx hb dL_act_154 (by decide) ?_
      refine lv_as (y := nI (y % 5)) (pk_rem (a := y) (d := 5) (by omega) (by decide) (by decide)) ?_
      refine lv_iload_n hx hb dL_act_155 rfl (lv_at hl 2 rfl) ?_
      refine lv_iconst (v := 5) hx hb dL_act_156 (by decide) ?_
      refine lv_idiv hx hb dL_act_157 (by decide) ?_
      refine lv_as (y := nI (y / 5)) (pk_div (a := y) (d := 5) (by omega) (by decide) (by decide)) ?_
      refine lv_sipush (v := 1000) hx hb dL_act_158 (by decide) ?_
      refine lv_irem hx hb dL_act_161 (by decide) ?_
      refine lv_as (y := nI ((y / 5) % 1000)) (pk_rem (a := y / 5) (d := 1000) (by omega) (by decide) (by decide)) ?_
      refine lo_callX hF (x_put (Gs := fun _ => Gs 0) hst hG hGo (nI (y % 5)) (nI ((y / 5) % 1000))) k_put ⟨Nat.le_of_ble_eq_true rfl, Nat.le_of_ble_eq_true rfl⟩ hw [0] (by decide) rfl (hg_one rfl) rfl hl.1 rfl (Nat.le_of_ble_eq_true rfl) dL_act_162 ⟨by show _ ≤ (1 : Nat); omega, by show _ ≤ (6 : Nat); omega⟩ (fun H locs hw => ?_)
      have hw : LO D cI cL cZ A s Gs [puA a (nI (y % 5)) (nI ((y / 5) % 1000))] H locs := hw
      refine W.widen (k := 0 + 1) (n := 6 * (0 + 1)) (Nat.le_refl _) (by omega) ?_
      have hw : LO D cI cL cZ A s Gs [(acR a x y).2] H locs := by
        rw [acR_put1 (by omega) (by omega)]
        exact hw
      exact lo_retl hF hr hlocks hw ((by rw [acR_put1 (by omega) (by omega)])) (by omega) (by omega) dL_act_165
    · skip
      have c140 := cn_eq (a := y % 3) (b := 0) (by omega) (by omega) c140
      refine lv_iload_n hx hb dL_act_143 rfl (lv_at hl 2 rfl) ?_
      refine lv_iconst (v := 3) hx hb dL_act_144 (by decide) ?_
      refine lv_idiv hx hb dL_act_145 (by decide) ?_
      refine lv_as (y := nI (y / 3)) (pk_div (a := y) (d := 3) (by omega) (by decide) (by decide)) ?_
      refine lv_bipush (v := 16) hx hb dL_act_146 (by decide) ?_
      refine lv_irem hx hb dL_act_148 (by decide) ?_
      refine lv_as (y := nI ((y / 3) % 16)) (pk_rem (a := y / 3) (d := 16) (by omega) (by decide) (by decide)) ?_
      refine lv_goto (tgt := 155) hx hb dL_act_149 (by decide) ?_
      refine lv_iload_n hx hb dL_act_155 rfl (lv_at hl 2 rfl) ?_
      refine lv_iconst (v := 5) hx hb dL_act_156 (by decide) ?_
      refine lv_idiv hx hb dL_act_157 (by decide) ?_
      refine lv_as (y := nI (y / 5)) (pk_div (a := y) (d := 5) (by omega) (by decide) (by decide)) ?_
      refine lv_sipush (v := 1000) hx hb dL_act_158 (by decide) ?_
      refine lv_irem hx hb dL_act_161 (by decide) ?_
      refine lv_as (y := nI ((y / 5) % 1000)) (pk_rem (a := y / 5) (d := 1000) (by omega) (by decide) (by decide)) ?_
      refine lo_callX hF (x_put (Gs := fun _ => Gs 0) hst hG hGo (nI ((y / 3) % 16)) (nI ((y / 5) % 1000))) k_put ⟨Nat.le_of_ble_eq_true rfl, Nat.le_of_ble_eq_true rfl⟩ hw [0] (by decide) rfl (hg_one rfl) rfl hl.1 rfl (Nat.le_of_ble_eq_true rfl) dL_act_162 ⟨by show _ ≤ (1 : Nat); omega, by show _ ≤ (6 : Nat); omega⟩ (fun H locs hw => ?_)
      have hw : LO D cI cL cZ A s Gs [puA a (nI ((y / 3) % 16)) (nI ((y / 5) % 1000))] H locs := hw
      refine W.widen (k := 0 + 1) (n := 6 * (0 + 1)) (Nat.le_refl _) (by omega) ?_
      have hw : LO D cI cL cZ A s Gs [(acR a x y).2] H locs := by
        rw [acR_put0 (by omega) (by omega)]
        exact hw
      exact lo_retl hF hr hlocks hw ((by rw [acR_put0 (by omega) (by omega)])) (by omega) (by omega) dL_act_165
