-- THE LAW'S HELPERS
def lwB (cI cL cZ cJ : ClassId) (ad : Nat → Nat) (dl : Nat → Nat → Nat) (sf sg : Nat → Option Nat) (fo : Nat → Int64) (t : Nat → Int32) (n q : Nat) (vv : Nat → Int32) (nx ct : Nat) (uf : Nat → Int32) (zz : Nat → LgS) : List va_W :=
  cwB [(ad 0, .inl (cJ, 1, .inr (.inl fo)))] [(ad 1, .inr (6, [.ref (ad 2), .ref (ad 4), .ref (ad 6), .ref (dl 16 0), .ref (dl 17 0), .ref (dl 18 0)]))] (zS cI (ad 2) (ad 3) t n q vv) [(ad 4, .inr (1, [.ref (ad 5), .int (nI nx), .int (nI ct)]))] [(ad 5, .inl (cL, 14, .inr (.inr (.inr (.inr sf)))))] [(ad 6, .inr (3, [.ref (ad 7), .ref (ad 8)]))] [(ad 7, .inl (cL, 2, .inr (.inr (.inr (.inr sg)))))] [(ad 8, .inl (cZ, 2, .inl uf))] cI dl zz
theorem hcc {Bs Cs : List va_W} {i : Nat} {is : List Nat} {c : va_W} (h : Bs[i]? = some c) (k : is.map (fun i => Bs[i]?) = Cs.map some) : (i :: is).map (fun i => Bs[i]?) = (c :: Cs).map some := by
  rw [List.map_cons, List.map_cons, h, k]
theorem hcn {Bs : List va_W} : ([] : List Nat).map (fun i => Bs[i]?) = ([] : List va_W).map some := rfl
theorem va_id {α : Type} {f : Nat → α} {k : Nat} {v : α} (h : f k = v) : va_up f k v = f := by
  funext j
  by_cases e : j = k
  · subst e; rw [va_up_self, h]
  · exact va_up_ne _ _ e
theorem dL_append_0 : decode cL_append 0 = .ok (.aload_n 2, 1) := by decide +kernel
theorem dL_append_1 : decode cL_append 1 = .ok (.iconst 0, 1) := by decide +kernel
theorem dL_append_2 : decode cL_append 2 = .ok (.aload_n 0, 1) := by decide +kernel
theorem dL_append_3 : decode cL_append 3 = .ok (.iload_n 1, 1) := by decide +kernel
theorem dL_append_4 : decode cL_append 4 = .ok (.invokevirtual 7, 3) := by decide +kernel
theorem dL_append_7 : decode cL_append 7 = .ok (.i2l, 1) := by decide +kernel
theorem dL_append_8 : decode cL_append 8 = .ok (.lastore, 1) := by decide +kernel
theorem dL_append_9 : decode cL_append 9 = .ok (.goto 9, 3) := by decide +kernel
theorem dL_append_12 : decode cL_append 12 = .ok (.astore_n 3, 1) := by decide +kernel
theorem dL_append_13 : decode cL_append 13 = .ok (.iconst 1, 1) := by decide +kernel
theorem dL_append_14 : decode cL_append 14 = .ok (.ireturn, 1) := by decide +kernel
theorem dL_append_15 : decode cL_append 15 = .ok (.astore_n 3, 1) := by decide +kernel
theorem dL_append_16 : decode cL_append 16 = .ok (.iconst 2, 1) := by decide +kernel
theorem dL_append_17 : decode cL_append 17 = .ok (.ireturn, 1) := by decide +kernel
theorem dL_append_18 : decode cL_append 18 = .ok (.iconst 0, 1) := by decide +kernel
theorem dL_append_19 : decode cL_append 19 = .ok (.ireturn, 1) := by decide +kernel
set_option maxHeartbeats 4000000 in
set_option maxRecDepth 100000 in
theorem cL_appendH (l : Launch) (hst : l.stackTraces = false) (D : va_G) (cI cL cZ cJ : ClassId) (ad : Nat → Nat) (dl : Nat → Nat → Nat) (sf sg : Nat → Option Nat) (hsf : ∀ j, j < 14 → sf j = some (dl j 0)) (hsg : ∀ j, j < 2 → sg j = some (dl (14 + j) 0)) (fo : Nat → Int64) (t : Nat → Int32) (n q : Nat) (hn : n ≤ 90) (hq : q ≤ 90) (vv : Nat → Int32) (nx ct : Nat) (hnx : nx < 14) (hct : ct ≤ 14) (uf : Nat → Int32) (zz : Nat → LgS) (hz : Inv (zz 16)) (hB : ∀ j, (zz j).1.2 ≤ 8) (ya : Int32) : LH l yL_append cL_append 4 [(0, 9, 12, 13), (0, 9, 15, 15)] 7 111 D (lwB cI cL cZ cJ ad dl sf sg fo t n q vv nx ct uf zz) [(cI, .int), (cL, (.object "TornPageLog$Log")), (cZ, .boolean), (cJ, .long)] [.ref (ad 1), .int (ya), .ref (ad 0)] (fun (r9 : Int32) (u9 : List va_W) => ((c6ap n ya) = 0 ∧ r9 = 0 ∧ u9 = lwB cI cL cZ cJ ad dl sf sg (vp_updL fo 0 (nI (n + 1) : Int32).toInt64) (upd t n ya) (n + 1) q vv nx ct uf zz) ∨ (¬ (c6ap n ya) = 0 ∧ r9 = (c6ap n ya) ∧ u9 = lwB cI cL cZ cJ ad dl sf sg fo t n q vv nx ct uf zz)) := by
  refine lh_of (by decide) rfl (Nat.le_of_ble_eq_true rfl) ?_
  intro p e s m below meth c ls H hX hTb hr hlocks hK hN hE hSW hZ hCN hP hD hS hl
  generalize gp_A (bw (lwB cI cL cZ cJ ad dl sf sg fo t n q vv nx ct uf zz)) = A at hZ hD hS ⊢
  have hx := hX.1
  have hb := hX.2.1
  have hown := hX.2.2.2.1
  have hts := hX.2.2.2.2
  have hl : lv_has ls 4 [(0, .ref (ad 1)), (1, .int (ya)), (2, .ref (ad 0))] := hl
  refine lv_aload_n hx hb dL_append_0 rfl (lv_at hl 2 rfl) ?_
  refine lv_iconst (v := 0) hx hb dL_append_1 (by decide) ?_
  refine lv_aload_n hx hb dL_append_2 rfl (lv_at hl 0 rfl) ?_
  refine lv_iload_n hx hb dL_append_3 rfl (lv_at hl 1 rfl) ?_
  refine lh_callV (Bs := lwB cI cL cZ cJ ad dl sf sg fo t n q vv nx ct uf zz) hX (c6_append l hst D cI (ad 1) (ad 2) (ad 4) (ad 6) (dl 16) (dl 17) (dl 18) (ad 3) t n hn q hq vv ya) ⟨by decide, by decide, show (parseMethodDescriptor yX6_append.desc).map (fun d => d.parameters.length) = some 1 by decide +kernel⟩ rfl (mlA 11 rfl) (mlA 12 rfl) (mlA 13 rfl) (mlA 14 rfl) ⟨Nat.le_of_ble_eq_true rfl, Nat.le_of_ble_eq_true rfl⟩ hK hN hE hSW hZ [0] rfl hP hD hS [1, 2] (by simp; try omega) (hcc cw_g1 (hcc cw_g2 (hcn))) rfl hl.1 rfl (Nat.le_of_ble_eq_true rfl) dL_append_4 ⟨Nat.le_of_ble_eq_true rfl, Nat.le_of_ble_eq_true rfl⟩ (fun r u h => by obtain ⟨-, -, rfl⟩ := h; rfl) (fun E u h => by obtain ⟨-, rfl⟩ := h; rfl) (fun E ce qex u H locs hxp hP hD hS hcell hcv hcl => ?_) (fun r u H locs hp hP hD hS => ?_)
  · obtain ⟨hE9, rfl⟩ := hxp
    have hP : va_P D vwCl (bw (lwB cI cL cZ cJ ad dl sf sg fo t n q vv nx ct uf zz)) H := by
      rw [lwB, bput_c, cw_s1, bput_c, cw_s2, bput_n] at hP
      exact hP
    have hD : va_D A (bw (lwB cI cL cZ cJ ad dl sf sg fo t n q vv nx ct uf zz)) := by
      rw [lwB, bput_c, cw_s1, bput_c, cw_s2, bput_n] at hD
      exact hD
    rcases hE9 with ⟨rfl, hR⟩ | ⟨rfl, hR⟩
    · skip
      refine vx_catch hown [] ⟨0, 9, 12, 13⟩ [⟨0, 9, 15, 15⟩] (hTb.trans rfl) (fun z hz => nomatch hz) rfl (by decide) (hts _ (mlA 0 rfl)) (va_Nw.use rfl hE.2.2.2.1) hcell hcv hcl ?_
      refine lv_astore_n (lv' := [(3, .ref qex), (0, .ref (ad 1)), (1, .int (ya)), (2, .ref (ad 0))]) hx hb dL_append_12 rfl hl (by decide) rfl (fun ls hl => ?_)
      refine lv_iconst (v := 1) hx hb dL_append_13 (by decide) ?_
      exact lh_ret hX hr hlocks hS hP (Or.inr ⟨by rw [hR]; decide, by rw [hR], rfl⟩) (Nat.le_of_ble_eq_true rfl) (Nat.le_of_ble_eq_true rfl) dL_append_14
    · skip
      refine vx_catch hown [⟨0, 9, 12, 13⟩] ⟨0, 9, 15, 15⟩ [] (hTb.trans rfl) (fun z hz => by rw [List.mem_singleton.mp hz]; exact Or.inr ⟨by decide, xIA, hts _ (mlA 0 rfl), hCN.1⟩) rfl (by decide) (hts _ (mlA 1 rfl)) (va_Nw.use rfl hE.2.2.2.2.1) hcell hcv hcl ?_
      refine lv_astore_n (lv' := [(3, .ref qex), (0, .ref (ad 1)), (1, .int (ya)), (2, .ref (ad 0))]) hx hb dL_append_15 rfl hl (by decide) rfl (fun ls hl => ?_)
      refine lv_iconst (v := 2) hx hb dL_append_16 (by decide) ?_
      exact lh_ret hX hr hlocks hS hP (Or.inr ⟨by rw [hR]; decide, by rw [hR], rfl⟩) (Nat.le_of_ble_eq_true rfl) (Nat.le_of_ble_eq_true rfl) dL_append_17
  · obtain ⟨hR, hr9, rfl⟩ := hp
    have hP : va_P D vwCl (bw (lwB cI cL cZ cJ ad dl sf sg fo (upd t n ya) (n + 1) q vv nx ct uf zz)) H := by
      rw [lwB, bput_c, cw_s1, bput_c, cw_s2, bput_n] at hP
      exact hP
    have hD : va_D A (bw (lwB cI cL cZ cJ ad dl sf sg fo (upd t n ya) (n + 1) q vv nx ct uf zz)) := by
      rw [lwB, bput_c, cw_s1, bput_c, cw_s2, bput_n] at hD
      exact hD
    refine lv_as hr9 ?_
    refine lv_i2l (v := (nI (n + 1) : Int32).toInt64) hx hb dL_append_7 (rfl) ?_
    refine va_last hx hb hK hP hD hS 0 3 rfl rfl (show ¬ ((0 : Int32) < 0 ∨ 1 ≤ (0 : Int32).toNatClampNeg) by decide) dL_append_8 (fun H locs hP hD hS => ?_)
    have hP : va_P D vwCl (bw (lwB cI cL cZ cJ ad dl sf sg (vp_updL fo 0 (nI (n + 1) : Int32).toInt64) (upd t n ya) (n + 1) q vv nx ct uf zz)) H := hP
    refine lv_goto (tgt := 18) hx hb dL_append_9 (by decide) ?_
    refine lv_iconst (v := 0) hx hb dL_append_18 (by decide) ?_
    exact lh_ret hX hr hlocks hS hP (Or.inl ⟨hR, rfl, rfl⟩) (Nat.le_of_ble_eq_true rfl) (Nat.le_of_ble_eq_true rfl) dL_append_19
theorem dL_about_0 : decode cL_about 0 = .ok (.aload_n 2, 1) := by decide +kernel
theorem dL_about_1 : decode cL_about 1 = .ok (.iconst 0, 1) := by decide +kernel
theorem dL_about_2 : decode cL_about 2 = .ok (.aload_n 0, 1) := by decide +kernel
theorem dL_about_3 : decode cL_about 3 = .ok (.iload_n 1, 1) := by decide +kernel
theorem dL_about_4 : decode cL_about 4 = .ok (.invokevirtual 21, 3) := by decide +kernel
theorem dL_about_7 : decode cL_about 7 = .ok (.i2l, 1) := by decide +kernel
theorem dL_about_8 : decode cL_about 8 = .ok (.lastore, 1) := by decide +kernel
theorem dL_about_9 : decode cL_about 9 = .ok (.goto 6, 3) := by decide +kernel
theorem dL_about_12 : decode cL_about 12 = .ok (.astore_n 3, 1) := by decide +kernel
theorem dL_about_13 : decode cL_about 13 = .ok (.iconst 1, 1) := by decide +kernel
theorem dL_about_14 : decode cL_about 14 = .ok (.ireturn, 1) := by decide +kernel
theorem dL_about_15 : decode cL_about 15 = .ok (.iconst 0, 1) := by decide +kernel
theorem dL_about_16 : decode cL_about 16 = .ok (.ireturn, 1) := by decide +kernel
set_option maxHeartbeats 4000000 in
set_option maxRecDepth 100000 in
theorem cL_aboutH (l : Launch) (hst : l.stackTraces = false) (D : va_G) (cI cL cZ cJ : ClassId) (ad : Nat → Nat) (dl : Nat → Nat → Nat) (sf sg : Nat → Option Nat) (hsf : ∀ j, j < 14 → sf j = some (dl j 0)) (hsg : ∀ j, j < 2 → sg j = some (dl (14 + j) 0)) (fo : Nat → Int64) (t : Nat → Int32) (n q : Nat) (hn : n ≤ 90) (hq : q ≤ 90) (vv : Nat → Int32) (nx ct : Nat) (hnx : nx < 14) (hct : ct ≤ 14) (uf : Nat → Int32) (zz : Nat → LgS) (hz : Inv (zz 16)) (hB : ∀ j, (zz j).1.2 ≤ 8) (ya : Int32) : LH l yL_about cL_about 4 [(0, 9, 12, 13)] 7 111 D (lwB cI cL cZ cJ ad dl sf sg fo t n q vv nx ct uf zz) [(cI, .int), (cL, (.object "TornPageLog$Log")), (cZ, .boolean), (cJ, .long)] [.ref (ad 1), .int (ya), .ref (ad 0)] (fun (r9 : Int32) (u9 : List va_W) => ((c6r ya 13) = 0 ∧ r9 = 0 ∧ u9 = lwB cI cL cZ cJ ad dl sf sg (vp_updL fo 0 (abZ (zz 16) ya.toNatClampNeg : Int32).toInt64) t n q vv nx ct uf zz) ∨ (¬ (c6r ya 13) = 0 ∧ r9 = (c6r ya 13) ∧ u9 = lwB cI cL cZ cJ ad dl sf sg fo t n q vv nx ct uf zz)) := by
  refine lh_of (by decide) rfl (Nat.le_of_ble_eq_true rfl) ?_
  intro p e s m below meth c ls H hX hTb hr hlocks hK hN hE hSW hZ hCN hP hD hS hl
  generalize gp_A (bw (lwB cI cL cZ cJ ad dl sf sg fo t n q vv nx ct uf zz)) = A at hZ hD hS ⊢
  have hx := hX.1
  have hb := hX.2.1
  have hown := hX.2.2.2.1
  have hts := hX.2.2.2.2
  have hl : lv_has ls 4 [(0, .ref (ad 1)), (1, .int (ya)), (2, .ref (ad 0))] := hl
  refine lv_aload_n hx hb dL_about_0 rfl (lv_at hl 2 rfl) ?_
  refine lv_iconst (v := 0) hx hb dL_about_1 (by decide) ?_
  refine lv_aload_n hx hb dL_about_2 rfl (lv_at hl 0 rfl) ?_
  refine lv_iload_n hx hb dL_about_3 rfl (lv_at hl 1 rfl) ?_
  refine lh_callV (Bs := lwB cI cL cZ cJ ad dl sf sg fo t n q vv nx ct uf zz) hX (c6_about l hst D cI (ad 1) (ad 2) (ad 4) (ad 6) (dl 16) (dl 17) (dl 18) (zz 16) hz ya) ⟨by decide, by decide, show (parseMethodDescriptor yX6_about.desc).map (fun d => d.parameters.length) = some 1 by decide +kernel⟩ rfl (mlA 3 rfl) (mlA 4 rfl) (mlA 5 rfl) (mlA 6 rfl) ⟨Nat.le_of_ble_eq_true rfl, Nat.le_of_ble_eq_true rfl⟩ hK hN hE hSW hZ [0] rfl hP hD hS [1, 8 + 16] (by simp; try omega) (hcc cw_g1 (hcc (cw_get (j := 16) (by omega)) (hcn))) rfl hl.1 rfl (Nat.le_of_ble_eq_true rfl) dL_about_4 ⟨Nat.le_of_ble_eq_true rfl, Nat.le_of_ble_eq_true rfl⟩ (fun r u h => by obtain ⟨-, -, rfl⟩ := h; rfl) (fun E u h => by obtain ⟨-, rfl⟩ := h; rfl) (fun E ce qex u H locs hxp hP hD hS hcell hcv hcl => ?_) (fun r u H locs hp hP hD hS => ?_)
  · obtain ⟨hE9, rfl⟩ := hxp
    have hP : va_P D vwCl (bw (lwB cI cL cZ cJ ad dl sf sg fo t n q vv nx ct uf zz)) H := by
      rw [lwB, bput_c, cw_s1, bput_c, cw_set (j := 16) (by omega), va_id (k := 16) (rfl), bput_n] at hP
      exact hP
    have hD : va_D A (bw (lwB cI cL cZ cJ ad dl sf sg fo t n q vv nx ct uf zz)) := by
      rw [lwB, bput_c, cw_s1, bput_c, cw_set (j := 16) (by omega), va_id (k := 16) (rfl), bput_n] at hD
      exact hD
    obtain ⟨rfl, hR⟩ := hE9
    · skip
      refine vx_catch hown [] ⟨0, 9, 12, 13⟩ [] (hTb.trans rfl) (fun z hz => nomatch hz) rfl (by decide) (hts _ (mlA 0 rfl)) (va_Nw.use rfl hE.2.2.2.1) hcell hcv hcl ?_
      refine lv_astore_n (lv' := [(3, .ref qex), (0, .ref (ad 1)), (1, .int (ya)), (2, .ref (ad 0))]) hx hb dL_about_12 rfl hl (by decide) rfl (fun ls hl => ?_)
      refine lv_iconst (v := 1) hx hb dL_about_13 (by decide) ?_
      exact lh_ret hX hr hlocks hS hP (Or.inr ⟨by rw [hR]; decide, by rw [hR], rfl⟩) (Nat.le_of_ble_eq_true rfl) (Nat.le_of_ble_eq_true rfl) dL_about_14
  · obtain ⟨hR, hr9, rfl⟩ := hp
    have hP : va_P D vwCl (bw (lwB cI cL cZ cJ ad dl sf sg fo t n q vv nx ct uf zz)) H := by
      rw [lwB, bput_c, cw_s1, bput_c, cw_set (j := 16) (by omega), va_id (k := 16) (rfl), bput_n] at hP
      exact hP
    have hD : va_D A (bw (lwB cI cL cZ cJ ad dl sf sg fo t n q vv nx ct uf zz)) := by
      rw [lwB, bput_c, cw_s1, bput_c, cw_set (j := 16) (by omega), va_id (k := 16) (rfl), bput_n] at hD
      exact hD
    refine lv_as hr9 ?_
    refine lv_i2l (v := (abZ (zz 16) ya.toNatClampNeg : Int32).toInt64) hx hb dL_about_7 (rfl) ?_
    refine va_last hx hb hK hP hD hS 0 3 rfl rfl (show ¬ ((0 : Int32) < 0 ∨ 1 ≤ (0 : Int32).toNatClampNeg) by decide) dL_about_8 (fun H locs hP hD hS => ?_)
    have hP : va_P D vwCl (bw (lwB cI cL cZ cJ ad dl sf sg (vp_updL fo 0 (abZ (zz 16) ya.toNatClampNeg : Int32).toInt64) t n q vv nx ct uf zz)) H := hP
    refine lv_goto (tgt := 15) hx hb dL_about_9 (by decide) ?_
    refine lv_iconst (v := 0) hx hb dL_about_15 (by decide) ?_
    exact lh_ret hX hr hlocks hS hP (Or.inl ⟨hR, rfl, rfl⟩) (Nat.le_of_ble_eq_true rfl) (Nat.le_of_ble_eq_true rfl) dL_about_16
theorem dL_page_0 : decode cL_page 0 = .ok (.aload_n 3, 1) := by decide +kernel
theorem dL_page_1 : decode cL_page 1 = .ok (.iconst 0, 1) := by decide +kernel
theorem dL_page_2 : decode cL_page 2 = .ok (.aload_n 0, 1) := by decide +kernel
theorem dL_page_3 : decode cL_page 3 = .ok (.iload_n 1, 1) := by decide +kernel
theorem dL_page_4 : decode cL_page 4 = .ok (.iload_n 2, 1) := by decide +kernel
theorem dL_page_5 : decode cL_page 5 = .ok (.invokevirtual 24, 3) := by decide +kernel
theorem dL_page_8 : decode cL_page 8 = .ok (.i2l, 1) := by decide +kernel
theorem dL_page_9 : decode cL_page 9 = .ok (.lastore, 1) := by decide +kernel
theorem dL_page_10 : decode cL_page 10 = .ok (.goto 11, 3) := by decide +kernel
theorem dL_page_13 : decode cL_page 13 = .ok (.astore 4, 2) := by decide +kernel
theorem dL_page_15 : decode cL_page 15 = .ok (.iconst 1, 1) := by decide +kernel
theorem dL_page_16 : decode cL_page 16 = .ok (.ireturn, 1) := by decide +kernel
theorem dL_page_17 : decode cL_page 17 = .ok (.astore 4, 2) := by decide +kernel
theorem dL_page_19 : decode cL_page 19 = .ok (.iconst 2, 1) := by decide +kernel
theorem dL_page_20 : decode cL_page 20 = .ok (.ireturn, 1) := by decide +kernel
theorem dL_page_21 : decode cL_page 21 = .ok (.iconst 0, 1) := by decide +kernel
theorem dL_page_22 : decode cL_page 22 = .ok (.ireturn, 1) := by decide +kernel
set_option maxHeartbeats 4000000 in
set_option maxRecDepth 100000 in
theorem cL_pageH (l : Launch) (hst : l.stackTraces = false) (D : va_G) (cI cL cZ cJ : ClassId) (ad : Nat → Nat) (dl : Nat → Nat → Nat) (sf sg : Nat → Option Nat) (hsf : ∀ j, j < 14 → sf j = some (dl j 0)) (hsg : ∀ j, j < 2 → sg j = some (dl (14 + j) 0)) (fo : Nat → Int64) (t : Nat → Int32) (n q : Nat) (hn : n ≤ 90) (hq : q ≤ 90) (vv : Nat → Int32) (nx ct : Nat) (hnx : nx < 14) (hct : ct ≤ 14) (uf : Nat → Int32) (zz : Nat → LgS) (hz : Inv (zz 16)) (hB : ∀ j, (zz j).1.2 ≤ 8) (ya : Int32) (yb : Int32) : LH l yL_page cL_page 5 [(0, 10, 13, 28), (0, 10, 17, 13)] 7 112 D (lwB cI cL cZ cJ ad dl sf sg fo t n q vv nx ct uf zz) [(cI, .int), (cL, (.object "TornPageLog$Log")), (cZ, .boolean), (cJ, .long)] [.ref (ad 1), .int (ya), .int (yb), .ref (ad 0)] (fun (r9 : Int32) (u9 : List va_W) => ((c6pg (zz 16) ya yb) = 0 ∧ r9 = 0 ∧ u9 = lwB cI cL cZ cJ ad dl sf sg (vp_updL fo 0 (tpZ (zz 16) ya yb : Int32).toInt64) t n q vv nx ct uf zz) ∨ (¬ (c6pg (zz 16) ya yb) = 0 ∧ r9 = (c6pg (zz 16) ya yb) ∧ u9 = lwB cI cL cZ cJ ad dl sf sg fo t n q vv nx ct uf zz)) := by
  refine lh_of (by decide) rfl (Nat.le_of_ble_eq_true rfl) ?_
  intro p e s m below meth c ls H hX hTb hr hlocks hK hN hE hSW hZ hCN hP hD hS hl
  generalize gp_A (bw (lwB cI cL cZ cJ ad dl sf sg fo t n q vv nx ct uf zz)) = A at hZ hD hS ⊢
  have hx := hX.1
  have hb := hX.2.1
  have hown := hX.2.2.2.1
  have hts := hX.2.2.2.2
  have hl : lv_has ls 5 [(0, .ref (ad 1)), (1, .int (ya)), (2, .int (yb)), (3, .ref (ad 0))] := hl
  refine lv_aload_n hx hb dL_page_0 rfl (lv_at hl 3 rfl) ?_
  refine lv_iconst (v := 0) hx hb dL_page_1 (by decide) ?_
  refine lv_aload_n hx hb dL_page_2 rfl (lv_at hl 0 rfl) ?_
  refine lv_iload_n hx hb dL_page_3 rfl (lv_at hl 1 rfl) ?_
  refine lv_iload_n hx hb dL_page_4 rfl (lv_at hl 2 rfl) ?_
  refine lh_callV (Bs := lwB cI cL cZ cJ ad dl sf sg fo t n q vv nx ct uf zz) hX (c6_page l hst D cI (ad 1) (ad 2) (ad 4) (ad 6) (dl 16) (dl 17) (dl 18) (zz 16) hz ya yb) ⟨by decide, by decide, show (parseMethodDescriptor yX6_page.desc).map (fun d => d.parameters.length) = some 2 by decide +kernel⟩ rfl (mlA 51 rfl) (mlA 52 rfl) (mlA 53 rfl) (mlA 54 rfl) ⟨Nat.le_of_ble_eq_true rfl, Nat.le_of_ble_eq_true rfl⟩ hK hN hE hSW hZ [0] rfl hP hD hS [1, 8 + 16] (by simp; try omega) (hcc cw_g1 (hcc (cw_get (j := 16) (by omega)) (hcn))) rfl hl.1 rfl (Nat.le_of_ble_eq_true rfl) dL_page_5 ⟨Nat.le_of_ble_eq_true rfl, Nat.le_of_ble_eq_true rfl⟩ (fun r u h => by obtain ⟨-, -, rfl⟩ := h; rfl) (fun E u h => by obtain ⟨-, rfl⟩ := h; rfl) (fun E ce qex u H locs hxp hP hD hS hcell hcv hcl => ?_) (fun r u H locs hp hP hD hS => ?_)
  · obtain ⟨hE9, rfl⟩ := hxp
    have hP : va_P D vwCl (bw (lwB cI cL cZ cJ ad dl sf sg fo t n q vv nx ct uf zz)) H := by
      rw [lwB, bput_c, cw_s1, bput_c, cw_set (j := 16) (by omega), va_id (k := 16) (rfl), bput_n] at hP
      exact hP
    have hD : va_D A (bw (lwB cI cL cZ cJ ad dl sf sg fo t n q vv nx ct uf zz)) := by
      rw [lwB, bput_c, cw_s1, bput_c, cw_set (j := 16) (by omega), va_id (k := 16) (rfl), bput_n] at hD
      exact hD
    rcases hE9 with ⟨rfl, hR⟩ | ⟨rfl, hR⟩
    · skip
      refine vx_catch hown [] ⟨0, 10, 13, 28⟩ [⟨0, 10, 17, 13⟩] (hTb.trans rfl) (fun z hz => nomatch hz) rfl (by decide) (hts _ (mlA 2 rfl)) (va_Nw.use rfl hE.2.2.2.2.2) hcell hcv hcl ?_
      refine lv_astore (lv' := [(4, .ref qex), (0, .ref (ad 1)), (1, .int (ya)), (2, .int (yb)), (3, .ref (ad 0))]) hx hb dL_page_13 hl (by decide) rfl (fun ls hl => ?_)
      refine lv_iconst (v := 1) hx hb dL_page_15 (by decide) ?_
      exact lh_ret hX hr hlocks hS hP (Or.inr ⟨by rw [hR]; decide, by rw [hR], rfl⟩) (Nat.le_of_ble_eq_true rfl) (Nat.le_of_ble_eq_true rfl) dL_page_16
    · skip
      refine vx_catch hown [⟨0, 10, 13, 28⟩] ⟨0, 10, 17, 13⟩ [] (hTb.trans rfl) (fun z hz => by rw [List.mem_singleton.mp hz]; exact Or.inr ⟨by decide, xOB, hts _ (mlA 2 rfl), hCN.2.1⟩) rfl (by decide) (hts _ (mlA 0 rfl)) (va_Nw.use rfl hE.2.2.2.1) hcell hcv hcl ?_
      refine lv_astore (lv' := [(4, .ref qex), (0, .ref (ad 1)), (1, .int (ya)), (2, .int (yb)), (3, .ref (ad 0))]) hx hb dL_page_17 hl (by decide) rfl (fun ls hl => ?_)
      refine lv_iconst (v := 2) hx hb dL_page_19 (by decide) ?_
      exact lh_ret hX hr hlocks hS hP (Or.inr ⟨by rw [hR]; decide, by rw [hR], rfl⟩) (Nat.le_of_ble_eq_true rfl) (Nat.le_of_ble_eq_true rfl) dL_page_20
  · obtain ⟨hR, hr9, rfl⟩ := hp
    have hP : va_P D vwCl (bw (lwB cI cL cZ cJ ad dl sf sg fo t n q vv nx ct uf zz)) H := by
      rw [lwB, bput_c, cw_s1, bput_c, cw_set (j := 16) (by omega), va_id (k := 16) (rfl), bput_n] at hP
      exact hP
    have hD : va_D A (bw (lwB cI cL cZ cJ ad dl sf sg fo t n q vv nx ct uf zz)) := by
      rw [lwB, bput_c, cw_s1, bput_c, cw_set (j := 16) (by omega), va_id (k := 16) (rfl), bput_n] at hD
      exact hD
    refine lv_as hr9 ?_
    refine lv_i2l (v := (tpZ (zz 16) ya yb : Int32).toInt64) hx hb dL_page_8 (rfl) ?_
    refine va_last hx hb hK hP hD hS 0 3 rfl rfl (show ¬ ((0 : Int32) < 0 ∨ 1 ≤ (0 : Int32).toNatClampNeg) by decide) dL_page_9 (fun H locs hP hD hS => ?_)
    have hP : va_P D vwCl (bw (lwB cI cL cZ cJ ad dl sf sg (vp_updL fo 0 (tpZ (zz 16) ya yb : Int32).toInt64) t n q vv nx ct uf zz)) H := hP
    refine lv_goto (tgt := 21) hx hb dL_page_10 (by decide) ?_
    refine lv_iconst (v := 0) hx hb dL_page_21 (by decide) ?_
    exact lh_ret hX hr hlocks hS hP (Or.inl ⟨hR, rfl, rfl⟩) (Nat.le_of_ble_eq_true rfl) (Nat.le_of_ble_eq_true rfl) dL_page_22
theorem dL_block_0 : decode cL_block 0 = .ok (.aload_n 3, 1) := by decide +kernel
theorem dL_block_1 : decode cL_block 1 = .ok (.iconst 0, 1) := by decide +kernel
theorem dL_block_2 : decode cL_block 2 = .ok (.aload_n 0, 1) := by decide +kernel
theorem dL_block_3 : decode cL_block 3 = .ok (.iload_n 1, 1) := by decide +kernel
theorem dL_block_4 : decode cL_block 4 = .ok (.iload_n 2, 1) := by decide +kernel
theorem dL_block_5 : decode cL_block 5 = .ok (.invokevirtual 30, 3) := by decide +kernel
theorem dL_block_8 : decode cL_block 8 = .ok (.i2l, 1) := by decide +kernel
theorem dL_block_9 : decode cL_block 9 = .ok (.lastore, 1) := by decide +kernel
theorem dL_block_10 : decode cL_block 10 = .ok (.goto 11, 3) := by decide +kernel
theorem dL_block_13 : decode cL_block 13 = .ok (.astore 4, 2) := by decide +kernel
theorem dL_block_15 : decode cL_block 15 = .ok (.iconst 1, 1) := by decide +kernel
theorem dL_block_16 : decode cL_block 16 = .ok (.ireturn, 1) := by decide +kernel
theorem dL_block_17 : decode cL_block 17 = .ok (.astore 4, 2) := by decide +kernel
theorem dL_block_19 : decode cL_block 19 = .ok (.iconst 2, 1) := by decide +kernel
theorem dL_block_20 : decode cL_block 20 = .ok (.ireturn, 1) := by decide +kernel
theorem dL_block_21 : decode cL_block 21 = .ok (.iconst 0, 1) := by decide +kernel
theorem dL_block_22 : decode cL_block 22 = .ok (.ireturn, 1) := by decide +kernel
set_option maxHeartbeats 4000000 in
set_option maxRecDepth 100000 in
theorem cL_blockH (l : Launch) (hst : l.stackTraces = false) (D : va_G) (cI cL cZ cJ : ClassId) (ad : Nat → Nat) (dl : Nat → Nat → Nat) (sf sg : Nat → Option Nat) (hsf : ∀ j, j < 14 → sf j = some (dl j 0)) (hsg : ∀ j, j < 2 → sg j = some (dl (14 + j) 0)) (fo : Nat → Int64) (t : Nat → Int32) (n q : Nat) (hn : n ≤ 90) (hq : q ≤ 90) (vv : Nat → Int32) (nx ct : Nat) (hnx : nx < 14) (hct : ct ≤ 14) (uf : Nat → Int32) (zz : Nat → LgS) (hz : Inv (zz 16)) (hB : ∀ j, (zz j).1.2 ≤ 8) (ya : Int32) (yb : Int32) : LH l yL_block cL_block 5 [(0, 10, 13, 28), (0, 10, 17, 13)] 7 112 D (lwB cI cL cZ cJ ad dl sf sg fo t n q vv nx ct uf zz) [(cI, .int), (cL, (.object "TornPageLog$Log")), (cZ, .boolean), (cJ, .long)] [.ref (ad 1), .int (ya), .int (yb), .ref (ad 0)] (fun (r9 : Int32) (u9 : List va_W) => ((c6bl (zz 16) ya yb) = 0 ∧ r9 = 0 ∧ u9 = lwB cI cL cZ cJ ad dl sf sg (vp_updL fo 0 (blZ (zz 16) ya yb.toNatClampNeg : Int32).toInt64) t n q vv nx ct uf zz) ∨ (¬ (c6bl (zz 16) ya yb) = 0 ∧ r9 = (c6bl (zz 16) ya yb) ∧ u9 = lwB cI cL cZ cJ ad dl sf sg fo t n q vv nx ct uf zz)) := by
  refine lh_of (by decide) rfl (Nat.le_of_ble_eq_true rfl) ?_
  intro p e s m below meth c ls H hX hTb hr hlocks hK hN hE hSW hZ hCN hP hD hS hl
  generalize gp_A (bw (lwB cI cL cZ cJ ad dl sf sg fo t n q vv nx ct uf zz)) = A at hZ hD hS ⊢
  have hx := hX.1
  have hb := hX.2.1
  have hown := hX.2.2.2.1
  have hts := hX.2.2.2.2
  have hl : lv_has ls 5 [(0, .ref (ad 1)), (1, .int (ya)), (2, .int (yb)), (3, .ref (ad 0))] := hl
  refine lv_aload_n hx hb dL_block_0 rfl (lv_at hl 3 rfl) ?_
  refine lv_iconst (v := 0) hx hb dL_block_1 (by decide) ?_
  refine lv_aload_n hx hb dL_block_2 rfl (lv_at hl 0 rfl) ?_
  refine lv_iload_n hx hb dL_block_3 rfl (lv_at hl 1 rfl) ?_
  refine lv_iload_n hx hb dL_block_4 rfl (lv_at hl 2 rfl) ?_
  refine lh_callV (Bs := lwB cI cL cZ cJ ad dl sf sg fo t n q vv nx ct uf zz) hX (c6_block l hst D cI (ad 1) (ad 2) (ad 4) (ad 6) (dl 16) (dl 17) (dl 18) (zz 16) hz ya yb) ⟨by decide, by decide, show (parseMethodDescriptor yX6_block.desc).map (fun d => d.parameters.length) = some 2 by decide +kernel⟩ rfl (mlA 15 rfl) (mlA 16 rfl) (mlA 17 rfl) (mlA 18 rfl) ⟨Nat.le_of_ble_eq_true rfl, Nat.le_of_ble_eq_true rfl⟩ hK hN hE hSW hZ [0] rfl hP hD hS [1, 8 + 16] (by simp; try omega) (hcc cw_g1 (hcc (cw_get (j := 16) (by omega)) (hcn))) rfl hl.1 rfl (Nat.le_of_ble_eq_true rfl) dL_block_5 ⟨Nat.le_of_ble_eq_true rfl, Nat.le_of_ble_eq_true rfl⟩ (fun r u h => by obtain ⟨-, -, rfl⟩ := h; rfl) (fun E u h => by obtain ⟨-, rfl⟩ := h; rfl) (fun E ce qex u H locs hxp hP hD hS hcell hcv hcl => ?_) (fun r u H locs hp hP hD hS => ?_)
  · obtain ⟨hE9, rfl⟩ := hxp
    have hP : va_P D vwCl (bw (lwB cI cL cZ cJ ad dl sf sg fo t n q vv nx ct uf zz)) H := by
      rw [lwB, bput_c, cw_s1, bput_c, cw_set (j := 16) (by omega), va_id (k := 16) (rfl), bput_n] at hP
      exact hP
    have hD : va_D A (bw (lwB cI cL cZ cJ ad dl sf sg fo t n q vv nx ct uf zz)) := by
      rw [lwB, bput_c, cw_s1, bput_c, cw_set (j := 16) (by omega), va_id (k := 16) (rfl), bput_n] at hD
      exact hD
    rcases hE9 with ⟨rfl, hR⟩ | ⟨rfl, hR⟩
    · skip
      refine vx_catch hown [] ⟨0, 10, 13, 28⟩ [⟨0, 10, 17, 13⟩] (hTb.trans rfl) (fun z hz => nomatch hz) rfl (by decide) (hts _ (mlA 2 rfl)) (va_Nw.use rfl hE.2.2.2.2.2) hcell hcv hcl ?_
      refine lv_astore (lv' := [(4, .ref qex), (0, .ref (ad 1)), (1, .int (ya)), (2, .int (yb)), (3, .ref (ad 0))]) hx hb dL_block_13 hl (by decide) rfl (fun ls hl => ?_)
      refine lv_iconst (v := 1) hx hb dL_block_15 (by decide) ?_
      exact lh_ret hX hr hlocks hS hP (Or.inr ⟨by rw [hR]; decide, by rw [hR], rfl⟩) (Nat.le_of_ble_eq_true rfl) (Nat.le_of_ble_eq_true rfl) dL_block_16
    · skip
      refine vx_catch hown [⟨0, 10, 13, 28⟩] ⟨0, 10, 17, 13⟩ [] (hTb.trans rfl) (fun z hz => by rw [List.mem_singleton.mp hz]; exact Or.inr ⟨by decide, xOB, hts _ (mlA 2 rfl), hCN.2.1⟩) rfl (by decide) (hts _ (mlA 0 rfl)) (va_Nw.use rfl hE.2.2.2.1) hcell hcv hcl ?_
      refine lv_astore (lv' := [(4, .ref qex), (0, .ref (ad 1)), (1, .int (ya)), (2, .int (yb)), (3, .ref (ad 0))]) hx hb dL_block_17 hl (by decide) rfl (fun ls hl => ?_)
      refine lv_iconst (v := 2) hx hb dL_block_19 (by decide) ?_
      exact lh_ret hX hr hlocks hS hP (Or.inr ⟨by rw [hR]; decide, by rw [hR], rfl⟩) (Nat.le_of_ble_eq_true rfl) (Nat.le_of_ble_eq_true rfl) dL_block_20
  · obtain ⟨hR, hr9, rfl⟩ := hp
    have hP : va_P D vwCl (bw (lwB cI cL cZ cJ ad dl sf sg fo t n q vv nx ct uf zz)) H := by
      rw [lwB, bput_c, cw_s1, bput_c, cw_set (j := 16) (by omega), va_id (k := 16) (rfl), bput_n] at hP
      exact hP
    have hD : va_D A (bw (lwB cI cL cZ cJ ad dl sf sg fo t n q vv nx ct uf zz)) := by
      rw [lwB, bput_c, cw_s1, bput_c, cw_set (j := 16) (by omega), va_id (k := 16) (rfl), bput_n] at hD
      exact hD
    refine lv_as hr9 ?_
    refine lv_i2l (v := (blZ (zz 16) ya yb.toNatClampNeg : Int32).toInt64) hx hb dL_block_8 (rfl) ?_
    refine va_last hx hb hK hP hD hS 0 3 rfl rfl (show ¬ ((0 : Int32) < 0 ∨ 1 ≤ (0 : Int32).toNatClampNeg) by decide) dL_block_9 (fun H locs hP hD hS => ?_)
    have hP : va_P D vwCl (bw (lwB cI cL cZ cJ ad dl sf sg (vp_updL fo 0 (blZ (zz 16) ya yb.toNatClampNeg : Int32).toInt64) t n q vv nx ct uf zz)) H := hP
    refine lv_goto (tgt := 21) hx hb dL_block_10 (by decide) ?_
    refine lv_iconst (v := 0) hx hb dL_block_21 (by decide) ?_
    exact lh_ret hX hr hlocks hS hP (Or.inl ⟨hR, rfl, rfl⟩) (Nat.le_of_ble_eq_true rfl) (Nat.le_of_ble_eq_true rfl) dL_block_22
theorem dL_get_0 : decode cL_get 0 = .ok (.aload_n 2, 1) := by decide +kernel
theorem dL_get_1 : decode cL_get 1 = .ok (.iconst 0, 1) := by decide +kernel
theorem dL_get_2 : decode cL_get 2 = .ok (.aload_n 0, 1) := by decide +kernel
theorem dL_get_3 : decode cL_get 3 = .ok (.iload_n 1, 1) := by decide +kernel
theorem dL_get_4 : decode cL_get 4 = .ok (.invokevirtual 33, 3) := by decide +kernel
theorem dL_get_7 : decode cL_get 7 = .ok (.i2l, 1) := by decide +kernel
theorem dL_get_8 : decode cL_get 8 = .ok (.lastore, 1) := by decide +kernel
theorem dL_get_9 : decode cL_get 9 = .ok (.goto 9, 3) := by decide +kernel
theorem dL_get_12 : decode cL_get 12 = .ok (.astore_n 3, 1) := by decide +kernel
theorem dL_get_13 : decode cL_get 13 = .ok (.iconst 1, 1) := by decide +kernel
theorem dL_get_14 : decode cL_get 14 = .ok (.ireturn, 1) := by decide +kernel
theorem dL_get_15 : decode cL_get 15 = .ok (.astore_n 3, 1) := by decide +kernel
theorem dL_get_16 : decode cL_get 16 = .ok (.iconst 2, 1) := by decide +kernel
theorem dL_get_17 : decode cL_get 17 = .ok (.ireturn, 1) := by decide +kernel
theorem dL_get_18 : decode cL_get 18 = .ok (.iconst 0, 1) := by decide +kernel
theorem dL_get_19 : decode cL_get 19 = .ok (.ireturn, 1) := by decide +kernel
set_option maxHeartbeats 4000000 in
set_option maxRecDepth 100000 in
theorem cL_getH (l : Launch) (hst : l.stackTraces = false) (D : va_G) (cI cL cZ cJ : ClassId) (ad : Nat → Nat) (dl : Nat → Nat → Nat) (sf sg : Nat → Option Nat) (hsf : ∀ j, j < 14 → sf j = some (dl j 0)) (hsg : ∀ j, j < 2 → sg j = some (dl (14 + j) 0)) (fo : Nat → Int64) (t : Nat → Int32) (n q : Nat) (hn : n ≤ 90) (hq : q ≤ 90) (vv : Nat → Int32) (nx ct : Nat) (hnx : nx < 14) (hct : ct ≤ 14) (uf : Nat → Int32) (zz : Nat → LgS) (hz : Inv (zz 16)) (hB : ∀ j, (zz j).1.2 ≤ 8) (ya : Int32) : LH l yL_get cL_get 4 [(0, 9, 12, 13), (0, 9, 15, 15)] 7 111 D (lwB cI cL cZ cJ ad dl sf sg fo t n q vv nx ct uf zz) [(cI, .int), (cL, (.object "TornPageLog$Log")), (cZ, .boolean), (cJ, .long)] [.ref (ad 1), .int (ya), .ref (ad 0)] (fun (r9 : Int32) (u9 : List va_W) => ((c6get (zz 16) ya) = 0 ∧ r9 = 0 ∧ u9 = lwB cI cL cZ cJ ad dl sf sg (vp_updL fo 0 (vaZ (zz 16) ya : Int32).toInt64) t n q vv nx ct uf zz) ∨ (¬ (c6get (zz 16) ya) = 0 ∧ r9 = (c6get (zz 16) ya) ∧ u9 = lwB cI cL cZ cJ ad dl sf sg fo t n q vv nx ct uf zz)) := by
  refine lh_of (by decide) rfl (Nat.le_of_ble_eq_true rfl) ?_
  intro p e s m below meth c ls H hX hTb hr hlocks hK hN hE hSW hZ hCN hP hD hS hl
  generalize gp_A (bw (lwB cI cL cZ cJ ad dl sf sg fo t n q vv nx ct uf zz)) = A at hZ hD hS ⊢
  have hx := hX.1
  have hb := hX.2.1
  have hown := hX.2.2.2.1
  have hts := hX.2.2.2.2
  have hl : lv_has ls 4 [(0, .ref (ad 1)), (1, .int (ya)), (2, .ref (ad 0))] := hl
  refine lv_aload_n hx hb dL_get_0 rfl (lv_at hl 2 rfl) ?_
  refine lv_iconst (v := 0) hx hb dL_get_1 (by decide) ?_
  refine lv_aload_n hx hb dL_get_2 rfl (lv_at hl 0 rfl) ?_
  refine lv_iload_n hx hb dL_get_3 rfl (lv_at hl 1 rfl) ?_
  refine lh_callV (Bs := lwB cI cL cZ cJ ad dl sf sg fo t n q vv nx ct uf zz) hX (c6_get l hst D cI (ad 1) (ad 2) (ad 4) (ad 6) (dl 16) (dl 17) (dl 18) (zz 16) hz ya) ⟨by decide, by decide, show (parseMethodDescriptor yX6_get.desc).map (fun d => d.parameters.length) = some 1 by decide +kernel⟩ rfl (mlA 23 rfl) (mlA 24 rfl) (mlA 25 rfl) (mlA 26 rfl) ⟨Nat.le_of_ble_eq_true rfl, Nat.le_of_ble_eq_true rfl⟩ hK hN hE hSW hZ [0] rfl hP hD hS [1, 8 + 16] (by simp; try omega) (hcc cw_g1 (hcc (cw_get (j := 16) (by omega)) (hcn))) rfl hl.1 rfl (Nat.le_of_ble_eq_true rfl) dL_get_4 ⟨Nat.le_of_ble_eq_true rfl, Nat.le_of_ble_eq_true rfl⟩ (fun r u h => by obtain ⟨-, -, rfl⟩ := h; rfl) (fun E u h => by obtain ⟨-, rfl⟩ := h; rfl) (fun E ce qex u H locs hxp hP hD hS hcell hcv hcl => ?_) (fun r u H locs hp hP hD hS => ?_)
  · obtain ⟨hE9, rfl⟩ := hxp
    have hP : va_P D vwCl (bw (lwB cI cL cZ cJ ad dl sf sg fo t n q vv nx ct uf zz)) H := by
      rw [lwB, bput_c, cw_s1, bput_c, cw_set (j := 16) (by omega), va_id (k := 16) (rfl), bput_n] at hP
      exact hP
    have hD : va_D A (bw (lwB cI cL cZ cJ ad dl sf sg fo t n q vv nx ct uf zz)) := by
      rw [lwB, bput_c, cw_s1, bput_c, cw_set (j := 16) (by omega), va_id (k := 16) (rfl), bput_n] at hD
      exact hD
    rcases hE9 with ⟨rfl, hR⟩ | ⟨rfl, hR⟩
    · skip
      refine vx_catch hown [] ⟨0, 9, 12, 13⟩ [⟨0, 9, 15, 15⟩] (hTb.trans rfl) (fun z hz => nomatch hz) rfl (by decide) (hts _ (mlA 0 rfl)) (va_Nw.use rfl hE.2.2.2.1) hcell hcv hcl ?_
      refine lv_astore_n (lv' := [(3, .ref qex), (0, .ref (ad 1)), (1, .int (ya)), (2, .ref (ad 0))]) hx hb dL_get_12 rfl hl (by decide) rfl (fun ls hl => ?_)
      refine lv_iconst (v := 1) hx hb dL_get_13 (by decide) ?_
      exact lh_ret hX hr hlocks hS hP (Or.inr ⟨by rw [hR]; decide, by rw [hR], rfl⟩) (Nat.le_of_ble_eq_true rfl) (Nat.le_of_ble_eq_true rfl) dL_get_14
    · skip
      refine vx_catch hown [⟨0, 9, 12, 13⟩] ⟨0, 9, 15, 15⟩ [] (hTb.trans rfl) (fun z hz => by rw [List.mem_singleton.mp hz]; exact Or.inr ⟨by decide, xIA, hts _ (mlA 0 rfl), hCN.1⟩) rfl (by decide) (hts _ (mlA 1 rfl)) (va_Nw.use rfl hE.2.2.2.2.1) hcell hcv hcl ?_
      refine lv_astore_n (lv' := [(3, .ref qex), (0, .ref (ad 1)), (1, .int (ya)), (2, .ref (ad 0))]) hx hb dL_get_15 rfl hl (by decide) rfl (fun ls hl => ?_)
      refine lv_iconst (v := 2) hx hb dL_get_16 (by decide) ?_
      exact lh_ret hX hr hlocks hS hP (Or.inr ⟨by rw [hR]; decide, by rw [hR], rfl⟩) (Nat.le_of_ble_eq_true rfl) (Nat.le_of_ble_eq_true rfl) dL_get_17
  · obtain ⟨hR, hr9, rfl⟩ := hp
    have hP : va_P D vwCl (bw (lwB cI cL cZ cJ ad dl sf sg fo t n q vv nx ct uf zz)) H := by
      rw [lwB, bput_c, cw_s1, bput_c, cw_set (j := 16) (by omega), va_id (k := 16) (rfl), bput_n] at hP
      exact hP
    have hD : va_D A (bw (lwB cI cL cZ cJ ad dl sf sg fo t n q vv nx ct uf zz)) := by
      rw [lwB, bput_c, cw_s1, bput_c, cw_set (j := 16) (by omega), va_id (k := 16) (rfl), bput_n] at hD
      exact hD
    refine lv_as hr9 ?_
    refine lv_i2l (v := (vaZ (zz 16) ya : Int32).toInt64) hx hb dL_get_7 (rfl) ?_
    refine va_last hx hb hK hP hD hS 0 3 rfl rfl (show ¬ ((0 : Int32) < 0 ∨ 1 ≤ (0 : Int32).toNatClampNeg) by decide) dL_get_8 (fun H locs hP hD hS => ?_)
    have hP : va_P D vwCl (bw (lwB cI cL cZ cJ ad dl sf sg (vp_updL fo 0 (vaZ (zz 16) ya : Int32).toInt64) t n q vv nx ct uf zz)) H := hP
    refine lv_goto (tgt := 18) hx hb dL_get_9 (by decide) ?_
    refine lv_iconst (v := 0) hx hb dL_get_18 (by decide) ?_
    exact lh_ret hX hr hlocks hS hP (Or.inl ⟨hR, rfl, rfl⟩) (Nat.le_of_ble_eq_true rfl) (Nat.le_of_ble_eq_true rfl) dL_get_19
theorem dL_keyAt_0 : decode cL_keyAt 0 = .ok (.aload_n 2, 1) := by decide +kernel
theorem dL_keyAt_1 : decode cL_keyAt 1 = .ok (.iconst 0, 1) := by decide +kernel
theorem dL_keyAt_2 : decode cL_keyAt 2 = .ok (.aload_n 0, 1) := by decide +kernel
theorem dL_keyAt_3 : decode cL_keyAt 3 = .ok (.iload_n 1, 1) := by decide +kernel
theorem dL_keyAt_4 : decode cL_keyAt 4 = .ok (.invokevirtual 36, 3) := by decide +kernel
theorem dL_keyAt_7 : decode cL_keyAt 7 = .ok (.i2l, 1) := by decide +kernel
theorem dL_keyAt_8 : decode cL_keyAt 8 = .ok (.lastore, 1) := by decide +kernel
theorem dL_keyAt_9 : decode cL_keyAt 9 = .ok (.goto 6, 3) := by decide +kernel
theorem dL_keyAt_12 : decode cL_keyAt 12 = .ok (.astore_n 3, 1) := by decide +kernel
theorem dL_keyAt_13 : decode cL_keyAt 13 = .ok (.iconst 1, 1) := by decide +kernel
theorem dL_keyAt_14 : decode cL_keyAt 14 = .ok (.ireturn, 1) := by decide +kernel
theorem dL_keyAt_15 : decode cL_keyAt 15 = .ok (.iconst 0, 1) := by decide +kernel
theorem dL_keyAt_16 : decode cL_keyAt 16 = .ok (.ireturn, 1) := by decide +kernel
set_option maxHeartbeats 4000000 in
set_option maxRecDepth 100000 in
theorem cL_keyAtH (l : Launch) (hst : l.stackTraces = false) (D : va_G) (cI cL cZ cJ : ClassId) (ad : Nat → Nat) (dl : Nat → Nat → Nat) (sf sg : Nat → Option Nat) (hsf : ∀ j, j < 14 → sf j = some (dl j 0)) (hsg : ∀ j, j < 2 → sg j = some (dl (14 + j) 0)) (fo : Nat → Int64) (t : Nat → Int32) (n q : Nat) (hn : n ≤ 90) (hq : q ≤ 90) (vv : Nat → Int32) (nx ct : Nat) (hnx : nx < 14) (hct : ct ≤ 14) (uf : Nat → Int32) (zz : Nat → LgS) (hz : Inv (zz 16)) (hB : ∀ j, (zz j).1.2 ≤ 8) (ya : Int32) : LH l yL_keyAt cL_keyAt 4 [(0, 9, 12, 13)] 7 113 D (lwB cI cL cZ cJ ad dl sf sg fo t n q vv nx ct uf zz) [(cI, .int), (cL, (.object "TornPageLog$Log")), (cZ, .boolean), (cJ, .long)] [.ref (ad 1), .int (ya), .ref (ad 0)] (fun (r9 : Int32) (u9 : List va_W) => ((c6kat ya) = 0 ∧ r9 = 0 ∧ u9 = lwB cI cL cZ cJ ad dl sf sg (vp_updL fo 0 (oI (kaF (zz 16) ya 16) : Int32).toInt64) t n q vv nx ct uf zz) ∨ (¬ (c6kat ya) = 0 ∧ r9 = (c6kat ya) ∧ u9 = lwB cI cL cZ cJ ad dl sf sg fo t n q vv nx ct uf zz)) := by
  refine lh_of (by decide) rfl (Nat.le_of_ble_eq_true rfl) ?_
  intro p e s m below meth c ls H hX hTb hr hlocks hK hN hE hSW hZ hCN hP hD hS hl
  generalize gp_A (bw (lwB cI cL cZ cJ ad dl sf sg fo t n q vv nx ct uf zz)) = A at hZ hD hS ⊢
  have hx := hX.1
  have hb := hX.2.1
  have hown := hX.2.2.2.1
  have hts := hX.2.2.2.2
  have hl : lv_has ls 4 [(0, .ref (ad 1)), (1, .int (ya)), (2, .ref (ad 0))] := hl
  refine lv_aload_n hx hb dL_keyAt_0 rfl (lv_at hl 2 rfl) ?_
  refine lv_iconst (v := 0) hx hb dL_keyAt_1 (by decide) ?_
  refine lv_aload_n hx hb dL_keyAt_2 rfl (lv_at hl 0 rfl) ?_
  refine lv_iload_n hx hb dL_keyAt_3 rfl (lv_at hl 1 rfl) ?_
  refine lh_callV (Bs := lwB cI cL cZ cJ ad dl sf sg fo t n q vv nx ct uf zz) hX (c6_keyAt l hst D cI (ad 1) (ad 2) (ad 4) (ad 6) (dl 16) (dl 17) (dl 18) (zz 16) hz ya) ⟨by decide, by decide, show (parseMethodDescriptor yX6_keyAt.desc).map (fun d => d.parameters.length) = some 1 by decide +kernel⟩ rfl (mlA 27 rfl) (mlA 28 rfl) (mlA 29 rfl) (mlA 30 rfl) ⟨Nat.le_of_ble_eq_true rfl, Nat.le_of_ble_eq_true rfl⟩ hK hN hE hSW hZ [0] rfl hP hD hS [1, 8 + 16] (by simp; try omega) (hcc cw_g1 (hcc (cw_get (j := 16) (by omega)) (hcn))) rfl hl.1 rfl (Nat.le_of_ble_eq_true rfl) dL_keyAt_4 ⟨Nat.le_of_ble_eq_true rfl, Nat.le_of_ble_eq_true rfl⟩ (fun r u h => by obtain ⟨-, -, rfl⟩ := h; rfl) (fun E u h => by obtain ⟨-, rfl⟩ := h; rfl) (fun E ce qex u H locs hxp hP hD hS hcell hcv hcl => ?_) (fun r u H locs hp hP hD hS => ?_)
  · obtain ⟨hE9, rfl⟩ := hxp
    have hP : va_P D vwCl (bw (lwB cI cL cZ cJ ad dl sf sg fo t n q vv nx ct uf zz)) H := by
      rw [lwB, bput_c, cw_s1, bput_c, cw_set (j := 16) (by omega), va_id (k := 16) (rfl), bput_n] at hP
      exact hP
    have hD : va_D A (bw (lwB cI cL cZ cJ ad dl sf sg fo t n q vv nx ct uf zz)) := by
      rw [lwB, bput_c, cw_s1, bput_c, cw_set (j := 16) (by omega), va_id (k := 16) (rfl), bput_n] at hD
      exact hD
    obtain ⟨rfl, hR⟩ := hE9
    · skip
      refine vx_catch hown [] ⟨0, 9, 12, 13⟩ [] (hTb.trans rfl) (fun z hz => nomatch hz) rfl (by decide) (hts _ (mlA 0 rfl)) (va_Nw.use rfl hE.2.2.2.1) hcell hcv hcl ?_
      refine lv_astore_n (lv' := [(3, .ref qex), (0, .ref (ad 1)), (1, .int (ya)), (2, .ref (ad 0))]) hx hb dL_keyAt_12 rfl hl (by decide) rfl (fun ls hl => ?_)
      refine lv_iconst (v := 1) hx hb dL_keyAt_13 (by decide) ?_
      exact lh_ret hX hr hlocks hS hP (Or.inr ⟨by rw [hR]; decide, by rw [hR], rfl⟩) (Nat.le_of_ble_eq_true rfl) (Nat.le_of_ble_eq_true rfl) dL_keyAt_14
  · obtain ⟨hR, hr9, rfl⟩ := hp
    have hP : va_P D vwCl (bw (lwB cI cL cZ cJ ad dl sf sg fo t n q vv nx ct uf zz)) H := by
      rw [lwB, bput_c, cw_s1, bput_c, cw_set (j := 16) (by omega), va_id (k := 16) (rfl), bput_n] at hP
      exact hP
    have hD : va_D A (bw (lwB cI cL cZ cJ ad dl sf sg fo t n q vv nx ct uf zz)) := by
      rw [lwB, bput_c, cw_s1, bput_c, cw_set (j := 16) (by omega), va_id (k := 16) (rfl), bput_n] at hD
      exact hD
    refine lv_as hr9 ?_
    refine lv_i2l (v := (oI (kaF (zz 16) ya 16) : Int32).toInt64) hx hb dL_keyAt_7 (rfl) ?_
    refine va_last hx hb hK hP hD hS 0 3 rfl rfl (show ¬ ((0 : Int32) < 0 ∨ 1 ≤ (0 : Int32).toNatClampNeg) by decide) dL_keyAt_8 (fun H locs hP hD hS => ?_)
    have hP : va_P D vwCl (bw (lwB cI cL cZ cJ ad dl sf sg (vp_updL fo 0 (oI (kaF (zz 16) ya 16) : Int32).toInt64) t n q vv nx ct uf zz)) H := hP
    refine lv_goto (tgt := 15) hx hb dL_keyAt_9 (by decide) ?_
    refine lv_iconst (v := 0) hx hb dL_keyAt_15 (by decide) ?_
    exact lh_ret hX hr hlocks hS hP (Or.inl ⟨hR, rfl, rfl⟩) (Nat.le_of_ble_eq_true rfl) (Nat.le_of_ble_eq_true rfl) dL_keyAt_16
theorem dL_newest_0 : decode cL_newest 0 = .ok (.aload_n 2, 1) := by decide +kernel
theorem dL_newest_1 : decode cL_newest 1 = .ok (.iconst 0, 1) := by decide +kernel
theorem dL_newest_2 : decode cL_newest 2 = .ok (.aload_n 0, 1) := by decide +kernel
theorem dL_newest_3 : decode cL_newest 3 = .ok (.iload_n 1, 1) := by decide +kernel
theorem dL_newest_4 : decode cL_newest 4 = .ok (.invokevirtual 39, 3) := by decide +kernel
theorem dL_newest_7 : decode cL_newest 7 = .ok (.i2l, 1) := by decide +kernel
theorem dL_newest_8 : decode cL_newest 8 = .ok (.lastore, 1) := by decide +kernel
theorem dL_newest_9 : decode cL_newest 9 = .ok (.goto 6, 3) := by decide +kernel
theorem dL_newest_12 : decode cL_newest 12 = .ok (.astore_n 3, 1) := by decide +kernel
theorem dL_newest_13 : decode cL_newest 13 = .ok (.iconst 1, 1) := by decide +kernel
theorem dL_newest_14 : decode cL_newest 14 = .ok (.ireturn, 1) := by decide +kernel
theorem dL_newest_15 : decode cL_newest 15 = .ok (.iconst 0, 1) := by decide +kernel
theorem dL_newest_16 : decode cL_newest 16 = .ok (.ireturn, 1) := by decide +kernel
set_option maxHeartbeats 4000000 in
set_option maxRecDepth 100000 in
theorem cL_newestH (l : Launch) (hst : l.stackTraces = false) (D : va_G) (cI cL cZ cJ : ClassId) (ad : Nat → Nat) (dl : Nat → Nat → Nat) (sf sg : Nat → Option Nat) (hsf : ∀ j, j < 14 → sf j = some (dl j 0)) (hsg : ∀ j, j < 2 → sg j = some (dl (14 + j) 0)) (fo : Nat → Int64) (t : Nat → Int32) (n q : Nat) (hn : n ≤ 90) (hq : q ≤ 90) (vv : Nat → Int32) (nx ct : Nat) (hnx : nx < 14) (hct : ct ≤ 14) (uf : Nat → Int32) (zz : Nat → LgS) (hz : Inv (zz 16)) (hB : ∀ j, (zz j).1.2 ≤ 8) (ya : Int32) : LH l yL_newest cL_newest 4 [(0, 9, 12, 13)] 7 111 D (lwB cI cL cZ cJ ad dl sf sg fo t n q vv nx ct uf zz) [(cI, .int), (cL, (.object "TornPageLog$Log")), (cZ, .boolean), (cJ, .long)] [.ref (ad 1), .int (ya), .ref (ad 0)] (fun (r9 : Int32) (u9 : List va_W) => ((c6key ya) = 0 ∧ r9 = 0 ∧ u9 = lwB cI cL cZ cJ ad dl sf sg (vp_updL fo 0 (at_ ((zz 16).2.2 6) 16 (-9) ya : Int32).toInt64) t n q vv nx ct uf zz) ∨ (¬ (c6key ya) = 0 ∧ r9 = (c6key ya) ∧ u9 = lwB cI cL cZ cJ ad dl sf sg fo t n q vv nx ct uf zz)) := by
  refine lh_of (by decide) rfl (Nat.le_of_ble_eq_true rfl) ?_
  intro p e s m below meth c ls H hX hTb hr hlocks hK hN hE hSW hZ hCN hP hD hS hl
  generalize gp_A (bw (lwB cI cL cZ cJ ad dl sf sg fo t n q vv nx ct uf zz)) = A at hZ hD hS ⊢
  have hx := hX.1
  have hb := hX.2.1
  have hown := hX.2.2.2.1
  have hts := hX.2.2.2.2
  have hl : lv_has ls 4 [(0, .ref (ad 1)), (1, .int (ya)), (2, .ref (ad 0))] := hl
  refine lv_aload_n hx hb dL_newest_0 rfl (lv_at hl 2 rfl) ?_
  refine lv_iconst (v := 0) hx hb dL_newest_1 (by decide) ?_
  refine lv_aload_n hx hb dL_newest_2 rfl (lv_at hl 0 rfl) ?_
  refine lv_iload_n hx hb dL_newest_3 rfl (lv_at hl 1 rfl) ?_
  refine lh_callV (Bs := lwB cI cL cZ cJ ad dl sf sg fo t n q vv nx ct uf zz) hX (c6_newest l hst D cI (ad 1) (ad 2) (ad 4) (ad 6) (dl 16) (dl 17) (dl 18) (zz 16) hz ya) ⟨by decide, by decide, show (parseMethodDescriptor yX6_newest.desc).map (fun d => d.parameters.length) = some 1 by decide +kernel⟩ rfl (mlA 43 rfl) (mlA 44 rfl) (mlA 45 rfl) (mlA 46 rfl) ⟨Nat.le_of_ble_eq_true rfl, Nat.le_of_ble_eq_true rfl⟩ hK hN hE hSW hZ [0] rfl hP hD hS [1, 8 + 16] (by simp; try omega) (hcc cw_g1 (hcc (cw_get (j := 16) (by omega)) (hcn))) rfl hl.1 rfl (Nat.le_of_ble_eq_true rfl) dL_newest_4 ⟨Nat.le_of_ble_eq_true rfl, Nat.le_of_ble_eq_true rfl⟩ (fun r u h => by obtain ⟨-, -, rfl⟩ := h; rfl) (fun E u h => by obtain ⟨-, rfl⟩ := h; rfl) (fun E ce qex u H locs hxp hP hD hS hcell hcv hcl => ?_) (fun r u H locs hp hP hD hS => ?_)
  · obtain ⟨hE9, rfl⟩ := hxp
    have hP : va_P D vwCl (bw (lwB cI cL cZ cJ ad dl sf sg fo t n q vv nx ct uf zz)) H := by
      rw [lwB, bput_c, cw_s1, bput_c, cw_set (j := 16) (by omega), va_id (k := 16) (rfl), bput_n] at hP
      exact hP
    have hD : va_D A (bw (lwB cI cL cZ cJ ad dl sf sg fo t n q vv nx ct uf zz)) := by
      rw [lwB, bput_c, cw_s1, bput_c, cw_set (j := 16) (by omega), va_id (k := 16) (rfl), bput_n] at hD
      exact hD
    obtain ⟨rfl, hR⟩ := hE9
    · skip
      refine vx_catch hown [] ⟨0, 9, 12, 13⟩ [] (hTb.trans rfl) (fun z hz => nomatch hz) rfl (by decide) (hts _ (mlA 0 rfl)) (va_Nw.use rfl hE.2.2.2.1) hcell hcv hcl ?_
      refine lv_astore_n (lv' := [(3, .ref qex), (0, .ref (ad 1)), (1, .int (ya)), (2, .ref (ad 0))]) hx hb dL_newest_12 rfl hl (by decide) rfl (fun ls hl => ?_)
      refine lv_iconst (v := 1) hx hb dL_newest_13 (by decide) ?_
      exact lh_ret hX hr hlocks hS hP (Or.inr ⟨by rw [hR]; decide, by rw [hR], rfl⟩) (Nat.le_of_ble_eq_true rfl) (Nat.le_of_ble_eq_true rfl) dL_newest_14
  · obtain ⟨hR, hr9, rfl⟩ := hp
    have hP : va_P D vwCl (bw (lwB cI cL cZ cJ ad dl sf sg fo t n q vv nx ct uf zz)) H := by
      rw [lwB, bput_c, cw_s1, bput_c, cw_set (j := 16) (by omega), va_id (k := 16) (rfl), bput_n] at hP
      exact hP
    have hD : va_D A (bw (lwB cI cL cZ cJ ad dl sf sg fo t n q vv nx ct uf zz)) := by
      rw [lwB, bput_c, cw_s1, bput_c, cw_set (j := 16) (by omega), va_id (k := 16) (rfl), bput_n] at hD
      exact hD
    refine lv_as hr9 ?_
    refine lv_i2l (v := (at_ ((zz 16).2.2 6) 16 (-9) ya : Int32).toInt64) hx hb dL_newest_7 (rfl) ?_
    refine va_last hx hb hK hP hD hS 0 3 rfl rfl (show ¬ ((0 : Int32) < 0 ∨ 1 ≤ (0 : Int32).toNatClampNeg) by decide) dL_newest_8 (fun H locs hP hD hS => ?_)
    have hP : va_P D vwCl (bw (lwB cI cL cZ cJ ad dl sf sg (vp_updL fo 0 (at_ ((zz 16).2.2 6) 16 (-9) ya : Int32).toInt64) t n q vv nx ct uf zz)) H := hP
    refine lv_goto (tgt := 15) hx hb dL_newest_9 (by decide) ?_
    refine lv_iconst (v := 0) hx hb dL_newest_15 (by decide) ?_
    exact lh_ret hX hr hlocks hS hP (Or.inl ⟨hR, rfl, rfl⟩) (Nat.le_of_ble_eq_true rfl) (Nat.le_of_ble_eq_true rfl) dL_newest_16
theorem dL_lastCut_0 : decode cL_lastCut 0 = .ok (.aload_n 2, 1) := by decide +kernel
theorem dL_lastCut_1 : decode cL_lastCut 1 = .ok (.iconst 0, 1) := by decide +kernel
theorem dL_lastCut_2 : decode cL_lastCut 2 = .ok (.aload_n 0, 1) := by decide +kernel
theorem dL_lastCut_3 : decode cL_lastCut 3 = .ok (.iload_n 1, 1) := by decide +kernel
theorem dL_lastCut_4 : decode cL_lastCut 4 = .ok (.invokevirtual 42, 3) := by decide +kernel
theorem dL_lastCut_7 : decode cL_lastCut 7 = .ok (.i2l, 1) := by decide +kernel
theorem dL_lastCut_8 : decode cL_lastCut 8 = .ok (.lastore, 1) := by decide +kernel
theorem dL_lastCut_9 : decode cL_lastCut 9 = .ok (.goto 6, 3) := by decide +kernel
theorem dL_lastCut_12 : decode cL_lastCut 12 = .ok (.astore_n 3, 1) := by decide +kernel
theorem dL_lastCut_13 : decode cL_lastCut 13 = .ok (.iconst 1, 1) := by decide +kernel
theorem dL_lastCut_14 : decode cL_lastCut 14 = .ok (.ireturn, 1) := by decide +kernel
theorem dL_lastCut_15 : decode cL_lastCut 15 = .ok (.iconst 0, 1) := by decide +kernel
theorem dL_lastCut_16 : decode cL_lastCut 16 = .ok (.ireturn, 1) := by decide +kernel
set_option maxHeartbeats 4000000 in
set_option maxRecDepth 100000 in
theorem cL_lastCutH (l : Launch) (hst : l.stackTraces = false) (D : va_G) (cI cL cZ cJ : ClassId) (ad : Nat → Nat) (dl : Nat → Nat → Nat) (sf sg : Nat → Option Nat) (hsf : ∀ j, j < 14 → sf j = some (dl j 0)) (hsg : ∀ j, j < 2 → sg j = some (dl (14 + j) 0)) (fo : Nat → Int64) (t : Nat → Int32) (n q : Nat) (hn : n ≤ 90) (hq : q ≤ 90) (vv : Nat → Int32) (nx ct : Nat) (hnx : nx < 14) (hct : ct ≤ 14) (uf : Nat → Int32) (zz : Nat → LgS) (hz : Inv (zz 16)) (hB : ∀ j, (zz j).1.2 ≤ 8) (ya : Int32) : LH l yL_lastCut cL_lastCut 4 [(0, 9, 12, 13)] 7 111 D (lwB cI cL cZ cJ ad dl sf sg fo t n q vv nx ct uf zz) [(cI, .int), (cL, (.object "TornPageLog$Log")), (cZ, .boolean), (cJ, .long)] [.ref (ad 1), .int (ya), .ref (ad 0)] (fun (r9 : Int32) (u9 : List va_W) => ((c6r ya 2) = 0 ∧ r9 = 0 ∧ u9 = lwB cI cL cZ cJ ad dl sf sg (vp_updL fo 0 (tcF ((zz 16).2.1 10) ((zz 16).2.1 11) ((zz 16).2.1 12) ya.toNatClampNeg : Int32).toInt64) t n q vv nx ct uf zz) ∨ (¬ (c6r ya 2) = 0 ∧ r9 = (c6r ya 2) ∧ u9 = lwB cI cL cZ cJ ad dl sf sg fo t n q vv nx ct uf zz)) := by
  refine lh_of (by decide) rfl (Nat.le_of_ble_eq_true rfl) ?_
  intro p e s m below meth c ls H hX hTb hr hlocks hK hN hE hSW hZ hCN hP hD hS hl
  generalize gp_A (bw (lwB cI cL cZ cJ ad dl sf sg fo t n q vv nx ct uf zz)) = A at hZ hD hS ⊢
  have hx := hX.1
  have hb := hX.2.1
  have hown := hX.2.2.2.1
  have hts := hX.2.2.2.2
  have hl : lv_has ls 4 [(0, .ref (ad 1)), (1, .int (ya)), (2, .ref (ad 0))] := hl
  refine lv_aload_n hx hb dL_lastCut_0 rfl (lv_at hl 2 rfl) ?_
  refine lv_iconst (v := 0) hx hb dL_lastCut_1 (by decide) ?_
  refine lv_aload_n hx hb dL_lastCut_2 rfl (lv_at hl 0 rfl) ?_
  refine lv_iload_n hx hb dL_lastCut_3 rfl (lv_at hl 1 rfl) ?_
  refine lh_callV (Bs := lwB cI cL cZ cJ ad dl sf sg fo t n q vv nx ct uf zz) hX (c6_lastCut l hst D cI (ad 1) (ad 2) (ad 4) (ad 6) (dl 16) (dl 17) (dl 18) (zz 16) hz ya) ⟨by decide, by decide, show (parseMethodDescriptor yX6_lastCut.desc).map (fun d => d.parameters.length) = some 1 by decide +kernel⟩ rfl (mlA 31 rfl) (mlA 32 rfl) (mlA 33 rfl) (mlA 34 rfl) ⟨Nat.le_of_ble_eq_true rfl, Nat.le_of_ble_eq_true rfl⟩ hK hN hE hSW hZ [0] rfl hP hD hS [1, 8 + 16] (by simp; try omega) (hcc cw_g1 (hcc (cw_get (j := 16) (by omega)) (hcn))) rfl hl.1 rfl (Nat.le_of_ble_eq_true rfl) dL_lastCut_4 ⟨Nat.le_of_ble_eq_true rfl, Nat.le_of_ble_eq_true rfl⟩ (fun r u h => by obtain ⟨-, -, rfl⟩ := h; rfl) (fun E u h => by obtain ⟨-, rfl⟩ := h; rfl) (fun E ce qex u H locs hxp hP hD hS hcell hcv hcl => ?_) (fun r u H locs hp hP hD hS => ?_)
  · obtain ⟨hE9, rfl⟩ := hxp
    have hP : va_P D vwCl (bw (lwB cI cL cZ cJ ad dl sf sg fo t n q vv nx ct uf zz)) H := by
      rw [lwB, bput_c, cw_s1, bput_c, cw_set (j := 16) (by omega), va_id (k := 16) (rfl), bput_n] at hP
      exact hP
    have hD : va_D A (bw (lwB cI cL cZ cJ ad dl sf sg fo t n q vv nx ct uf zz)) := by
      rw [lwB, bput_c, cw_s1, bput_c, cw_set (j := 16) (by omega), va_id (k := 16) (rfl), bput_n] at hD
      exact hD
    obtain ⟨rfl, hR⟩ := hE9
    · skip
      refine vx_catch hown [] ⟨0, 9, 12, 13⟩ [] (hTb.trans rfl) (fun z hz => nomatch hz) rfl (by decide) (hts _ (mlA 0 rfl)) (va_Nw.use rfl hE.2.2.2.1) hcell hcv hcl ?_
      refine lv_astore_n (lv' := [(3, .ref qex), (0, .ref (ad 1)), (1, .int (ya)), (2, .ref (ad 0))]) hx hb dL_lastCut_12 rfl hl (by decide) rfl (fun ls hl => ?_)
      refine lv_iconst (v := 1) hx hb dL_lastCut_13 (by decide) ?_
      exact lh_ret hX hr hlocks hS hP (Or.inr ⟨by rw [hR]; decide, by rw [hR], rfl⟩) (Nat.le_of_ble_eq_true rfl) (Nat.le_of_ble_eq_true rfl) dL_lastCut_14
  · obtain ⟨hR, hr9, rfl⟩ := hp
    have hP : va_P D vwCl (bw (lwB cI cL cZ cJ ad dl sf sg fo t n q vv nx ct uf zz)) H := by
      rw [lwB, bput_c, cw_s1, bput_c, cw_set (j := 16) (by omega), va_id (k := 16) (rfl), bput_n] at hP
      exact hP
    have hD : va_D A (bw (lwB cI cL cZ cJ ad dl sf sg fo t n q vv nx ct uf zz)) := by
      rw [lwB, bput_c, cw_s1, bput_c, cw_set (j := 16) (by omega), va_id (k := 16) (rfl), bput_n] at hD
      exact hD
    refine lv_as hr9 ?_
    refine lv_i2l (v := (tcF ((zz 16).2.1 10) ((zz 16).2.1 11) ((zz 16).2.1 12) ya.toNatClampNeg : Int32).toInt64) hx hb dL_lastCut_7 (rfl) ?_
    refine va_last hx hb hK hP hD hS 0 3 rfl rfl (show ¬ ((0 : Int32) < 0 ∨ 1 ≤ (0 : Int32).toNatClampNeg) by decide) dL_lastCut_8 (fun H locs hP hD hS => ?_)
    have hP : va_P D vwCl (bw (lwB cI cL cZ cJ ad dl sf sg (vp_updL fo 0 (tcF ((zz 16).2.1 10) ((zz 16).2.1 11) ((zz 16).2.1 12) ya.toNatClampNeg : Int32).toInt64) t n q vv nx ct uf zz)) H := hP
    refine lv_goto (tgt := 15) hx hb dL_lastCut_9 (by decide) ?_
    refine lv_iconst (v := 0) hx hb dL_lastCut_15 (by decide) ?_
    exact lh_ret hX hr hlocks hS hP (Or.inl ⟨hR, rfl, rfl⟩) (Nat.le_of_ble_eq_true rfl) (Nat.le_of_ble_eq_true rfl) dL_lastCut_16
theorem dL_put_0 : decode cL_put 0 = .ok (.aload_n 3, 1) := by decide +kernel
theorem dL_put_1 : decode cL_put 1 = .ok (.iconst 0, 1) := by decide +kernel
theorem dL_put_2 : decode cL_put 2 = .ok (.aload_n 0, 1) := by decide +kernel
theorem dL_put_3 : decode cL_put 3 = .ok (.iload_n 1, 1) := by decide +kernel
theorem dL_put_4 : decode cL_put 4 = .ok (.iload_n 2, 1) := by decide +kernel
theorem dL_put_5 : decode cL_put 5 = .ok (.invokevirtual 45, 3) := by decide +kernel
theorem dL_put_8 : decode cL_put 8 = .ok (.i2l, 1) := by decide +kernel
theorem dL_put_9 : decode cL_put 9 = .ok (.lastore, 1) := by decide +kernel
theorem dL_put_10 : decode cL_put 10 = .ok (.goto 11, 3) := by decide +kernel
theorem dL_put_13 : decode cL_put 13 = .ok (.astore 4, 2) := by decide +kernel
theorem dL_put_15 : decode cL_put 15 = .ok (.iconst 1, 1) := by decide +kernel
theorem dL_put_16 : decode cL_put 16 = .ok (.ireturn, 1) := by decide +kernel
theorem dL_put_17 : decode cL_put 17 = .ok (.astore 4, 2) := by decide +kernel
theorem dL_put_19 : decode cL_put 19 = .ok (.iconst 2, 1) := by decide +kernel
theorem dL_put_20 : decode cL_put 20 = .ok (.ireturn, 1) := by decide +kernel
theorem dL_put_21 : decode cL_put 21 = .ok (.iconst 0, 1) := by decide +kernel
theorem dL_put_22 : decode cL_put 22 = .ok (.ireturn, 1) := by decide +kernel
set_option maxHeartbeats 4000000 in
set_option maxRecDepth 100000 in
theorem cL_putH (l : Launch) (hst : l.stackTraces = false) (D : va_G) (cI cL cZ cJ : ClassId) (ad : Nat → Nat) (dl : Nat → Nat → Nat) (sf sg : Nat → Option Nat) (hsf : ∀ j, j < 14 → sf j = some (dl j 0)) (hsg : ∀ j, j < 2 → sg j = some (dl (14 + j) 0)) (fo : Nat → Int64) (t : Nat → Int32) (n q : Nat) (hn : n ≤ 90) (hq : q ≤ 90) (vv : Nat → Int32) (nx ct : Nat) (hnx : nx < 14) (hct : ct ≤ 14) (uf : Nat → Int32) (zz : Nat → LgS) (hz : Inv (zz 16)) (hB : ∀ j, (zz j).1.2 ≤ 8) (ya : Int32) (yb : Int32) : LH l yL_put cL_put 5 [(0, 10, 13, 13), (0, 10, 17, 15)] 7 166 D (lwB cI cL cZ cJ ad dl sf sg fo t n q vv nx ct uf zz) [(cI, .int), (cL, (.object "TornPageLog$Log")), (cZ, .boolean), (cJ, .long)] [.ref (ad 1), .int (ya), .int (yb), .ref (ad 0)] (fun (r9 : Int32) (u9 : List va_W) => ((c6put (zz 16) ya yb) = 0 ∧ r9 = 0 ∧ ∃ zt9 : LgS, (zt9.1.2 ≤ 8) ∧ u9 = lwB cI cL cZ cJ ad dl sf sg (vp_updL fo 0 ((stT ya.toNatClampNeg yb (zz 16)).1 : Int32).toInt64) t n q vv ((nx + 1) % 14) (if 14 < ct + 1 then 14 else ct + 1) uf (va_up (va_up (va_up zz 16 ((stT ya.toNatClampNeg yb (zz 16)).2)) 18 zt9) nx (zz 16))) ∨ (¬ (c6put (zz 16) ya yb) = 0 ∧ r9 = (c6put (zz 16) ya yb) ∧ ∃ zt9 : LgS, (zt9.1.2 ≤ 8) ∧ u9 = lwB cI cL cZ cJ ad dl sf sg fo t n q vv nx ct uf (va_up zz 18 zt9))) := by
  refine lh_of (by decide) rfl (Nat.le_of_ble_eq_true rfl) ?_
  intro p e s m below meth c ls H hX hTb hr hlocks hK hN hE hSW hZ hCN hP hD hS hl
  generalize gp_A (bw (lwB cI cL cZ cJ ad dl sf sg fo t n q vv nx ct uf zz)) = A at hZ hD hS ⊢
  have hx := hX.1
  have hb := hX.2.1
  have hown := hX.2.2.2.1
  have hts := hX.2.2.2.2
  have hl : lv_has ls 5 [(0, .ref (ad 1)), (1, .int (ya)), (2, .int (yb)), (3, .ref (ad 0))] := hl
  refine lv_aload_n hx hb dL_put_0 rfl (lv_at hl 3 rfl) ?_
  refine lv_iconst (v := 0) hx hb dL_put_1 (by decide) ?_
  refine lv_aload_n hx hb dL_put_2 rfl (lv_at hl 0 rfl) ?_
  refine lv_iload_n hx hb dL_put_3 rfl (lv_at hl 1 rfl) ?_
  refine lv_iload_n hx hb dL_put_4 rfl (lv_at hl 2 rfl) ?_
  refine lh_callV (Bs := lwB cI cL cZ cJ ad dl sf sg fo t n q vv nx ct uf zz) hX (c6_put l hst D cI cL (ad 1) (ad 2) (ad 4) (ad 6) (dl 16) (dl 17) (dl 18) (zz 16) hz (zz 18) (hB 18) (ad 5) sf nx ct hnx hct (dl nx) (zz nx) (hB nx) (hsf nx hnx) ya yb) ⟨by decide, by decide, show (parseMethodDescriptor yX6_put.desc).map (fun d => d.parameters.length) = some 2 by decide +kernel⟩ rfl (mlA 55 rfl) (mlA 56 rfl) (mlA 57 rfl) (mlA 58 rfl) ⟨Nat.le_of_ble_eq_true rfl, Nat.le_of_ble_eq_true rfl⟩ hK hN hE hSW hZ [0, 1] rfl hP hD hS [1, 8 + 16, 8 + 18, 3, 4, 8 + nx] (by simp; try omega) (hcc cw_g1 (hcc (cw_get (j := 16) (by omega)) (hcc (cw_get (j := 18) (by omega)) (hcc cw_g3 (hcc cw_g4 (hcc (cw_get (j := nx) (by omega)) (hcn))))))) rfl hl.1 rfl (Nat.le_of_ble_eq_true rfl) dL_put_5 ⟨Nat.le_of_ble_eq_true rfl, Nat.le_of_ble_eq_true rfl⟩ (fun r u h => by obtain ⟨-, -, zt9, hc0, rfl⟩ := h; rfl) (fun E u h => by obtain ⟨-, zt9, hc0, rfl⟩ := h; rfl) (fun E ce qex u H locs hxp hP hD hS hcell hcv hcl => ?_) (fun r u H locs hp hP hD hS => ?_)
  · obtain ⟨hE9, zt9, hc0, rfl⟩ := hxp
    have hP : va_P D vwCl (bw (lwB cI cL cZ cJ ad dl sf sg fo t n q vv nx ct uf (va_up zz 18 zt9))) H := by
      rw [lwB, bput_c, cw_s1, bput_c, cw_set (j := 16) (by omega), va_id (k := 16) (rfl), bput_c, cw_set (j := 18) (by omega), bput_c, cw_s3, bput_c, cw_s4, bput_c, cw_set (j := nx) (by omega), va_id (k := nx) (by simp only [va_up]; rw [if_neg (by omega)]), bput_n] at hP
      exact hP
    have hD : va_D A (bw (lwB cI cL cZ cJ ad dl sf sg fo t n q vv nx ct uf (va_up zz 18 zt9))) := by
      rw [lwB, bput_c, cw_s1, bput_c, cw_set (j := 16) (by omega), va_id (k := 16) (rfl), bput_c, cw_set (j := 18) (by omega), bput_c, cw_s3, bput_c, cw_s4, bput_c, cw_set (j := nx) (by omega), va_id (k := nx) (by simp only [va_up]; rw [if_neg (by omega)]), bput_n] at hD
      exact hD
    rcases hE9 with ⟨rfl, hR⟩ | ⟨rfl, hR⟩
    · skip
      refine vx_catch hown [] ⟨0, 10, 13, 13⟩ [⟨0, 10, 17, 15⟩] (hTb.trans rfl) (fun z hz => nomatch hz) rfl (by decide) (hts _ (mlA 0 rfl)) (va_Nw.use rfl hE.2.2.2.1) hcell hcv hcl ?_
      refine lv_astore (lv' := [(4, .ref qex), (0, .ref (ad 1)), (1, .int (ya)), (2, .int (yb)), (3, .ref (ad 0))]) hx hb dL_put_13 hl (by decide) rfl (fun ls hl => ?_)
      refine lv_iconst (v := 1) hx hb dL_put_15 (by decide) ?_
      exact lh_ret hX hr hlocks hS hP (Or.inr ⟨by rw [hR]; decide, by rw [hR], _, hc0, rfl⟩) (Nat.le_of_ble_eq_true rfl) (Nat.le_of_ble_eq_true rfl) dL_put_16
    · skip
      refine vx_catch hown [⟨0, 10, 13, 13⟩] ⟨0, 10, 17, 15⟩ [] (hTb.trans rfl) (fun z hz => by rw [List.mem_singleton.mp hz]; exact Or.inr ⟨by decide, xIA, hts _ (mlA 0 rfl), hCN.1⟩) rfl (by decide) (hts _ (mlA 1 rfl)) (va_Nw.use rfl hE.2.2.2.2.1) hcell hcv hcl ?_
      refine lv_astore (lv' := [(4, .ref qex), (0, .ref (ad 1)), (1, .int (ya)), (2, .int (yb)), (3, .ref (ad 0))]) hx hb dL_put_17 hl (by decide) rfl (fun ls hl => ?_)
      refine lv_iconst (v := 2) hx hb dL_put_19 (by decide) ?_
      exact lh_ret hX hr hlocks hS hP (Or.inr ⟨by rw [hR]; decide, by rw [hR], _, hc0, rfl⟩) (Nat.le_of_ble_eq_true rfl) (Nat.le_of_ble_eq_true rfl) dL_put_20
  · obtain ⟨hR, hr9, zt9, hc0, rfl⟩ := hp
    have hP : va_P D vwCl (bw (lwB cI cL cZ cJ ad dl sf sg fo t n q vv ((nx + 1) % 14) (if 14 < ct + 1 then 14 else ct + 1) uf (va_up (va_up (va_up zz 16 ((stT ya.toNatClampNeg yb (zz 16)).2)) 18 zt9) nx (zz 16)))) H := by
      rw [lwB, bput_c, cw_s1, bput_c, cw_set (j := 16) (by omega), bput_c, cw_set (j := 18) (by omega), bput_c, cw_s3, bput_c, cw_s4, bput_c, cw_set (j := nx) (by omega), bput_n] at hP
      exact hP
    have hD : va_D A (bw (lwB cI cL cZ cJ ad dl sf sg fo t n q vv ((nx + 1) % 14) (if 14 < ct + 1 then 14 else ct + 1) uf (va_up (va_up (va_up zz 16 ((stT ya.toNatClampNeg yb (zz 16)).2)) 18 zt9) nx (zz 16)))) := by
      rw [lwB, bput_c, cw_s1, bput_c, cw_set (j := 16) (by omega), bput_c, cw_set (j := 18) (by omega), bput_c, cw_s3, bput_c, cw_s4, bput_c, cw_set (j := nx) (by omega), bput_n] at hD
      exact hD
    refine lv_as hr9 ?_
    refine lv_i2l (v := ((stT ya.toNatClampNeg yb (zz 16)).1 : Int32).toInt64) hx hb dL_put_8 (rfl) ?_
    refine va_last hx hb hK hP hD hS 0 3 rfl rfl (show ¬ ((0 : Int32) < 0 ∨ 1 ≤ (0 : Int32).toNatClampNeg) by decide) dL_put_9 (fun H locs hP hD hS => ?_)
    have hP : va_P D vwCl (bw (lwB cI cL cZ cJ ad dl sf sg (vp_updL fo 0 ((stT ya.toNatClampNeg yb (zz 16)).1 : Int32).toInt64) t n q vv ((nx + 1) % 14) (if 14 < ct + 1 then 14 else ct + 1) uf (va_up (va_up (va_up zz 16 ((stT ya.toNatClampNeg yb (zz 16)).2)) 18 zt9) nx (zz 16)))) H := hP
    refine lv_goto (tgt := 21) hx hb dL_put_10 (by decide) ?_
    refine lv_iconst (v := 0) hx hb dL_put_21 (by decide) ?_
    exact lh_ret hX hr hlocks hS hP (Or.inl ⟨hR, rfl, _, hc0, rfl⟩) (Nat.le_of_ble_eq_true rfl) (Nat.le_of_ble_eq_true rfl) dL_put_22
theorem dL_remove_0 : decode cL_remove 0 = .ok (.aload_n 2, 1) := by decide +kernel
theorem dL_remove_1 : decode cL_remove 1 = .ok (.iconst 0, 1) := by decide +kernel
theorem dL_remove_2 : decode cL_remove 2 = .ok (.aload_n 0, 1) := by decide +kernel
theorem dL_remove_3 : decode cL_remove 3 = .ok (.iload_n 1, 1) := by decide +kernel
theorem dL_remove_4 : decode cL_remove 4 = .ok (.invokevirtual 48, 3) := by decide +kernel
theorem dL_remove_7 : decode cL_remove 7 = .ok (.i2l, 1) := by decide +kernel
theorem dL_remove_8 : decode cL_remove 8 = .ok (.lastore, 1) := by decide +kernel
theorem dL_remove_9 : decode cL_remove 9 = .ok (.goto 9, 3) := by decide +kernel
theorem dL_remove_12 : decode cL_remove 12 = .ok (.astore_n 3, 1) := by decide +kernel
theorem dL_remove_13 : decode cL_remove 13 = .ok (.iconst 1, 1) := by decide +kernel
theorem dL_remove_14 : decode cL_remove 14 = .ok (.ireturn, 1) := by decide +kernel
theorem dL_remove_15 : decode cL_remove 15 = .ok (.astore_n 3, 1) := by decide +kernel
theorem dL_remove_16 : decode cL_remove 16 = .ok (.iconst 2, 1) := by decide +kernel
theorem dL_remove_17 : decode cL_remove 17 = .ok (.ireturn, 1) := by decide +kernel
theorem dL_remove_18 : decode cL_remove 18 = .ok (.iconst 0, 1) := by decide +kernel
theorem dL_remove_19 : decode cL_remove 19 = .ok (.ireturn, 1) := by decide +kernel
set_option maxHeartbeats 4000000 in
set_option maxRecDepth 100000 in
theorem cL_removeH (l : Launch) (hst : l.stackTraces = false) (D : va_G) (cI cL cZ cJ : ClassId) (ad : Nat → Nat) (dl : Nat → Nat → Nat) (sf sg : Nat → Option Nat) (hsf : ∀ j, j < 14 → sf j = some (dl j 0)) (hsg : ∀ j, j < 2 → sg j = some (dl (14 + j) 0)) (fo : Nat → Int64) (t : Nat → Int32) (n q : Nat) (hn : n ≤ 90) (hq : q ≤ 90) (vv : Nat → Int32) (nx ct : Nat) (hnx : nx < 14) (hct : ct ≤ 14) (uf : Nat → Int32) (zz : Nat → LgS) (hz : Inv (zz 16)) (hB : ∀ j, (zz j).1.2 ≤ 8) (ya : Int32) : LH l yL_remove cL_remove 4 [(0, 9, 12, 13), (0, 9, 15, 15)] 7 165 D (lwB cI cL cZ cJ ad dl sf sg fo t n q vv nx ct uf zz) [(cI, .int), (cL, (.object "TornPageLog$Log")), (cZ, .boolean), (cJ, .long)] [.ref (ad 1), .int (ya), .ref (ad 0)] (fun (r9 : Int32) (u9 : List va_W) => ((c6rem (zz 16) ya) = 0 ∧ r9 = 0 ∧ ∃ zt9 : LgS, (zt9.1.2 ≤ 8) ∧ u9 = lwB cI cL cZ cJ ad dl sf sg (vp_updL fo 0 ((stT ya.toNatClampNeg (-9) (zz 16)).1 : Int32).toInt64) t n q vv ((nx + 1) % 14) (if 14 < ct + 1 then 14 else ct + 1) uf (va_up (va_up (va_up zz 16 ((stT ya.toNatClampNeg (-9) (zz 16)).2)) 18 zt9) nx (zz 16))) ∨ (¬ (c6rem (zz 16) ya) = 0 ∧ r9 = (c6rem (zz 16) ya) ∧ ∃ zt9 : LgS, (zt9.1.2 ≤ 8) ∧ u9 = lwB cI cL cZ cJ ad dl sf sg fo t n q vv nx ct uf (va_up zz 18 zt9))) := by
  refine lh_of (by decide) rfl (Nat.le_of_ble_eq_true rfl) ?_
  intro p e s m below meth c ls H hX hTb hr hlocks hK hN hE hSW hZ hCN hP hD hS hl
  generalize gp_A (bw (lwB cI cL cZ cJ ad dl sf sg fo t n q vv nx ct uf zz)) = A at hZ hD hS ⊢
  have hx := hX.1
  have hb := hX.2.1
  have hown := hX.2.2.2.1
  have hts := hX.2.2.2.2
  have hl : lv_has ls 4 [(0, .ref (ad 1)), (1, .int (ya)), (2, .ref (ad 0))] := hl
  refine lv_aload_n hx hb dL_remove_0 rfl (lv_at hl 2 rfl) ?_
  refine lv_iconst (v := 0) hx hb dL_remove_1 (by decide) ?_
  refine lv_aload_n hx hb dL_remove_2 rfl (lv_at hl 0 rfl) ?_
  refine lv_iload_n hx hb dL_remove_3 rfl (lv_at hl 1 rfl) ?_
  refine lh_callV (Bs := lwB cI cL cZ cJ ad dl sf sg fo t n q vv nx ct uf zz) hX (c6_remove l hst D cI cL (ad 1) (ad 2) (ad 4) (ad 6) (dl 16) (dl 17) (dl 18) (zz 16) hz (zz 18) (hB 18) (ad 5) sf nx ct hnx hct (dl nx) (zz nx) (hB nx) (hsf nx hnx) ya) ⟨by decide, by decide, show (parseMethodDescriptor yX6_remove.desc).map (fun d => d.parameters.length) = some 1 by decide +kernel⟩ rfl (mlA 59 rfl) (mlA 60 rfl) (mlA 61 rfl) (mlA 62 rfl) ⟨Nat.le_of_ble_eq_true rfl, Nat.le_of_ble_eq_true rfl⟩ hK hN hE hSW hZ [0, 1] rfl hP hD hS [1, 8 + 16, 8 + 18, 3, 4, 8 + nx] (by simp; try omega) (hcc cw_g1 (hcc (cw_get (j := 16) (by omega)) (hcc (cw_get (j := 18) (by omega)) (hcc cw_g3 (hcc cw_g4 (hcc (cw_get (j := nx) (by omega)) (hcn))))))) rfl hl.1 rfl (Nat.le_of_ble_eq_true rfl) dL_remove_4 ⟨Nat.le_of_ble_eq_true rfl, Nat.le_of_ble_eq_true rfl⟩ (fun r u h => by obtain ⟨-, -, zt9, hc0, rfl⟩ := h; rfl) (fun E u h => by obtain ⟨-, zt9, hc0, rfl⟩ := h; rfl) (fun E ce qex u H locs hxp hP hD hS hcell hcv hcl => ?_) (fun r u H locs hp hP hD hS => ?_)
  · obtain ⟨hE9, zt9, hc0, rfl⟩ := hxp
    have hP : va_P D vwCl (bw (lwB cI cL cZ cJ ad dl sf sg fo t n q vv nx ct uf (va_up zz 18 zt9))) H := by
      rw [lwB, bput_c, cw_s1, bput_c, cw_set (j := 16) (by omega), va_id (k := 16) (rfl), bput_c, cw_set (j := 18) (by omega), bput_c, cw_s3, bput_c, cw_s4, bput_c, cw_set (j := nx) (by omega), va_id (k := nx) (by simp only [va_up]; rw [if_neg (by omega)]), bput_n] at hP
      exact hP
    have hD : va_D A (bw (lwB cI cL cZ cJ ad dl sf sg fo t n q vv nx ct uf (va_up zz 18 zt9))) := by
      rw [lwB, bput_c, cw_s1, bput_c, cw_set (j := 16) (by omega), va_id (k := 16) (rfl), bput_c, cw_set (j := 18) (by omega), bput_c, cw_s3, bput_c, cw_s4, bput_c, cw_set (j := nx) (by omega), va_id (k := nx) (by simp only [va_up]; rw [if_neg (by omega)]), bput_n] at hD
      exact hD
    rcases hE9 with ⟨rfl, hR⟩ | ⟨rfl, hR⟩
    · skip
      refine vx_catch hown [] ⟨0, 9, 12, 13⟩ [⟨0, 9, 15, 15⟩] (hTb.trans rfl) (fun z hz => nomatch hz) rfl (by decide) (hts _ (mlA 0 rfl)) (va_Nw.use rfl hE.2.2.2.1) hcell hcv hcl ?_
      refine lv_astore_n (lv' := [(3, .ref qex), (0, .ref (ad 1)), (1, .int (ya)), (2, .ref (ad 0))]) hx hb dL_remove_12 rfl hl (by decide) rfl (fun ls hl => ?_)
      refine lv_iconst (v := 1) hx hb dL_remove_13 (by decide) ?_
      exact lh_ret hX hr hlocks hS hP (Or.inr ⟨by rw [hR]; decide, by rw [hR], _, hc0, rfl⟩) (Nat.le_of_ble_eq_true rfl) (Nat.le_of_ble_eq_true rfl) dL_remove_14
    · skip
      refine vx_catch hown [⟨0, 9, 12, 13⟩] ⟨0, 9, 15, 15⟩ [] (hTb.trans rfl) (fun z hz => by rw [List.mem_singleton.mp hz]; exact Or.inr ⟨by decide, xIA, hts _ (mlA 0 rfl), hCN.1⟩) rfl (by decide) (hts _ (mlA 1 rfl)) (va_Nw.use rfl hE.2.2.2.2.1) hcell hcv hcl ?_
      refine lv_astore_n (lv' := [(3, .ref qex), (0, .ref (ad 1)), (1, .int (ya)), (2, .ref (ad 0))]) hx hb dL_remove_15 rfl hl (by decide) rfl (fun ls hl => ?_)
      refine lv_iconst (v := 2) hx hb dL_remove_16 (by decide) ?_
      exact lh_ret hX hr hlocks hS hP (Or.inr ⟨by rw [hR]; decide, by rw [hR], _, hc0, rfl⟩) (Nat.le_of_ble_eq_true rfl) (Nat.le_of_ble_eq_true rfl) dL_remove_17
  · obtain ⟨hR, hr9, zt9, hc0, rfl⟩ := hp
    have hP : va_P D vwCl (bw (lwB cI cL cZ cJ ad dl sf sg fo t n q vv ((nx + 1) % 14) (if 14 < ct + 1 then 14 else ct + 1) uf (va_up (va_up (va_up zz 16 ((stT ya.toNatClampNeg (-9) (zz 16)).2)) 18 zt9) nx (zz 16)))) H := by
      rw [lwB, bput_c, cw_s1, bput_c, cw_set (j := 16) (by omega), bput_c, cw_set (j := 18) (by omega), bput_c, cw_s3, bput_c, cw_s4, bput_c, cw_set (j := nx) (by omega), bput_n] at hP
      exact hP
    have hD : va_D A (bw (lwB cI cL cZ cJ ad dl sf sg fo t n q vv ((nx + 1) % 14) (if 14 < ct + 1 then 14 else ct + 1) uf (va_up (va_up (va_up zz 16 ((stT ya.toNatClampNeg (-9) (zz 16)).2)) 18 zt9) nx (zz 16)))) := by
      rw [lwB, bput_c, cw_s1, bput_c, cw_set (j := 16) (by omega), bput_c, cw_set (j := 18) (by omega), bput_c, cw_s3, bput_c, cw_s4, bput_c, cw_set (j := nx) (by omega), bput_n] at hD
      exact hD
    refine lv_as hr9 ?_
    refine lv_i2l (v := ((stT ya.toNatClampNeg (-9) (zz 16)).1 : Int32).toInt64) hx hb dL_remove_7 (rfl) ?_
    refine va_last hx hb hK hP hD hS 0 3 rfl rfl (show ¬ ((0 : Int32) < 0 ∨ 1 ≤ (0 : Int32).toNatClampNeg) by decide) dL_remove_8 (fun H locs hP hD hS => ?_)
    have hP : va_P D vwCl (bw (lwB cI cL cZ cJ ad dl sf sg (vp_updL fo 0 ((stT ya.toNatClampNeg (-9) (zz 16)).1 : Int32).toInt64) t n q vv ((nx + 1) % 14) (if 14 < ct + 1 then 14 else ct + 1) uf (va_up (va_up (va_up zz 16 ((stT ya.toNatClampNeg (-9) (zz 16)).2)) 18 zt9) nx (zz 16)))) H := hP
    refine lv_goto (tgt := 18) hx hb dL_remove_9 (by decide) ?_
    refine lv_iconst (v := 0) hx hb dL_remove_18 (by decide) ?_
    exact lh_ret hX hr hlocks hS hP (Or.inl ⟨hR, rfl, _, hc0, rfl⟩) (Nat.le_of_ble_eq_true rfl) (Nat.le_of_ble_eq_true rfl) dL_remove_19
theorem dL_sweep_0 : decode cL_sweep 0 = .ok (.aload_n 1, 1) := by decide +kernel
theorem dL_sweep_1 : decode cL_sweep 1 = .ok (.iconst 0, 1) := by decide +kernel
theorem dL_sweep_2 : decode cL_sweep 2 = .ok (.aload_n 0, 1) := by decide +kernel
theorem dL_sweep_3 : decode cL_sweep 3 = .ok (.invokevirtual 51, 3) := by decide +kernel
theorem dL_sweep_6 : decode cL_sweep 6 = .ok (.i2l, 1) := by decide +kernel
theorem dL_sweep_7 : decode cL_sweep 7 = .ok (.lastore, 1) := by decide +kernel
theorem dL_sweep_8 : decode cL_sweep 8 = .ok (.goto 6, 3) := by decide +kernel
theorem dL_sweep_11 : decode cL_sweep 11 = .ok (.astore_n 2, 1) := by decide +kernel
theorem dL_sweep_12 : decode cL_sweep 12 = .ok (.iconst 1, 1) := by decide +kernel
theorem dL_sweep_13 : decode cL_sweep 13 = .ok (.ireturn, 1) := by decide +kernel
theorem dL_sweep_14 : decode cL_sweep 14 = .ok (.iconst 0, 1) := by decide +kernel
theorem dL_sweep_15 : decode cL_sweep 15 = .ok (.ireturn, 1) := by decide +kernel
set_option maxHeartbeats 4000000 in
set_option maxRecDepth 100000 in
theorem cL_sweepH (l : Launch) (hst : l.stackTraces = false) (D : va_G) (cI cL cZ cJ : ClassId) (ad : Nat → Nat) (dl : Nat → Nat → Nat) (sf sg : Nat → Option Nat) (hsf : ∀ j, j < 14 → sf j = some (dl j 0)) (hsg : ∀ j, j < 2 → sg j = some (dl (14 + j) 0)) (fo : Nat → Int64) (t : Nat → Int32) (n q : Nat) (hn : n ≤ 90) (hq : q ≤ 90) (vv : Nat → Int32) (nx ct : Nat) (hnx : nx < 14) (hct : ct ≤ 14) (uf : Nat → Int32) (zz : Nat → LgS) (hz : Inv (zz 16)) (hB : ∀ j, (zz j).1.2 ≤ 8)  : LH l yL_sweep cL_sweep 3 [(0, 8, 11, 15)] 7 165 D (lwB cI cL cZ cJ ad dl sf sg fo t n q vv nx ct uf zz) [(cI, .int), (cL, (.object "TornPageLog$Log")), (cZ, .boolean), (cJ, .long)] [.ref (ad 1), .ref (ad 0)] (fun (r9 : Int32) (u9 : List va_W) => ((c6swp (zz 16)) = 0 ∧ r9 = 0 ∧ u9 = lwB cI cL cZ cJ ad dl sf sg (vp_updL fo 0 ((sbT (oI (cvZ (zz 16))).toNatClampNeg (zz 16)).1 : Int32).toInt64) t n q vv ((nx + 1) % 14) (if 14 < ct + 1 then 14 else ct + 1) uf (va_up (va_up zz 16 ((sbT (oI (cvZ (zz 16))).toNatClampNeg (zz 16)).2)) nx (zz 16))) ∨ (¬ (c6swp (zz 16)) = 0 ∧ r9 = (c6swp (zz 16)) ∧ u9 = lwB cI cL cZ cJ ad dl sf sg fo t n q vv nx ct uf zz)) := by
  refine lh_of (by decide) rfl (Nat.le_of_ble_eq_true rfl) ?_
  intro p e s m below meth c ls H hX hTb hr hlocks hK hN hE hSW hZ hCN hP hD hS hl
  generalize gp_A (bw (lwB cI cL cZ cJ ad dl sf sg fo t n q vv nx ct uf zz)) = A at hZ hD hS ⊢
  have hx := hX.1
  have hb := hX.2.1
  have hown := hX.2.2.2.1
  have hts := hX.2.2.2.2
  have hl : lv_has ls 3 [(0, .ref (ad 1)), (1, .ref (ad 0))] := hl
  refine lv_aload_n hx hb dL_sweep_0 rfl (lv_at hl 1 rfl) ?_
  refine lv_iconst (v := 0) hx hb dL_sweep_1 (by decide) ?_
  refine lv_aload_n hx hb dL_sweep_2 rfl (lv_at hl 0 rfl) ?_
  refine lh_callV (Bs := lwB cI cL cZ cJ ad dl sf sg fo t n q vv nx ct uf zz) hX (c6_sweep l hst D cI cL (ad 1) (ad 2) (ad 4) (ad 6) (dl 16) (dl 17) (dl 18) (zz 16) hz (ad 5) sf nx ct hnx hct (dl nx) (zz nx) (hB nx) (hsf nx hnx)) ⟨by decide, by decide, show (parseMethodDescriptor yX6_sweep.desc).map (fun d => d.parameters.length) = some 0 by decide +kernel⟩ rfl (mlA 87 rfl) (mlA 88 rfl) (mlA 89 rfl) (mlA 90 rfl) ⟨Nat.le_of_ble_eq_true rfl, Nat.le_of_ble_eq_true rfl⟩ hK hN hE hSW hZ [0, 1] rfl hP hD hS [1, 8 + 16, 3, 4, 8 + nx] (by simp; try omega) (hcc cw_g1 (hcc (cw_get (j := 16) (by omega)) (hcc cw_g3 (hcc cw_g4 (hcc (cw_get (j := nx) (by omega)) (hcn)))))) rfl hl.1 rfl (Nat.le_of_ble_eq_true rfl) dL_sweep_3 ⟨Nat.le_of_ble_eq_true rfl, Nat.le_of_ble_eq_true rfl⟩ (fun r u h => by obtain ⟨-, -, rfl⟩ := h; rfl) (fun E u h => by obtain ⟨-, rfl⟩ := h; rfl) (fun E ce qex u H locs hxp hP hD hS hcell hcv hcl => ?_) (fun r u H locs hp hP hD hS => ?_)
  · obtain ⟨hE9, rfl⟩ := hxp
    have hP : va_P D vwCl (bw (lwB cI cL cZ cJ ad dl sf sg fo t n q vv nx ct uf zz)) H := by
      rw [lwB, bput_c, cw_s1, bput_c, cw_set (j := 16) (by omega), va_id (k := 16) (rfl), bput_c, cw_s3, bput_c, cw_s4, bput_c, cw_set (j := nx) (by omega), va_id (k := nx) (rfl), bput_n] at hP
      exact hP
    have hD : va_D A (bw (lwB cI cL cZ cJ ad dl sf sg fo t n q vv nx ct uf zz)) := by
      rw [lwB, bput_c, cw_s1, bput_c, cw_set (j := 16) (by omega), va_id (k := 16) (rfl), bput_c, cw_s3, bput_c, cw_s4, bput_c, cw_set (j := nx) (by omega), va_id (k := nx) (rfl), bput_n] at hD
      exact hD
    obtain ⟨rfl, hR⟩ := hE9
    · skip
      refine vx_catch hown [] ⟨0, 8, 11, 15⟩ [] (hTb.trans rfl) (fun z hz => nomatch hz) rfl (by decide) (hts _ (mlA 1 rfl)) (va_Nw.use rfl hE.2.2.2.2.1) hcell hcv hcl ?_
      refine lv_astore_n (lv' := [(2, .ref qex), (0, .ref (ad 1)), (1, .ref (ad 0))]) hx hb dL_sweep_11 rfl hl (by decide) rfl (fun ls hl => ?_)
      refine lv_iconst (v := 1) hx hb dL_sweep_12 (by decide) ?_
      exact lh_ret hX hr hlocks hS hP (Or.inr ⟨by rw [hR]; decide, by rw [hR], rfl⟩) (Nat.le_of_ble_eq_true rfl) (Nat.le_of_ble_eq_true rfl) dL_sweep_13
  · obtain ⟨hR, hr9, rfl⟩ := hp
    have hP : va_P D vwCl (bw (lwB cI cL cZ cJ ad dl sf sg fo t n q vv ((nx + 1) % 14) (if 14 < ct + 1 then 14 else ct + 1) uf (va_up (va_up zz 16 ((sbT (oI (cvZ (zz 16))).toNatClampNeg (zz 16)).2)) nx (zz 16)))) H := by
      rw [lwB, bput_c, cw_s1, bput_c, cw_set (j := 16) (by omega), bput_c, cw_s3, bput_c, cw_s4, bput_c, cw_set (j := nx) (by omega), bput_n] at hP
      exact hP
    have hD : va_D A (bw (lwB cI cL cZ cJ ad dl sf sg fo t n q vv ((nx + 1) % 14) (if 14 < ct + 1 then 14 else ct + 1) uf (va_up (va_up zz 16 ((sbT (oI (cvZ (zz 16))).toNatClampNeg (zz 16)).2)) nx (zz 16)))) := by
      rw [lwB, bput_c, cw_s1, bput_c, cw_set (j := 16) (by omega), bput_c, cw_s3, bput_c, cw_s4, bput_c, cw_set (j := nx) (by omega), bput_n] at hD
      exact hD
    refine lv_as hr9 ?_
    refine lv_i2l (v := ((sbT (oI (cvZ (zz 16))).toNatClampNeg (zz 16)).1 : Int32).toInt64) hx hb dL_sweep_6 (rfl) ?_
    refine va_last hx hb hK hP hD hS 0 3 rfl rfl (show ¬ ((0 : Int32) < 0 ∨ 1 ≤ (0 : Int32).toNatClampNeg) by decide) dL_sweep_7 (fun H locs hP hD hS => ?_)
    have hP : va_P D vwCl (bw (lwB cI cL cZ cJ ad dl sf sg (vp_updL fo 0 ((sbT (oI (cvZ (zz 16))).toNatClampNeg (zz 16)).1 : Int32).toInt64) t n q vv ((nx + 1) % 14) (if 14 < ct + 1 then 14 else ct + 1) uf (va_up (va_up zz 16 ((sbT (oI (cvZ (zz 16))).toNatClampNeg (zz 16)).2)) nx (zz 16)))) H := hP
    refine lv_goto (tgt := 14) hx hb dL_sweep_8 (by decide) ?_
    refine lv_iconst (v := 0) hx hb dL_sweep_14 (by decide) ?_
    exact lh_ret hX hr hlocks hS hP (Or.inl ⟨hR, rfl, rfl⟩) (Nat.le_of_ble_eq_true rfl) (Nat.le_of_ble_eq_true rfl) dL_sweep_15
theorem dL_cut_0 : decode cL_cut 0 = .ok (.aload_n 2, 1) := by decide +kernel
theorem dL_cut_1 : decode cL_cut 1 = .ok (.iconst 0, 1) := by decide +kernel
theorem dL_cut_2 : decode cL_cut 2 = .ok (.aload_n 0, 1) := by decide +kernel
theorem dL_cut_3 : decode cL_cut 3 = .ok (.iload_n 1, 1) := by decide +kernel
theorem dL_cut_4 : decode cL_cut 4 = .ok (.invokevirtual 54, 3) := by decide +kernel
theorem dL_cut_7 : decode cL_cut 7 = .ok (.i2l, 1) := by decide +kernel
theorem dL_cut_8 : decode cL_cut 8 = .ok (.lastore, 1) := by decide +kernel
theorem dL_cut_9 : decode cL_cut 9 = .ok (.goto 9, 3) := by decide +kernel
theorem dL_cut_12 : decode cL_cut 12 = .ok (.astore_n 3, 1) := by decide +kernel
theorem dL_cut_13 : decode cL_cut 13 = .ok (.iconst 1, 1) := by decide +kernel
theorem dL_cut_14 : decode cL_cut 14 = .ok (.ireturn, 1) := by decide +kernel
theorem dL_cut_15 : decode cL_cut 15 = .ok (.astore_n 3, 1) := by decide +kernel
theorem dL_cut_16 : decode cL_cut 16 = .ok (.iconst 2, 1) := by decide +kernel
theorem dL_cut_17 : decode cL_cut 17 = .ok (.ireturn, 1) := by decide +kernel
theorem dL_cut_18 : decode cL_cut 18 = .ok (.iconst 0, 1) := by decide +kernel
theorem dL_cut_19 : decode cL_cut 19 = .ok (.ireturn, 1) := by decide +kernel
set_option maxHeartbeats 4000000 in
set_option maxRecDepth 100000 in
theorem cL_cutH (l : Launch) (hst : l.stackTraces = false) (D : va_G) (cI cL cZ cJ : ClassId) (ad : Nat → Nat) (dl : Nat → Nat → Nat) (sf sg : Nat → Option Nat) (hsf : ∀ j, j < 14 → sf j = some (dl j 0)) (hsg : ∀ j, j < 2 → sg j = some (dl (14 + j) 0)) (fo : Nat → Int64) (t : Nat → Int32) (n q : Nat) (hn : n ≤ 90) (hq : q ≤ 90) (vv : Nat → Int32) (nx ct : Nat) (hnx : nx < 14) (hct : ct ≤ 14) (uf : Nat → Int32) (zz : Nat → LgS) (hz : Inv (zz 16)) (hB : ∀ j, (zz j).1.2 ≤ 8) (ya : Int32) : LH l yL_cut cL_cut 4 [(0, 9, 12, 13), (0, 9, 15, 15)] 7 166 D (lwB cI cL cZ cJ ad dl sf sg fo t n q vv nx ct uf zz) [(cI, .int), (cL, (.object "TornPageLog$Log")), (cZ, .boolean), (cJ, .long)] [.ref (ad 1), .int (ya), .ref (ad 0)] (fun (r9 : Int32) (u9 : List va_W) => ((c6cut (zz 16) ya) = 0 ∧ r9 = 0 ∧ u9 = lwB cI cL cZ cJ ad dl sf sg (vp_updL fo 0 ((zz 16).2.1 1 : Int32).toInt64) t n q vv ((nx + 1) % 14) (if 14 < ct + 1 then 14 else ct + 1) uf (va_up (va_up zz 16 (zC (zz 16) ya)) nx (zz 16))) ∨ (¬ (c6cut (zz 16) ya) = 0 ∧ r9 = (c6cut (zz 16) ya) ∧ u9 = lwB cI cL cZ cJ ad dl sf sg fo t n q vv nx ct uf zz)) := by
  refine lh_of (by decide) rfl (Nat.le_of_ble_eq_true rfl) ?_
  intro p e s m below meth c ls H hX hTb hr hlocks hK hN hE hSW hZ hCN hP hD hS hl
  generalize gp_A (bw (lwB cI cL cZ cJ ad dl sf sg fo t n q vv nx ct uf zz)) = A at hZ hD hS ⊢
  have hx := hX.1
  have hb := hX.2.1
  have hown := hX.2.2.2.1
  have hts := hX.2.2.2.2
  have hl : lv_has ls 4 [(0, .ref (ad 1)), (1, .int (ya)), (2, .ref (ad 0))] := hl
  refine lv_aload_n hx hb dL_cut_0 rfl (lv_at hl 2 rfl) ?_
  refine lv_iconst (v := 0) hx hb dL_cut_1 (by decide) ?_
  refine lv_aload_n hx hb dL_cut_2 rfl (lv_at hl 0 rfl) ?_
  refine lv_iload_n hx hb dL_cut_3 rfl (lv_at hl 1 rfl) ?_
  refine lh_callV (Bs := lwB cI cL cZ cJ ad dl sf sg fo t n q vv nx ct uf zz) hX (c6_cut l hst D cI cL (ad 1) (ad 2) (ad 4) (ad 6) (dl 16) (dl 17) (dl 18) (zz 16) hz (ad 5) sf nx ct hnx hct (dl nx) (zz nx) (hB nx) (hsf nx hnx) ya) ⟨by decide, by decide, show (parseMethodDescriptor yX6_cut.desc).map (fun d => d.parameters.length) = some 1 by decide +kernel⟩ rfl (mlA 19 rfl) (mlA 20 rfl) (mlA 21 rfl) (mlA 22 rfl) ⟨Nat.le_of_ble_eq_true rfl, Nat.le_of_ble_eq_true rfl⟩ hK hN hE hSW hZ [0, 1] rfl hP hD hS [1, 8 + 16, 3, 4, 8 + nx] (by simp; try omega) (hcc cw_g1 (hcc (cw_get (j := 16) (by omega)) (hcc cw_g3 (hcc cw_g4 (hcc (cw_get (j := nx) (by omega)) (hcn)))))) rfl hl.1 rfl (Nat.le_of_ble_eq_true rfl) dL_cut_4 ⟨Nat.le_of_ble_eq_true rfl, Nat.le_of_ble_eq_true rfl⟩ (fun r u h => by obtain ⟨-, -, rfl⟩ := h; rfl) (fun E u h => by obtain ⟨-, rfl⟩ := h; rfl) (fun E ce qex u H locs hxp hP hD hS hcell hcv hcl => ?_) (fun r u H locs hp hP hD hS => ?_)
  · obtain ⟨hE9, rfl⟩ := hxp
    have hP : va_P D vwCl (bw (lwB cI cL cZ cJ ad dl sf sg fo t n q vv nx ct uf zz)) H := by
      rw [lwB, bput_c, cw_s1, bput_c, cw_set (j := 16) (by omega), va_id (k := 16) (rfl), bput_c, cw_s3, bput_c, cw_s4, bput_c, cw_set (j := nx) (by omega), va_id (k := nx) (rfl), bput_n] at hP
      exact hP
    have hD : va_D A (bw (lwB cI cL cZ cJ ad dl sf sg fo t n q vv nx ct uf zz)) := by
      rw [lwB, bput_c, cw_s1, bput_c, cw_set (j := 16) (by omega), va_id (k := 16) (rfl), bput_c, cw_s3, bput_c, cw_s4, bput_c, cw_set (j := nx) (by omega), va_id (k := nx) (rfl), bput_n] at hD
      exact hD
    rcases hE9 with ⟨rfl, hR⟩ | ⟨rfl, hR⟩
    · skip
      refine vx_catch hown [] ⟨0, 9, 12, 13⟩ [⟨0, 9, 15, 15⟩] (hTb.trans rfl) (fun z hz => nomatch hz) rfl (by decide) (hts _ (mlA 0 rfl)) (va_Nw.use rfl hE.2.2.2.1) hcell hcv hcl ?_
      refine lv_astore_n (lv' := [(3, .ref qex), (0, .ref (ad 1)), (1, .int (ya)), (2, .ref (ad 0))]) hx hb dL_cut_12 rfl hl (by decide) rfl (fun ls hl => ?_)
      refine lv_iconst (v := 1) hx hb dL_cut_13 (by decide) ?_
      exact lh_ret hX hr hlocks hS hP (Or.inr ⟨by rw [hR]; decide, by rw [hR], rfl⟩) (Nat.le_of_ble_eq_true rfl) (Nat.le_of_ble_eq_true rfl) dL_cut_14
    · skip
      refine vx_catch hown [⟨0, 9, 12, 13⟩] ⟨0, 9, 15, 15⟩ [] (hTb.trans rfl) (fun z hz => by rw [List.mem_singleton.mp hz]; exact Or.inr ⟨by decide, xIA, hts _ (mlA 0 rfl), hCN.1⟩) rfl (by decide) (hts _ (mlA 1 rfl)) (va_Nw.use rfl hE.2.2.2.2.1) hcell hcv hcl ?_
      refine lv_astore_n (lv' := [(3, .ref qex), (0, .ref (ad 1)), (1, .int (ya)), (2, .ref (ad 0))]) hx hb dL_cut_15 rfl hl (by decide) rfl (fun ls hl => ?_)
      refine lv_iconst (v := 2) hx hb dL_cut_16 (by decide) ?_
      exact lh_ret hX hr hlocks hS hP (Or.inr ⟨by rw [hR]; decide, by rw [hR], rfl⟩) (Nat.le_of_ble_eq_true rfl) (Nat.le_of_ble_eq_true rfl) dL_cut_17
  · obtain ⟨hR, hr9, rfl⟩ := hp
    have hP : va_P D vwCl (bw (lwB cI cL cZ cJ ad dl sf sg fo t n q vv ((nx + 1) % 14) (if 14 < ct + 1 then 14 else ct + 1) uf (va_up (va_up zz 16 (zC (zz 16) ya)) nx (zz 16)))) H := by
      rw [lwB, bput_c, cw_s1, bput_c, cw_set (j := 16) (by omega), bput_c, cw_s3, bput_c, cw_s4, bput_c, cw_set (j := nx) (by omega), bput_n] at hP
      exact hP
    have hD : va_D A (bw (lwB cI cL cZ cJ ad dl sf sg fo t n q vv ((nx + 1) % 14) (if 14 < ct + 1 then 14 else ct + 1) uf (va_up (va_up zz 16 (zC (zz 16) ya)) nx (zz 16)))) := by
      rw [lwB, bput_c, cw_s1, bput_c, cw_set (j := 16) (by omega), bput_c, cw_s3, bput_c, cw_s4, bput_c, cw_set (j := nx) (by omega), bput_n] at hD
      exact hD
    refine lv_as hr9 ?_
    refine lv_i2l (v := ((zz 16).2.1 1 : Int32).toInt64) hx hb dL_cut_7 (rfl) ?_
    refine va_last hx hb hK hP hD hS 0 3 rfl rfl (show ¬ ((0 : Int32) < 0 ∨ 1 ≤ (0 : Int32).toNatClampNeg) by decide) dL_cut_8 (fun H locs hP hD hS => ?_)
    have hP : va_P D vwCl (bw (lwB cI cL cZ cJ ad dl sf sg (vp_updL fo 0 ((zz 16).2.1 1 : Int32).toInt64) t n q vv ((nx + 1) % 14) (if 14 < ct + 1 then 14 else ct + 1) uf (va_up (va_up zz 16 (zC (zz 16) ya)) nx (zz 16)))) H := hP
    refine lv_goto (tgt := 18) hx hb dL_cut_9 (by decide) ?_
    refine lv_iconst (v := 0) hx hb dL_cut_18 (by decide) ?_
    exact lh_ret hX hr hlocks hS hP (Or.inl ⟨hR, rfl, rfl⟩) (Nat.le_of_ble_eq_true rfl) (Nat.le_of_ble_eq_true rfl) dL_cut_19
theorem dL_start_0 : decode cL_start 0 = .ok (.aload_n 1, 1) := by decide +kernel
theorem dL_start_1 : decode cL_start 1 = .ok (.iconst 0, 1) := by decide +kernel
theorem dL_start_2 : decode cL_start 2 = .ok (.aload_n 0, 1) := by decide +kernel
theorem dL_start_3 : decode cL_start 3 = .ok (.invokevirtual 57, 3) := by decide +kernel
theorem dL_start_6 : decode cL_start 6 = .ok (.i2l, 1) := by decide +kernel
theorem dL_start_7 : decode cL_start 7 = .ok (.lastore, 1) := by decide +kernel
theorem dL_start_8 : decode cL_start 8 = .ok (.goto 6, 3) := by decide +kernel
theorem dL_start_11 : decode cL_start 11 = .ok (.astore_n 2, 1) := by decide +kernel
theorem dL_start_12 : decode cL_start 12 = .ok (.iconst 1, 1) := by decide +kernel
theorem dL_start_13 : decode cL_start 13 = .ok (.ireturn, 1) := by decide +kernel
theorem dL_start_14 : decode cL_start 14 = .ok (.iconst 0, 1) := by decide +kernel
theorem dL_start_15 : decode cL_start 15 = .ok (.ireturn, 1) := by decide +kernel
set_option maxHeartbeats 4000000 in
set_option maxRecDepth 100000 in
theorem cL_startH (l : Launch) (hst : l.stackTraces = false) (D : va_G) (cI cL cZ cJ : ClassId) (ad : Nat → Nat) (dl : Nat → Nat → Nat) (sf sg : Nat → Option Nat) (hsf : ∀ j, j < 14 → sf j = some (dl j 0)) (hsg : ∀ j, j < 2 → sg j = some (dl (14 + j) 0)) (fo : Nat → Int64) (t : Nat → Int32) (n q : Nat) (hn : n ≤ 90) (hq : q ≤ 90) (vv : Nat → Int32) (nx ct : Nat) (hnx : nx < 14) (hct : ct ≤ 14) (uf : Nat → Int32) (zz : Nat → LgS) (hz : Inv (zz 16)) (hB : ∀ j, (zz j).1.2 ≤ 8)  : LH l yL_start cL_start 3 [(0, 8, 11, 15)] 7 164 D (lwB cI cL cZ cJ ad dl sf sg fo t n q vv nx ct uf zz) [(cI, .int), (cL, (.object "TornPageLog$Log")), (cZ, .boolean), (cJ, .long)] [.ref (ad 1), .ref (ad 0)] (fun (r9 : Int32) (u9 : List va_W) => ((c6sta (zz 16)) = 0 ∧ r9 = 0 ∧ u9 = lwB cI cL cZ cJ ad dl sf sg (vp_updL fo 0 (nI (ckZ (zSw (zz 16)) 16) : Int32).toInt64) t n q vv ((nx + 1) % 14) (if 14 < ct + 1 then 14 else ct + 1) uf (va_up (va_up zz 16 (zSw (zz 16))) nx (zz 16))) ∨ (¬ (c6sta (zz 16)) = 0 ∧ r9 = (c6sta (zz 16)) ∧ u9 = lwB cI cL cZ cJ ad dl sf sg fo t n q vv nx ct uf zz)) := by
  refine lh_of (by decide) rfl (Nat.le_of_ble_eq_true rfl) ?_
  intro p e s m below meth c ls H hX hTb hr hlocks hK hN hE hSW hZ hCN hP hD hS hl
  generalize gp_A (bw (lwB cI cL cZ cJ ad dl sf sg fo t n q vv nx ct uf zz)) = A at hZ hD hS ⊢
  have hx := hX.1
  have hb := hX.2.1
  have hown := hX.2.2.2.1
  have hts := hX.2.2.2.2
  have hl : lv_has ls 3 [(0, .ref (ad 1)), (1, .ref (ad 0))] := hl
  refine lv_aload_n hx hb dL_start_0 rfl (lv_at hl 1 rfl) ?_
  refine lv_iconst (v := 0) hx hb dL_start_1 (by decide) ?_
  refine lv_aload_n hx hb dL_start_2 rfl (lv_at hl 0 rfl) ?_
  refine lh_callV (Bs := lwB cI cL cZ cJ ad dl sf sg fo t n q vv nx ct uf zz) hX (c6_start l hst D cI cL (ad 1) (ad 2) (ad 4) (ad 6) (dl 16) (dl 17) (dl 18) (zz 16) hz (ad 5) sf nx ct hnx hct (dl nx) (zz nx) (hB nx) (hsf nx hnx)) ⟨by decide, by decide, show (parseMethodDescriptor yX6_start.desc).map (fun d => d.parameters.length) = some 0 by decide +kernel⟩ rfl (mlA 83 rfl) (mlA 84 rfl) (mlA 85 rfl) (mlA 86 rfl) ⟨Nat.le_of_ble_eq_true rfl, Nat.le_of_ble_eq_true rfl⟩ hK hN hE hSW hZ [0, 1] rfl hP hD hS [1, 8 + 16, 3, 4, 8 + nx] (by simp; try omega) (hcc cw_g1 (hcc (cw_get (j := 16) (by omega)) (hcc cw_g3 (hcc cw_g4 (hcc (cw_get (j := nx) (by omega)) (hcn)))))) rfl hl.1 rfl (Nat.le_of_ble_eq_true rfl) dL_start_3 ⟨Nat.le_of_ble_eq_true rfl, Nat.le_of_ble_eq_true rfl⟩ (fun r u h => by obtain ⟨-, -, rfl⟩ := h; rfl) (fun E u h => by obtain ⟨-, rfl⟩ := h; rfl) (fun E ce qex u H locs hxp hP hD hS hcell hcv hcl => ?_) (fun r u H locs hp hP hD hS => ?_)
  · obtain ⟨hE9, rfl⟩ := hxp
    have hP : va_P D vwCl (bw (lwB cI cL cZ cJ ad dl sf sg fo t n q vv nx ct uf zz)) H := by
      rw [lwB, bput_c, cw_s1, bput_c, cw_set (j := 16) (by omega), va_id (k := 16) (rfl), bput_c, cw_s3, bput_c, cw_s4, bput_c, cw_set (j := nx) (by omega), va_id (k := nx) (rfl), bput_n] at hP
      exact hP
    have hD : va_D A (bw (lwB cI cL cZ cJ ad dl sf sg fo t n q vv nx ct uf zz)) := by
      rw [lwB, bput_c, cw_s1, bput_c, cw_set (j := 16) (by omega), va_id (k := 16) (rfl), bput_c, cw_s3, bput_c, cw_s4, bput_c, cw_set (j := nx) (by omega), va_id (k := nx) (rfl), bput_n] at hD
      exact hD
    obtain ⟨rfl, hR⟩ := hE9
    · skip
      refine vx_catch hown [] ⟨0, 8, 11, 15⟩ [] (hTb.trans rfl) (fun z hz => nomatch hz) rfl (by decide) (hts _ (mlA 1 rfl)) (va_Nw.use rfl hE.2.2.2.2.1) hcell hcv hcl ?_
      refine lv_astore_n (lv' := [(2, .ref qex), (0, .ref (ad 1)), (1, .ref (ad 0))]) hx hb dL_start_11 rfl hl (by decide) rfl (fun ls hl => ?_)
      refine lv_iconst (v := 1) hx hb dL_start_12 (by decide) ?_
      exact lh_ret hX hr hlocks hS hP (Or.inr ⟨by rw [hR]; decide, by rw [hR], rfl⟩) (Nat.le_of_ble_eq_true rfl) (Nat.le_of_ble_eq_true rfl) dL_start_13
  · obtain ⟨hR, hr9, rfl⟩ := hp
    have hP : va_P D vwCl (bw (lwB cI cL cZ cJ ad dl sf sg fo t n q vv ((nx + 1) % 14) (if 14 < ct + 1 then 14 else ct + 1) uf (va_up (va_up zz 16 (zSw (zz 16))) nx (zz 16)))) H := by
      rw [lwB, bput_c, cw_s1, bput_c, cw_set (j := 16) (by omega), bput_c, cw_s3, bput_c, cw_s4, bput_c, cw_set (j := nx) (by omega), bput_n] at hP
      exact hP
    have hD : va_D A (bw (lwB cI cL cZ cJ ad dl sf sg fo t n q vv ((nx + 1) % 14) (if 14 < ct + 1 then 14 else ct + 1) uf (va_up (va_up zz 16 (zSw (zz 16))) nx (zz 16)))) := by
      rw [lwB, bput_c, cw_s1, bput_c, cw_set (j := 16) (by omega), bput_c, cw_s3, bput_c, cw_s4, bput_c, cw_set (j := nx) (by omega), bput_n] at hD
      exact hD
    refine lv_as hr9 ?_
    refine lv_i2l (v := (nI (ckZ (zSw (zz 16)) 16) : Int32).toInt64) hx hb dL_start_6 (rfl) ?_
    refine va_last hx hb hK hP hD hS 0 3 rfl rfl (show ¬ ((0 : Int32) < 0 ∨ 1 ≤ (0 : Int32).toNatClampNeg) by decide) dL_start_7 (fun H locs hP hD hS => ?_)
    have hP : va_P D vwCl (bw (lwB cI cL cZ cJ ad dl sf sg (vp_updL fo 0 (nI (ckZ (zSw (zz 16)) 16) : Int32).toInt64) t n q vv ((nx + 1) % 14) (if 14 < ct + 1 then 14 else ct + 1) uf (va_up (va_up zz 16 (zSw (zz 16))) nx (zz 16)))) H := hP
    refine lv_goto (tgt := 14) hx hb dL_start_8 (by decide) ?_
    refine lv_iconst (v := 0) hx hb dL_start_14 (by decide) ?_
    exact lh_ret hX hr hlocks hS hP (Or.inl ⟨hR, rfl, rfl⟩) (Nat.le_of_ble_eq_true rfl) (Nat.le_of_ble_eq_true rfl) dL_start_15
theorem dL_setPolicy_0 : decode cL_setPolicy 0 = .ok (.aload_n 2, 1) := by decide +kernel
theorem dL_setPolicy_1 : decode cL_setPolicy 1 = .ok (.iconst 0, 1) := by decide +kernel
theorem dL_setPolicy_2 : decode cL_setPolicy 2 = .ok (.aload_n 0, 1) := by decide +kernel
theorem dL_setPolicy_3 : decode cL_setPolicy 3 = .ok (.iload_n 1, 1) := by decide +kernel
theorem dL_setPolicy_4 : decode cL_setPolicy 4 = .ok (.invokevirtual 60, 3) := by decide +kernel
theorem dL_setPolicy_7 : decode cL_setPolicy 7 = .ok (.i2l, 1) := by decide +kernel
theorem dL_setPolicy_8 : decode cL_setPolicy 8 = .ok (.lastore, 1) := by decide +kernel
theorem dL_setPolicy_9 : decode cL_setPolicy 9 = .ok (.goto 6, 3) := by decide +kernel
theorem dL_setPolicy_12 : decode cL_setPolicy 12 = .ok (.astore_n 3, 1) := by decide +kernel
theorem dL_setPolicy_13 : decode cL_setPolicy 13 = .ok (.iconst 1, 1) := by decide +kernel
theorem dL_setPolicy_14 : decode cL_setPolicy 14 = .ok (.ireturn, 1) := by decide +kernel
theorem dL_setPolicy_15 : decode cL_setPolicy 15 = .ok (.iconst 0, 1) := by decide +kernel
theorem dL_setPolicy_16 : decode cL_setPolicy 16 = .ok (.ireturn, 1) := by decide +kernel
set_option maxHeartbeats 4000000 in
set_option maxRecDepth 100000 in
theorem cL_setPolicyH (l : Launch) (hst : l.stackTraces = false) (D : va_G) (cI cL cZ cJ : ClassId) (ad : Nat → Nat) (dl : Nat → Nat → Nat) (sf sg : Nat → Option Nat) (hsf : ∀ j, j < 14 → sf j = some (dl j 0)) (hsg : ∀ j, j < 2 → sg j = some (dl (14 + j) 0)) (fo : Nat → Int64) (t : Nat → Int32) (n q : Nat) (hn : n ≤ 90) (hq : q ≤ 90) (vv : Nat → Int32) (nx ct : Nat) (hnx : nx < 14) (hct : ct ≤ 14) (uf : Nat → Int32) (zz : Nat → LgS) (hz : Inv (zz 16)) (hB : ∀ j, (zz j).1.2 ≤ 8) (ya : Int32) : LH l yL_setPolicy cL_setPolicy 4 [(0, 9, 12, 13)] 7 166 D (lwB cI cL cZ cJ ad dl sf sg fo t n q vv nx ct uf zz) [(cI, .int), (cL, (.object "TornPageLog$Log")), (cZ, .boolean), (cJ, .long)] [.ref (ad 1), .int (ya), .ref (ad 0)] (fun (r9 : Int32) (u9 : List va_W) => ((c6r ya 2) = 0 ∧ r9 = 0 ∧ u9 = lwB cI cL cZ cJ ad dl sf sg (vp_updL fo 0 ((zz 16).2.1 0 : Int32).toInt64) t n q vv ((nx + 1) % 14) (if 14 < ct + 1 then 14 else ct + 1) uf (va_up (va_up zz 16 (zPo (zz 16) ya)) nx (zz 16))) ∨ (¬ (c6r ya 2) = 0 ∧ r9 = (c6r ya 2) ∧ u9 = lwB cI cL cZ cJ ad dl sf sg fo t n q vv nx ct uf zz)) := by
  refine lh_of (by decide) rfl (Nat.le_of_ble_eq_true rfl) ?_
  intro p e s m below meth c ls H hX hTb hr hlocks hK hN hE hSW hZ hCN hP hD hS hl
  generalize gp_A (bw (lwB cI cL cZ cJ ad dl sf sg fo t n q vv nx ct uf zz)) = A at hZ hD hS ⊢
  have hx := hX.1
  have hb := hX.2.1
  have hown := hX.2.2.2.1
  have hts := hX.2.2.2.2
  have hl : lv_has ls 4 [(0, .ref (ad 1)), (1, .int (ya)), (2, .ref (ad 0))] := hl
  refine lv_aload_n hx hb dL_setPolicy_0 rfl (lv_at hl 2 rfl) ?_
  refine lv_iconst (v := 0) hx hb dL_setPolicy_1 (by decide) ?_
  refine lv_aload_n hx hb dL_setPolicy_2 rfl (lv_at hl 0 rfl) ?_
  refine lv_iload_n hx hb dL_setPolicy_3 rfl (lv_at hl 1 rfl) ?_
  refine lh_callV (Bs := lwB cI cL cZ cJ ad dl sf sg fo t n q vv nx ct uf zz) hX (c6_setPolicy l hst D cI cL (ad 1) (ad 2) (ad 4) (ad 6) (dl 16) (dl 17) (dl 18) (zz 16) hz (ad 5) sf nx ct hnx hct (dl nx) (zz nx) (hB nx) (hsf nx hnx) ya) ⟨by decide, by decide, show (parseMethodDescriptor yX6_setPolicy.desc).map (fun d => d.parameters.length) = some 1 by decide +kernel⟩ rfl (mlA 75 rfl) (mlA 76 rfl) (mlA 77 rfl) (mlA 78 rfl) ⟨Nat.le_of_ble_eq_true rfl, Nat.le_of_ble_eq_true rfl⟩ hK hN hE hSW hZ [0, 1] rfl hP hD hS [1, 8 + 16, 3, 4, 8 + nx] (by simp; try omega) (hcc cw_g1 (hcc (cw_get (j := 16) (by omega)) (hcc cw_g3 (hcc cw_g4 (hcc (cw_get (j := nx) (by omega)) (hcn)))))) rfl hl.1 rfl (Nat.le_of_ble_eq_true rfl) dL_setPolicy_4 ⟨Nat.le_of_ble_eq_true rfl, Nat.le_of_ble_eq_true rfl⟩ (fun r u h => by obtain ⟨-, -, rfl⟩ := h; rfl) (fun E u h => by obtain ⟨-, rfl⟩ := h; rfl) (fun E ce qex u H locs hxp hP hD hS hcell hcv hcl => ?_) (fun r u H locs hp hP hD hS => ?_)
  · obtain ⟨hE9, rfl⟩ := hxp
    have hP : va_P D vwCl (bw (lwB cI cL cZ cJ ad dl sf sg fo t n q vv nx ct uf zz)) H := by
      rw [lwB, bput_c, cw_s1, bput_c, cw_set (j := 16) (by omega), va_id (k := 16) (rfl), bput_c, cw_s3, bput_c, cw_s4, bput_c, cw_set (j := nx) (by omega), va_id (k := nx) (rfl), bput_n] at hP
      exact hP
    have hD : va_D A (bw (lwB cI cL cZ cJ ad dl sf sg fo t n q vv nx ct uf zz)) := by
      rw [lwB, bput_c, cw_s1, bput_c, cw_set (j := 16) (by omega), va_id (k := 16) (rfl), bput_c, cw_s3, bput_c, cw_s4, bput_c, cw_set (j := nx) (by omega), va_id (k := nx) (rfl), bput_n] at hD
      exact hD
    obtain ⟨rfl, hR⟩ := hE9
    · skip
      refine vx_catch hown [] ⟨0, 9, 12, 13⟩ [] (hTb.trans rfl) (fun z hz => nomatch hz) rfl (by decide) (hts _ (mlA 0 rfl)) (va_Nw.use rfl hE.2.2.2.1) hcell hcv hcl ?_
      refine lv_astore_n (lv' := [(3, .ref qex), (0, .ref (ad 1)), (1, .int (ya)), (2, .ref (ad 0))]) hx hb dL_setPolicy_12 rfl hl (by decide) rfl (fun ls hl => ?_)
      refine lv_iconst (v := 1) hx hb dL_setPolicy_13 (by decide) ?_
      exact lh_ret hX hr hlocks hS hP (Or.inr ⟨by rw [hR]; decide, by rw [hR], rfl⟩) (Nat.le_of_ble_eq_true rfl) (Nat.le_of_ble_eq_true rfl) dL_setPolicy_14
  · obtain ⟨hR, hr9, rfl⟩ := hp
    have hP : va_P D vwCl (bw (lwB cI cL cZ cJ ad dl sf sg fo t n q vv ((nx + 1) % 14) (if 14 < ct + 1 then 14 else ct + 1) uf (va_up (va_up zz 16 (zPo (zz 16) ya)) nx (zz 16)))) H := by
      rw [lwB, bput_c, cw_s1, bput_c, cw_set (j := 16) (by omega), bput_c, cw_s3, bput_c, cw_s4, bput_c, cw_set (j := nx) (by omega), bput_n] at hP
      exact hP
    have hD : va_D A (bw (lwB cI cL cZ cJ ad dl sf sg fo t n q vv ((nx + 1) % 14) (if 14 < ct + 1 then 14 else ct + 1) uf (va_up (va_up zz 16 (zPo (zz 16) ya)) nx (zz 16)))) := by
      rw [lwB, bput_c, cw_s1, bput_c, cw_set (j := 16) (by omega), bput_c, cw_s3, bput_c, cw_s4, bput_c, cw_set (j := nx) (by omega), bput_n] at hD
      exact hD
    refine lv_as hr9 ?_
    refine lv_i2l (v := ((zz 16).2.1 0 : Int32).toInt64) hx hb dL_setPolicy_7 (rfl) ?_
    refine va_last hx hb hK hP hD hS 0 3 rfl rfl (show ¬ ((0 : Int32) < 0 ∨ 1 ≤ (0 : Int32).toNatClampNeg) by decide) dL_setPolicy_8 (fun H locs hP hD hS => ?_)
    have hP : va_P D vwCl (bw (lwB cI cL cZ cJ ad dl sf sg (vp_updL fo 0 ((zz 16).2.1 0 : Int32).toInt64) t n q vv ((nx + 1) % 14) (if 14 < ct + 1 then 14 else ct + 1) uf (va_up (va_up zz 16 (zPo (zz 16) ya)) nx (zz 16)))) H := hP
    refine lv_goto (tgt := 15) hx hb dL_setPolicy_9 (by decide) ?_
    refine lv_iconst (v := 0) hx hb dL_setPolicy_15 (by decide) ?_
    exact lh_ret hX hr hlocks hS hP (Or.inl ⟨hR, rfl, rfl⟩) (Nat.le_of_ble_eq_true rfl) (Nat.le_of_ble_eq_true rfl) dL_setPolicy_16
theorem dL_undo_0 : decode cL_undo 0 = .ok (.aload_n 1, 1) := by decide +kernel
theorem dL_undo_1 : decode cL_undo 1 = .ok (.iconst 0, 1) := by decide +kernel
theorem dL_undo_2 : decode cL_undo 2 = .ok (.aload_n 0, 1) := by decide +kernel
theorem dL_undo_3 : decode cL_undo 3 = .ok (.invokevirtual 63, 3) := by decide +kernel
theorem dL_undo_6 : decode cL_undo 6 = .ok (.i2l, 1) := by decide +kernel
theorem dL_undo_7 : decode cL_undo 7 = .ok (.lastore, 1) := by decide +kernel
theorem dL_undo_8 : decode cL_undo 8 = .ok (.goto 6, 3) := by decide +kernel
theorem dL_undo_11 : decode cL_undo 11 = .ok (.astore_n 2, 1) := by decide +kernel
theorem dL_undo_12 : decode cL_undo 12 = .ok (.iconst 1, 1) := by decide +kernel
theorem dL_undo_13 : decode cL_undo 13 = .ok (.ireturn, 1) := by decide +kernel
theorem dL_undo_14 : decode cL_undo 14 = .ok (.iconst 0, 1) := by decide +kernel
theorem dL_undo_15 : decode cL_undo 15 = .ok (.ireturn, 1) := by decide +kernel
set_option maxHeartbeats 4000000 in
set_option maxRecDepth 100000 in
theorem cL_undoH (l : Launch) (hst : l.stackTraces = false) (D : va_G) (cI cL cZ cJ : ClassId) (ad : Nat → Nat) (dl : Nat → Nat → Nat) (sf sg : Nat → Option Nat) (hsf : ∀ j, j < 14 → sf j = some (dl j 0)) (hsg : ∀ j, j < 2 → sg j = some (dl (14 + j) 0)) (fo : Nat → Int64) (t : Nat → Int32) (n q : Nat) (hn : n ≤ 90) (hq : q ≤ 90) (vv : Nat → Int32) (nx ct : Nat) (hnx : nx < 14) (hct : ct ≤ 14) (uf : Nat → Int32) (zz : Nat → LgS) (hz : Inv (zz 16)) (hB : ∀ j, (zz j).1.2 ≤ 8)  : LH l yL_undo cL_undo 3 [(0, 8, 11, 15)] 7 164 D (lwB cI cL cZ cJ ad dl sf sg fo t n q vv nx ct uf zz) [(cI, .int), (cL, (.object "TornPageLog$Log")), (cZ, .boolean), (cJ, .long)] [.ref (ad 1), .ref (ad 0)] (fun (r9 : Int32) (u9 : List va_W) => ((c6und ct) = 0 ∧ r9 = 0 ∧ u9 = lwB cI cL cZ cJ ad dl sf sg (vp_updL fo 0 (nI (ct - 1) : Int32).toInt64) t n q vv ((nx + 14 - 1) % 14) (ct - 1) uf (va_up zz 16 (zz ((nx + 14 - 1) % 14)))) ∨ (¬ (c6und ct) = 0 ∧ r9 = (c6und ct) ∧ u9 = lwB cI cL cZ cJ ad dl sf sg fo t n q vv nx ct uf zz)) := by
  refine lh_of (by decide) rfl (Nat.le_of_ble_eq_true rfl) ?_
  intro p e s m below meth c ls H hX hTb hr hlocks hK hN hE hSW hZ hCN hP hD hS hl
  generalize gp_A (bw (lwB cI cL cZ cJ ad dl sf sg fo t n q vv nx ct uf zz)) = A at hZ hD hS ⊢
  have hx := hX.1
  have hb := hX.2.1
  have hown := hX.2.2.2.1
  have hts := hX.2.2.2.2
  have hl : lv_has ls 3 [(0, .ref (ad 1)), (1, .ref (ad 0))] := hl
  refine lv_aload_n hx hb dL_undo_0 rfl (lv_at hl 1 rfl) ?_
  refine lv_iconst (v := 0) hx hb dL_undo_1 (by decide) ?_
  refine lv_aload_n hx hb dL_undo_2 rfl (lv_at hl 0 rfl) ?_
  refine lh_callV (Bs := lwB cI cL cZ cJ ad dl sf sg fo t n q vv nx ct uf zz) hX (c6_undo l hst D cI cL (ad 1) (ad 2) (ad 4) (ad 6) (dl 16) (dl 17) (dl 18) (zz 16) hz (ad 5) sf nx ct hnx hct (dl ((nx + 14 - 1) % 14)) (zz ((nx + 14 - 1) % 14)) (hB ((nx + 14 - 1) % 14)) (hsf ((nx + 14 - 1) % 14) (Nat.mod_lt _ (by decide)))) ⟨by decide, by decide, show (parseMethodDescriptor yX6_undo.desc).map (fun d => d.parameters.length) = some 0 by decide +kernel⟩ rfl (mlA 91 rfl) (mlA 92 rfl) (mlA 93 rfl) (mlA 94 rfl) ⟨Nat.le_of_ble_eq_true rfl, Nat.le_of_ble_eq_true rfl⟩ hK hN hE hSW hZ [0, 1] rfl hP hD hS [1, 8 + 16, 3, 4, 8 + ((nx + 14 - 1) % 14)] (by simp; try omega) (hcc cw_g1 (hcc (cw_get (j := 16) (by omega)) (hcc cw_g3 (hcc cw_g4 (hcc (cw_get (j := ((nx + 14 - 1) % 14)) (by omega)) (hcn)))))) rfl hl.1 rfl (Nat.le_of_ble_eq_true rfl) dL_undo_3 ⟨Nat.le_of_ble_eq_true rfl, Nat.le_of_ble_eq_true rfl⟩ (fun r u h => by obtain ⟨-, -, rfl⟩ := h; rfl) (fun E u h => by obtain ⟨-, rfl⟩ := h; rfl) (fun E ce qex u H locs hxp hP hD hS hcell hcv hcl => ?_) (fun r u H locs hp hP hD hS => ?_)
  · obtain ⟨hE9, rfl⟩ := hxp
    have hP : va_P D vwCl (bw (lwB cI cL cZ cJ ad dl sf sg fo t n q vv nx ct uf zz)) H := by
      rw [lwB, bput_c, cw_s1, bput_c, cw_set (j := 16) (by omega), va_id (k := 16) (rfl), bput_c, cw_s3, bput_c, cw_s4, bput_c, cw_set (j := ((nx + 14 - 1) % 14)) (by omega), va_id (k := ((nx + 14 - 1) % 14)) (rfl), bput_n] at hP
      exact hP
    have hD : va_D A (bw (lwB cI cL cZ cJ ad dl sf sg fo t n q vv nx ct uf zz)) := by
      rw [lwB, bput_c, cw_s1, bput_c, cw_set (j := 16) (by omega), va_id (k := 16) (rfl), bput_c, cw_s3, bput_c, cw_s4, bput_c, cw_set (j := ((nx + 14 - 1) % 14)) (by omega), va_id (k := ((nx + 14 - 1) % 14)) (rfl), bput_n] at hD
      exact hD
    obtain ⟨rfl, hR⟩ := hE9
    · skip
      refine vx_catch hown [] ⟨0, 8, 11, 15⟩ [] (hTb.trans rfl) (fun z hz => nomatch hz) rfl (by decide) (hts _ (mlA 1 rfl)) (va_Nw.use rfl hE.2.2.2.2.1) hcell hcv hcl ?_
      refine lv_astore_n (lv' := [(2, .ref qex), (0, .ref (ad 1)), (1, .ref (ad 0))]) hx hb dL_undo_11 rfl hl (by decide) rfl (fun ls hl => ?_)
      refine lv_iconst (v := 1) hx hb dL_undo_12 (by decide) ?_
      exact lh_ret hX hr hlocks hS hP (Or.inr ⟨by rw [hR]; decide, by rw [hR], rfl⟩) (Nat.le_of_ble_eq_true rfl) (Nat.le_of_ble_eq_true rfl) dL_undo_13
  · obtain ⟨hR, hr9, rfl⟩ := hp
    have hP : va_P D vwCl (bw (lwB cI cL cZ cJ ad dl sf sg fo t n q vv ((nx + 14 - 1) % 14) (ct - 1) uf (va_up zz 16 (zz ((nx + 14 - 1) % 14))))) H := by
      rw [lwB, bput_c, cw_s1, bput_c, cw_set (j := 16) (by omega), bput_c, cw_s3, bput_c, cw_s4, bput_c, cw_set (j := ((nx + 14 - 1) % 14)) (by omega), va_id (k := ((nx + 14 - 1) % 14)) (by simp only [va_up]; rw [if_neg (by omega)]), bput_n] at hP
      exact hP
    have hD : va_D A (bw (lwB cI cL cZ cJ ad dl sf sg fo t n q vv ((nx + 14 - 1) % 14) (ct - 1) uf (va_up zz 16 (zz ((nx + 14 - 1) % 14))))) := by
      rw [lwB, bput_c, cw_s1, bput_c, cw_set (j := 16) (by omega), bput_c, cw_s3, bput_c, cw_s4, bput_c, cw_set (j := ((nx + 14 - 1) % 14)) (by omega), va_id (k := ((nx + 14 - 1) % 14)) (by simp only [va_up]; rw [if_neg (by omega)]), bput_n] at hD
      exact hD
    refine lv_as hr9 ?_
    refine lv_i2l (v := (nI (ct - 1) : Int32).toInt64) hx hb dL_undo_6 (rfl) ?_
    refine va_last hx hb hK hP hD hS 0 3 rfl rfl (show ¬ ((0 : Int32) < 0 ∨ 1 ≤ (0 : Int32).toNatClampNeg) by decide) dL_undo_7 (fun H locs hP hD hS => ?_)
    have hP : va_P D vwCl (bw (lwB cI cL cZ cJ ad dl sf sg (vp_updL fo 0 (nI (ct - 1) : Int32).toInt64) t n q vv ((nx + 14 - 1) % 14) (ct - 1) uf (va_up zz 16 (zz ((nx + 14 - 1) % 14))))) H := hP
    refine lv_goto (tgt := 14) hx hb dL_undo_8 (by decide) ?_
    refine lv_iconst (v := 0) hx hb dL_undo_14 (by decide) ?_
    exact lh_ret hX hr hlocks hS hP (Or.inl ⟨hR, rfl, rfl⟩) (Nat.le_of_ble_eq_true rfl) (Nat.le_of_ble_eq_true rfl) dL_undo_15
theorem dL_operations_0 : decode cL_operations 0 = .ok (.aload_n 1, 1) := by decide +kernel
theorem dL_operations_1 : decode cL_operations 1 = .ok (.iconst 0, 1) := by decide +kernel
theorem dL_operations_2 : decode cL_operations 2 = .ok (.aload_n 0, 1) := by decide +kernel
theorem dL_operations_3 : decode cL_operations 3 = .ok (.invokevirtual 66, 3) := by decide +kernel
theorem dL_operations_6 : decode cL_operations 6 = .ok (.i2l, 1) := by decide +kernel
theorem dL_operations_7 : decode cL_operations 7 = .ok (.lastore, 1) := by decide +kernel
theorem dL_operations_8 : decode cL_operations 8 = .ok (.goto 6, 3) := by decide +kernel
theorem dL_operations_11 : decode cL_operations 11 = .ok (.astore_n 2, 1) := by decide +kernel
theorem dL_operations_12 : decode cL_operations 12 = .ok (.iconst 1, 1) := by decide +kernel
theorem dL_operations_13 : decode cL_operations 13 = .ok (.ireturn, 1) := by decide +kernel
theorem dL_operations_14 : decode cL_operations 14 = .ok (.iconst 0, 1) := by decide +kernel
theorem dL_operations_15 : decode cL_operations 15 = .ok (.ireturn, 1) := by decide +kernel
set_option maxHeartbeats 4000000 in
set_option maxRecDepth 100000 in
theorem cL_operationsH (l : Launch) (hst : l.stackTraces = false) (D : va_G) (cI cL cZ cJ : ClassId) (ad : Nat → Nat) (dl : Nat → Nat → Nat) (sf sg : Nat → Option Nat) (hsf : ∀ j, j < 14 → sf j = some (dl j 0)) (hsg : ∀ j, j < 2 → sg j = some (dl (14 + j) 0)) (fo : Nat → Int64) (t : Nat → Int32) (n q : Nat) (hn : n ≤ 90) (hq : q ≤ 90) (vv : Nat → Int32) (nx ct : Nat) (hnx : nx < 14) (hct : ct ≤ 14) (uf : Nat → Int32) (zz : Nat → LgS) (hz : Inv (zz 16)) (hB : ∀ j, (zz j).1.2 ≤ 8)  : LH l yL_operations cL_operations 3 [(0, 8, 11, 15)] 7 165 D (lwB cI cL cZ cJ ad dl sf sg fo t n q vv nx ct uf zz) [(cI, .int), (cL, (.object "TornPageLog$Log")), (cZ, .boolean), (cJ, .long)] [.ref (ad 1), .ref (ad 0)] (fun (r9 : Int32) (u9 : List va_W) => ((c6ops (zz 16)) = 0 ∧ r9 = 0 ∧ ∃ zt9 : LgS, (zt9.1.2 ≤ 8) ∧ u9 = lwB cI cL cZ cJ ad dl sf sg (vp_updL fo 0 (csV (zz 16) : Int32).toInt64) t n q vv nx ct uf (va_up zz 18 zt9)) ∨ (¬ (c6ops (zz 16)) = 0 ∧ r9 = (c6ops (zz 16)) ∧ ∃ zt9 : LgS, (zt9.1.2 ≤ 8) ∧ u9 = lwB cI cL cZ cJ ad dl sf sg fo t n q vv nx ct uf (va_up zz 18 zt9))) := by
  refine lh_of (by decide) rfl (Nat.le_of_ble_eq_true rfl) ?_
  intro p e s m below meth c ls H hX hTb hr hlocks hK hN hE hSW hZ hCN hP hD hS hl
  generalize gp_A (bw (lwB cI cL cZ cJ ad dl sf sg fo t n q vv nx ct uf zz)) = A at hZ hD hS ⊢
  have hx := hX.1
  have hb := hX.2.1
  have hown := hX.2.2.2.1
  have hts := hX.2.2.2.2
  have hl : lv_has ls 3 [(0, .ref (ad 1)), (1, .ref (ad 0))] := hl
  refine lv_aload_n hx hb dL_operations_0 rfl (lv_at hl 1 rfl) ?_
  refine lv_iconst (v := 0) hx hb dL_operations_1 (by decide) ?_
  refine lv_aload_n hx hb dL_operations_2 rfl (lv_at hl 0 rfl) ?_
  refine lh_callV (Bs := lwB cI cL cZ cJ ad dl sf sg fo t n q vv nx ct uf zz) hX (c6_operations l hst D cI (ad 1) (ad 2) (ad 4) (ad 6) (dl 16) (dl 17) (dl 18) (zz 16) hz (zz 18) (hB 18)) ⟨by decide, by decide, show (parseMethodDescriptor yX6_operations.desc).map (fun d => d.parameters.length) = some 0 by decide +kernel⟩ rfl (mlA 47 rfl) (mlA 48 rfl) (mlA 49 rfl) (mlA 50 rfl) ⟨Nat.le_of_ble_eq_true rfl, Nat.le_of_ble_eq_true rfl⟩ hK hN hE hSW hZ [0] rfl hP hD hS [1, 8 + 16, 8 + 18] (by simp; try omega) (hcc cw_g1 (hcc (cw_get (j := 16) (by omega)) (hcc (cw_get (j := 18) (by omega)) (hcn)))) rfl hl.1 rfl (Nat.le_of_ble_eq_true rfl) dL_operations_3 ⟨Nat.le_of_ble_eq_true rfl, Nat.le_of_ble_eq_true rfl⟩ (fun r u h => by obtain ⟨-, -, zt9, hc0, rfl⟩ := h; rfl) (fun E u h => by obtain ⟨-, zt9, hc0, rfl⟩ := h; rfl) (fun E ce qex u H locs hxp hP hD hS hcell hcv hcl => ?_) (fun r u H locs hp hP hD hS => ?_)
  · obtain ⟨hE9, zt9, hc0, rfl⟩ := hxp
    have hP : va_P D vwCl (bw (lwB cI cL cZ cJ ad dl sf sg fo t n q vv nx ct uf (va_up zz 18 zt9))) H := by
      rw [lwB, bput_c, cw_s1, bput_c, cw_set (j := 16) (by omega), va_id (k := 16) (rfl), bput_c, cw_set (j := 18) (by omega), bput_n] at hP
      exact hP
    have hD : va_D A (bw (lwB cI cL cZ cJ ad dl sf sg fo t n q vv nx ct uf (va_up zz 18 zt9))) := by
      rw [lwB, bput_c, cw_s1, bput_c, cw_set (j := 16) (by omega), va_id (k := 16) (rfl), bput_c, cw_set (j := 18) (by omega), bput_n] at hD
      exact hD
    obtain ⟨rfl, hR⟩ := hE9
    · skip
      refine vx_catch hown [] ⟨0, 8, 11, 15⟩ [] (hTb.trans rfl) (fun z hz => nomatch hz) rfl (by decide) (hts _ (mlA 1 rfl)) (va_Nw.use rfl hE.2.2.2.2.1) hcell hcv hcl ?_
      refine lv_astore_n (lv' := [(2, .ref qex), (0, .ref (ad 1)), (1, .ref (ad 0))]) hx hb dL_operations_11 rfl hl (by decide) rfl (fun ls hl => ?_)
      refine lv_iconst (v := 1) hx hb dL_operations_12 (by decide) ?_
      exact lh_ret hX hr hlocks hS hP (Or.inr ⟨by rw [hR]; decide, by rw [hR], _, hc0, rfl⟩) (Nat.le_of_ble_eq_true rfl) (Nat.le_of_ble_eq_true rfl) dL_operations_13
  · obtain ⟨hR, hr9, zt9, hc0, rfl⟩ := hp
    have hP : va_P D vwCl (bw (lwB cI cL cZ cJ ad dl sf sg fo t n q vv nx ct uf (va_up zz 18 zt9))) H := by
      rw [lwB, bput_c, cw_s1, bput_c, cw_set (j := 16) (by omega), va_id (k := 16) (rfl), bput_c, cw_set (j := 18) (by omega), bput_n] at hP
      exact hP
    have hD : va_D A (bw (lwB cI cL cZ cJ ad dl sf sg fo t n q vv nx ct uf (va_up zz 18 zt9))) := by
      rw [lwB, bput_c, cw_s1, bput_c, cw_set (j := 16) (by omega), va_id (k := 16) (rfl), bput_c, cw_set (j := 18) (by omega), bput_n] at hD
      exact hD
    refine lv_as hr9 ?_
    refine lv_i2l (v := (csV (zz 16) : Int32).toInt64) hx hb dL_operations_6 (rfl) ?_
    refine va_last hx hb hK hP hD hS 0 3 rfl rfl (show ¬ ((0 : Int32) < 0 ∨ 1 ≤ (0 : Int32).toNatClampNeg) by decide) dL_operations_7 (fun H locs hP hD hS => ?_)
    have hP : va_P D vwCl (bw (lwB cI cL cZ cJ ad dl sf sg (vp_updL fo 0 (csV (zz 16) : Int32).toInt64) t n q vv nx ct uf (va_up zz 18 zt9))) H := hP
    refine lv_goto (tgt := 14) hx hb dL_operations_8 (by decide) ?_
    refine lv_iconst (v := 0) hx hb dL_operations_14 (by decide) ?_
    exact lh_ret hX hr hlocks hS hP (Or.inl ⟨hR, rfl, _, hc0, rfl⟩) (Nat.le_of_ble_eq_true rfl) (Nat.le_of_ble_eq_true rfl) dL_operations_15
theorem dL_afterCut_0 : decode cL_afterCut 0 = .ok (.aload 4, 2) := by decide +kernel
theorem dL_afterCut_2 : decode cL_afterCut 2 = .ok (.iconst 0, 1) := by decide +kernel
theorem dL_afterCut_3 : decode cL_afterCut 3 = .ok (.aload_n 0, 1) := by decide +kernel
theorem dL_afterCut_4 : decode cL_afterCut 4 = .ok (.iload_n 1, 1) := by decide +kernel
theorem dL_afterCut_5 : decode cL_afterCut 5 = .ok (.iload_n 2, 1) := by decide +kernel
theorem dL_afterCut_6 : decode cL_afterCut 6 = .ok (.iload_n 3, 1) := by decide +kernel
theorem dL_afterCut_7 : decode cL_afterCut 7 = .ok (.invokevirtual 69, 3) := by decide +kernel
theorem dL_afterCut_10 : decode cL_afterCut 10 = .ok (.i2l, 1) := by decide +kernel
theorem dL_afterCut_11 : decode cL_afterCut 11 = .ok (.lastore, 1) := by decide +kernel
theorem dL_afterCut_12 : decode cL_afterCut 12 = .ok (.goto 11, 3) := by decide +kernel
theorem dL_afterCut_15 : decode cL_afterCut 15 = .ok (.astore 5, 2) := by decide +kernel
theorem dL_afterCut_17 : decode cL_afterCut 17 = .ok (.iconst 1, 1) := by decide +kernel
theorem dL_afterCut_18 : decode cL_afterCut 18 = .ok (.ireturn, 1) := by decide +kernel
theorem dL_afterCut_19 : decode cL_afterCut 19 = .ok (.astore 5, 2) := by decide +kernel
theorem dL_afterCut_21 : decode cL_afterCut 21 = .ok (.iconst 2, 1) := by decide +kernel
theorem dL_afterCut_22 : decode cL_afterCut 22 = .ok (.ireturn, 1) := by decide +kernel
theorem dL_afterCut_23 : decode cL_afterCut 23 = .ok (.iconst 0, 1) := by decide +kernel
theorem dL_afterCut_24 : decode cL_afterCut 24 = .ok (.ireturn, 1) := by decide +kernel
set_option maxHeartbeats 4000000 in
set_option maxRecDepth 100000 in
theorem cL_afterCutH (l : Launch) (hst : l.stackTraces = false) (D : va_G) (cI cL cZ cJ : ClassId) (ad : Nat → Nat) (dl : Nat → Nat → Nat) (sf sg : Nat → Option Nat) (hsf : ∀ j, j < 14 → sf j = some (dl j 0)) (hsg : ∀ j, j < 2 → sg j = some (dl (14 + j) 0)) (fo : Nat → Int64) (t : Nat → Int32) (n q : Nat) (hn : n ≤ 90) (hq : q ≤ 90) (vv : Nat → Int32) (nx ct : Nat) (hnx : nx < 14) (hct : ct ≤ 14) (uf : Nat → Int32) (zz : Nat → LgS) (hz : Inv (zz 16)) (hB : ∀ j, (zz j).1.2 ≤ 8) (ya : Int32) (yb : Int32) (yc : Int32) : LH l yL_afterCut cL_afterCut 6 [(0, 12, 15, 13), (0, 12, 19, 15)] 7 167 D (lwB cI cL cZ cJ ad dl sf sg fo t n q vv nx ct uf zz) [(cI, .int), (cL, (.object "TornPageLog$Log")), (cZ, .boolean), (cJ, .long)] [.ref (ad 1), .int (ya), .int (yb), .int (yc), .ref (ad 0)] (fun (r9 : Int32) (u9 : List va_W) => ((c6afc (zz 16) ya yb yc) = 0 ∧ r9 = 0 ∧ ∃ zc9 : LgS, ∃ zt9 : LgS, (zc9.1.2 ≤ 8) ∧ (zt9.1.2 ≤ 8) ∧ u9 = lwB cI cL cZ cJ ad dl sf sg (vp_updL fo 0 (vaZ (afZ (zz 16) ya.toNatClampNeg yb yc.toNatClampNeg) ya : Int32).toInt64) t n q vv nx ct uf (va_up (va_up zz 17 zc9) 18 zt9)) ∨ (¬ (c6afc (zz 16) ya yb yc) = 0 ∧ r9 = (c6afc (zz 16) ya yb yc) ∧ ∃ zc9 : LgS, ∃ zt9 : LgS, (zc9.1.2 ≤ 8) ∧ (zt9.1.2 ≤ 8) ∧ u9 = lwB cI cL cZ cJ ad dl sf sg fo t n q vv nx ct uf (va_up (va_up zz 17 zc9) 18 zt9))) := by
  refine lh_of (by decide) rfl (Nat.le_of_ble_eq_true rfl) ?_
  intro p e s m below meth c ls H hX hTb hr hlocks hK hN hE hSW hZ hCN hP hD hS hl
  generalize gp_A (bw (lwB cI cL cZ cJ ad dl sf sg fo t n q vv nx ct uf zz)) = A at hZ hD hS ⊢
  have hx := hX.1
  have hb := hX.2.1
  have hown := hX.2.2.2.1
  have hts := hX.2.2.2.2
  have hl : lv_has ls 6 [(0, .ref (ad 1)), (1, .int (ya)), (2, .int (yb)), (3, .int (yc)), (4, .ref (ad 0))] := hl
  refine lv_aload hx hb dL_afterCut_0 (lv_at hl 4 rfl) ?_
  refine lv_iconst (v := 0) hx hb dL_afterCut_2 (by decide) ?_
  refine lv_aload_n hx hb dL_afterCut_3 rfl (lv_at hl 0 rfl) ?_
  refine lv_iload_n hx hb dL_afterCut_4 rfl (lv_at hl 1 rfl) ?_
  refine lv_iload_n hx hb dL_afterCut_5 rfl (lv_at hl 2 rfl) ?_
  refine lv_iload_n hx hb dL_afterCut_6 rfl (lv_at hl 3 rfl) ?_
  refine lh_callV (Bs := lwB cI cL cZ cJ ad dl sf sg fo t n q vv nx ct uf zz) hX (c6_afterCut l hst D cI (ad 1) (ad 2) (ad 4) (ad 6) (dl 16) (dl 17) (dl 18) (zz 16) hz (zz 17) (hB 17) (zz 18) (hB 18) ya yb yc) ⟨by decide, by decide, show (parseMethodDescriptor yX6_afterCut.desc).map (fun d => d.parameters.length) = some 3 by decide +kernel⟩ rfl (mlA 7 rfl) (mlA 8 rfl) (mlA 9 rfl) (mlA 10 rfl) ⟨Nat.le_of_ble_eq_true rfl, Nat.le_of_ble_eq_true rfl⟩ hK hN hE hSW hZ [0] rfl hP hD hS [1, 8 + 16, 8 + 17, 8 + 18] (by simp; try omega) (hcc cw_g1 (hcc (cw_get (j := 16) (by omega)) (hcc (cw_get (j := 17) (by omega)) (hcc (cw_get (j := 18) (by omega)) (hcn))))) rfl hl.1 rfl (Nat.le_of_ble_eq_true rfl) dL_afterCut_7 ⟨Nat.le_of_ble_eq_true rfl, Nat.le_of_ble_eq_true rfl⟩ (fun r u h => by obtain ⟨-, -, zc9, zt9, hc0, hc1, rfl⟩ := h; rfl) (fun E u h => by obtain ⟨-, zc9, zt9, hc0, hc1, rfl⟩ := h; rfl) (fun E ce qex u H locs hxp hP hD hS hcell hcv hcl => ?_) (fun r u H locs hp hP hD hS => ?_)
  · obtain ⟨hE9, zc9, zt9, hc0, hc1, rfl⟩ := hxp
    have hP : va_P D vwCl (bw (lwB cI cL cZ cJ ad dl sf sg fo t n q vv nx ct uf (va_up (va_up zz 17 zc9) 18 zt9))) H := by
      rw [lwB, bput_c, cw_s1, bput_c, cw_set (j := 16) (by omega), va_id (k := 16) (rfl), bput_c, cw_set (j := 17) (by omega), bput_c, cw_set (j := 18) (by omega), bput_n] at hP
      exact hP
    have hD : va_D A (bw (lwB cI cL cZ cJ ad dl sf sg fo t n q vv nx ct uf (va_up (va_up zz 17 zc9) 18 zt9))) := by
      rw [lwB, bput_c, cw_s1, bput_c, cw_set (j := 16) (by omega), va_id (k := 16) (rfl), bput_c, cw_set (j := 17) (by omega), bput_c, cw_set (j := 18) (by omega), bput_n] at hD
      exact hD
    rcases hE9 with ⟨rfl, hR⟩ | ⟨rfl, hR⟩
    · skip
      refine vx_catch hown [] ⟨0, 12, 15, 13⟩ [⟨0, 12, 19, 15⟩] (hTb.trans rfl) (fun z hz => nomatch hz) rfl (by decide) (hts _ (mlA 0 rfl)) (va_Nw.use rfl hE.2.2.2.1) hcell hcv hcl ?_
      refine lv_astore (lv' := [(5, .ref qex), (0, .ref (ad 1)), (1, .int (ya)), (2, .int (yb)), (3, .int (yc)), (4, .ref (ad 0))]) hx hb dL_afterCut_15 hl (by decide) rfl (fun ls hl => ?_)
      refine lv_iconst (v := 1) hx hb dL_afterCut_17 (by decide) ?_
      exact lh_ret hX hr hlocks hS hP (Or.inr ⟨by rw [hR]; decide, by rw [hR], _, _, hc0, hc1, rfl⟩) (Nat.le_of_ble_eq_true rfl) (Nat.le_of_ble_eq_true rfl) dL_afterCut_18
    · skip
      refine vx_catch hown [⟨0, 12, 15, 13⟩] ⟨0, 12, 19, 15⟩ [] (hTb.trans rfl) (fun z hz => by rw [List.mem_singleton.mp hz]; exact Or.inr ⟨by decide, xIA, hts _ (mlA 0 rfl), hCN.1⟩) rfl (by decide) (hts _ (mlA 1 rfl)) (va_Nw.use rfl hE.2.2.2.2.1) hcell hcv hcl ?_
      refine lv_astore (lv' := [(5, .ref qex), (0, .ref (ad 1)), (1, .int (ya)), (2, .int (yb)), (3, .int (yc)), (4, .ref (ad 0))]) hx hb dL_afterCut_19 hl (by decide) rfl (fun ls hl => ?_)
      refine lv_iconst (v := 2) hx hb dL_afterCut_21 (by decide) ?_
      exact lh_ret hX hr hlocks hS hP (Or.inr ⟨by rw [hR]; decide, by rw [hR], _, _, hc0, hc1, rfl⟩) (Nat.le_of_ble_eq_true rfl) (Nat.le_of_ble_eq_true rfl) dL_afterCut_22
  · obtain ⟨hR, hr9, zc9, zt9, hc0, hc1, rfl⟩ := hp
    have hP : va_P D vwCl (bw (lwB cI cL cZ cJ ad dl sf sg fo t n q vv nx ct uf (va_up (va_up zz 17 zc9) 18 zt9))) H := by
      rw [lwB, bput_c, cw_s1, bput_c, cw_set (j := 16) (by omega), va_id (k := 16) (rfl), bput_c, cw_set (j := 17) (by omega), bput_c, cw_set (j := 18) (by omega), bput_n] at hP
      exact hP
    have hD : va_D A (bw (lwB cI cL cZ cJ ad dl sf sg fo t n q vv nx ct uf (va_up (va_up zz 17 zc9) 18 zt9))) := by
      rw [lwB, bput_c, cw_s1, bput_c, cw_set (j := 16) (by omega), va_id (k := 16) (rfl), bput_c, cw_set (j := 17) (by omega), bput_c, cw_set (j := 18) (by omega), bput_n] at hD
      exact hD
    refine lv_as hr9 ?_
    refine lv_i2l (v := (vaZ (afZ (zz 16) ya.toNatClampNeg yb yc.toNatClampNeg) ya : Int32).toInt64) hx hb dL_afterCut_10 (rfl) ?_
    refine va_last hx hb hK hP hD hS 0 3 rfl rfl (show ¬ ((0 : Int32) < 0 ∨ 1 ≤ (0 : Int32).toNatClampNeg) by decide) dL_afterCut_11 (fun H locs hP hD hS => ?_)
    have hP : va_P D vwCl (bw (lwB cI cL cZ cJ ad dl sf sg (vp_updL fo 0 (vaZ (afZ (zz 16) ya.toNatClampNeg yb yc.toNatClampNeg) ya : Int32).toInt64) t n q vv nx ct uf (va_up (va_up zz 17 zc9) 18 zt9))) H := hP
    refine lv_goto (tgt := 23) hx hb dL_afterCut_12 (by decide) ?_
    refine lv_iconst (v := 0) hx hb dL_afterCut_23 (by decide) ?_
    exact lh_ret hX hr hlocks hS hP (Or.inl ⟨hR, rfl, _, _, hc0, hc1, rfl⟩) (Nat.le_of_ble_eq_true rfl) (Nat.le_of_ble_eq_true rfl) dL_afterCut_24
theorem dL_lasts_0 : decode cL_lasts 0 = .ok (.aload_n 2, 1) := by decide +kernel
theorem dL_lasts_1 : decode cL_lasts 1 = .ok (.iconst 0, 1) := by decide +kernel
theorem dL_lasts_2 : decode cL_lasts 2 = .ok (.aload_n 0, 1) := by decide +kernel
theorem dL_lasts_3 : decode cL_lasts 3 = .ok (.iload_n 1, 1) := by decide +kernel
theorem dL_lasts_4 : decode cL_lasts 4 = .ok (.invokevirtual 73, 3) := by decide +kernel
theorem dL_lasts_7 : decode cL_lasts 7 = .ok (.i2l, 1) := by decide +kernel
theorem dL_lasts_8 : decode cL_lasts 8 = .ok (.lastore, 1) := by decide +kernel
theorem dL_lasts_9 : decode cL_lasts 9 = .ok (.goto 6, 3) := by decide +kernel
theorem dL_lasts_12 : decode cL_lasts 12 = .ok (.astore_n 3, 1) := by decide +kernel
theorem dL_lasts_13 : decode cL_lasts 13 = .ok (.iconst 1, 1) := by decide +kernel
theorem dL_lasts_14 : decode cL_lasts 14 = .ok (.ireturn, 1) := by decide +kernel
theorem dL_lasts_15 : decode cL_lasts 15 = .ok (.iconst 0, 1) := by decide +kernel
theorem dL_lasts_16 : decode cL_lasts 16 = .ok (.ireturn, 1) := by decide +kernel
set_option maxHeartbeats 4000000 in
set_option maxRecDepth 100000 in
theorem cL_lastsH (l : Launch) (hst : l.stackTraces = false) (D : va_G) (cI cL cZ cJ : ClassId) (ad : Nat → Nat) (dl : Nat → Nat → Nat) (sf sg : Nat → Option Nat) (hsf : ∀ j, j < 14 → sf j = some (dl j 0)) (hsg : ∀ j, j < 2 → sg j = some (dl (14 + j) 0)) (fo : Nat → Int64) (t : Nat → Int32) (n q : Nat) (hn : n ≤ 90) (hq : q ≤ 90) (vv : Nat → Int32) (nx ct : Nat) (hnx : nx < 14) (hct : ct ≤ 14) (uf : Nat → Int32) (zz : Nat → LgS) (hz : Inv (zz 16)) (hB : ∀ j, (zz j).1.2 ≤ 8) (ya : Int32) : LH l yL_lasts cL_lasts 4 [(0, 9, 12, 13)] 7 145 D (lwB cI cL cZ cJ ad dl sf sg fo t n q vv nx ct uf zz) [(cI, .int), (cL, (.object "TornPageLog$Log")), (cZ, .boolean), (cJ, .long)] [.ref (ad 1), .int (ya), .ref (ad 0)] (fun (r9 : Int32) (u9 : List va_W) => ((c6key ya) = 0 ∧ r9 = 0 ∧ ∃ zc9 : LgS, (zc9.1.2 ≤ 8) ∧ u9 = lwB cI cL cZ cJ ad dl sf sg (vp_updL fo 0 (laV (zz 16) ya.toNatClampNeg : Int32).toInt64) t n q vv nx ct uf (va_up zz 17 zc9)) ∨ (¬ (c6key ya) = 0 ∧ r9 = (c6key ya) ∧ ∃ zc9 : LgS, (zc9.1.2 ≤ 8) ∧ u9 = lwB cI cL cZ cJ ad dl sf sg fo t n q vv nx ct uf (va_up zz 17 zc9))) := by
  refine lh_of (by decide) rfl (Nat.le_of_ble_eq_true rfl) ?_
  intro p e s m below meth c ls H hX hTb hr hlocks hK hN hE hSW hZ hCN hP hD hS hl
  generalize gp_A (bw (lwB cI cL cZ cJ ad dl sf sg fo t n q vv nx ct uf zz)) = A at hZ hD hS ⊢
  have hx := hX.1
  have hb := hX.2.1
  have hown := hX.2.2.2.1
  have hts := hX.2.2.2.2
  have hl : lv_has ls 4 [(0, .ref (ad 1)), (1, .int (ya)), (2, .ref (ad 0))] := hl
  refine lv_aload_n hx hb dL_lasts_0 rfl (lv_at hl 2 rfl) ?_
  refine lv_iconst (v := 0) hx hb dL_lasts_1 (by decide) ?_
  refine lv_aload_n hx hb dL_lasts_2 rfl (lv_at hl 0 rfl) ?_
  refine lv_iload_n hx hb dL_lasts_3 rfl (lv_at hl 1 rfl) ?_
  refine lh_callV (Bs := lwB cI cL cZ cJ ad dl sf sg fo t n q vv nx ct uf zz) hX (c6_lasts l hst D cI (ad 1) (ad 2) (ad 4) (ad 6) (dl 16) (dl 17) (dl 18) (zz 16) hz (zz 17) (hB 17) ya) ⟨by decide, by decide, show (parseMethodDescriptor yX6_lasts.desc).map (fun d => d.parameters.length) = some 1 by decide +kernel⟩ rfl (mlA 35 rfl) (mlA 36 rfl) (mlA 37 rfl) (mlA 38 rfl) ⟨Nat.le_of_ble_eq_true rfl, Nat.le_of_ble_eq_true rfl⟩ hK hN hE hSW hZ [0] rfl hP hD hS [1, 8 + 16, 8 + 17] (by simp; try omega) (hcc cw_g1 (hcc (cw_get (j := 16) (by omega)) (hcc (cw_get (j := 17) (by omega)) (hcn)))) rfl hl.1 rfl (Nat.le_of_ble_eq_true rfl) dL_lasts_4 ⟨Nat.le_of_ble_eq_true rfl, Nat.le_of_ble_eq_true rfl⟩ (fun r u h => by obtain ⟨-, -, zc9, hc0, rfl⟩ := h; rfl) (fun E u h => by obtain ⟨-, zc9, hc0, rfl⟩ := h; rfl) (fun E ce qex u H locs hxp hP hD hS hcell hcv hcl => ?_) (fun r u H locs hp hP hD hS => ?_)
  · obtain ⟨hE9, zc9, hc0, rfl⟩ := hxp
    have hP : va_P D vwCl (bw (lwB cI cL cZ cJ ad dl sf sg fo t n q vv nx ct uf (va_up zz 17 zc9))) H := by
      rw [lwB, bput_c, cw_s1, bput_c, cw_set (j := 16) (by omega), va_id (k := 16) (rfl), bput_c, cw_set (j := 17) (by omega), bput_n] at hP
      exact hP
    have hD : va_D A (bw (lwB cI cL cZ cJ ad dl sf sg fo t n q vv nx ct uf (va_up zz 17 zc9))) := by
      rw [lwB, bput_c, cw_s1, bput_c, cw_set (j := 16) (by omega), va_id (k := 16) (rfl), bput_c, cw_set (j := 17) (by omega), bput_n] at hD
      exact hD
    obtain ⟨rfl, hR⟩ := hE9
    · skip
      refine vx_catch hown [] ⟨0, 9, 12, 13⟩ [] (hTb.trans rfl) (fun z hz => nomatch hz) rfl (by decide) (hts _ (mlA 0 rfl)) (va_Nw.use rfl hE.2.2.2.1) hcell hcv hcl ?_
      refine lv_astore_n (lv' := [(3, .ref qex), (0, .ref (ad 1)), (1, .int (ya)), (2, .ref (ad 0))]) hx hb dL_lasts_12 rfl hl (by decide) rfl (fun ls hl => ?_)
      refine lv_iconst (v := 1) hx hb dL_lasts_13 (by decide) ?_
      exact lh_ret hX hr hlocks hS hP (Or.inr ⟨by rw [hR]; decide, by rw [hR], _, hc0, rfl⟩) (Nat.le_of_ble_eq_true rfl) (Nat.le_of_ble_eq_true rfl) dL_lasts_14
  · obtain ⟨hR, hr9, zc9, hc0, rfl⟩ := hp
    have hP : va_P D vwCl (bw (lwB cI cL cZ cJ ad dl sf sg fo t n q vv nx ct uf (va_up zz 17 zc9))) H := by
      rw [lwB, bput_c, cw_s1, bput_c, cw_set (j := 16) (by omega), va_id (k := 16) (rfl), bput_c, cw_set (j := 17) (by omega), bput_n] at hP
      exact hP
    have hD : va_D A (bw (lwB cI cL cZ cJ ad dl sf sg fo t n q vv nx ct uf (va_up zz 17 zc9))) := by
      rw [lwB, bput_c, cw_s1, bput_c, cw_set (j := 16) (by omega), va_id (k := 16) (rfl), bput_c, cw_set (j := 17) (by omega), bput_n] at hD
      exact hD
    refine lv_as hr9 ?_
    refine lv_i2l (v := (laV (zz 16) ya.toNatClampNeg : Int32).toInt64) hx hb dL_lasts_7 (rfl) ?_
    refine va_last hx hb hK hP hD hS 0 3 rfl rfl (show ¬ ((0 : Int32) < 0 ∨ 1 ≤ (0 : Int32).toNatClampNeg) by decide) dL_lasts_8 (fun H locs hP hD hS => ?_)
    have hP : va_P D vwCl (bw (lwB cI cL cZ cJ ad dl sf sg (vp_updL fo 0 (laV (zz 16) ya.toNatClampNeg : Int32).toInt64) t n q vv nx ct uf (va_up zz 17 zc9))) H := hP
    refine lv_goto (tgt := 15) hx hb dL_lasts_9 (by decide) ?_
    refine lv_iconst (v := 0) hx hb dL_lasts_15 (by decide) ?_
    exact lh_ret hX hr hlocks hS hP (Or.inl ⟨hR, rfl, _, hc0, rfl⟩) (Nat.le_of_ble_eq_true rfl) (Nat.le_of_ble_eq_true rfl) dL_lasts_16
theorem dL_runScript_0 : decode cL_runScript 0 = .ok (.aload 4, 2) := by decide +kernel
theorem dL_runScript_2 : decode cL_runScript 2 = .ok (.iconst 0, 1) := by decide +kernel
theorem dL_runScript_3 : decode cL_runScript 3 = .ok (.aload_n 0, 1) := by decide +kernel
theorem dL_runScript_4 : decode cL_runScript 4 = .ok (.iload_n 1, 1) := by decide +kernel
theorem dL_runScript_5 : decode cL_runScript 5 = .ok (.lload_n 2, 1) := by decide +kernel
theorem dL_runScript_6 : decode cL_runScript 6 = .ok (.invokevirtual 76, 3) := by decide +kernel
theorem dL_runScript_9 : decode cL_runScript 9 = .ok (.i2l, 1) := by decide +kernel
theorem dL_runScript_10 : decode cL_runScript 10 = .ok (.lastore, 1) := by decide +kernel
theorem dL_runScript_11 : decode cL_runScript 11 = .ok (.goto 7, 3) := by decide +kernel
theorem dL_runScript_14 : decode cL_runScript 14 = .ok (.astore 5, 2) := by decide +kernel
theorem dL_runScript_16 : decode cL_runScript 16 = .ok (.iconst 1, 1) := by decide +kernel
theorem dL_runScript_17 : decode cL_runScript 17 = .ok (.ireturn, 1) := by decide +kernel
theorem dL_runScript_18 : decode cL_runScript 18 = .ok (.iconst 0, 1) := by decide +kernel
theorem dL_runScript_19 : decode cL_runScript 19 = .ok (.ireturn, 1) := by decide +kernel
set_option maxHeartbeats 4000000 in
set_option maxRecDepth 100000 in
theorem cL_runScriptH (l : Launch) (hst : l.stackTraces = false) (D : va_G) (cI cL cZ cJ : ClassId) (ad : Nat → Nat) (dl : Nat → Nat → Nat) (sf sg : Nat → Option Nat) (hsf : ∀ j, j < 14 → sf j = some (dl j 0)) (hsg : ∀ j, j < 2 → sg j = some (dl (14 + j) 0)) (fo : Nat → Int64) (t : Nat → Int32) (n q : Nat) (hn : n ≤ 90) (hq : q ≤ 90) (vv : Nat → Int32) (nx ct : Nat) (hnx : nx < 14) (hct : ct ≤ 14) (uf : Nat → Int32) (zz : Nat → LgS) (hz : Inv (zz 16)) (hB : ∀ j, (zz j).1.2 ≤ 8) (ya : Int32) (yb : Int64) : LH l yL_runScript cL_runScript 6 [(0, 11, 14, 13)] 7 198 D (lwB cI cL cZ cJ ad dl sf sg fo t n q vv nx ct uf zz) [(cI, .int), (cL, (.object "TornPageLog$Log")), (cZ, .boolean), (cJ, .long)] [.ref (ad 1), .int (ya), .long (yb), .ref (ad 0)] (fun (r9 : Int32) (u9 : List va_W) => ((c6sc ya yb) = 0 ∧ r9 = 0 ∧ ∃ zc9 : LgS, ∃ zt9 : LgS, (zc9.1.2 ≤ 8) ∧ (zt9.1.2 ≤ 8) ∧ u9 = lwB cI cL cZ cJ ad dl sf sg (vp_updL fo 0 (oI (scZ ya.toNatClampNeg yb.toInt.toNat ya.toNatClampNeg 0 (zz 16)) : Int32).toInt64) t n q vv nx ct uf (va_up (va_up zz 17 zc9) 18 zt9)) ∨ (¬ (c6sc ya yb) = 0 ∧ r9 = (c6sc ya yb) ∧ ∃ zc9 : LgS, ∃ zt9 : LgS, (zc9.1.2 ≤ 8) ∧ (zt9.1.2 ≤ 8) ∧ u9 = lwB cI cL cZ cJ ad dl sf sg fo t n q vv nx ct uf (va_up (va_up zz 17 zc9) 18 zt9))) := by
  refine lh_of (by decide) rfl (Nat.le_of_ble_eq_true rfl) ?_
  intro p e s m below meth c ls H hX hTb hr hlocks hK hN hE hSW hZ hCN hP hD hS hl
  generalize gp_A (bw (lwB cI cL cZ cJ ad dl sf sg fo t n q vv nx ct uf zz)) = A at hZ hD hS ⊢
  have hx := hX.1
  have hb := hX.2.1
  have hown := hX.2.2.2.1
  have hts := hX.2.2.2.2
  have hl : lv_has ls 6 [(0, .ref (ad 1)), (1, .int (ya)), (2, .long (yb)), (4, .ref (ad 0))] := hl
  refine lv_aload hx hb dL_runScript_0 (lv_at hl 3 rfl) ?_
  refine lv_iconst (v := 0) hx hb dL_runScript_2 (by decide) ?_
  refine lv_aload_n hx hb dL_runScript_3 rfl (lv_at hl 0 rfl) ?_
  refine lv_iload_n hx hb dL_runScript_4 rfl (lv_at hl 1 rfl) ?_
  refine lv_lload_n hx hb dL_runScript_5 rfl (lv_at hl 2 rfl) ?_
  refine lh_callV (Bs := lwB cI cL cZ cJ ad dl sf sg fo t n q vv nx ct uf zz) hX (c6_runScript l hst D cI (ad 1) (ad 2) (ad 4) (ad 6) (dl 16) (dl 17) (dl 18) (zz 16) hz (zz 17) (hB 17) (zz 18) (hB 18) ya yb) ⟨by decide, by decide, show (parseMethodDescriptor yX6_runScript.desc).map (fun d => d.parameters.length) = some 2 by decide +kernel⟩ rfl (mlA 67 rfl) (mlA 68 rfl) (mlA 69 rfl) (mlA 70 rfl) ⟨Nat.le_of_ble_eq_true rfl, Nat.le_of_ble_eq_true rfl⟩ hK hN hE hSW hZ [0] rfl hP hD hS [1, 8 + 16, 8 + 17, 8 + 18] (by simp; try omega) (hcc cw_g1 (hcc (cw_get (j := 16) (by omega)) (hcc (cw_get (j := 17) (by omega)) (hcc (cw_get (j := 18) (by omega)) (hcn))))) rfl hl.1 rfl (Nat.le_of_ble_eq_true rfl) dL_runScript_6 ⟨Nat.le_of_ble_eq_true rfl, Nat.le_of_ble_eq_true rfl⟩ (fun r u h => by obtain ⟨-, -, zc9, zt9, hc0, hc1, rfl⟩ := h; rfl) (fun E u h => by obtain ⟨-, zc9, zt9, hc0, hc1, rfl⟩ := h; rfl) (fun E ce qex u H locs hxp hP hD hS hcell hcv hcl => ?_) (fun r u H locs hp hP hD hS => ?_)
  · obtain ⟨hE9, zc9, zt9, hc0, hc1, rfl⟩ := hxp
    have hP : va_P D vwCl (bw (lwB cI cL cZ cJ ad dl sf sg fo t n q vv nx ct uf (va_up (va_up zz 17 zc9) 18 zt9))) H := by
      rw [lwB, bput_c, cw_s1, bput_c, cw_set (j := 16) (by omega), va_id (k := 16) (rfl), bput_c, cw_set (j := 17) (by omega), bput_c, cw_set (j := 18) (by omega), bput_n] at hP
      exact hP
    have hD : va_D A (bw (lwB cI cL cZ cJ ad dl sf sg fo t n q vv nx ct uf (va_up (va_up zz 17 zc9) 18 zt9))) := by
      rw [lwB, bput_c, cw_s1, bput_c, cw_set (j := 16) (by omega), va_id (k := 16) (rfl), bput_c, cw_set (j := 17) (by omega), bput_c, cw_set (j := 18) (by omega), bput_n] at hD
      exact hD
    obtain ⟨rfl, hR⟩ := hE9
    · skip
      refine vx_catch hown [] ⟨0, 11, 14, 13⟩ [] (hTb.trans rfl) (fun z hz => nomatch hz) rfl (by decide) (hts _ (mlA 0 rfl)) (va_Nw.use rfl hE.2.2.2.1) hcell hcv hcl ?_
      refine lv_astore (lv' := [(5, .ref qex), (0, .ref (ad 1)), (1, .int (ya)), (2, .long (yb)), (4, .ref (ad 0))]) hx hb dL_runScript_14 hl (by decide) rfl (fun ls hl => ?_)
      refine lv_iconst (v := 1) hx hb dL_runScript_16 (by decide) ?_
      exact lh_ret hX hr hlocks hS hP (Or.inr ⟨by rw [hR]; decide, by rw [hR], _, _, hc0, hc1, rfl⟩) (Nat.le_of_ble_eq_true rfl) (Nat.le_of_ble_eq_true rfl) dL_runScript_17
  · obtain ⟨hR, hr9, zc9, zt9, hc0, hc1, rfl⟩ := hp
    have hP : va_P D vwCl (bw (lwB cI cL cZ cJ ad dl sf sg fo t n q vv nx ct uf (va_up (va_up zz 17 zc9) 18 zt9))) H := by
      rw [lwB, bput_c, cw_s1, bput_c, cw_set (j := 16) (by omega), va_id (k := 16) (rfl), bput_c, cw_set (j := 17) (by omega), bput_c, cw_set (j := 18) (by omega), bput_n] at hP
      exact hP
    have hD : va_D A (bw (lwB cI cL cZ cJ ad dl sf sg fo t n q vv nx ct uf (va_up (va_up zz 17 zc9) 18 zt9))) := by
      rw [lwB, bput_c, cw_s1, bput_c, cw_set (j := 16) (by omega), va_id (k := 16) (rfl), bput_c, cw_set (j := 17) (by omega), bput_c, cw_set (j := 18) (by omega), bput_n] at hD
      exact hD
    refine lv_as hr9 ?_
    refine lv_i2l (v := (oI (scZ ya.toNatClampNeg yb.toInt.toNat ya.toNatClampNeg 0 (zz 16)) : Int32).toInt64) hx hb dL_runScript_9 (rfl) ?_
    refine va_last hx hb hK hP hD hS 0 3 rfl rfl (show ¬ ((0 : Int32) < 0 ∨ 1 ≤ (0 : Int32).toNatClampNeg) by decide) dL_runScript_10 (fun H locs hP hD hS => ?_)
    have hP : va_P D vwCl (bw (lwB cI cL cZ cJ ad dl sf sg (vp_updL fo 0 (oI (scZ ya.toNatClampNeg yb.toInt.toNat ya.toNatClampNeg 0 (zz 16)) : Int32).toInt64) t n q vv nx ct uf (va_up (va_up zz 17 zc9) 18 zt9))) H := hP
    refine lv_goto (tgt := 18) hx hb dL_runScript_11 (by decide) ?_
    refine lv_iconst (v := 0) hx hb dL_runScript_18 (by decide) ?_
    exact lh_ret hX hr hlocks hS hP (Or.inl ⟨hR, rfl, _, _, hc0, hc1, rfl⟩) (Nat.le_of_ble_eq_true rfl) (Nat.le_of_ble_eq_true rfl) dL_runScript_19
theorem dL_simulate_0 : decode cL_simulate 0 = .ok (.aload 4, 2) := by decide +kernel
theorem dL_simulate_2 : decode cL_simulate 2 = .ok (.iconst 0, 1) := by decide +kernel
theorem dL_simulate_3 : decode cL_simulate 3 = .ok (.aload_n 0, 1) := by decide +kernel
theorem dL_simulate_4 : decode cL_simulate 4 = .ok (.lload_n 1, 1) := by decide +kernel
theorem dL_simulate_5 : decode cL_simulate 5 = .ok (.iload_n 3, 1) := by decide +kernel
theorem dL_simulate_6 : decode cL_simulate 6 = .ok (.invokevirtual 80, 3) := by decide +kernel
theorem dL_simulate_9 : decode cL_simulate 9 = .ok (.i2l, 1) := by decide +kernel
theorem dL_simulate_10 : decode cL_simulate 10 = .ok (.lastore, 1) := by decide +kernel
theorem dL_simulate_11 : decode cL_simulate 11 = .ok (.goto 7, 3) := by decide +kernel
theorem dL_simulate_14 : decode cL_simulate 14 = .ok (.astore 5, 2) := by decide +kernel
theorem dL_simulate_16 : decode cL_simulate 16 = .ok (.iconst 1, 1) := by decide +kernel
theorem dL_simulate_17 : decode cL_simulate 17 = .ok (.ireturn, 1) := by decide +kernel
theorem dL_simulate_18 : decode cL_simulate 18 = .ok (.iconst 0, 1) := by decide +kernel
theorem dL_simulate_19 : decode cL_simulate 19 = .ok (.ireturn, 1) := by decide +kernel
set_option maxHeartbeats 4000000 in
set_option maxRecDepth 100000 in
theorem cL_simulateH (l : Launch) (hst : l.stackTraces = false) (D : va_G) (cI cL cZ cJ : ClassId) (ad : Nat → Nat) (dl : Nat → Nat → Nat) (sf sg : Nat → Option Nat) (hsf : ∀ j, j < 14 → sf j = some (dl j 0)) (hsg : ∀ j, j < 2 → sg j = some (dl (14 + j) 0)) (fo : Nat → Int64) (t : Nat → Int32) (n q : Nat) (hn : n ≤ 90) (hq : q ≤ 90) (vv : Nat → Int32) (nx ct : Nat) (hnx : nx < 14) (hct : ct ≤ 14) (uf : Nat → Int32) (zz : Nat → LgS) (hz : Inv (zz 16)) (hB : ∀ j, (zz j).1.2 ≤ 8) (ya : Int64) (yb : Int32) : LH l yL_simulate cL_simulate 6 [(0, 11, 14, 13)] 7 196 D (lwB cI cL cZ cJ ad dl sf sg fo t n q vv nx ct uf zz) [(cI, .int), (cL, (.object "TornPageLog$Log")), (cZ, .boolean), (cJ, .long)] [.ref (ad 1), .long (ya), .int (yb), .ref (ad 0)] (fun (r9 : Int32) (u9 : List va_W) => ((c6sim yb) = 0 ∧ r9 = 0 ∧ ∃ zc9 : LgS, ∃ zt9 : LgS, (zc9.1.2 ≤ 8) ∧ (zt9.1.2 ≤ 8) ∧ u9 = lwB cI cL cZ cJ ad dl sf sg (vp_updL fo 0 (1000 * ((smZ yb.toNatClampNeg ya (zz 16)).2.1 5 - (zz 16).2.1 5) + 20 * ((smZ yb.toNatClampNeg ya (zz 16)).2.1 9 - (zz 16).2.1 9) + nI (ckZ (smZ yb.toNatClampNeg ya (zz 16)) 16) : Int32).toInt64) t n q vv nx ct uf (va_up (va_up zz 17 zc9) 18 zt9)) ∨ (¬ (c6sim yb) = 0 ∧ r9 = (c6sim yb) ∧ ∃ zc9 : LgS, ∃ zt9 : LgS, (zc9.1.2 ≤ 8) ∧ (zt9.1.2 ≤ 8) ∧ u9 = lwB cI cL cZ cJ ad dl sf sg fo t n q vv nx ct uf (va_up (va_up zz 17 zc9) 18 zt9))) := by
  refine lh_of (by decide) rfl (Nat.le_of_ble_eq_true rfl) ?_
  intro p e s m below meth c ls H hX hTb hr hlocks hK hN hE hSW hZ hCN hP hD hS hl
  generalize gp_A (bw (lwB cI cL cZ cJ ad dl sf sg fo t n q vv nx ct uf zz)) = A at hZ hD hS ⊢
  have hx := hX.1
  have hb := hX.2.1
  have hown := hX.2.2.2.1
  have hts := hX.2.2.2.2
  have hl : lv_has ls 6 [(0, .ref (ad 1)), (1, .long (ya)), (3, .int (yb)), (4, .ref (ad 0))] := hl
  refine lv_aload hx hb dL_simulate_0 (lv_at hl 3 rfl) ?_
  refine lv_iconst (v := 0) hx hb dL_simulate_2 (by decide) ?_
  refine lv_aload_n hx hb dL_simulate_3 rfl (lv_at hl 0 rfl) ?_
  refine lv_lload_n hx hb dL_simulate_4 rfl (lv_at hl 1 rfl) ?_
  refine lv_iload_n hx hb dL_simulate_5 rfl (lv_at hl 2 rfl) ?_
  refine lh_callV (Bs := lwB cI cL cZ cJ ad dl sf sg fo t n q vv nx ct uf zz) hX (c6_simulate l hst D cI (ad 1) (ad 2) (ad 4) (ad 6) (dl 16) (dl 17) (dl 18) (zz 16) hz (zz 17) (hB 17) (zz 18) (hB 18) ya yb) ⟨by decide, by decide, show (parseMethodDescriptor yX6_simulate.desc).map (fun d => d.parameters.length) = some 2 by decide +kernel⟩ rfl (mlA 79 rfl) (mlA 80 rfl) (mlA 81 rfl) (mlA 82 rfl) ⟨Nat.le_of_ble_eq_true rfl, Nat.le_of_ble_eq_true rfl⟩ hK hN hE hSW hZ [0] rfl hP hD hS [1, 8 + 16, 8 + 17, 8 + 18] (by simp; try omega) (hcc cw_g1 (hcc (cw_get (j := 16) (by omega)) (hcc (cw_get (j := 17) (by omega)) (hcc (cw_get (j := 18) (by omega)) (hcn))))) rfl hl.1 rfl (Nat.le_of_ble_eq_true rfl) dL_simulate_6 ⟨Nat.le_of_ble_eq_true rfl, Nat.le_of_ble_eq_true rfl⟩ (fun r u h => by obtain ⟨-, -, zc9, zt9, hc0, hc1, rfl⟩ := h; rfl) (fun E u h => by obtain ⟨-, zc9, zt9, hc0, hc1, rfl⟩ := h; rfl) (fun E ce qex u H locs hxp hP hD hS hcell hcv hcl => ?_) (fun r u H locs hp hP hD hS => ?_)
  · obtain ⟨hE9, zc9, zt9, hc0, hc1, rfl⟩ := hxp
    have hP : va_P D vwCl (bw (lwB cI cL cZ cJ ad dl sf sg fo t n q vv nx ct uf (va_up (va_up zz 17 zc9) 18 zt9))) H := by
      rw [lwB, bput_c, cw_s1, bput_c, cw_set (j := 16) (by omega), va_id (k := 16) (rfl), bput_c, cw_set (j := 17) (by omega), bput_c, cw_set (j := 18) (by omega), bput_n] at hP
      exact hP
    have hD : va_D A (bw (lwB cI cL cZ cJ ad dl sf sg fo t n q vv nx ct uf (va_up (va_up zz 17 zc9) 18 zt9))) := by
      rw [lwB, bput_c, cw_s1, bput_c, cw_set (j := 16) (by omega), va_id (k := 16) (rfl), bput_c, cw_set (j := 17) (by omega), bput_c, cw_set (j := 18) (by omega), bput_n] at hD
      exact hD
    obtain ⟨rfl, hR⟩ := hE9
    · skip
      refine vx_catch hown [] ⟨0, 11, 14, 13⟩ [] (hTb.trans rfl) (fun z hz => nomatch hz) rfl (by decide) (hts _ (mlA 0 rfl)) (va_Nw.use rfl hE.2.2.2.1) hcell hcv hcl ?_
      refine lv_astore (lv' := [(5, .ref qex), (0, .ref (ad 1)), (1, .long (ya)), (3, .int (yb)), (4, .ref (ad 0))]) hx hb dL_simulate_14 hl (by decide) rfl (fun ls hl => ?_)
      refine lv_iconst (v := 1) hx hb dL_simulate_16 (by decide) ?_
      exact lh_ret hX hr hlocks hS hP (Or.inr ⟨by rw [hR]; decide, by rw [hR], _, _, hc0, hc1, rfl⟩) (Nat.le_of_ble_eq_true rfl) (Nat.le_of_ble_eq_true rfl) dL_simulate_17
  · obtain ⟨hR, hr9, zc9, zt9, hc0, hc1, rfl⟩ := hp
    have hP : va_P D vwCl (bw (lwB cI cL cZ cJ ad dl sf sg fo t n q vv nx ct uf (va_up (va_up zz 17 zc9) 18 zt9))) H := by
      rw [lwB, bput_c, cw_s1, bput_c, cw_set (j := 16) (by omega), va_id (k := 16) (rfl), bput_c, cw_set (j := 17) (by omega), bput_c, cw_set (j := 18) (by omega), bput_n] at hP
      exact hP
    have hD : va_D A (bw (lwB cI cL cZ cJ ad dl sf sg fo t n q vv nx ct uf (va_up (va_up zz 17 zc9) 18 zt9))) := by
      rw [lwB, bput_c, cw_s1, bput_c, cw_set (j := 16) (by omega), va_id (k := 16) (rfl), bput_c, cw_set (j := 17) (by omega), bput_c, cw_set (j := 18) (by omega), bput_n] at hD
      exact hD
    refine lv_as hr9 ?_
    refine lv_i2l (v := (1000 * ((smZ yb.toNatClampNeg ya (zz 16)).2.1 5 - (zz 16).2.1 5) + 20 * ((smZ yb.toNatClampNeg ya (zz 16)).2.1 9 - (zz 16).2.1 9) + nI (ckZ (smZ yb.toNatClampNeg ya (zz 16)) 16) : Int32).toInt64) hx hb dL_simulate_9 (rfl) ?_
    refine va_last hx hb hK hP hD hS 0 3 rfl rfl (show ¬ ((0 : Int32) < 0 ∨ 1 ≤ (0 : Int32).toNatClampNeg) by decide) dL_simulate_10 (fun H locs hP hD hS => ?_)
    have hP : va_P D vwCl (bw (lwB cI cL cZ cJ ad dl sf sg (vp_updL fo 0 (1000 * ((smZ yb.toNatClampNeg ya (zz 16)).2.1 5 - (zz 16).2.1 5) + 20 * ((smZ yb.toNatClampNeg ya (zz 16)).2.1 9 - (zz 16).2.1 9) + nI (ckZ (smZ yb.toNatClampNeg ya (zz 16)) 16) : Int32).toInt64) t n q vv nx ct uf (va_up (va_up zz 17 zc9) 18 zt9))) H := hP
    refine lv_goto (tgt := 18) hx hb dL_simulate_11 (by decide) ?_
    refine lv_iconst (v := 0) hx hb dL_simulate_18 (by decide) ?_
    exact lh_ret hX hr hlocks hS hP (Or.inl ⟨hR, rfl, _, _, hc0, hc1, rfl⟩) (Nat.le_of_ble_eq_true rfl) (Nat.le_of_ble_eq_true rfl) dL_simulate_19
theorem dL_save_0 : decode cL_save 0 = .ok (.aload_n 2, 1) := by decide +kernel
theorem dL_save_1 : decode cL_save 1 = .ok (.iconst 0, 1) := by decide +kernel
theorem dL_save_2 : decode cL_save 2 = .ok (.aload_n 0, 1) := by decide +kernel
theorem dL_save_3 : decode cL_save 3 = .ok (.iload_n 1, 1) := by decide +kernel
theorem dL_save_4 : decode cL_save 4 = .ok (.invokevirtual 84, 3) := by decide +kernel
theorem dL_save_7 : decode cL_save 7 = .ok (.i2l, 1) := by decide +kernel
theorem dL_save_8 : decode cL_save 8 = .ok (.lastore, 1) := by decide +kernel
theorem dL_save_9 : decode cL_save 9 = .ok (.goto 6, 3) := by decide +kernel
theorem dL_save_12 : decode cL_save 12 = .ok (.astore_n 3, 1) := by decide +kernel
theorem dL_save_13 : decode cL_save 13 = .ok (.iconst 1, 1) := by decide +kernel
theorem dL_save_14 : decode cL_save 14 = .ok (.ireturn, 1) := by decide +kernel
theorem dL_save_15 : decode cL_save 15 = .ok (.iconst 0, 1) := by decide +kernel
theorem dL_save_16 : decode cL_save 16 = .ok (.ireturn, 1) := by decide +kernel
set_option maxHeartbeats 4000000 in
set_option maxRecDepth 100000 in
theorem cL_saveH (l : Launch) (hst : l.stackTraces = false) (D : va_G) (cI cL cZ cJ : ClassId) (ad : Nat → Nat) (dl : Nat → Nat → Nat) (sf sg : Nat → Option Nat) (hsf : ∀ j, j < 14 → sf j = some (dl j 0)) (hsg : ∀ j, j < 2 → sg j = some (dl (14 + j) 0)) (fo : Nat → Int64) (t : Nat → Int32) (n q : Nat) (hn : n ≤ 90) (hq : q ≤ 90) (vv : Nat → Int32) (nx ct : Nat) (hnx : nx < 14) (hct : ct ≤ 14) (uf : Nat → Int32) (zz : Nat → LgS) (hz : Inv (zz 16)) (hB : ∀ j, (zz j).1.2 ≤ 8) (ya : Int32) (kk : Nat) (hkk2 : kk < 2) (hkk : inN ya 2 → ya.toNatClampNeg = kk) : LH l yL_save cL_save 4 [(0, 9, 12, 28)] 7 166 D (lwB cI cL cZ cJ ad dl sf sg fo t n q vv nx ct uf zz) [(cI, .int), (cL, (.object "TornPageLog$Log")), (cZ, .boolean), (cJ, .long)] [.ref (ad 1), .int (ya), .ref (ad 0)] (fun (r9 : Int32) (u9 : List va_W) => ((c6sav ya) = 0 ∧ r9 = 0 ∧ u9 = lwB cI cL cZ cJ ad dl sf sg (vp_updL fo 0 (nI (ckZ (zz 16) 16) : Int32).toInt64) t n q vv nx ct (upd uf ya.toNatClampNeg 1) (va_up zz (14 + kk) (zz 16))) ∨ (¬ (c6sav ya) = 0 ∧ r9 = (c6sav ya) ∧ u9 = lwB cI cL cZ cJ ad dl sf sg fo t n q vv nx ct uf zz)) := by
  refine lh_of (by decide) rfl (Nat.le_of_ble_eq_true rfl) ?_
  intro p e s m below meth c ls H hX hTb hr hlocks hK hN hE hSW hZ hCN hP hD hS hl
  generalize gp_A (bw (lwB cI cL cZ cJ ad dl sf sg fo t n q vv nx ct uf zz)) = A at hZ hD hS ⊢
  have hx := hX.1
  have hb := hX.2.1
  have hown := hX.2.2.2.1
  have hts := hX.2.2.2.2
  have hl : lv_has ls 4 [(0, .ref (ad 1)), (1, .int (ya)), (2, .ref (ad 0))] := hl
  refine lv_aload_n hx hb dL_save_0 rfl (lv_at hl 2 rfl) ?_
  refine lv_iconst (v := 0) hx hb dL_save_1 (by decide) ?_
  refine lv_aload_n hx hb dL_save_2 rfl (lv_at hl 0 rfl) ?_
  refine lv_iload_n hx hb dL_save_3 rfl (lv_at hl 1 rfl) ?_
  refine lh_callV (Bs := lwB cI cL cZ cJ ad dl sf sg fo t n q vv nx ct uf zz) hX (c6_save l hst D cI cL cZ (ad 1) (ad 2) (ad 4) (ad 6) (dl 16) (dl 17) (dl 18) (zz 16) hz (ad 7) (ad 8) sg uf (dl (14 + kk)) (zz (14 + kk)) (hB (14 + kk)) ya (fun y9 => by rw [hkk y9]; exact hsg kk hkk2)) ⟨by decide, by decide, show (parseMethodDescriptor yX6_save.desc).map (fun d => d.parameters.length) = some 1 by decide +kernel⟩ rfl (mlA 71 rfl) (mlA 72 rfl) (mlA 73 rfl) (mlA 74 rfl) ⟨Nat.le_of_ble_eq_true rfl, Nat.le_of_ble_eq_true rfl⟩ hK hN hE hSW hZ [0, 1, 2] rfl hP hD hS [1, 8 + 16, 5, 6, 7, 8 + (14 + kk)] (by simp; try omega) (hcc cw_g1 (hcc (cw_get (j := 16) (by omega)) (hcc cw_g5 (hcc cw_g6 (hcc cw_g7 (hcc (cw_get (j := (14 + kk)) (by omega)) (hcn))))))) rfl hl.1 rfl (Nat.le_of_ble_eq_true rfl) dL_save_4 ⟨Nat.le_of_ble_eq_true rfl, Nat.le_of_ble_eq_true rfl⟩ (fun r u h => by obtain ⟨-, -, rfl⟩ := h; rfl) (fun E u h => by obtain ⟨-, rfl⟩ := h; rfl) (fun E ce qex u H locs hxp hP hD hS hcell hcv hcl => ?_) (fun r u H locs hp hP hD hS => ?_)
  · obtain ⟨hE9, rfl⟩ := hxp
    have hP : va_P D vwCl (bw (lwB cI cL cZ cJ ad dl sf sg fo t n q vv nx ct uf zz)) H := by
      rw [lwB, bput_c, cw_s1, bput_c, cw_set (j := 16) (by omega), va_id (k := 16) (rfl), bput_c, cw_s5, bput_c, cw_s6, bput_c, cw_s7, bput_c, cw_set (j := (14 + kk)) (by omega), va_id (k := (14 + kk)) (rfl), bput_n] at hP
      exact hP
    have hD : va_D A (bw (lwB cI cL cZ cJ ad dl sf sg fo t n q vv nx ct uf zz)) := by
      rw [lwB, bput_c, cw_s1, bput_c, cw_set (j := 16) (by omega), va_id (k := 16) (rfl), bput_c, cw_s5, bput_c, cw_s6, bput_c, cw_s7, bput_c, cw_set (j := (14 + kk)) (by omega), va_id (k := (14 + kk)) (rfl), bput_n] at hD
      exact hD
    obtain ⟨rfl, hR⟩ := hE9
    · skip
      refine vx_catch hown [] ⟨0, 9, 12, 28⟩ [] (hTb.trans rfl) (fun z hz => nomatch hz) rfl (by decide) (hts _ (mlA 2 rfl)) (va_Nw.use rfl hE.2.2.2.2.2) hcell hcv hcl ?_
      refine lv_astore_n (lv' := [(3, .ref qex), (0, .ref (ad 1)), (1, .int (ya)), (2, .ref (ad 0))]) hx hb dL_save_12 rfl hl (by decide) rfl (fun ls hl => ?_)
      refine lv_iconst (v := 1) hx hb dL_save_13 (by decide) ?_
      exact lh_ret hX hr hlocks hS hP (Or.inr ⟨by rw [hR]; decide, by rw [hR], rfl⟩) (Nat.le_of_ble_eq_true rfl) (Nat.le_of_ble_eq_true rfl) dL_save_14
  · obtain ⟨hR, hr9, rfl⟩ := hp
    have hP : va_P D vwCl (bw (lwB cI cL cZ cJ ad dl sf sg fo t n q vv nx ct (upd uf ya.toNatClampNeg 1) (va_up zz (14 + kk) (zz 16)))) H := by
      rw [lwB, bput_c, cw_s1, bput_c, cw_set (j := 16) (by omega), va_id (k := 16) (rfl), bput_c, cw_s5, bput_c, cw_s6, bput_c, cw_s7, bput_c, cw_set (j := (14 + kk)) (by omega), bput_n] at hP
      exact hP
    have hD : va_D A (bw (lwB cI cL cZ cJ ad dl sf sg fo t n q vv nx ct (upd uf ya.toNatClampNeg 1) (va_up zz (14 + kk) (zz 16)))) := by
      rw [lwB, bput_c, cw_s1, bput_c, cw_set (j := 16) (by omega), va_id (k := 16) (rfl), bput_c, cw_s5, bput_c, cw_s6, bput_c, cw_s7, bput_c, cw_set (j := (14 + kk)) (by omega), bput_n] at hD
      exact hD
    refine lv_as hr9 ?_
    refine lv_i2l (v := (nI (ckZ (zz 16) 16) : Int32).toInt64) hx hb dL_save_7 (rfl) ?_
    refine va_last hx hb hK hP hD hS 0 3 rfl rfl (show ¬ ((0 : Int32) < 0 ∨ 1 ≤ (0 : Int32).toNatClampNeg) by decide) dL_save_8 (fun H locs hP hD hS => ?_)
    have hP : va_P D vwCl (bw (lwB cI cL cZ cJ ad dl sf sg (vp_updL fo 0 (nI (ckZ (zz 16) 16) : Int32).toInt64) t n q vv nx ct (upd uf ya.toNatClampNeg 1) (va_up zz (14 + kk) (zz 16)))) H := hP
    refine lv_goto (tgt := 15) hx hb dL_save_9 (by decide) ?_
    refine lv_iconst (v := 0) hx hb dL_save_15 (by decide) ?_
    exact lh_ret hX hr hlocks hS hP (Or.inl ⟨hR, rfl, rfl⟩) (Nat.le_of_ble_eq_true rfl) (Nat.le_of_ble_eq_true rfl) dL_save_16
theorem dL_restore_0 : decode cL_restore 0 = .ok (.aload_n 2, 1) := by decide +kernel
theorem dL_restore_1 : decode cL_restore 1 = .ok (.iconst 0, 1) := by decide +kernel
theorem dL_restore_2 : decode cL_restore 2 = .ok (.aload_n 0, 1) := by decide +kernel
theorem dL_restore_3 : decode cL_restore 3 = .ok (.iload_n 1, 1) := by decide +kernel
theorem dL_restore_4 : decode cL_restore 4 = .ok (.invokevirtual 87, 3) := by decide +kernel
theorem dL_restore_7 : decode cL_restore 7 = .ok (.i2l, 1) := by decide +kernel
theorem dL_restore_8 : decode cL_restore 8 = .ok (.lastore, 1) := by decide +kernel
theorem dL_restore_9 : decode cL_restore 9 = .ok (.goto 9, 3) := by decide +kernel
theorem dL_restore_12 : decode cL_restore 12 = .ok (.astore_n 3, 1) := by decide +kernel
theorem dL_restore_13 : decode cL_restore 13 = .ok (.iconst 1, 1) := by decide +kernel
theorem dL_restore_14 : decode cL_restore 14 = .ok (.ireturn, 1) := by decide +kernel
theorem dL_restore_15 : decode cL_restore 15 = .ok (.astore_n 3, 1) := by decide +kernel
theorem dL_restore_16 : decode cL_restore 16 = .ok (.iconst 2, 1) := by decide +kernel
theorem dL_restore_17 : decode cL_restore 17 = .ok (.ireturn, 1) := by decide +kernel
theorem dL_restore_18 : decode cL_restore 18 = .ok (.iconst 0, 1) := by decide +kernel
theorem dL_restore_19 : decode cL_restore 19 = .ok (.ireturn, 1) := by decide +kernel
set_option maxHeartbeats 4000000 in
set_option maxRecDepth 100000 in
theorem cL_restoreH (l : Launch) (hst : l.stackTraces = false) (D : va_G) (cI cL cZ cJ : ClassId) (ad : Nat → Nat) (dl : Nat → Nat → Nat) (sf sg : Nat → Option Nat) (hsf : ∀ j, j < 14 → sf j = some (dl j 0)) (hsg : ∀ j, j < 2 → sg j = some (dl (14 + j) 0)) (fo : Nat → Int64) (t : Nat → Int32) (n q : Nat) (hn : n ≤ 90) (hq : q ≤ 90) (vv : Nat → Int32) (nx ct : Nat) (hnx : nx < 14) (hct : ct ≤ 14) (uf : Nat → Int32) (zz : Nat → LgS) (hz : Inv (zz 16)) (hB : ∀ j, (zz j).1.2 ≤ 8) (ya : Int32) (kk : Nat) (hkk2 : kk < 2) (hkk : inN ya 2 → ya.toNatClampNeg = kk) : LH l yL_restore cL_restore 4 [(0, 9, 12, 28), (0, 9, 15, 15)] 7 166 D (lwB cI cL cZ cJ ad dl sf sg fo t n q vv nx ct uf zz) [(cI, .int), (cL, (.object "TornPageLog$Log")), (cZ, .boolean), (cJ, .long)] [.ref (ad 1), .int (ya), .ref (ad 0)] (fun (r9 : Int32) (u9 : List va_W) => ((c6rst uf ya) = 0 ∧ r9 = 0 ∧ u9 = lwB cI cL cZ cJ ad dl sf sg (vp_updL fo 0 (nI (ckZ (zz (14 + kk)) 16) : Int32).toInt64) t n q vv nx 0 uf (va_up zz 16 (zz (14 + kk)))) ∨ (¬ (c6rst uf ya) = 0 ∧ r9 = (c6rst uf ya) ∧ u9 = lwB cI cL cZ cJ ad dl sf sg fo t n q vv nx ct uf zz)) := by
  refine lh_of (by decide) rfl (Nat.le_of_ble_eq_true rfl) ?_
  intro p e s m below meth c ls H hX hTb hr hlocks hK hN hE hSW hZ hCN hP hD hS hl
  generalize gp_A (bw (lwB cI cL cZ cJ ad dl sf sg fo t n q vv nx ct uf zz)) = A at hZ hD hS ⊢
  have hx := hX.1
  have hb := hX.2.1
  have hown := hX.2.2.2.1
  have hts := hX.2.2.2.2
  have hl : lv_has ls 4 [(0, .ref (ad 1)), (1, .int (ya)), (2, .ref (ad 0))] := hl
  refine lv_aload_n hx hb dL_restore_0 rfl (lv_at hl 2 rfl) ?_
  refine lv_iconst (v := 0) hx hb dL_restore_1 (by decide) ?_
  refine lv_aload_n hx hb dL_restore_2 rfl (lv_at hl 0 rfl) ?_
  refine lv_iload_n hx hb dL_restore_3 rfl (lv_at hl 1 rfl) ?_
  refine lh_callV (Bs := lwB cI cL cZ cJ ad dl sf sg fo t n q vv nx ct uf zz) hX (c6_restore l hst D cI cL cZ (ad 1) (ad 2) (ad 4) (ad 6) (dl 16) (dl 17) (dl 18) (zz 16) hz (ad 7) (ad 8) sg uf (dl (14 + kk)) (zz (14 + kk)) (hB (14 + kk)) (ad 5) nx ct ya (fun y9 => by rw [hkk y9]; exact hsg kk hkk2)) ⟨by decide, by decide, show (parseMethodDescriptor yX6_restore.desc).map (fun d => d.parameters.length) = some 1 by decide +kernel⟩ rfl (mlA 63 rfl) (mlA 64 rfl) (mlA 65 rfl) (mlA 66 rfl) ⟨Nat.le_of_ble_eq_true rfl, Nat.le_of_ble_eq_true rfl⟩ hK hN hE hSW hZ [0, 1, 2] rfl hP hD hS [1, 8 + 16, 5, 6, 7, 8 + (14 + kk), 3] (by simp; try omega) (hcc cw_g1 (hcc (cw_get (j := 16) (by omega)) (hcc cw_g5 (hcc cw_g6 (hcc cw_g7 (hcc (cw_get (j := (14 + kk)) (by omega)) (hcc cw_g3 (hcn)))))))) rfl hl.1 rfl (Nat.le_of_ble_eq_true rfl) dL_restore_4 ⟨Nat.le_of_ble_eq_true rfl, Nat.le_of_ble_eq_true rfl⟩ (fun r u h => by obtain ⟨-, -, rfl⟩ := h; rfl) (fun E u h => by obtain ⟨-, rfl⟩ := h; rfl) (fun E ce qex u H locs hxp hP hD hS hcell hcv hcl => ?_) (fun r u H locs hp hP hD hS => ?_)
  · obtain ⟨hE9, rfl⟩ := hxp
    have hP : va_P D vwCl (bw (lwB cI cL cZ cJ ad dl sf sg fo t n q vv nx ct uf zz)) H := by
      rw [lwB, bput_c, cw_s1, bput_c, cw_set (j := 16) (by omega), va_id (k := 16) (rfl), bput_c, cw_s5, bput_c, cw_s6, bput_c, cw_s7, bput_c, cw_set (j := (14 + kk)) (by omega), va_id (k := (14 + kk)) (rfl), bput_c, cw_s3, bput_n] at hP
      exact hP
    have hD : va_D A (bw (lwB cI cL cZ cJ ad dl sf sg fo t n q vv nx ct uf zz)) := by
      rw [lwB, bput_c, cw_s1, bput_c, cw_set (j := 16) (by omega), va_id (k := 16) (rfl), bput_c, cw_s5, bput_c, cw_s6, bput_c, cw_s7, bput_c, cw_set (j := (14 + kk)) (by omega), va_id (k := (14 + kk)) (rfl), bput_c, cw_s3, bput_n] at hD
      exact hD
    rcases hE9 with ⟨rfl, hR⟩ | ⟨rfl, hR⟩
    · skip
      refine vx_catch hown [] ⟨0, 9, 12, 28⟩ [⟨0, 9, 15, 15⟩] (hTb.trans rfl) (fun z hz => nomatch hz) rfl (by decide) (hts _ (mlA 2 rfl)) (va_Nw.use rfl hE.2.2.2.2.2) hcell hcv hcl ?_
      refine lv_astore_n (lv' := [(3, .ref qex), (0, .ref (ad 1)), (1, .int (ya)), (2, .ref (ad 0))]) hx hb dL_restore_12 rfl hl (by decide) rfl (fun ls hl => ?_)
      refine lv_iconst (v := 1) hx hb dL_restore_13 (by decide) ?_
      exact lh_ret hX hr hlocks hS hP (Or.inr ⟨by rw [hR]; decide, by rw [hR], rfl⟩) (Nat.le_of_ble_eq_true rfl) (Nat.le_of_ble_eq_true rfl) dL_restore_14
    · skip
      refine vx_catch hown [⟨0, 9, 12, 28⟩] ⟨0, 9, 15, 15⟩ [] (hTb.trans rfl) (fun z hz => by rw [List.mem_singleton.mp hz]; exact Or.inr ⟨by decide, xOB, hts _ (mlA 2 rfl), hCN.2.2⟩) rfl (by decide) (hts _ (mlA 1 rfl)) (va_Nw.use rfl hE.2.2.2.2.1) hcell hcv hcl ?_
      refine lv_astore_n (lv' := [(3, .ref qex), (0, .ref (ad 1)), (1, .int (ya)), (2, .ref (ad 0))]) hx hb dL_restore_15 rfl hl (by decide) rfl (fun ls hl => ?_)
      refine lv_iconst (v := 2) hx hb dL_restore_16 (by decide) ?_
      exact lh_ret hX hr hlocks hS hP (Or.inr ⟨by rw [hR]; decide, by rw [hR], rfl⟩) (Nat.le_of_ble_eq_true rfl) (Nat.le_of_ble_eq_true rfl) dL_restore_17
  · obtain ⟨hR, hr9, rfl⟩ := hp
    have hP : va_P D vwCl (bw (lwB cI cL cZ cJ ad dl sf sg fo t n q vv nx 0 uf (va_up zz 16 (zz (14 + kk))))) H := by
      rw [lwB, bput_c, cw_s1, bput_c, cw_set (j := 16) (by omega), bput_c, cw_s5, bput_c, cw_s6, bput_c, cw_s7, bput_c, cw_set (j := (14 + kk)) (by omega), va_id (k := (14 + kk)) (by simp only [va_up]; rw [if_neg (by omega)]), bput_c, cw_s3, bput_n] at hP
      exact hP
    have hD : va_D A (bw (lwB cI cL cZ cJ ad dl sf sg fo t n q vv nx 0 uf (va_up zz 16 (zz (14 + kk))))) := by
      rw [lwB, bput_c, cw_s1, bput_c, cw_set (j := 16) (by omega), bput_c, cw_s5, bput_c, cw_s6, bput_c, cw_s7, bput_c, cw_set (j := (14 + kk)) (by omega), va_id (k := (14 + kk)) (by simp only [va_up]; rw [if_neg (by omega)]), bput_c, cw_s3, bput_n] at hD
      exact hD
    refine lv_as hr9 ?_
    refine lv_i2l (v := (nI (ckZ (zz (14 + kk)) 16) : Int32).toInt64) hx hb dL_restore_7 (rfl) ?_
    refine va_last hx hb hK hP hD hS 0 3 rfl rfl (show ¬ ((0 : Int32) < 0 ∨ 1 ≤ (0 : Int32).toNatClampNeg) by decide) dL_restore_8 (fun H locs hP hD hS => ?_)
    have hP : va_P D vwCl (bw (lwB cI cL cZ cJ ad dl sf sg (vp_updL fo 0 (nI (ckZ (zz (14 + kk)) 16) : Int32).toInt64) t n q vv nx 0 uf (va_up zz 16 (zz (14 + kk))))) H := hP
    refine lv_goto (tgt := 18) hx hb dL_restore_9 (by decide) ?_
    refine lv_iconst (v := 0) hx hb dL_restore_18 (by decide) ?_
    exact lh_ret hX hr hlocks hS hP (Or.inl ⟨hR, rfl, rfl⟩) (Nat.le_of_ble_eq_true rfl) (Nat.le_of_ble_eq_true rfl) dL_restore_19
theorem dL_load_0 : decode cL_load 0 = .ok (.aload_n 1, 1) := by decide +kernel
theorem dL_load_1 : decode cL_load 1 = .ok (.iconst 0, 1) := by decide +kernel
theorem dL_load_2 : decode cL_load 2 = .ok (.aload_n 0, 1) := by decide +kernel
theorem dL_load_3 : decode cL_load 3 = .ok (.invokevirtual 17, 3) := by decide +kernel
theorem dL_load_6 : decode cL_load 6 = .ok (.i2l, 1) := by decide +kernel
theorem dL_load_7 : decode cL_load 7 = .ok (.lastore, 1) := by decide +kernel
theorem dL_load_8 : decode cL_load 8 = .ok (.goto 6, 3) := by decide +kernel
theorem dL_load_11 : decode cL_load 11 = .ok (.astore_n 2, 1) := by decide +kernel
theorem dL_load_12 : decode cL_load 12 = .ok (.iconst 1, 1) := by decide +kernel
theorem dL_load_13 : decode cL_load 13 = .ok (.ireturn, 1) := by decide +kernel
theorem dL_load_14 : decode cL_load 14 = .ok (.iconst 0, 1) := by decide +kernel
theorem dL_load_15 : decode cL_load 15 = .ok (.ireturn, 1) := by decide +kernel
set_option maxHeartbeats 4000000 in
set_option maxRecDepth 100000 in
theorem cL_loadH (l : Launch) (hst : l.stackTraces = false) (D : va_G) (cI cL cZ cJ : ClassId) (ad : Nat → Nat) (dl : Nat → Nat → Nat) (sf sg : Nat → Option Nat) (hsf : ∀ j, j < 14 → sf j = some (dl j 0)) (hsg : ∀ j, j < 2 → sg j = some (dl (14 + j) 0)) (fo : Nat → Int64) (t : Nat → Int32) (n q : Nat) (hn : n ≤ 90) (hq : q ≤ 90) (vv : Nat → Int32) (nx ct : Nat) (hnx : nx < 14) (hct : ct ≤ 14) (uf : Nat → Int32) (zz : Nat → LgS) (hz : Inv (zz 16)) (hB : ∀ j, (zz j).1.2 ≤ 8)  : LH l yL_load cL_load 3 [(0, 8, 11, 15)] 7 191 D (lwB cI cL cZ cJ ad dl sf sg fo t n q vv nx ct uf zz) [(cI, .int), (cL, (.object "TornPageLog$Log")), (cZ, .boolean), (cJ, .long)] [.ref (ad 1), .ref (ad 0)] (fun (r9 : Int32) (u9 : List va_W) => ((c6ld t n) = 0 ∧ r9 = 0 ∧ ∃ q9 : Nat, ∃ v9 : Nat → Int32, ∃ zt9 : LgS, (q9 ≤ 90) ∧ (zt9.1.2 ≤ 8) ∧ u9 = lwB cI cL cZ cJ ad dl sf sg (vp_updL fo 0 (nI ((ldR t n (zz 16)).2) : Int32).toInt64) t n q9 v9 nx 0 (upd (upd uf 0 0) 1 0) (va_up (va_up zz 16 ((ldR t n (zz 16)).1)) 18 zt9)) ∨ (¬ (c6ld t n) = 0 ∧ r9 = (c6ld t n) ∧ ∃ q9 : Nat, ∃ v9 : Nat → Int32, (q9 ≤ 90) ∧ u9 = lwB cI cL cZ cJ ad dl sf sg fo t n q9 v9 nx ct uf zz)) := by
  refine lh_of (by decide) rfl (Nat.le_of_ble_eq_true rfl) ?_
  intro p e s m below meth c ls H hX hTb hr hlocks hK hN hE hSW hZ hCN hP hD hS hl
  generalize gp_A (bw (lwB cI cL cZ cJ ad dl sf sg fo t n q vv nx ct uf zz)) = A at hZ hD hS ⊢
  have hx := hX.1
  have hb := hX.2.1
  have hown := hX.2.2.2.1
  have hts := hX.2.2.2.2
  have hl : lv_has ls 3 [(0, .ref (ad 1)), (1, .ref (ad 0))] := hl
  refine lv_aload_n hx hb dL_load_0 rfl (lv_at hl 1 rfl) ?_
  refine lv_iconst (v := 0) hx hb dL_load_1 (by decide) ?_
  refine lv_aload_n hx hb dL_load_2 rfl (lv_at hl 0 rfl) ?_
  refine lh_callV (Bs := lwB cI cL cZ cJ ad dl sf sg fo t n q vv nx ct uf zz) hX (c6_load l hst D cI cZ (ad 1) (ad 2) (ad 4) (ad 6) (dl 16) (dl 17) (dl 18) (ad 3) t n hn q hq vv (zz 16) hz (zz 18) (hB 18) (ad 5) nx ct (ad 7) (ad 8) uf) ⟨by decide, by decide, show (parseMethodDescriptor yX6_load.desc).map (fun d => d.parameters.length) = some 0 by decide +kernel⟩ rfl (mlA 39 rfl) (mlA 40 rfl) (mlA 41 rfl) (mlA 42 rfl) ⟨Nat.le_of_ble_eq_true rfl, Nat.le_of_ble_eq_true rfl⟩ hK hN hE hSW hZ [0, 2] rfl hP hD hS [1, 2, 8 + 16, 8 + 18, 3, 5, 7] (by simp; try omega) (hcc cw_g1 (hcc cw_g2 (hcc (cw_get (j := 16) (by omega)) (hcc (cw_get (j := 18) (by omega)) (hcc cw_g3 (hcc cw_g5 (hcc cw_g7 (hcn)))))))) rfl hl.1 rfl (Nat.le_of_ble_eq_true rfl) dL_load_3 ⟨Nat.le_of_ble_eq_true rfl, Nat.le_of_ble_eq_true rfl⟩ (fun r u h => by obtain ⟨-, -, q9, v9, zt9, hc0, hc1, rfl⟩ := h; rfl) (fun E u h => by obtain ⟨-, q9, v9, hc0, rfl⟩ := h; rfl) (fun E ce qex u H locs hxp hP hD hS hcell hcv hcl => ?_) (fun r u H locs hp hP hD hS => ?_)
  · obtain ⟨hE9, q9, v9, hc0, rfl⟩ := hxp
    have hP : va_P D vwCl (bw (lwB cI cL cZ cJ ad dl sf sg fo t n q9 v9 nx ct uf zz)) H := by
      rw [lwB, bput_c, cw_s1, bput_c, cw_s2, bput_c, cw_set (j := 16) (by omega), va_id (k := 16) (rfl), bput_c, cw_set (j := 18) (by omega), va_id (k := 18) (rfl), bput_c, cw_s3, bput_c, cw_s5, bput_c, cw_s7, bput_n] at hP
      exact hP
    have hD : va_D A (bw (lwB cI cL cZ cJ ad dl sf sg fo t n q9 v9 nx ct uf zz)) := by
      rw [lwB, bput_c, cw_s1, bput_c, cw_s2, bput_c, cw_set (j := 16) (by omega), va_id (k := 16) (rfl), bput_c, cw_set (j := 18) (by omega), va_id (k := 18) (rfl), bput_c, cw_s3, bput_c, cw_s5, bput_c, cw_s7, bput_n] at hD
      exact hD
    obtain ⟨rfl, hR⟩ := hE9
    · skip
      refine vx_catch hown [] ⟨0, 8, 11, 15⟩ [] (hTb.trans rfl) (fun z hz => nomatch hz) rfl (by decide) (hts _ (mlA 1 rfl)) (va_Nw.use rfl hE.2.2.2.2.1) hcell hcv hcl ?_
      refine lv_astore_n (lv' := [(2, .ref qex), (0, .ref (ad 1)), (1, .ref (ad 0))]) hx hb dL_load_11 rfl hl (by decide) rfl (fun ls hl => ?_)
      refine lv_iconst (v := 1) hx hb dL_load_12 (by decide) ?_
      exact lh_ret hX hr hlocks hS hP (Or.inr ⟨by rw [hR]; decide, by rw [hR], _, _, hc0, rfl⟩) (Nat.le_of_ble_eq_true rfl) (Nat.le_of_ble_eq_true rfl) dL_load_13
  · obtain ⟨hR, hr9, q9, v9, zt9, hc0, hc1, rfl⟩ := hp
    have hP : va_P D vwCl (bw (lwB cI cL cZ cJ ad dl sf sg fo t n q9 v9 nx 0 (upd (upd uf 0 0) 1 0) (va_up (va_up zz 16 ((ldR t n (zz 16)).1)) 18 zt9))) H := by
      rw [lwB, bput_c, cw_s1, bput_c, cw_s2, bput_c, cw_set (j := 16) (by omega), bput_c, cw_set (j := 18) (by omega), bput_c, cw_s3, bput_c, cw_s5, bput_c, cw_s7, bput_n] at hP
      exact hP
    have hD : va_D A (bw (lwB cI cL cZ cJ ad dl sf sg fo t n q9 v9 nx 0 (upd (upd uf 0 0) 1 0) (va_up (va_up zz 16 ((ldR t n (zz 16)).1)) 18 zt9))) := by
      rw [lwB, bput_c, cw_s1, bput_c, cw_s2, bput_c, cw_set (j := 16) (by omega), bput_c, cw_set (j := 18) (by omega), bput_c, cw_s3, bput_c, cw_s5, bput_c, cw_s7, bput_n] at hD
      exact hD
    refine lv_as hr9 ?_
    refine lv_i2l (v := (nI ((ldR t n (zz 16)).2) : Int32).toInt64) hx hb dL_load_6 (rfl) ?_
    refine va_last hx hb hK hP hD hS 0 3 rfl rfl (show ¬ ((0 : Int32) < 0 ∨ 1 ≤ (0 : Int32).toNatClampNeg) by decide) dL_load_7 (fun H locs hP hD hS => ?_)
    have hP : va_P D vwCl (bw (lwB cI cL cZ cJ ad dl sf sg (vp_updL fo 0 (nI ((ldR t n (zz 16)).2) : Int32).toInt64) t n q9 v9 nx 0 (upd (upd uf 0 0) 1 0) (va_up (va_up zz 16 ((ldR t n (zz 16)).1)) 18 zt9))) H := hP
    refine lv_goto (tgt := 14) hx hb dL_load_8 (by decide) ?_
    refine lv_iconst (v := 0) hx hb dL_load_14 (by decide) ?_
    exact lh_ret hX hr hlocks hS hP (Or.inl ⟨hR, rfl, _, _, _, hc0, hc1, rfl⟩) (Nat.le_of_ble_eq_true rfl) (Nat.le_of_ble_eq_true rfl) dL_load_15
