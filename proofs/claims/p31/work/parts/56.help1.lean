-- THE LAW'S HELPERS
def pwB (cI cL cZ : ClassId) (ad : Nat → Nat) (dl : Nat → Nat → Nat) (sf sg : Nat → Option Nat) (t : Nat → Int32) (n q : Nat) (vv : Nat → Int32) (nx ct : Nat) (uf : Nat → Int32) (zz : Nat → LgS) : List va_W :=
  cwB [] [(ad 1, .inr (6, [.ref (ad 2), .ref (ad 4), .ref (ad 6), .ref (dl 16 0), .ref (dl 17 0), .ref (dl 18 0)]))] (zS cI (ad 2) (ad 3) t n q vv) [(ad 4, .inr (1, [.ref (ad 5), .int (nI nx), .int (nI ct)]))] [(ad 5, .inl (cL, 14, .inr (.inr (.inr (.inr sf)))))] [(ad 6, .inr (3, [.ref (ad 7), .ref (ad 8)]))] [(ad 7, .inl (cL, 2, .inr (.inr (.inr (.inr sg)))))] [(ad 8, .inl (cZ, 2, .inl uf))] cI dl zz
theorem hcc {Bs Cs : List va_W} {i : Nat} {is : List Nat} {c : va_W} (h : Bs[i]? = some c) (k : is.map (fun i => Bs[i]?) = Cs.map some) : (i :: is).map (fun i => Bs[i]?) = (c :: Cs).map some := by
  rw [List.map_cons, List.map_cons, h, k]
theorem hcn {Bs : List va_W} : ([] : List Nat).map (fun i => Bs[i]?) = ([] : List va_W).map some := rfl
theorem va_id {α : Type} {f : Nat → α} {k : Nat} {v : α} (h : f k = v) : va_up f k v = f := by
  funext j
  by_cases e : j = k
  · subst e; rw [va_up_self, h]
  · exact va_up_ne _ _ e
theorem dL_append_0 : decode cL_append 0 = .ok (.aload_n 0, 1) := by decide +kernel
theorem dL_append_1 : decode cL_append 1 = .ok (.iload_n 1, 1) := by decide +kernel
theorem dL_append_2 : decode cL_append 2 = .ok (.invokevirtual 9, 3) := by decide +kernel
theorem dL_append_5 : decode cL_append 5 = .ok (.i2l, 1) := by decide +kernel
theorem dL_append_6 : decode cL_append 6 = .ok (.lreturn, 1) := by decide +kernel
theorem dL_append_7 : decode cL_append 7 = .ok (.astore_n 2, 1) := by decide +kernel
theorem dL_append_8 : decode cL_append 8 = .ok (.ldc2_w 17, 3) := by decide +kernel
theorem dL_append_11 : decode cL_append 11 = .ok (.lreturn, 1) := by decide +kernel
theorem dL_append_12 : decode cL_append 12 = .ok (.astore_n 2, 1) := by decide +kernel
theorem dL_append_13 : decode cL_append 13 = .ok (.ldc2_w 21, 3) := by decide +kernel
theorem dL_append_16 : decode cL_append 16 = .ok (.lreturn, 1) := by decide +kernel
set_option maxHeartbeats 4000000 in
set_option maxRecDepth 100000 in
theorem cL_appendH (l : Launch) (hst : l.stackTraces = false) (D : va_G) (cI cL cZ : ClassId) (ad : Nat → Nat) (dl : Nat → Nat → Nat) (sf sg : Nat → Option Nat) (hsf : ∀ j, j < 14 → sf j = some (dl j 0)) (hsg : ∀ j, j < 2 → sg j = some (dl (14 + j) 0)) (t : Nat → Int32) (n q : Nat) (hn : n ≤ 90) (hq : q ≤ 90) (vv : Nat → Int32) (nx ct : Nat) (hnx : nx < 14) (hct : ct ≤ 14) (uf : Nat → Int32) (zz : Nat → LgS) (hz : Inv (zz 16)) (hB : ∀ j, (zz j).1.2 ≤ 8) (ya : Int32) : LH l yL_append cL_append 3 [(0, 6, 7, 15), (0, 6, 12, 19)] 7 111 D (pwB cI cL cZ ad dl sf sg t n q vv nx ct uf zz) [(cI, .int), (cL, (.object "TornPageLog$Log")), (cZ, .boolean)] [.ref (ad 1), .int (ya)] (fun (r9 : Int64) (u9 : List va_W) => ((c6ap n ya) = 0 ∧ r9 = (nI (n + 1) : Int32).toInt64 ∧ u9 = pwB cI cL cZ ad dl sf sg (upd t n ya) (n + 1) q vv nx ct uf zz) ∨ (¬ (c6ap n ya) = 0 ∧ r9 = (if (c6ap n ya) = 1 then (-9000000000000000002) else (-9000000000000000003)) ∧ u9 = pwB cI cL cZ ad dl sf sg t n q vv nx ct uf zz)) := by
  refine lh_of (by decide) rfl (Nat.le_of_ble_eq_true rfl) ?_
  intro p e s m below meth c ls H hX hTb hr hlocks hK hN hE hSW hZ hCN hP hD hS hl
  generalize gp_A (bw (pwB cI cL cZ ad dl sf sg t n q vv nx ct uf zz)) = A at hZ hD hS ⊢
  have hx := hX.1
  have hb := hX.2.1
  have hown := hX.2.2.2.1
  have hts := hX.2.2.2.2
  have hl : lv_has ls 3 [(0, .ref (ad 1)), (1, .int (ya))] := hl
  refine lv_aload_n hx hb dL_append_0 rfl (lv_at hl 0 rfl) ?_
  refine lv_iload_n hx hb dL_append_1 rfl (lv_at hl 1 rfl) ?_
  refine lh_callV (Bs := pwB cI cL cZ ad dl sf sg t n q vv nx ct uf zz) hX (c6_append l hst D cI (ad 1) (ad 2) (ad 4) (ad 6) (dl 16) (dl 17) (dl 18) (ad 3) t n hn q hq vv ya) ⟨by decide, by decide, show (parseMethodDescriptor yX6_append.desc).map (fun d => d.parameters.length) = some 1 by decide +kernel⟩ rfl (mlA 6 rfl) (mlA 7 rfl) (mlA 8 rfl) (mlA 9 rfl) ⟨Nat.le_of_ble_eq_true rfl, Nat.le_of_ble_eq_true rfl⟩ hK hN hE hSW hZ [0] rfl hP hD hS [1, 2] (by simp; try omega) (hcc cw_g1 (hcc cw_g2 (hcn))) rfl hl.1 rfl (Nat.le_of_ble_eq_true rfl) dL_append_2 ⟨Nat.le_of_ble_eq_true rfl, Nat.le_of_ble_eq_true rfl⟩ (fun r u h => by obtain ⟨-, -, rfl⟩ := h; rfl) (fun E u h => by obtain ⟨-, rfl⟩ := h; rfl) (fun E ce qex u H locs hxp hP hD hS hcell hcv hcl => ?_) (fun r u H locs hp hP hD hS => ?_)
  · obtain ⟨hE9, rfl⟩ := hxp
    have hP : va_P D vwCl (bw (pwB cI cL cZ ad dl sf sg t n q vv nx ct uf zz)) H := by
      rw [pwB, bput_c, cw_s1, bput_c, cw_s2, bput_n] at hP
      exact hP
    have hD : va_D A (bw (pwB cI cL cZ ad dl sf sg t n q vv nx ct uf zz)) := by
      rw [pwB, bput_c, cw_s1, bput_c, cw_s2, bput_n] at hD
      exact hD
    rcases hE9 with ⟨rfl, hR⟩ | ⟨rfl, hR⟩
    · skip
      refine vx_catch hown [] ⟨0, 6, 7, 15⟩ [⟨0, 6, 12, 19⟩] (hTb.trans rfl) (fun z hz => nomatch hz) rfl (by decide) (hts _ (mlA 2 rfl)) (va_Nw.use rfl hE.2.2.2.1) hcell hcv hcl ?_
      refine lv_astore_n (lv' := [(2, .ref qex), (0, .ref (ad 1)), (1, .int (ya))]) hx hb dL_append_7 rfl hl (by decide) rfl (fun ls hl => ?_)
      refine lv_ldc2 (v := (-9000000000000000002)) hx hb hown (hts _ (mlA 4 rfl)) dL_append_8 ?_
      exact lh_ret hX hr hlocks hS hP (Or.inr ⟨by rw [hR]; decide, by rw [hR]; rfl, rfl⟩) (Nat.le_of_ble_eq_true rfl) (Nat.le_of_ble_eq_true rfl) dL_append_11
    · skip
      refine vx_catch hown [⟨0, 6, 7, 15⟩] ⟨0, 6, 12, 19⟩ [] (hTb.trans rfl) (fun z hz => by rw [List.mem_singleton.mp hz]; exact Or.inr ⟨by decide, xIA, hts _ (mlA 2 rfl), hCN.1⟩) rfl (by decide) (hts _ (mlA 3 rfl)) (va_Nw.use rfl hE.2.2.2.2.1) hcell hcv hcl ?_
      refine lv_astore_n (lv' := [(2, .ref qex), (0, .ref (ad 1)), (1, .int (ya))]) hx hb dL_append_12 rfl hl (by decide) rfl (fun ls hl => ?_)
      refine lv_ldc2 (v := (-9000000000000000003)) hx hb hown (hts _ (mlA 5 rfl)) dL_append_13 ?_
      exact lh_ret hX hr hlocks hS hP (Or.inr ⟨by rw [hR]; decide, by rw [hR]; rfl, rfl⟩) (Nat.le_of_ble_eq_true rfl) (Nat.le_of_ble_eq_true rfl) dL_append_16
  · obtain ⟨hR, hr9, rfl⟩ := hp
    have hP : va_P D vwCl (bw (pwB cI cL cZ ad dl sf sg (upd t n ya) (n + 1) q vv nx ct uf zz)) H := by
      rw [pwB, bput_c, cw_s1, bput_c, cw_s2, bput_n] at hP
      exact hP
    have hD : va_D A (bw (pwB cI cL cZ ad dl sf sg (upd t n ya) (n + 1) q vv nx ct uf zz)) := by
      rw [pwB, bput_c, cw_s1, bput_c, cw_s2, bput_n] at hD
      exact hD
    refine lv_as hr9 ?_
    refine lv_i2l (v := (nI (n + 1) : Int32).toInt64) hx hb dL_append_5 (rfl) ?_
    exact lh_ret hX hr hlocks hS hP (Or.inl ⟨hR, rfl, rfl⟩) (Nat.le_of_ble_eq_true rfl) (Nat.le_of_ble_eq_true rfl) dL_append_6
theorem dL_about_0 : decode cL_about 0 = .ok (.aload_n 0, 1) := by decide +kernel
theorem dL_about_1 : decode cL_about 1 = .ok (.iload_n 1, 1) := by decide +kernel
theorem dL_about_2 : decode cL_about 2 = .ok (.invokevirtual 27, 3) := by decide +kernel
theorem dL_about_5 : decode cL_about 5 = .ok (.i2l, 1) := by decide +kernel
theorem dL_about_6 : decode cL_about 6 = .ok (.lreturn, 1) := by decide +kernel
theorem dL_about_7 : decode cL_about 7 = .ok (.astore_n 2, 1) := by decide +kernel
theorem dL_about_8 : decode cL_about 8 = .ok (.ldc2_w 17, 3) := by decide +kernel
theorem dL_about_11 : decode cL_about 11 = .ok (.lreturn, 1) := by decide +kernel
set_option maxHeartbeats 4000000 in
set_option maxRecDepth 100000 in
theorem cL_aboutH (l : Launch) (hst : l.stackTraces = false) (D : va_G) (cI cL cZ : ClassId) (ad : Nat → Nat) (dl : Nat → Nat → Nat) (sf sg : Nat → Option Nat) (hsf : ∀ j, j < 14 → sf j = some (dl j 0)) (hsg : ∀ j, j < 2 → sg j = some (dl (14 + j) 0)) (t : Nat → Int32) (n q : Nat) (hn : n ≤ 90) (hq : q ≤ 90) (vv : Nat → Int32) (nx ct : Nat) (hnx : nx < 14) (hct : ct ≤ 14) (uf : Nat → Int32) (zz : Nat → LgS) (hz : Inv (zz 16)) (hB : ∀ j, (zz j).1.2 ≤ 8) (ya : Int32) : LH l yL_about cL_about 3 [(0, 6, 7, 15)] 7 111 D (pwB cI cL cZ ad dl sf sg t n q vv nx ct uf zz) [(cI, .int), (cL, (.object "TornPageLog$Log")), (cZ, .boolean)] [.ref (ad 1), .int (ya)] (fun (r9 : Int64) (u9 : List va_W) => ((c6r ya 13) = 0 ∧ r9 = (abZ (zz 16) ya.toNatClampNeg : Int32).toInt64 ∧ u9 = pwB cI cL cZ ad dl sf sg t n q vv nx ct uf zz) ∨ (¬ (c6r ya 13) = 0 ∧ r9 = (-9000000000000000002) ∧ u9 = pwB cI cL cZ ad dl sf sg t n q vv nx ct uf zz)) := by
  refine lh_of (by decide) rfl (Nat.le_of_ble_eq_true rfl) ?_
  intro p e s m below meth c ls H hX hTb hr hlocks hK hN hE hSW hZ hCN hP hD hS hl
  generalize gp_A (bw (pwB cI cL cZ ad dl sf sg t n q vv nx ct uf zz)) = A at hZ hD hS ⊢
  have hx := hX.1
  have hb := hX.2.1
  have hown := hX.2.2.2.1
  have hts := hX.2.2.2.2
  have hl : lv_has ls 3 [(0, .ref (ad 1)), (1, .int (ya))] := hl
  refine lv_aload_n hx hb dL_about_0 rfl (lv_at hl 0 rfl) ?_
  refine lv_iload_n hx hb dL_about_1 rfl (lv_at hl 1 rfl) ?_
  refine lh_callV (Bs := pwB cI cL cZ ad dl sf sg t n q vv nx ct uf zz) hX (c6_about l hst D cI (ad 1) (ad 2) (ad 4) (ad 6) (dl 16) (dl 17) (dl 18) (zz 16) hz ya) ⟨by decide, by decide, show (parseMethodDescriptor yX6_about.desc).map (fun d => d.parameters.length) = some 1 by decide +kernel⟩ rfl (mlA 14 rfl) (mlA 15 rfl) (mlA 16 rfl) (mlA 17 rfl) ⟨Nat.le_of_ble_eq_true rfl, Nat.le_of_ble_eq_true rfl⟩ hK hN hE hSW hZ [0] rfl hP hD hS [1, 8 + 16] (by simp; try omega) (hcc cw_g1 (hcc (cw_get (j := 16) (by omega)) (hcn))) rfl hl.1 rfl (Nat.le_of_ble_eq_true rfl) dL_about_2 ⟨Nat.le_of_ble_eq_true rfl, Nat.le_of_ble_eq_true rfl⟩ (fun r u h => by obtain ⟨-, -, rfl⟩ := h; rfl) (fun E u h => by obtain ⟨-, rfl⟩ := h; rfl) (fun E ce qex u H locs hxp hP hD hS hcell hcv hcl => ?_) (fun r u H locs hp hP hD hS => ?_)
  · obtain ⟨hE9, rfl⟩ := hxp
    have hP : va_P D vwCl (bw (pwB cI cL cZ ad dl sf sg t n q vv nx ct uf zz)) H := by
      rw [pwB, bput_c, cw_s1, bput_c, cw_set (j := 16) (by omega), va_id (k := 16) (rfl), bput_n] at hP
      exact hP
    have hD : va_D A (bw (pwB cI cL cZ ad dl sf sg t n q vv nx ct uf zz)) := by
      rw [pwB, bput_c, cw_s1, bput_c, cw_set (j := 16) (by omega), va_id (k := 16) (rfl), bput_n] at hD
      exact hD
    obtain ⟨rfl, hR⟩ := hE9
    · skip
      refine vx_catch hown [] ⟨0, 6, 7, 15⟩ [] (hTb.trans rfl) (fun z hz => nomatch hz) rfl (by decide) (hts _ (mlA 2 rfl)) (va_Nw.use rfl hE.2.2.2.1) hcell hcv hcl ?_
      refine lv_astore_n (lv' := [(2, .ref qex), (0, .ref (ad 1)), (1, .int (ya))]) hx hb dL_about_7 rfl hl (by decide) rfl (fun ls hl => ?_)
      refine lv_ldc2 (v := (-9000000000000000002)) hx hb hown (hts _ (mlA 4 rfl)) dL_about_8 ?_
      exact lh_ret hX hr hlocks hS hP (Or.inr ⟨by rw [hR]; decide, rfl, rfl⟩) (Nat.le_of_ble_eq_true rfl) (Nat.le_of_ble_eq_true rfl) dL_about_11
  · obtain ⟨hR, hr9, rfl⟩ := hp
    have hP : va_P D vwCl (bw (pwB cI cL cZ ad dl sf sg t n q vv nx ct uf zz)) H := by
      rw [pwB, bput_c, cw_s1, bput_c, cw_set (j := 16) (by omega), va_id (k := 16) (rfl), bput_n] at hP
      exact hP
    have hD : va_D A (bw (pwB cI cL cZ ad dl sf sg t n q vv nx ct uf zz)) := by
      rw [pwB, bput_c, cw_s1, bput_c, cw_set (j := 16) (by omega), va_id (k := 16) (rfl), bput_n] at hD
      exact hD
    refine lv_as hr9 ?_
    refine lv_i2l (v := (abZ (zz 16) ya.toNatClampNeg : Int32).toInt64) hx hb dL_about_5 (rfl) ?_
    exact lh_ret hX hr hlocks hS hP (Or.inl ⟨hR, rfl, rfl⟩) (Nat.le_of_ble_eq_true rfl) (Nat.le_of_ble_eq_true rfl) dL_about_6
theorem dL_page_0 : decode cL_page 0 = .ok (.aload_n 0, 1) := by decide +kernel
theorem dL_page_1 : decode cL_page 1 = .ok (.iload_n 1, 1) := by decide +kernel
theorem dL_page_2 : decode cL_page 2 = .ok (.iload_n 2, 1) := by decide +kernel
theorem dL_page_3 : decode cL_page 3 = .ok (.invokevirtual 30, 3) := by decide +kernel
theorem dL_page_6 : decode cL_page 6 = .ok (.i2l, 1) := by decide +kernel
theorem dL_page_7 : decode cL_page 7 = .ok (.lreturn, 1) := by decide +kernel
theorem dL_page_8 : decode cL_page 8 = .ok (.astore_n 3, 1) := by decide +kernel
theorem dL_page_9 : decode cL_page 9 = .ok (.ldc2_w 36, 3) := by decide +kernel
theorem dL_page_12 : decode cL_page 12 = .ok (.lreturn, 1) := by decide +kernel
theorem dL_page_13 : decode cL_page 13 = .ok (.astore_n 3, 1) := by decide +kernel
theorem dL_page_14 : decode cL_page 14 = .ok (.ldc2_w 17, 3) := by decide +kernel
theorem dL_page_17 : decode cL_page 17 = .ok (.lreturn, 1) := by decide +kernel
set_option maxHeartbeats 4000000 in
set_option maxRecDepth 100000 in
theorem cL_pageH (l : Launch) (hst : l.stackTraces = false) (D : va_G) (cI cL cZ : ClassId) (ad : Nat → Nat) (dl : Nat → Nat → Nat) (sf sg : Nat → Option Nat) (hsf : ∀ j, j < 14 → sf j = some (dl j 0)) (hsg : ∀ j, j < 2 → sg j = some (dl (14 + j) 0)) (t : Nat → Int32) (n q : Nat) (hn : n ≤ 90) (hq : q ≤ 90) (vv : Nat → Int32) (nx ct : Nat) (hnx : nx < 14) (hct : ct ≤ 14) (uf : Nat → Int32) (zz : Nat → LgS) (hz : Inv (zz 16)) (hB : ∀ j, (zz j).1.2 ≤ 8) (ya : Int32) (yb : Int32) : LH l yL_page cL_page 4 [(0, 7, 8, 34), (0, 7, 13, 15)] 7 112 D (pwB cI cL cZ ad dl sf sg t n q vv nx ct uf zz) [(cI, .int), (cL, (.object "TornPageLog$Log")), (cZ, .boolean)] [.ref (ad 1), .int (ya), .int (yb)] (fun (r9 : Int64) (u9 : List va_W) => ((c6pg (zz 16) ya yb) = 0 ∧ r9 = (tpZ (zz 16) ya yb : Int32).toInt64 ∧ u9 = pwB cI cL cZ ad dl sf sg t n q vv nx ct uf zz) ∨ (¬ (c6pg (zz 16) ya yb) = 0 ∧ r9 = (if (c6pg (zz 16) ya yb) = 1 then (-9000000000000000001) else (-9000000000000000002)) ∧ u9 = pwB cI cL cZ ad dl sf sg t n q vv nx ct uf zz)) := by
  refine lh_of (by decide) rfl (Nat.le_of_ble_eq_true rfl) ?_
  intro p e s m below meth c ls H hX hTb hr hlocks hK hN hE hSW hZ hCN hP hD hS hl
  generalize gp_A (bw (pwB cI cL cZ ad dl sf sg t n q vv nx ct uf zz)) = A at hZ hD hS ⊢
  have hx := hX.1
  have hb := hX.2.1
  have hown := hX.2.2.2.1
  have hts := hX.2.2.2.2
  have hl : lv_has ls 4 [(0, .ref (ad 1)), (1, .int (ya)), (2, .int (yb))] := hl
  refine lv_aload_n hx hb dL_page_0 rfl (lv_at hl 0 rfl) ?_
  refine lv_iload_n hx hb dL_page_1 rfl (lv_at hl 1 rfl) ?_
  refine lv_iload_n hx hb dL_page_2 rfl (lv_at hl 2 rfl) ?_
  refine lh_callV (Bs := pwB cI cL cZ ad dl sf sg t n q vv nx ct uf zz) hX (c6_page l hst D cI (ad 1) (ad 2) (ad 4) (ad 6) (dl 16) (dl 17) (dl 18) (zz 16) hz ya yb) ⟨by decide, by decide, show (parseMethodDescriptor yX6_page.desc).map (fun d => d.parameters.length) = some 2 by decide +kernel⟩ rfl (mlA 20 rfl) (mlA 21 rfl) (mlA 22 rfl) (mlA 23 rfl) ⟨Nat.le_of_ble_eq_true rfl, Nat.le_of_ble_eq_true rfl⟩ hK hN hE hSW hZ [0] rfl hP hD hS [1, 8 + 16] (by simp; try omega) (hcc cw_g1 (hcc (cw_get (j := 16) (by omega)) (hcn))) rfl hl.1 rfl (Nat.le_of_ble_eq_true rfl) dL_page_3 ⟨Nat.le_of_ble_eq_true rfl, Nat.le_of_ble_eq_true rfl⟩ (fun r u h => by obtain ⟨-, -, rfl⟩ := h; rfl) (fun E u h => by obtain ⟨-, rfl⟩ := h; rfl) (fun E ce qex u H locs hxp hP hD hS hcell hcv hcl => ?_) (fun r u H locs hp hP hD hS => ?_)
  · obtain ⟨hE9, rfl⟩ := hxp
    have hP : va_P D vwCl (bw (pwB cI cL cZ ad dl sf sg t n q vv nx ct uf zz)) H := by
      rw [pwB, bput_c, cw_s1, bput_c, cw_set (j := 16) (by omega), va_id (k := 16) (rfl), bput_n] at hP
      exact hP
    have hD : va_D A (bw (pwB cI cL cZ ad dl sf sg t n q vv nx ct uf zz)) := by
      rw [pwB, bput_c, cw_s1, bput_c, cw_set (j := 16) (by omega), va_id (k := 16) (rfl), bput_n] at hD
      exact hD
    rcases hE9 with ⟨rfl, hR⟩ | ⟨rfl, hR⟩
    · skip
      refine vx_catch hown [] ⟨0, 7, 8, 34⟩ [⟨0, 7, 13, 15⟩] (hTb.trans rfl) (fun z hz => nomatch hz) rfl (by decide) (hts _ (mlA 18 rfl)) (va_Nw.use rfl hE.2.2.2.2.2) hcell hcv hcl ?_
      refine lv_astore_n (lv' := [(3, .ref qex), (0, .ref (ad 1)), (1, .int (ya)), (2, .int (yb))]) hx hb dL_page_8 rfl hl (by decide) rfl (fun ls hl => ?_)
      refine lv_ldc2 (v := (-9000000000000000001)) hx hb hown (hts _ (mlA 19 rfl)) dL_page_9 ?_
      exact lh_ret hX hr hlocks hS hP (Or.inr ⟨by rw [hR]; decide, by rw [hR]; rfl, rfl⟩) (Nat.le_of_ble_eq_true rfl) (Nat.le_of_ble_eq_true rfl) dL_page_12
    · skip
      refine vx_catch hown [⟨0, 7, 8, 34⟩] ⟨0, 7, 13, 15⟩ [] (hTb.trans rfl) (fun z hz => by rw [List.mem_singleton.mp hz]; exact Or.inr ⟨by decide, xOB, hts _ (mlA 18 rfl), hCN.2.1⟩) rfl (by decide) (hts _ (mlA 2 rfl)) (va_Nw.use rfl hE.2.2.2.1) hcell hcv hcl ?_
      refine lv_astore_n (lv' := [(3, .ref qex), (0, .ref (ad 1)), (1, .int (ya)), (2, .int (yb))]) hx hb dL_page_13 rfl hl (by decide) rfl (fun ls hl => ?_)
      refine lv_ldc2 (v := (-9000000000000000002)) hx hb hown (hts _ (mlA 4 rfl)) dL_page_14 ?_
      exact lh_ret hX hr hlocks hS hP (Or.inr ⟨by rw [hR]; decide, by rw [hR]; rfl, rfl⟩) (Nat.le_of_ble_eq_true rfl) (Nat.le_of_ble_eq_true rfl) dL_page_17
  · obtain ⟨hR, hr9, rfl⟩ := hp
    have hP : va_P D vwCl (bw (pwB cI cL cZ ad dl sf sg t n q vv nx ct uf zz)) H := by
      rw [pwB, bput_c, cw_s1, bput_c, cw_set (j := 16) (by omega), va_id (k := 16) (rfl), bput_n] at hP
      exact hP
    have hD : va_D A (bw (pwB cI cL cZ ad dl sf sg t n q vv nx ct uf zz)) := by
      rw [pwB, bput_c, cw_s1, bput_c, cw_set (j := 16) (by omega), va_id (k := 16) (rfl), bput_n] at hD
      exact hD
    refine lv_as hr9 ?_
    refine lv_i2l (v := (tpZ (zz 16) ya yb : Int32).toInt64) hx hb dL_page_6 (rfl) ?_
    exact lh_ret hX hr hlocks hS hP (Or.inl ⟨hR, rfl, rfl⟩) (Nat.le_of_ble_eq_true rfl) (Nat.le_of_ble_eq_true rfl) dL_page_7
theorem dL_block_0 : decode cL_block 0 = .ok (.aload_n 0, 1) := by decide +kernel
theorem dL_block_1 : decode cL_block 1 = .ok (.iload_n 1, 1) := by decide +kernel
theorem dL_block_2 : decode cL_block 2 = .ok (.iload_n 2, 1) := by decide +kernel
theorem dL_block_3 : decode cL_block 3 = .ok (.invokevirtual 38, 3) := by decide +kernel
theorem dL_block_6 : decode cL_block 6 = .ok (.i2l, 1) := by decide +kernel
theorem dL_block_7 : decode cL_block 7 = .ok (.lreturn, 1) := by decide +kernel
theorem dL_block_8 : decode cL_block 8 = .ok (.astore_n 3, 1) := by decide +kernel
theorem dL_block_9 : decode cL_block 9 = .ok (.ldc2_w 36, 3) := by decide +kernel
theorem dL_block_12 : decode cL_block 12 = .ok (.lreturn, 1) := by decide +kernel
theorem dL_block_13 : decode cL_block 13 = .ok (.astore_n 3, 1) := by decide +kernel
theorem dL_block_14 : decode cL_block 14 = .ok (.ldc2_w 17, 3) := by decide +kernel
theorem dL_block_17 : decode cL_block 17 = .ok (.lreturn, 1) := by decide +kernel
set_option maxHeartbeats 4000000 in
set_option maxRecDepth 100000 in
theorem cL_blockH (l : Launch) (hst : l.stackTraces = false) (D : va_G) (cI cL cZ : ClassId) (ad : Nat → Nat) (dl : Nat → Nat → Nat) (sf sg : Nat → Option Nat) (hsf : ∀ j, j < 14 → sf j = some (dl j 0)) (hsg : ∀ j, j < 2 → sg j = some (dl (14 + j) 0)) (t : Nat → Int32) (n q : Nat) (hn : n ≤ 90) (hq : q ≤ 90) (vv : Nat → Int32) (nx ct : Nat) (hnx : nx < 14) (hct : ct ≤ 14) (uf : Nat → Int32) (zz : Nat → LgS) (hz : Inv (zz 16)) (hB : ∀ j, (zz j).1.2 ≤ 8) (ya : Int32) (yb : Int32) : LH l yL_block cL_block 4 [(0, 7, 8, 34), (0, 7, 13, 15)] 7 112 D (pwB cI cL cZ ad dl sf sg t n q vv nx ct uf zz) [(cI, .int), (cL, (.object "TornPageLog$Log")), (cZ, .boolean)] [.ref (ad 1), .int (ya), .int (yb)] (fun (r9 : Int64) (u9 : List va_W) => ((c6bl (zz 16) ya yb) = 0 ∧ r9 = (blZ (zz 16) ya yb.toNatClampNeg : Int32).toInt64 ∧ u9 = pwB cI cL cZ ad dl sf sg t n q vv nx ct uf zz) ∨ (¬ (c6bl (zz 16) ya yb) = 0 ∧ r9 = (if (c6bl (zz 16) ya yb) = 1 then (-9000000000000000001) else (-9000000000000000002)) ∧ u9 = pwB cI cL cZ ad dl sf sg t n q vv nx ct uf zz)) := by
  refine lh_of (by decide) rfl (Nat.le_of_ble_eq_true rfl) ?_
  intro p e s m below meth c ls H hX hTb hr hlocks hK hN hE hSW hZ hCN hP hD hS hl
  generalize gp_A (bw (pwB cI cL cZ ad dl sf sg t n q vv nx ct uf zz)) = A at hZ hD hS ⊢
  have hx := hX.1
  have hb := hX.2.1
  have hown := hX.2.2.2.1
  have hts := hX.2.2.2.2
  have hl : lv_has ls 4 [(0, .ref (ad 1)), (1, .int (ya)), (2, .int (yb))] := hl
  refine lv_aload_n hx hb dL_block_0 rfl (lv_at hl 0 rfl) ?_
  refine lv_iload_n hx hb dL_block_1 rfl (lv_at hl 1 rfl) ?_
  refine lv_iload_n hx hb dL_block_2 rfl (lv_at hl 2 rfl) ?_
  refine lh_callV (Bs := pwB cI cL cZ ad dl sf sg t n q vv nx ct uf zz) hX (c6_block l hst D cI (ad 1) (ad 2) (ad 4) (ad 6) (dl 16) (dl 17) (dl 18) (zz 16) hz ya yb) ⟨by decide, by decide, show (parseMethodDescriptor yX6_block.desc).map (fun d => d.parameters.length) = some 2 by decide +kernel⟩ rfl (mlA 24 rfl) (mlA 25 rfl) (mlA 26 rfl) (mlA 27 rfl) ⟨Nat.le_of_ble_eq_true rfl, Nat.le_of_ble_eq_true rfl⟩ hK hN hE hSW hZ [0] rfl hP hD hS [1, 8 + 16] (by simp; try omega) (hcc cw_g1 (hcc (cw_get (j := 16) (by omega)) (hcn))) rfl hl.1 rfl (Nat.le_of_ble_eq_true rfl) dL_block_3 ⟨Nat.le_of_ble_eq_true rfl, Nat.le_of_ble_eq_true rfl⟩ (fun r u h => by obtain ⟨-, -, rfl⟩ := h; rfl) (fun E u h => by obtain ⟨-, rfl⟩ := h; rfl) (fun E ce qex u H locs hxp hP hD hS hcell hcv hcl => ?_) (fun r u H locs hp hP hD hS => ?_)
  · obtain ⟨hE9, rfl⟩ := hxp
    have hP : va_P D vwCl (bw (pwB cI cL cZ ad dl sf sg t n q vv nx ct uf zz)) H := by
      rw [pwB, bput_c, cw_s1, bput_c, cw_set (j := 16) (by omega), va_id (k := 16) (rfl), bput_n] at hP
      exact hP
    have hD : va_D A (bw (pwB cI cL cZ ad dl sf sg t n q vv nx ct uf zz)) := by
      rw [pwB, bput_c, cw_s1, bput_c, cw_set (j := 16) (by omega), va_id (k := 16) (rfl), bput_n] at hD
      exact hD
    rcases hE9 with ⟨rfl, hR⟩ | ⟨rfl, hR⟩
    · skip
      refine vx_catch hown [] ⟨0, 7, 8, 34⟩ [⟨0, 7, 13, 15⟩] (hTb.trans rfl) (fun z hz => nomatch hz) rfl (by decide) (hts _ (mlA 18 rfl)) (va_Nw.use rfl hE.2.2.2.2.2) hcell hcv hcl ?_
      refine lv_astore_n (lv' := [(3, .ref qex), (0, .ref (ad 1)), (1, .int (ya)), (2, .int (yb))]) hx hb dL_block_8 rfl hl (by decide) rfl (fun ls hl => ?_)
      refine lv_ldc2 (v := (-9000000000000000001)) hx hb hown (hts _ (mlA 19 rfl)) dL_block_9 ?_
      exact lh_ret hX hr hlocks hS hP (Or.inr ⟨by rw [hR]; decide, by rw [hR]; rfl, rfl⟩) (Nat.le_of_ble_eq_true rfl) (Nat.le_of_ble_eq_true rfl) dL_block_12
    · skip
      refine vx_catch hown [⟨0, 7, 8, 34⟩] ⟨0, 7, 13, 15⟩ [] (hTb.trans rfl) (fun z hz => by rw [List.mem_singleton.mp hz]; exact Or.inr ⟨by decide, xOB, hts _ (mlA 18 rfl), hCN.2.1⟩) rfl (by decide) (hts _ (mlA 2 rfl)) (va_Nw.use rfl hE.2.2.2.1) hcell hcv hcl ?_
      refine lv_astore_n (lv' := [(3, .ref qex), (0, .ref (ad 1)), (1, .int (ya)), (2, .int (yb))]) hx hb dL_block_13 rfl hl (by decide) rfl (fun ls hl => ?_)
      refine lv_ldc2 (v := (-9000000000000000002)) hx hb hown (hts _ (mlA 4 rfl)) dL_block_14 ?_
      exact lh_ret hX hr hlocks hS hP (Or.inr ⟨by rw [hR]; decide, by rw [hR]; rfl, rfl⟩) (Nat.le_of_ble_eq_true rfl) (Nat.le_of_ble_eq_true rfl) dL_block_17
  · obtain ⟨hR, hr9, rfl⟩ := hp
    have hP : va_P D vwCl (bw (pwB cI cL cZ ad dl sf sg t n q vv nx ct uf zz)) H := by
      rw [pwB, bput_c, cw_s1, bput_c, cw_set (j := 16) (by omega), va_id (k := 16) (rfl), bput_n] at hP
      exact hP
    have hD : va_D A (bw (pwB cI cL cZ ad dl sf sg t n q vv nx ct uf zz)) := by
      rw [pwB, bput_c, cw_s1, bput_c, cw_set (j := 16) (by omega), va_id (k := 16) (rfl), bput_n] at hD
      exact hD
    refine lv_as hr9 ?_
    refine lv_i2l (v := (blZ (zz 16) ya yb.toNatClampNeg : Int32).toInt64) hx hb dL_block_6 (rfl) ?_
    exact lh_ret hX hr hlocks hS hP (Or.inl ⟨hR, rfl, rfl⟩) (Nat.le_of_ble_eq_true rfl) (Nat.le_of_ble_eq_true rfl) dL_block_7
theorem dL_get_0 : decode cL_get 0 = .ok (.aload_n 0, 1) := by decide +kernel
theorem dL_get_1 : decode cL_get 1 = .ok (.iload_n 1, 1) := by decide +kernel
theorem dL_get_2 : decode cL_get 2 = .ok (.invokevirtual 41, 3) := by decide +kernel
theorem dL_get_5 : decode cL_get 5 = .ok (.i2l, 1) := by decide +kernel
theorem dL_get_6 : decode cL_get 6 = .ok (.lreturn, 1) := by decide +kernel
theorem dL_get_7 : decode cL_get 7 = .ok (.astore_n 2, 1) := by decide +kernel
theorem dL_get_8 : decode cL_get 8 = .ok (.ldc2_w 17, 3) := by decide +kernel
theorem dL_get_11 : decode cL_get 11 = .ok (.lreturn, 1) := by decide +kernel
theorem dL_get_12 : decode cL_get 12 = .ok (.astore_n 2, 1) := by decide +kernel
theorem dL_get_13 : decode cL_get 13 = .ok (.ldc2_w 21, 3) := by decide +kernel
theorem dL_get_16 : decode cL_get 16 = .ok (.lreturn, 1) := by decide +kernel
set_option maxHeartbeats 4000000 in
set_option maxRecDepth 100000 in
theorem cL_getH (l : Launch) (hst : l.stackTraces = false) (D : va_G) (cI cL cZ : ClassId) (ad : Nat → Nat) (dl : Nat → Nat → Nat) (sf sg : Nat → Option Nat) (hsf : ∀ j, j < 14 → sf j = some (dl j 0)) (hsg : ∀ j, j < 2 → sg j = some (dl (14 + j) 0)) (t : Nat → Int32) (n q : Nat) (hn : n ≤ 90) (hq : q ≤ 90) (vv : Nat → Int32) (nx ct : Nat) (hnx : nx < 14) (hct : ct ≤ 14) (uf : Nat → Int32) (zz : Nat → LgS) (hz : Inv (zz 16)) (hB : ∀ j, (zz j).1.2 ≤ 8) (ya : Int32) : LH l yL_get cL_get 3 [(0, 6, 7, 15), (0, 6, 12, 19)] 7 111 D (pwB cI cL cZ ad dl sf sg t n q vv nx ct uf zz) [(cI, .int), (cL, (.object "TornPageLog$Log")), (cZ, .boolean)] [.ref (ad 1), .int (ya)] (fun (r9 : Int64) (u9 : List va_W) => ((c6get (zz 16) ya) = 0 ∧ r9 = (vaZ (zz 16) ya : Int32).toInt64 ∧ u9 = pwB cI cL cZ ad dl sf sg t n q vv nx ct uf zz) ∨ (¬ (c6get (zz 16) ya) = 0 ∧ r9 = (if (c6get (zz 16) ya) = 1 then (-9000000000000000002) else (-9000000000000000003)) ∧ u9 = pwB cI cL cZ ad dl sf sg t n q vv nx ct uf zz)) := by
  refine lh_of (by decide) rfl (Nat.le_of_ble_eq_true rfl) ?_
  intro p e s m below meth c ls H hX hTb hr hlocks hK hN hE hSW hZ hCN hP hD hS hl
  generalize gp_A (bw (pwB cI cL cZ ad dl sf sg t n q vv nx ct uf zz)) = A at hZ hD hS ⊢
  have hx := hX.1
  have hb := hX.2.1
  have hown := hX.2.2.2.1
  have hts := hX.2.2.2.2
  have hl : lv_has ls 3 [(0, .ref (ad 1)), (1, .int (ya))] := hl
  refine lv_aload_n hx hb dL_get_0 rfl (lv_at hl 0 rfl) ?_
  refine lv_iload_n hx hb dL_get_1 rfl (lv_at hl 1 rfl) ?_
  refine lh_callV (Bs := pwB cI cL cZ ad dl sf sg t n q vv nx ct uf zz) hX (c6_get l hst D cI (ad 1) (ad 2) (ad 4) (ad 6) (dl 16) (dl 17) (dl 18) (zz 16) hz ya) ⟨by decide, by decide, show (parseMethodDescriptor yX6_get.desc).map (fun d => d.parameters.length) = some 1 by decide +kernel⟩ rfl (mlA 28 rfl) (mlA 29 rfl) (mlA 30 rfl) (mlA 31 rfl) ⟨Nat.le_of_ble_eq_true rfl, Nat.le_of_ble_eq_true rfl⟩ hK hN hE hSW hZ [0] rfl hP hD hS [1, 8 + 16] (by simp; try omega) (hcc cw_g1 (hcc (cw_get (j := 16) (by omega)) (hcn))) rfl hl.1 rfl (Nat.le_of_ble_eq_true rfl) dL_get_2 ⟨Nat.le_of_ble_eq_true rfl, Nat.le_of_ble_eq_true rfl⟩ (fun r u h => by obtain ⟨-, -, rfl⟩ := h; rfl) (fun E u h => by obtain ⟨-, rfl⟩ := h; rfl) (fun E ce qex u H locs hxp hP hD hS hcell hcv hcl => ?_) (fun r u H locs hp hP hD hS => ?_)
  · obtain ⟨hE9, rfl⟩ := hxp
    have hP : va_P D vwCl (bw (pwB cI cL cZ ad dl sf sg t n q vv nx ct uf zz)) H := by
      rw [pwB, bput_c, cw_s1, bput_c, cw_set (j := 16) (by omega), va_id (k := 16) (rfl), bput_n] at hP
      exact hP
    have hD : va_D A (bw (pwB cI cL cZ ad dl sf sg t n q vv nx ct uf zz)) := by
      rw [pwB, bput_c, cw_s1, bput_c, cw_set (j := 16) (by omega), va_id (k := 16) (rfl), bput_n] at hD
      exact hD
    rcases hE9 with ⟨rfl, hR⟩ | ⟨rfl, hR⟩
    · skip
      refine vx_catch hown [] ⟨0, 6, 7, 15⟩ [⟨0, 6, 12, 19⟩] (hTb.trans rfl) (fun z hz => nomatch hz) rfl (by decide) (hts _ (mlA 2 rfl)) (va_Nw.use rfl hE.2.2.2.1) hcell hcv hcl ?_
      refine lv_astore_n (lv' := [(2, .ref qex), (0, .ref (ad 1)), (1, .int (ya))]) hx hb dL_get_7 rfl hl (by decide) rfl (fun ls hl => ?_)
      refine lv_ldc2 (v := (-9000000000000000002)) hx hb hown (hts _ (mlA 4 rfl)) dL_get_8 ?_
      exact lh_ret hX hr hlocks hS hP (Or.inr ⟨by rw [hR]; decide, by rw [hR]; rfl, rfl⟩) (Nat.le_of_ble_eq_true rfl) (Nat.le_of_ble_eq_true rfl) dL_get_11
    · skip
      refine vx_catch hown [⟨0, 6, 7, 15⟩] ⟨0, 6, 12, 19⟩ [] (hTb.trans rfl) (fun z hz => by rw [List.mem_singleton.mp hz]; exact Or.inr ⟨by decide, xIA, hts _ (mlA 2 rfl), hCN.1⟩) rfl (by decide) (hts _ (mlA 3 rfl)) (va_Nw.use rfl hE.2.2.2.2.1) hcell hcv hcl ?_
      refine lv_astore_n (lv' := [(2, .ref qex), (0, .ref (ad 1)), (1, .int (ya))]) hx hb dL_get_12 rfl hl (by decide) rfl (fun ls hl => ?_)
      refine lv_ldc2 (v := (-9000000000000000003)) hx hb hown (hts _ (mlA 5 rfl)) dL_get_13 ?_
      exact lh_ret hX hr hlocks hS hP (Or.inr ⟨by rw [hR]; decide, by rw [hR]; rfl, rfl⟩) (Nat.le_of_ble_eq_true rfl) (Nat.le_of_ble_eq_true rfl) dL_get_16
  · obtain ⟨hR, hr9, rfl⟩ := hp
    have hP : va_P D vwCl (bw (pwB cI cL cZ ad dl sf sg t n q vv nx ct uf zz)) H := by
      rw [pwB, bput_c, cw_s1, bput_c, cw_set (j := 16) (by omega), va_id (k := 16) (rfl), bput_n] at hP
      exact hP
    have hD : va_D A (bw (pwB cI cL cZ ad dl sf sg t n q vv nx ct uf zz)) := by
      rw [pwB, bput_c, cw_s1, bput_c, cw_set (j := 16) (by omega), va_id (k := 16) (rfl), bput_n] at hD
      exact hD
    refine lv_as hr9 ?_
    refine lv_i2l (v := (vaZ (zz 16) ya : Int32).toInt64) hx hb dL_get_5 (rfl) ?_
    exact lh_ret hX hr hlocks hS hP (Or.inl ⟨hR, rfl, rfl⟩) (Nat.le_of_ble_eq_true rfl) (Nat.le_of_ble_eq_true rfl) dL_get_6
theorem dL_keyAt_0 : decode cL_keyAt 0 = .ok (.aload_n 0, 1) := by decide +kernel
theorem dL_keyAt_1 : decode cL_keyAt 1 = .ok (.iload_n 1, 1) := by decide +kernel
theorem dL_keyAt_2 : decode cL_keyAt 2 = .ok (.invokevirtual 44, 3) := by decide +kernel
theorem dL_keyAt_5 : decode cL_keyAt 5 = .ok (.i2l, 1) := by decide +kernel
theorem dL_keyAt_6 : decode cL_keyAt 6 = .ok (.lreturn, 1) := by decide +kernel
theorem dL_keyAt_7 : decode cL_keyAt 7 = .ok (.astore_n 2, 1) := by decide +kernel
theorem dL_keyAt_8 : decode cL_keyAt 8 = .ok (.ldc2_w 17, 3) := by decide +kernel
theorem dL_keyAt_11 : decode cL_keyAt 11 = .ok (.lreturn, 1) := by decide +kernel
set_option maxHeartbeats 4000000 in
set_option maxRecDepth 100000 in
theorem cL_keyAtH (l : Launch) (hst : l.stackTraces = false) (D : va_G) (cI cL cZ : ClassId) (ad : Nat → Nat) (dl : Nat → Nat → Nat) (sf sg : Nat → Option Nat) (hsf : ∀ j, j < 14 → sf j = some (dl j 0)) (hsg : ∀ j, j < 2 → sg j = some (dl (14 + j) 0)) (t : Nat → Int32) (n q : Nat) (hn : n ≤ 90) (hq : q ≤ 90) (vv : Nat → Int32) (nx ct : Nat) (hnx : nx < 14) (hct : ct ≤ 14) (uf : Nat → Int32) (zz : Nat → LgS) (hz : Inv (zz 16)) (hB : ∀ j, (zz j).1.2 ≤ 8) (ya : Int32) : LH l yL_keyAt cL_keyAt 3 [(0, 6, 7, 15)] 7 113 D (pwB cI cL cZ ad dl sf sg t n q vv nx ct uf zz) [(cI, .int), (cL, (.object "TornPageLog$Log")), (cZ, .boolean)] [.ref (ad 1), .int (ya)] (fun (r9 : Int64) (u9 : List va_W) => ((c6kat ya) = 0 ∧ r9 = (oI (kaF (zz 16) ya 16) : Int32).toInt64 ∧ u9 = pwB cI cL cZ ad dl sf sg t n q vv nx ct uf zz) ∨ (¬ (c6kat ya) = 0 ∧ r9 = (-9000000000000000002) ∧ u9 = pwB cI cL cZ ad dl sf sg t n q vv nx ct uf zz)) := by
  refine lh_of (by decide) rfl (Nat.le_of_ble_eq_true rfl) ?_
  intro p e s m below meth c ls H hX hTb hr hlocks hK hN hE hSW hZ hCN hP hD hS hl
  generalize gp_A (bw (pwB cI cL cZ ad dl sf sg t n q vv nx ct uf zz)) = A at hZ hD hS ⊢
  have hx := hX.1
  have hb := hX.2.1
  have hown := hX.2.2.2.1
  have hts := hX.2.2.2.2
  have hl : lv_has ls 3 [(0, .ref (ad 1)), (1, .int (ya))] := hl
  refine lv_aload_n hx hb dL_keyAt_0 rfl (lv_at hl 0 rfl) ?_
  refine lv_iload_n hx hb dL_keyAt_1 rfl (lv_at hl 1 rfl) ?_
  refine lh_callV (Bs := pwB cI cL cZ ad dl sf sg t n q vv nx ct uf zz) hX (c6_keyAt l hst D cI (ad 1) (ad 2) (ad 4) (ad 6) (dl 16) (dl 17) (dl 18) (zz 16) hz ya) ⟨by decide, by decide, show (parseMethodDescriptor yX6_keyAt.desc).map (fun d => d.parameters.length) = some 1 by decide +kernel⟩ rfl (mlA 32 rfl) (mlA 33 rfl) (mlA 34 rfl) (mlA 35 rfl) ⟨Nat.le_of_ble_eq_true rfl, Nat.le_of_ble_eq_true rfl⟩ hK hN hE hSW hZ [0] rfl hP hD hS [1, 8 + 16] (by simp; try omega) (hcc cw_g1 (hcc (cw_get (j := 16) (by omega)) (hcn))) rfl hl.1 rfl (Nat.le_of_ble_eq_true rfl) dL_keyAt_2 ⟨Nat.le_of_ble_eq_true rfl, Nat.le_of_ble_eq_true rfl⟩ (fun r u h => by obtain ⟨-, -, rfl⟩ := h; rfl) (fun E u h => by obtain ⟨-, rfl⟩ := h; rfl) (fun E ce qex u H locs hxp hP hD hS hcell hcv hcl => ?_) (fun r u H locs hp hP hD hS => ?_)
  · obtain ⟨hE9, rfl⟩ := hxp
    have hP : va_P D vwCl (bw (pwB cI cL cZ ad dl sf sg t n q vv nx ct uf zz)) H := by
      rw [pwB, bput_c, cw_s1, bput_c, cw_set (j := 16) (by omega), va_id (k := 16) (rfl), bput_n] at hP
      exact hP
    have hD : va_D A (bw (pwB cI cL cZ ad dl sf sg t n q vv nx ct uf zz)) := by
      rw [pwB, bput_c, cw_s1, bput_c, cw_set (j := 16) (by omega), va_id (k := 16) (rfl), bput_n] at hD
      exact hD
    obtain ⟨rfl, hR⟩ := hE9
    · skip
      refine vx_catch hown [] ⟨0, 6, 7, 15⟩ [] (hTb.trans rfl) (fun z hz => nomatch hz) rfl (by decide) (hts _ (mlA 2 rfl)) (va_Nw.use rfl hE.2.2.2.1) hcell hcv hcl ?_
      refine lv_astore_n (lv' := [(2, .ref qex), (0, .ref (ad 1)), (1, .int (ya))]) hx hb dL_keyAt_7 rfl hl (by decide) rfl (fun ls hl => ?_)
      refine lv_ldc2 (v := (-9000000000000000002)) hx hb hown (hts _ (mlA 4 rfl)) dL_keyAt_8 ?_
      exact lh_ret hX hr hlocks hS hP (Or.inr ⟨by rw [hR]; decide, rfl, rfl⟩) (Nat.le_of_ble_eq_true rfl) (Nat.le_of_ble_eq_true rfl) dL_keyAt_11
  · obtain ⟨hR, hr9, rfl⟩ := hp
    have hP : va_P D vwCl (bw (pwB cI cL cZ ad dl sf sg t n q vv nx ct uf zz)) H := by
      rw [pwB, bput_c, cw_s1, bput_c, cw_set (j := 16) (by omega), va_id (k := 16) (rfl), bput_n] at hP
      exact hP
    have hD : va_D A (bw (pwB cI cL cZ ad dl sf sg t n q vv nx ct uf zz)) := by
      rw [pwB, bput_c, cw_s1, bput_c, cw_set (j := 16) (by omega), va_id (k := 16) (rfl), bput_n] at hD
      exact hD
    refine lv_as hr9 ?_
    refine lv_i2l (v := (oI (kaF (zz 16) ya 16) : Int32).toInt64) hx hb dL_keyAt_5 (rfl) ?_
    exact lh_ret hX hr hlocks hS hP (Or.inl ⟨hR, rfl, rfl⟩) (Nat.le_of_ble_eq_true rfl) (Nat.le_of_ble_eq_true rfl) dL_keyAt_6
theorem dL_newest_0 : decode cL_newest 0 = .ok (.aload_n 0, 1) := by decide +kernel
theorem dL_newest_1 : decode cL_newest 1 = .ok (.iload_n 1, 1) := by decide +kernel
theorem dL_newest_2 : decode cL_newest 2 = .ok (.invokevirtual 47, 3) := by decide +kernel
theorem dL_newest_5 : decode cL_newest 5 = .ok (.i2l, 1) := by decide +kernel
theorem dL_newest_6 : decode cL_newest 6 = .ok (.lreturn, 1) := by decide +kernel
theorem dL_newest_7 : decode cL_newest 7 = .ok (.astore_n 2, 1) := by decide +kernel
theorem dL_newest_8 : decode cL_newest 8 = .ok (.ldc2_w 17, 3) := by decide +kernel
theorem dL_newest_11 : decode cL_newest 11 = .ok (.lreturn, 1) := by decide +kernel
set_option maxHeartbeats 4000000 in
set_option maxRecDepth 100000 in
theorem cL_newestH (l : Launch) (hst : l.stackTraces = false) (D : va_G) (cI cL cZ : ClassId) (ad : Nat → Nat) (dl : Nat → Nat → Nat) (sf sg : Nat → Option Nat) (hsf : ∀ j, j < 14 → sf j = some (dl j 0)) (hsg : ∀ j, j < 2 → sg j = some (dl (14 + j) 0)) (t : Nat → Int32) (n q : Nat) (hn : n ≤ 90) (hq : q ≤ 90) (vv : Nat → Int32) (nx ct : Nat) (hnx : nx < 14) (hct : ct ≤ 14) (uf : Nat → Int32) (zz : Nat → LgS) (hz : Inv (zz 16)) (hB : ∀ j, (zz j).1.2 ≤ 8) (ya : Int32) : LH l yL_newest cL_newest 3 [(0, 6, 7, 15)] 7 111 D (pwB cI cL cZ ad dl sf sg t n q vv nx ct uf zz) [(cI, .int), (cL, (.object "TornPageLog$Log")), (cZ, .boolean)] [.ref (ad 1), .int (ya)] (fun (r9 : Int64) (u9 : List va_W) => ((c6key ya) = 0 ∧ r9 = (at_ ((zz 16).2.2 6) 16 (-9) ya : Int32).toInt64 ∧ u9 = pwB cI cL cZ ad dl sf sg t n q vv nx ct uf zz) ∨ (¬ (c6key ya) = 0 ∧ r9 = (-9000000000000000002) ∧ u9 = pwB cI cL cZ ad dl sf sg t n q vv nx ct uf zz)) := by
  refine lh_of (by decide) rfl (Nat.le_of_ble_eq_true rfl) ?_
  intro p e s m below meth c ls H hX hTb hr hlocks hK hN hE hSW hZ hCN hP hD hS hl
  generalize gp_A (bw (pwB cI cL cZ ad dl sf sg t n q vv nx ct uf zz)) = A at hZ hD hS ⊢
  have hx := hX.1
  have hb := hX.2.1
  have hown := hX.2.2.2.1
  have hts := hX.2.2.2.2
  have hl : lv_has ls 3 [(0, .ref (ad 1)), (1, .int (ya))] := hl
  refine lv_aload_n hx hb dL_newest_0 rfl (lv_at hl 0 rfl) ?_
  refine lv_iload_n hx hb dL_newest_1 rfl (lv_at hl 1 rfl) ?_
  refine lh_callV (Bs := pwB cI cL cZ ad dl sf sg t n q vv nx ct uf zz) hX (c6_newest l hst D cI (ad 1) (ad 2) (ad 4) (ad 6) (dl 16) (dl 17) (dl 18) (zz 16) hz ya) ⟨by decide, by decide, show (parseMethodDescriptor yX6_newest.desc).map (fun d => d.parameters.length) = some 1 by decide +kernel⟩ rfl (mlA 36 rfl) (mlA 37 rfl) (mlA 38 rfl) (mlA 39 rfl) ⟨Nat.le_of_ble_eq_true rfl, Nat.le_of_ble_eq_true rfl⟩ hK hN hE hSW hZ [0] rfl hP hD hS [1, 8 + 16] (by simp; try omega) (hcc cw_g1 (hcc (cw_get (j := 16) (by omega)) (hcn))) rfl hl.1 rfl (Nat.le_of_ble_eq_true rfl) dL_newest_2 ⟨Nat.le_of_ble_eq_true rfl, Nat.le_of_ble_eq_true rfl⟩ (fun r u h => by obtain ⟨-, -, rfl⟩ := h; rfl) (fun E u h => by obtain ⟨-, rfl⟩ := h; rfl) (fun E ce qex u H locs hxp hP hD hS hcell hcv hcl => ?_) (fun r u H locs hp hP hD hS => ?_)
  · obtain ⟨hE9, rfl⟩ := hxp
    have hP : va_P D vwCl (bw (pwB cI cL cZ ad dl sf sg t n q vv nx ct uf zz)) H := by
      rw [pwB, bput_c, cw_s1, bput_c, cw_set (j := 16) (by omega), va_id (k := 16) (rfl), bput_n] at hP
      exact hP
    have hD : va_D A (bw (pwB cI cL cZ ad dl sf sg t n q vv nx ct uf zz)) := by
      rw [pwB, bput_c, cw_s1, bput_c, cw_set (j := 16) (by omega), va_id (k := 16) (rfl), bput_n] at hD
      exact hD
    obtain ⟨rfl, hR⟩ := hE9
    · skip
      refine vx_catch hown [] ⟨0, 6, 7, 15⟩ [] (hTb.trans rfl) (fun z hz => nomatch hz) rfl (by decide) (hts _ (mlA 2 rfl)) (va_Nw.use rfl hE.2.2.2.1) hcell hcv hcl ?_
      refine lv_astore_n (lv' := [(2, .ref qex), (0, .ref (ad 1)), (1, .int (ya))]) hx hb dL_newest_7 rfl hl (by decide) rfl (fun ls hl => ?_)
      refine lv_ldc2 (v := (-9000000000000000002)) hx hb hown (hts _ (mlA 4 rfl)) dL_newest_8 ?_
      exact lh_ret hX hr hlocks hS hP (Or.inr ⟨by rw [hR]; decide, rfl, rfl⟩) (Nat.le_of_ble_eq_true rfl) (Nat.le_of_ble_eq_true rfl) dL_newest_11
  · obtain ⟨hR, hr9, rfl⟩ := hp
    have hP : va_P D vwCl (bw (pwB cI cL cZ ad dl sf sg t n q vv nx ct uf zz)) H := by
      rw [pwB, bput_c, cw_s1, bput_c, cw_set (j := 16) (by omega), va_id (k := 16) (rfl), bput_n] at hP
      exact hP
    have hD : va_D A (bw (pwB cI cL cZ ad dl sf sg t n q vv nx ct uf zz)) := by
      rw [pwB, bput_c, cw_s1, bput_c, cw_set (j := 16) (by omega), va_id (k := 16) (rfl), bput_n] at hD
      exact hD
    refine lv_as hr9 ?_
    refine lv_i2l (v := (at_ ((zz 16).2.2 6) 16 (-9) ya : Int32).toInt64) hx hb dL_newest_5 (rfl) ?_
    exact lh_ret hX hr hlocks hS hP (Or.inl ⟨hR, rfl, rfl⟩) (Nat.le_of_ble_eq_true rfl) (Nat.le_of_ble_eq_true rfl) dL_newest_6
theorem dL_lastCut_0 : decode cL_lastCut 0 = .ok (.aload_n 0, 1) := by decide +kernel
theorem dL_lastCut_1 : decode cL_lastCut 1 = .ok (.iload_n 1, 1) := by decide +kernel
theorem dL_lastCut_2 : decode cL_lastCut 2 = .ok (.invokevirtual 50, 3) := by decide +kernel
theorem dL_lastCut_5 : decode cL_lastCut 5 = .ok (.i2l, 1) := by decide +kernel
theorem dL_lastCut_6 : decode cL_lastCut 6 = .ok (.lreturn, 1) := by decide +kernel
theorem dL_lastCut_7 : decode cL_lastCut 7 = .ok (.astore_n 2, 1) := by decide +kernel
theorem dL_lastCut_8 : decode cL_lastCut 8 = .ok (.ldc2_w 17, 3) := by decide +kernel
theorem dL_lastCut_11 : decode cL_lastCut 11 = .ok (.lreturn, 1) := by decide +kernel
set_option maxHeartbeats 4000000 in
set_option maxRecDepth 100000 in
theorem cL_lastCutH (l : Launch) (hst : l.stackTraces = false) (D : va_G) (cI cL cZ : ClassId) (ad : Nat → Nat) (dl : Nat → Nat → Nat) (sf sg : Nat → Option Nat) (hsf : ∀ j, j < 14 → sf j = some (dl j 0)) (hsg : ∀ j, j < 2 → sg j = some (dl (14 + j) 0)) (t : Nat → Int32) (n q : Nat) (hn : n ≤ 90) (hq : q ≤ 90) (vv : Nat → Int32) (nx ct : Nat) (hnx : nx < 14) (hct : ct ≤ 14) (uf : Nat → Int32) (zz : Nat → LgS) (hz : Inv (zz 16)) (hB : ∀ j, (zz j).1.2 ≤ 8) (ya : Int32) : LH l yL_lastCut cL_lastCut 3 [(0, 6, 7, 15)] 7 111 D (pwB cI cL cZ ad dl sf sg t n q vv nx ct uf zz) [(cI, .int), (cL, (.object "TornPageLog$Log")), (cZ, .boolean)] [.ref (ad 1), .int (ya)] (fun (r9 : Int64) (u9 : List va_W) => ((c6r ya 2) = 0 ∧ r9 = (tcF ((zz 16).2.1 10) ((zz 16).2.1 11) ((zz 16).2.1 12) ya.toNatClampNeg : Int32).toInt64 ∧ u9 = pwB cI cL cZ ad dl sf sg t n q vv nx ct uf zz) ∨ (¬ (c6r ya 2) = 0 ∧ r9 = (-9000000000000000002) ∧ u9 = pwB cI cL cZ ad dl sf sg t n q vv nx ct uf zz)) := by
  refine lh_of (by decide) rfl (Nat.le_of_ble_eq_true rfl) ?_
  intro p e s m below meth c ls H hX hTb hr hlocks hK hN hE hSW hZ hCN hP hD hS hl
  generalize gp_A (bw (pwB cI cL cZ ad dl sf sg t n q vv nx ct uf zz)) = A at hZ hD hS ⊢
  have hx := hX.1
  have hb := hX.2.1
  have hown := hX.2.2.2.1
  have hts := hX.2.2.2.2
  have hl : lv_has ls 3 [(0, .ref (ad 1)), (1, .int (ya))] := hl
  refine lv_aload_n hx hb dL_lastCut_0 rfl (lv_at hl 0 rfl) ?_
  refine lv_iload_n hx hb dL_lastCut_1 rfl (lv_at hl 1 rfl) ?_
  refine lh_callV (Bs := pwB cI cL cZ ad dl sf sg t n q vv nx ct uf zz) hX (c6_lastCut l hst D cI (ad 1) (ad 2) (ad 4) (ad 6) (dl 16) (dl 17) (dl 18) (zz 16) hz ya) ⟨by decide, by decide, show (parseMethodDescriptor yX6_lastCut.desc).map (fun d => d.parameters.length) = some 1 by decide +kernel⟩ rfl (mlA 40 rfl) (mlA 41 rfl) (mlA 42 rfl) (mlA 43 rfl) ⟨Nat.le_of_ble_eq_true rfl, Nat.le_of_ble_eq_true rfl⟩ hK hN hE hSW hZ [0] rfl hP hD hS [1, 8 + 16] (by simp; try omega) (hcc cw_g1 (hcc (cw_get (j := 16) (by omega)) (hcn))) rfl hl.1 rfl (Nat.le_of_ble_eq_true rfl) dL_lastCut_2 ⟨Nat.le_of_ble_eq_true rfl, Nat.le_of_ble_eq_true rfl⟩ (fun r u h => by obtain ⟨-, -, rfl⟩ := h; rfl) (fun E u h => by obtain ⟨-, rfl⟩ := h; rfl) (fun E ce qex u H locs hxp hP hD hS hcell hcv hcl => ?_) (fun r u H locs hp hP hD hS => ?_)
  · obtain ⟨hE9, rfl⟩ := hxp
    have hP : va_P D vwCl (bw (pwB cI cL cZ ad dl sf sg t n q vv nx ct uf zz)) H := by
      rw [pwB, bput_c, cw_s1, bput_c, cw_set (j := 16) (by omega), va_id (k := 16) (rfl), bput_n] at hP
      exact hP
    have hD : va_D A (bw (pwB cI cL cZ ad dl sf sg t n q vv nx ct uf zz)) := by
      rw [pwB, bput_c, cw_s1, bput_c, cw_set (j := 16) (by omega), va_id (k := 16) (rfl), bput_n] at hD
      exact hD
    obtain ⟨rfl, hR⟩ := hE9
    · skip
      refine vx_catch hown [] ⟨0, 6, 7, 15⟩ [] (hTb.trans rfl) (fun z hz => nomatch hz) rfl (by decide) (hts _ (mlA 2 rfl)) (va_Nw.use rfl hE.2.2.2.1) hcell hcv hcl ?_
      refine lv_astore_n (lv' := [(2, .ref qex), (0, .ref (ad 1)), (1, .int (ya))]) hx hb dL_lastCut_7 rfl hl (by decide) rfl (fun ls hl => ?_)
      refine lv_ldc2 (v := (-9000000000000000002)) hx hb hown (hts _ (mlA 4 rfl)) dL_lastCut_8 ?_
      exact lh_ret hX hr hlocks hS hP (Or.inr ⟨by rw [hR]; decide, rfl, rfl⟩) (Nat.le_of_ble_eq_true rfl) (Nat.le_of_ble_eq_true rfl) dL_lastCut_11
  · obtain ⟨hR, hr9, rfl⟩ := hp
    have hP : va_P D vwCl (bw (pwB cI cL cZ ad dl sf sg t n q vv nx ct uf zz)) H := by
      rw [pwB, bput_c, cw_s1, bput_c, cw_set (j := 16) (by omega), va_id (k := 16) (rfl), bput_n] at hP
      exact hP
    have hD : va_D A (bw (pwB cI cL cZ ad dl sf sg t n q vv nx ct uf zz)) := by
      rw [pwB, bput_c, cw_s1, bput_c, cw_set (j := 16) (by omega), va_id (k := 16) (rfl), bput_n] at hD
      exact hD
    refine lv_as hr9 ?_
    refine lv_i2l (v := (tcF ((zz 16).2.1 10) ((zz 16).2.1 11) ((zz 16).2.1 12) ya.toNatClampNeg : Int32).toInt64) hx hb dL_lastCut_5 (rfl) ?_
    exact lh_ret hX hr hlocks hS hP (Or.inl ⟨hR, rfl, rfl⟩) (Nat.le_of_ble_eq_true rfl) (Nat.le_of_ble_eq_true rfl) dL_lastCut_6
theorem dL_put_0 : decode cL_put 0 = .ok (.aload_n 0, 1) := by decide +kernel
theorem dL_put_1 : decode cL_put 1 = .ok (.iload_n 1, 1) := by decide +kernel
theorem dL_put_2 : decode cL_put 2 = .ok (.iload_n 2, 1) := by decide +kernel
theorem dL_put_3 : decode cL_put 3 = .ok (.invokevirtual 53, 3) := by decide +kernel
theorem dL_put_6 : decode cL_put 6 = .ok (.i2l, 1) := by decide +kernel
theorem dL_put_7 : decode cL_put 7 = .ok (.lreturn, 1) := by decide +kernel
theorem dL_put_8 : decode cL_put 8 = .ok (.astore_n 3, 1) := by decide +kernel
theorem dL_put_9 : decode cL_put 9 = .ok (.ldc2_w 17, 3) := by decide +kernel
theorem dL_put_12 : decode cL_put 12 = .ok (.lreturn, 1) := by decide +kernel
theorem dL_put_13 : decode cL_put 13 = .ok (.astore_n 3, 1) := by decide +kernel
theorem dL_put_14 : decode cL_put 14 = .ok (.ldc2_w 21, 3) := by decide +kernel
theorem dL_put_17 : decode cL_put 17 = .ok (.lreturn, 1) := by decide +kernel
set_option maxHeartbeats 4000000 in
set_option maxRecDepth 100000 in
theorem cL_putH (l : Launch) (hst : l.stackTraces = false) (D : va_G) (cI cL cZ : ClassId) (ad : Nat → Nat) (dl : Nat → Nat → Nat) (sf sg : Nat → Option Nat) (hsf : ∀ j, j < 14 → sf j = some (dl j 0)) (hsg : ∀ j, j < 2 → sg j = some (dl (14 + j) 0)) (t : Nat → Int32) (n q : Nat) (hn : n ≤ 90) (hq : q ≤ 90) (vv : Nat → Int32) (nx ct : Nat) (hnx : nx < 14) (hct : ct ≤ 14) (uf : Nat → Int32) (zz : Nat → LgS) (hz : Inv (zz 16)) (hB : ∀ j, (zz j).1.2 ≤ 8) (ya : Int32) (yb : Int32) : LH l yL_put cL_put 4 [(0, 7, 8, 15), (0, 7, 13, 19)] 7 166 D (pwB cI cL cZ ad dl sf sg t n q vv nx ct uf zz) [(cI, .int), (cL, (.object "TornPageLog$Log")), (cZ, .boolean)] [.ref (ad 1), .int (ya), .int (yb)] (fun (r9 : Int64) (u9 : List va_W) => ((c6put (zz 16) ya yb) = 0 ∧ r9 = ((stT ya.toNatClampNeg yb (zz 16)).1 : Int32).toInt64 ∧ ∃ zt9 : LgS, (zt9.1.2 ≤ 8) ∧ u9 = pwB cI cL cZ ad dl sf sg t n q vv ((nx + 1) % 14) (if 14 < ct + 1 then 14 else ct + 1) uf (va_up (va_up (va_up zz 16 ((stT ya.toNatClampNeg yb (zz 16)).2)) 18 zt9) nx (zz 16))) ∨ (¬ (c6put (zz 16) ya yb) = 0 ∧ r9 = (if (c6put (zz 16) ya yb) = 1 then (-9000000000000000002) else (-9000000000000000003)) ∧ ∃ zt9 : LgS, (zt9.1.2 ≤ 8) ∧ u9 = pwB cI cL cZ ad dl sf sg t n q vv nx ct uf (va_up zz 18 zt9))) := by
  refine lh_of (by decide) rfl (Nat.le_of_ble_eq_true rfl) ?_
  intro p e s m below meth c ls H hX hTb hr hlocks hK hN hE hSW hZ hCN hP hD hS hl
  generalize gp_A (bw (pwB cI cL cZ ad dl sf sg t n q vv nx ct uf zz)) = A at hZ hD hS ⊢
  have hx := hX.1
  have hb := hX.2.1
  have hown := hX.2.2.2.1
  have hts := hX.2.2.2.2
  have hl : lv_has ls 4 [(0, .ref (ad 1)), (1, .int (ya)), (2, .int (yb))] := hl
  refine lv_aload_n hx hb dL_put_0 rfl (lv_at hl 0 rfl) ?_
  refine lv_iload_n hx hb dL_put_1 rfl (lv_at hl 1 rfl) ?_
  refine lv_iload_n hx hb dL_put_2 rfl (lv_at hl 2 rfl) ?_
  refine lh_callV (Bs := pwB cI cL cZ ad dl sf sg t n q vv nx ct uf zz) hX (c6_put l hst D cI cL (ad 1) (ad 2) (ad 4) (ad 6) (dl 16) (dl 17) (dl 18) (zz 16) hz (zz 18) (hB 18) (ad 5) sf nx ct hnx hct (dl nx) (zz nx) (hB nx) (hsf nx hnx) ya yb) ⟨by decide, by decide, show (parseMethodDescriptor yX6_put.desc).map (fun d => d.parameters.length) = some 2 by decide +kernel⟩ rfl (mlA 44 rfl) (mlA 45 rfl) (mlA 46 rfl) (mlA 47 rfl) ⟨Nat.le_of_ble_eq_true rfl, Nat.le_of_ble_eq_true rfl⟩ hK hN hE hSW hZ [0, 1] rfl hP hD hS [1, 8 + 16, 8 + 18, 3, 4, 8 + nx] (by simp; try omega) (hcc cw_g1 (hcc (cw_get (j := 16) (by omega)) (hcc (cw_get (j := 18) (by omega)) (hcc cw_g3 (hcc cw_g4 (hcc (cw_get (j := nx) (by omega)) (hcn))))))) rfl hl.1 rfl (Nat.le_of_ble_eq_true rfl) dL_put_3 ⟨Nat.le_of_ble_eq_true rfl, Nat.le_of_ble_eq_true rfl⟩ (fun r u h => by obtain ⟨-, -, zt9, hc0, rfl⟩ := h; rfl) (fun E u h => by obtain ⟨-, zt9, hc0, rfl⟩ := h; rfl) (fun E ce qex u H locs hxp hP hD hS hcell hcv hcl => ?_) (fun r u H locs hp hP hD hS => ?_)
  · obtain ⟨hE9, zt9, hc0, rfl⟩ := hxp
    have hP : va_P D vwCl (bw (pwB cI cL cZ ad dl sf sg t n q vv nx ct uf (va_up zz 18 zt9))) H := by
      rw [pwB, bput_c, cw_s1, bput_c, cw_set (j := 16) (by omega), va_id (k := 16) (rfl), bput_c, cw_set (j := 18) (by omega), bput_c, cw_s3, bput_c, cw_s4, bput_c, cw_set (j := nx) (by omega), va_id (k := nx) (by simp only [va_up]; rw [if_neg (by omega)]), bput_n] at hP
      exact hP
    have hD : va_D A (bw (pwB cI cL cZ ad dl sf sg t n q vv nx ct uf (va_up zz 18 zt9))) := by
      rw [pwB, bput_c, cw_s1, bput_c, cw_set (j := 16) (by omega), va_id (k := 16) (rfl), bput_c, cw_set (j := 18) (by omega), bput_c, cw_s3, bput_c, cw_s4, bput_c, cw_set (j := nx) (by omega), va_id (k := nx) (by simp only [va_up]; rw [if_neg (by omega)]), bput_n] at hD
      exact hD
    rcases hE9 with ⟨rfl, hR⟩ | ⟨rfl, hR⟩
    · skip
      refine vx_catch hown [] ⟨0, 7, 8, 15⟩ [⟨0, 7, 13, 19⟩] (hTb.trans rfl) (fun z hz => nomatch hz) rfl (by decide) (hts _ (mlA 2 rfl)) (va_Nw.use rfl hE.2.2.2.1) hcell hcv hcl ?_
      refine lv_astore_n (lv' := [(3, .ref qex), (0, .ref (ad 1)), (1, .int (ya)), (2, .int (yb))]) hx hb dL_put_8 rfl hl (by decide) rfl (fun ls hl => ?_)
      refine lv_ldc2 (v := (-9000000000000000002)) hx hb hown (hts _ (mlA 4 rfl)) dL_put_9 ?_
      exact lh_ret hX hr hlocks hS hP (Or.inr ⟨by rw [hR]; decide, by rw [hR]; rfl, _, hc0, rfl⟩) (Nat.le_of_ble_eq_true rfl) (Nat.le_of_ble_eq_true rfl) dL_put_12
    · skip
      refine vx_catch hown [⟨0, 7, 8, 15⟩] ⟨0, 7, 13, 19⟩ [] (hTb.trans rfl) (fun z hz => by rw [List.mem_singleton.mp hz]; exact Or.inr ⟨by decide, xIA, hts _ (mlA 2 rfl), hCN.1⟩) rfl (by decide) (hts _ (mlA 3 rfl)) (va_Nw.use rfl hE.2.2.2.2.1) hcell hcv hcl ?_
      refine lv_astore_n (lv' := [(3, .ref qex), (0, .ref (ad 1)), (1, .int (ya)), (2, .int (yb))]) hx hb dL_put_13 rfl hl (by decide) rfl (fun ls hl => ?_)
      refine lv_ldc2 (v := (-9000000000000000003)) hx hb hown (hts _ (mlA 5 rfl)) dL_put_14 ?_
      exact lh_ret hX hr hlocks hS hP (Or.inr ⟨by rw [hR]; decide, by rw [hR]; rfl, _, hc0, rfl⟩) (Nat.le_of_ble_eq_true rfl) (Nat.le_of_ble_eq_true rfl) dL_put_17
  · obtain ⟨hR, hr9, zt9, hc0, rfl⟩ := hp
    have hP : va_P D vwCl (bw (pwB cI cL cZ ad dl sf sg t n q vv ((nx + 1) % 14) (if 14 < ct + 1 then 14 else ct + 1) uf (va_up (va_up (va_up zz 16 ((stT ya.toNatClampNeg yb (zz 16)).2)) 18 zt9) nx (zz 16)))) H := by
      rw [pwB, bput_c, cw_s1, bput_c, cw_set (j := 16) (by omega), bput_c, cw_set (j := 18) (by omega), bput_c, cw_s3, bput_c, cw_s4, bput_c, cw_set (j := nx) (by omega), bput_n] at hP
      exact hP
    have hD : va_D A (bw (pwB cI cL cZ ad dl sf sg t n q vv ((nx + 1) % 14) (if 14 < ct + 1 then 14 else ct + 1) uf (va_up (va_up (va_up zz 16 ((stT ya.toNatClampNeg yb (zz 16)).2)) 18 zt9) nx (zz 16)))) := by
      rw [pwB, bput_c, cw_s1, bput_c, cw_set (j := 16) (by omega), bput_c, cw_set (j := 18) (by omega), bput_c, cw_s3, bput_c, cw_s4, bput_c, cw_set (j := nx) (by omega), bput_n] at hD
      exact hD
    refine lv_as hr9 ?_
    refine lv_i2l (v := ((stT ya.toNatClampNeg yb (zz 16)).1 : Int32).toInt64) hx hb dL_put_6 (rfl) ?_
    exact lh_ret hX hr hlocks hS hP (Or.inl ⟨hR, rfl, _, hc0, rfl⟩) (Nat.le_of_ble_eq_true rfl) (Nat.le_of_ble_eq_true rfl) dL_put_7
theorem dL_remove_0 : decode cL_remove 0 = .ok (.aload_n 0, 1) := by decide +kernel
theorem dL_remove_1 : decode cL_remove 1 = .ok (.iload_n 1, 1) := by decide +kernel
theorem dL_remove_2 : decode cL_remove 2 = .ok (.invokevirtual 56, 3) := by decide +kernel
theorem dL_remove_5 : decode cL_remove 5 = .ok (.i2l, 1) := by decide +kernel
theorem dL_remove_6 : decode cL_remove 6 = .ok (.lreturn, 1) := by decide +kernel
theorem dL_remove_7 : decode cL_remove 7 = .ok (.astore_n 2, 1) := by decide +kernel
theorem dL_remove_8 : decode cL_remove 8 = .ok (.ldc2_w 17, 3) := by decide +kernel
theorem dL_remove_11 : decode cL_remove 11 = .ok (.lreturn, 1) := by decide +kernel
theorem dL_remove_12 : decode cL_remove 12 = .ok (.astore_n 2, 1) := by decide +kernel
theorem dL_remove_13 : decode cL_remove 13 = .ok (.ldc2_w 21, 3) := by decide +kernel
theorem dL_remove_16 : decode cL_remove 16 = .ok (.lreturn, 1) := by decide +kernel
set_option maxHeartbeats 4000000 in
set_option maxRecDepth 100000 in
theorem cL_removeH (l : Launch) (hst : l.stackTraces = false) (D : va_G) (cI cL cZ : ClassId) (ad : Nat → Nat) (dl : Nat → Nat → Nat) (sf sg : Nat → Option Nat) (hsf : ∀ j, j < 14 → sf j = some (dl j 0)) (hsg : ∀ j, j < 2 → sg j = some (dl (14 + j) 0)) (t : Nat → Int32) (n q : Nat) (hn : n ≤ 90) (hq : q ≤ 90) (vv : Nat → Int32) (nx ct : Nat) (hnx : nx < 14) (hct : ct ≤ 14) (uf : Nat → Int32) (zz : Nat → LgS) (hz : Inv (zz 16)) (hB : ∀ j, (zz j).1.2 ≤ 8) (ya : Int32) : LH l yL_remove cL_remove 3 [(0, 6, 7, 15), (0, 6, 12, 19)] 7 165 D (pwB cI cL cZ ad dl sf sg t n q vv nx ct uf zz) [(cI, .int), (cL, (.object "TornPageLog$Log")), (cZ, .boolean)] [.ref (ad 1), .int (ya)] (fun (r9 : Int64) (u9 : List va_W) => ((c6rem (zz 16) ya) = 0 ∧ r9 = ((stT ya.toNatClampNeg (-9) (zz 16)).1 : Int32).toInt64 ∧ ∃ zt9 : LgS, (zt9.1.2 ≤ 8) ∧ u9 = pwB cI cL cZ ad dl sf sg t n q vv ((nx + 1) % 14) (if 14 < ct + 1 then 14 else ct + 1) uf (va_up (va_up (va_up zz 16 ((stT ya.toNatClampNeg (-9) (zz 16)).2)) 18 zt9) nx (zz 16))) ∨ (¬ (c6rem (zz 16) ya) = 0 ∧ r9 = (if (c6rem (zz 16) ya) = 1 then (-9000000000000000002) else (-9000000000000000003)) ∧ ∃ zt9 : LgS, (zt9.1.2 ≤ 8) ∧ u9 = pwB cI cL cZ ad dl sf sg t n q vv nx ct uf (va_up zz 18 zt9))) := by
  refine lh_of (by decide) rfl (Nat.le_of_ble_eq_true rfl) ?_
  intro p e s m below meth c ls H hX hTb hr hlocks hK hN hE hSW hZ hCN hP hD hS hl
  generalize gp_A (bw (pwB cI cL cZ ad dl sf sg t n q vv nx ct uf zz)) = A at hZ hD hS ⊢
  have hx := hX.1
  have hb := hX.2.1
  have hown := hX.2.2.2.1
  have hts := hX.2.2.2.2
  have hl : lv_has ls 3 [(0, .ref (ad 1)), (1, .int (ya))] := hl
  refine lv_aload_n hx hb dL_remove_0 rfl (lv_at hl 0 rfl) ?_
  refine lv_iload_n hx hb dL_remove_1 rfl (lv_at hl 1 rfl) ?_
  refine lh_callV (Bs := pwB cI cL cZ ad dl sf sg t n q vv nx ct uf zz) hX (c6_remove l hst D cI cL (ad 1) (ad 2) (ad 4) (ad 6) (dl 16) (dl 17) (dl 18) (zz 16) hz (zz 18) (hB 18) (ad 5) sf nx ct hnx hct (dl nx) (zz nx) (hB nx) (hsf nx hnx) ya) ⟨by decide, by decide, show (parseMethodDescriptor yX6_remove.desc).map (fun d => d.parameters.length) = some 1 by decide +kernel⟩ rfl (mlA 48 rfl) (mlA 49 rfl) (mlA 50 rfl) (mlA 51 rfl) ⟨Nat.le_of_ble_eq_true rfl, Nat.le_of_ble_eq_true rfl⟩ hK hN hE hSW hZ [0, 1] rfl hP hD hS [1, 8 + 16, 8 + 18, 3, 4, 8 + nx] (by simp; try omega) (hcc cw_g1 (hcc (cw_get (j := 16) (by omega)) (hcc (cw_get (j := 18) (by omega)) (hcc cw_g3 (hcc cw_g4 (hcc (cw_get (j := nx) (by omega)) (hcn))))))) rfl hl.1 rfl (Nat.le_of_ble_eq_true rfl) dL_remove_2 ⟨Nat.le_of_ble_eq_true rfl, Nat.le_of_ble_eq_true rfl⟩ (fun r u h => by obtain ⟨-, -, zt9, hc0, rfl⟩ := h; rfl) (fun E u h => by obtain ⟨-, zt9, hc0, rfl⟩ := h; rfl) (fun E ce qex u H locs hxp hP hD hS hcell hcv hcl => ?_) (fun r u H locs hp hP hD hS => ?_)
  · obtain ⟨hE9, zt9, hc0, rfl⟩ := hxp
    have hP : va_P D vwCl (bw (pwB cI cL cZ ad dl sf sg t n q vv nx ct uf (va_up zz 18 zt9))) H := by
      rw [pwB, bput_c, cw_s1, bput_c, cw_set (j := 16) (by omega), va_id (k := 16) (rfl), bput_c, cw_set (j := 18) (by omega), bput_c, cw_s3, bput_c, cw_s4, bput_c, cw_set (j := nx) (by omega), va_id (k := nx) (by simp only [va_up]; rw [if_neg (by omega)]), bput_n] at hP
      exact hP
    have hD : va_D A (bw (pwB cI cL cZ ad dl sf sg t n q vv nx ct uf (va_up zz 18 zt9))) := by
      rw [pwB, bput_c, cw_s1, bput_c, cw_set (j := 16) (by omega), va_id (k := 16) (rfl), bput_c, cw_set (j := 18) (by omega), bput_c, cw_s3, bput_c, cw_s4, bput_c, cw_set (j := nx) (by omega), va_id (k := nx) (by simp only [va_up]; rw [if_neg (by omega)]), bput_n] at hD
      exact hD
    rcases hE9 with ⟨rfl, hR⟩ | ⟨rfl, hR⟩
    · skip
      refine vx_catch hown [] ⟨0, 6, 7, 15⟩ [⟨0, 6, 12, 19⟩] (hTb.trans rfl) (fun z hz => nomatch hz) rfl (by decide) (hts _ (mlA 2 rfl)) (va_Nw.use rfl hE.2.2.2.1) hcell hcv hcl ?_
      refine lv_astore_n (lv' := [(2, .ref qex), (0, .ref (ad 1)), (1, .int (ya))]) hx hb dL_remove_7 rfl hl (by decide) rfl (fun ls hl => ?_)
      refine lv_ldc2 (v := (-9000000000000000002)) hx hb hown (hts _ (mlA 4 rfl)) dL_remove_8 ?_
      exact lh_ret hX hr hlocks hS hP (Or.inr ⟨by rw [hR]; decide, by rw [hR]; rfl, _, hc0, rfl⟩) (Nat.le_of_ble_eq_true rfl) (Nat.le_of_ble_eq_true rfl) dL_remove_11
    · skip
      refine vx_catch hown [⟨0, 6, 7, 15⟩] ⟨0, 6, 12, 19⟩ [] (hTb.trans rfl) (fun z hz => by rw [List.mem_singleton.mp hz]; exact Or.inr ⟨by decide, xIA, hts _ (mlA 2 rfl), hCN.1⟩) rfl (by decide) (hts _ (mlA 3 rfl)) (va_Nw.use rfl hE.2.2.2.2.1) hcell hcv hcl ?_
      refine lv_astore_n (lv' := [(2, .ref qex), (0, .ref (ad 1)), (1, .int (ya))]) hx hb dL_remove_12 rfl hl (by decide) rfl (fun ls hl => ?_)
      refine lv_ldc2 (v := (-9000000000000000003)) hx hb hown (hts _ (mlA 5 rfl)) dL_remove_13 ?_
      exact lh_ret hX hr hlocks hS hP (Or.inr ⟨by rw [hR]; decide, by rw [hR]; rfl, _, hc0, rfl⟩) (Nat.le_of_ble_eq_true rfl) (Nat.le_of_ble_eq_true rfl) dL_remove_16
  · obtain ⟨hR, hr9, zt9, hc0, rfl⟩ := hp
    have hP : va_P D vwCl (bw (pwB cI cL cZ ad dl sf sg t n q vv ((nx + 1) % 14) (if 14 < ct + 1 then 14 else ct + 1) uf (va_up (va_up (va_up zz 16 ((stT ya.toNatClampNeg (-9) (zz 16)).2)) 18 zt9) nx (zz 16)))) H := by
      rw [pwB, bput_c, cw_s1, bput_c, cw_set (j := 16) (by omega), bput_c, cw_set (j := 18) (by omega), bput_c, cw_s3, bput_c, cw_s4, bput_c, cw_set (j := nx) (by omega), bput_n] at hP
      exact hP
    have hD : va_D A (bw (pwB cI cL cZ ad dl sf sg t n q vv ((nx + 1) % 14) (if 14 < ct + 1 then 14 else ct + 1) uf (va_up (va_up (va_up zz 16 ((stT ya.toNatClampNeg (-9) (zz 16)).2)) 18 zt9) nx (zz 16)))) := by
      rw [pwB, bput_c, cw_s1, bput_c, cw_set (j := 16) (by omega), bput_c, cw_set (j := 18) (by omega), bput_c, cw_s3, bput_c, cw_s4, bput_c, cw_set (j := nx) (by omega), bput_n] at hD
      exact hD
    refine lv_as hr9 ?_
    refine lv_i2l (v := ((stT ya.toNatClampNeg (-9) (zz 16)).1 : Int32).toInt64) hx hb dL_remove_5 (rfl) ?_
    exact lh_ret hX hr hlocks hS hP (Or.inl ⟨hR, rfl, _, hc0, rfl⟩) (Nat.le_of_ble_eq_true rfl) (Nat.le_of_ble_eq_true rfl) dL_remove_6
theorem dL_sweep_0 : decode cL_sweep 0 = .ok (.aload_n 0, 1) := by decide +kernel
theorem dL_sweep_1 : decode cL_sweep 1 = .ok (.invokevirtual 59, 3) := by decide +kernel
theorem dL_sweep_4 : decode cL_sweep 4 = .ok (.i2l, 1) := by decide +kernel
theorem dL_sweep_5 : decode cL_sweep 5 = .ok (.lreturn, 1) := by decide +kernel
theorem dL_sweep_6 : decode cL_sweep 6 = .ok (.astore_n 1, 1) := by decide +kernel
theorem dL_sweep_7 : decode cL_sweep 7 = .ok (.ldc2_w 21, 3) := by decide +kernel
theorem dL_sweep_10 : decode cL_sweep 10 = .ok (.lreturn, 1) := by decide +kernel
set_option maxHeartbeats 4000000 in
set_option maxRecDepth 100000 in
theorem cL_sweepH (l : Launch) (hst : l.stackTraces = false) (D : va_G) (cI cL cZ : ClassId) (ad : Nat → Nat) (dl : Nat → Nat → Nat) (sf sg : Nat → Option Nat) (hsf : ∀ j, j < 14 → sf j = some (dl j 0)) (hsg : ∀ j, j < 2 → sg j = some (dl (14 + j) 0)) (t : Nat → Int32) (n q : Nat) (hn : n ≤ 90) (hq : q ≤ 90) (vv : Nat → Int32) (nx ct : Nat) (hnx : nx < 14) (hct : ct ≤ 14) (uf : Nat → Int32) (zz : Nat → LgS) (hz : Inv (zz 16)) (hB : ∀ j, (zz j).1.2 ≤ 8)  : LH l yL_sweep cL_sweep 2 [(0, 5, 6, 19)] 7 165 D (pwB cI cL cZ ad dl sf sg t n q vv nx ct uf zz) [(cI, .int), (cL, (.object "TornPageLog$Log")), (cZ, .boolean)] [.ref (ad 1)] (fun (r9 : Int64) (u9 : List va_W) => ((c6swp (zz 16)) = 0 ∧ r9 = ((sbT (oI (cvZ (zz 16))).toNatClampNeg (zz 16)).1 : Int32).toInt64 ∧ u9 = pwB cI cL cZ ad dl sf sg t n q vv ((nx + 1) % 14) (if 14 < ct + 1 then 14 else ct + 1) uf (va_up (va_up zz 16 ((sbT (oI (cvZ (zz 16))).toNatClampNeg (zz 16)).2)) nx (zz 16))) ∨ (¬ (c6swp (zz 16)) = 0 ∧ r9 = (-9000000000000000003) ∧ u9 = pwB cI cL cZ ad dl sf sg t n q vv nx ct uf zz)) := by
  refine lh_of (by decide) rfl (Nat.le_of_ble_eq_true rfl) ?_
  intro p e s m below meth c ls H hX hTb hr hlocks hK hN hE hSW hZ hCN hP hD hS hl
  generalize gp_A (bw (pwB cI cL cZ ad dl sf sg t n q vv nx ct uf zz)) = A at hZ hD hS ⊢
  have hx := hX.1
  have hb := hX.2.1
  have hown := hX.2.2.2.1
  have hts := hX.2.2.2.2
  have hl : lv_has ls 2 [(0, .ref (ad 1))] := hl
  refine lv_aload_n hx hb dL_sweep_0 rfl (lv_at hl 0 rfl) ?_
  refine lh_callV (Bs := pwB cI cL cZ ad dl sf sg t n q vv nx ct uf zz) hX (c6_sweep l hst D cI cL (ad 1) (ad 2) (ad 4) (ad 6) (dl 16) (dl 17) (dl 18) (zz 16) hz (ad 5) sf nx ct hnx hct (dl nx) (zz nx) (hB nx) (hsf nx hnx)) ⟨by decide, by decide, show (parseMethodDescriptor yX6_sweep.desc).map (fun d => d.parameters.length) = some 0 by decide +kernel⟩ rfl (mlA 52 rfl) (mlA 53 rfl) (mlA 54 rfl) (mlA 55 rfl) ⟨Nat.le_of_ble_eq_true rfl, Nat.le_of_ble_eq_true rfl⟩ hK hN hE hSW hZ [0, 1] rfl hP hD hS [1, 8 + 16, 3, 4, 8 + nx] (by simp; try omega) (hcc cw_g1 (hcc (cw_get (j := 16) (by omega)) (hcc cw_g3 (hcc cw_g4 (hcc (cw_get (j := nx) (by omega)) (hcn)))))) rfl hl.1 rfl (Nat.le_of_ble_eq_true rfl) dL_sweep_1 ⟨Nat.le_of_ble_eq_true rfl, Nat.le_of_ble_eq_true rfl⟩ (fun r u h => by obtain ⟨-, -, rfl⟩ := h; rfl) (fun E u h => by obtain ⟨-, rfl⟩ := h; rfl) (fun E ce qex u H locs hxp hP hD hS hcell hcv hcl => ?_) (fun r u H locs hp hP hD hS => ?_)
  · obtain ⟨hE9, rfl⟩ := hxp
    have hP : va_P D vwCl (bw (pwB cI cL cZ ad dl sf sg t n q vv nx ct uf zz)) H := by
      rw [pwB, bput_c, cw_s1, bput_c, cw_set (j := 16) (by omega), va_id (k := 16) (rfl), bput_c, cw_s3, bput_c, cw_s4, bput_c, cw_set (j := nx) (by omega), va_id (k := nx) (rfl), bput_n] at hP
      exact hP
    have hD : va_D A (bw (pwB cI cL cZ ad dl sf sg t n q vv nx ct uf zz)) := by
      rw [pwB, bput_c, cw_s1, bput_c, cw_set (j := 16) (by omega), va_id (k := 16) (rfl), bput_c, cw_s3, bput_c, cw_s4, bput_c, cw_set (j := nx) (by omega), va_id (k := nx) (rfl), bput_n] at hD
      exact hD
    obtain ⟨rfl, hR⟩ := hE9
    · skip
      refine vx_catch hown [] ⟨0, 5, 6, 19⟩ [] (hTb.trans rfl) (fun z hz => nomatch hz) rfl (by decide) (hts _ (mlA 3 rfl)) (va_Nw.use rfl hE.2.2.2.2.1) hcell hcv hcl ?_
      refine lv_astore_n (lv' := [(1, .ref qex), (0, .ref (ad 1))]) hx hb dL_sweep_6 rfl hl (by decide) rfl (fun ls hl => ?_)
      refine lv_ldc2 (v := (-9000000000000000003)) hx hb hown (hts _ (mlA 5 rfl)) dL_sweep_7 ?_
      exact lh_ret hX hr hlocks hS hP (Or.inr ⟨by rw [hR]; decide, rfl, rfl⟩) (Nat.le_of_ble_eq_true rfl) (Nat.le_of_ble_eq_true rfl) dL_sweep_10
  · obtain ⟨hR, hr9, rfl⟩ := hp
    have hP : va_P D vwCl (bw (pwB cI cL cZ ad dl sf sg t n q vv ((nx + 1) % 14) (if 14 < ct + 1 then 14 else ct + 1) uf (va_up (va_up zz 16 ((sbT (oI (cvZ (zz 16))).toNatClampNeg (zz 16)).2)) nx (zz 16)))) H := by
      rw [pwB, bput_c, cw_s1, bput_c, cw_set (j := 16) (by omega), bput_c, cw_s3, bput_c, cw_s4, bput_c, cw_set (j := nx) (by omega), bput_n] at hP
      exact hP
    have hD : va_D A (bw (pwB cI cL cZ ad dl sf sg t n q vv ((nx + 1) % 14) (if 14 < ct + 1 then 14 else ct + 1) uf (va_up (va_up zz 16 ((sbT (oI (cvZ (zz 16))).toNatClampNeg (zz 16)).2)) nx (zz 16)))) := by
      rw [pwB, bput_c, cw_s1, bput_c, cw_set (j := 16) (by omega), bput_c, cw_s3, bput_c, cw_s4, bput_c, cw_set (j := nx) (by omega), bput_n] at hD
      exact hD
    refine lv_as hr9 ?_
    refine lv_i2l (v := ((sbT (oI (cvZ (zz 16))).toNatClampNeg (zz 16)).1 : Int32).toInt64) hx hb dL_sweep_4 (rfl) ?_
    exact lh_ret hX hr hlocks hS hP (Or.inl ⟨hR, rfl, rfl⟩) (Nat.le_of_ble_eq_true rfl) (Nat.le_of_ble_eq_true rfl) dL_sweep_5
theorem dL_cut_0 : decode cL_cut 0 = .ok (.aload_n 0, 1) := by decide +kernel
theorem dL_cut_1 : decode cL_cut 1 = .ok (.iload_n 1, 1) := by decide +kernel
theorem dL_cut_2 : decode cL_cut 2 = .ok (.invokevirtual 62, 3) := by decide +kernel
theorem dL_cut_5 : decode cL_cut 5 = .ok (.i2l, 1) := by decide +kernel
theorem dL_cut_6 : decode cL_cut 6 = .ok (.lreturn, 1) := by decide +kernel
theorem dL_cut_7 : decode cL_cut 7 = .ok (.astore_n 2, 1) := by decide +kernel
theorem dL_cut_8 : decode cL_cut 8 = .ok (.ldc2_w 17, 3) := by decide +kernel
theorem dL_cut_11 : decode cL_cut 11 = .ok (.lreturn, 1) := by decide +kernel
theorem dL_cut_12 : decode cL_cut 12 = .ok (.astore_n 2, 1) := by decide +kernel
theorem dL_cut_13 : decode cL_cut 13 = .ok (.ldc2_w 21, 3) := by decide +kernel
theorem dL_cut_16 : decode cL_cut 16 = .ok (.lreturn, 1) := by decide +kernel
set_option maxHeartbeats 4000000 in
set_option maxRecDepth 100000 in
theorem cL_cutH (l : Launch) (hst : l.stackTraces = false) (D : va_G) (cI cL cZ : ClassId) (ad : Nat → Nat) (dl : Nat → Nat → Nat) (sf sg : Nat → Option Nat) (hsf : ∀ j, j < 14 → sf j = some (dl j 0)) (hsg : ∀ j, j < 2 → sg j = some (dl (14 + j) 0)) (t : Nat → Int32) (n q : Nat) (hn : n ≤ 90) (hq : q ≤ 90) (vv : Nat → Int32) (nx ct : Nat) (hnx : nx < 14) (hct : ct ≤ 14) (uf : Nat → Int32) (zz : Nat → LgS) (hz : Inv (zz 16)) (hB : ∀ j, (zz j).1.2 ≤ 8) (ya : Int32) : LH l yL_cut cL_cut 3 [(0, 6, 7, 15), (0, 6, 12, 19)] 7 166 D (pwB cI cL cZ ad dl sf sg t n q vv nx ct uf zz) [(cI, .int), (cL, (.object "TornPageLog$Log")), (cZ, .boolean)] [.ref (ad 1), .int (ya)] (fun (r9 : Int64) (u9 : List va_W) => ((c6cut (zz 16) ya) = 0 ∧ r9 = ((zz 16).2.1 1 : Int32).toInt64 ∧ u9 = pwB cI cL cZ ad dl sf sg t n q vv ((nx + 1) % 14) (if 14 < ct + 1 then 14 else ct + 1) uf (va_up (va_up zz 16 (zC (zz 16) ya)) nx (zz 16))) ∨ (¬ (c6cut (zz 16) ya) = 0 ∧ r9 = (if (c6cut (zz 16) ya) = 1 then (-9000000000000000002) else (-9000000000000000003)) ∧ u9 = pwB cI cL cZ ad dl sf sg t n q vv nx ct uf zz)) := by
  refine lh_of (by decide) rfl (Nat.le_of_ble_eq_true rfl) ?_
  intro p e s m below meth c ls H hX hTb hr hlocks hK hN hE hSW hZ hCN hP hD hS hl
  generalize gp_A (bw (pwB cI cL cZ ad dl sf sg t n q vv nx ct uf zz)) = A at hZ hD hS ⊢
  have hx := hX.1
  have hb := hX.2.1
  have hown := hX.2.2.2.1
  have hts := hX.2.2.2.2
  have hl : lv_has ls 3 [(0, .ref (ad 1)), (1, .int (ya))] := hl
  refine lv_aload_n hx hb dL_cut_0 rfl (lv_at hl 0 rfl) ?_
  refine lv_iload_n hx hb dL_cut_1 rfl (lv_at hl 1 rfl) ?_
  refine lh_callV (Bs := pwB cI cL cZ ad dl sf sg t n q vv nx ct uf zz) hX (c6_cut l hst D cI cL (ad 1) (ad 2) (ad 4) (ad 6) (dl 16) (dl 17) (dl 18) (zz 16) hz (ad 5) sf nx ct hnx hct (dl nx) (zz nx) (hB nx) (hsf nx hnx) ya) ⟨by decide, by decide, show (parseMethodDescriptor yX6_cut.desc).map (fun d => d.parameters.length) = some 1 by decide +kernel⟩ rfl (mlA 56 rfl) (mlA 57 rfl) (mlA 58 rfl) (mlA 59 rfl) ⟨Nat.le_of_ble_eq_true rfl, Nat.le_of_ble_eq_true rfl⟩ hK hN hE hSW hZ [0, 1] rfl hP hD hS [1, 8 + 16, 3, 4, 8 + nx] (by simp; try omega) (hcc cw_g1 (hcc (cw_get (j := 16) (by omega)) (hcc cw_g3 (hcc cw_g4 (hcc (cw_get (j := nx) (by omega)) (hcn)))))) rfl hl.1 rfl (Nat.le_of_ble_eq_true rfl) dL_cut_2 ⟨Nat.le_of_ble_eq_true rfl, Nat.le_of_ble_eq_true rfl⟩ (fun r u h => by obtain ⟨-, -, rfl⟩ := h; rfl) (fun E u h => by obtain ⟨-, rfl⟩ := h; rfl) (fun E ce qex u H locs hxp hP hD hS hcell hcv hcl => ?_) (fun r u H locs hp hP hD hS => ?_)
  · obtain ⟨hE9, rfl⟩ := hxp
    have hP : va_P D vwCl (bw (pwB cI cL cZ ad dl sf sg t n q vv nx ct uf zz)) H := by
      rw [pwB, bput_c, cw_s1, bput_c, cw_set (j := 16) (by omega), va_id (k := 16) (rfl), bput_c, cw_s3, bput_c, cw_s4, bput_c, cw_set (j := nx) (by omega), va_id (k := nx) (rfl), bput_n] at hP
      exact hP
    have hD : va_D A (bw (pwB cI cL cZ ad dl sf sg t n q vv nx ct uf zz)) := by
      rw [pwB, bput_c, cw_s1, bput_c, cw_set (j := 16) (by omega), va_id (k := 16) (rfl), bput_c, cw_s3, bput_c, cw_s4, bput_c, cw_set (j := nx) (by omega), va_id (k := nx) (rfl), bput_n] at hD
      exact hD
    rcases hE9 with ⟨rfl, hR⟩ | ⟨rfl, hR⟩
    · skip
      refine vx_catch hown [] ⟨0, 6, 7, 15⟩ [⟨0, 6, 12, 19⟩] (hTb.trans rfl) (fun z hz => nomatch hz) rfl (by decide) (hts _ (mlA 2 rfl)) (va_Nw.use rfl hE.2.2.2.1) hcell hcv hcl ?_
      refine lv_astore_n (lv' := [(2, .ref qex), (0, .ref (ad 1)), (1, .int (ya))]) hx hb dL_cut_7 rfl hl (by decide) rfl (fun ls hl => ?_)
      refine lv_ldc2 (v := (-9000000000000000002)) hx hb hown (hts _ (mlA 4 rfl)) dL_cut_8 ?_
      exact lh_ret hX hr hlocks hS hP (Or.inr ⟨by rw [hR]; decide, by rw [hR]; rfl, rfl⟩) (Nat.le_of_ble_eq_true rfl) (Nat.le_of_ble_eq_true rfl) dL_cut_11
    · skip
      refine vx_catch hown [⟨0, 6, 7, 15⟩] ⟨0, 6, 12, 19⟩ [] (hTb.trans rfl) (fun z hz => by rw [List.mem_singleton.mp hz]; exact Or.inr ⟨by decide, xIA, hts _ (mlA 2 rfl), hCN.1⟩) rfl (by decide) (hts _ (mlA 3 rfl)) (va_Nw.use rfl hE.2.2.2.2.1) hcell hcv hcl ?_
      refine lv_astore_n (lv' := [(2, .ref qex), (0, .ref (ad 1)), (1, .int (ya))]) hx hb dL_cut_12 rfl hl (by decide) rfl (fun ls hl => ?_)
      refine lv_ldc2 (v := (-9000000000000000003)) hx hb hown (hts _ (mlA 5 rfl)) dL_cut_13 ?_
      exact lh_ret hX hr hlocks hS hP (Or.inr ⟨by rw [hR]; decide, by rw [hR]; rfl, rfl⟩) (Nat.le_of_ble_eq_true rfl) (Nat.le_of_ble_eq_true rfl) dL_cut_16
  · obtain ⟨hR, hr9, rfl⟩ := hp
    have hP : va_P D vwCl (bw (pwB cI cL cZ ad dl sf sg t n q vv ((nx + 1) % 14) (if 14 < ct + 1 then 14 else ct + 1) uf (va_up (va_up zz 16 (zC (zz 16) ya)) nx (zz 16)))) H := by
      rw [pwB, bput_c, cw_s1, bput_c, cw_set (j := 16) (by omega), bput_c, cw_s3, bput_c, cw_s4, bput_c, cw_set (j := nx) (by omega), bput_n] at hP
      exact hP
    have hD : va_D A (bw (pwB cI cL cZ ad dl sf sg t n q vv ((nx + 1) % 14) (if 14 < ct + 1 then 14 else ct + 1) uf (va_up (va_up zz 16 (zC (zz 16) ya)) nx (zz 16)))) := by
      rw [pwB, bput_c, cw_s1, bput_c, cw_set (j := 16) (by omega), bput_c, cw_s3, bput_c, cw_s4, bput_c, cw_set (j := nx) (by omega), bput_n] at hD
      exact hD
    refine lv_as hr9 ?_
    refine lv_i2l (v := ((zz 16).2.1 1 : Int32).toInt64) hx hb dL_cut_5 (rfl) ?_
    exact lh_ret hX hr hlocks hS hP (Or.inl ⟨hR, rfl, rfl⟩) (Nat.le_of_ble_eq_true rfl) (Nat.le_of_ble_eq_true rfl) dL_cut_6
theorem dL_start_0 : decode cL_start 0 = .ok (.aload_n 0, 1) := by decide +kernel
theorem dL_start_1 : decode cL_start 1 = .ok (.invokevirtual 65, 3) := by decide +kernel
theorem dL_start_4 : decode cL_start 4 = .ok (.i2l, 1) := by decide +kernel
theorem dL_start_5 : decode cL_start 5 = .ok (.lreturn, 1) := by decide +kernel
theorem dL_start_6 : decode cL_start 6 = .ok (.astore_n 1, 1) := by decide +kernel
theorem dL_start_7 : decode cL_start 7 = .ok (.ldc2_w 21, 3) := by decide +kernel
theorem dL_start_10 : decode cL_start 10 = .ok (.lreturn, 1) := by decide +kernel
set_option maxHeartbeats 4000000 in
set_option maxRecDepth 100000 in
theorem cL_startH (l : Launch) (hst : l.stackTraces = false) (D : va_G) (cI cL cZ : ClassId) (ad : Nat → Nat) (dl : Nat → Nat → Nat) (sf sg : Nat → Option Nat) (hsf : ∀ j, j < 14 → sf j = some (dl j 0)) (hsg : ∀ j, j < 2 → sg j = some (dl (14 + j) 0)) (t : Nat → Int32) (n q : Nat) (hn : n ≤ 90) (hq : q ≤ 90) (vv : Nat → Int32) (nx ct : Nat) (hnx : nx < 14) (hct : ct ≤ 14) (uf : Nat → Int32) (zz : Nat → LgS) (hz : Inv (zz 16)) (hB : ∀ j, (zz j).1.2 ≤ 8)  : LH l yL_start cL_start 2 [(0, 5, 6, 19)] 7 164 D (pwB cI cL cZ ad dl sf sg t n q vv nx ct uf zz) [(cI, .int), (cL, (.object "TornPageLog$Log")), (cZ, .boolean)] [.ref (ad 1)] (fun (r9 : Int64) (u9 : List va_W) => ((c6sta (zz 16)) = 0 ∧ r9 = (nI (ckZ (zSw (zz 16)) 16) : Int32).toInt64 ∧ u9 = pwB cI cL cZ ad dl sf sg t n q vv ((nx + 1) % 14) (if 14 < ct + 1 then 14 else ct + 1) uf (va_up (va_up zz 16 (zSw (zz 16))) nx (zz 16))) ∨ (¬ (c6sta (zz 16)) = 0 ∧ r9 = (-9000000000000000003) ∧ u9 = pwB cI cL cZ ad dl sf sg t n q vv nx ct uf zz)) := by
  refine lh_of (by decide) rfl (Nat.le_of_ble_eq_true rfl) ?_
  intro p e s m below meth c ls H hX hTb hr hlocks hK hN hE hSW hZ hCN hP hD hS hl
  generalize gp_A (bw (pwB cI cL cZ ad dl sf sg t n q vv nx ct uf zz)) = A at hZ hD hS ⊢
  have hx := hX.1
  have hb := hX.2.1
  have hown := hX.2.2.2.1
  have hts := hX.2.2.2.2
  have hl : lv_has ls 2 [(0, .ref (ad 1))] := hl
  refine lv_aload_n hx hb dL_start_0 rfl (lv_at hl 0 rfl) ?_
  refine lh_callV (Bs := pwB cI cL cZ ad dl sf sg t n q vv nx ct uf zz) hX (c6_start l hst D cI cL (ad 1) (ad 2) (ad 4) (ad 6) (dl 16) (dl 17) (dl 18) (zz 16) hz (ad 5) sf nx ct hnx hct (dl nx) (zz nx) (hB nx) (hsf nx hnx)) ⟨by decide, by decide, show (parseMethodDescriptor yX6_start.desc).map (fun d => d.parameters.length) = some 0 by decide +kernel⟩ rfl (mlA 60 rfl) (mlA 61 rfl) (mlA 62 rfl) (mlA 63 rfl) ⟨Nat.le_of_ble_eq_true rfl, Nat.le_of_ble_eq_true rfl⟩ hK hN hE hSW hZ [0, 1] rfl hP hD hS [1, 8 + 16, 3, 4, 8 + nx] (by simp; try omega) (hcc cw_g1 (hcc (cw_get (j := 16) (by omega)) (hcc cw_g3 (hcc cw_g4 (hcc (cw_get (j := nx) (by omega)) (hcn)))))) rfl hl.1 rfl (Nat.le_of_ble_eq_true rfl) dL_start_1 ⟨Nat.le_of_ble_eq_true rfl, Nat.le_of_ble_eq_true rfl⟩ (fun r u h => by obtain ⟨-, -, rfl⟩ := h; rfl) (fun E u h => by obtain ⟨-, rfl⟩ := h; rfl) (fun E ce qex u H locs hxp hP hD hS hcell hcv hcl => ?_) (fun r u H locs hp hP hD hS => ?_)
  · obtain ⟨hE9, rfl⟩ := hxp
    have hP : va_P D vwCl (bw (pwB cI cL cZ ad dl sf sg t n q vv nx ct uf zz)) H := by
      rw [pwB, bput_c, cw_s1, bput_c, cw_set (j := 16) (by omega), va_id (k := 16) (rfl), bput_c, cw_s3, bput_c, cw_s4, bput_c, cw_set (j := nx) (by omega), va_id (k := nx) (rfl), bput_n] at hP
      exact hP
    have hD : va_D A (bw (pwB cI cL cZ ad dl sf sg t n q vv nx ct uf zz)) := by
      rw [pwB, bput_c, cw_s1, bput_c, cw_set (j := 16) (by omega), va_id (k := 16) (rfl), bput_c, cw_s3, bput_c, cw_s4, bput_c, cw_set (j := nx) (by omega), va_id (k := nx) (rfl), bput_n] at hD
      exact hD
    obtain ⟨rfl, hR⟩ := hE9
    · skip
      refine vx_catch hown [] ⟨0, 5, 6, 19⟩ [] (hTb.trans rfl) (fun z hz => nomatch hz) rfl (by decide) (hts _ (mlA 3 rfl)) (va_Nw.use rfl hE.2.2.2.2.1) hcell hcv hcl ?_
      refine lv_astore_n (lv' := [(1, .ref qex), (0, .ref (ad 1))]) hx hb dL_start_6 rfl hl (by decide) rfl (fun ls hl => ?_)
      refine lv_ldc2 (v := (-9000000000000000003)) hx hb hown (hts _ (mlA 5 rfl)) dL_start_7 ?_
      exact lh_ret hX hr hlocks hS hP (Or.inr ⟨by rw [hR]; decide, rfl, rfl⟩) (Nat.le_of_ble_eq_true rfl) (Nat.le_of_ble_eq_true rfl) dL_start_10
  · obtain ⟨hR, hr9, rfl⟩ := hp
    have hP : va_P D vwCl (bw (pwB cI cL cZ ad dl sf sg t n q vv ((nx + 1) % 14) (if 14 < ct + 1 then 14 else ct + 1) uf (va_up (va_up zz 16 (zSw (zz 16))) nx (zz 16)))) H := by
      rw [pwB, bput_c, cw_s1, bput_c, cw_set (j := 16) (by omega), bput_c, cw_s3, bput_c, cw_s4, bput_c, cw_set (j := nx) (by omega), bput_n] at hP
      exact hP
    have hD : va_D A (bw (pwB cI cL cZ ad dl sf sg t n q vv ((nx + 1) % 14) (if 14 < ct + 1 then 14 else ct + 1) uf (va_up (va_up zz 16 (zSw (zz 16))) nx (zz 16)))) := by
      rw [pwB, bput_c, cw_s1, bput_c, cw_set (j := 16) (by omega), bput_c, cw_s3, bput_c, cw_s4, bput_c, cw_set (j := nx) (by omega), bput_n] at hD
      exact hD
    refine lv_as hr9 ?_
    refine lv_i2l (v := (nI (ckZ (zSw (zz 16)) 16) : Int32).toInt64) hx hb dL_start_4 (rfl) ?_
    exact lh_ret hX hr hlocks hS hP (Or.inl ⟨hR, rfl, rfl⟩) (Nat.le_of_ble_eq_true rfl) (Nat.le_of_ble_eq_true rfl) dL_start_5
theorem dL_setPolicy_0 : decode cL_setPolicy 0 = .ok (.aload_n 0, 1) := by decide +kernel
theorem dL_setPolicy_1 : decode cL_setPolicy 1 = .ok (.iload_n 1, 1) := by decide +kernel
theorem dL_setPolicy_2 : decode cL_setPolicy 2 = .ok (.invokevirtual 68, 3) := by decide +kernel
theorem dL_setPolicy_5 : decode cL_setPolicy 5 = .ok (.i2l, 1) := by decide +kernel
theorem dL_setPolicy_6 : decode cL_setPolicy 6 = .ok (.lreturn, 1) := by decide +kernel
theorem dL_setPolicy_7 : decode cL_setPolicy 7 = .ok (.astore_n 2, 1) := by decide +kernel
theorem dL_setPolicy_8 : decode cL_setPolicy 8 = .ok (.ldc2_w 17, 3) := by decide +kernel
theorem dL_setPolicy_11 : decode cL_setPolicy 11 = .ok (.lreturn, 1) := by decide +kernel
set_option maxHeartbeats 4000000 in
set_option maxRecDepth 100000 in
theorem cL_setPolicyH (l : Launch) (hst : l.stackTraces = false) (D : va_G) (cI cL cZ : ClassId) (ad : Nat → Nat) (dl : Nat → Nat → Nat) (sf sg : Nat → Option Nat) (hsf : ∀ j, j < 14 → sf j = some (dl j 0)) (hsg : ∀ j, j < 2 → sg j = some (dl (14 + j) 0)) (t : Nat → Int32) (n q : Nat) (hn : n ≤ 90) (hq : q ≤ 90) (vv : Nat → Int32) (nx ct : Nat) (hnx : nx < 14) (hct : ct ≤ 14) (uf : Nat → Int32) (zz : Nat → LgS) (hz : Inv (zz 16)) (hB : ∀ j, (zz j).1.2 ≤ 8) (ya : Int32) : LH l yL_setPolicy cL_setPolicy 3 [(0, 6, 7, 15)] 7 166 D (pwB cI cL cZ ad dl sf sg t n q vv nx ct uf zz) [(cI, .int), (cL, (.object "TornPageLog$Log")), (cZ, .boolean)] [.ref (ad 1), .int (ya)] (fun (r9 : Int64) (u9 : List va_W) => ((c6r ya 2) = 0 ∧ r9 = ((zz 16).2.1 0 : Int32).toInt64 ∧ u9 = pwB cI cL cZ ad dl sf sg t n q vv ((nx + 1) % 14) (if 14 < ct + 1 then 14 else ct + 1) uf (va_up (va_up zz 16 (zPo (zz 16) ya)) nx (zz 16))) ∨ (¬ (c6r ya 2) = 0 ∧ r9 = (-9000000000000000002) ∧ u9 = pwB cI cL cZ ad dl sf sg t n q vv nx ct uf zz)) := by
  refine lh_of (by decide) rfl (Nat.le_of_ble_eq_true rfl) ?_
  intro p e s m below meth c ls H hX hTb hr hlocks hK hN hE hSW hZ hCN hP hD hS hl
  generalize gp_A (bw (pwB cI cL cZ ad dl sf sg t n q vv nx ct uf zz)) = A at hZ hD hS ⊢
  have hx := hX.1
  have hb := hX.2.1
  have hown := hX.2.2.2.1
  have hts := hX.2.2.2.2
  have hl : lv_has ls 3 [(0, .ref (ad 1)), (1, .int (ya))] := hl
  refine lv_aload_n hx hb dL_setPolicy_0 rfl (lv_at hl 0 rfl) ?_
  refine lv_iload_n hx hb dL_setPolicy_1 rfl (lv_at hl 1 rfl) ?_
  refine lh_callV (Bs := pwB cI cL cZ ad dl sf sg t n q vv nx ct uf zz) hX (c6_setPolicy l hst D cI cL (ad 1) (ad 2) (ad 4) (ad 6) (dl 16) (dl 17) (dl 18) (zz 16) hz (ad 5) sf nx ct hnx hct (dl nx) (zz nx) (hB nx) (hsf nx hnx) ya) ⟨by decide, by decide, show (parseMethodDescriptor yX6_setPolicy.desc).map (fun d => d.parameters.length) = some 1 by decide +kernel⟩ rfl (mlA 64 rfl) (mlA 65 rfl) (mlA 66 rfl) (mlA 67 rfl) ⟨Nat.le_of_ble_eq_true rfl, Nat.le_of_ble_eq_true rfl⟩ hK hN hE hSW hZ [0, 1] rfl hP hD hS [1, 8 + 16, 3, 4, 8 + nx] (by simp; try omega) (hcc cw_g1 (hcc (cw_get (j := 16) (by omega)) (hcc cw_g3 (hcc cw_g4 (hcc (cw_get (j := nx) (by omega)) (hcn)))))) rfl hl.1 rfl (Nat.le_of_ble_eq_true rfl) dL_setPolicy_2 ⟨Nat.le_of_ble_eq_true rfl, Nat.le_of_ble_eq_true rfl⟩ (fun r u h => by obtain ⟨-, -, rfl⟩ := h; rfl) (fun E u h => by obtain ⟨-, rfl⟩ := h; rfl) (fun E ce qex u H locs hxp hP hD hS hcell hcv hcl => ?_) (fun r u H locs hp hP hD hS => ?_)
  · obtain ⟨hE9, rfl⟩ := hxp
    have hP : va_P D vwCl (bw (pwB cI cL cZ ad dl sf sg t n q vv nx ct uf zz)) H := by
      rw [pwB, bput_c, cw_s1, bput_c, cw_set (j := 16) (by omega), va_id (k := 16) (rfl), bput_c, cw_s3, bput_c, cw_s4, bput_c, cw_set (j := nx) (by omega), va_id (k := nx) (rfl), bput_n] at hP
      exact hP
    have hD : va_D A (bw (pwB cI cL cZ ad dl sf sg t n q vv nx ct uf zz)) := by
      rw [pwB, bput_c, cw_s1, bput_c, cw_set (j := 16) (by omega), va_id (k := 16) (rfl), bput_c, cw_s3, bput_c, cw_s4, bput_c, cw_set (j := nx) (by omega), va_id (k := nx) (rfl), bput_n] at hD
      exact hD
    obtain ⟨rfl, hR⟩ := hE9
    · skip
      refine vx_catch hown [] ⟨0, 6, 7, 15⟩ [] (hTb.trans rfl) (fun z hz => nomatch hz) rfl (by decide) (hts _ (mlA 2 rfl)) (va_Nw.use rfl hE.2.2.2.1) hcell hcv hcl ?_
      refine lv_astore_n (lv' := [(2, .ref qex), (0, .ref (ad 1)), (1, .int (ya))]) hx hb dL_setPolicy_7 rfl hl (by decide) rfl (fun ls hl => ?_)
      refine lv_ldc2 (v := (-9000000000000000002)) hx hb hown (hts _ (mlA 4 rfl)) dL_setPolicy_8 ?_
      exact lh_ret hX hr hlocks hS hP (Or.inr ⟨by rw [hR]; decide, rfl, rfl⟩) (Nat.le_of_ble_eq_true rfl) (Nat.le_of_ble_eq_true rfl) dL_setPolicy_11
  · obtain ⟨hR, hr9, rfl⟩ := hp
    have hP : va_P D vwCl (bw (pwB cI cL cZ ad dl sf sg t n q vv ((nx + 1) % 14) (if 14 < ct + 1 then 14 else ct + 1) uf (va_up (va_up zz 16 (zPo (zz 16) ya)) nx (zz 16)))) H := by
      rw [pwB, bput_c, cw_s1, bput_c, cw_set (j := 16) (by omega), bput_c, cw_s3, bput_c, cw_s4, bput_c, cw_set (j := nx) (by omega), bput_n] at hP
      exact hP
    have hD : va_D A (bw (pwB cI cL cZ ad dl sf sg t n q vv ((nx + 1) % 14) (if 14 < ct + 1 then 14 else ct + 1) uf (va_up (va_up zz 16 (zPo (zz 16) ya)) nx (zz 16)))) := by
      rw [pwB, bput_c, cw_s1, bput_c, cw_set (j := 16) (by omega), bput_c, cw_s3, bput_c, cw_s4, bput_c, cw_set (j := nx) (by omega), bput_n] at hD
      exact hD
    refine lv_as hr9 ?_
    refine lv_i2l (v := ((zz 16).2.1 0 : Int32).toInt64) hx hb dL_setPolicy_5 (rfl) ?_
    exact lh_ret hX hr hlocks hS hP (Or.inl ⟨hR, rfl, rfl⟩) (Nat.le_of_ble_eq_true rfl) (Nat.le_of_ble_eq_true rfl) dL_setPolicy_6
theorem dL_undo_0 : decode cL_undo 0 = .ok (.aload_n 0, 1) := by decide +kernel
theorem dL_undo_1 : decode cL_undo 1 = .ok (.invokevirtual 71, 3) := by decide +kernel
theorem dL_undo_4 : decode cL_undo 4 = .ok (.i2l, 1) := by decide +kernel
theorem dL_undo_5 : decode cL_undo 5 = .ok (.lreturn, 1) := by decide +kernel
theorem dL_undo_6 : decode cL_undo 6 = .ok (.astore_n 1, 1) := by decide +kernel
theorem dL_undo_7 : decode cL_undo 7 = .ok (.ldc2_w 21, 3) := by decide +kernel
theorem dL_undo_10 : decode cL_undo 10 = .ok (.lreturn, 1) := by decide +kernel
set_option maxHeartbeats 4000000 in
set_option maxRecDepth 100000 in
theorem cL_undoH (l : Launch) (hst : l.stackTraces = false) (D : va_G) (cI cL cZ : ClassId) (ad : Nat → Nat) (dl : Nat → Nat → Nat) (sf sg : Nat → Option Nat) (hsf : ∀ j, j < 14 → sf j = some (dl j 0)) (hsg : ∀ j, j < 2 → sg j = some (dl (14 + j) 0)) (t : Nat → Int32) (n q : Nat) (hn : n ≤ 90) (hq : q ≤ 90) (vv : Nat → Int32) (nx ct : Nat) (hnx : nx < 14) (hct : ct ≤ 14) (uf : Nat → Int32) (zz : Nat → LgS) (hz : Inv (zz 16)) (hB : ∀ j, (zz j).1.2 ≤ 8)  : LH l yL_undo cL_undo 2 [(0, 5, 6, 19)] 7 164 D (pwB cI cL cZ ad dl sf sg t n q vv nx ct uf zz) [(cI, .int), (cL, (.object "TornPageLog$Log")), (cZ, .boolean)] [.ref (ad 1)] (fun (r9 : Int64) (u9 : List va_W) => ((c6und ct) = 0 ∧ r9 = (nI (ct - 1) : Int32).toInt64 ∧ u9 = pwB cI cL cZ ad dl sf sg t n q vv ((nx + 14 - 1) % 14) (ct - 1) uf (va_up zz 16 (zz ((nx + 14 - 1) % 14)))) ∨ (¬ (c6und ct) = 0 ∧ r9 = (-9000000000000000003) ∧ u9 = pwB cI cL cZ ad dl sf sg t n q vv nx ct uf zz)) := by
  refine lh_of (by decide) rfl (Nat.le_of_ble_eq_true rfl) ?_
  intro p e s m below meth c ls H hX hTb hr hlocks hK hN hE hSW hZ hCN hP hD hS hl
  generalize gp_A (bw (pwB cI cL cZ ad dl sf sg t n q vv nx ct uf zz)) = A at hZ hD hS ⊢
  have hx := hX.1
  have hb := hX.2.1
  have hown := hX.2.2.2.1
  have hts := hX.2.2.2.2
  have hl : lv_has ls 2 [(0, .ref (ad 1))] := hl
  refine lv_aload_n hx hb dL_undo_0 rfl (lv_at hl 0 rfl) ?_
  refine lh_callV (Bs := pwB cI cL cZ ad dl sf sg t n q vv nx ct uf zz) hX (c6_undo l hst D cI cL (ad 1) (ad 2) (ad 4) (ad 6) (dl 16) (dl 17) (dl 18) (zz 16) hz (ad 5) sf nx ct hnx hct (dl ((nx + 14 - 1) % 14)) (zz ((nx + 14 - 1) % 14)) (hB ((nx + 14 - 1) % 14)) (hsf ((nx + 14 - 1) % 14) (Nat.mod_lt _ (by decide)))) ⟨by decide, by decide, show (parseMethodDescriptor yX6_undo.desc).map (fun d => d.parameters.length) = some 0 by decide +kernel⟩ rfl (mlA 68 rfl) (mlA 69 rfl) (mlA 70 rfl) (mlA 71 rfl) ⟨Nat.le_of_ble_eq_true rfl, Nat.le_of_ble_eq_true rfl⟩ hK hN hE hSW hZ [0, 1] rfl hP hD hS [1, 8 + 16, 3, 4, 8 + ((nx + 14 - 1) % 14)] (by simp; try omega) (hcc cw_g1 (hcc (cw_get (j := 16) (by omega)) (hcc cw_g3 (hcc cw_g4 (hcc (cw_get (j := ((nx + 14 - 1) % 14)) (by omega)) (hcn)))))) rfl hl.1 rfl (Nat.le_of_ble_eq_true rfl) dL_undo_1 ⟨Nat.le_of_ble_eq_true rfl, Nat.le_of_ble_eq_true rfl⟩ (fun r u h => by obtain ⟨-, -, rfl⟩ := h; rfl) (fun E u h => by obtain ⟨-, rfl⟩ := h; rfl) (fun E ce qex u H locs hxp hP hD hS hcell hcv hcl => ?_) (fun r u H locs hp hP hD hS => ?_)
  · obtain ⟨hE9, rfl⟩ := hxp
    have hP : va_P D vwCl (bw (pwB cI cL cZ ad dl sf sg t n q vv nx ct uf zz)) H := by
      rw [pwB, bput_c, cw_s1, bput_c, cw_set (j := 16) (by omega), va_id (k := 16) (rfl), bput_c, cw_s3, bput_c, cw_s4, bput_c, cw_set (j := ((nx + 14 - 1) % 14)) (by omega), va_id (k := ((nx + 14 - 1) % 14)) (rfl), bput_n] at hP
      exact hP
    have hD : va_D A (bw (pwB cI cL cZ ad dl sf sg t n q vv nx ct uf zz)) := by
      rw [pwB, bput_c, cw_s1, bput_c, cw_set (j := 16) (by omega), va_id (k := 16) (rfl), bput_c, cw_s3, bput_c, cw_s4, bput_c, cw_set (j := ((nx + 14 - 1) % 14)) (by omega), va_id (k := ((nx + 14 - 1) % 14)) (rfl), bput_n] at hD
      exact hD
    obtain ⟨rfl, hR⟩ := hE9
    · skip
      refine vx_catch hown [] ⟨0, 5, 6, 19⟩ [] (hTb.trans rfl) (fun z hz => nomatch hz) rfl (by decide) (hts _ (mlA 3 rfl)) (va_Nw.use rfl hE.2.2.2.2.1) hcell hcv hcl ?_
      refine lv_astore_n (lv' := [(1, .ref qex), (0, .ref (ad 1))]) hx hb dL_undo_6 rfl hl (by decide) rfl (fun ls hl => ?_)
      refine lv_ldc2 (v := (-9000000000000000003)) hx hb hown (hts _ (mlA 5 rfl)) dL_undo_7 ?_
      exact lh_ret hX hr hlocks hS hP (Or.inr ⟨by rw [hR]; decide, rfl, rfl⟩) (Nat.le_of_ble_eq_true rfl) (Nat.le_of_ble_eq_true rfl) dL_undo_10
  · obtain ⟨hR, hr9, rfl⟩ := hp
    have hP : va_P D vwCl (bw (pwB cI cL cZ ad dl sf sg t n q vv ((nx + 14 - 1) % 14) (ct - 1) uf (va_up zz 16 (zz ((nx + 14 - 1) % 14))))) H := by
      rw [pwB, bput_c, cw_s1, bput_c, cw_set (j := 16) (by omega), bput_c, cw_s3, bput_c, cw_s4, bput_c, cw_set (j := ((nx + 14 - 1) % 14)) (by omega), va_id (k := ((nx + 14 - 1) % 14)) (by simp only [va_up]; rw [if_neg (by omega)]), bput_n] at hP
      exact hP
    have hD : va_D A (bw (pwB cI cL cZ ad dl sf sg t n q vv ((nx + 14 - 1) % 14) (ct - 1) uf (va_up zz 16 (zz ((nx + 14 - 1) % 14))))) := by
      rw [pwB, bput_c, cw_s1, bput_c, cw_set (j := 16) (by omega), bput_c, cw_s3, bput_c, cw_s4, bput_c, cw_set (j := ((nx + 14 - 1) % 14)) (by omega), va_id (k := ((nx + 14 - 1) % 14)) (by simp only [va_up]; rw [if_neg (by omega)]), bput_n] at hD
      exact hD
    refine lv_as hr9 ?_
    refine lv_i2l (v := (nI (ct - 1) : Int32).toInt64) hx hb dL_undo_4 (rfl) ?_
    exact lh_ret hX hr hlocks hS hP (Or.inl ⟨hR, rfl, rfl⟩) (Nat.le_of_ble_eq_true rfl) (Nat.le_of_ble_eq_true rfl) dL_undo_5
theorem dL_operations_0 : decode cL_operations 0 = .ok (.aload_n 0, 1) := by decide +kernel
theorem dL_operations_1 : decode cL_operations 1 = .ok (.invokevirtual 74, 3) := by decide +kernel
theorem dL_operations_4 : decode cL_operations 4 = .ok (.i2l, 1) := by decide +kernel
theorem dL_operations_5 : decode cL_operations 5 = .ok (.lreturn, 1) := by decide +kernel
theorem dL_operations_6 : decode cL_operations 6 = .ok (.astore_n 1, 1) := by decide +kernel
theorem dL_operations_7 : decode cL_operations 7 = .ok (.ldc2_w 21, 3) := by decide +kernel
theorem dL_operations_10 : decode cL_operations 10 = .ok (.lreturn, 1) := by decide +kernel
set_option maxHeartbeats 4000000 in
set_option maxRecDepth 100000 in
theorem cL_operationsH (l : Launch) (hst : l.stackTraces = false) (D : va_G) (cI cL cZ : ClassId) (ad : Nat → Nat) (dl : Nat → Nat → Nat) (sf sg : Nat → Option Nat) (hsf : ∀ j, j < 14 → sf j = some (dl j 0)) (hsg : ∀ j, j < 2 → sg j = some (dl (14 + j) 0)) (t : Nat → Int32) (n q : Nat) (hn : n ≤ 90) (hq : q ≤ 90) (vv : Nat → Int32) (nx ct : Nat) (hnx : nx < 14) (hct : ct ≤ 14) (uf : Nat → Int32) (zz : Nat → LgS) (hz : Inv (zz 16)) (hB : ∀ j, (zz j).1.2 ≤ 8)  : LH l yL_operations cL_operations 2 [(0, 5, 6, 19)] 7 165 D (pwB cI cL cZ ad dl sf sg t n q vv nx ct uf zz) [(cI, .int), (cL, (.object "TornPageLog$Log")), (cZ, .boolean)] [.ref (ad 1)] (fun (r9 : Int64) (u9 : List va_W) => ((c6ops (zz 16)) = 0 ∧ r9 = (csV (zz 16) : Int32).toInt64 ∧ ∃ zt9 : LgS, (zt9.1.2 ≤ 8) ∧ u9 = pwB cI cL cZ ad dl sf sg t n q vv nx ct uf (va_up zz 18 zt9)) ∨ (¬ (c6ops (zz 16)) = 0 ∧ r9 = (-9000000000000000003) ∧ ∃ zt9 : LgS, (zt9.1.2 ≤ 8) ∧ u9 = pwB cI cL cZ ad dl sf sg t n q vv nx ct uf (va_up zz 18 zt9))) := by
  refine lh_of (by decide) rfl (Nat.le_of_ble_eq_true rfl) ?_
  intro p e s m below meth c ls H hX hTb hr hlocks hK hN hE hSW hZ hCN hP hD hS hl
  generalize gp_A (bw (pwB cI cL cZ ad dl sf sg t n q vv nx ct uf zz)) = A at hZ hD hS ⊢
  have hx := hX.1
  have hb := hX.2.1
  have hown := hX.2.2.2.1
  have hts := hX.2.2.2.2
  have hl : lv_has ls 2 [(0, .ref (ad 1))] := hl
  refine lv_aload_n hx hb dL_operations_0 rfl (lv_at hl 0 rfl) ?_
  refine lh_callV (Bs := pwB cI cL cZ ad dl sf sg t n q vv nx ct uf zz) hX (c6_operations l hst D cI (ad 1) (ad 2) (ad 4) (ad 6) (dl 16) (dl 17) (dl 18) (zz 16) hz (zz 18) (hB 18)) ⟨by decide, by decide, show (parseMethodDescriptor yX6_operations.desc).map (fun d => d.parameters.length) = some 0 by decide +kernel⟩ rfl (mlA 72 rfl) (mlA 73 rfl) (mlA 74 rfl) (mlA 75 rfl) ⟨Nat.le_of_ble_eq_true rfl, Nat.le_of_ble_eq_true rfl⟩ hK hN hE hSW hZ [0] rfl hP hD hS [1, 8 + 16, 8 + 18] (by simp; try omega) (hcc cw_g1 (hcc (cw_get (j := 16) (by omega)) (hcc (cw_get (j := 18) (by omega)) (hcn)))) rfl hl.1 rfl (Nat.le_of_ble_eq_true rfl) dL_operations_1 ⟨Nat.le_of_ble_eq_true rfl, Nat.le_of_ble_eq_true rfl⟩ (fun r u h => by obtain ⟨-, -, zt9, hc0, rfl⟩ := h; rfl) (fun E u h => by obtain ⟨-, zt9, hc0, rfl⟩ := h; rfl) (fun E ce qex u H locs hxp hP hD hS hcell hcv hcl => ?_) (fun r u H locs hp hP hD hS => ?_)
  · obtain ⟨hE9, zt9, hc0, rfl⟩ := hxp
    have hP : va_P D vwCl (bw (pwB cI cL cZ ad dl sf sg t n q vv nx ct uf (va_up zz 18 zt9))) H := by
      rw [pwB, bput_c, cw_s1, bput_c, cw_set (j := 16) (by omega), va_id (k := 16) (rfl), bput_c, cw_set (j := 18) (by omega), bput_n] at hP
      exact hP
    have hD : va_D A (bw (pwB cI cL cZ ad dl sf sg t n q vv nx ct uf (va_up zz 18 zt9))) := by
      rw [pwB, bput_c, cw_s1, bput_c, cw_set (j := 16) (by omega), va_id (k := 16) (rfl), bput_c, cw_set (j := 18) (by omega), bput_n] at hD
      exact hD
    obtain ⟨rfl, hR⟩ := hE9
    · skip
      refine vx_catch hown [] ⟨0, 5, 6, 19⟩ [] (hTb.trans rfl) (fun z hz => nomatch hz) rfl (by decide) (hts _ (mlA 3 rfl)) (va_Nw.use rfl hE.2.2.2.2.1) hcell hcv hcl ?_
      refine lv_astore_n (lv' := [(1, .ref qex), (0, .ref (ad 1))]) hx hb dL_operations_6 rfl hl (by decide) rfl (fun ls hl => ?_)
      refine lv_ldc2 (v := (-9000000000000000003)) hx hb hown (hts _ (mlA 5 rfl)) dL_operations_7 ?_
      exact lh_ret hX hr hlocks hS hP (Or.inr ⟨by rw [hR]; decide, rfl, _, hc0, rfl⟩) (Nat.le_of_ble_eq_true rfl) (Nat.le_of_ble_eq_true rfl) dL_operations_10
  · obtain ⟨hR, hr9, zt9, hc0, rfl⟩ := hp
    have hP : va_P D vwCl (bw (pwB cI cL cZ ad dl sf sg t n q vv nx ct uf (va_up zz 18 zt9))) H := by
      rw [pwB, bput_c, cw_s1, bput_c, cw_set (j := 16) (by omega), va_id (k := 16) (rfl), bput_c, cw_set (j := 18) (by omega), bput_n] at hP
      exact hP
    have hD : va_D A (bw (pwB cI cL cZ ad dl sf sg t n q vv nx ct uf (va_up zz 18 zt9))) := by
      rw [pwB, bput_c, cw_s1, bput_c, cw_set (j := 16) (by omega), va_id (k := 16) (rfl), bput_c, cw_set (j := 18) (by omega), bput_n] at hD
      exact hD
    refine lv_as hr9 ?_
    refine lv_i2l (v := (csV (zz 16) : Int32).toInt64) hx hb dL_operations_4 (rfl) ?_
    exact lh_ret hX hr hlocks hS hP (Or.inl ⟨hR, rfl, _, hc0, rfl⟩) (Nat.le_of_ble_eq_true rfl) (Nat.le_of_ble_eq_true rfl) dL_operations_5
theorem dL_afterCut_0 : decode cL_afterCut 0 = .ok (.aload_n 0, 1) := by decide +kernel
theorem dL_afterCut_1 : decode cL_afterCut 1 = .ok (.iload_n 1, 1) := by decide +kernel
theorem dL_afterCut_2 : decode cL_afterCut 2 = .ok (.iload_n 2, 1) := by decide +kernel
theorem dL_afterCut_3 : decode cL_afterCut 3 = .ok (.iload_n 3, 1) := by decide +kernel
theorem dL_afterCut_4 : decode cL_afterCut 4 = .ok (.invokevirtual 77, 3) := by decide +kernel
theorem dL_afterCut_7 : decode cL_afterCut 7 = .ok (.i2l, 1) := by decide +kernel
theorem dL_afterCut_8 : decode cL_afterCut 8 = .ok (.lreturn, 1) := by decide +kernel
theorem dL_afterCut_9 : decode cL_afterCut 9 = .ok (.astore 4, 2) := by decide +kernel
theorem dL_afterCut_11 : decode cL_afterCut 11 = .ok (.ldc2_w 17, 3) := by decide +kernel
theorem dL_afterCut_14 : decode cL_afterCut 14 = .ok (.lreturn, 1) := by decide +kernel
theorem dL_afterCut_15 : decode cL_afterCut 15 = .ok (.astore 4, 2) := by decide +kernel
theorem dL_afterCut_17 : decode cL_afterCut 17 = .ok (.ldc2_w 21, 3) := by decide +kernel
theorem dL_afterCut_20 : decode cL_afterCut 20 = .ok (.lreturn, 1) := by decide +kernel
set_option maxHeartbeats 4000000 in
set_option maxRecDepth 100000 in
theorem cL_afterCutH (l : Launch) (hst : l.stackTraces = false) (D : va_G) (cI cL cZ : ClassId) (ad : Nat → Nat) (dl : Nat → Nat → Nat) (sf sg : Nat → Option Nat) (hsf : ∀ j, j < 14 → sf j = some (dl j 0)) (hsg : ∀ j, j < 2 → sg j = some (dl (14 + j) 0)) (t : Nat → Int32) (n q : Nat) (hn : n ≤ 90) (hq : q ≤ 90) (vv : Nat → Int32) (nx ct : Nat) (hnx : nx < 14) (hct : ct ≤ 14) (uf : Nat → Int32) (zz : Nat → LgS) (hz : Inv (zz 16)) (hB : ∀ j, (zz j).1.2 ≤ 8) (ya : Int32) (yb : Int32) (yc : Int32) : LH l yL_afterCut cL_afterCut 5 [(0, 8, 9, 15), (0, 8, 15, 19)] 7 167 D (pwB cI cL cZ ad dl sf sg t n q vv nx ct uf zz) [(cI, .int), (cL, (.object "TornPageLog$Log")), (cZ, .boolean)] [.ref (ad 1), .int (ya), .int (yb), .int (yc)] (fun (r9 : Int64) (u9 : List va_W) => ((c6afc (zz 16) ya yb yc) = 0 ∧ r9 = (vaZ (afZ (zz 16) ya.toNatClampNeg yb yc.toNatClampNeg) ya : Int32).toInt64 ∧ ∃ zc9 : LgS, ∃ zt9 : LgS, (zc9.1.2 ≤ 8) ∧ (zt9.1.2 ≤ 8) ∧ u9 = pwB cI cL cZ ad dl sf sg t n q vv nx ct uf (va_up (va_up zz 17 zc9) 18 zt9)) ∨ (¬ (c6afc (zz 16) ya yb yc) = 0 ∧ r9 = (if (c6afc (zz 16) ya yb yc) = 1 then (-9000000000000000002) else (-9000000000000000003)) ∧ ∃ zc9 : LgS, ∃ zt9 : LgS, (zc9.1.2 ≤ 8) ∧ (zt9.1.2 ≤ 8) ∧ u9 = pwB cI cL cZ ad dl sf sg t n q vv nx ct uf (va_up (va_up zz 17 zc9) 18 zt9))) := by
  refine lh_of (by decide) rfl (Nat.le_of_ble_eq_true rfl) ?_
  intro p e s m below meth c ls H hX hTb hr hlocks hK hN hE hSW hZ hCN hP hD hS hl
  generalize gp_A (bw (pwB cI cL cZ ad dl sf sg t n q vv nx ct uf zz)) = A at hZ hD hS ⊢
  have hx := hX.1
  have hb := hX.2.1
  have hown := hX.2.2.2.1
  have hts := hX.2.2.2.2
  have hl : lv_has ls 5 [(0, .ref (ad 1)), (1, .int (ya)), (2, .int (yb)), (3, .int (yc))] := hl
  refine lv_aload_n hx hb dL_afterCut_0 rfl (lv_at hl 0 rfl) ?_
  refine lv_iload_n hx hb dL_afterCut_1 rfl (lv_at hl 1 rfl) ?_
  refine lv_iload_n hx hb dL_afterCut_2 rfl (lv_at hl 2 rfl) ?_
  refine lv_iload_n hx hb dL_afterCut_3 rfl (lv_at hl 3 rfl) ?_
  refine lh_callV (Bs := pwB cI cL cZ ad dl sf sg t n q vv nx ct uf zz) hX (c6_afterCut l hst D cI (ad 1) (ad 2) (ad 4) (ad 6) (dl 16) (dl 17) (dl 18) (zz 16) hz (zz 17) (hB 17) (zz 18) (hB 18) ya yb yc) ⟨by decide, by decide, show (parseMethodDescriptor yX6_afterCut.desc).map (fun d => d.parameters.length) = some 3 by decide +kernel⟩ rfl (mlA 76 rfl) (mlA 77 rfl) (mlA 78 rfl) (mlA 79 rfl) ⟨Nat.le_of_ble_eq_true rfl, Nat.le_of_ble_eq_true rfl⟩ hK hN hE hSW hZ [0] rfl hP hD hS [1, 8 + 16, 8 + 17, 8 + 18] (by simp; try omega) (hcc cw_g1 (hcc (cw_get (j := 16) (by omega)) (hcc (cw_get (j := 17) (by omega)) (hcc (cw_get (j := 18) (by omega)) (hcn))))) rfl hl.1 rfl (Nat.le_of_ble_eq_true rfl) dL_afterCut_4 ⟨Nat.le_of_ble_eq_true rfl, Nat.le_of_ble_eq_true rfl⟩ (fun r u h => by obtain ⟨-, -, zc9, zt9, hc0, hc1, rfl⟩ := h; rfl) (fun E u h => by obtain ⟨-, zc9, zt9, hc0, hc1, rfl⟩ := h; rfl) (fun E ce qex u H locs hxp hP hD hS hcell hcv hcl => ?_) (fun r u H locs hp hP hD hS => ?_)
  · obtain ⟨hE9, zc9, zt9, hc0, hc1, rfl⟩ := hxp
    have hP : va_P D vwCl (bw (pwB cI cL cZ ad dl sf sg t n q vv nx ct uf (va_up (va_up zz 17 zc9) 18 zt9))) H := by
      rw [pwB, bput_c, cw_s1, bput_c, cw_set (j := 16) (by omega), va_id (k := 16) (rfl), bput_c, cw_set (j := 17) (by omega), bput_c, cw_set (j := 18) (by omega), bput_n] at hP
      exact hP
    have hD : va_D A (bw (pwB cI cL cZ ad dl sf sg t n q vv nx ct uf (va_up (va_up zz 17 zc9) 18 zt9))) := by
      rw [pwB, bput_c, cw_s1, bput_c, cw_set (j := 16) (by omega), va_id (k := 16) (rfl), bput_c, cw_set (j := 17) (by omega), bput_c, cw_set (j := 18) (by omega), bput_n] at hD
      exact hD
    rcases hE9 with ⟨rfl, hR⟩ | ⟨rfl, hR⟩
    · skip
      refine vx_catch hown [] ⟨0, 8, 9, 15⟩ [⟨0, 8, 15, 19⟩] (hTb.trans rfl) (fun z hz => nomatch hz) rfl (by decide) (hts _ (mlA 2 rfl)) (va_Nw.use rfl hE.2.2.2.1) hcell hcv hcl ?_
      refine lv_astore (lv' := [(4, .ref qex), (0, .ref (ad 1)), (1, .int (ya)), (2, .int (yb)), (3, .int (yc))]) hx hb dL_afterCut_9 hl (by decide) rfl (fun ls hl => ?_)
      refine lv_ldc2 (v := (-9000000000000000002)) hx hb hown (hts _ (mlA 4 rfl)) dL_afterCut_11 ?_
      exact lh_ret hX hr hlocks hS hP (Or.inr ⟨by rw [hR]; decide, by rw [hR]; rfl, _, _, hc0, hc1, rfl⟩) (Nat.le_of_ble_eq_true rfl) (Nat.le_of_ble_eq_true rfl) dL_afterCut_14
    · skip
      refine vx_catch hown [⟨0, 8, 9, 15⟩] ⟨0, 8, 15, 19⟩ [] (hTb.trans rfl) (fun z hz => by rw [List.mem_singleton.mp hz]; exact Or.inr ⟨by decide, xIA, hts _ (mlA 2 rfl), hCN.1⟩) rfl (by decide) (hts _ (mlA 3 rfl)) (va_Nw.use rfl hE.2.2.2.2.1) hcell hcv hcl ?_
      refine lv_astore (lv' := [(4, .ref qex), (0, .ref (ad 1)), (1, .int (ya)), (2, .int (yb)), (3, .int (yc))]) hx hb dL_afterCut_15 hl (by decide) rfl (fun ls hl => ?_)
      refine lv_ldc2 (v := (-9000000000000000003)) hx hb hown (hts _ (mlA 5 rfl)) dL_afterCut_17 ?_
      exact lh_ret hX hr hlocks hS hP (Or.inr ⟨by rw [hR]; decide, by rw [hR]; rfl, _, _, hc0, hc1, rfl⟩) (Nat.le_of_ble_eq_true rfl) (Nat.le_of_ble_eq_true rfl) dL_afterCut_20
  · obtain ⟨hR, hr9, zc9, zt9, hc0, hc1, rfl⟩ := hp
    have hP : va_P D vwCl (bw (pwB cI cL cZ ad dl sf sg t n q vv nx ct uf (va_up (va_up zz 17 zc9) 18 zt9))) H := by
      rw [pwB, bput_c, cw_s1, bput_c, cw_set (j := 16) (by omega), va_id (k := 16) (rfl), bput_c, cw_set (j := 17) (by omega), bput_c, cw_set (j := 18) (by omega), bput_n] at hP
      exact hP
    have hD : va_D A (bw (pwB cI cL cZ ad dl sf sg t n q vv nx ct uf (va_up (va_up zz 17 zc9) 18 zt9))) := by
      rw [pwB, bput_c, cw_s1, bput_c, cw_set (j := 16) (by omega), va_id (k := 16) (rfl), bput_c, cw_set (j := 17) (by omega), bput_c, cw_set (j := 18) (by omega), bput_n] at hD
      exact hD
    refine lv_as hr9 ?_
    refine lv_i2l (v := (vaZ (afZ (zz 16) ya.toNatClampNeg yb yc.toNatClampNeg) ya : Int32).toInt64) hx hb dL_afterCut_7 (rfl) ?_
    exact lh_ret hX hr hlocks hS hP (Or.inl ⟨hR, rfl, _, _, hc0, hc1, rfl⟩) (Nat.le_of_ble_eq_true rfl) (Nat.le_of_ble_eq_true rfl) dL_afterCut_8
theorem dL_lasts_0 : decode cL_lasts 0 = .ok (.aload_n 0, 1) := by decide +kernel
theorem dL_lasts_1 : decode cL_lasts 1 = .ok (.iload_n 1, 1) := by decide +kernel
theorem dL_lasts_2 : decode cL_lasts 2 = .ok (.invokevirtual 81, 3) := by decide +kernel
theorem dL_lasts_5 : decode cL_lasts 5 = .ok (.i2l, 1) := by decide +kernel
theorem dL_lasts_6 : decode cL_lasts 6 = .ok (.lreturn, 1) := by decide +kernel
theorem dL_lasts_7 : decode cL_lasts 7 = .ok (.astore_n 2, 1) := by decide +kernel
theorem dL_lasts_8 : decode cL_lasts 8 = .ok (.ldc2_w 17, 3) := by decide +kernel
theorem dL_lasts_11 : decode cL_lasts 11 = .ok (.lreturn, 1) := by decide +kernel
set_option maxHeartbeats 4000000 in
set_option maxRecDepth 100000 in
theorem cL_lastsH (l : Launch) (hst : l.stackTraces = false) (D : va_G) (cI cL cZ : ClassId) (ad : Nat → Nat) (dl : Nat → Nat → Nat) (sf sg : Nat → Option Nat) (hsf : ∀ j, j < 14 → sf j = some (dl j 0)) (hsg : ∀ j, j < 2 → sg j = some (dl (14 + j) 0)) (t : Nat → Int32) (n q : Nat) (hn : n ≤ 90) (hq : q ≤ 90) (vv : Nat → Int32) (nx ct : Nat) (hnx : nx < 14) (hct : ct ≤ 14) (uf : Nat → Int32) (zz : Nat → LgS) (hz : Inv (zz 16)) (hB : ∀ j, (zz j).1.2 ≤ 8) (ya : Int32) : LH l yL_lasts cL_lasts 3 [(0, 6, 7, 15)] 7 145 D (pwB cI cL cZ ad dl sf sg t n q vv nx ct uf zz) [(cI, .int), (cL, (.object "TornPageLog$Log")), (cZ, .boolean)] [.ref (ad 1), .int (ya)] (fun (r9 : Int64) (u9 : List va_W) => ((c6key ya) = 0 ∧ r9 = (laV (zz 16) ya.toNatClampNeg : Int32).toInt64 ∧ ∃ zc9 : LgS, (zc9.1.2 ≤ 8) ∧ u9 = pwB cI cL cZ ad dl sf sg t n q vv nx ct uf (va_up zz 17 zc9)) ∨ (¬ (c6key ya) = 0 ∧ r9 = (-9000000000000000002) ∧ ∃ zc9 : LgS, (zc9.1.2 ≤ 8) ∧ u9 = pwB cI cL cZ ad dl sf sg t n q vv nx ct uf (va_up zz 17 zc9))) := by
  refine lh_of (by decide) rfl (Nat.le_of_ble_eq_true rfl) ?_
  intro p e s m below meth c ls H hX hTb hr hlocks hK hN hE hSW hZ hCN hP hD hS hl
  generalize gp_A (bw (pwB cI cL cZ ad dl sf sg t n q vv nx ct uf zz)) = A at hZ hD hS ⊢
  have hx := hX.1
  have hb := hX.2.1
  have hown := hX.2.2.2.1
  have hts := hX.2.2.2.2
  have hl : lv_has ls 3 [(0, .ref (ad 1)), (1, .int (ya))] := hl
  refine lv_aload_n hx hb dL_lasts_0 rfl (lv_at hl 0 rfl) ?_
  refine lv_iload_n hx hb dL_lasts_1 rfl (lv_at hl 1 rfl) ?_
  refine lh_callV (Bs := pwB cI cL cZ ad dl sf sg t n q vv nx ct uf zz) hX (c6_lasts l hst D cI (ad 1) (ad 2) (ad 4) (ad 6) (dl 16) (dl 17) (dl 18) (zz 16) hz (zz 17) (hB 17) ya) ⟨by decide, by decide, show (parseMethodDescriptor yX6_lasts.desc).map (fun d => d.parameters.length) = some 1 by decide +kernel⟩ rfl (mlA 80 rfl) (mlA 81 rfl) (mlA 82 rfl) (mlA 83 rfl) ⟨Nat.le_of_ble_eq_true rfl, Nat.le_of_ble_eq_true rfl⟩ hK hN hE hSW hZ [0] rfl hP hD hS [1, 8 + 16, 8 + 17] (by simp; try omega) (hcc cw_g1 (hcc (cw_get (j := 16) (by omega)) (hcc (cw_get (j := 17) (by omega)) (hcn)))) rfl hl.1 rfl (Nat.le_of_ble_eq_true rfl) dL_lasts_2 ⟨Nat.le_of_ble_eq_true rfl, Nat.le_of_ble_eq_true rfl⟩ (fun r u h => by obtain ⟨-, -, zc9, hc0, rfl⟩ := h; rfl) (fun E u h => by obtain ⟨-, zc9, hc0, rfl⟩ := h; rfl) (fun E ce qex u H locs hxp hP hD hS hcell hcv hcl => ?_) (fun r u H locs hp hP hD hS => ?_)
  · obtain ⟨hE9, zc9, hc0, rfl⟩ := hxp
    have hP : va_P D vwCl (bw (pwB cI cL cZ ad dl sf sg t n q vv nx ct uf (va_up zz 17 zc9))) H := by
      rw [pwB, bput_c, cw_s1, bput_c, cw_set (j := 16) (by omega), va_id (k := 16) (rfl), bput_c, cw_set (j := 17) (by omega), bput_n] at hP
      exact hP
    have hD : va_D A (bw (pwB cI cL cZ ad dl sf sg t n q vv nx ct uf (va_up zz 17 zc9))) := by
      rw [pwB, bput_c, cw_s1, bput_c, cw_set (j := 16) (by omega), va_id (k := 16) (rfl), bput_c, cw_set (j := 17) (by omega), bput_n] at hD
      exact hD
    obtain ⟨rfl, hR⟩ := hE9
    · skip
      refine vx_catch hown [] ⟨0, 6, 7, 15⟩ [] (hTb.trans rfl) (fun z hz => nomatch hz) rfl (by decide) (hts _ (mlA 2 rfl)) (va_Nw.use rfl hE.2.2.2.1) hcell hcv hcl ?_
      refine lv_astore_n (lv' := [(2, .ref qex), (0, .ref (ad 1)), (1, .int (ya))]) hx hb dL_lasts_7 rfl hl (by decide) rfl (fun ls hl => ?_)
      refine lv_ldc2 (v := (-9000000000000000002)) hx hb hown (hts _ (mlA 4 rfl)) dL_lasts_8 ?_
      exact lh_ret hX hr hlocks hS hP (Or.inr ⟨by rw [hR]; decide, rfl, _, hc0, rfl⟩) (Nat.le_of_ble_eq_true rfl) (Nat.le_of_ble_eq_true rfl) dL_lasts_11
  · obtain ⟨hR, hr9, zc9, hc0, rfl⟩ := hp
    have hP : va_P D vwCl (bw (pwB cI cL cZ ad dl sf sg t n q vv nx ct uf (va_up zz 17 zc9))) H := by
      rw [pwB, bput_c, cw_s1, bput_c, cw_set (j := 16) (by omega), va_id (k := 16) (rfl), bput_c, cw_set (j := 17) (by omega), bput_n] at hP
      exact hP
    have hD : va_D A (bw (pwB cI cL cZ ad dl sf sg t n q vv nx ct uf (va_up zz 17 zc9))) := by
      rw [pwB, bput_c, cw_s1, bput_c, cw_set (j := 16) (by omega), va_id (k := 16) (rfl), bput_c, cw_set (j := 17) (by omega), bput_n] at hD
      exact hD
    refine lv_as hr9 ?_
    refine lv_i2l (v := (laV (zz 16) ya.toNatClampNeg : Int32).toInt64) hx hb dL_lasts_5 (rfl) ?_
    exact lh_ret hX hr hlocks hS hP (Or.inl ⟨hR, rfl, _, hc0, rfl⟩) (Nat.le_of_ble_eq_true rfl) (Nat.le_of_ble_eq_true rfl) dL_lasts_6
theorem dL_script_0 : decode cL_script 0 = .ok (.aload_n 0, 1) := by decide +kernel
theorem dL_script_1 : decode cL_script 1 = .ok (.iload_n 1, 1) := by decide +kernel
theorem dL_script_2 : decode cL_script 2 = .ok (.lload_n 2, 1) := by decide +kernel
theorem dL_script_3 : decode cL_script 3 = .ok (.invokevirtual 84, 3) := by decide +kernel
theorem dL_script_6 : decode cL_script 6 = .ok (.i2l, 1) := by decide +kernel
theorem dL_script_7 : decode cL_script 7 = .ok (.lreturn, 1) := by decide +kernel
theorem dL_script_8 : decode cL_script 8 = .ok (.astore 4, 2) := by decide +kernel
theorem dL_script_10 : decode cL_script 10 = .ok (.ldc2_w 17, 3) := by decide +kernel
theorem dL_script_13 : decode cL_script 13 = .ok (.lreturn, 1) := by decide +kernel
set_option maxHeartbeats 4000000 in
set_option maxRecDepth 100000 in
theorem cL_scriptH (l : Launch) (hst : l.stackTraces = false) (D : va_G) (cI cL cZ : ClassId) (ad : Nat → Nat) (dl : Nat → Nat → Nat) (sf sg : Nat → Option Nat) (hsf : ∀ j, j < 14 → sf j = some (dl j 0)) (hsg : ∀ j, j < 2 → sg j = some (dl (14 + j) 0)) (t : Nat → Int32) (n q : Nat) (hn : n ≤ 90) (hq : q ≤ 90) (vv : Nat → Int32) (nx ct : Nat) (hnx : nx < 14) (hct : ct ≤ 14) (uf : Nat → Int32) (zz : Nat → LgS) (hz : Inv (zz 16)) (hB : ∀ j, (zz j).1.2 ≤ 8) (ya : Int32) (yb : Int64) : LH l yL_script cL_script 5 [(0, 7, 8, 15)] 7 198 D (pwB cI cL cZ ad dl sf sg t n q vv nx ct uf zz) [(cI, .int), (cL, (.object "TornPageLog$Log")), (cZ, .boolean)] [.ref (ad 1), .int (ya), .long (yb)] (fun (r9 : Int64) (u9 : List va_W) => ((c6sc ya yb) = 0 ∧ r9 = (oI (scZ ya.toNatClampNeg yb.toInt.toNat ya.toNatClampNeg 0 (zz 16)) : Int32).toInt64 ∧ ∃ zc9 : LgS, ∃ zt9 : LgS, (zc9.1.2 ≤ 8) ∧ (zt9.1.2 ≤ 8) ∧ u9 = pwB cI cL cZ ad dl sf sg t n q vv nx ct uf (va_up (va_up zz 17 zc9) 18 zt9)) ∨ (¬ (c6sc ya yb) = 0 ∧ r9 = (-9000000000000000002) ∧ ∃ zc9 : LgS, ∃ zt9 : LgS, (zc9.1.2 ≤ 8) ∧ (zt9.1.2 ≤ 8) ∧ u9 = pwB cI cL cZ ad dl sf sg t n q vv nx ct uf (va_up (va_up zz 17 zc9) 18 zt9))) := by
  refine lh_of (by decide) rfl (Nat.le_of_ble_eq_true rfl) ?_
  intro p e s m below meth c ls H hX hTb hr hlocks hK hN hE hSW hZ hCN hP hD hS hl
  generalize gp_A (bw (pwB cI cL cZ ad dl sf sg t n q vv nx ct uf zz)) = A at hZ hD hS ⊢
  have hx := hX.1
  have hb := hX.2.1
  have hown := hX.2.2.2.1
  have hts := hX.2.2.2.2
  have hl : lv_has ls 5 [(0, .ref (ad 1)), (1, .int (ya)), (2, .long (yb))] := hl
  refine lv_aload_n hx hb dL_script_0 rfl (lv_at hl 0 rfl) ?_
  refine lv_iload_n hx hb dL_script_1 rfl (lv_at hl 1 rfl) ?_
  refine lv_lload_n hx hb dL_script_2 rfl (lv_at hl 2 rfl) ?_
  refine lh_callV (Bs := pwB cI cL cZ ad dl sf sg t n q vv nx ct uf zz) hX (c6_runScript l hst D cI (ad 1) (ad 2) (ad 4) (ad 6) (dl 16) (dl 17) (dl 18) (zz 16) hz (zz 17) (hB 17) (zz 18) (hB 18) ya yb) ⟨by decide, by decide, show (parseMethodDescriptor yX6_runScript.desc).map (fun d => d.parameters.length) = some 2 by decide +kernel⟩ rfl (mlA 84 rfl) (mlA 85 rfl) (mlA 86 rfl) (mlA 87 rfl) ⟨Nat.le_of_ble_eq_true rfl, Nat.le_of_ble_eq_true rfl⟩ hK hN hE hSW hZ [0] rfl hP hD hS [1, 8 + 16, 8 + 17, 8 + 18] (by simp; try omega) (hcc cw_g1 (hcc (cw_get (j := 16) (by omega)) (hcc (cw_get (j := 17) (by omega)) (hcc (cw_get (j := 18) (by omega)) (hcn))))) rfl hl.1 rfl (Nat.le_of_ble_eq_true rfl) dL_script_3 ⟨Nat.le_of_ble_eq_true rfl, Nat.le_of_ble_eq_true rfl⟩ (fun r u h => by obtain ⟨-, -, zc9, zt9, hc0, hc1, rfl⟩ := h; rfl) (fun E u h => by obtain ⟨-, zc9, zt9, hc0, hc1, rfl⟩ := h; rfl) (fun E ce qex u H locs hxp hP hD hS hcell hcv hcl => ?_) (fun r u H locs hp hP hD hS => ?_)
  · obtain ⟨hE9, zc9, zt9, hc0, hc1, rfl⟩ := hxp
    have hP : va_P D vwCl (bw (pwB cI cL cZ ad dl sf sg t n q vv nx ct uf (va_up (va_up zz 17 zc9) 18 zt9))) H := by
      rw [pwB, bput_c, cw_s1, bput_c, cw_set (j := 16) (by omega), va_id (k := 16) (rfl), bput_c, cw_set (j := 17) (by omega), bput_c, cw_set (j := 18) (by omega), bput_n] at hP
      exact hP
    have hD : va_D A (bw (pwB cI cL cZ ad dl sf sg t n q vv nx ct uf (va_up (va_up zz 17 zc9) 18 zt9))) := by
      rw [pwB, bput_c, cw_s1, bput_c, cw_set (j := 16) (by omega), va_id (k := 16) (rfl), bput_c, cw_set (j := 17) (by omega), bput_c, cw_set (j := 18) (by omega), bput_n] at hD
      exact hD
    obtain ⟨rfl, hR⟩ := hE9
    · skip
      refine vx_catch hown [] ⟨0, 7, 8, 15⟩ [] (hTb.trans rfl) (fun z hz => nomatch hz) rfl (by decide) (hts _ (mlA 2 rfl)) (va_Nw.use rfl hE.2.2.2.1) hcell hcv hcl ?_
      refine lv_astore (lv' := [(4, .ref qex), (0, .ref (ad 1)), (1, .int (ya)), (2, .long (yb))]) hx hb dL_script_8 hl (by decide) rfl (fun ls hl => ?_)
      refine lv_ldc2 (v := (-9000000000000000002)) hx hb hown (hts _ (mlA 4 rfl)) dL_script_10 ?_
      exact lh_ret hX hr hlocks hS hP (Or.inr ⟨by rw [hR]; decide, rfl, _, _, hc0, hc1, rfl⟩) (Nat.le_of_ble_eq_true rfl) (Nat.le_of_ble_eq_true rfl) dL_script_13
  · obtain ⟨hR, hr9, zc9, zt9, hc0, hc1, rfl⟩ := hp
    have hP : va_P D vwCl (bw (pwB cI cL cZ ad dl sf sg t n q vv nx ct uf (va_up (va_up zz 17 zc9) 18 zt9))) H := by
      rw [pwB, bput_c, cw_s1, bput_c, cw_set (j := 16) (by omega), va_id (k := 16) (rfl), bput_c, cw_set (j := 17) (by omega), bput_c, cw_set (j := 18) (by omega), bput_n] at hP
      exact hP
    have hD : va_D A (bw (pwB cI cL cZ ad dl sf sg t n q vv nx ct uf (va_up (va_up zz 17 zc9) 18 zt9))) := by
      rw [pwB, bput_c, cw_s1, bput_c, cw_set (j := 16) (by omega), va_id (k := 16) (rfl), bput_c, cw_set (j := 17) (by omega), bput_c, cw_set (j := 18) (by omega), bput_n] at hD
      exact hD
    refine lv_as hr9 ?_
    refine lv_i2l (v := (oI (scZ ya.toNatClampNeg yb.toInt.toNat ya.toNatClampNeg 0 (zz 16)) : Int32).toInt64) hx hb dL_script_6 (rfl) ?_
    exact lh_ret hX hr hlocks hS hP (Or.inl ⟨hR, rfl, _, _, hc0, hc1, rfl⟩) (Nat.le_of_ble_eq_true rfl) (Nat.le_of_ble_eq_true rfl) dL_script_7
theorem dL_simulate_0 : decode cL_simulate 0 = .ok (.aload_n 0, 1) := by decide +kernel
theorem dL_simulate_1 : decode cL_simulate 1 = .ok (.lload_n 1, 1) := by decide +kernel
theorem dL_simulate_2 : decode cL_simulate 2 = .ok (.iload_n 3, 1) := by decide +kernel
theorem dL_simulate_3 : decode cL_simulate 3 = .ok (.invokevirtual 88, 3) := by decide +kernel
theorem dL_simulate_6 : decode cL_simulate 6 = .ok (.i2l, 1) := by decide +kernel
theorem dL_simulate_7 : decode cL_simulate 7 = .ok (.lreturn, 1) := by decide +kernel
theorem dL_simulate_8 : decode cL_simulate 8 = .ok (.astore 4, 2) := by decide +kernel
theorem dL_simulate_10 : decode cL_simulate 10 = .ok (.ldc2_w 17, 3) := by decide +kernel
theorem dL_simulate_13 : decode cL_simulate 13 = .ok (.lreturn, 1) := by decide +kernel
set_option maxHeartbeats 4000000 in
set_option maxRecDepth 100000 in
theorem cL_simulateH (l : Launch) (hst : l.stackTraces = false) (D : va_G) (cI cL cZ : ClassId) (ad : Nat → Nat) (dl : Nat → Nat → Nat) (sf sg : Nat → Option Nat) (hsf : ∀ j, j < 14 → sf j = some (dl j 0)) (hsg : ∀ j, j < 2 → sg j = some (dl (14 + j) 0)) (t : Nat → Int32) (n q : Nat) (hn : n ≤ 90) (hq : q ≤ 90) (vv : Nat → Int32) (nx ct : Nat) (hnx : nx < 14) (hct : ct ≤ 14) (uf : Nat → Int32) (zz : Nat → LgS) (hz : Inv (zz 16)) (hB : ∀ j, (zz j).1.2 ≤ 8) (ya : Int64) (yb : Int32) : LH l yL_simulate cL_simulate 5 [(0, 7, 8, 15)] 7 196 D (pwB cI cL cZ ad dl sf sg t n q vv nx ct uf zz) [(cI, .int), (cL, (.object "TornPageLog$Log")), (cZ, .boolean)] [.ref (ad 1), .long (ya), .int (yb)] (fun (r9 : Int64) (u9 : List va_W) => ((c6sim yb) = 0 ∧ r9 = (1000 * ((smZ yb.toNatClampNeg ya (zz 16)).2.1 5 - (zz 16).2.1 5) + 20 * ((smZ yb.toNatClampNeg ya (zz 16)).2.1 9 - (zz 16).2.1 9) + nI (ckZ (smZ yb.toNatClampNeg ya (zz 16)) 16) : Int32).toInt64 ∧ ∃ zc9 : LgS, ∃ zt9 : LgS, (zc9.1.2 ≤ 8) ∧ (zt9.1.2 ≤ 8) ∧ u9 = pwB cI cL cZ ad dl sf sg t n q vv nx ct uf (va_up (va_up zz 17 zc9) 18 zt9)) ∨ (¬ (c6sim yb) = 0 ∧ r9 = (-9000000000000000002) ∧ ∃ zc9 : LgS, ∃ zt9 : LgS, (zc9.1.2 ≤ 8) ∧ (zt9.1.2 ≤ 8) ∧ u9 = pwB cI cL cZ ad dl sf sg t n q vv nx ct uf (va_up (va_up zz 17 zc9) 18 zt9))) := by
  refine lh_of (by decide) rfl (Nat.le_of_ble_eq_true rfl) ?_
  intro p e s m below meth c ls H hX hTb hr hlocks hK hN hE hSW hZ hCN hP hD hS hl
  generalize gp_A (bw (pwB cI cL cZ ad dl sf sg t n q vv nx ct uf zz)) = A at hZ hD hS ⊢
  have hx := hX.1
  have hb := hX.2.1
  have hown := hX.2.2.2.1
  have hts := hX.2.2.2.2
  have hl : lv_has ls 5 [(0, .ref (ad 1)), (1, .long (ya)), (3, .int (yb))] := hl
  refine lv_aload_n hx hb dL_simulate_0 rfl (lv_at hl 0 rfl) ?_
  refine lv_lload_n hx hb dL_simulate_1 rfl (lv_at hl 1 rfl) ?_
  refine lv_iload_n hx hb dL_simulate_2 rfl (lv_at hl 2 rfl) ?_
  refine lh_callV (Bs := pwB cI cL cZ ad dl sf sg t n q vv nx ct uf zz) hX (c6_simulate l hst D cI (ad 1) (ad 2) (ad 4) (ad 6) (dl 16) (dl 17) (dl 18) (zz 16) hz (zz 17) (hB 17) (zz 18) (hB 18) ya yb) ⟨by decide, by decide, show (parseMethodDescriptor yX6_simulate.desc).map (fun d => d.parameters.length) = some 2 by decide +kernel⟩ rfl (mlA 88 rfl) (mlA 89 rfl) (mlA 90 rfl) (mlA 91 rfl) ⟨Nat.le_of_ble_eq_true rfl, Nat.le_of_ble_eq_true rfl⟩ hK hN hE hSW hZ [0] rfl hP hD hS [1, 8 + 16, 8 + 17, 8 + 18] (by simp; try omega) (hcc cw_g1 (hcc (cw_get (j := 16) (by omega)) (hcc (cw_get (j := 17) (by omega)) (hcc (cw_get (j := 18) (by omega)) (hcn))))) rfl hl.1 rfl (Nat.le_of_ble_eq_true rfl) dL_simulate_3 ⟨Nat.le_of_ble_eq_true rfl, Nat.le_of_ble_eq_true rfl⟩ (fun r u h => by obtain ⟨-, -, zc9, zt9, hc0, hc1, rfl⟩ := h; rfl) (fun E u h => by obtain ⟨-, zc9, zt9, hc0, hc1, rfl⟩ := h; rfl) (fun E ce qex u H locs hxp hP hD hS hcell hcv hcl => ?_) (fun r u H locs hp hP hD hS => ?_)
  · obtain ⟨hE9, zc9, zt9, hc0, hc1, rfl⟩ := hxp
    have hP : va_P D vwCl (bw (pwB cI cL cZ ad dl sf sg t n q vv nx ct uf (va_up (va_up zz 17 zc9) 18 zt9))) H := by
      rw [pwB, bput_c, cw_s1, bput_c, cw_set (j := 16) (by omega), va_id (k := 16) (rfl), bput_c, cw_set (j := 17) (by omega), bput_c, cw_set (j := 18) (by omega), bput_n] at hP
      exact hP
    have hD : va_D A (bw (pwB cI cL cZ ad dl sf sg t n q vv nx ct uf (va_up (va_up zz 17 zc9) 18 zt9))) := by
      rw [pwB, bput_c, cw_s1, bput_c, cw_set (j := 16) (by omega), va_id (k := 16) (rfl), bput_c, cw_set (j := 17) (by omega), bput_c, cw_set (j := 18) (by omega), bput_n] at hD
      exact hD
    obtain ⟨rfl, hR⟩ := hE9
    · skip
      refine vx_catch hown [] ⟨0, 7, 8, 15⟩ [] (hTb.trans rfl) (fun z hz => nomatch hz) rfl (by decide) (hts _ (mlA 2 rfl)) (va_Nw.use rfl hE.2.2.2.1) hcell hcv hcl ?_
      refine lv_astore (lv' := [(4, .ref qex), (0, .ref (ad 1)), (1, .long (ya)), (3, .int (yb))]) hx hb dL_simulate_8 hl (by decide) rfl (fun ls hl => ?_)
      refine lv_ldc2 (v := (-9000000000000000002)) hx hb hown (hts _ (mlA 4 rfl)) dL_simulate_10 ?_
      exact lh_ret hX hr hlocks hS hP (Or.inr ⟨by rw [hR]; decide, rfl, _, _, hc0, hc1, rfl⟩) (Nat.le_of_ble_eq_true rfl) (Nat.le_of_ble_eq_true rfl) dL_simulate_13
  · obtain ⟨hR, hr9, zc9, zt9, hc0, hc1, rfl⟩ := hp
    have hP : va_P D vwCl (bw (pwB cI cL cZ ad dl sf sg t n q vv nx ct uf (va_up (va_up zz 17 zc9) 18 zt9))) H := by
      rw [pwB, bput_c, cw_s1, bput_c, cw_set (j := 16) (by omega), va_id (k := 16) (rfl), bput_c, cw_set (j := 17) (by omega), bput_c, cw_set (j := 18) (by omega), bput_n] at hP
      exact hP
    have hD : va_D A (bw (pwB cI cL cZ ad dl sf sg t n q vv nx ct uf (va_up (va_up zz 17 zc9) 18 zt9))) := by
      rw [pwB, bput_c, cw_s1, bput_c, cw_set (j := 16) (by omega), va_id (k := 16) (rfl), bput_c, cw_set (j := 17) (by omega), bput_c, cw_set (j := 18) (by omega), bput_n] at hD
      exact hD
    refine lv_as hr9 ?_
    refine lv_i2l (v := (1000 * ((smZ yb.toNatClampNeg ya (zz 16)).2.1 5 - (zz 16).2.1 5) + 20 * ((smZ yb.toNatClampNeg ya (zz 16)).2.1 9 - (zz 16).2.1 9) + nI (ckZ (smZ yb.toNatClampNeg ya (zz 16)) 16) : Int32).toInt64) hx hb dL_simulate_6 (rfl) ?_
    exact lh_ret hX hr hlocks hS hP (Or.inl ⟨hR, rfl, _, _, hc0, hc1, rfl⟩) (Nat.le_of_ble_eq_true rfl) (Nat.le_of_ble_eq_true rfl) dL_simulate_7
theorem dL_save_0 : decode cL_save 0 = .ok (.aload_n 0, 1) := by decide +kernel
theorem dL_save_1 : decode cL_save 1 = .ok (.iload_n 1, 1) := by decide +kernel
theorem dL_save_2 : decode cL_save 2 = .ok (.invokevirtual 92, 3) := by decide +kernel
theorem dL_save_5 : decode cL_save 5 = .ok (.i2l, 1) := by decide +kernel
theorem dL_save_6 : decode cL_save 6 = .ok (.lreturn, 1) := by decide +kernel
theorem dL_save_7 : decode cL_save 7 = .ok (.astore_n 2, 1) := by decide +kernel
theorem dL_save_8 : decode cL_save 8 = .ok (.ldc2_w 36, 3) := by decide +kernel
theorem dL_save_11 : decode cL_save 11 = .ok (.lreturn, 1) := by decide +kernel
set_option maxHeartbeats 4000000 in
set_option maxRecDepth 100000 in
theorem cL_saveH (l : Launch) (hst : l.stackTraces = false) (D : va_G) (cI cL cZ : ClassId) (ad : Nat → Nat) (dl : Nat → Nat → Nat) (sf sg : Nat → Option Nat) (hsf : ∀ j, j < 14 → sf j = some (dl j 0)) (hsg : ∀ j, j < 2 → sg j = some (dl (14 + j) 0)) (t : Nat → Int32) (n q : Nat) (hn : n ≤ 90) (hq : q ≤ 90) (vv : Nat → Int32) (nx ct : Nat) (hnx : nx < 14) (hct : ct ≤ 14) (uf : Nat → Int32) (zz : Nat → LgS) (hz : Inv (zz 16)) (hB : ∀ j, (zz j).1.2 ≤ 8) (ya : Int32) (kk : Nat) (hkk2 : kk < 2) (hkk : inN ya 2 → ya.toNatClampNeg = kk) : LH l yL_save cL_save 3 [(0, 6, 7, 34)] 7 166 D (pwB cI cL cZ ad dl sf sg t n q vv nx ct uf zz) [(cI, .int), (cL, (.object "TornPageLog$Log")), (cZ, .boolean)] [.ref (ad 1), .int (ya)] (fun (r9 : Int64) (u9 : List va_W) => ((c6sav ya) = 0 ∧ r9 = (nI (ckZ (zz 16) 16) : Int32).toInt64 ∧ u9 = pwB cI cL cZ ad dl sf sg t n q vv nx ct (upd uf ya.toNatClampNeg 1) (va_up zz (14 + kk) (zz 16))) ∨ (¬ (c6sav ya) = 0 ∧ r9 = (-9000000000000000001) ∧ u9 = pwB cI cL cZ ad dl sf sg t n q vv nx ct uf zz)) := by
  refine lh_of (by decide) rfl (Nat.le_of_ble_eq_true rfl) ?_
  intro p e s m below meth c ls H hX hTb hr hlocks hK hN hE hSW hZ hCN hP hD hS hl
  generalize gp_A (bw (pwB cI cL cZ ad dl sf sg t n q vv nx ct uf zz)) = A at hZ hD hS ⊢
  have hx := hX.1
  have hb := hX.2.1
  have hown := hX.2.2.2.1
  have hts := hX.2.2.2.2
  have hl : lv_has ls 3 [(0, .ref (ad 1)), (1, .int (ya))] := hl
  refine lv_aload_n hx hb dL_save_0 rfl (lv_at hl 0 rfl) ?_
  refine lv_iload_n hx hb dL_save_1 rfl (lv_at hl 1 rfl) ?_
  refine lh_callV (Bs := pwB cI cL cZ ad dl sf sg t n q vv nx ct uf zz) hX (c6_save l hst D cI cL cZ (ad 1) (ad 2) (ad 4) (ad 6) (dl 16) (dl 17) (dl 18) (zz 16) hz (ad 7) (ad 8) sg uf (dl (14 + kk)) (zz (14 + kk)) (hB (14 + kk)) ya (fun y9 => by rw [hkk y9]; exact hsg kk hkk2)) ⟨by decide, by decide, show (parseMethodDescriptor yX6_save.desc).map (fun d => d.parameters.length) = some 1 by decide +kernel⟩ rfl (mlA 92 rfl) (mlA 93 rfl) (mlA 94 rfl) (mlA 95 rfl) ⟨Nat.le_of_ble_eq_true rfl, Nat.le_of_ble_eq_true rfl⟩ hK hN hE hSW hZ [0, 1, 2] rfl hP hD hS [1, 8 + 16, 5, 6, 7, 8 + (14 + kk)] (by simp; try omega) (hcc cw_g1 (hcc (cw_get (j := 16) (by omega)) (hcc cw_g5 (hcc cw_g6 (hcc cw_g7 (hcc (cw_get (j := (14 + kk)) (by omega)) (hcn))))))) rfl hl.1 rfl (Nat.le_of_ble_eq_true rfl) dL_save_2 ⟨Nat.le_of_ble_eq_true rfl, Nat.le_of_ble_eq_true rfl⟩ (fun r u h => by obtain ⟨-, -, rfl⟩ := h; rfl) (fun E u h => by obtain ⟨-, rfl⟩ := h; rfl) (fun E ce qex u H locs hxp hP hD hS hcell hcv hcl => ?_) (fun r u H locs hp hP hD hS => ?_)
  · obtain ⟨hE9, rfl⟩ := hxp
    have hP : va_P D vwCl (bw (pwB cI cL cZ ad dl sf sg t n q vv nx ct uf zz)) H := by
      rw [pwB, bput_c, cw_s1, bput_c, cw_set (j := 16) (by omega), va_id (k := 16) (rfl), bput_c, cw_s5, bput_c, cw_s6, bput_c, cw_s7, bput_c, cw_set (j := (14 + kk)) (by omega), va_id (k := (14 + kk)) (rfl), bput_n] at hP
      exact hP
    have hD : va_D A (bw (pwB cI cL cZ ad dl sf sg t n q vv nx ct uf zz)) := by
      rw [pwB, bput_c, cw_s1, bput_c, cw_set (j := 16) (by omega), va_id (k := 16) (rfl), bput_c, cw_s5, bput_c, cw_s6, bput_c, cw_s7, bput_c, cw_set (j := (14 + kk)) (by omega), va_id (k := (14 + kk)) (rfl), bput_n] at hD
      exact hD
    obtain ⟨rfl, hR⟩ := hE9
    · skip
      refine vx_catch hown [] ⟨0, 6, 7, 34⟩ [] (hTb.trans rfl) (fun z hz => nomatch hz) rfl (by decide) (hts _ (mlA 18 rfl)) (va_Nw.use rfl hE.2.2.2.2.2) hcell hcv hcl ?_
      refine lv_astore_n (lv' := [(2, .ref qex), (0, .ref (ad 1)), (1, .int (ya))]) hx hb dL_save_7 rfl hl (by decide) rfl (fun ls hl => ?_)
      refine lv_ldc2 (v := (-9000000000000000001)) hx hb hown (hts _ (mlA 19 rfl)) dL_save_8 ?_
      exact lh_ret hX hr hlocks hS hP (Or.inr ⟨by rw [hR]; decide, rfl, rfl⟩) (Nat.le_of_ble_eq_true rfl) (Nat.le_of_ble_eq_true rfl) dL_save_11
  · obtain ⟨hR, hr9, rfl⟩ := hp
    have hP : va_P D vwCl (bw (pwB cI cL cZ ad dl sf sg t n q vv nx ct (upd uf ya.toNatClampNeg 1) (va_up zz (14 + kk) (zz 16)))) H := by
      rw [pwB, bput_c, cw_s1, bput_c, cw_set (j := 16) (by omega), va_id (k := 16) (rfl), bput_c, cw_s5, bput_c, cw_s6, bput_c, cw_s7, bput_c, cw_set (j := (14 + kk)) (by omega), bput_n] at hP
      exact hP
    have hD : va_D A (bw (pwB cI cL cZ ad dl sf sg t n q vv nx ct (upd uf ya.toNatClampNeg 1) (va_up zz (14 + kk) (zz 16)))) := by
      rw [pwB, bput_c, cw_s1, bput_c, cw_set (j := 16) (by omega), va_id (k := 16) (rfl), bput_c, cw_s5, bput_c, cw_s6, bput_c, cw_s7, bput_c, cw_set (j := (14 + kk)) (by omega), bput_n] at hD
      exact hD
    refine lv_as hr9 ?_
    refine lv_i2l (v := (nI (ckZ (zz 16) 16) : Int32).toInt64) hx hb dL_save_5 (rfl) ?_
    exact lh_ret hX hr hlocks hS hP (Or.inl ⟨hR, rfl, rfl⟩) (Nat.le_of_ble_eq_true rfl) (Nat.le_of_ble_eq_true rfl) dL_save_6
theorem dL_restore_0 : decode cL_restore 0 = .ok (.aload_n 0, 1) := by decide +kernel
theorem dL_restore_1 : decode cL_restore 1 = .ok (.iload_n 1, 1) := by decide +kernel
theorem dL_restore_2 : decode cL_restore 2 = .ok (.invokevirtual 95, 3) := by decide +kernel
theorem dL_restore_5 : decode cL_restore 5 = .ok (.i2l, 1) := by decide +kernel
theorem dL_restore_6 : decode cL_restore 6 = .ok (.lreturn, 1) := by decide +kernel
theorem dL_restore_7 : decode cL_restore 7 = .ok (.astore_n 2, 1) := by decide +kernel
theorem dL_restore_8 : decode cL_restore 8 = .ok (.ldc2_w 36, 3) := by decide +kernel
theorem dL_restore_11 : decode cL_restore 11 = .ok (.lreturn, 1) := by decide +kernel
theorem dL_restore_12 : decode cL_restore 12 = .ok (.astore_n 2, 1) := by decide +kernel
theorem dL_restore_13 : decode cL_restore 13 = .ok (.ldc2_w 21, 3) := by decide +kernel
theorem dL_restore_16 : decode cL_restore 16 = .ok (.lreturn, 1) := by decide +kernel
set_option maxHeartbeats 4000000 in
set_option maxRecDepth 100000 in
theorem cL_restoreH (l : Launch) (hst : l.stackTraces = false) (D : va_G) (cI cL cZ : ClassId) (ad : Nat → Nat) (dl : Nat → Nat → Nat) (sf sg : Nat → Option Nat) (hsf : ∀ j, j < 14 → sf j = some (dl j 0)) (hsg : ∀ j, j < 2 → sg j = some (dl (14 + j) 0)) (t : Nat → Int32) (n q : Nat) (hn : n ≤ 90) (hq : q ≤ 90) (vv : Nat → Int32) (nx ct : Nat) (hnx : nx < 14) (hct : ct ≤ 14) (uf : Nat → Int32) (zz : Nat → LgS) (hz : Inv (zz 16)) (hB : ∀ j, (zz j).1.2 ≤ 8) (ya : Int32) (kk : Nat) (hkk2 : kk < 2) (hkk : inN ya 2 → ya.toNatClampNeg = kk) : LH l yL_restore cL_restore 3 [(0, 6, 7, 34), (0, 6, 12, 19)] 7 166 D (pwB cI cL cZ ad dl sf sg t n q vv nx ct uf zz) [(cI, .int), (cL, (.object "TornPageLog$Log")), (cZ, .boolean)] [.ref (ad 1), .int (ya)] (fun (r9 : Int64) (u9 : List va_W) => ((c6rst uf ya) = 0 ∧ r9 = (nI (ckZ (zz (14 + kk)) 16) : Int32).toInt64 ∧ u9 = pwB cI cL cZ ad dl sf sg t n q vv nx 0 uf (va_up zz 16 (zz (14 + kk)))) ∨ (¬ (c6rst uf ya) = 0 ∧ r9 = (if (c6rst uf ya) = 1 then (-9000000000000000001) else (-9000000000000000003)) ∧ u9 = pwB cI cL cZ ad dl sf sg t n q vv nx ct uf zz)) := by
  refine lh_of (by decide) rfl (Nat.le_of_ble_eq_true rfl) ?_
  intro p e s m below meth c ls H hX hTb hr hlocks hK hN hE hSW hZ hCN hP hD hS hl
  generalize gp_A (bw (pwB cI cL cZ ad dl sf sg t n q vv nx ct uf zz)) = A at hZ hD hS ⊢
  have hx := hX.1
  have hb := hX.2.1
  have hown := hX.2.2.2.1
  have hts := hX.2.2.2.2
  have hl : lv_has ls 3 [(0, .ref (ad 1)), (1, .int (ya))] := hl
  refine lv_aload_n hx hb dL_restore_0 rfl (lv_at hl 0 rfl) ?_
  refine lv_iload_n hx hb dL_restore_1 rfl (lv_at hl 1 rfl) ?_
  refine lh_callV (Bs := pwB cI cL cZ ad dl sf sg t n q vv nx ct uf zz) hX (c6_restore l hst D cI cL cZ (ad 1) (ad 2) (ad 4) (ad 6) (dl 16) (dl 17) (dl 18) (zz 16) hz (ad 7) (ad 8) sg uf (dl (14 + kk)) (zz (14 + kk)) (hB (14 + kk)) (ad 5) nx ct ya (fun y9 => by rw [hkk y9]; exact hsg kk hkk2)) ⟨by decide, by decide, show (parseMethodDescriptor yX6_restore.desc).map (fun d => d.parameters.length) = some 1 by decide +kernel⟩ rfl (mlA 96 rfl) (mlA 97 rfl) (mlA 98 rfl) (mlA 99 rfl) ⟨Nat.le_of_ble_eq_true rfl, Nat.le_of_ble_eq_true rfl⟩ hK hN hE hSW hZ [0, 1, 2] rfl hP hD hS [1, 8 + 16, 5, 6, 7, 8 + (14 + kk), 3] (by simp; try omega) (hcc cw_g1 (hcc (cw_get (j := 16) (by omega)) (hcc cw_g5 (hcc cw_g6 (hcc cw_g7 (hcc (cw_get (j := (14 + kk)) (by omega)) (hcc cw_g3 (hcn)))))))) rfl hl.1 rfl (Nat.le_of_ble_eq_true rfl) dL_restore_2 ⟨Nat.le_of_ble_eq_true rfl, Nat.le_of_ble_eq_true rfl⟩ (fun r u h => by obtain ⟨-, -, rfl⟩ := h; rfl) (fun E u h => by obtain ⟨-, rfl⟩ := h; rfl) (fun E ce qex u H locs hxp hP hD hS hcell hcv hcl => ?_) (fun r u H locs hp hP hD hS => ?_)
  · obtain ⟨hE9, rfl⟩ := hxp
    have hP : va_P D vwCl (bw (pwB cI cL cZ ad dl sf sg t n q vv nx ct uf zz)) H := by
      rw [pwB, bput_c, cw_s1, bput_c, cw_set (j := 16) (by omega), va_id (k := 16) (rfl), bput_c, cw_s5, bput_c, cw_s6, bput_c, cw_s7, bput_c, cw_set (j := (14 + kk)) (by omega), va_id (k := (14 + kk)) (rfl), bput_c, cw_s3, bput_n] at hP
      exact hP
    have hD : va_D A (bw (pwB cI cL cZ ad dl sf sg t n q vv nx ct uf zz)) := by
      rw [pwB, bput_c, cw_s1, bput_c, cw_set (j := 16) (by omega), va_id (k := 16) (rfl), bput_c, cw_s5, bput_c, cw_s6, bput_c, cw_s7, bput_c, cw_set (j := (14 + kk)) (by omega), va_id (k := (14 + kk)) (rfl), bput_c, cw_s3, bput_n] at hD
      exact hD
    rcases hE9 with ⟨rfl, hR⟩ | ⟨rfl, hR⟩
    · skip
      refine vx_catch hown [] ⟨0, 6, 7, 34⟩ [⟨0, 6, 12, 19⟩] (hTb.trans rfl) (fun z hz => nomatch hz) rfl (by decide) (hts _ (mlA 18 rfl)) (va_Nw.use rfl hE.2.2.2.2.2) hcell hcv hcl ?_
      refine lv_astore_n (lv' := [(2, .ref qex), (0, .ref (ad 1)), (1, .int (ya))]) hx hb dL_restore_7 rfl hl (by decide) rfl (fun ls hl => ?_)
      refine lv_ldc2 (v := (-9000000000000000001)) hx hb hown (hts _ (mlA 19 rfl)) dL_restore_8 ?_
      exact lh_ret hX hr hlocks hS hP (Or.inr ⟨by rw [hR]; decide, by rw [hR]; rfl, rfl⟩) (Nat.le_of_ble_eq_true rfl) (Nat.le_of_ble_eq_true rfl) dL_restore_11
    · skip
      refine vx_catch hown [⟨0, 6, 7, 34⟩] ⟨0, 6, 12, 19⟩ [] (hTb.trans rfl) (fun z hz => by rw [List.mem_singleton.mp hz]; exact Or.inr ⟨by decide, xOB, hts _ (mlA 18 rfl), hCN.2.2⟩) rfl (by decide) (hts _ (mlA 3 rfl)) (va_Nw.use rfl hE.2.2.2.2.1) hcell hcv hcl ?_
      refine lv_astore_n (lv' := [(2, .ref qex), (0, .ref (ad 1)), (1, .int (ya))]) hx hb dL_restore_12 rfl hl (by decide) rfl (fun ls hl => ?_)
      refine lv_ldc2 (v := (-9000000000000000003)) hx hb hown (hts _ (mlA 5 rfl)) dL_restore_13 ?_
      exact lh_ret hX hr hlocks hS hP (Or.inr ⟨by rw [hR]; decide, by rw [hR]; rfl, rfl⟩) (Nat.le_of_ble_eq_true rfl) (Nat.le_of_ble_eq_true rfl) dL_restore_16
  · obtain ⟨hR, hr9, rfl⟩ := hp
    have hP : va_P D vwCl (bw (pwB cI cL cZ ad dl sf sg t n q vv nx 0 uf (va_up zz 16 (zz (14 + kk))))) H := by
      rw [pwB, bput_c, cw_s1, bput_c, cw_set (j := 16) (by omega), bput_c, cw_s5, bput_c, cw_s6, bput_c, cw_s7, bput_c, cw_set (j := (14 + kk)) (by omega), va_id (k := (14 + kk)) (by simp only [va_up]; rw [if_neg (by omega)]), bput_c, cw_s3, bput_n] at hP
      exact hP
    have hD : va_D A (bw (pwB cI cL cZ ad dl sf sg t n q vv nx 0 uf (va_up zz 16 (zz (14 + kk))))) := by
      rw [pwB, bput_c, cw_s1, bput_c, cw_set (j := 16) (by omega), bput_c, cw_s5, bput_c, cw_s6, bput_c, cw_s7, bput_c, cw_set (j := (14 + kk)) (by omega), va_id (k := (14 + kk)) (by simp only [va_up]; rw [if_neg (by omega)]), bput_c, cw_s3, bput_n] at hD
      exact hD
    refine lv_as hr9 ?_
    refine lv_i2l (v := (nI (ckZ (zz (14 + kk)) 16) : Int32).toInt64) hx hb dL_restore_5 (rfl) ?_
    exact lh_ret hX hr hlocks hS hP (Or.inl ⟨hR, rfl, rfl⟩) (Nat.le_of_ble_eq_true rfl) (Nat.le_of_ble_eq_true rfl) dL_restore_6
theorem dL_load_0 : decode cL_load 0 = .ok (.aload_n 0, 1) := by decide +kernel
theorem dL_load_1 : decode cL_load 1 = .ok (.invokevirtual 23, 3) := by decide +kernel
theorem dL_load_4 : decode cL_load 4 = .ok (.i2l, 1) := by decide +kernel
theorem dL_load_5 : decode cL_load 5 = .ok (.lreturn, 1) := by decide +kernel
theorem dL_load_6 : decode cL_load 6 = .ok (.astore_n 1, 1) := by decide +kernel
theorem dL_load_7 : decode cL_load 7 = .ok (.ldc2_w 21, 3) := by decide +kernel
theorem dL_load_10 : decode cL_load 10 = .ok (.lreturn, 1) := by decide +kernel
set_option maxHeartbeats 4000000 in
set_option maxRecDepth 100000 in
theorem cL_loadH (l : Launch) (hst : l.stackTraces = false) (D : va_G) (cI cL cZ : ClassId) (ad : Nat → Nat) (dl : Nat → Nat → Nat) (sf sg : Nat → Option Nat) (hsf : ∀ j, j < 14 → sf j = some (dl j 0)) (hsg : ∀ j, j < 2 → sg j = some (dl (14 + j) 0)) (t : Nat → Int32) (n q : Nat) (hn : n ≤ 90) (hq : q ≤ 90) (vv : Nat → Int32) (nx ct : Nat) (hnx : nx < 14) (hct : ct ≤ 14) (uf : Nat → Int32) (zz : Nat → LgS) (hz : Inv (zz 16)) (hB : ∀ j, (zz j).1.2 ≤ 8)  : LH l yL_load cL_load 2 [(0, 5, 6, 19)] 7 191 D (pwB cI cL cZ ad dl sf sg t n q vv nx ct uf zz) [(cI, .int), (cL, (.object "TornPageLog$Log")), (cZ, .boolean)] [.ref (ad 1)] (fun (r9 : Int64) (u9 : List va_W) => ((c6ld t n) = 0 ∧ r9 = (nI ((ldR t n (zz 16)).2) : Int32).toInt64 ∧ ∃ q9 : Nat, ∃ v9 : Nat → Int32, ∃ zt9 : LgS, (q9 ≤ 90) ∧ (zt9.1.2 ≤ 8) ∧ u9 = pwB cI cL cZ ad dl sf sg t n q9 v9 nx 0 (upd (upd uf 0 0) 1 0) (va_up (va_up zz 16 ((ldR t n (zz 16)).1)) 18 zt9)) ∨ (¬ (c6ld t n) = 0 ∧ r9 = (-9000000000000000003) ∧ ∃ q9 : Nat, ∃ v9 : Nat → Int32, (q9 ≤ 90) ∧ u9 = pwB cI cL cZ ad dl sf sg t n q9 v9 nx ct uf zz)) := by
  refine lh_of (by decide) rfl (Nat.le_of_ble_eq_true rfl) ?_
  intro p e s m below meth c ls H hX hTb hr hlocks hK hN hE hSW hZ hCN hP hD hS hl
  generalize gp_A (bw (pwB cI cL cZ ad dl sf sg t n q vv nx ct uf zz)) = A at hZ hD hS ⊢
  have hx := hX.1
  have hb := hX.2.1
  have hown := hX.2.2.2.1
  have hts := hX.2.2.2.2
  have hl : lv_has ls 2 [(0, .ref (ad 1))] := hl
  refine lv_aload_n hx hb dL_load_0 rfl (lv_at hl 0 rfl) ?_
  refine lh_callV (Bs := pwB cI cL cZ ad dl sf sg t n q vv nx ct uf zz) hX (c6_load l hst D cI cZ (ad 1) (ad 2) (ad 4) (ad 6) (dl 16) (dl 17) (dl 18) (ad 3) t n hn q hq vv (zz 16) hz (zz 18) (hB 18) (ad 5) nx ct (ad 7) (ad 8) uf) ⟨by decide, by decide, show (parseMethodDescriptor yX6_load.desc).map (fun d => d.parameters.length) = some 0 by decide +kernel⟩ rfl (mlA 10 rfl) (mlA 11 rfl) (mlA 12 rfl) (mlA 13 rfl) ⟨Nat.le_of_ble_eq_true rfl, Nat.le_of_ble_eq_true rfl⟩ hK hN hE hSW hZ [0, 2] rfl hP hD hS [1, 2, 8 + 16, 8 + 18, 3, 5, 7] (by simp; try omega) (hcc cw_g1 (hcc cw_g2 (hcc (cw_get (j := 16) (by omega)) (hcc (cw_get (j := 18) (by omega)) (hcc cw_g3 (hcc cw_g5 (hcc cw_g7 (hcn)))))))) rfl hl.1 rfl (Nat.le_of_ble_eq_true rfl) dL_load_1 ⟨Nat.le_of_ble_eq_true rfl, Nat.le_of_ble_eq_true rfl⟩ (fun r u h => by obtain ⟨-, -, q9, v9, zt9, hc0, hc1, rfl⟩ := h; rfl) (fun E u h => by obtain ⟨-, q9, v9, hc0, rfl⟩ := h; rfl) (fun E ce qex u H locs hxp hP hD hS hcell hcv hcl => ?_) (fun r u H locs hp hP hD hS => ?_)
  · obtain ⟨hE9, q9, v9, hc0, rfl⟩ := hxp
    have hP : va_P D vwCl (bw (pwB cI cL cZ ad dl sf sg t n q9 v9 nx ct uf zz)) H := by
      rw [pwB, bput_c, cw_s1, bput_c, cw_s2, bput_c, cw_set (j := 16) (by omega), va_id (k := 16) (rfl), bput_c, cw_set (j := 18) (by omega), va_id (k := 18) (rfl), bput_c, cw_s3, bput_c, cw_s5, bput_c, cw_s7, bput_n] at hP
      exact hP
    have hD : va_D A (bw (pwB cI cL cZ ad dl sf sg t n q9 v9 nx ct uf zz)) := by
      rw [pwB, bput_c, cw_s1, bput_c, cw_s2, bput_c, cw_set (j := 16) (by omega), va_id (k := 16) (rfl), bput_c, cw_set (j := 18) (by omega), va_id (k := 18) (rfl), bput_c, cw_s3, bput_c, cw_s5, bput_c, cw_s7, bput_n] at hD
      exact hD
    obtain ⟨rfl, hR⟩ := hE9
    · skip
      refine vx_catch hown [] ⟨0, 5, 6, 19⟩ [] (hTb.trans rfl) (fun z hz => nomatch hz) rfl (by decide) (hts _ (mlA 3 rfl)) (va_Nw.use rfl hE.2.2.2.2.1) hcell hcv hcl ?_
      refine lv_astore_n (lv' := [(1, .ref qex), (0, .ref (ad 1))]) hx hb dL_load_6 rfl hl (by decide) rfl (fun ls hl => ?_)
      refine lv_ldc2 (v := (-9000000000000000003)) hx hb hown (hts _ (mlA 5 rfl)) dL_load_7 ?_
      exact lh_ret hX hr hlocks hS hP (Or.inr ⟨by rw [hR]; decide, rfl, _, _, hc0, rfl⟩) (Nat.le_of_ble_eq_true rfl) (Nat.le_of_ble_eq_true rfl) dL_load_10
  · obtain ⟨hR, hr9, q9, v9, zt9, hc0, hc1, rfl⟩ := hp
    have hP : va_P D vwCl (bw (pwB cI cL cZ ad dl sf sg t n q9 v9 nx 0 (upd (upd uf 0 0) 1 0) (va_up (va_up zz 16 ((ldR t n (zz 16)).1)) 18 zt9))) H := by
      rw [pwB, bput_c, cw_s1, bput_c, cw_s2, bput_c, cw_set (j := 16) (by omega), bput_c, cw_set (j := 18) (by omega), bput_c, cw_s3, bput_c, cw_s5, bput_c, cw_s7, bput_n] at hP
      exact hP
    have hD : va_D A (bw (pwB cI cL cZ ad dl sf sg t n q9 v9 nx 0 (upd (upd uf 0 0) 1 0) (va_up (va_up zz 16 ((ldR t n (zz 16)).1)) 18 zt9))) := by
      rw [pwB, bput_c, cw_s1, bput_c, cw_s2, bput_c, cw_set (j := 16) (by omega), bput_c, cw_set (j := 18) (by omega), bput_c, cw_s3, bput_c, cw_s5, bput_c, cw_s7, bput_n] at hD
      exact hD
    refine lv_as hr9 ?_
    refine lv_i2l (v := (nI ((ldR t n (zz 16)).2) : Int32).toInt64) hx hb dL_load_4 (rfl) ?_
    exact lh_ret hX hr hlocks hS hP (Or.inl ⟨hR, rfl, _, _, _, hc0, hc1, rfl⟩) (Nat.le_of_ble_eq_true rfl) (Nat.le_of_ble_eq_true rfl) dL_load_5
