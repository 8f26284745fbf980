-- THE LAW, FROM ITS ENTRY
set_option maxHeartbeats 4000000 in
set_option maxRecDepth 100000 in
/-- YOUR PART: from the entry, for every script of at most 2048 ints, the law comes to its end with true ('hflags': the launch's flags, for a law that throws: no stack traces) -/
theorem whole_start {p : Program} {e : Env} {s : State} {m : MethodId} {below : List Frame} {meth : Method} {c : Code} (l : Launch) (hflags : l.flags = flags0) {b L : Nat} {xs : Nat → Int32} (hL : L ≤ 2048) (C0 : lw_At p s m meth c b L xs) : W p l e room_1 s m #[Value.ref b] below meth c s.heap [] 0 0 (lw_Z below #[Value.ref b] s) (entryFrame m ([Value.ref b] : List Value).toArray 7) := by
  obtain ⟨hx, hb, hr, hml, hown, hts, hXs, hbl, hlocks, hgv⟩ := id C0
  have hb : c.code = cL_law := hb
  have hX : CallFix p m c cL_law 7 s #[Value.ref b] lw_tbl RL := ⟨hx, hb, hml, hown, hts⟩
  have hown : s.vm.findClass RL = some m.cls := hown
  have hst : l.stackTraces = false := by
    unfold Launch.stackTraces
    rw [hflags]
    decide +kernel
  have hg : ∀ w ∈ lsG, w.before #[Value.ref b] s = true := flat_of_before _ hgv
  have hA : ∀ q : Nat, s.heap.size ≤ q → (fun q : Nat => s.heap.size ≤ q) q := fun _ h => h
  have hbA : ¬ (fun q : Nat => s.heap.size ≤ q) b := Nat.not_le.mpr hbl
  have hnA : ∀ q : Nat, q < s.heap.size → ¬ (fun q : Nat => s.heap.size ≤ q) q := fun q h => Nat.not_le.mpr h
  have hN := ls_NW hts
  have hE := ls_EW hts
  have hSW := ls_SW hts hg
  have hZ := ls_ZW hts hg hnA
  have hCN := ls_CN hg
  obtain ⟨D, cI, cL, cZ, hK⟩ := ls_K hts
  have hS : va_S (fun q : Nat => s.heap.size ≤ q) s.heap s.heap [] := va_S.rf
  have hP : va_P D vwCl [] s.heap := fun k q h => by simp at h
  have hD : va_D (fun q : Nat => s.heap.size ≤ q) [] := ⟨fun i j p q h => by simp at h, fun k q h => by simp at h⟩
  generalize hAe : (fun q : Nat => s.heap.size ≤ q) = A at hA hbA hZ hS hD
  have hl := lv_entry ([.ref b]) (n := 7) (Nat.le_of_ble_eq_true rfl)
  rw [lg_entry_eq]
  generalize (lg_sl ([.ref b]) ++ List.replicate (7 - (lg_sl ([.ref b])).length) Slot.unset).toArray = ls at hl ⊢
  have hl : lv_has ls 7 [(0, .ref b)] := hl
  refine va_new (ci := 6) (fs := [.null, .null, .null, .null, .null, .null]) (C := RX6) (T := TX6) (N := 6) hx hb hts inX6 tyX6 tyX6_ok hown (hts _ wt_712) (hts _ wt_713) (hts _ wt_246) hK hP hD hS hA rfl (fun j hj => by rcases (show j = 0 ∨ j = 1 ∨ j = 2 ∨ j = 3 ∨ j = 4 ∨ j = 5 by omega) with rfl | rfl | rfl | rfl | rfl | rfl <;> rfl) (Nat.le_of_ble_eq_true rfl) (Nat.le_of_ble_eq_true rfl) dL_law_0 (fun ob H hP hD hS => ?_)
  refine lv_dup hx hb dL_law_3 rfl ?_
  refine lw_initM (wr := []) (As := []) (rest := [.ref ob]) hX ls_g6 wt_246 (c6_init l D cI cL cZ ob H.size) ls_q6 wt_718 wt_719 rfl ⟨Nat.le_of_ble_eq_true rfl, Nat.le_of_ble_eq_true rfl⟩ hK hN [0, 1, 2] rfl hP hD hS hA rfl [0] [] rfl rfl rfl rfl (fun _ h => absurd h List.not_mem_nil) hl.1 rfl (Nat.le_of_ble_eq_true rfl) dL_law_4 ⟨Nat.le_of_ble_eq_true rfl, Nat.le_of_ble_eq_true rfl⟩ (fun u H locs hpost hP hD hS => ?_)
  obtain ⟨Us, rfl, so, tx, ho, sa, sl, sb, ua, dh, ds, dg, dc, dt, sf, sg, hU, hsf, hsg⟩ := hpost
  have hP : va_P D vwCl (bw Us) H := hP
  have hD : va_D A (bw Us) := hD
  refine lv_astore_n (lv' := [(1, .ref ob), (0, .ref b)]) hx hb dL_law_7 rfl hl (by decide) rfl (fun ls hl => ?_)
  refine va_new (ci := 7) (fs := [.int (0), .null, .int (0), .int (0), .int (0), .int (0), .int (0), .null, .null, .null, .null, .int (0), .null, .null, .null]) (C := RX7) (T := TX7) (N := 15) hx hb hts inX7 tyX7 tyX7_ok hown (hts _ wt_714) (hts _ wt_715) (hts _ wt_15) hK hP hD hS hA rfl (fun j hj => by rcases (show j = 0 ∨ j = 1 ∨ j = 2 ∨ j = 3 ∨ j = 4 ∨ j = 5 ∨ j = 6 ∨ j = 7 ∨ j = 8 ∨ j = 9 ∨ j = 10 ∨ j = 11 ∨ j = 12 ∨ j = 13 ∨ j = 14 by omega) with rfl | rfl | rfl | rfl | rfl | rfl | rfl | rfl | rfl | rfl | rfl | rfl | rfl | rfl | rfl <;> rfl) (Nat.le_of_ble_eq_true rfl) (Nat.le_of_ble_eq_true rfl) dL_law_8 (fun h H hP hD hS => ?_)
  refine lv_dup hx hb dL_law_11 rfl ?_
  refine lw_initN (wr := bw Us) (As := []) (rest := [.ref h]) hX ls_g7 wt_15 (c7_init l D cI cZ h H.size) ls_q7 wt_721 wt_722 rfl ⟨Nat.le_of_ble_eq_true rfl, Nat.le_of_ble_eq_true rfl⟩ hK [0, 2] rfl hP hD hS hA rfl [(bw Us).length] (List.range (bw Us).length) rfl last_C last_R (va_nd_of _ List.nodup_range) last_d hl.1 rfl (Nat.le_of_ble_eq_true rfl) dL_law_12 ⟨Nat.le_of_ble_eq_true rfl, Nat.le_of_ble_eq_true rfl⟩ (fun u H locs hpost hP hD hS => ?_)
  obtain ⟨sc, nw, tr, lk, di, kp, ik, lv, hu⟩ := hpost
  refine lv_astore_n (lv' := [(2, .ref h), (1, .ref ob), (0, .ref b)]) hx hb dL_law_15 rfl hl (by decide) rfl (fun ls hl => ?_)
  refine lv_iconst (v := 1) hx hb dL_law_16 (by decide) ?_
  refine va_newa (atype := .long) (ty := .long) (N' := 1) (a0 := (1, .inr (.inl (fun _ => 0)))) hx hb (hts _ wt_716) rfl hK hP hD hS hA (fun cA => by rw [vp_cell_l]; rfl) (by decide) (by decide) (Nat.le_of_ble_eq_true rfl) (Nat.le_of_ble_eq_true rfl) (Nat.le_of_ble_eq_true rfl) dL_law_17 (fun qo cJ H hK hP hD hS => ?_)
  refine lv_astore_n (lv' := [(3, .ref qo), (2, .ref h), (1, .ref ob), (0, .ref b)]) hx hb dL_law_19 rfl hl (by decide) rfl (fun ls hl => ?_)
  refine lv_iconst (v := 0) hx hb dL_law_20 (by decide) ?_
  refine lv_istore (lv' := [(4, .int 0), (3, .ref qo), (2, .ref h), (1, .ref ob), (0, .ref b)]) hx hb dL_law_21 hl (by decide) rfl (fun ls hl => ?_)
  have hLST := ls_lst hP hD hU hu
  refine W.widen (k := 230 + 0) (n := 7300 + 6 * 0) (Nat.le_of_ble_eq_true rfl) (Nat.le_of_ble_eq_true rfl) ?_
  refine law_loop (cI := cI) (cL := cL) (cZ := cZ) (cJ := cJ) (ar := lsA [h, sc, nw, tr, lk, di, kp, ik, lv]) (ad := lsA [qo, ob, so, tx, ho, sa, sl, sb, ua]) (dl := lsD dh ds dg dc dt) (sf := sf) (sg := sg) hst (fun j hj => by rw [hsf j hj]; unfold lsD; rw [if_pos hj]) (fun j hj => by rw [hsg j hj]; unfold lsD; rw [if_neg (by omega), if_pos (by omega), show 14 + j - 14 = j by omega]) ⟨hX, hr, hlocks, hK, hN, hE, hSW, hZ, hCN, hXs, hbl, hbA⟩ hL ?_ L 0 (by omega) (by omega) _ _ _ hLST hS (lv_sub hl [4, 3, 2, 1, 0] rfl)
  intro H locs ls cells slots hc hs hS
  refine lv_iconst (v := 1) hx hb dL_law_1611 (by decide) ?_
  subst hAe
  refine va_forget (fun q hq => hS.2.2 q hq) ?_
  refine W.widen (k := 601024) (n := 7293034) (Nat.le_trans hc (Nat.le_of_ble_eq_true rfl)) (Nat.le_trans hs (Nat.le_of_ble_eq_true rfl)) ?_
  exact lw_ret hx hb hr hlocks dL_law_1612
