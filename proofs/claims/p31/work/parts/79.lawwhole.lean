-- THE LAW, FROM ITS ENTRY
set_option maxHeartbeats 4000000 in
set_option maxRecDepth 100000 in
/-- YOUR PART: from the entry, for every script of at most 260 ints, the law comes to its end with true ('hflags': the launch's flags, for a law that throws: no stack traces) -/
theorem whole_start {p : Program} {e : Env} {s : State} {m : MethodId} {below : List Frame} {meth : Method} {c : Code} (l : Launch) (hflags : l.flags = flags0) {b L : Nat} {xs : Nat → Int32} (hL : L ≤ 260) (C0 : lw_At p s m meth c b L xs) : W p l e room_1 s m #[Value.ref b] below meth c s.heap [] 0 0 (lw_Z below #[Value.ref b] s) (entryFrame m ([Value.ref b] : List Value).toArray 7) := by
  obtain ⟨hx, hb, hr, hml, hown, hts, hXs, hbl, hlocks, hgv⟩ := id C0
  have hb : c.code = cL_law := hb
  have hX : CallFix p m c cL_law 7 s #[Value.ref b] lw_tbl RL := ⟨hx, hb, hml, hown, hts⟩
  have hown : s.vm.findClass RL = some m.cls := hown
  have hst : l.stackTraces = false := by
    unfold Launch.stackTraces
    rw [hflags]
    decide +kernel
  have hg : ∀ w ∈ lsG, w.before #[Value.ref b] s = true := flat_of_before _ hgv
  have hA : ∀ q : Nat, s.heap.size ≤ q → (fun q : Nat => s.heap.size ≤ q) q := fun _ h => h
  have hbA : ¬ (fun q : Nat => s.heap.size ≤ q) b := Nat.not_le.mpr hbl
  have hnA : ∀ q : Nat, q < s.heap.size → ¬ (fun q : Nat => s.heap.size ≤ q) q := fun q h => Nat.not_le.mpr h
  have hN := ls_NW hts
  have hE := ls_EW hts
  have hSW := ls_SW hts hg
  have hZ := ls_ZW hts hg hnA
  have hCN := ls_CN hg
  obtain ⟨D, cI, cL, cZ, hK⟩ := ls_K hts
  have hS : va_S (fun q : Nat => s.heap.size ≤ q) s.heap s.heap [] := va_S.rf
  have hP : va_P D vwCl [] s.heap := fun k q h => by simp at h
  have hD : va_D (fun q : Nat => s.heap.size ≤ q) [] := ⟨fun i j p q h => by simp at h, fun k q h => by simp at h⟩
  generalize hAe : (fun q : Nat => s.heap.size ≤ q) = A at hA hbA hZ hS hD
  have hl := lv_entry ([.ref b]) (n := 7) (Nat.le_of_ble_eq_true rfl)
  rw [lg_entry_eq]
  generalize (lg_sl ([.ref b]) ++ List.replicate (7 - (lg_sl ([.ref b])).length) Slot.unset).toArray = ls at hl ⊢
  have hl : lv_has ls 7 [(0, .ref b)] := hl
  refine va_new (ci := 6) (fs := [.null, .null, .null, .null, .null, .null]) (C := RX6) (T := TX6) (N := 6) hx hb hts inX6 tyX6 tyX6_ok hown (hts _ wq_cls) (hts _ wq_6) (hts _ wq_ini) hK hP hD hS hA rfl (fun j hj => by rcases (show j = 0 ∨ j = 1 ∨ j = 2 ∨ j = 3 ∨ j = 4 ∨ j = 5 by omega) with rfl | rfl | rfl | rfl | rfl | rfl <;> rfl) (Nat.le_of_ble_eq_true rfl) (Nat.le_of_ble_eq_true rfl) dL_law_0 (fun ob H hP hD hS => ?_)
  refine lv_dup hx hb dL_law_3 rfl ?_
  refine lw_initM (wr := []) (As := []) (rest := [.ref ob]) hX ls_g6 wq_ini (c6_init l D cI cL cZ ob H.size) ls_q6 wq_lnk wq_ins rfl ⟨Nat.le_of_ble_eq_true rfl, Nat.le_of_ble_eq_true rfl⟩ hK hN [0, 1, 2] rfl hP hD hS hA rfl [0] [] rfl rfl rfl rfl (fun _ h => absurd h List.not_mem_nil) hl.1 rfl (Nat.le_of_ble_eq_true rfl) dL_law_4 ⟨Nat.le_of_ble_eq_true rfl, Nat.le_of_ble_eq_true rfl⟩ (fun u H locs hpost hP hD hS => ?_)
  obtain ⟨Us, rfl, so, tx, ho, sa, sl, sb, ua, dh, ds, dg, dc, dt, sf, sg, hU, hsf, hsg⟩ := hpost
  have hP : va_P D vwCl (bw Us) H := hP
  have hD : va_D A (bw Us) := hD
  refine lv_astore_n (lv' := [(1, .ref ob), (0, .ref b)]) hx hb dL_law_7 rfl hl (by decide) rfl (fun ls hl => ?_)
  refine va_new (ci := 6) (fs := [.null, .null, .null, .null, .null, .null]) (C := RX6) (T := TX6) (N := 6) hx hb hts inX6 tyX6 tyX6_ok hown (hts _ wq_cls) (hts _ wq_6) (hts _ wq_ini) hK hP hD hS hA rfl (fun j hj => by rcases (show j = 0 ∨ j = 1 ∨ j = 2 ∨ j = 3 ∨ j = 4 ∨ j = 5 by omega) with rfl | rfl | rfl | rfl | rfl | rfl <;> rfl) (Nat.le_of_ble_eq_true rfl) (Nat.le_of_ble_eq_true rfl) dL_law_8 (fun h H hP hD hS => ?_)
  refine lv_dup hx hb dL_law_11 rfl ?_
  refine lw_initM (wr := bw Us) (As := []) (rest := [.ref h]) hX ls_g6 wq_ini (c6_init l D cI cL cZ h H.size) ls_q6 wq_lnk wq_ins rfl ⟨Nat.le_of_ble_eq_true rfl, Nat.le_of_ble_eq_true rfl⟩ hK hN [0, 1, 2] rfl hP hD hS hA rfl [(bw Us).length] (List.range (bw Us).length) rfl last_C last_R (va_nd_of _ List.nodup_range) last_d hl.1 rfl (Nat.le_of_ble_eq_true rfl) dL_law_12 ⟨Nat.le_of_ble_eq_true rfl, Nat.le_of_ble_eq_true rfl⟩ (fun u H locs hpost hP hD hS => ?_)
  obtain ⟨Us2, rfl, so2, tx2, ho2, sa2, sl2, sb2, ua2, dh2, ds2, dg2, dc2, dt2, sf2, sg2, hU2, hsf2, hsg2⟩ := hpost
  refine lv_astore_n (lv' := [(2, .ref h), (1, .ref ob), (0, .ref b)]) hx hb dL_law_15 rfl hl (by decide) rfl (fun ls hl => ?_)
  obtain ⟨G1, C1, hO1, e1, hG1, p1⟩ := ob_start hU hsf hsg
  obtain ⟨G2, C2, hO2, e2, hG2, p2⟩ := ob_start hU2 hsf2 hsg2
  obtain ⟨hOs, hP, hD⟩ := ob_both hO1 hO2 p1 p2 hP hD
  rw [← e1, ← e2] at hl
  refine W.widen (k := 1420) (n := 6 * (1420)) (Nat.le_of_ble_eq_true rfl) (Nat.le_of_ble_eq_true rfl) ?_
  refine law_run (D := D) (A := A) (cI := cI) (cL := cL) (cZ := cZ) (Gs := fun i => match i with | 0 => G1 | _ => G2) (xs := xs) hst ⟨⟨hx, hb, hml, hown, fun w h => hts w (inLA w h)⟩, hK, hN, hE, hSW, hZ, hCN⟩ hXs hbl hbA (by omega) hG1 hG2 ?_ ⟨_, hOs, hP, hD, hS⟩ hl
  intro H locs ls cells slots hc hs hS
  subst hAe
  refine va_forget (fun q hq => hS.2.2 q hq) ?_
  refine W.widen (k := 600130) (n := 7301080) hc hs ?_
  exact lw_ret hx hb hr hlocks dL_law_295
