-- THE LAW'S SWITCH
section SW9
variable {p : Program} {l : Launch} {e : Env} {s : State} {m : MethodId} {below : List Frame} {meth : Method} {c : Code} {cells slots : Nat} {Q : State → Prop} {D : va_G} {A : Nat → Prop} {b : Addr} {cI cL cZ cJ : ClassId} {ar ad : Nat → Nat} {dl : Nat → Nat → Nat} {sf sg : Nat → Option Nat} {L i : Nat} {xs : Nat → Int32}
set_option maxHeartbeats 4000000 in
theorem lw_switch (hst : l.stackTraces = false) (hsf : ∀ j, j < 14 → sf j = some (dl j 0)) (hsg : ∀ j, j < 2 → sg j = some (dl (14 + j) 0)) (hL0 : LXc D cI cL cZ cJ p s m meth c A b L xs) (hi : 4 * i + 4 ≤ L) (hL9 : L ≤ 2048) {H : Heap} {locs : List Loc} {ls : Array Slot} (hcs : cells + 1 ≤ room_1.cells ∧ slots + 6 ≤ room_1.slots) (hLst : LST D cI cL cZ cJ ar ad dl sf sg A H) (hS : va_S A s.heap H locs) (hl : lv_has ls 7 [(0, .ref b), (1, .ref (ad 1)), (2, .ref (ar 0)), (3, .ref (ad 0)), (4, .int (nI (4 * i)))]) (hk : LK p l e s m below meth c D cI cL cZ cJ ar ad dl sf sg A b i (cells + 1) (slots + 6) Q) (v : Int32) : W p l e room_1 s m #[Value.ref b] below meth c H locs cells slots Q (F0 m 39 ls [.int v]) := by
  have hx := hL0.1.1
  have hb := hL0.1.2.1
  by_cases h0 : v = 0
  · subst h0
    refine lv_tableIn (off := 125) (tgt := 164) hx hb dL_law_39 (by decide) (by decide) (by decide) (by decide) ?_
    exact lc_append hst hsf hsg hL0 hi hL9 H locs ls hcs hLst hS hl hk
  by_cases h1 : v = 1
  · subst h1
    refine lv_tableIn (off := 181) (tgt := 220) hx hb dL_law_39 (by decide) (by decide) (by decide) (by decide) ?_
    exact lc_clearText hst hsf hsg hL0 hi hL9 H locs ls hcs hLst hS hl hk
  by_cases h2 : v = 2
  · subst h2
    refine lv_tableIn (off := 194) (tgt := 233) hx hb dL_law_39 (by decide) (by decide) (by decide) (by decide) ?_
    exact lc_errorPosition hst hsf hsg hL0 hi hL9 H locs ls hcs hLst hS hl hk
  by_cases h3 : v = 3
  · subst h3
    refine lv_tableIn (off := 207) (tgt := 246) hx hb dL_law_39 (by decide) (by decide) (by decide) (by decide) ?_
    exact lc_load hst hsf hsg hL0 hi hL9 H locs ls hcs hLst hS hl hk
  by_cases h4 : v = 4
  · subst h4
    refine lv_tableIn (off := 251) (tgt := 290) hx hb dL_law_39 (by decide) (by decide) (by decide) (by decide) ?_
    exact lc_about hst hsf hsg hL0 hi hL9 H locs ls hcs hLst hS hl hk
  by_cases h5 : v = 5
  · subst h5
    refine lv_tableIn (off := 307) (tgt := 346) hx hb dL_law_39 (by decide) (by decide) (by decide) (by decide) ?_
    exact lc_page hst hsf hsg hL0 hi hL9 H locs ls hcs hLst hS hl hk
  by_cases h6 : v = 6
  · subst h6
    refine lv_tableIn (off := 375) (tgt := 414) hx hb dL_law_39 (by decide) (by decide) (by decide) (by decide) ?_
    exact lc_block hst hsf hsg hL0 hi hL9 H locs ls hcs hLst hS hl hk
  by_cases h7 : v = 7
  · subst h7
    refine lv_tableIn (off := 443) (tgt := 482) hx hb dL_law_39 (by decide) (by decide) (by decide) (by decide) ?_
    exact lc_get hst hsf hsg hL0 hi hL9 H locs ls hcs hLst hS hl hk
  by_cases h8 : v = 8
  · subst h8
    refine lv_tableIn (off := 499) (tgt := 538) hx hb dL_law_39 (by decide) (by decide) (by decide) (by decide) ?_
    exact lc_keyAt hst hsf hsg hL0 hi hL9 H locs ls hcs hLst hS hl hk
  by_cases h9 : v = 9
  · subst h9
    refine lv_tableIn (off := 555) (tgt := 594) hx hb dL_law_39 (by decide) (by decide) (by decide) (by decide) ?_
    exact lc_newest hst hsf hsg hL0 hi hL9 H locs ls hcs hLst hS hl hk
  by_cases h10 : v = 10
  · subst h10
    refine lv_tableIn (off := 611) (tgt := 650) hx hb dL_law_39 (by decide) (by decide) (by decide) (by decide) ?_
    exact lc_lastCut hst hsf hsg hL0 hi hL9 H locs ls hcs hLst hS hl hk
  by_cases h11 : v = 11
  · subst h11
    refine lv_tableIn (off := 667) (tgt := 706) hx hb dL_law_39 (by decide) (by decide) (by decide) (by decide) ?_
    exact lc_put hst hsf hsg hL0 hi hL9 H locs ls hcs hLst hS hl hk
  by_cases h12 : v = 12
  · subst h12
    refine lv_tableIn (off := 735) (tgt := 774) hx hb dL_law_39 (by decide) (by decide) (by decide) (by decide) ?_
    exact lc_remove hst hsf hsg hL0 hi hL9 H locs ls hcs hLst hS hl hk
  by_cases h13 : v = 13
  · subst h13
    refine lv_tableIn (off := 791) (tgt := 830) hx hb dL_law_39 (by decide) (by decide) (by decide) (by decide) ?_
    exact lc_sweep hst hsf hsg hL0 hi hL9 H locs ls hcs hLst hS hl hk
  by_cases h14 : v = 14
  · subst h14
    refine lv_tableIn (off := 835) (tgt := 874) hx hb dL_law_39 (by decide) (by decide) (by decide) (by decide) ?_
    exact lc_cut hst hsf hsg hL0 hi hL9 H locs ls hcs hLst hS hl hk
  by_cases h15 : v = 15
  · subst h15
    refine lv_tableIn (off := 891) (tgt := 930) hx hb dL_law_39 (by decide) (by decide) (by decide) (by decide) ?_
    exact lc_start hst hsf hsg hL0 hi hL9 H locs ls hcs hLst hS hl hk
  by_cases h16 : v = 16
  · subst h16
    refine lv_tableIn (off := 935) (tgt := 974) hx hb dL_law_39 (by decide) (by decide) (by decide) (by decide) ?_
    exact lc_setPolicy hst hsf hsg hL0 hi hL9 H locs ls hcs hLst hS hl hk
  by_cases h17 : v = 17
  · subst h17
    refine lv_tableIn (off := 991) (tgt := 1030) hx hb dL_law_39 (by decide) (by decide) (by decide) (by decide) ?_
    exact lc_undo hst hsf hsg hL0 hi hL9 H locs ls hcs hLst hS hl hk
  by_cases h18 : v = 18
  · subst h18
    refine lv_tableIn (off := 1035) (tgt := 1074) hx hb dL_law_39 (by decide) (by decide) (by decide) (by decide) ?_
    exact lc_victim hst hsf hsg hL0 hi hL9 H locs ls hcs hLst hS hl hk
  by_cases h19 : v = 19
  · subst h19
    refine lv_tableIn (off := 1048) (tgt := 1087) hx hb dL_law_39 (by decide) (by decide) (by decide) (by decide) ?_
    exact lc_whyNoRoom hst hsf hsg hL0 hi hL9 H locs ls hcs hLst hS hl hk
  by_cases h20 : v = 20
  · subst h20
    refine lv_tableIn (off := 1061) (tgt := 1100) hx hb dL_law_39 (by decide) (by decide) (by decide) (by decide) ?_
    exact lc_operations hst hsf hsg hL0 hi hL9 H locs ls hcs hLst hS hl hk
  by_cases h21 : v = 21
  · subst h21
    refine lv_tableIn (off := 1105) (tgt := 1144) hx hb dL_law_39 (by decide) (by decide) (by decide) (by decide) ?_
    exact lc_afterCut hst hsf hsg hL0 hi hL9 H locs ls hcs hLst hS hl hk
  by_cases h22 : v = 22
  · subst h22
    refine lv_tableIn (off := 1185) (tgt := 1224) hx hb dL_law_39 (by decide) (by decide) (by decide) (by decide) ?_
    exact lc_lasts hst hsf hsg hL0 hi hL9 H locs ls hcs hLst hS hl hk
  by_cases h23 : v = 23
  · subst h23
    refine lv_tableIn (off := 1241) (tgt := 1280) hx hb dL_law_39 (by decide) (by decide) (by decide) (by decide) ?_
    exact lc_oldest hst hsf hsg hL0 hi hL9 H locs ls hcs hLst hS hl hk
  by_cases h24 : v = 24
  · subst h24
    refine lv_tableIn (off := 1254) (tgt := 1293) hx hb dL_law_39 (by decide) (by decide) (by decide) (by decide) ?_
    exact lc_runScript hst hsf hsg hL0 hi hL9 H locs ls hcs hLst hS hl hk
  by_cases h25 : v = 25
  · subst h25
    refine lv_tableIn (off := 1354) (tgt := 1393) hx hb dL_law_39 (by decide) (by decide) (by decide) (by decide) ?_
    exact lc_simulate hst hsf hsg hL0 hi hL9 H locs ls hcs hLst hS hl hk
  by_cases h26 : v = 26
  · subst h26
    refine lv_tableIn (off := 1454) (tgt := 1493) hx hb dL_law_39 (by decide) (by decide) (by decide) (by decide) ?_
    exact lc_save hst hsf hsg hL0 hi hL9 H locs ls hcs hLst hS hl hk
  by_cases h27 : v = 27
  · subst h27
    refine lv_tableIn (off := 1510) (tgt := 1549) hx hb dL_law_39 (by decide) (by decide) (by decide) (by decide) ?_
    exact lc_restore hst hsf hsg hL0 hi hL9 H locs ls hcs hLst hS hl hk
  refine lv_tableOut (tgt := 1605) hx hb dL_law_39 ?_ (by decide) ?_
  · have hne : ∀ k : Int32, ¬ v = k → ¬ v.toInt = k.toInt := fun k h y => h (Int32.toInt_inj.mp y)
    have g0 : ¬ v.toInt = 0 := hne 0 h0
    have g1 : ¬ v.toInt = 1 := hne 1 h1
    have g2 : ¬ v.toInt = 2 := hne 2 h2
    have g3 : ¬ v.toInt = 3 := hne 3 h3
    have g4 : ¬ v.toInt = 4 := hne 4 h4
    have g5 : ¬ v.toInt = 5 := hne 5 h5
    have g6 : ¬ v.toInt = 6 := hne 6 h6
    have g7 : ¬ v.toInt = 7 := hne 7 h7
    have g8 : ¬ v.toInt = 8 := hne 8 h8
    have g9 : ¬ v.toInt = 9 := hne 9 h9
    have g10 : ¬ v.toInt = 10 := hne 10 h10
    have g11 : ¬ v.toInt = 11 := hne 11 h11
    have g12 : ¬ v.toInt = 12 := hne 12 h12
    have g13 : ¬ v.toInt = 13 := hne 13 h13
    have g14 : ¬ v.toInt = 14 := hne 14 h14
    have g15 : ¬ v.toInt = 15 := hne 15 h15
    have g16 : ¬ v.toInt = 16 := hne 16 h16
    have g17 : ¬ v.toInt = 17 := hne 17 h17
    have g18 : ¬ v.toInt = 18 := hne 18 h18
    have g19 : ¬ v.toInt = 19 := hne 19 h19
    have g20 : ¬ v.toInt = 20 := hne 20 h20
    have g21 : ¬ v.toInt = 21 := hne 21 h21
    have g22 : ¬ v.toInt = 22 := hne 22 h22
    have g23 : ¬ v.toInt = 23 := hne 23 h23
    have g24 : ¬ v.toInt = 24 := hne 24 h24
    have g25 : ¬ v.toInt = 25 := hne 25 h25
    have g26 : ¬ v.toInt = 26 := hne 26 h26
    have g27 : ¬ v.toInt = 27 := hne 27 h27
    omega
  · refine W.widen (k := cells + 1) (n := slots + 6) (by omega) (by omega) ?_
    exact hk _ _ _ hLst hS hl
end SW9
