-- WHAT THE TABLES AND THE START GIVE
section LS
variable {s : State} {a : Array Value}
def lsG : List Cond := flatC (Jvm.Cond.and given_1 narrow_1)
set_option maxRecDepth 100000 in
theorem ls_NW (hts : ∀ w ∈ lw_tbl, w.before a s = true) : NW s := ⟨va_Nw.of rfl (show (Cond.methodLinkNest RX0 52 yX6_copyRow RX6).before a s = true from hts _ (tb2 (List.mem_of_getElem? (i := 142) rfl))), va_Nw.of rfl (show (Cond.methodLinkNest RX2 11 yX0_init RX6).before a s = true from hts _ (tb1 (List.mem_of_getElem? (i := 76) rfl))), va_Nw.of rfl (show (Cond.methodLinkNest RX2 20 yX5_init RX6).before a s = true from hts _ (tb1 (List.mem_of_getElem? (i := 111) rfl))), va_Nw.of rfl (show (Cond.methodLinkNest RX6 11 yX4_init RX6).before a s = true from hts _ (tb1 (List.mem_of_getElem? (i := 26) rfl))), va_AO.of (hts _ (tb1 (List.mem_of_getElem? (i := 68) rfl)))⟩
set_option maxRecDepth 100000 in
theorem ls_EW (hts : ∀ w ∈ lw_tbl, w.before a s = true) : EW s := ⟨va_Nw.of rfl (show (xD "java/lang/RuntimeException").before a s = true from hts _ (tb2 (List.mem_of_getElem? (i := 50) rfl))), va_Nw.of rfl (show (xD "java/lang/Exception").before a s = true from hts _ (tb2 (List.mem_of_getElem? (i := 52) rfl))), va_Nw.of rfl (show (xD Bundle.tN).before a s = true from hts _ (tb2 (List.mem_of_getElem? (i := 54) rfl))), va_Nw.of rfl (show (Cond.castable xIA xIA).before a s = true from hts _ (tb3 (List.mem_of_getElem? (i := 101) rfl))), va_Nw.of rfl (show (Cond.castable xIS xIS).before a s = true from hts _ (tb2 (List.mem_of_getElem? (i := 48) rfl))), va_Nw.of rfl (show (Cond.castable xOB xOB).before a s = true from hts _ (tb3 (List.mem_of_getElem? (i := 46) rfl)))⟩
theorem ls_str {k : Nat} {tx : String} (h1 : (Cond.stringRef RX6 k tx).before a s = true) (h2 : (Cond.exactly (.string RX6 k) "java/lang/String").before a s = true) : ∃ q : Nat, vk_R RX6 k tx q s := by
  obtain ⟨q, c, cell, kk, e, -⟩ := Cond.exactly_spec h2
  exact ⟨q, vk_R.of h1 e⟩
theorem ls_x45 : Cond.exactly (.string "TornPageLog" 45) "java/lang/String" ∈ lsG := by decide +kernel
theorem ls_x56 : Cond.exactly (.string "TornPageLog" 56) "java/lang/String" ∈ lsG := by decide +kernel
theorem ls_x70 : Cond.exactly (.string "TornPageLog" 70) "java/lang/String" ∈ lsG := by decide +kernel
theorem ls_x110 : Cond.exactly (.string "TornPageLog" 110) "java/lang/String" ∈ lsG := by decide +kernel
theorem ls_x134 : Cond.exactly (.string "TornPageLog" 134) "java/lang/String" ∈ lsG := by decide +kernel
theorem ls_x137 : Cond.exactly (.string "TornPageLog" 137) "java/lang/String" ∈ lsG := by decide +kernel
theorem ls_x146 : Cond.exactly (.string "TornPageLog" 146) "java/lang/String" ∈ lsG := by decide +kernel
theorem ls_x148 : Cond.exactly (.string "TornPageLog" 148) "java/lang/String" ∈ lsG := by decide +kernel
theorem ls_x156 : Cond.exactly (.string "TornPageLog" 156) "java/lang/String" ∈ lsG := by decide +kernel
theorem ls_x162 : Cond.exactly (.string "TornPageLog" 162) "java/lang/String" ∈ lsG := by decide +kernel
theorem ls_x167 : Cond.exactly (.string "TornPageLog" 167) "java/lang/String" ∈ lsG := by decide +kernel
theorem ls_x172 : Cond.exactly (.string "TornPageLog" 172) "java/lang/String" ∈ lsG := by decide +kernel
theorem ls_x180 : Cond.exactly (.string "TornPageLog" 180) "java/lang/String" ∈ lsG := by decide +kernel
theorem ls_x186 : Cond.exactly (.string "TornPageLog" 186) "java/lang/String" ∈ lsG := by decide +kernel
theorem ls_x195 : Cond.exactly (.string "TornPageLog" 195) "java/lang/String" ∈ lsG := by decide +kernel
theorem ls_x200 : Cond.exactly (.string "TornPageLog" 200) "java/lang/String" ∈ lsG := by decide +kernel
theorem ls_x205 : Cond.exactly (.string "TornPageLog" 205) "java/lang/String" ∈ lsG := by decide +kernel
theorem ls_x210 : Cond.exactly (.string "TornPageLog" 210) "java/lang/String" ∈ lsG := by decide +kernel
theorem ls_x218 : Cond.exactly (.string "TornPageLog" 218) "java/lang/String" ∈ lsG := by decide +kernel
theorem ls_x226 : Cond.exactly (.string "TornPageLog" 226) "java/lang/String" ∈ lsG := by decide +kernel
theorem ls_x234 : Cond.exactly (.string "TornPageLog" 234) "java/lang/String" ∈ lsG := by decide +kernel
theorem ls_x239 : Cond.exactly (.string "TornPageLog" 239) "java/lang/String" ∈ lsG := by decide +kernel
theorem ls_x243 : Cond.exactly (.string "TornPageLog" 243) "java/lang/String" ∈ lsG := by decide +kernel
theorem ls_x254 : Cond.exactly (.string "TornPageLog" 254) "java/lang/String" ∈ lsG := by decide +kernel
theorem ls_x266 : Cond.exactly (.string "TornPageLog" 266) "java/lang/String" ∈ lsG := by decide +kernel
theorem ls_x275 : Cond.exactly (.string "TornPageLog" 275) "java/lang/String" ∈ lsG := by decide +kernel
set_option maxRecDepth 100000 in
theorem ls_t45 : Cond.stringRef "TornPageLog" 45 "no character code" ∈ lw_tbl := tb4 (List.mem_of_getElem? (i := 78) rfl)
set_option maxRecDepth 100000 in
theorem ls_t56 : Cond.stringRef "TornPageLog" 56 "the text is full" ∈ lw_tbl := tb4 (List.mem_of_getElem? (i := 83) rfl)
set_option maxRecDepth 100000 in
theorem ls_t70 : Cond.stringRef "TornPageLog" 70 "the text is not a story" ∈ lw_tbl := tb2 (List.mem_of_getElem? (i := 87) rfl)
set_option maxRecDepth 100000 in
theorem ls_t110 : Cond.stringRef "TornPageLog" 110 "no such number of the chip" ∈ lw_tbl := tb3 (List.mem_of_getElem? (i := 108) rfl)
set_option maxRecDepth 100000 in
theorem ls_t134 : Cond.stringRef "TornPageLog" 134 "no such page" ∈ lw_tbl := tb3 (List.mem_of_getElem? (i := 146) rfl)
set_option maxRecDepth 100000 in
theorem ls_t137 : Cond.stringRef "TornPageLog" 137 "no such number of a page" ∈ lw_tbl := tb3 (List.mem_of_getElem? (i := 147) rfl)
set_option maxRecDepth 100000 in
theorem ls_t146 : Cond.stringRef "TornPageLog" 146 "no such block" ∈ lw_tbl := tb3 (List.mem_of_getElem? (i := 127) rfl)
set_option maxRecDepth 100000 in
theorem ls_t148 : Cond.stringRef "TornPageLog" 148 "no such number of a block" ∈ lw_tbl := tb3 (List.mem_of_getElem? (i := 128) rfl)
set_option maxRecDepth 100000 in
theorem ls_t156 : Cond.stringRef "TornPageLog" 156 "no such key" ∈ lw_tbl := tb3 (List.mem_of_getElem? (i := 181) rfl)
set_option maxRecDepth 100000 in
theorem ls_t162 : Cond.stringRef "TornPageLog" 162 "the power is off" ∈ lw_tbl := tb3 (List.mem_of_getElem? (i := 182) rfl)
set_option maxRecDepth 100000 in
theorem ls_t167 : Cond.stringRef "TornPageLog" 167 "a negative number of a key" ∈ lw_tbl := tb3 (List.mem_of_getElem? (i := 190) rfl)
set_option maxRecDepth 100000 in
theorem ls_t172 : Cond.stringRef "TornPageLog" 172 "no such number of a power cut" ∈ lw_tbl := tb3 (List.mem_of_getElem? (i := 156) rfl)
set_option maxRecDepth 100000 in
theorem ls_t180 : Cond.stringRef "TornPageLog" 180 "no such key or value" ∈ lw_tbl := tb3 (List.mem_of_getElem? (i := 209) rfl)
set_option maxRecDepth 100000 in
theorem ls_t186 : Cond.stringRef "TornPageLog" 186 "no room" ∈ lw_tbl := tb3 (List.mem_of_getElem? (i := 210) rfl)
set_option maxRecDepth 100000 in
theorem ls_t195 : Cond.stringRef "TornPageLog" 195 "no value or no room" ∈ lw_tbl := tb3 (List.mem_of_getElem? (i := 239) rfl)
set_option maxRecDepth 100000 in
theorem ls_t200 : Cond.stringRef "TornPageLog" 200 "nothing can be swept" ∈ lw_tbl := tb4 (List.mem_of_getElem? (i := 12) rfl)
set_option maxRecDepth 100000 in
theorem ls_t205 : Cond.stringRef "TornPageLog" 205 "no such operation" ∈ lw_tbl := tb4 (List.mem_of_getElem? (i := 20) rfl)
set_option maxRecDepth 100000 in
theorem ls_t210 : Cond.stringRef "TornPageLog" 210 "the power is on" ∈ lw_tbl := tb4 (List.mem_of_getElem? (i := 28) rfl)
set_option maxRecDepth 100000 in
theorem ls_t218 : Cond.stringRef "TornPageLog" 218 "no such policy" ∈ lw_tbl := tb4 (List.mem_of_getElem? (i := 36) rfl)
set_option maxRecDepth 100000 in
theorem ls_t226 : Cond.stringRef "TornPageLog" 226 "no state is remembered" ∈ lw_tbl := tb4 (List.mem_of_getElem? (i := 123) rfl)
set_option maxRecDepth 100000 in
theorem ls_t234 : Cond.stringRef "TornPageLog" 234 "no such key, value or operation" ∈ lw_tbl := tb3 (List.mem_of_getElem? (i := 231) rfl)
set_option maxRecDepth 100000 in
theorem ls_t239 : Cond.stringRef "TornPageLog" 239 "no such number of commands" ∈ lw_tbl := tb4 (List.mem_of_getElem? (i := 51) rfl)
set_option maxRecDepth 100000 in
theorem ls_t243 : Cond.stringRef "TornPageLog" 243 "no such script" ∈ lw_tbl := tb4 (List.mem_of_getElem? (i := 53) rfl)
set_option maxRecDepth 100000 in
theorem ls_t254 : Cond.stringRef "TornPageLog" 254 "no such number of rounds" ∈ lw_tbl := tb4 (List.mem_of_getElem? (i := 68) rfl)
set_option maxRecDepth 100000 in
theorem ls_t266 : Cond.stringRef "TornPageLog" 266 "no such save slot" ∈ lw_tbl := tb3 (List.mem_of_getElem? (i := 53) rfl)
set_option maxRecDepth 100000 in
theorem ls_t275 : Cond.stringRef "TornPageLog" 275 "nothing is saved in it" ∈ lw_tbl := tb3 (List.mem_of_getElem? (i := 78) rfl)
theorem ls_SW (hts : ∀ w ∈ lw_tbl, w.before a s = true) (hg : ∀ w ∈ lsG, w.before a s = true) : SW s := List.forall_mem_cons.mpr ⟨ls_str (hts _ ls_t45) (hg _ ls_x45), List.forall_mem_cons.mpr ⟨ls_str (hts _ ls_t56) (hg _ ls_x56), List.forall_mem_cons.mpr ⟨ls_str (hts _ ls_t70) (hg _ ls_x70), List.forall_mem_cons.mpr ⟨ls_str (hts _ ls_t110) (hg _ ls_x110), List.forall_mem_cons.mpr ⟨ls_str (hts _ ls_t134) (hg _ ls_x134), List.forall_mem_cons.mpr ⟨ls_str (hts _ ls_t137) (hg _ ls_x137), List.forall_mem_cons.mpr ⟨ls_str (hts _ ls_t146) (hg _ ls_x146), List.forall_mem_cons.mpr ⟨ls_str (hts _ ls_t148) (hg _ ls_x148), List.forall_mem_cons.mpr ⟨ls_str (hts _ ls_t156) (hg _ ls_x156), List.forall_mem_cons.mpr ⟨ls_str (hts _ ls_t162) (hg _ ls_x162), List.forall_mem_cons.mpr ⟨ls_str (hts _ ls_t167) (hg _ ls_x167), List.forall_mem_cons.mpr ⟨ls_str (hts _ ls_t172) (hg _ ls_x172), List.forall_mem_cons.mpr ⟨ls_str (hts _ ls_t180) (hg _ ls_x180), List.forall_mem_cons.mpr ⟨ls_str (hts _ ls_t186) (hg _ ls_x186), List.forall_mem_cons.mpr ⟨ls_str (hts _ ls_t195) (hg _ ls_x195), List.forall_mem_cons.mpr ⟨ls_str (hts _ ls_t200) (hg _ ls_x200), List.forall_mem_cons.mpr ⟨ls_str (hts _ ls_t205) (hg _ ls_x205), List.forall_mem_cons.mpr ⟨ls_str (hts _ ls_t210) (hg _ ls_x210), List.forall_mem_cons.mpr ⟨ls_str (hts _ ls_t218) (hg _ ls_x218), List.forall_mem_cons.mpr ⟨ls_str (hts _ ls_t226) (hg _ ls_x226), List.forall_mem_cons.mpr ⟨ls_str (hts _ ls_t234) (hg _ ls_x234), List.forall_mem_cons.mpr ⟨ls_str (hts _ ls_t239) (hg _ ls_x239), List.forall_mem_cons.mpr ⟨ls_str (hts _ ls_t243) (hg _ ls_x243), List.forall_mem_cons.mpr ⟨ls_str (hts _ ls_t254) (hg _ ls_x254), List.forall_mem_cons.mpr ⟨ls_str (hts _ ls_t266) (hg _ ls_x266), List.forall_mem_cons.mpr ⟨ls_str (hts _ ls_t275) (hg _ ls_x275), fun _ h => absurd h List.not_mem_nil⟩⟩⟩⟩⟩⟩⟩⟩⟩⟩⟩⟩⟩⟩⟩⟩⟩⟩⟩⟩⟩⟩⟩⟩⟩⟩
theorem ls_z0 : Cond.isRef (.static Bundle.tN "UNASSIGNED_STACK" Bundle.steD) ∈ lsG := by decide +kernel
theorem ls_z1 : Cond.isRef (.static Bundle.tN "SUPPRESSED_SENTINEL" Bundle.listD) ∈ lsG := by decide +kernel
set_option maxRecDepth 100000 in
theorem ls_ZW (hts : ∀ w ∈ lw_tbl, w.before a s = true) (hg : ∀ w ∈ lsG, w.before a s = true) {A : Nat → Prop} (hA : ∀ q : Nat, q < s.heap.size → ¬ A q) : ZW A s := ⟨vx_Zqof (show (Cond.laysStatic Bundle.tN "UNASSIGNED_STACK" Bundle.steD).before a s = true from hts _ (tb2 (List.mem_of_getElem? (i := 73) rfl))) (show (Cond.initialized Bundle.tN).before a s = true from hts _ (tb1 (List.mem_of_getElem? (i := 9) rfl))) (hg _ ls_z0) hA, vx_Zqof (show (Cond.laysStatic Bundle.tN "SUPPRESSED_SENTINEL" Bundle.listD).before a s = true from hts _ (tb2 (List.mem_of_getElem? (i := 75) rfl))) (show (Cond.initialized Bundle.tN).before a s = true from hts _ (tb1 (List.mem_of_getElem? (i := 9) rfl))) (hg _ ls_z1) hA⟩
theorem ls_c0 : Cond.not (.castable xIS xIA) ∈ lsG := by decide +kernel
theorem ls_c1 : Cond.not (.castable xIA xOB) ∈ lsG := by decide +kernel
theorem ls_c2 : Cond.not (.castable xIS xOB) ∈ lsG := by decide +kernel
theorem ls_CN (hg : ∀ w ∈ lsG, w.before a s = true) : CN s := ⟨va_Nc.of (hg _ ls_c0), va_Nc.of (hg _ ls_c1), va_Nc.of (hg _ ls_c2)⟩
theorem ls_arr {t : FieldType} (h : (Cond.arrayClass t).before a s = true) : ∃ c : ClassId, ArrOfT s c t ∧ s.vm.findClass ("[" ++ t.toString) = some c := by
  obtain ⟨c, k, comp, h1, h2, h3⟩ := Cond.arrayClass_spec h
  exact ⟨c, fun n z => ⟨fun q h => (by cases h), k, h2, comp, h3⟩, h1⟩
theorem ls_arq {C : String} (h : (Cond.arrayOver (.object C)).before a s = true) : ∃ c : ClassId, ArrOfT s c (.object C) ∧ va_RA s c (.object C) := by
  obtain ⟨comp, c, k, h1, h2, h3, h4, h5⟩ := Cond.arrayOver_spec h
  exact ⟨c, fun n z => ⟨fun q h => (by cases h), k, h3, comp, h4⟩, k, comp, h3, h4, h1, h5⟩
set_option maxRecDepth 100000 in
theorem ls_K (hts : ∀ w ∈ lw_tbl, w.before a s = true) : ∃ (D : va_G) (cI cL cZ : ClassId), va_K D vwCl [(cI, .int), (cL, .object "TornPageLog$Log"), (cZ, .boolean)] s := by
  obtain ⟨c0, iS0, hKn0⟩ := u_known (C := RX0) (T := TX0) (N := 9) (n := 9) hts inX0 (hts _ wq_0)
  obtain ⟨c1, iS1, hKn1⟩ := u_known (C := RX1) (T := TX1) (N := 3) (n := 3) hts inX1 (hts _ wq_1)
  obtain ⟨c2, iS2, hKn2⟩ := u_known (C := RX2) (T := TX2) (N := 8) (n := 8) hts inX2 (hts _ wq_2)
  obtain ⟨c3, iS3, hKn3⟩ := u_known (C := RX3) (T := TX3) (N := 2) (n := 2) hts inX3 (hts _ wq_3)
  obtain ⟨c4, iS4, hKn4⟩ := u_known (C := RX4) (T := TX4) (N := 8) (n := 8) hts inX4 (hts _ wq_4)
  obtain ⟨c5, iS5, hKn5⟩ := u_known (C := RX5) (T := TX5) (N := 8) (n := 8) hts inX5 (hts _ wq_5)
  obtain ⟨c6, iS6, hKn6⟩ := u_known (C := RX6) (T := TX6) (N := 6) (n := 6) hts inX6 (hts _ wq_6)
  obtain ⟨cI, hI, hI2⟩ := ls_arr (hts _ (tb1 (List.mem_of_getElem? (i := 60) rfl)))
  obtain ⟨cL, hL, hL2⟩ := ls_arq (hts _ (tb1 (List.mem_of_getElem? (i := 68) rfl)))
  obtain ⟨cZ, hZ, hZ2⟩ := ls_arr (hts _ (tb1 (List.mem_of_getElem? (i := 224) rfl)))
  refine ⟨(fun k => match k with | 0 => c0 | 1 => c1 | 2 => c2 | 3 => c3 | 4 => c4 | 5 => c5 | _ => c6, fun k => match k with | 0 => iS0 | 1 => iS1 | 2 => iS2 | 3 => iS3 | 4 => iS4 | 5 => iS5 | _ => iS6), cI, cL, cZ, fun k q hq => ?_, fun k q hq => ?_⟩
  · match k, hq with
    | 0, hq => cases hq; exact hKn0
    | 1, hq => cases hq; exact hKn1
    | 2, hq => cases hq; exact hKn2
    | 3, hq => cases hq; exact hKn3
    | 4, hq => cases hq; exact hKn4
    | 5, hq => cases hq; exact hKn5
    | 6, hq => cases hq; exact hKn6
    | k + 7, hq => simp at hq
  · match k, hq with
    | 0, hq => cases hq; exact ⟨hI, hI2⟩
    | 1, hq => cases hq; exact ⟨hL, hL2⟩
    | 2, hq => cases hq; exact ⟨hZ, hZ2⟩
    | k + 3, hq => simp at hq
end LS
-- THE TWO CONSTRUCTORS, CALLED BY THE LAW
section LI
variable {p : Program} {l : Launch} {e : Env} {R : Room} {s : State} {m : MethodId} {args : Array Value} {below : List Frame} {meth : Method} {c : Code} {H : Heap} {locs : List Loc} {cells slots : Nat} {Q : State → Prop} {cc : ByteArray} {pc : Nat} {ls : Array Slot} {rest st0 : List Value} {D : va_G} {A0 : Nat → Prop} {tys tc : List (ClassId × FieldType)} {ws wc wr : va_W} {H0 : Heap} {nL nL2 fr lo mc ms idx : Nat} {We : List Cond} {y : MethodName} {b2 : ByteArray} {As : List Value} {b : Addr} {post : va_W → Prop}
theorem lw_initM (hX : CallFix p m c cc nL s args lw_tbl RL) (hGG : GoodIn lw_tbl (.code y b2 nL2 none :: We)) (hi : Cond.initialized y.cls ∈ lw_tbl) {sz : Nat} (hM : GM l y b2 nL2 We fr lo mc ms D wc tc (.ref b :: As) sz post) (hq : CQ lw_tbl y b2 nL2 none As.length) (hl : Cond.methodLink RL idx y ∈ lw_tbl) (hs : Cond.instanceMethod y ∈ lw_tbl) (hy1 : y.name = "<init>") (hR : fr + 1 ≤ R.frames ∧ 8 + (nL2 + 11) + lo ≤ R.locals)
    (hK : va_K D vwCl tys s) (hN : NW s) (isT : List Nat) (hT : isT.filterMap (fun i => tys[i]?) = tc) (hP : va_P D vwCl ws H) (hD : va_D A0 ws) (hS : va_S A0 H0 H locs) (hA : ∀ q, H0.size ≤ q → A0 q) (hsz : H.size = sz) (isC isR : List Nat) (hn : va_nd isC = true) (hC : isC.map (fun i => ws[i]?) = wc.map some) (hRr : isR.map (fun i => ws[i]?) = wr.map some) (hnr : va_nd isR = true) (hdis : ∀ i ∈ isR, i ∉ isC) (hls : ls.size = nL) (hstk : st0 = As.reverse ++ .ref b :: rest) (hW : (rest.map fun v => v.category).sum ≤ 8) (hdg : decode cc pc = .ok (.invokespecial idx, 3)) (hcs : cells + mc ≤ R.cells ∧ slots + ms ≤ R.slots)
    (kk : ∀ (u : va_W) (H1 : Heap) (locs1 : List Loc), post u → va_P D vwCl (wr ++ u) H1 → va_D A0 (wr ++ u) → va_S A0 H0 H1 locs1 → W p l e R s m args below meth c H1 locs1 (cells + mc) (slots + ms) Q (F0 m (pc + 3) ls rest)) : W p l e R s m args below meth c H locs cells slots Q (F0 m pc ls st0) := by
  subst hsz
  have hPc := hP.sub isC (gp_fm hC)
  have hKc := hK.sub isT hT
  have hDc := (hD.sub isC hn hC).weaken (B := fun _ => True) (fun _ _ _ _ => trivial)
  have hFc := va_free (wc := wc) hD hS hA isC hC
  refine va_callv (va_runI (As := As) (rest := rest) (b := b) hX hM (cwI As.length hX.2.2.2.2 hGG rfl rfl rfl (hX.2.2.2.2 _ hi) (hX.2.2.2.2 _ hl) (hX.2.2.2.2 _ hs) hy1 hq.2 hR) ⟨gm_blind, fun U hU hW => ⟨rfl, by rw [hU], by rw [hU]; exact hPc, va_K.moved hW.alike hKc, hDc, NW_warm hW hN⟩⟩ rfl rfl hls hstk (lv_room hW) hdg hcs) hS (fun q _ h => hFc q h) hFc (fun u t H1 locs1 ht hvm hp hB hz hk hS1 => ?_)
  rw [ht] at hB
  obtain ⟨h1, h2⟩ := va_join hP hD isC isR hC hRr hnr hdis hk hFc hB.1 hB.2
  exact kk u H1 locs1 hp h1 h2 hS1
end LI
theorem ls_q6 : CQ lw_tbl yX6_init cX6_init 1 none 0 := ⟨wq_cod, by decide, by decide, by decide +kernel⟩
theorem ls_g6 : GoodIn lw_tbl (.code yX6_init cX6_init 1 none :: W6) := fun w hw => (List.mem_cons.mp hw).elim (fun h => h ▸ ⟨wq_cod, good_of_word (by decide +kernel)⟩) (fun h => gd6 w h)
-- THE TWO OBJECTS BEHIND THE CONSTRUCTORS
def lsA (q : List Nat) : Nat → Nat := fun k => q.getD k 0
def lsD (dh ds : Nat → Nat → Nat) (dg dc dt : Nat → Nat) : Nat → Nat → Nat := fun j => if j < 14 then dh j else if j < 16 then ds (j - 14) else if j = 16 then dg else if j = 17 then dc else dt
theorem zLs_app {cI : ClassId} {d : Nat → Nat → Nat} {z : Nat → LgS} {n : Nat} : ∀ k : Nat, zLs cI d z (n + k) = zLs cI d z n ++ zLs cI (fun j => d (n + j)) (fun j => z (n + j)) k
  | 0 => (List.append_nil _).symm
  | k + 1 => by
    show zLs cI d z (n + k) ++ _ = _
    rw [zLs_app k, List.append_assoc]
    rfl
theorem ls_z19 {cI : ClassId} {dh ds : Nat → Nat → Nat} {dg dc dt : Nat → Nat} : zLs cI (lsD dh ds dg dc dt) (fun _ => zN0) 19 = zLs cI dh (fun _ => zN0) 14 ++ (zLs cI ds (fun _ => zN0) 2 ++ [zL cI dg zN0, zL cI dc zN0, zL cI dt zN0]) := by
  rw [show (19 : Nat) = 14 + 5 from rfl, zLs_app (n := 14) 5, show (5 : Nat) = 2 + 3 from rfl, zLs_app (n := 2) 3]
  refine congr (congrArg _ (zLs_congr (fun j hj => ⟨if_pos hj, rfl⟩))) (congr (congrArg _ (zLs_congr (fun j hj => ⟨?_, rfl⟩))) ?_)
  · show lsD dh ds dg dc dt (14 + j) = ds j
    unfold lsD
    rw [if_neg (by omega), if_pos (by omega), show 14 + j - 14 = j by omega]
  · rfl
theorem bw_permP {D : va_G} {cl : List vw_C} {Bs Cs : List va_W} {H : Heap} (h : va_P D cl (bw Bs) H) (hp : List.Perm Bs Cs) : va_P D cl (bw Cs) H :=
  bw_P.mpr fun b hb q hq => bw_P.mp h b (hp.mem_iff.mpr hb) q hq
theorem bw_permD {A : Nat → Prop} {Bs Cs : List va_W} (h : va_D A (bw Bs)) (hp : List.Perm Bs Cs) : va_D A (bw Cs) := by
  have h0 := bw_D.mp h
  exact bw_D.mpr ⟨⟨fun b hb => h0.1.1 b (hp.mem_iff.mpr hb), (hp.pairwise_iff (fun {b c} h x hx y hy => (h y hy x hx).symm)).mp h0.1.2⟩, fun b hb => h0.2 b (hp.mem_iff.mpr hb)⟩
theorem ls_perm {O K Z14 S Z2 T : List va_W} : List.Perm (((O ++ (K ++ Z14)) ++ (S ++ Z2)) ++ T) ((O ++ (K ++ S)) ++ (Z14 ++ (Z2 ++ T))) := by
  simp only [List.append_assoc]
  refine List.Perm.append_left O (List.Perm.append_left K ?_)
  rw [← List.append_assoc, ← List.append_assoc S]
  exact List.Perm.append_right _ List.perm_append_comm
theorem bw_two (u w : va_W) : bw [u, w] = u ++ w := by simp [bw]
set_option maxRecDepth 100000 in
/-- the object behind its constructor -/
theorem ob_start {cI cL cZ : ClassId} {ob so tx ho sa sl sb ua : Nat} {dh ds : Nat → Nat → Nat} {dg dc dt : Nat → Nat} {sf sg : Nat → Option Nat} {Us : List va_W}
    (hU : Us = ([[(ob, .inr (6, [.ref so, .ref ho, .ref sl, .ref (dg 0), .ref (dc 0), .ref (dt 0)]))], zS cI so tx (fun _ => 0) 0 0 (fun _ => 0)] ++ ([[(ho, .inr (1, [.ref sa, .int 0, .int 0]))], [(sa, .inl (cL, 14, .inr (.inr (.inr (.inr sf)))))]] ++ zLs cI dh (fun _ => zN0) 14) ++ ([[(sl, .inr (3, [.ref sb, .ref ua]))], [(sb, .inl (cL, 2, .inr (.inr (.inr (.inr sg)))))], [(ua, .inl (cZ, 2, .inl (fun _ => 0)))]] ++ zLs cI ds (fun _ => zN0) 2) ++ [zL cI dg zN0, zL cI dc zN0, zL cI dt zN0]))
    (hsf : ∀ j, j < 14 → sf j = some (dh j 0)) (hsg : ∀ j, j < 2 → sg j = some (ds j 0)) :
    ∃ (G : Geo) (Cs : List va_W), OB cI cL cZ G a0S (bw Cs) ∧ G.1 1 = ob ∧ GeoOk G ∧ List.Perm Us Cs := by
  have e : pwB cI cL cZ (lsA [0, ob, so, tx, ho, sa, sl, sb, ua]) (lsD dh ds dg dc dt) sf sg (fun _ => 0) 0 0 (fun _ => 0) 0 0 (fun _ => 0) (fun _ => zN0) = [] :: (([[(ob, .inr (6, [.ref so, .ref ho, .ref sl, .ref (dg 0), .ref (dc 0), .ref (dt 0)]))], zS cI so tx (fun _ => 0) 0 0 (fun _ => 0)] ++ ([[(ho, .inr (1, [.ref sa, .int 0, .int 0]))], [(sa, .inl (cL, 14, .inr (.inr (.inr (.inr sf)))))]] ++ [[(sl, .inr (3, [.ref sb, .ref ua]))], [(sb, .inl (cL, 2, .inr (.inr (.inr (.inr sg)))))], [(ua, .inl (cZ, 2, .inl (fun _ => 0)))]])) ++ (zLs cI dh (fun _ => zN0) 14 ++ (zLs cI ds (fun _ => zN0) 2 ++ [zL cI dg zN0, zL cI dc zN0, zL cI dt zN0]))) := by
    unfold pwB cwB
    rw [ls_z19]
    rfl
  refine ⟨(lsA [0, ob, so, tx, ho, sa, sl, sb, ua], lsD dh ds dg dc dt, sf, sg), (([[(ob, .inr (6, [.ref so, .ref ho, .ref sl, .ref (dg 0), .ref (dc 0), .ref (dt 0)]))], zS cI so tx (fun _ => 0) 0 0 (fun _ => 0)] ++ ([[(ho, .inr (1, [.ref sa, .int 0, .int 0]))], [(sa, .inl (cL, 14, .inr (.inr (.inr (.inr sf)))))]] ++ [[(sl, .inr (3, [.ref sb, .ref ua]))], [(sb, .inl (cL, 2, .inr (.inr (.inr (.inr sg)))))], [(ua, .inl (cZ, 2, .inl (fun _ => 0)))]])) ++ (zLs cI dh (fun _ => zN0) 14 ++ (zLs cI ds (fun _ => zN0) 2 ++ [zL cI dg zN0, zL cI dc zN0, zL cI dt zN0]))), ⟨0, fun _ => 0, 0, 0, fun _ => 0, fun _ => zN0, (congrArg bw e).symm, ⟨Nat.zero_le _, by decide, Nat.zero_le _, fun j => by show (4 : Nat) ≤ 8; decide⟩, rfl, rfl, fun k hk => (if_pos rfl).symm⟩, rfl, ⟨fun j hj => ?_, fun j hj => ?_⟩, ?_⟩
  · show sf j = some (lsD dh ds dg dc dt j 0)
    rw [hsf j hj]
    unfold lsD
    rw [if_pos hj]
  · show sg j = some (lsD dh ds dg dc dt (14 + j) 0)
    rw [hsg j hj]
    unfold lsD
    rw [if_neg (by omega), if_pos (by omega), show 14 + j - 14 = j by omega]
  · rw [hU]
    exact ls_perm
theorem ob_both {cI cL cZ : ClassId} {D : va_G} {A : Nat → Prop} {H : Heap} {G1 G2 : Geo} {U1 U2 C1 C2 : List va_W} (h1 : OB cI cL cZ G1 a0S (bw C1)) (h2 : OB cI cL cZ G2 a0S (bw C2)) (p1 : List.Perm U1 C1) (p2 : List.Perm U2 C2) (hP : va_P D vwCl (bw U1 ++ bw U2) H) (hD : va_D A (bw U1 ++ bw U2)) :
    OBs cI cL cZ (fun i => match i with | 0 => G1 | _ => G2) [a0S, a0S] [bw C1, bw C2] ∧ va_P D vwCl (bw [bw C1, bw C2]) H ∧ va_D A (bw [bw C1, bw C2]) := by
  rw [bw_two, ← bw_app]
  rw [← bw_app] at hP hD
  refine ⟨⟨rfl, fun i a w k1 k2 => ?_⟩, bw_permP hP (p1.append p2), bw_permD hD (p1.append p2)⟩
  match i, k1, k2 with
  | 0, k1, k2 => cases k1; cases k2; exact h1
  | 1, k1, k2 => cases k1; cases k2; exact h2
  | i + 2, k1, k2 => simp at k1
