-- THE LAW'S CASES THAT CALL A HELPER
theorem zLs_adr {cI : ClassId} {dl : Nat → Nat → Nat} {z1 z2 : Nat → LgS} : ∀ n, (zLs cI dl z1 n).map (fun b => b.map Prod.fst) = (zLs cI dl z2 n).map (fun b => b.map Prod.fst)
  | 0 => rfl
  | n + 1 => by
    rw [zLs, zLs, List.map_append, List.map_append, zLs_adr n]
    rfl
theorem lw_adr {cI cL cZ cJ : ClassId} {ad : Nat → Nat} {dl : Nat → Nat → Nat} {sf sg : Nat → Option Nat} {fo fo2 : Nat → Int64} {t t2 : Nat → Int32} {n n2 q q2 : Nat} {vv vv2 : Nat → Int32} {nx nx2 ct ct2 : Nat} {uf uf2 : Nat → Int32} {zz zz2 : Nat → LgS} : (lwB cI cL cZ cJ ad dl sf sg fo t n q vv nx ct uf zz).map (fun b => b.map Prod.fst) = (lwB cI cL cZ cJ ad dl sf sg fo2 t2 n2 q2 vv2 nx2 ct2 uf2 zz2).map (fun b => b.map Prod.fst) := by
  rw [lwB, lwB, cwB, cwB, List.map_append, List.map_append, zLs_adr (z1 := zz) (z2 := zz2)]
  rfl
theorem vaB {zz : Nat → LgS} {k : Nat} {z : LgS} (h : ∀ j, (zz j).1.2 ≤ 8) (hz : z.1.2 ≤ 8) : ∀ j, (va_up zz k z j).1.2 ≤ 8 := fun j => by
  by_cases e : j = k
  · subst e; rw [va_up_self]; exact hz
  · rw [va_up_ne _ _ e]; exact h j
theorem ap_0 {ss : Nat} {x : Int32} (h : apR ss x = 0) : ¬ ss = 90 := fun y => by
  have h2 := (if0 (by decide) h).2
  rw [if_pos y] at h2
  exact absurd h2 (by decide)
theorem rst_0 {fik : Nat → Int32} {x : Int32} (h : rstR fik x = 0) : ¬ fik x.toNatClampNeg = 0 := fun y => by
  have h2 := (if0 (by decide) h).2
  rw [if_pos y] at h2
  exact absurd h2 (by decide)
theorem sv_kk (x : Int32) : ∃ kk, kk < 2 ∧ (inN x 2 → x.toNatClampNeg = kk) := by
  by_cases h : inN x 2
  · exact ⟨x.toNatClampNeg, (num_in (x := x) (j := 2) (by decide) h).2, fun _ => rfl⟩
  · exact ⟨0, by decide, fun y => absurd y h⟩
theorem sm_wf {z : LgS} {f : Nat → Int32} (h : Rz z f) {n : Nat} {x : Int64} : Wf (smF z.1.2 n x f) z.1.2 := by
  obtain ⟨h1, h2⟩ := sm_ok (n := n) (x := x) h
  have w := rz_wf h1
  rw [h2] at w
  exact w
/-- a case of the law, from its first instruction on -/
def LCS (S : Nat) (p : Program) (l : Launch) (e : Env) (s : State) (m : MethodId) (below : List Frame) (meth : Method) (c : Code) (D : va_G) (cI cL cZ cJ : ClassId) (ar ad : Nat → Nat) (dl : Nat → Nat → Nat) (sf sg : Nat → Option Nat) (A : Nat → Prop) (b L i cells slots : Nat) (xs : Nat → Int32) (Q : State → Prop) : Prop :=
  l.stackTraces = false → (∀ j, j < 14 → sf j = some (dl j 0)) → (∀ j, j < 2 → sg j = some (dl (14 + j) 0)) → LXc D cI cL cZ cJ p s m meth c A b L xs → 4 * i + 4 ≤ L → L ≤ 2048 → ∀ (H : Heap) (locs : List Loc) (ls : Array Slot), cells + 1 ≤ room_1.cells ∧ slots + 6 ≤ room_1.slots → LST D cI cL cZ cJ ar ad dl sf sg A H → va_S A s.heap H locs → lv_has ls 7 [(0, .ref b), (1, .ref (ad 1)), (2, .ref (ar 0)), (3, .ref (ad 0)), (4, .int (nI (4 * i)))] → LK p l e s m below meth c D cI cL cZ cJ ar ad dl sf sg A b i (cells + 1) (slots + 6) Q → W p l e room_1 s m #[Value.ref b] below meth c H locs cells slots Q (F0 m S ls [])
theorem gL_about : GoodIn lw_tbl [.methodLink RL 115 yL_about, .static yL_about, .initialized RL, .codeWith yL_about cL_about 4 (some .int) [(0, 9, 12, 13)]] := gdW (List.forall_mem_cons.mpr ⟨wt_759, List.forall_mem_cons.mpr ⟨wt_760, List.forall_mem_cons.mpr ⟨wt_726, List.forall_mem_cons.mpr ⟨wt_761, fun _ h => absurd h List.not_mem_nil⟩⟩⟩⟩) (by decide +kernel)
theorem g7_about : GoodIn lw_tbl [.methodLink RL 117 yX7_about, .instanceMethod yX7_about, .selects RX7 yX7_about yX7_about, .initialized RX7, .code yX7_about cX7_about 2 (some .int)] := gdW (List.forall_mem_cons.mpr ⟨wt_762, List.forall_mem_cons.mpr ⟨wt_763, List.forall_mem_cons.mpr ⟨wt_764, List.forall_mem_cons.mpr ⟨wt_15, List.forall_mem_cons.mpr ⟨wt_765, fun _ h => absurd h List.not_mem_nil⟩⟩⟩⟩⟩) (by decide +kernel)
theorem gL_page : GoodIn lw_tbl [.methodLink RL 118 yL_page, .static yL_page, .initialized RL, .codeWith yL_page cL_page 5 (some .int) [(0, 10, 13, 28), (0, 10, 17, 13)]] := gdW (List.forall_mem_cons.mpr ⟨wt_766, List.forall_mem_cons.mpr ⟨wt_767, List.forall_mem_cons.mpr ⟨wt_726, List.forall_mem_cons.mpr ⟨wt_768, fun _ h => absurd h List.not_mem_nil⟩⟩⟩⟩) (by decide +kernel)
theorem g7_page : GoodIn lw_tbl [.methodLink RL 121 yX7_page, .instanceMethod yX7_page, .selects RX7 yX7_page yX7_page, .initialized RX7, .code yX7_page cX7_page 3 (some .int)] := gdW (List.forall_mem_cons.mpr ⟨wt_769, List.forall_mem_cons.mpr ⟨wt_770, List.forall_mem_cons.mpr ⟨wt_771, List.forall_mem_cons.mpr ⟨wt_15, List.forall_mem_cons.mpr ⟨wt_772, fun _ h => absurd h List.not_mem_nil⟩⟩⟩⟩⟩) (by decide +kernel)
theorem gL_block : GoodIn lw_tbl [.methodLink RL 122 yL_block, .static yL_block, .initialized RL, .codeWith yL_block cL_block 5 (some .int) [(0, 10, 13, 28), (0, 10, 17, 13)]] := gdW (List.forall_mem_cons.mpr ⟨wt_773, List.forall_mem_cons.mpr ⟨wt_774, List.forall_mem_cons.mpr ⟨wt_726, List.forall_mem_cons.mpr ⟨wt_775, fun _ h => absurd h List.not_mem_nil⟩⟩⟩⟩) (by decide +kernel)
theorem g7_block : GoodIn lw_tbl [.methodLink RL 124 yX7_block, .instanceMethod yX7_block, .selects RX7 yX7_block yX7_block, .initialized RX7, .code yX7_block cX7_block 3 (some .int)] := gdW (List.forall_mem_cons.mpr ⟨wt_776, List.forall_mem_cons.mpr ⟨wt_777, List.forall_mem_cons.mpr ⟨wt_778, List.forall_mem_cons.mpr ⟨wt_15, List.forall_mem_cons.mpr ⟨wt_779, fun _ h => absurd h List.not_mem_nil⟩⟩⟩⟩⟩) (by decide +kernel)
theorem gL_get : GoodIn lw_tbl [.methodLink RL 125 yL_get, .static yL_get, .initialized RL, .codeWith yL_get cL_get 4 (some .int) [(0, 9, 12, 13), (0, 9, 15, 15)]] := gdW (List.forall_mem_cons.mpr ⟨wt_780, List.forall_mem_cons.mpr ⟨wt_781, List.forall_mem_cons.mpr ⟨wt_726, List.forall_mem_cons.mpr ⟨wt_782, fun _ h => absurd h List.not_mem_nil⟩⟩⟩⟩) (by decide +kernel)
theorem g7_get : GoodIn lw_tbl [.methodLink RL 127 yX7_get, .instanceMethod yX7_get, .selects RX7 yX7_get yX7_get, .initialized RX7, .code yX7_get cX7_get 2 (some .int)] := gdW (List.forall_mem_cons.mpr ⟨wt_783, List.forall_mem_cons.mpr ⟨wt_784, List.forall_mem_cons.mpr ⟨wt_785, List.forall_mem_cons.mpr ⟨wt_15, List.forall_mem_cons.mpr ⟨wt_786, fun _ h => absurd h List.not_mem_nil⟩⟩⟩⟩⟩) (by decide +kernel)
theorem gL_keyAt : GoodIn lw_tbl [.methodLink RL 128 yL_keyAt, .static yL_keyAt, .initialized RL, .codeWith yL_keyAt cL_keyAt 4 (some .int) [(0, 9, 12, 13)]] := gdW (List.forall_mem_cons.mpr ⟨wt_787, List.forall_mem_cons.mpr ⟨wt_788, List.forall_mem_cons.mpr ⟨wt_726, List.forall_mem_cons.mpr ⟨wt_789, fun _ h => absurd h List.not_mem_nil⟩⟩⟩⟩) (by decide +kernel)
theorem g7_keyAt : GoodIn lw_tbl [.methodLink RL 130 yX7_keyAt, .instanceMethod yX7_keyAt, .selects RX7 yX7_keyAt yX7_keyAt, .initialized RX7, .code yX7_keyAt cX7_keyAt 4 (some .int)] := gdW (List.forall_mem_cons.mpr ⟨wt_790, List.forall_mem_cons.mpr ⟨wt_791, List.forall_mem_cons.mpr ⟨wt_792, List.forall_mem_cons.mpr ⟨wt_15, List.forall_mem_cons.mpr ⟨wt_793, fun _ h => absurd h List.not_mem_nil⟩⟩⟩⟩⟩) (by decide +kernel)
theorem gL_newest : GoodIn lw_tbl [.methodLink RL 131 yL_newest, .static yL_newest, .initialized RL, .codeWith yL_newest cL_newest 4 (some .int) [(0, 9, 12, 13)]] := gdW (List.forall_mem_cons.mpr ⟨wt_794, List.forall_mem_cons.mpr ⟨wt_795, List.forall_mem_cons.mpr ⟨wt_726, List.forall_mem_cons.mpr ⟨wt_796, fun _ h => absurd h List.not_mem_nil⟩⟩⟩⟩) (by decide +kernel)
theorem g7_newest : GoodIn lw_tbl [.methodLink RL 133 yX7_newest, .instanceMethod yX7_newest, .selects RX7 yX7_newest yX7_newest, .initialized RX7, .code yX7_newest cX7_newest 2 (some .int)] := gdW (List.forall_mem_cons.mpr ⟨wt_797, List.forall_mem_cons.mpr ⟨wt_798, List.forall_mem_cons.mpr ⟨wt_799, List.forall_mem_cons.mpr ⟨wt_15, List.forall_mem_cons.mpr ⟨wt_800, fun _ h => absurd h List.not_mem_nil⟩⟩⟩⟩⟩) (by decide +kernel)
theorem gL_lastCut : GoodIn lw_tbl [.methodLink RL 134 yL_lastCut, .static yL_lastCut, .initialized RL, .codeWith yL_lastCut cL_lastCut 4 (some .int) [(0, 9, 12, 13)]] := gdW (List.forall_mem_cons.mpr ⟨wt_801, List.forall_mem_cons.mpr ⟨wt_802, List.forall_mem_cons.mpr ⟨wt_726, List.forall_mem_cons.mpr ⟨wt_803, fun _ h => absurd h List.not_mem_nil⟩⟩⟩⟩) (by decide +kernel)
theorem g7_lastCut : GoodIn lw_tbl [.methodLink RL 136 yX7_lastCut, .instanceMethod yX7_lastCut, .selects RX7 yX7_lastCut yX7_lastCut, .initialized RX7, .code yX7_lastCut cX7_lastCut 2 (some .int)] := gdW (List.forall_mem_cons.mpr ⟨wt_804, List.forall_mem_cons.mpr ⟨wt_805, List.forall_mem_cons.mpr ⟨wt_806, List.forall_mem_cons.mpr ⟨wt_15, List.forall_mem_cons.mpr ⟨wt_807, fun _ h => absurd h List.not_mem_nil⟩⟩⟩⟩⟩) (by decide +kernel)
theorem gL_put : GoodIn lw_tbl [.methodLink RL 137 yL_put, .static yL_put, .initialized RL, .codeWith yL_put cL_put 5 (some .int) [(0, 10, 13, 13), (0, 10, 17, 15)]] := gdW (List.forall_mem_cons.mpr ⟨wt_808, List.forall_mem_cons.mpr ⟨wt_809, List.forall_mem_cons.mpr ⟨wt_726, List.forall_mem_cons.mpr ⟨wt_810, fun _ h => absurd h List.not_mem_nil⟩⟩⟩⟩) (by decide +kernel)
theorem g7_put : GoodIn lw_tbl [.methodLink RL 139 yX7_put, .instanceMethod yX7_put, .selects RX7 yX7_put yX7_put, .initialized RX7, .code yX7_put cX7_put 4 (some .int)] := gdW (List.forall_mem_cons.mpr ⟨wt_811, List.forall_mem_cons.mpr ⟨wt_812, List.forall_mem_cons.mpr ⟨wt_813, List.forall_mem_cons.mpr ⟨wt_15, List.forall_mem_cons.mpr ⟨wt_814, fun _ h => absurd h List.not_mem_nil⟩⟩⟩⟩⟩) (by decide +kernel)
theorem gL_remove : GoodIn lw_tbl [.methodLink RL 140 yL_remove, .static yL_remove, .initialized RL, .codeWith yL_remove cL_remove 4 (some .int) [(0, 9, 12, 13), (0, 9, 15, 15)]] := gdW (List.forall_mem_cons.mpr ⟨wt_815, List.forall_mem_cons.mpr ⟨wt_816, List.forall_mem_cons.mpr ⟨wt_726, List.forall_mem_cons.mpr ⟨wt_817, fun _ h => absurd h List.not_mem_nil⟩⟩⟩⟩) (by decide +kernel)
theorem g7_remove : GoodIn lw_tbl [.methodLink RL 142 yX7_remove, .instanceMethod yX7_remove, .selects RX7 yX7_remove yX7_remove, .initialized RX7, .code yX7_remove cX7_remove 2 (some .int)] := gdW (List.forall_mem_cons.mpr ⟨wt_818, List.forall_mem_cons.mpr ⟨wt_819, List.forall_mem_cons.mpr ⟨wt_820, List.forall_mem_cons.mpr ⟨wt_15, List.forall_mem_cons.mpr ⟨wt_821, fun _ h => absurd h List.not_mem_nil⟩⟩⟩⟩⟩) (by decide +kernel)
theorem gL_sweep : GoodIn lw_tbl [.methodLink RL 143 yL_sweep, .static yL_sweep, .initialized RL, .codeWith yL_sweep cL_sweep 3 (some .int) [(0, 8, 11, 15)]] := gdW (List.forall_mem_cons.mpr ⟨wt_822, List.forall_mem_cons.mpr ⟨wt_823, List.forall_mem_cons.mpr ⟨wt_726, List.forall_mem_cons.mpr ⟨wt_824, fun _ h => absurd h List.not_mem_nil⟩⟩⟩⟩) (by decide +kernel)
theorem g7_sweep : GoodIn lw_tbl [.methodLink RL 145 yX7_sweep, .instanceMethod yX7_sweep, .selects RX7 yX7_sweep yX7_sweep, .initialized RX7, .code yX7_sweep cX7_sweep 1 (some .int)] := gdW (List.forall_mem_cons.mpr ⟨wt_825, List.forall_mem_cons.mpr ⟨wt_826, List.forall_mem_cons.mpr ⟨wt_827, List.forall_mem_cons.mpr ⟨wt_15, List.forall_mem_cons.mpr ⟨wt_828, fun _ h => absurd h List.not_mem_nil⟩⟩⟩⟩⟩) (by decide +kernel)
theorem gL_cut : GoodIn lw_tbl [.methodLink RL 146 yL_cut, .static yL_cut, .initialized RL, .codeWith yL_cut cL_cut 4 (some .int) [(0, 9, 12, 13), (0, 9, 15, 15)]] := gdW (List.forall_mem_cons.mpr ⟨wt_829, List.forall_mem_cons.mpr ⟨wt_830, List.forall_mem_cons.mpr ⟨wt_726, List.forall_mem_cons.mpr ⟨wt_831, fun _ h => absurd h List.not_mem_nil⟩⟩⟩⟩) (by decide +kernel)
theorem g7_cut : GoodIn lw_tbl [.methodLink RL 148 yX7_cut, .instanceMethod yX7_cut, .selects RX7 yX7_cut yX7_cut, .initialized RX7, .code yX7_cut cX7_cut 3 (some .int)] := gdW (List.forall_mem_cons.mpr ⟨wt_832, List.forall_mem_cons.mpr ⟨wt_833, List.forall_mem_cons.mpr ⟨wt_834, List.forall_mem_cons.mpr ⟨wt_15, List.forall_mem_cons.mpr ⟨wt_835, fun _ h => absurd h List.not_mem_nil⟩⟩⟩⟩⟩) (by decide +kernel)
theorem gL_start : GoodIn lw_tbl [.methodLink RL 149 yL_start, .static yL_start, .initialized RL, .codeWith yL_start cL_start 3 (some .int) [(0, 8, 11, 15)]] := gdW (List.forall_mem_cons.mpr ⟨wt_836, List.forall_mem_cons.mpr ⟨wt_837, List.forall_mem_cons.mpr ⟨wt_726, List.forall_mem_cons.mpr ⟨wt_838, fun _ h => absurd h List.not_mem_nil⟩⟩⟩⟩) (by decide +kernel)
theorem g7_start : GoodIn lw_tbl [.methodLink RL 151 yX7_start, .instanceMethod yX7_start, .selects RX7 yX7_start yX7_start, .initialized RX7, .code yX7_start cX7_start 1 (some .int)] := gdW (List.forall_mem_cons.mpr ⟨wt_839, List.forall_mem_cons.mpr ⟨wt_840, List.forall_mem_cons.mpr ⟨wt_841, List.forall_mem_cons.mpr ⟨wt_15, List.forall_mem_cons.mpr ⟨wt_842, fun _ h => absurd h List.not_mem_nil⟩⟩⟩⟩⟩) (by decide +kernel)
theorem gL_setPolicy : GoodIn lw_tbl [.methodLink RL 152 yL_setPolicy, .static yL_setPolicy, .initialized RL, .codeWith yL_setPolicy cL_setPolicy 4 (some .int) [(0, 9, 12, 13)]] := gdW (List.forall_mem_cons.mpr ⟨wt_843, List.forall_mem_cons.mpr ⟨wt_844, List.forall_mem_cons.mpr ⟨wt_726, List.forall_mem_cons.mpr ⟨wt_845, fun _ h => absurd h List.not_mem_nil⟩⟩⟩⟩) (by decide +kernel)
theorem g7_setPolicy : GoodIn lw_tbl [.methodLink RL 154 yX7_setPolicy, .instanceMethod yX7_setPolicy, .selects RX7 yX7_setPolicy yX7_setPolicy, .initialized RX7, .code yX7_setPolicy cX7_setPolicy 3 (some .int)] := gdW (List.forall_mem_cons.mpr ⟨wt_846, List.forall_mem_cons.mpr ⟨wt_847, List.forall_mem_cons.mpr ⟨wt_848, List.forall_mem_cons.mpr ⟨wt_15, List.forall_mem_cons.mpr ⟨wt_849, fun _ h => absurd h List.not_mem_nil⟩⟩⟩⟩⟩) (by decide +kernel)
theorem gL_append : GoodIn lw_tbl [.methodLink RL 94 yL_append, .static yL_append, .initialized RL, .codeWith yL_append cL_append 4 (some .int) [(0, 9, 12, 13), (0, 9, 15, 15)]] := gdW (List.forall_mem_cons.mpr ⟨wt_724, List.forall_mem_cons.mpr ⟨wt_725, List.forall_mem_cons.mpr ⟨wt_726, List.forall_mem_cons.mpr ⟨wt_727, fun _ h => absurd h List.not_mem_nil⟩⟩⟩⟩) (by decide +kernel)
theorem g7_append : GoodIn lw_tbl [.methodLink RL 99 yX7_append, .instanceMethod yX7_append, .selects RX7 yX7_append yX7_append, .initialized RX7, .code yX7_append cX7_append 2 (some .int)] := gdW (List.forall_mem_cons.mpr ⟨wt_728, List.forall_mem_cons.mpr ⟨wt_729, List.forall_mem_cons.mpr ⟨wt_730, List.forall_mem_cons.mpr ⟨wt_15, List.forall_mem_cons.mpr ⟨wt_731, fun _ h => absurd h List.not_mem_nil⟩⟩⟩⟩⟩) (by decide +kernel)
theorem gL_undo : GoodIn lw_tbl [.methodLink RL 155 yL_undo, .static yL_undo, .initialized RL, .codeWith yL_undo cL_undo 3 (some .int) [(0, 8, 11, 15)]] := gdW (List.forall_mem_cons.mpr ⟨wt_850, List.forall_mem_cons.mpr ⟨wt_851, List.forall_mem_cons.mpr ⟨wt_726, List.forall_mem_cons.mpr ⟨wt_852, fun _ h => absurd h List.not_mem_nil⟩⟩⟩⟩) (by decide +kernel)
theorem g7_undo : GoodIn lw_tbl [.methodLink RL 157 yX7_undo, .instanceMethod yX7_undo, .selects RX7 yX7_undo yX7_undo, .initialized RX7, .code yX7_undo cX7_undo 1 (some .int)] := gdW (List.forall_mem_cons.mpr ⟨wt_853, List.forall_mem_cons.mpr ⟨wt_854, List.forall_mem_cons.mpr ⟨wt_855, List.forall_mem_cons.mpr ⟨wt_15, List.forall_mem_cons.mpr ⟨wt_856, fun _ h => absurd h List.not_mem_nil⟩⟩⟩⟩⟩) (by decide +kernel)
theorem gL_operations : GoodIn lw_tbl [.methodLink RL 166 yL_operations, .static yL_operations, .initialized RL, .codeWith yL_operations cL_operations 3 (some .int) [(0, 8, 11, 15)]] := gdW (List.forall_mem_cons.mpr ⟨wt_873, List.forall_mem_cons.mpr ⟨wt_874, List.forall_mem_cons.mpr ⟨wt_726, List.forall_mem_cons.mpr ⟨wt_875, fun _ h => absurd h List.not_mem_nil⟩⟩⟩⟩) (by decide +kernel)
theorem g7_operations : GoodIn lw_tbl [.methodLink RL 168 yX7_operations, .instanceMethod yX7_operations, .selects RX7 yX7_operations yX7_operations, .initialized RX7, .code yX7_operations cX7_operations 1 (some .int)] := gdW (List.forall_mem_cons.mpr ⟨wt_876, List.forall_mem_cons.mpr ⟨wt_877, List.forall_mem_cons.mpr ⟨wt_878, List.forall_mem_cons.mpr ⟨wt_15, List.forall_mem_cons.mpr ⟨wt_879, fun _ h => absurd h List.not_mem_nil⟩⟩⟩⟩⟩) (by decide +kernel)
theorem gL_afterCut : GoodIn lw_tbl [.methodLink RL 169 yL_afterCut, .static yL_afterCut, .initialized RL, .codeWith yL_afterCut cL_afterCut 6 (some .int) [(0, 12, 15, 13), (0, 12, 19, 15)]] := gdW (List.forall_mem_cons.mpr ⟨wt_880, List.forall_mem_cons.mpr ⟨wt_881, List.forall_mem_cons.mpr ⟨wt_726, List.forall_mem_cons.mpr ⟨wt_882, fun _ h => absurd h List.not_mem_nil⟩⟩⟩⟩) (by decide +kernel)
theorem g7_afterCut : GoodIn lw_tbl [.methodLink RL 172 yX7_afterCut, .instanceMethod yX7_afterCut, .selects RX7 yX7_afterCut yX7_afterCut, .initialized RX7, .code yX7_afterCut cX7_afterCut 5 (some .int)] := gdW (List.forall_mem_cons.mpr ⟨wt_883, List.forall_mem_cons.mpr ⟨wt_884, List.forall_mem_cons.mpr ⟨wt_885, List.forall_mem_cons.mpr ⟨wt_15, List.forall_mem_cons.mpr ⟨wt_886, fun _ h => absurd h List.not_mem_nil⟩⟩⟩⟩⟩) (by decide +kernel)
theorem gL_lasts : GoodIn lw_tbl [.methodLink RL 173 yL_lasts, .static yL_lasts, .initialized RL, .codeWith yL_lasts cL_lasts 4 (some .int) [(0, 9, 12, 13)]] := gdW (List.forall_mem_cons.mpr ⟨wt_887, List.forall_mem_cons.mpr ⟨wt_888, List.forall_mem_cons.mpr ⟨wt_726, List.forall_mem_cons.mpr ⟨wt_889, fun _ h => absurd h List.not_mem_nil⟩⟩⟩⟩) (by decide +kernel)
theorem g7_lasts : GoodIn lw_tbl [.methodLink RL 175 yX7_lasts, .instanceMethod yX7_lasts, .selects RX7 yX7_lasts yX7_lasts, .initialized RX7, .code yX7_lasts cX7_lasts 3 (some .int)] := gdW (List.forall_mem_cons.mpr ⟨wt_890, List.forall_mem_cons.mpr ⟨wt_891, List.forall_mem_cons.mpr ⟨wt_892, List.forall_mem_cons.mpr ⟨wt_15, List.forall_mem_cons.mpr ⟨wt_893, fun _ h => absurd h List.not_mem_nil⟩⟩⟩⟩⟩) (by decide +kernel)
theorem gL_runScript : GoodIn lw_tbl [.methodLink RL 182 yL_runScript, .static yL_runScript, .initialized RL, .codeWith yL_runScript cL_runScript 6 (some .int) [(0, 11, 14, 13)]] := gdW (List.forall_mem_cons.mpr ⟨wt_902, List.forall_mem_cons.mpr ⟨wt_903, List.forall_mem_cons.mpr ⟨wt_726, List.forall_mem_cons.mpr ⟨wt_904, fun _ h => absurd h List.not_mem_nil⟩⟩⟩⟩) (by decide +kernel)
theorem g7_runScript : GoodIn lw_tbl [.methodLink RL 185 yX7_runScript, .instanceMethod yX7_runScript, .selects RX7 yX7_runScript yX7_runScript, .initialized RX7, .code yX7_runScript cX7_runScript 6 (some .int)] := gdW (List.forall_mem_cons.mpr ⟨wt_905, List.forall_mem_cons.mpr ⟨wt_906, List.forall_mem_cons.mpr ⟨wt_907, List.forall_mem_cons.mpr ⟨wt_15, List.forall_mem_cons.mpr ⟨wt_908, fun _ h => absurd h List.not_mem_nil⟩⟩⟩⟩⟩) (by decide +kernel)
theorem gL_simulate : GoodIn lw_tbl [.methodLink RL 186 yL_simulate, .static yL_simulate, .initialized RL, .codeWith yL_simulate cL_simulate 6 (some .int) [(0, 11, 14, 13)]] := gdW (List.forall_mem_cons.mpr ⟨wt_909, List.forall_mem_cons.mpr ⟨wt_910, List.forall_mem_cons.mpr ⟨wt_726, List.forall_mem_cons.mpr ⟨wt_911, fun _ h => absurd h List.not_mem_nil⟩⟩⟩⟩) (by decide +kernel)
theorem g7_simulate : GoodIn lw_tbl [.methodLink RL 189 yX7_simulate, .instanceMethod yX7_simulate, .selects RX7 yX7_simulate yX7_simulate, .initialized RX7, .code yX7_simulate cX7_simulate 7 (some .int)] := gdW (List.forall_mem_cons.mpr ⟨wt_912, List.forall_mem_cons.mpr ⟨wt_913, List.forall_mem_cons.mpr ⟨wt_914, List.forall_mem_cons.mpr ⟨wt_15, List.forall_mem_cons.mpr ⟨wt_915, fun _ h => absurd h List.not_mem_nil⟩⟩⟩⟩⟩) (by decide +kernel)
theorem gL_save : GoodIn lw_tbl [.methodLink RL 190 yL_save, .static yL_save, .initialized RL, .codeWith yL_save cL_save 4 (some .int) [(0, 9, 12, 28)]] := gdW (List.forall_mem_cons.mpr ⟨wt_916, List.forall_mem_cons.mpr ⟨wt_917, List.forall_mem_cons.mpr ⟨wt_726, List.forall_mem_cons.mpr ⟨wt_918, fun _ h => absurd h List.not_mem_nil⟩⟩⟩⟩) (by decide +kernel)
theorem g7_save : GoodIn lw_tbl [.methodLink RL 192 yX7_save, .instanceMethod yX7_save, .selects RX7 yX7_save yX7_save, .initialized RX7, .code yX7_save cX7_save 2 (some .int)] := gdW (List.forall_mem_cons.mpr ⟨wt_919, List.forall_mem_cons.mpr ⟨wt_920, List.forall_mem_cons.mpr ⟨wt_921, List.forall_mem_cons.mpr ⟨wt_15, List.forall_mem_cons.mpr ⟨wt_922, fun _ h => absurd h List.not_mem_nil⟩⟩⟩⟩⟩) (by decide +kernel)
theorem gL_restore : GoodIn lw_tbl [.methodLink RL 193 yL_restore, .static yL_restore, .initialized RL, .codeWith yL_restore cL_restore 4 (some .int) [(0, 9, 12, 28), (0, 9, 15, 15)]] := gdW (List.forall_mem_cons.mpr ⟨wt_923, List.forall_mem_cons.mpr ⟨wt_924, List.forall_mem_cons.mpr ⟨wt_726, List.forall_mem_cons.mpr ⟨wt_925, fun _ h => absurd h List.not_mem_nil⟩⟩⟩⟩) (by decide +kernel)
theorem g7_restore : GoodIn lw_tbl [.methodLink RL 195 yX7_restore, .instanceMethod yX7_restore, .selects RX7 yX7_restore yX7_restore, .initialized RX7, .code yX7_restore cX7_restore 2 (some .int)] := gdW (List.forall_mem_cons.mpr ⟨wt_926, List.forall_mem_cons.mpr ⟨wt_927, List.forall_mem_cons.mpr ⟨wt_928, List.forall_mem_cons.mpr ⟨wt_15, List.forall_mem_cons.mpr ⟨wt_929, fun _ h => absurd h List.not_mem_nil⟩⟩⟩⟩⟩) (by decide +kernel)
theorem gL_load : GoodIn lw_tbl [.methodLink RL 111 yL_load, .static yL_load, .initialized RL, .codeWith yL_load cL_load 3 (some .int) [(0, 8, 11, 15)]] := gdW (List.forall_mem_cons.mpr ⟨wt_752, List.forall_mem_cons.mpr ⟨wt_753, List.forall_mem_cons.mpr ⟨wt_726, List.forall_mem_cons.mpr ⟨wt_754, fun _ h => absurd h List.not_mem_nil⟩⟩⟩⟩) (by decide +kernel)
theorem g7_load : GoodIn lw_tbl [.methodLink RL 114 yX7_load, .instanceMethod yX7_load, .selects RX7 yX7_load yX7_load, .initialized RX7, .code yX7_load cX7_load 2 (some .int)] := gdW (List.forall_mem_cons.mpr ⟨wt_755, List.forall_mem_cons.mpr ⟨wt_756, List.forall_mem_cons.mpr ⟨wt_757, List.forall_mem_cons.mpr ⟨wt_15, List.forall_mem_cons.mpr ⟨wt_758, fun _ h => absurd h List.not_mem_nil⟩⟩⟩⟩⟩) (by decide +kernel)
theorem g7_thrown : GoodIn lw_tbl [.methodLink RL 100 yX7_thrown, .instanceMethod yX7_thrown, .selects RX7 yX7_thrown yX7_thrown, .initialized RX7, .code yX7_thrown cX7_thrown 1 (some .int)] := gdW (List.forall_mem_cons.mpr ⟨wt_732, List.forall_mem_cons.mpr ⟨wt_733, List.forall_mem_cons.mpr ⟨wt_734, List.forall_mem_cons.mpr ⟨wt_15, List.forall_mem_cons.mpr ⟨wt_735, fun _ h => absurd h List.not_mem_nil⟩⟩⟩⟩⟩) (by decide +kernel)
theorem wt_K180 : Cond.constantLong RL 180 (4294967295) ∈ lw_tbl := wt_717
section CS
variable {p : Program} {l : Launch} {e : Env} {s : State} {m : MethodId} {below : List Frame} {meth : Method} {c : Code} {cells slots : Nat} {Q : State → Prop} {D : va_G} {A : Nat → Prop} {b : Addr} {cI cL cZ cJ : ClassId} {ar ad : Nat → Nat} {dl : Nat → Nat → Nat} {sf sg : Nat → Option Nat} {L i : Nat} {xs : Nat → Int32}
set_option maxHeartbeats 4000000 in
set_option maxRecDepth 100000 in
theorem lc_about : LCS 290 p l e s m below meth c D cI cL cZ cJ ar ad dl sf sg A b L i cells slots xs Q := by
  intro hst hsf hsg hL0 hi hL9 H locs ls hcs hst0 hS hl hk
  obtain ⟨rf, rb, rl, ss, ps, t, f, ft, flk, fd, fkp, fik, fl, fo, q, vv, nx, ct, uf, zz, hP, hD, hR⟩ := hst0
  obtain ⟨hX, hr, hlocks, hK, hN, hE, hSW, hZ, hCN, hXs, hbl, hbA⟩ := id hL0
  obtain ⟨⟨hn, hq, hnx, hct⟩, hRz, hR3, hR4, hB⟩ := id hR
  have hx := hX.1
  have hb := hX.2.1
  have hown := hX.2.2.2.1
  have hts := hX.2.2.2.2
  have hin : ∀ k, k ≤ 3 → vp_in (nI (4 * i) + nI k) L := fun k hk => by rw [nI_add]; exact vp_in_nI (by omega) (by omega)
  obtain ⟨ya, hya⟩ : ∃ y, xs (nI (4 * i) + 1).toNatClampNeg = y := ⟨_, rfl⟩
  obtain ⟨yb, hyb⟩ : ∃ y, xs (nI (4 * i) + 2).toNatClampNeg = y := ⟨_, rfl⟩
  obtain ⟨yc, hyc⟩ : ∃ y, xs (nI (4 * i) + 3).toNatClampNeg = y := ⟨_, rfl⟩
  refine lv_aload_n hx hb dL_law_290 rfl (lv_at hl 1 rfl) ?_
  refine lv_aload_n hx hb dL_law_291 rfl (lv_at hl 0 rfl) ?_
  refine lv_iload hx hb dL_law_292 (lv_at hl 4 rfl) ?_
  refine lv_iconst (v := 1) hx hb dL_law_294 (by decide) ?_
  refine lv_iadd hx hb dL_law_295 ?_
  refine va_sld hx hb hXs hbl hbA hS (hin 1 (by decide)) dL_law_296 ?_
  rw [hya]
  refine lv_aload_n hx hb dL_law_297 rfl (lv_at hl 3 rfl) ?_
  refine lw_help hX (cL_aboutH l hst D cI cL cZ cJ ad dl sf sg hsf hsg fo t ss q hn hq vv nx ct hnx hct uf zz hRz.1 hB ya) ⟨by decide, by decide, show (parseMethodDescriptor yL_about.desc).map (fun d => d.parameters.length) = some 3 by decide +kernel⟩ rfl gL_about ⟨Nat.le_of_ble_eq_true rfl, Nat.le_of_ble_eq_true rfl⟩ hK hN hE hSW hZ hCN [0, 1, 2, 3] rfl hP hD hS (List.range' 9 27) (by decide) (rf_sub lw_len) hl.1 rfl (Nat.le_of_ble_eq_true rfl) dL_law_298 hcs (fun r u h => ?_) (fun r u H locs hpost hP hD hS => ?_)
  · rcases h with ⟨-, -, rfl⟩ | ⟨-, -, rfl⟩ <;> exact lw_adr
  rw [r_r] at hpost
  rcases hpost with ⟨hc, rfl, rfl⟩ | ⟨hc, rfl, rfl⟩
  · rw [rf_put lw_len lw_len] at hP hD
    refine lv_istore (lv' := [(5, .int (0)), (0, .ref b), (1, .ref (ad 1)), (2, .ref (ar 0)), (3, .ref (ad 0)), (4, .int (nI (4 * i)))]) hx hb dL_law_301 hl (by decide) rfl (fun ls hl => ?_)
    refine lv_aload_n hx hb dL_law_303 rfl (lv_at hl 3 rfl) ?_
    refine lv_aload_n hx hb dL_law_304 rfl (lv_at hl 1 rfl) ?_
    refine lv_iload hx hb dL_law_305 (lv_at hl 5 rfl) ?_
    refine lv_iconst (v := 1) hx hb dL_law_307 (by decide) ?_
    refine lv_iadd hx hb dL_law_308 ?_
    refine va_sld hx hb hXs hbl hbA hS (hin 1 (by decide)) dL_law_309 ?_
    rw [hya]
    refine lw_refi hX (c7_about l D cI cZ (ar 0) (ar 1) (ar 2) (ar 3) (ar 4) (ar 5) (ar 6) (ar 7) (ar 8) rf rb rl ct ss ps f (zz 16).1.2 (rz_wf hRz) ya) (Cs := [[((ar 0), .inr (7, [.int (rf), .ref (ar 1), .int (nI (ss)), .int (nI (ps.2)), .int (bI (ps.1 = true)), .int (rb), .int (rl), .ref (ar 2), .ref (ar 3), .ref (ar 4), .ref (ar 5), .int (nI (ct)), .ref (ar 6), .ref (ar 7), .ref (ar 8)]))], [((ar 2), .inl (cI, 151, .inl f))]]) rfl ⟨by decide, by decide, show (parseMethodDescriptor yX7_about.desc).map (fun d => d.parameters.length) = some 1 by decide +kernel⟩ rfl g7_about ⟨Nat.le_of_ble_eq_true rfl, Nat.le_of_ble_eq_true rfl⟩ hK [0] rfl hP hD hS [0, 2] (by decide) rfl rfl hl.1 rfl (Nat.le_of_ble_eq_true rfl) dL_law_310 hcs (fun r9 U9 => r9 = (if rg2R ya 13 = 0 then abV f (zz 16).1.2 ya.toNatClampNeg else 0) ∧ U9 = [[((ar 0), .inr (7, [.int (rg2R ya 13), .ref (ar 1), .int (nI (ss)), .int (nI (ps.2)), .int (bI (ps.1 = true)), .int (rb), .int (rl), .ref (ar 2), .ref (ar 3), .ref (ar 4), .ref (ar 5), .int (nI (ct)), .ref (ar 6), .ref (ar 7), .ref (ar 8)]))], [((ar 2), .inl (cI, 151, .inl f))]]) (fun r9 u9 h => ?_) (fun r9 U9 h => ?_) (fun r9 U9 H locs hpost hP hD hS => ?_)
    · obtain ⟨e9, rfl⟩ := h
      exact ⟨[[((ar 0), .inr (7, [.int (rg2R ya 13), .ref (ar 1), .int (nI (ss)), .int (nI (ps.2)), .int (bI (ps.1 = true)), .int (rb), .int (rl), .ref (ar 2), .ref (ar 3), .ref (ar 4), .ref (ar 5), .int (nI (ct)), .ref (ar 6), .ref (ar 7), .ref (ar 8)]))], [((ar 2), .inl (cI, 151, .inl f))]], rfl, e9, rfl⟩
    · obtain ⟨-, rfl⟩ := h
      rfl
    obtain ⟨e9, rfl⟩ := hpost
    rw [if_pos hc] at e9
    subst e9
    have hP : va_P D vwCl (bw (rfB cI cZ ar 0 rb rl ss ps ct t f ft flk fd fkp fik fl (lwB cI cL cZ cJ ad dl sf sg (vp_updL fo 0 (abZ (zz 16) ya.toNatClampNeg : Int32).toInt64) t ss q vv nx ct uf zz))) H := by
      rw [hc] at hP
      exact hP
    have hD : va_D A (bw (rfB cI cZ ar 0 rb rl ss ps ct t f ft flk fd fkp fik fl (lwB cI cL cZ cJ ad dl sf sg (vp_updL fo 0 (abZ (zz 16) ya.toNatClampNeg : Int32).toInt64) t ss q vv nx ct uf zz))) := by
      rw [hc] at hD
      exact hD
    refine lv_istore (lv' := [(6, .int (abV f (zz 16).1.2 ya.toNatClampNeg)), (5, .int (0)), (0, .ref b), (1, .ref (ad 1)), (2, .ref (ar 0)), (3, .ref (ad 0)), (4, .int (nI (4 * i)))]) hx hb dL_law_313 hl (by decide) rfl (fun ls hl => ?_)
    exact lw_tail hL0 g7_thrown dL_law_315 dL_law_316 dL_law_319 dL_law_321 dL_law_326 dL_law_328 dL_law_331 dL_law_332 dL_law_333 dL_law_334 dL_law_336 dL_law_337 dL_law_338 dL_law_343 (by decide) hP hD hS hR (fun _ => (show vp_updL fo 0 ((abZ (zz 16) ya.toNatClampNeg : Int32).toInt64) 0 = (abV f (zz 16).1.2 ya.toNatClampNeg : Int32).toInt64 from (if_pos rfl).trans (congrArg Int32.toInt64 (v_about hRz hc)))) hl hcs hk
  · rw [rf_put lw_len lw_len] at hP hD
    refine lv_istore (lv' := [(5, .int (rg2R ya 13)), (0, .ref b), (1, .ref (ad 1)), (2, .ref (ar 0)), (3, .ref (ad 0)), (4, .int (nI (4 * i)))]) hx hb dL_law_301 hl (by decide) rfl (fun ls hl => ?_)
    refine lv_aload_n hx hb dL_law_303 rfl (lv_at hl 3 rfl) ?_
    refine lv_aload_n hx hb dL_law_304 rfl (lv_at hl 1 rfl) ?_
    refine lv_iload hx hb dL_law_305 (lv_at hl 5 rfl) ?_
    refine lv_iconst (v := 1) hx hb dL_law_307 (by decide) ?_
    refine lv_iadd hx hb dL_law_308 ?_
    refine va_sld hx hb hXs hbl hbA hS (hin 1 (by decide)) dL_law_309 ?_
    rw [hya]
    refine lw_refi hX (c7_about l D cI cZ (ar 0) (ar 1) (ar 2) (ar 3) (ar 4) (ar 5) (ar 6) (ar 7) (ar 8) rf rb rl ct ss ps f (zz 16).1.2 (rz_wf hRz) ya) (Cs := [[((ar 0), .inr (7, [.int (rf), .ref (ar 1), .int (nI (ss)), .int (nI (ps.2)), .int (bI (ps.1 = true)), .int (rb), .int (rl), .ref (ar 2), .ref (ar 3), .ref (ar 4), .ref (ar 5), .int (nI (ct)), .ref (ar 6), .ref (ar 7), .ref (ar 8)]))], [((ar 2), .inl (cI, 151, .inl f))]]) rfl ⟨by decide, by decide, show (parseMethodDescriptor yX7_about.desc).map (fun d => d.parameters.length) = some 1 by decide +kernel⟩ rfl g7_about ⟨Nat.le_of_ble_eq_true rfl, Nat.le_of_ble_eq_true rfl⟩ hK [0] rfl hP hD hS [0, 2] (by decide) rfl rfl hl.1 rfl (Nat.le_of_ble_eq_true rfl) dL_law_310 hcs (fun r9 U9 => r9 = (if rg2R ya 13 = 0 then abV f (zz 16).1.2 ya.toNatClampNeg else 0) ∧ U9 = [[((ar 0), .inr (7, [.int (rg2R ya 13), .ref (ar 1), .int (nI (ss)), .int (nI (ps.2)), .int (bI (ps.1 = true)), .int (rb), .int (rl), .ref (ar 2), .ref (ar 3), .ref (ar 4), .ref (ar 5), .int (nI (ct)), .ref (ar 6), .ref (ar 7), .ref (ar 8)]))], [((ar 2), .inl (cI, 151, .inl f))]]) (fun r9 u9 h => ?_) (fun r9 U9 h => ?_) (fun r9 U9 H locs hpost hP hD hS => ?_)
    · obtain ⟨e9, rfl⟩ := h
      exact ⟨[[((ar 0), .inr (7, [.int (rg2R ya 13), .ref (ar 1), .int (nI (ss)), .int (nI (ps.2)), .int (bI (ps.1 = true)), .int (rb), .int (rl), .ref (ar 2), .ref (ar 3), .ref (ar 4), .ref (ar 5), .int (nI (ct)), .ref (ar 6), .ref (ar 7), .ref (ar 8)]))], [((ar 2), .inl (cI, 151, .inl f))]], rfl, e9, rfl⟩
    · obtain ⟨-, rfl⟩ := h
      rfl
    obtain ⟨e9, rfl⟩ := hpost
    rw [if_neg hc] at e9
    subst e9
    have hP : va_P D vwCl (bw (rfB cI cZ ar (rg2R ya 13) rb rl ss ps ct t f ft flk fd fkp fik fl (lwB cI cL cZ cJ ad dl sf sg fo t ss q vv nx ct uf zz))) H := by
      try simp only [if_neg hc] at hP
      exact hP
    have hD : va_D A (bw (rfB cI cZ ar (rg2R ya 13) rb rl ss ps ct t f ft flk fd fkp fik fl (lwB cI cL cZ cJ ad dl sf sg fo t ss q vv nx ct uf zz))) := by
      try simp only [if_neg hc] at hD
      exact hD
    refine lv_istore (lv' := [(6, .int (0)), (5, .int (rg2R ya 13)), (0, .ref b), (1, .ref (ad 1)), (2, .ref (ar 0)), (3, .ref (ad 0)), (4, .int (nI (4 * i)))]) hx hb dL_law_313 hl (by decide) rfl (fun ls hl => ?_)
    exact lw_tail hL0 g7_thrown dL_law_315 dL_law_316 dL_law_319 dL_law_321 dL_law_326 dL_law_328 dL_law_331 dL_law_332 dL_law_333 dL_law_334 dL_law_336 dL_law_337 dL_law_338 dL_law_343 (by decide) hP hD hS hR (fun h9 => absurd h9 hc) hl hcs hk
set_option maxHeartbeats 4000000 in
set_option maxRecDepth 100000 in
theorem lc_page : LCS 346 p l e s m below meth c D cI cL cZ cJ ar ad dl sf sg A b L i cells slots xs Q := by
  intro hst hsf hsg hL0 hi hL9 H locs ls hcs hst0 hS hl hk
  obtain ⟨rf, rb, rl, ss, ps, t, f, ft, flk, fd, fkp, fik, fl, fo, q, vv, nx, ct, uf, zz, hP, hD, hR⟩ := hst0
  obtain ⟨hX, hr, hlocks, hK, hN, hE, hSW, hZ, hCN, hXs, hbl, hbA⟩ := id hL0
  obtain ⟨⟨hn, hq, hnx, hct⟩, hRz, hR3, hR4, hB⟩ := id hR
  have hx := hX.1
  have hb := hX.2.1
  have hown := hX.2.2.2.1
  have hts := hX.2.2.2.2
  have hin : ∀ k, k ≤ 3 → vp_in (nI (4 * i) + nI k) L := fun k hk => by rw [nI_add]; exact vp_in_nI (by omega) (by omega)
  obtain ⟨ya, hya⟩ : ∃ y, xs (nI (4 * i) + 1).toNatClampNeg = y := ⟨_, rfl⟩
  obtain ⟨yb, hyb⟩ : ∃ y, xs (nI (4 * i) + 2).toNatClampNeg = y := ⟨_, rfl⟩
  obtain ⟨yc, hyc⟩ : ∃ y, xs (nI (4 * i) + 3).toNatClampNeg = y := ⟨_, rfl⟩
  refine lv_aload_n hx hb dL_law_346 rfl (lv_at hl 1 rfl) ?_
  refine lv_aload_n hx hb dL_law_347 rfl (lv_at hl 0 rfl) ?_
  refine lv_iload hx hb dL_law_348 (lv_at hl 4 rfl) ?_
  refine lv_iconst (v := 1) hx hb dL_law_350 (by decide) ?_
  refine lv_iadd hx hb dL_law_351 ?_
  refine va_sld hx hb hXs hbl hbA hS (hin 1 (by decide)) dL_law_352 ?_
  rw [hya]
  refine lv_aload_n hx hb dL_law_353 rfl (lv_at hl 0 rfl) ?_
  refine lv_iload hx hb dL_law_354 (lv_at hl 4 rfl) ?_
  refine lv_iconst (v := 2) hx hb dL_law_356 (by decide) ?_
  refine lv_iadd hx hb dL_law_357 ?_
  refine va_sld hx hb hXs hbl hbA hS (hin 2 (by decide)) dL_law_358 ?_
  rw [hyb]
  refine lv_aload_n hx hb dL_law_359 rfl (lv_at hl 3 rfl) ?_
  refine lw_help hX (cL_pageH l hst D cI cL cZ cJ ad dl sf sg hsf hsg fo t ss q hn hq vv nx ct hnx hct uf zz hRz.1 hB ya yb) ⟨by decide, by decide, show (parseMethodDescriptor yL_page.desc).map (fun d => d.parameters.length) = some 4 by decide +kernel⟩ rfl gL_page ⟨Nat.le_of_ble_eq_true rfl, Nat.le_of_ble_eq_true rfl⟩ hK hN hE hSW hZ hCN [0, 1, 2, 3] rfl hP hD hS (List.range' 9 27) (by decide) (rf_sub lw_len) hl.1 rfl (Nat.le_of_ble_eq_true rfl) dL_law_360 hcs (fun r u h => ?_) (fun r u H locs hpost hP hD hS => ?_)
  · rcases h with ⟨-, -, rfl⟩ | ⟨-, -, rfl⟩ <;> exact lw_adr
  rw [r_pg hRz] at hpost
  rcases hpost with ⟨hc, rfl, rfl⟩ | ⟨hc, rfl, rfl⟩
  · rw [rf_put lw_len lw_len] at hP hD
    refine lv_istore (lv' := [(5, .int (0)), (0, .ref b), (1, .ref (ad 1)), (2, .ref (ar 0)), (3, .ref (ad 0)), (4, .int (nI (4 * i)))]) hx hb dL_law_363 hl (by decide) rfl (fun ls hl => ?_)
    refine lv_aload_n hx hb dL_law_365 rfl (lv_at hl 3 rfl) ?_
    refine lv_aload_n hx hb dL_law_366 rfl (lv_at hl 1 rfl) ?_
    refine lv_iload hx hb dL_law_367 (lv_at hl 5 rfl) ?_
    refine lv_iconst (v := 1) hx hb dL_law_369 (by decide) ?_
    refine lv_iadd hx hb dL_law_370 ?_
    refine va_sld hx hb hXs hbl hbA hS (hin 1 (by decide)) dL_law_371 ?_
    rw [hya]
    refine lv_aload_n hx hb dL_law_372 rfl (lv_at hl 1 rfl) ?_
    refine lv_iload hx hb dL_law_373 (lv_at hl 5 rfl) ?_
    refine lv_iconst (v := 2) hx hb dL_law_375 (by decide) ?_
    refine lv_iadd hx hb dL_law_376 ?_
    refine va_sld hx hb hXs hbl hbA hS (hin 2 (by decide)) dL_law_377 ?_
    rw [hyb]
    refine lw_refi hX (c7_page l D cI cZ (ar 0) (ar 1) (ar 2) (ar 3) (ar 4) (ar 5) (ar 6) (ar 7) (ar 8) rf rb rl ct ss ps f (zz 16).1.2 (rz_wf hRz) (show 1 ≤ (zz 16).1.2 by have := hRz.1.1.1.1; omega) ya yb) (Cs := [[((ar 0), .inr (7, [.int (rf), .ref (ar 1), .int (nI (ss)), .int (nI (ps.2)), .int (bI (ps.1 = true)), .int (rb), .int (rl), .ref (ar 2), .ref (ar 3), .ref (ar 4), .ref (ar 5), .int (nI (ct)), .ref (ar 6), .ref (ar 7), .ref (ar 8)]))], [((ar 2), .inl (cI, 151, .inl f))]]) rfl ⟨by decide, by decide, show (parseMethodDescriptor yX7_page.desc).map (fun d => d.parameters.length) = some 2 by decide +kernel⟩ rfl g7_page ⟨Nat.le_of_ble_eq_true rfl, Nat.le_of_ble_eq_true rfl⟩ hK [0] rfl hP hD hS [0, 2] (by decide) rfl rfl hl.1 rfl (Nat.le_of_ble_eq_true rfl) dL_law_378 hcs (fun r9 U9 => r9 = (if pgR (zz 16).1.2 ya yb = 0 then pgV f (zz 16).1.2 ya.toNatClampNeg yb.toNatClampNeg else 0) ∧ U9 = [[((ar 0), .inr (7, [.int (pgR (zz 16).1.2 ya yb), .ref (ar 1), .int (nI (ss)), .int (nI (ps.2)), .int (bI (ps.1 = true)), .int (rb), .int (rl), .ref (ar 2), .ref (ar 3), .ref (ar 4), .ref (ar 5), .int (nI (ct)), .ref (ar 6), .ref (ar 7), .ref (ar 8)]))], [((ar 2), .inl (cI, 151, .inl f))]]) (fun r9 u9 h => ?_) (fun r9 U9 h => ?_) (fun r9 U9 H locs hpost hP hD hS => ?_)
    · obtain ⟨e9, rfl⟩ := h
      exact ⟨[[((ar 0), .inr (7, [.int (pgR (zz 16).1.2 ya yb), .ref (ar 1), .int (nI (ss)), .int (nI (ps.2)), .int (bI (ps.1 = true)), .int (rb), .int (rl), .ref (ar 2), .ref (ar 3), .ref (ar 4), .ref (ar 5), .int (nI (ct)), .ref (ar 6), .ref (ar 7), .ref (ar 8)]))], [((ar 2), .inl (cI, 151, .inl f))]], rfl, e9, rfl⟩
    · obtain ⟨-, rfl⟩ := h
      rfl
    obtain ⟨e9, rfl⟩ := hpost
    rw [if_pos hc] at e9
    subst e9
    have hP : va_P D vwCl (bw (rfB cI cZ ar 0 rb rl ss ps ct t f ft flk fd fkp fik fl (lwB cI cL cZ cJ ad dl sf sg (vp_updL fo 0 (tpZ (zz 16) ya yb : Int32).toInt64) t ss q vv nx ct uf zz))) H := by
      rw [hc] at hP
      exact hP
    have hD : va_D A (bw (rfB cI cZ ar 0 rb rl ss ps ct t f ft flk fd fkp fik fl (lwB cI cL cZ cJ ad dl sf sg (vp_updL fo 0 (tpZ (zz 16) ya yb : Int32).toInt64) t ss q vv nx ct uf zz))) := by
      rw [hc] at hD
      exact hD
    refine lv_istore (lv' := [(6, .int (pgV f (zz 16).1.2 ya.toNatClampNeg yb.toNatClampNeg)), (5, .int (0)), (0, .ref b), (1, .ref (ad 1)), (2, .ref (ar 0)), (3, .ref (ad 0)), (4, .int (nI (4 * i)))]) hx hb dL_law_381 hl (by decide) rfl (fun ls hl => ?_)
    exact lw_tail hL0 g7_thrown dL_law_383 dL_law_384 dL_law_387 dL_law_389 dL_law_394 dL_law_396 dL_law_399 dL_law_400 dL_law_401 dL_law_402 dL_law_404 dL_law_405 dL_law_406 dL_law_411 (by decide) hP hD hS hR (fun _ => (show vp_updL fo 0 ((tpZ (zz 16) ya yb : Int32).toInt64) 0 = (pgV f (zz 16).1.2 ya.toNatClampNeg yb.toNatClampNeg : Int32).toInt64 from (if_pos rfl).trans (congrArg Int32.toInt64 (v_page hRz hc)))) hl hcs hk
  · rw [rf_put lw_len lw_len] at hP hD
    refine lv_istore (lv' := [(5, .int (pgR (zz 16).1.2 ya yb)), (0, .ref b), (1, .ref (ad 1)), (2, .ref (ar 0)), (3, .ref (ad 0)), (4, .int (nI (4 * i)))]) hx hb dL_law_363 hl (by decide) rfl (fun ls hl => ?_)
    refine lv_aload_n hx hb dL_law_365 rfl (lv_at hl 3 rfl) ?_
    refine lv_aload_n hx hb dL_law_366 rfl (lv_at hl 1 rfl) ?_
    refine lv_iload hx hb dL_law_367 (lv_at hl 5 rfl) ?_
    refine lv_iconst (v := 1) hx hb dL_law_369 (by decide) ?_
    refine lv_iadd hx hb dL_law_370 ?_
    refine va_sld hx hb hXs hbl hbA hS (hin 1 (by decide)) dL_law_371 ?_
    rw [hya]
    refine lv_aload_n hx hb dL_law_372 rfl (lv_at hl 1 rfl) ?_
    refine lv_iload hx hb dL_law_373 (lv_at hl 5 rfl) ?_
    refine lv_iconst (v := 2) hx hb dL_law_375 (by decide) ?_
    refine lv_iadd hx hb dL_law_376 ?_
    refine va_sld hx hb hXs hbl hbA hS (hin 2 (by decide)) dL_law_377 ?_
    rw [hyb]
    refine lw_refi hX (c7_page l D cI cZ (ar 0) (ar 1) (ar 2) (ar 3) (ar 4) (ar 5) (ar 6) (ar 7) (ar 8) rf rb rl ct ss ps f (zz 16).1.2 (rz_wf hRz) (show 1 ≤ (zz 16).1.2 by have := hRz.1.1.1.1; omega) ya yb) (Cs := [[((ar 0), .inr (7, [.int (rf), .ref (ar 1), .int (nI (ss)), .int (nI (ps.2)), .int (bI (ps.1 = true)), .int (rb), .int (rl), .ref (ar 2), .ref (ar 3), .ref (ar 4), .ref (ar 5), .int (nI (ct)), .ref (ar 6), .ref (ar 7), .ref (ar 8)]))], [((ar 2), .inl (cI, 151, .inl f))]]) rfl ⟨by decide, by decide, show (parseMethodDescriptor yX7_page.desc).map (fun d => d.parameters.length) = some 2 by decide +kernel⟩ rfl g7_page ⟨Nat.le_of_ble_eq_true rfl, Nat.le_of_ble_eq_true rfl⟩ hK [0] rfl hP hD hS [0, 2] (by decide) rfl rfl hl.1 rfl (Nat.le_of_ble_eq_true rfl) dL_law_378 hcs (fun r9 U9 => r9 = (if pgR (zz 16).1.2 ya yb = 0 then pgV f (zz 16).1.2 ya.toNatClampNeg yb.toNatClampNeg else 0) ∧ U9 = [[((ar 0), .inr (7, [.int (pgR (zz 16).1.2 ya yb), .ref (ar 1), .int (nI (ss)), .int (nI (ps.2)), .int (bI (ps.1 = true)), .int (rb), .int (rl), .ref (ar 2), .ref (ar 3), .ref (ar 4), .ref (ar 5), .int (nI (ct)), .ref (ar 6), .ref (ar 7), .ref (ar 8)]))], [((ar 2), .inl (cI, 151, .inl f))]]) (fun r9 u9 h => ?_) (fun r9 U9 h => ?_) (fun r9 U9 H locs hpost hP hD hS => ?_)
    · obtain ⟨e9, rfl⟩ := h
      exact ⟨[[((ar 0), .inr (7, [.int (pgR (zz 16).1.2 ya yb), .ref (ar 1), .int (nI (ss)), .int (nI (ps.2)), .int (bI (ps.1 = true)), .int (rb), .int (rl), .ref (ar 2), .ref (ar 3), .ref (ar 4), .ref (ar 5), .int (nI (ct)), .ref (ar 6), .ref (ar 7), .ref (ar 8)]))], [((ar 2), .inl (cI, 151, .inl f))]], rfl, e9, rfl⟩
    · obtain ⟨-, rfl⟩ := h
      rfl
    obtain ⟨e9, rfl⟩ := hpost
    rw [if_neg hc] at e9
    subst e9
    have hP : va_P D vwCl (bw (rfB cI cZ ar (pgR (zz 16).1.2 ya yb) rb rl ss ps ct t f ft flk fd fkp fik fl (lwB cI cL cZ cJ ad dl sf sg fo t ss q vv nx ct uf zz))) H := by
      try simp only [if_neg hc] at hP
      exact hP
    have hD : va_D A (bw (rfB cI cZ ar (pgR (zz 16).1.2 ya yb) rb rl ss ps ct t f ft flk fd fkp fik fl (lwB cI cL cZ cJ ad dl sf sg fo t ss q vv nx ct uf zz))) := by
      try simp only [if_neg hc] at hD
      exact hD
    refine lv_istore (lv' := [(6, .int (0)), (5, .int (pgR (zz 16).1.2 ya yb)), (0, .ref b), (1, .ref (ad 1)), (2, .ref (ar 0)), (3, .ref (ad 0)), (4, .int (nI (4 * i)))]) hx hb dL_law_381 hl (by decide) rfl (fun ls hl => ?_)
    exact lw_tail hL0 g7_thrown dL_law_383 dL_law_384 dL_law_387 dL_law_389 dL_law_394 dL_law_396 dL_law_399 dL_law_400 dL_law_401 dL_law_402 dL_law_404 dL_law_405 dL_law_406 dL_law_411 (by decide) hP hD hS hR (fun h9 => absurd h9 hc) hl hcs hk
set_option maxHeartbeats 4000000 in
set_option maxRecDepth 100000 in
theorem lc_block : LCS 414 p l e s m below meth c D cI cL cZ cJ ar ad dl sf sg A b L i cells slots xs Q := by
  intro hst hsf hsg hL0 hi hL9 H locs ls hcs hst0 hS hl hk
  obtain ⟨rf, rb, rl, ss, ps, t, f, ft, flk, fd, fkp, fik, fl, fo, q, vv, nx, ct, uf, zz, hP, hD, hR⟩ := hst0
  obtain ⟨hX, hr, hlocks, hK, hN, hE, hSW, hZ, hCN, hXs, hbl, hbA⟩ := id hL0
  obtain ⟨⟨hn, hq, hnx, hct⟩, hRz, hR3, hR4, hB⟩ := id hR
  have hx := hX.1
  have hb := hX.2.1
  have hown := hX.2.2.2.1
  have hts := hX.2.2.2.2
  have hin : ∀ k, k ≤ 3 → vp_in (nI (4 * i) + nI k) L := fun k hk => by rw [nI_add]; exact vp_in_nI (by omega) (by omega)
  obtain ⟨ya, hya⟩ : ∃ y, xs (nI (4 * i) + 1).toNatClampNeg = y := ⟨_, rfl⟩
  obtain ⟨yb, hyb⟩ : ∃ y, xs (nI (4 * i) + 2).toNatClampNeg = y := ⟨_, rfl⟩
  obtain ⟨yc, hyc⟩ : ∃ y, xs (nI (4 * i) + 3).toNatClampNeg = y := ⟨_, rfl⟩
  refine lv_aload_n hx hb dL_law_414 rfl (lv_at hl 1 rfl) ?_
  refine lv_aload_n hx hb dL_law_415 rfl (lv_at hl 0 rfl) ?_
  refine lv_iload hx hb dL_law_416 (lv_at hl 4 rfl) ?_
  refine lv_iconst (v := 1) hx hb dL_law_418 (by decide) ?_
  refine lv_iadd hx hb dL_law_419 ?_
  refine va_sld hx hb hXs hbl hbA hS (hin 1 (by decide)) dL_law_420 ?_
  rw [hya]
  refine lv_aload_n hx hb dL_law_421 rfl (lv_at hl 0 rfl) ?_
  refine lv_iload hx hb dL_law_422 (lv_at hl 4 rfl) ?_
  refine lv_iconst (v := 2) hx hb dL_law_424 (by decide) ?_
  refine lv_iadd hx hb dL_law_425 ?_
  refine va_sld hx hb hXs hbl hbA hS (hin 2 (by decide)) dL_law_426 ?_
  rw [hyb]
  refine lv_aload_n hx hb dL_law_427 rfl (lv_at hl 3 rfl) ?_
  refine lw_help hX (cL_blockH l hst D cI cL cZ cJ ad dl sf sg hsf hsg fo t ss q hn hq vv nx ct hnx hct uf zz hRz.1 hB ya yb) ⟨by decide, by decide, show (parseMethodDescriptor yL_block.desc).map (fun d => d.parameters.length) = some 4 by decide +kernel⟩ rfl gL_block ⟨Nat.le_of_ble_eq_true rfl, Nat.le_of_ble_eq_true rfl⟩ hK hN hE hSW hZ hCN [0, 1, 2, 3] rfl hP hD hS (List.range' 9 27) (by decide) (rf_sub lw_len) hl.1 rfl (Nat.le_of_ble_eq_true rfl) dL_law_428 hcs (fun r u h => ?_) (fun r u H locs hpost hP hD hS => ?_)
  · rcases h with ⟨-, -, rfl⟩ | ⟨-, -, rfl⟩ <;> exact lw_adr
  rw [r_bl hRz] at hpost
  rcases hpost with ⟨hc, rfl, rfl⟩ | ⟨hc, rfl, rfl⟩
  · rw [rf_put lw_len lw_len] at hP hD
    refine lv_istore (lv' := [(5, .int (0)), (0, .ref b), (1, .ref (ad 1)), (2, .ref (ar 0)), (3, .ref (ad 0)), (4, .int (nI (4 * i)))]) hx hb dL_law_431 hl (by decide) rfl (fun ls hl => ?_)
    refine lv_aload_n hx hb dL_law_433 rfl (lv_at hl 3 rfl) ?_
    refine lv_aload_n hx hb dL_law_434 rfl (lv_at hl 1 rfl) ?_
    refine lv_iload hx hb dL_law_435 (lv_at hl 5 rfl) ?_
    refine lv_iconst (v := 1) hx hb dL_law_437 (by decide) ?_
    refine lv_iadd hx hb dL_law_438 ?_
    refine va_sld hx hb hXs hbl hbA hS (hin 1 (by decide)) dL_law_439 ?_
    rw [hya]
    refine lv_aload_n hx hb dL_law_440 rfl (lv_at hl 1 rfl) ?_
    refine lv_iload hx hb dL_law_441 (lv_at hl 5 rfl) ?_
    refine lv_iconst (v := 2) hx hb dL_law_443 (by decide) ?_
    refine lv_iadd hx hb dL_law_444 ?_
    refine va_sld hx hb hXs hbl hbA hS (hin 2 (by decide)) dL_law_445 ?_
    rw [hyb]
    refine lw_refi hX (c7_block l D cI cZ (ar 0) (ar 1) (ar 2) (ar 3) (ar 4) (ar 5) (ar 6) (ar 7) (ar 8) rf rb rl ct ss ps f (zz 16).1.2 (rz_wf hRz) (show 1 ≤ (zz 16).1.2 by have := hRz.1.1.1.1; omega) ya yb) (Cs := [[((ar 0), .inr (7, [.int (rf), .ref (ar 1), .int (nI (ss)), .int (nI (ps.2)), .int (bI (ps.1 = true)), .int (rb), .int (rl), .ref (ar 2), .ref (ar 3), .ref (ar 4), .ref (ar 5), .int (nI (ct)), .ref (ar 6), .ref (ar 7), .ref (ar 8)]))], [((ar 2), .inl (cI, 151, .inl f))]]) rfl ⟨by decide, by decide, show (parseMethodDescriptor yX7_block.desc).map (fun d => d.parameters.length) = some 2 by decide +kernel⟩ rfl g7_block ⟨Nat.le_of_ble_eq_true rfl, Nat.le_of_ble_eq_true rfl⟩ hK [0] rfl hP hD hS [0, 2] (by decide) rfl rfl hl.1 rfl (Nat.le_of_ble_eq_true rfl) dL_law_446 hcs (fun r9 U9 => r9 = (if blR (zz 16).1.2 ya yb = 0 then blV f (zz 16).1.2 ya.toNatClampNeg yb.toNatClampNeg else 0) ∧ U9 = [[((ar 0), .inr (7, [.int (blR (zz 16).1.2 ya yb), .ref (ar 1), .int (nI (ss)), .int (nI (ps.2)), .int (bI (ps.1 = true)), .int (rb), .int (rl), .ref (ar 2), .ref (ar 3), .ref (ar 4), .ref (ar 5), .int (nI (ct)), .ref (ar 6), .ref (ar 7), .ref (ar 8)]))], [((ar 2), .inl (cI, 151, .inl f))]]) (fun r9 u9 h => ?_) (fun r9 U9 h => ?_) (fun r9 U9 H locs hpost hP hD hS => ?_)
    · obtain ⟨e9, rfl⟩ := h
      exact ⟨[[((ar 0), .inr (7, [.int (blR (zz 16).1.2 ya yb), .ref (ar 1), .int (nI (ss)), .int (nI (ps.2)), .int (bI (ps.1 = true)), .int (rb), .int (rl), .ref (ar 2), .ref (ar 3), .ref (ar 4), .ref (ar 5), .int (nI (ct)), .ref (ar 6), .ref (ar 7), .ref (ar 8)]))], [((ar 2), .inl (cI, 151, .inl f))]], rfl, e9, rfl⟩
    · obtain ⟨-, rfl⟩ := h
      rfl
    obtain ⟨e9, rfl⟩ := hpost
    rw [if_pos hc] at e9
    subst e9
    have hP : va_P D vwCl (bw (rfB cI cZ ar 0 rb rl ss ps ct t f ft flk fd fkp fik fl (lwB cI cL cZ cJ ad dl sf sg (vp_updL fo 0 (blZ (zz 16) ya yb.toNatClampNeg : Int32).toInt64) t ss q vv nx ct uf zz))) H := by
      rw [hc] at hP
      exact hP
    have hD : va_D A (bw (rfB cI cZ ar 0 rb rl ss ps ct t f ft flk fd fkp fik fl (lwB cI cL cZ cJ ad dl sf sg (vp_updL fo 0 (blZ (zz 16) ya yb.toNatClampNeg : Int32).toInt64) t ss q vv nx ct uf zz))) := by
      rw [hc] at hD
      exact hD
    refine lv_istore (lv' := [(6, .int (blV f (zz 16).1.2 ya.toNatClampNeg yb.toNatClampNeg)), (5, .int (0)), (0, .ref b), (1, .ref (ad 1)), (2, .ref (ar 0)), (3, .ref (ad 0)), (4, .int (nI (4 * i)))]) hx hb dL_law_449 hl (by decide) rfl (fun ls hl => ?_)
    exact lw_tail hL0 g7_thrown dL_law_451 dL_law_452 dL_law_455 dL_law_457 dL_law_462 dL_law_464 dL_law_467 dL_law_468 dL_law_469 dL_law_470 dL_law_472 dL_law_473 dL_law_474 dL_law_479 (by decide) hP hD hS hR (fun _ => (show vp_updL fo 0 ((blZ (zz 16) ya yb.toNatClampNeg : Int32).toInt64) 0 = (blV f (zz 16).1.2 ya.toNatClampNeg yb.toNatClampNeg : Int32).toInt64 from (if_pos rfl).trans (congrArg Int32.toInt64 (v_block hRz hc)))) hl hcs hk
  · rw [rf_put lw_len lw_len] at hP hD
    refine lv_istore (lv' := [(5, .int (blR (zz 16).1.2 ya yb)), (0, .ref b), (1, .ref (ad 1)), (2, .ref (ar 0)), (3, .ref (ad 0)), (4, .int (nI (4 * i)))]) hx hb dL_law_431 hl (by decide) rfl (fun ls hl => ?_)
    refine lv_aload_n hx hb dL_law_433 rfl (lv_at hl 3 rfl) ?_
    refine lv_aload_n hx hb dL_law_434 rfl (lv_at hl 1 rfl) ?_
    refine lv_iload hx hb dL_law_435 (lv_at hl 5 rfl) ?_
    refine lv_iconst (v := 1) hx hb dL_law_437 (by decide) ?_
    refine lv_iadd hx hb dL_law_438 ?_
    refine va_sld hx hb hXs hbl hbA hS (hin 1 (by decide)) dL_law_439 ?_
    rw [hya]
    refine lv_aload_n hx hb dL_law_440 rfl (lv_at hl 1 rfl) ?_
    refine lv_iload hx hb dL_law_441 (lv_at hl 5 rfl) ?_
    refine lv_iconst (v := 2) hx hb dL_law_443 (by decide) ?_
    refine lv_iadd hx hb dL_law_444 ?_
    refine va_sld hx hb hXs hbl hbA hS (hin 2 (by decide)) dL_law_445 ?_
    rw [hyb]
    refine lw_refi hX (c7_block l D cI cZ (ar 0) (ar 1) (ar 2) (ar 3) (ar 4) (ar 5) (ar 6) (ar 7) (ar 8) rf rb rl ct ss ps f (zz 16).1.2 (rz_wf hRz) (show 1 ≤ (zz 16).1.2 by have := hRz.1.1.1.1; omega) ya yb) (Cs := [[((ar 0), .inr (7, [.int (rf), .ref (ar 1), .int (nI (ss)), .int (nI (ps.2)), .int (bI (ps.1 = true)), .int (rb), .int (rl), .ref (ar 2), .ref (ar 3), .ref (ar 4), .ref (ar 5), .int (nI (ct)), .ref (ar 6), .ref (ar 7), .ref (ar 8)]))], [((ar 2), .inl (cI, 151, .inl f))]]) rfl ⟨by decide, by decide, show (parseMethodDescriptor yX7_block.desc).map (fun d => d.parameters.length) = some 2 by decide +kernel⟩ rfl g7_block ⟨Nat.le_of_ble_eq_true rfl, Nat.le_of_ble_eq_true rfl⟩ hK [0] rfl hP hD hS [0, 2] (by decide) rfl rfl hl.1 rfl (Nat.le_of_ble_eq_true rfl) dL_law_446 hcs (fun r9 U9 => r9 = (if blR (zz 16).1.2 ya yb = 0 then blV f (zz 16).1.2 ya.toNatClampNeg yb.toNatClampNeg else 0) ∧ U9 = [[((ar 0), .inr (7, [.int (blR (zz 16).1.2 ya yb), .ref (ar 1), .int (nI (ss)), .int (nI (ps.2)), .int (bI (ps.1 = true)), .int (rb), .int (rl), .ref (ar 2), .ref (ar 3), .ref (ar 4), .ref (ar 5), .int (nI (ct)), .ref (ar 6), .ref (ar 7), .ref (ar 8)]))], [((ar 2), .inl (cI, 151, .inl f))]]) (fun r9 u9 h => ?_) (fun r9 U9 h => ?_) (fun r9 U9 H locs hpost hP hD hS => ?_)
    · obtain ⟨e9, rfl⟩ := h
      exact ⟨[[((ar 0), .inr (7, [.int (blR (zz 16).1.2 ya yb), .ref (ar 1), .int (nI (ss)), .int (nI (ps.2)), .int (bI (ps.1 = true)), .int (rb), .int (rl), .ref (ar 2), .ref (ar 3), .ref (ar 4), .ref (ar 5), .int (nI (ct)), .ref (ar 6), .ref (ar 7), .ref (ar 8)]))], [((ar 2), .inl (cI, 151, .inl f))]], rfl, e9, rfl⟩
    · obtain ⟨-, rfl⟩ := h
      rfl
    obtain ⟨e9, rfl⟩ := hpost
    rw [if_neg hc] at e9
    subst e9
    have hP : va_P D vwCl (bw (rfB cI cZ ar (blR (zz 16).1.2 ya yb) rb rl ss ps ct t f ft flk fd fkp fik fl (lwB cI cL cZ cJ ad dl sf sg fo t ss q vv nx ct uf zz))) H := by
      try simp only [if_neg hc] at hP
      exact hP
    have hD : va_D A (bw (rfB cI cZ ar (blR (zz 16).1.2 ya yb) rb rl ss ps ct t f ft flk fd fkp fik fl (lwB cI cL cZ cJ ad dl sf sg fo t ss q vv nx ct uf zz))) := by
      try simp only [if_neg hc] at hD
      exact hD
    refine lv_istore (lv' := [(6, .int (0)), (5, .int (blR (zz 16).1.2 ya yb)), (0, .ref b), (1, .ref (ad 1)), (2, .ref (ar 0)), (3, .ref (ad 0)), (4, .int (nI (4 * i)))]) hx hb dL_law_449 hl (by decide) rfl (fun ls hl => ?_)
    exact lw_tail hL0 g7_thrown dL_law_451 dL_law_452 dL_law_455 dL_law_457 dL_law_462 dL_law_464 dL_law_467 dL_law_468 dL_law_469 dL_law_470 dL_law_472 dL_law_473 dL_law_474 dL_law_479 (by decide) hP hD hS hR (fun h9 => absurd h9 hc) hl hcs hk
set_option maxHeartbeats 4000000 in
set_option maxRecDepth 100000 in
theorem lc_get : LCS 482 p l e s m below meth c D cI cL cZ cJ ar ad dl sf sg A b L i cells slots xs Q := by
  intro hst hsf hsg hL0 hi hL9 H locs ls hcs hst0 hS hl hk
  obtain ⟨rf, rb, rl, ss, ps, t, f, ft, flk, fd, fkp, fik, fl, fo, q, vv, nx, ct, uf, zz, hP, hD, hR⟩ := hst0
  obtain ⟨hX, hr, hlocks, hK, hN, hE, hSW, hZ, hCN, hXs, hbl, hbA⟩ := id hL0
  obtain ⟨⟨hn, hq, hnx, hct⟩, hRz, hR3, hR4, hB⟩ := id hR
  have hx := hX.1
  have hb := hX.2.1
  have hown := hX.2.2.2.1
  have hts := hX.2.2.2.2
  have hin : ∀ k, k ≤ 3 → vp_in (nI (4 * i) + nI k) L := fun k hk => by rw [nI_add]; exact vp_in_nI (by omega) (by omega)
  obtain ⟨ya, hya⟩ : ∃ y, xs (nI (4 * i) + 1).toNatClampNeg = y := ⟨_, rfl⟩
  obtain ⟨yb, hyb⟩ : ∃ y, xs (nI (4 * i) + 2).toNatClampNeg = y := ⟨_, rfl⟩
  obtain ⟨yc, hyc⟩ : ∃ y, xs (nI (4 * i) + 3).toNatClampNeg = y := ⟨_, rfl⟩
  refine lv_aload_n hx hb dL_law_482 rfl (lv_at hl 1 rfl) ?_
  refine lv_aload_n hx hb dL_law_483 rfl (lv_at hl 0 rfl) ?_
  refine lv_iload hx hb dL_law_484 (lv_at hl 4 rfl) ?_
  refine lv_iconst (v := 1) hx hb dL_law_486 (by decide) ?_
  refine lv_iadd hx hb dL_law_487 ?_
  refine va_sld hx hb hXs hbl hbA hS (hin 1 (by decide)) dL_law_488 ?_
  rw [hya]
  refine lv_aload_n hx hb dL_law_489 rfl (lv_at hl 3 rfl) ?_
  refine lw_help hX (cL_getH l hst D cI cL cZ cJ ad dl sf sg hsf hsg fo t ss q hn hq vv nx ct hnx hct uf zz hRz.1 hB ya) ⟨by decide, by decide, show (parseMethodDescriptor yL_get.desc).map (fun d => d.parameters.length) = some 3 by decide +kernel⟩ rfl gL_get ⟨Nat.le_of_ble_eq_true rfl, Nat.le_of_ble_eq_true rfl⟩ hK hN hE hSW hZ hCN [0, 1, 2, 3] rfl hP hD hS (List.range' 9 27) (by decide) (rf_sub lw_len) hl.1 rfl (Nat.le_of_ble_eq_true rfl) dL_law_490 hcs (fun r u h => ?_) (fun r u H locs hpost hP hD hS => ?_)
  · rcases h with ⟨-, -, rfl⟩ | ⟨-, -, rfl⟩ <;> exact lw_adr
  rw [r_get hRz] at hpost
  rcases hpost with ⟨hc, rfl, rfl⟩ | ⟨hc, rfl, rfl⟩
  · rw [rf_put lw_len lw_len] at hP hD
    refine lv_istore (lv' := [(5, .int (0)), (0, .ref b), (1, .ref (ad 1)), (2, .ref (ar 0)), (3, .ref (ad 0)), (4, .int (nI (4 * i)))]) hx hb dL_law_493 hl (by decide) rfl (fun ls hl => ?_)
    refine lv_aload_n hx hb dL_law_495 rfl (lv_at hl 3 rfl) ?_
    refine lv_aload_n hx hb dL_law_496 rfl (lv_at hl 1 rfl) ?_
    refine lv_iload hx hb dL_law_497 (lv_at hl 5 rfl) ?_
    refine lv_iconst (v := 1) hx hb dL_law_499 (by decide) ?_
    refine lv_iadd hx hb dL_law_500 ?_
    refine va_sld hx hb hXs hbl hbA hS (hin 1 (by decide)) dL_law_501 ?_
    rw [hya]
    refine lw_refi hX (c7_get l D cI cZ (ar 0) (ar 1) (ar 2) (ar 3) (ar 4) (ar 5) (ar 6) (ar 7) (ar 8) rf rb rl ct ss ps f (zz 16).1.2 (rz_wf hRz) ya) (Cs := [[((ar 0), .inr (7, [.int (rf), .ref (ar 1), .int (nI (ss)), .int (nI (ps.2)), .int (bI (ps.1 = true)), .int (rb), .int (rl), .ref (ar 2), .ref (ar 3), .ref (ar 4), .ref (ar 5), .int (nI (ct)), .ref (ar 6), .ref (ar 7), .ref (ar 8)]))], [((ar 2), .inl (cI, 151, .inl f))]]) rfl ⟨by decide, by decide, show (parseMethodDescriptor yX7_get.desc).map (fun d => d.parameters.length) = some 1 by decide +kernel⟩ rfl g7_get ⟨Nat.le_of_ble_eq_true rfl, Nat.le_of_ble_eq_true rfl⟩ hK [0] rfl hP hD hS [0, 2] (by decide) rfl rfl hl.1 rfl (Nat.le_of_ble_eq_true rfl) dL_law_502 hcs (fun r9 U9 => r9 = (if getR f ya = 0 then vlu f ya (zz 16).1.2 else 0) ∧ U9 = [[((ar 0), .inr (7, [.int (getR f ya), .ref (ar 1), .int (nI (ss)), .int (nI (ps.2)), .int (bI (ps.1 = true)), .int (rb), .int (rl), .ref (ar 2), .ref (ar 3), .ref (ar 4), .ref (ar 5), .int (nI (ct)), .ref (ar 6), .ref (ar 7), .ref (ar 8)]))], [((ar 2), .inl (cI, 151, .inl f))]]) (fun r9 u9 h => ?_) (fun r9 U9 h => ?_) (fun r9 U9 H locs hpost hP hD hS => ?_)
    · obtain ⟨e9, rfl⟩ := h
      exact ⟨[[((ar 0), .inr (7, [.int (getR f ya), .ref (ar 1), .int (nI (ss)), .int (nI (ps.2)), .int (bI (ps.1 = true)), .int (rb), .int (rl), .ref (ar 2), .ref (ar 3), .ref (ar 4), .ref (ar 5), .int (nI (ct)), .ref (ar 6), .ref (ar 7), .ref (ar 8)]))], [((ar 2), .inl (cI, 151, .inl f))]], rfl, e9, rfl⟩
    · obtain ⟨-, rfl⟩ := h
      rfl
    obtain ⟨e9, rfl⟩ := hpost
    rw [if_pos hc] at e9
    subst e9
    have hP : va_P D vwCl (bw (rfB cI cZ ar 0 rb rl ss ps ct t f ft flk fd fkp fik fl (lwB cI cL cZ cJ ad dl sf sg (vp_updL fo 0 (vaZ (zz 16) ya : Int32).toInt64) t ss q vv nx ct uf zz))) H := by
      rw [hc] at hP
      exact hP
    have hD : va_D A (bw (rfB cI cZ ar 0 rb rl ss ps ct t f ft flk fd fkp fik fl (lwB cI cL cZ cJ ad dl sf sg (vp_updL fo 0 (vaZ (zz 16) ya : Int32).toInt64) t ss q vv nx ct uf zz))) := by
      rw [hc] at hD
      exact hD
    refine lv_istore (lv' := [(6, .int (vlu f ya (zz 16).1.2)), (5, .int (0)), (0, .ref b), (1, .ref (ad 1)), (2, .ref (ar 0)), (3, .ref (ad 0)), (4, .int (nI (4 * i)))]) hx hb dL_law_505 hl (by decide) rfl (fun ls hl => ?_)
    exact lw_tail hL0 g7_thrown dL_law_507 dL_law_508 dL_law_511 dL_law_513 dL_law_518 dL_law_520 dL_law_523 dL_law_524 dL_law_525 dL_law_526 dL_law_528 dL_law_529 dL_law_530 dL_law_535 (by decide) hP hD hS hR (fun _ => (show vp_updL fo 0 ((vaZ (zz 16) ya : Int32).toInt64) 0 = (vlu f ya (zz 16).1.2 : Int32).toInt64 from (if_pos rfl).trans (congrArg Int32.toInt64 (v_get hRz hc)))) hl hcs hk
  · rw [rf_put lw_len lw_len] at hP hD
    refine lv_istore (lv' := [(5, .int (getR f ya)), (0, .ref b), (1, .ref (ad 1)), (2, .ref (ar 0)), (3, .ref (ad 0)), (4, .int (nI (4 * i)))]) hx hb dL_law_493 hl (by decide) rfl (fun ls hl => ?_)
    refine lv_aload_n hx hb dL_law_495 rfl (lv_at hl 3 rfl) ?_
    refine lv_aload_n hx hb dL_law_496 rfl (lv_at hl 1 rfl) ?_
    refine lv_iload hx hb dL_law_497 (lv_at hl 5 rfl) ?_
    refine lv_iconst (v := 1) hx hb dL_law_499 (by decide) ?_
    refine lv_iadd hx hb dL_law_500 ?_
    refine va_sld hx hb hXs hbl hbA hS (hin 1 (by decide)) dL_law_501 ?_
    rw [hya]
    refine lw_refi hX (c7_get l D cI cZ (ar 0) (ar 1) (ar 2) (ar 3) (ar 4) (ar 5) (ar 6) (ar 7) (ar 8) rf rb rl ct ss ps f (zz 16).1.2 (rz_wf hRz) ya) (Cs := [[((ar 0), .inr (7, [.int (rf), .ref (ar 1), .int (nI (ss)), .int (nI (ps.2)), .int (bI (ps.1 = true)), .int (rb), .int (rl), .ref (ar 2), .ref (ar 3), .ref (ar 4), .ref (ar 5), .int (nI (ct)), .ref (ar 6), .ref (ar 7), .ref (ar 8)]))], [((ar 2), .inl (cI, 151, .inl f))]]) rfl ⟨by decide, by decide, show (parseMethodDescriptor yX7_get.desc).map (fun d => d.parameters.length) = some 1 by decide +kernel⟩ rfl g7_get ⟨Nat.le_of_ble_eq_true rfl, Nat.le_of_ble_eq_true rfl⟩ hK [0] rfl hP hD hS [0, 2] (by decide) rfl rfl hl.1 rfl (Nat.le_of_ble_eq_true rfl) dL_law_502 hcs (fun r9 U9 => r9 = (if getR f ya = 0 then vlu f ya (zz 16).1.2 else 0) ∧ U9 = [[((ar 0), .inr (7, [.int (getR f ya), .ref (ar 1), .int (nI (ss)), .int (nI (ps.2)), .int (bI (ps.1 = true)), .int (rb), .int (rl), .ref (ar 2), .ref (ar 3), .ref (ar 4), .ref (ar 5), .int (nI (ct)), .ref (ar 6), .ref (ar 7), .ref (ar 8)]))], [((ar 2), .inl (cI, 151, .inl f))]]) (fun r9 u9 h => ?_) (fun r9 U9 h => ?_) (fun r9 U9 H locs hpost hP hD hS => ?_)
    · obtain ⟨e9, rfl⟩ := h
      exact ⟨[[((ar 0), .inr (7, [.int (getR f ya), .ref (ar 1), .int (nI (ss)), .int (nI (ps.2)), .int (bI (ps.1 = true)), .int (rb), .int (rl), .ref (ar 2), .ref (ar 3), .ref (ar 4), .ref (ar 5), .int (nI (ct)), .ref (ar 6), .ref (ar 7), .ref (ar 8)]))], [((ar 2), .inl (cI, 151, .inl f))]], rfl, e9, rfl⟩
    · obtain ⟨-, rfl⟩ := h
      rfl
    obtain ⟨e9, rfl⟩ := hpost
    rw [if_neg hc] at e9
    subst e9
    have hP : va_P D vwCl (bw (rfB cI cZ ar (getR f ya) rb rl ss ps ct t f ft flk fd fkp fik fl (lwB cI cL cZ cJ ad dl sf sg fo t ss q vv nx ct uf zz))) H := by
      try simp only [if_neg hc] at hP
      exact hP
    have hD : va_D A (bw (rfB cI cZ ar (getR f ya) rb rl ss ps ct t f ft flk fd fkp fik fl (lwB cI cL cZ cJ ad dl sf sg fo t ss q vv nx ct uf zz))) := by
      try simp only [if_neg hc] at hD
      exact hD
    refine lv_istore (lv' := [(6, .int (0)), (5, .int (getR f ya)), (0, .ref b), (1, .ref (ad 1)), (2, .ref (ar 0)), (3, .ref (ad 0)), (4, .int (nI (4 * i)))]) hx hb dL_law_505 hl (by decide) rfl (fun ls hl => ?_)
    exact lw_tail hL0 g7_thrown dL_law_507 dL_law_508 dL_law_511 dL_law_513 dL_law_518 dL_law_520 dL_law_523 dL_law_524 dL_law_525 dL_law_526 dL_law_528 dL_law_529 dL_law_530 dL_law_535 (by decide) hP hD hS hR (fun h9 => absurd h9 hc) hl hcs hk
set_option maxHeartbeats 4000000 in
set_option maxRecDepth 100000 in
theorem lc_keyAt : LCS 538 p l e s m below meth c D cI cL cZ cJ ar ad dl sf sg A b L i cells slots xs Q := by
  intro hst hsf hsg hL0 hi hL9 H locs ls hcs hst0 hS hl hk
  obtain ⟨rf, rb, rl, ss, ps, t, f, ft, flk, fd, fkp, fik, fl, fo, q, vv, nx, ct, uf, zz, hP, hD, hR⟩ := hst0
  obtain ⟨hX, hr, hlocks, hK, hN, hE, hSW, hZ, hCN, hXs, hbl, hbA⟩ := id hL0
  obtain ⟨⟨hn, hq, hnx, hct⟩, hRz, hR3, hR4, hB⟩ := id hR
  have hx := hX.1
  have hb := hX.2.1
  have hown := hX.2.2.2.1
  have hts := hX.2.2.2.2
  have hin : ∀ k, k ≤ 3 → vp_in (nI (4 * i) + nI k) L := fun k hk => by rw [nI_add]; exact vp_in_nI (by omega) (by omega)
  obtain ⟨ya, hya⟩ : ∃ y, xs (nI (4 * i) + 1).toNatClampNeg = y := ⟨_, rfl⟩
  obtain ⟨yb, hyb⟩ : ∃ y, xs (nI (4 * i) + 2).toNatClampNeg = y := ⟨_, rfl⟩
  obtain ⟨yc, hyc⟩ : ∃ y, xs (nI (4 * i) + 3).toNatClampNeg = y := ⟨_, rfl⟩
  refine lv_aload_n hx hb dL_law_538 rfl (lv_at hl 1 rfl) ?_
  refine lv_aload_n hx hb dL_law_539 rfl (lv_at hl 0 rfl) ?_
  refine lv_iload hx hb dL_law_540 (lv_at hl 4 rfl) ?_
  refine lv_iconst (v := 1) hx hb dL_law_542 (by decide) ?_
  refine lv_iadd hx hb dL_law_543 ?_
  refine va_sld hx hb hXs hbl hbA hS (hin 1 (by decide)) dL_law_544 ?_
  rw [hya]
  refine lv_aload_n hx hb dL_law_545 rfl (lv_at hl 3 rfl) ?_
  refine lw_help hX (cL_keyAtH l hst D cI cL cZ cJ ad dl sf sg hsf hsg fo t ss q hn hq vv nx ct hnx hct uf zz hRz.1 hB ya) ⟨by decide, by decide, show (parseMethodDescriptor yL_keyAt.desc).map (fun d => d.parameters.length) = some 3 by decide +kernel⟩ rfl gL_keyAt ⟨Nat.le_of_ble_eq_true rfl, Nat.le_of_ble_eq_true rfl⟩ hK hN hE hSW hZ hCN [0, 1, 2, 3] rfl hP hD hS (List.range' 9 27) (by decide) (rf_sub lw_len) hl.1 rfl (Nat.le_of_ble_eq_true rfl) dL_law_546 hcs (fun r u h => ?_) (fun r u H locs hpost hP hD hS => ?_)
  · rcases h with ⟨-, -, rfl⟩ | ⟨-, -, rfl⟩ <;> exact lw_adr
  rw [show c6kat ya = katR ya from rfl] at hpost
  rcases hpost with ⟨hc, rfl, rfl⟩ | ⟨hc, rfl, rfl⟩
  · rw [rf_put lw_len lw_len] at hP hD
    refine lv_istore (lv' := [(5, .int (0)), (0, .ref b), (1, .ref (ad 1)), (2, .ref (ar 0)), (3, .ref (ad 0)), (4, .int (nI (4 * i)))]) hx hb dL_law_549 hl (by decide) rfl (fun ls hl => ?_)
    refine lv_aload_n hx hb dL_law_551 rfl (lv_at hl 3 rfl) ?_
    refine lv_aload_n hx hb dL_law_552 rfl (lv_at hl 1 rfl) ?_
    refine lv_iload hx hb dL_law_553 (lv_at hl 5 rfl) ?_
    refine lv_iconst (v := 1) hx hb dL_law_555 (by decide) ?_
    refine lv_iadd hx hb dL_law_556 ?_
    refine va_sld hx hb hXs hbl hbA hS (hin 1 (by decide)) dL_law_557 ?_
    rw [hya]
    refine lw_refi hX (c7_keyAt l D cI cZ (ar 0) (ar 1) (ar 2) (ar 3) (ar 4) (ar 5) (ar 6) (ar 7) (ar 8) rf rb rl ct ss ps f (zz 16).1.2 (rz_wf hRz) ya) (Cs := [[((ar 0), .inr (7, [.int (rf), .ref (ar 1), .int (nI (ss)), .int (nI (ps.2)), .int (bI (ps.1 = true)), .int (rb), .int (rl), .ref (ar 2), .ref (ar 3), .ref (ar 4), .ref (ar 5), .int (nI (ct)), .ref (ar 6), .ref (ar 7), .ref (ar 8)]))], [((ar 2), .inl (cI, 151, .inl f))]]) rfl ⟨by decide, by decide, show (parseMethodDescriptor yX7_keyAt.desc).map (fun d => d.parameters.length) = some 1 by decide +kernel⟩ rfl g7_keyAt ⟨Nat.le_of_ble_eq_true rfl, Nat.le_of_ble_eq_true rfl⟩ hK [0] rfl hP hD hS [0, 2] (by decide) rfl rfl hl.1 rfl (Nat.le_of_ble_eq_true rfl) dL_law_558 hcs (fun r9 U9 => r9 = (if katR ya = 0 then oI (kat f (zz 16).1.2 ya 16) else 0) ∧ U9 = [[((ar 0), .inr (7, [.int (katR ya), .ref (ar 1), .int (nI (ss)), .int (nI (ps.2)), .int (bI (ps.1 = true)), .int (rb), .int (rl), .ref (ar 2), .ref (ar 3), .ref (ar 4), .ref (ar 5), .int (nI (ct)), .ref (ar 6), .ref (ar 7), .ref (ar 8)]))], [((ar 2), .inl (cI, 151, .inl f))]]) (fun r9 u9 h => ?_) (fun r9 U9 h => ?_) (fun r9 U9 H locs hpost hP hD hS => ?_)
    · obtain ⟨e9, rfl⟩ := h
      exact ⟨[[((ar 0), .inr (7, [.int (katR ya), .ref (ar 1), .int (nI (ss)), .int (nI (ps.2)), .int (bI (ps.1 = true)), .int (rb), .int (rl), .ref (ar 2), .ref (ar 3), .ref (ar 4), .ref (ar 5), .int (nI (ct)), .ref (ar 6), .ref (ar 7), .ref (ar 8)]))], [((ar 2), .inl (cI, 151, .inl f))]], rfl, e9, rfl⟩
    · obtain ⟨-, rfl⟩ := h
      rfl
    obtain ⟨e9, rfl⟩ := hpost
    rw [if_pos hc] at e9
    subst e9
    have hP : va_P D vwCl (bw (rfB cI cZ ar 0 rb rl ss ps ct t f ft flk fd fkp fik fl (lwB cI cL cZ cJ ad dl sf sg (vp_updL fo 0 (oI (kaF (zz 16) ya 16) : Int32).toInt64) t ss q vv nx ct uf zz))) H := by
      rw [hc] at hP
      exact hP
    have hD : va_D A (bw (rfB cI cZ ar 0 rb rl ss ps ct t f ft flk fd fkp fik fl (lwB cI cL cZ cJ ad dl sf sg (vp_updL fo 0 (oI (kaF (zz 16) ya 16) : Int32).toInt64) t ss q vv nx ct uf zz))) := by
      rw [hc] at hD
      exact hD
    refine lv_istore (lv' := [(6, .int (oI (kat f (zz 16).1.2 ya 16))), (5, .int (0)), (0, .ref b), (1, .ref (ad 1)), (2, .ref (ar 0)), (3, .ref (ad 0)), (4, .int (nI (4 * i)))]) hx hb dL_law_561 hl (by decide) rfl (fun ls hl => ?_)
    exact lw_tail hL0 g7_thrown dL_law_563 dL_law_564 dL_law_567 dL_law_569 dL_law_574 dL_law_576 dL_law_579 dL_law_580 dL_law_581 dL_law_582 dL_law_584 dL_law_585 dL_law_586 dL_law_591 (by decide) hP hD hS hR (fun _ => (show vp_updL fo 0 ((oI (kaF (zz 16) ya 16) : Int32).toInt64) 0 = (oI (kat f (zz 16).1.2 ya 16) : Int32).toInt64 from (if_pos rfl).trans (congrArg Int32.toInt64 (v_keyAt hRz)))) hl hcs hk
  · rw [rf_put lw_len lw_len] at hP hD
    refine lv_istore (lv' := [(5, .int (katR ya)), (0, .ref b), (1, .ref (ad 1)), (2, .ref (ar 0)), (3, .ref (ad 0)), (4, .int (nI (4 * i)))]) hx hb dL_law_549 hl (by decide) rfl (fun ls hl => ?_)
    refine lv_aload_n hx hb dL_law_551 rfl (lv_at hl 3 rfl) ?_
    refine lv_aload_n hx hb dL_law_552 rfl (lv_at hl 1 rfl) ?_
    refine lv_iload hx hb dL_law_553 (lv_at hl 5 rfl) ?_
    refine lv_iconst (v := 1) hx hb dL_law_555 (by decide) ?_
    refine lv_iadd hx hb dL_law_556 ?_
    refine va_sld hx hb hXs hbl hbA hS (hin 1 (by decide)) dL_law_557 ?_
    rw [hya]
    refine lw_refi hX (c7_keyAt l D cI cZ (ar 0) (ar 1) (ar 2) (ar 3) (ar 4) (ar 5) (ar 6) (ar 7) (ar 8) rf rb rl ct ss ps f (zz 16).1.2 (rz_wf hRz) ya) (Cs := [[((ar 0), .inr (7, [.int (rf), .ref (ar 1), .int (nI (ss)), .int (nI (ps.2)), .int (bI (ps.1 = true)), .int (rb), .int (rl), .ref (ar 2), .ref (ar 3), .ref (ar 4), .ref (ar 5), .int (nI (ct)), .ref (ar 6), .ref (ar 7), .ref (ar 8)]))], [((ar 2), .inl (cI, 151, .inl f))]]) rfl ⟨by decide, by decide, show (parseMethodDescriptor yX7_keyAt.desc).map (fun d => d.parameters.length) = some 1 by decide +kernel⟩ rfl g7_keyAt ⟨Nat.le_of_ble_eq_true rfl, Nat.le_of_ble_eq_true rfl⟩ hK [0] rfl hP hD hS [0, 2] (by decide) rfl rfl hl.1 rfl (Nat.le_of_ble_eq_true rfl) dL_law_558 hcs (fun r9 U9 => r9 = (if katR ya = 0 then oI (kat f (zz 16).1.2 ya 16) else 0) ∧ U9 = [[((ar 0), .inr (7, [.int (katR ya), .ref (ar 1), .int (nI (ss)), .int (nI (ps.2)), .int (bI (ps.1 = true)), .int (rb), .int (rl), .ref (ar 2), .ref (ar 3), .ref (ar 4), .ref (ar 5), .int (nI (ct)), .ref (ar 6), .ref (ar 7), .ref (ar 8)]))], [((ar 2), .inl (cI, 151, .inl f))]]) (fun r9 u9 h => ?_) (fun r9 U9 h => ?_) (fun r9 U9 H locs hpost hP hD hS => ?_)
    · obtain ⟨e9, rfl⟩ := h
      exact ⟨[[((ar 0), .inr (7, [.int (katR ya), .ref (ar 1), .int (nI (ss)), .int (nI (ps.2)), .int (bI (ps.1 = true)), .int (rb), .int (rl), .ref (ar 2), .ref (ar 3), .ref (ar 4), .ref (ar 5), .int (nI (ct)), .ref (ar 6), .ref (ar 7), .ref (ar 8)]))], [((ar 2), .inl (cI, 151, .inl f))]], rfl, e9, rfl⟩
    · obtain ⟨-, rfl⟩ := h
      rfl
    obtain ⟨e9, rfl⟩ := hpost
    rw [if_neg hc] at e9
    subst e9
    have hP : va_P D vwCl (bw (rfB cI cZ ar (katR ya) rb rl ss ps ct t f ft flk fd fkp fik fl (lwB cI cL cZ cJ ad dl sf sg fo t ss q vv nx ct uf zz))) H := by
      try simp only [if_neg hc] at hP
      exact hP
    have hD : va_D A (bw (rfB cI cZ ar (katR ya) rb rl ss ps ct t f ft flk fd fkp fik fl (lwB cI cL cZ cJ ad dl sf sg fo t ss q vv nx ct uf zz))) := by
      try simp only [if_neg hc] at hD
      exact hD
    refine lv_istore (lv' := [(6, .int (0)), (5, .int (katR ya)), (0, .ref b), (1, .ref (ad 1)), (2, .ref (ar 0)), (3, .ref (ad 0)), (4, .int (nI (4 * i)))]) hx hb dL_law_561 hl (by decide) rfl (fun ls hl => ?_)
    exact lw_tail hL0 g7_thrown dL_law_563 dL_law_564 dL_law_567 dL_law_569 dL_law_574 dL_law_576 dL_law_579 dL_law_580 dL_law_581 dL_law_582 dL_law_584 dL_law_585 dL_law_586 dL_law_591 (by decide) hP hD hS hR (fun h9 => absurd h9 hc) hl hcs hk
set_option maxHeartbeats 4000000 in
set_option maxRecDepth 100000 in
theorem lc_newest : LCS 594 p l e s m below meth c D cI cL cZ cJ ar ad dl sf sg A b L i cells slots xs Q := by
  intro hst hsf hsg hL0 hi hL9 H locs ls hcs hst0 hS hl hk
  obtain ⟨rf, rb, rl, ss, ps, t, f, ft, flk, fd, fkp, fik, fl, fo, q, vv, nx, ct, uf, zz, hP, hD, hR⟩ := hst0
  obtain ⟨hX, hr, hlocks, hK, hN, hE, hSW, hZ, hCN, hXs, hbl, hbA⟩ := id hL0
  obtain ⟨⟨hn, hq, hnx, hct⟩, hRz, hR3, hR4, hB⟩ := id hR
  have hx := hX.1
  have hb := hX.2.1
  have hown := hX.2.2.2.1
  have hts := hX.2.2.2.2
  have hin : ∀ k, k ≤ 3 → vp_in (nI (4 * i) + nI k) L := fun k hk => by rw [nI_add]; exact vp_in_nI (by omega) (by omega)
  obtain ⟨ya, hya⟩ : ∃ y, xs (nI (4 * i) + 1).toNatClampNeg = y := ⟨_, rfl⟩
  obtain ⟨yb, hyb⟩ : ∃ y, xs (nI (4 * i) + 2).toNatClampNeg = y := ⟨_, rfl⟩
  obtain ⟨yc, hyc⟩ : ∃ y, xs (nI (4 * i) + 3).toNatClampNeg = y := ⟨_, rfl⟩
  refine lv_aload_n hx hb dL_law_594 rfl (lv_at hl 1 rfl) ?_
  refine lv_aload_n hx hb dL_law_595 rfl (lv_at hl 0 rfl) ?_
  refine lv_iload hx hb dL_law_596 (lv_at hl 4 rfl) ?_
  refine lv_iconst (v := 1) hx hb dL_law_598 (by decide) ?_
  refine lv_iadd hx hb dL_law_599 ?_
  refine va_sld hx hb hXs hbl hbA hS (hin 1 (by decide)) dL_law_600 ?_
  rw [hya]
  refine lv_aload_n hx hb dL_law_601 rfl (lv_at hl 3 rfl) ?_
  refine lw_help hX (cL_newestH l hst D cI cL cZ cJ ad dl sf sg hsf hsg fo t ss q hn hq vv nx ct hnx hct uf zz hRz.1 hB ya) ⟨by decide, by decide, show (parseMethodDescriptor yL_newest.desc).map (fun d => d.parameters.length) = some 3 by decide +kernel⟩ rfl gL_newest ⟨Nat.le_of_ble_eq_true rfl, Nat.le_of_ble_eq_true rfl⟩ hK hN hE hSW hZ hCN [0, 1, 2, 3] rfl hP hD hS (List.range' 9 27) (by decide) (rf_sub lw_len) hl.1 rfl (Nat.le_of_ble_eq_true rfl) dL_law_602 hcs (fun r u h => ?_) (fun r u H locs hpost hP hD hS => ?_)
  · rcases h with ⟨-, -, rfl⟩ | ⟨-, -, rfl⟩ <;> exact lw_adr
  rw [r_key] at hpost
  rcases hpost with ⟨hc, rfl, rfl⟩ | ⟨hc, rfl, rfl⟩
  · rw [rf_put lw_len lw_len] at hP hD
    refine lv_istore (lv' := [(5, .int (0)), (0, .ref b), (1, .ref (ad 1)), (2, .ref (ar 0)), (3, .ref (ad 0)), (4, .int (nI (4 * i)))]) hx hb dL_law_605 hl (by decide) rfl (fun ls hl => ?_)
    refine lv_aload_n hx hb dL_law_607 rfl (lv_at hl 3 rfl) ?_
    refine lv_aload_n hx hb dL_law_608 rfl (lv_at hl 1 rfl) ?_
    refine lv_iload hx hb dL_law_609 (lv_at hl 5 rfl) ?_
    refine lv_iconst (v := 1) hx hb dL_law_611 (by decide) ?_
    refine lv_iadd hx hb dL_law_612 ?_
    refine va_sld hx hb hXs hbl hbA hS (hin 1 (by decide)) dL_law_613 ?_
    rw [hya]
    refine lw_refi hX (c7_newest l D cI cZ (ar 0) (ar 1) (ar 2) (ar 3) (ar 4) (ar 5) (ar 6) (ar 7) (ar 8) rf rb rl ct ss ps f (zz 16).1.2 (rz_wf hRz) ya) (Cs := [[((ar 0), .inr (7, [.int (rf), .ref (ar 1), .int (nI (ss)), .int (nI (ps.2)), .int (bI (ps.1 = true)), .int (rb), .int (rl), .ref (ar 2), .ref (ar 3), .ref (ar 4), .ref (ar 5), .int (nI (ct)), .ref (ar 6), .ref (ar 7), .ref (ar 8)]))], [((ar 2), .inl (cI, 151, .inl f))]]) rfl ⟨by decide, by decide, show (parseMethodDescriptor yX7_newest.desc).map (fun d => d.parameters.length) = some 1 by decide +kernel⟩ rfl g7_newest ⟨Nat.le_of_ble_eq_true rfl, Nat.le_of_ble_eq_true rfl⟩ hK [0] rfl hP hD hS [0, 2] (by decide) rfl rfl hl.1 rfl (Nat.le_of_ble_eq_true rfl) dL_law_614 hcs (fun r9 U9 => r9 = (if keyR ya = 0 then oI (nwst f ya (4 * (zz 16).1.2)) else 0) ∧ U9 = [[((ar 0), .inr (7, [.int (keyR ya), .ref (ar 1), .int (nI (ss)), .int (nI (ps.2)), .int (bI (ps.1 = true)), .int (rb), .int (rl), .ref (ar 2), .ref (ar 3), .ref (ar 4), .ref (ar 5), .int (nI (ct)), .ref (ar 6), .ref (ar 7), .ref (ar 8)]))], [((ar 2), .inl (cI, 151, .inl f))]]) (fun r9 u9 h => ?_) (fun r9 U9 h => ?_) (fun r9 U9 H locs hpost hP hD hS => ?_)
    · obtain ⟨e9, rfl⟩ := h
      exact ⟨[[((ar 0), .inr (7, [.int (keyR ya), .ref (ar 1), .int (nI (ss)), .int (nI (ps.2)), .int (bI (ps.1 = true)), .int (rb), .int (rl), .ref (ar 2), .ref (ar 3), .ref (ar 4), .ref (ar 5), .int (nI (ct)), .ref (ar 6), .ref (ar 7), .ref (ar 8)]))], [((ar 2), .inl (cI, 151, .inl f))]], rfl, e9, rfl⟩
    · obtain ⟨-, rfl⟩ := h
      rfl
    obtain ⟨e9, rfl⟩ := hpost
    rw [if_pos hc] at e9
    subst e9
    have hP : va_P D vwCl (bw (rfB cI cZ ar 0 rb rl ss ps ct t f ft flk fd fkp fik fl (lwB cI cL cZ cJ ad dl sf sg (vp_updL fo 0 (at_ ((zz 16).2.2 6) 16 (-9) ya : Int32).toInt64) t ss q vv nx ct uf zz))) H := by
      rw [hc] at hP
      exact hP
    have hD : va_D A (bw (rfB cI cZ ar 0 rb rl ss ps ct t f ft flk fd fkp fik fl (lwB cI cL cZ cJ ad dl sf sg (vp_updL fo 0 (at_ ((zz 16).2.2 6) 16 (-9) ya : Int32).toInt64) t ss q vv nx ct uf zz))) := by
      rw [hc] at hD
      exact hD
    refine lv_istore (lv' := [(6, .int (oI (nwst f ya (4 * (zz 16).1.2)))), (5, .int (0)), (0, .ref b), (1, .ref (ad 1)), (2, .ref (ar 0)), (3, .ref (ad 0)), (4, .int (nI (4 * i)))]) hx hb dL_law_617 hl (by decide) rfl (fun ls hl => ?_)
    exact lw_tail hL0 g7_thrown dL_law_619 dL_law_620 dL_law_623 dL_law_625 dL_law_630 dL_law_632 dL_law_635 dL_law_636 dL_law_637 dL_law_638 dL_law_640 dL_law_641 dL_law_642 dL_law_647 (by decide) hP hD hS hR (fun _ => (show vp_updL fo 0 ((at_ ((zz 16).2.2 6) 16 (-9) ya : Int32).toInt64) 0 = (oI (nwst f ya (4 * (zz 16).1.2)) : Int32).toInt64 from (if_pos rfl).trans (congrArg Int32.toInt64 (v_newest hRz hc)))) hl hcs hk
  · rw [rf_put lw_len lw_len] at hP hD
    refine lv_istore (lv' := [(5, .int (keyR ya)), (0, .ref b), (1, .ref (ad 1)), (2, .ref (ar 0)), (3, .ref (ad 0)), (4, .int (nI (4 * i)))]) hx hb dL_law_605 hl (by decide) rfl (fun ls hl => ?_)
    refine lv_aload_n hx hb dL_law_607 rfl (lv_at hl 3 rfl) ?_
    refine lv_aload_n hx hb dL_law_608 rfl (lv_at hl 1 rfl) ?_
    refine lv_iload hx hb dL_law_609 (lv_at hl 5 rfl) ?_
    refine lv_iconst (v := 1) hx hb dL_law_611 (by decide) ?_
    refine lv_iadd hx hb dL_law_612 ?_
    refine va_sld hx hb hXs hbl hbA hS (hin 1 (by decide)) dL_law_613 ?_
    rw [hya]
    refine lw_refi hX (c7_newest l D cI cZ (ar 0) (ar 1) (ar 2) (ar 3) (ar 4) (ar 5) (ar 6) (ar 7) (ar 8) rf rb rl ct ss ps f (zz 16).1.2 (rz_wf hRz) ya) (Cs := [[((ar 0), .inr (7, [.int (rf), .ref (ar 1), .int (nI (ss)), .int (nI (ps.2)), .int (bI (ps.1 = true)), .int (rb), .int (rl), .ref (ar 2), .ref (ar 3), .ref (ar 4), .ref (ar 5), .int (nI (ct)), .ref (ar 6), .ref (ar 7), .ref (ar 8)]))], [((ar 2), .inl (cI, 151, .inl f))]]) rfl ⟨by decide, by decide, show (parseMethodDescriptor yX7_newest.desc).map (fun d => d.parameters.length) = some 1 by decide +kernel⟩ rfl g7_newest ⟨Nat.le_of_ble_eq_true rfl, Nat.le_of_ble_eq_true rfl⟩ hK [0] rfl hP hD hS [0, 2] (by decide) rfl rfl hl.1 rfl (Nat.le_of_ble_eq_true rfl) dL_law_614 hcs (fun r9 U9 => r9 = (if keyR ya = 0 then oI (nwst f ya (4 * (zz 16).1.2)) else 0) ∧ U9 = [[((ar 0), .inr (7, [.int (keyR ya), .ref (ar 1), .int (nI (ss)), .int (nI (ps.2)), .int (bI (ps.1 = true)), .int (rb), .int (rl), .ref (ar 2), .ref (ar 3), .ref (ar 4), .ref (ar 5), .int (nI (ct)), .ref (ar 6), .ref (ar 7), .ref (ar 8)]))], [((ar 2), .inl (cI, 151, .inl f))]]) (fun r9 u9 h => ?_) (fun r9 U9 h => ?_) (fun r9 U9 H locs hpost hP hD hS => ?_)
    · obtain ⟨e9, rfl⟩ := h
      exact ⟨[[((ar 0), .inr (7, [.int (keyR ya), .ref (ar 1), .int (nI (ss)), .int (nI (ps.2)), .int (bI (ps.1 = true)), .int (rb), .int (rl), .ref (ar 2), .ref (ar 3), .ref (ar 4), .ref (ar 5), .int (nI (ct)), .ref (ar 6), .ref (ar 7), .ref (ar 8)]))], [((ar 2), .inl (cI, 151, .inl f))]], rfl, e9, rfl⟩
    · obtain ⟨-, rfl⟩ := h
      rfl
    obtain ⟨e9, rfl⟩ := hpost
    rw [if_neg hc] at e9
    subst e9
    have hP : va_P D vwCl (bw (rfB cI cZ ar (keyR ya) rb rl ss ps ct t f ft flk fd fkp fik fl (lwB cI cL cZ cJ ad dl sf sg fo t ss q vv nx ct uf zz))) H := by
      try simp only [if_neg hc] at hP
      exact hP
    have hD : va_D A (bw (rfB cI cZ ar (keyR ya) rb rl ss ps ct t f ft flk fd fkp fik fl (lwB cI cL cZ cJ ad dl sf sg fo t ss q vv nx ct uf zz))) := by
      try simp only [if_neg hc] at hD
      exact hD
    refine lv_istore (lv' := [(6, .int (0)), (5, .int (keyR ya)), (0, .ref b), (1, .ref (ad 1)), (2, .ref (ar 0)), (3, .ref (ad 0)), (4, .int (nI (4 * i)))]) hx hb dL_law_617 hl (by decide) rfl (fun ls hl => ?_)
    exact lw_tail hL0 g7_thrown dL_law_619 dL_law_620 dL_law_623 dL_law_625 dL_law_630 dL_law_632 dL_law_635 dL_law_636 dL_law_637 dL_law_638 dL_law_640 dL_law_641 dL_law_642 dL_law_647 (by decide) hP hD hS hR (fun h9 => absurd h9 hc) hl hcs hk
set_option maxHeartbeats 4000000 in
set_option maxRecDepth 100000 in
theorem lc_lastCut : LCS 650 p l e s m below meth c D cI cL cZ cJ ar ad dl sf sg A b L i cells slots xs Q := by
  intro hst hsf hsg hL0 hi hL9 H locs ls hcs hst0 hS hl hk
  obtain ⟨rf, rb, rl, ss, ps, t, f, ft, flk, fd, fkp, fik, fl, fo, q, vv, nx, ct, uf, zz, hP, hD, hR⟩ := hst0
  obtain ⟨hX, hr, hlocks, hK, hN, hE, hSW, hZ, hCN, hXs, hbl, hbA⟩ := id hL0
  obtain ⟨⟨hn, hq, hnx, hct⟩, hRz, hR3, hR4, hB⟩ := id hR
  have hx := hX.1
  have hb := hX.2.1
  have hown := hX.2.2.2.1
  have hts := hX.2.2.2.2
  have hin : ∀ k, k ≤ 3 → vp_in (nI (4 * i) + nI k) L := fun k hk => by rw [nI_add]; exact vp_in_nI (by omega) (by omega)
  obtain ⟨ya, hya⟩ : ∃ y, xs (nI (4 * i) + 1).toNatClampNeg = y := ⟨_, rfl⟩
  obtain ⟨yb, hyb⟩ : ∃ y, xs (nI (4 * i) + 2).toNatClampNeg = y := ⟨_, rfl⟩
  obtain ⟨yc, hyc⟩ : ∃ y, xs (nI (4 * i) + 3).toNatClampNeg = y := ⟨_, rfl⟩
  refine lv_aload_n hx hb dL_law_650 rfl (lv_at hl 1 rfl) ?_
  refine lv_aload_n hx hb dL_law_651 rfl (lv_at hl 0 rfl) ?_
  refine lv_iload hx hb dL_law_652 (lv_at hl 4 rfl) ?_
  refine lv_iconst (v := 1) hx hb dL_law_654 (by decide) ?_
  refine lv_iadd hx hb dL_law_655 ?_
  refine va_sld hx hb hXs hbl hbA hS (hin 1 (by decide)) dL_law_656 ?_
  rw [hya]
  refine lv_aload_n hx hb dL_law_657 rfl (lv_at hl 3 rfl) ?_
  refine lw_help hX (cL_lastCutH l hst D cI cL cZ cJ ad dl sf sg hsf hsg fo t ss q hn hq vv nx ct hnx hct uf zz hRz.1 hB ya) ⟨by decide, by decide, show (parseMethodDescriptor yL_lastCut.desc).map (fun d => d.parameters.length) = some 3 by decide +kernel⟩ rfl gL_lastCut ⟨Nat.le_of_ble_eq_true rfl, Nat.le_of_ble_eq_true rfl⟩ hK hN hE hSW hZ hCN [0, 1, 2, 3] rfl hP hD hS (List.range' 9 27) (by decide) (rf_sub lw_len) hl.1 rfl (Nat.le_of_ble_eq_true rfl) dL_law_658 hcs (fun r u h => ?_) (fun r u H locs hpost hP hD hS => ?_)
  · rcases h with ⟨-, -, rfl⟩ | ⟨-, -, rfl⟩ <;> exact lw_adr
  rw [r_r] at hpost
  rcases hpost with ⟨hc, rfl, rfl⟩ | ⟨hc, rfl, rfl⟩
  · rw [rf_put lw_len lw_len] at hP hD
    refine lv_istore (lv' := [(5, .int (0)), (0, .ref b), (1, .ref (ad 1)), (2, .ref (ar 0)), (3, .ref (ad 0)), (4, .int (nI (4 * i)))]) hx hb dL_law_661 hl (by decide) rfl (fun ls hl => ?_)
    refine lv_aload_n hx hb dL_law_663 rfl (lv_at hl 3 rfl) ?_
    refine lv_aload_n hx hb dL_law_664 rfl (lv_at hl 1 rfl) ?_
    refine lv_iload hx hb dL_law_665 (lv_at hl 5 rfl) ?_
    refine lv_iconst (v := 1) hx hb dL_law_667 (by decide) ?_
    refine lv_iadd hx hb dL_law_668 ?_
    refine va_sld hx hb hXs hbl hbA hS (hin 1 (by decide)) dL_law_669 ?_
    rw [hya]
    refine lw_refi hX (c7_lastCut l D cI cZ (ar 0) (ar 1) (ar 2) (ar 3) (ar 4) (ar 5) (ar 6) (ar 7) (ar 8) rf rb rl ct ss ps f (zz 16).1.2 (rz_wf hRz) ya) (Cs := [[((ar 0), .inr (7, [.int (rf), .ref (ar 1), .int (nI (ss)), .int (nI (ps.2)), .int (bI (ps.1 = true)), .int (rb), .int (rl), .ref (ar 2), .ref (ar 3), .ref (ar 4), .ref (ar 5), .int (nI (ct)), .ref (ar 6), .ref (ar 7), .ref (ar 8)]))], [((ar 2), .inl (cI, 151, .inl f))]]) rfl ⟨by decide, by decide, show (parseMethodDescriptor yX7_lastCut.desc).map (fun d => d.parameters.length) = some 1 by decide +kernel⟩ rfl g7_lastCut ⟨Nat.le_of_ble_eq_true rfl, Nat.le_of_ble_eq_true rfl⟩ hK [0] rfl hP hD hS [0, 2] (by decide) rfl rfl hl.1 rfl (Nat.le_of_ble_eq_true rfl) dL_law_670 hcs (fun r9 U9 => r9 = (if rg2R ya 2 = 0 then f (12 + ya.toNatClampNeg) else 0) ∧ U9 = [[((ar 0), .inr (7, [.int (rg2R ya 2), .ref (ar 1), .int (nI (ss)), .int (nI (ps.2)), .int (bI (ps.1 = true)), .int (rb), .int (rl), .ref (ar 2), .ref (ar 3), .ref (ar 4), .ref (ar 5), .int (nI (ct)), .ref (ar 6), .ref (ar 7), .ref (ar 8)]))], [((ar 2), .inl (cI, 151, .inl f))]]) (fun r9 u9 h => ?_) (fun r9 U9 h => ?_) (fun r9 U9 H locs hpost hP hD hS => ?_)
    · obtain ⟨e9, rfl⟩ := h
      exact ⟨[[((ar 0), .inr (7, [.int (rg2R ya 2), .ref (ar 1), .int (nI (ss)), .int (nI (ps.2)), .int (bI (ps.1 = true)), .int (rb), .int (rl), .ref (ar 2), .ref (ar 3), .ref (ar 4), .ref (ar 5), .int (nI (ct)), .ref (ar 6), .ref (ar 7), .ref (ar 8)]))], [((ar 2), .inl (cI, 151, .inl f))]], rfl, e9, rfl⟩
    · obtain ⟨-, rfl⟩ := h
      rfl
    obtain ⟨e9, rfl⟩ := hpost
    rw [if_pos hc] at e9
    subst e9
    have hP : va_P D vwCl (bw (rfB cI cZ ar 0 rb rl ss ps ct t f ft flk fd fkp fik fl (lwB cI cL cZ cJ ad dl sf sg (vp_updL fo 0 (tcF ((zz 16).2.1 10) ((zz 16).2.1 11) ((zz 16).2.1 12) ya.toNatClampNeg : Int32).toInt64) t ss q vv nx ct uf zz))) H := by
      rw [hc] at hP
      exact hP
    have hD : va_D A (bw (rfB cI cZ ar 0 rb rl ss ps ct t f ft flk fd fkp fik fl (lwB cI cL cZ cJ ad dl sf sg (vp_updL fo 0 (tcF ((zz 16).2.1 10) ((zz 16).2.1 11) ((zz 16).2.1 12) ya.toNatClampNeg : Int32).toInt64) t ss q vv nx ct uf zz))) := by
      rw [hc] at hD
      exact hD
    refine lv_istore (lv' := [(6, .int (f (12 + ya.toNatClampNeg))), (5, .int (0)), (0, .ref b), (1, .ref (ad 1)), (2, .ref (ar 0)), (3, .ref (ad 0)), (4, .int (nI (4 * i)))]) hx hb dL_law_673 hl (by decide) rfl (fun ls hl => ?_)
    exact lw_tail hL0 g7_thrown dL_law_675 dL_law_676 dL_law_679 dL_law_681 dL_law_686 dL_law_688 dL_law_691 dL_law_692 dL_law_693 dL_law_694 dL_law_696 dL_law_697 dL_law_698 dL_law_703 (by decide) hP hD hS hR (fun _ => (show vp_updL fo 0 ((tcF ((zz 16).2.1 10) ((zz 16).2.1 11) ((zz 16).2.1 12) ya.toNatClampNeg : Int32).toInt64) 0 = (f (12 + ya.toNatClampNeg) : Int32).toInt64 from (if_pos rfl).trans (congrArg Int32.toInt64 (v_lastCut hRz hc)))) hl hcs hk
  · rw [rf_put lw_len lw_len] at hP hD
    refine lv_istore (lv' := [(5, .int (rg2R ya 2)), (0, .ref b), (1, .ref (ad 1)), (2, .ref (ar 0)), (3, .ref (ad 0)), (4, .int (nI (4 * i)))]) hx hb dL_law_661 hl (by decide) rfl (fun ls hl => ?_)
    refine lv_aload_n hx hb dL_law_663 rfl (lv_at hl 3 rfl) ?_
    refine lv_aload_n hx hb dL_law_664 rfl (lv_at hl 1 rfl) ?_
    refine lv_iload hx hb dL_law_665 (lv_at hl 5 rfl) ?_
    refine lv_iconst (v := 1) hx hb dL_law_667 (by decide) ?_
    refine lv_iadd hx hb dL_law_668 ?_
    refine va_sld hx hb hXs hbl hbA hS (hin 1 (by decide)) dL_law_669 ?_
    rw [hya]
    refine lw_refi hX (c7_lastCut l D cI cZ (ar 0) (ar 1) (ar 2) (ar 3) (ar 4) (ar 5) (ar 6) (ar 7) (ar 8) rf rb rl ct ss ps f (zz 16).1.2 (rz_wf hRz) ya) (Cs := [[((ar 0), .inr (7, [.int (rf), .ref (ar 1), .int (nI (ss)), .int (nI (ps.2)), .int (bI (ps.1 = true)), .int (rb), .int (rl), .ref (ar 2), .ref (ar 3), .ref (ar 4), .ref (ar 5), .int (nI (ct)), .ref (ar 6), .ref (ar 7), .ref (ar 8)]))], [((ar 2), .inl (cI, 151, .inl f))]]) rfl ⟨by decide, by decide, show (parseMethodDescriptor yX7_lastCut.desc).map (fun d => d.parameters.length) = some 1 by decide +kernel⟩ rfl g7_lastCut ⟨Nat.le_of_ble_eq_true rfl, Nat.le_of_ble_eq_true rfl⟩ hK [0] rfl hP hD hS [0, 2] (by decide) rfl rfl hl.1 rfl (Nat.le_of_ble_eq_true rfl) dL_law_670 hcs (fun r9 U9 => r9 = (if rg2R ya 2 = 0 then f (12 + ya.toNatClampNeg) else 0) ∧ U9 = [[((ar 0), .inr (7, [.int (rg2R ya 2), .ref (ar 1), .int (nI (ss)), .int (nI (ps.2)), .int (bI (ps.1 = true)), .int (rb), .int (rl), .ref (ar 2), .ref (ar 3), .ref (ar 4), .ref (ar 5), .int (nI (ct)), .ref (ar 6), .ref (ar 7), .ref (ar 8)]))], [((ar 2), .inl (cI, 151, .inl f))]]) (fun r9 u9 h => ?_) (fun r9 U9 h => ?_) (fun r9 U9 H locs hpost hP hD hS => ?_)
    · obtain ⟨e9, rfl⟩ := h
      exact ⟨[[((ar 0), .inr (7, [.int (rg2R ya 2), .ref (ar 1), .int (nI (ss)), .int (nI (ps.2)), .int (bI (ps.1 = true)), .int (rb), .int (rl), .ref (ar 2), .ref (ar 3), .ref (ar 4), .ref (ar 5), .int (nI (ct)), .ref (ar 6), .ref (ar 7), .ref (ar 8)]))], [((ar 2), .inl (cI, 151, .inl f))]], rfl, e9, rfl⟩
    · obtain ⟨-, rfl⟩ := h
      rfl
    obtain ⟨e9, rfl⟩ := hpost
    rw [if_neg hc] at e9
    subst e9
    have hP : va_P D vwCl (bw (rfB cI cZ ar (rg2R ya 2) rb rl ss ps ct t f ft flk fd fkp fik fl (lwB cI cL cZ cJ ad dl sf sg fo t ss q vv nx ct uf zz))) H := by
      try simp only [if_neg hc] at hP
      exact hP
    have hD : va_D A (bw (rfB cI cZ ar (rg2R ya 2) rb rl ss ps ct t f ft flk fd fkp fik fl (lwB cI cL cZ cJ ad dl sf sg fo t ss q vv nx ct uf zz))) := by
      try simp only [if_neg hc] at hD
      exact hD
    refine lv_istore (lv' := [(6, .int (0)), (5, .int (rg2R ya 2)), (0, .ref b), (1, .ref (ad 1)), (2, .ref (ar 0)), (3, .ref (ad 0)), (4, .int (nI (4 * i)))]) hx hb dL_law_673 hl (by decide) rfl (fun ls hl => ?_)
    exact lw_tail hL0 g7_thrown dL_law_675 dL_law_676 dL_law_679 dL_law_681 dL_law_686 dL_law_688 dL_law_691 dL_law_692 dL_law_693 dL_law_694 dL_law_696 dL_law_697 dL_law_698 dL_law_703 (by decide) hP hD hS hR (fun h9 => absurd h9 hc) hl hcs hk
set_option maxHeartbeats 4000000 in
set_option maxRecDepth 100000 in
theorem lc_put : LCS 706 p l e s m below meth c D cI cL cZ cJ ar ad dl sf sg A b L i cells slots xs Q := by
  intro hst hsf hsg hL0 hi hL9 H locs ls hcs hst0 hS hl hk
  obtain ⟨rf, rb, rl, ss, ps, t, f, ft, flk, fd, fkp, fik, fl, fo, q, vv, nx, ct, uf, zz, hP, hD, hR⟩ := hst0
  obtain ⟨hX, hr, hlocks, hK, hN, hE, hSW, hZ, hCN, hXs, hbl, hbA⟩ := id hL0
  obtain ⟨⟨hn, hq, hnx, hct⟩, hRz, hR3, hR4, hB⟩ := id hR
  have hx := hX.1
  have hb := hX.2.1
  have hown := hX.2.2.2.1
  have hts := hX.2.2.2.2
  have hin : ∀ k, k ≤ 3 → vp_in (nI (4 * i) + nI k) L := fun k hk => by rw [nI_add]; exact vp_in_nI (by omega) (by omega)
  obtain ⟨ya, hya⟩ : ∃ y, xs (nI (4 * i) + 1).toNatClampNeg = y := ⟨_, rfl⟩
  obtain ⟨yb, hyb⟩ : ∃ y, xs (nI (4 * i) + 2).toNatClampNeg = y := ⟨_, rfl⟩
  obtain ⟨yc, hyc⟩ : ∃ y, xs (nI (4 * i) + 3).toNatClampNeg = y := ⟨_, rfl⟩
  refine lv_aload_n hx hb dL_law_706 rfl (lv_at hl 1 rfl) ?_
  refine lv_aload_n hx hb dL_law_707 rfl (lv_at hl 0 rfl) ?_
  refine lv_iload hx hb dL_law_708 (lv_at hl 4 rfl) ?_
  refine lv_iconst (v := 1) hx hb dL_law_710 (by decide) ?_
  refine lv_iadd hx hb dL_law_711 ?_
  refine va_sld hx hb hXs hbl hbA hS (hin 1 (by decide)) dL_law_712 ?_
  rw [hya]
  refine lv_aload_n hx hb dL_law_713 rfl (lv_at hl 0 rfl) ?_
  refine lv_iload hx hb dL_law_714 (lv_at hl 4 rfl) ?_
  refine lv_iconst (v := 2) hx hb dL_law_716 (by decide) ?_
  refine lv_iadd hx hb dL_law_717 ?_
  refine va_sld hx hb hXs hbl hbA hS (hin 2 (by decide)) dL_law_718 ?_
  rw [hyb]
  refine lv_aload_n hx hb dL_law_719 rfl (lv_at hl 3 rfl) ?_
  refine lw_help hX (cL_putH l hst D cI cL cZ cJ ad dl sf sg hsf hsg fo t ss q hn hq vv nx ct hnx hct uf zz hRz.1 hB ya yb) ⟨by decide, by decide, show (parseMethodDescriptor yL_put.desc).map (fun d => d.parameters.length) = some 4 by decide +kernel⟩ rfl gL_put ⟨Nat.le_of_ble_eq_true rfl, Nat.le_of_ble_eq_true rfl⟩ hK hN hE hSW hZ hCN [0, 1, 2, 3] rfl hP hD hS (List.range' 9 27) (by decide) (rf_sub lw_len) hl.1 rfl (Nat.le_of_ble_eq_true rfl) dL_law_720 hcs (fun r u h => ?_) (fun r u H locs hpost hP hD hS => ?_)
  · rcases h with ⟨-, -, zt9, hz0, rfl⟩ | ⟨-, -, zt9, hz0, rfl⟩ <;> exact lw_adr
  rw [r_put hRz] at hpost
  rcases hpost with ⟨hc, rfl, zt9, hz0, rfl⟩ | ⟨hc, rfl, zt9, hz0, rfl⟩
  · rw [rf_put lw_len lw_len] at hP hD
    refine lv_istore (lv' := [(5, .int (0)), (0, .ref b), (1, .ref (ad 1)), (2, .ref (ar 0)), (3, .ref (ad 0)), (4, .int (nI (4 * i)))]) hx hb dL_law_723 hl (by decide) rfl (fun ls hl => ?_)
    refine lv_aload_n hx hb dL_law_725 rfl (lv_at hl 3 rfl) ?_
    refine lv_aload_n hx hb dL_law_726 rfl (lv_at hl 1 rfl) ?_
    refine lv_iload hx hb dL_law_727 (lv_at hl 5 rfl) ?_
    refine lv_iconst (v := 1) hx hb dL_law_729 (by decide) ?_
    refine lv_iadd hx hb dL_law_730 ?_
    refine va_sld hx hb hXs hbl hbA hS (hin 1 (by decide)) dL_law_731 ?_
    rw [hya]
    refine lv_aload_n hx hb dL_law_732 rfl (lv_at hl 1 rfl) ?_
    refine lv_iload hx hb dL_law_733 (lv_at hl 5 rfl) ?_
    refine lv_iconst (v := 2) hx hb dL_law_735 (by decide) ?_
    refine lv_iadd hx hb dL_law_736 ?_
    refine va_sld hx hb hXs hbl hbA hS (hin 2 (by decide)) dL_law_737 ?_
    rw [hyb]
    refine lw_refi hX (c7_put l D cI cZ (ar 0) (ar 1) (ar 2) (ar 3) (ar 4) (ar 5) (ar 6) (ar 7) (ar 8) rf rb rl ct ss ps f (zz 16).1.2 flk fl fd hct (rz_ok hRz) ya yb) (Cs := [[((ar 0), .inr (7, [.int (rf), .ref (ar 1), .int (nI (ss)), .int (nI (ps.2)), .int (bI (ps.1 = true)), .int (rb), .int (rl), .ref (ar 2), .ref (ar 3), .ref (ar 4), .ref (ar 5), .int (nI (ct)), .ref (ar 6), .ref (ar 7), .ref (ar 8)]))], [((ar 2), .inl (cI, 151, .inl f))], [((ar 4), .inl (cI, 151, .inl flk))], [((ar 8), .inl (cI, 4, .inl fl))], [((ar 5), .inl (cI, 2114, .inl fd))]]) rfl ⟨by decide, by decide, show (parseMethodDescriptor yX7_put.desc).map (fun d => d.parameters.length) = some 2 by decide +kernel⟩ rfl g7_put ⟨Nat.le_of_ble_eq_true rfl, Nat.le_of_ble_eq_true rfl⟩ hK [0] rfl hP hD hS [0, 2, 4, 8, 5] (by decide) rfl rfl hl.1 rfl (Nat.le_of_ble_eq_true rfl) dL_law_738 hcs (fun r9 U9 => r9 = (if putR f (zz 16).1.2 ya yb = 0 then (recT (zz 16).1.2 ya yb f).1 else 0) ∧ ∃ fl9 : Nat → Int32, ∃ lk9 : Nat → Int32, U9 = [[((ar 0), .inr (7, [.int (putR f (zz 16).1.2 ya yb), .ref (ar 1), .int (nI (ss)), .int (nI (ps.2)), .int (bI (ps.1 = true)), .int (rb), .int (rl), .ref (ar 2), .ref (ar 3), .ref (ar 4), .ref (ar 5), .int (nI (if putR f (zz 16).1.2 ya yb = 0 then acN ct else ct)), .ref (ar 6), .ref (ar 7), .ref (ar 8)]))], [((ar 2), .inl (cI, 151, .inl (if putR f (zz 16).1.2 ya yb = 0 then (recT (zz 16).1.2 ya yb f).2 else f)))], [((ar 4), .inl (cI, 151, .inl lk9))], [((ar 8), .inl (cI, 4, .inl fl9))], [((ar 5), .inl (cI, 2114, .inl (if putR f (zz 16).1.2 ya yb = 0 then diN fd f ct else fd)))]]) (fun r9 u9 h => ?_) (fun r9 U9 h => ?_) (fun r9 U9 H locs hpost hP hD hS => ?_)
    · obtain ⟨e9, fl9, lk9, rfl⟩ := h
      exact ⟨[[((ar 0), .inr (7, [.int (putR f (zz 16).1.2 ya yb), .ref (ar 1), .int (nI (ss)), .int (nI (ps.2)), .int (bI (ps.1 = true)), .int (rb), .int (rl), .ref (ar 2), .ref (ar 3), .ref (ar 4), .ref (ar 5), .int (nI (if putR f (zz 16).1.2 ya yb = 0 then acN ct else ct)), .ref (ar 6), .ref (ar 7), .ref (ar 8)]))], [((ar 2), .inl (cI, 151, .inl (if putR f (zz 16).1.2 ya yb = 0 then (recT (zz 16).1.2 ya yb f).2 else f)))], [((ar 4), .inl (cI, 151, .inl lk9))], [((ar 8), .inl (cI, 4, .inl fl9))], [((ar 5), .inl (cI, 2114, .inl (if putR f (zz 16).1.2 ya yb = 0 then diN fd f ct else fd)))]], rfl, e9, fl9, lk9, rfl⟩
    · obtain ⟨-, fl9, lk9, rfl⟩ := h
      rfl
    obtain ⟨e9, fl9, lk9, rfl⟩ := hpost
    rw [if_pos hc] at e9
    subst e9
    have hP : va_P D vwCl (bw (rfB cI cZ ar 0 rb rl ss ps (acN ct) t ((recT (zz 16).1.2 ya yb f).2) ft lk9 (diN fd f ct) fkp fik fl9 (lwB cI cL cZ cJ ad dl sf sg (vp_updL fo 0 ((stT ya.toNatClampNeg yb (zz 16)).1 : Int32).toInt64) t ss q vv ((nx + 1) % 14) (acN ct) uf (va_up (va_up (va_up zz 16 ((stT ya.toNatClampNeg yb (zz 16)).2)) 18 zt9) nx (zz 16))))) H := by
      rw [hc] at hP
      rw [acN_if hct] at hP
      exact hP
    have hD : va_D A (bw (rfB cI cZ ar 0 rb rl ss ps (acN ct) t ((recT (zz 16).1.2 ya yb f).2) ft lk9 (diN fd f ct) fkp fik fl9 (lwB cI cL cZ cJ ad dl sf sg (vp_updL fo 0 ((stT ya.toNatClampNeg yb (zz 16)).1 : Int32).toInt64) t ss q vv ((nx + 1) % 14) (acN ct) uf (va_up (va_up (va_up zz 16 ((stT ya.toNatClampNeg yb (zz 16)).2)) 18 zt9) nx (zz 16))))) := by
      rw [hc] at hD
      rw [acN_if hct] at hD
      exact hD
    refine lv_istore (lv' := [(6, .int ((recT (zz 16).1.2 ya yb f).1)), (5, .int (0)), (0, .ref b), (1, .ref (ad 1)), (2, .ref (ar 0)), (3, .ref (ad 0)), (4, .int (nI (4 * i)))]) hx hb dL_law_741 hl (by decide) rfl (fun ls hl => ?_)
    exact lw_tail hL0 g7_thrown dL_law_743 dL_law_744 dL_law_747 dL_law_749 dL_law_754 dL_law_756 dL_law_759 dL_law_760 dL_law_761 dL_law_762 dL_law_764 dL_law_765 dL_law_766 dL_law_771 (by decide) hP hD hS (rel_note hR (v_put hRz hc).2.1 (v_put hRz hc).2.2 (by rw [va_up_ne _ _ (show 16 ≠ nx by omega), va_up_ne _ _ (show 16 ≠ 18 by decide), va_up_self]) (va_up_self _ _ _) (fun j h1 h2 => by rw [va_up_ne _ _ h2, va_up_ne _ _ (show j ≠ 18 by omega), va_up_ne _ _ (show j ≠ 16 by omega)]) (vaB (vaB (vaB hB (by rw [(v_put hRz hc).2.2]; exact hB 16)) hz0) (hB 16))) (fun _ => (show vp_updL fo 0 (((stT ya.toNatClampNeg yb (zz 16)).1 : Int32).toInt64) 0 = ((recT (zz 16).1.2 ya yb f).1 : Int32).toInt64 from (if_pos rfl).trans (congrArg Int32.toInt64 ((v_put hRz hc).1)))) hl hcs hk
  · rw [rf_put lw_len lw_len] at hP hD
    refine lv_istore (lv' := [(5, .int (putR f (zz 16).1.2 ya yb)), (0, .ref b), (1, .ref (ad 1)), (2, .ref (ar 0)), (3, .ref (ad 0)), (4, .int (nI (4 * i)))]) hx hb dL_law_723 hl (by decide) rfl (fun ls hl => ?_)
    refine lv_aload_n hx hb dL_law_725 rfl (lv_at hl 3 rfl) ?_
    refine lv_aload_n hx hb dL_law_726 rfl (lv_at hl 1 rfl) ?_
    refine lv_iload hx hb dL_law_727 (lv_at hl 5 rfl) ?_
    refine lv_iconst (v := 1) hx hb dL_law_729 (by decide) ?_
    refine lv_iadd hx hb dL_law_730 ?_
    refine va_sld hx hb hXs hbl hbA hS (hin 1 (by decide)) dL_law_731 ?_
    rw [hya]
    refine lv_aload_n hx hb dL_law_732 rfl (lv_at hl 1 rfl) ?_
    refine lv_iload hx hb dL_law_733 (lv_at hl 5 rfl) ?_
    refine lv_iconst (v := 2) hx hb dL_law_735 (by decide) ?_
    refine lv_iadd hx hb dL_law_736 ?_
    refine va_sld hx hb hXs hbl hbA hS (hin 2 (by decide)) dL_law_737 ?_
    rw [hyb]
    refine lw_refi hX (c7_put l D cI cZ (ar 0) (ar 1) (ar 2) (ar 3) (ar 4) (ar 5) (ar 6) (ar 7) (ar 8) rf rb rl ct ss ps f (zz 16).1.2 flk fl fd hct (rz_ok hRz) ya yb) (Cs := [[((ar 0), .inr (7, [.int (rf), .ref (ar 1), .int (nI (ss)), .int (nI (ps.2)), .int (bI (ps.1 = true)), .int (rb), .int (rl), .ref (ar 2), .ref (ar 3), .ref (ar 4), .ref (ar 5), .int (nI (ct)), .ref (ar 6), .ref (ar 7), .ref (ar 8)]))], [((ar 2), .inl (cI, 151, .inl f))], [((ar 4), .inl (cI, 151, .inl flk))], [((ar 8), .inl (cI, 4, .inl fl))], [((ar 5), .inl (cI, 2114, .inl fd))]]) rfl ⟨by decide, by decide, show (parseMethodDescriptor yX7_put.desc).map (fun d => d.parameters.length) = some 2 by decide +kernel⟩ rfl g7_put ⟨Nat.le_of_ble_eq_true rfl, Nat.le_of_ble_eq_true rfl⟩ hK [0] rfl hP hD hS [0, 2, 4, 8, 5] (by decide) rfl rfl hl.1 rfl (Nat.le_of_ble_eq_true rfl) dL_law_738 hcs (fun r9 U9 => r9 = (if putR f (zz 16).1.2 ya yb = 0 then (recT (zz 16).1.2 ya yb f).1 else 0) ∧ ∃ fl9 : Nat → Int32, ∃ lk9 : Nat → Int32, U9 = [[((ar 0), .inr (7, [.int (putR f (zz 16).1.2 ya yb), .ref (ar 1), .int (nI (ss)), .int (nI (ps.2)), .int (bI (ps.1 = true)), .int (rb), .int (rl), .ref (ar 2), .ref (ar 3), .ref (ar 4), .ref (ar 5), .int (nI (if putR f (zz 16).1.2 ya yb = 0 then acN ct else ct)), .ref (ar 6), .ref (ar 7), .ref (ar 8)]))], [((ar 2), .inl (cI, 151, .inl (if putR f (zz 16).1.2 ya yb = 0 then (recT (zz 16).1.2 ya yb f).2 else f)))], [((ar 4), .inl (cI, 151, .inl lk9))], [((ar 8), .inl (cI, 4, .inl fl9))], [((ar 5), .inl (cI, 2114, .inl (if putR f (zz 16).1.2 ya yb = 0 then diN fd f ct else fd)))]]) (fun r9 u9 h => ?_) (fun r9 U9 h => ?_) (fun r9 U9 H locs hpost hP hD hS => ?_)
    · obtain ⟨e9, fl9, lk9, rfl⟩ := h
      exact ⟨[[((ar 0), .inr (7, [.int (putR f (zz 16).1.2 ya yb), .ref (ar 1), .int (nI (ss)), .int (nI (ps.2)), .int (bI (ps.1 = true)), .int (rb), .int (rl), .ref (ar 2), .ref (ar 3), .ref (ar 4), .ref (ar 5), .int (nI (if putR f (zz 16).1.2 ya yb = 0 then acN ct else ct)), .ref (ar 6), .ref (ar 7), .ref (ar 8)]))], [((ar 2), .inl (cI, 151, .inl (if putR f (zz 16).1.2 ya yb = 0 then (recT (zz 16).1.2 ya yb f).2 else f)))], [((ar 4), .inl (cI, 151, .inl lk9))], [((ar 8), .inl (cI, 4, .inl fl9))], [((ar 5), .inl (cI, 2114, .inl (if putR f (zz 16).1.2 ya yb = 0 then diN fd f ct else fd)))]], rfl, e9, fl9, lk9, rfl⟩
    · obtain ⟨-, fl9, lk9, rfl⟩ := h
      rfl
    obtain ⟨e9, fl9, lk9, rfl⟩ := hpost
    rw [if_neg hc] at e9
    subst e9
    have hP : va_P D vwCl (bw (rfB cI cZ ar (putR f (zz 16).1.2 ya yb) rb rl ss ps ct t f ft lk9 fd fkp fik fl9 (lwB cI cL cZ cJ ad dl sf sg fo t ss q vv nx ct uf (va_up zz 18 zt9)))) H := by
      try simp only [if_neg hc] at hP
      exact hP
    have hD : va_D A (bw (rfB cI cZ ar (putR f (zz 16).1.2 ya yb) rb rl ss ps ct t f ft lk9 fd fkp fik fl9 (lwB cI cL cZ cJ ad dl sf sg fo t ss q vv nx ct uf (va_up zz 18 zt9)))) := by
      try simp only [if_neg hc] at hD
      exact hD
    refine lv_istore (lv' := [(6, .int (0)), (5, .int (putR f (zz 16).1.2 ya yb)), (0, .ref b), (1, .ref (ad 1)), (2, .ref (ar 0)), (3, .ref (ad 0)), (4, .int (nI (4 * i)))]) hx hb dL_law_741 hl (by decide) rfl (fun ls hl => ?_)
    exact lw_tail hL0 g7_thrown dL_law_743 dL_law_744 dL_law_747 dL_law_749 dL_law_754 dL_law_756 dL_law_759 dL_law_760 dL_law_761 dL_law_762 dL_law_764 dL_law_765 dL_law_766 dL_law_771 (by decide) hP hD hS (rel_keep hR (fun j h1 => by rw [va_up_ne _ _ (show j ≠ 18 by omega)]) (vaB hB hz0) hn hq) (fun h9 => absurd h9 hc) hl hcs hk
set_option maxHeartbeats 4000000 in
set_option maxRecDepth 100000 in
theorem lc_remove : LCS 774 p l e s m below meth c D cI cL cZ cJ ar ad dl sf sg A b L i cells slots xs Q := by
  intro hst hsf hsg hL0 hi hL9 H locs ls hcs hst0 hS hl hk
  obtain ⟨rf, rb, rl, ss, ps, t, f, ft, flk, fd, fkp, fik, fl, fo, q, vv, nx, ct, uf, zz, hP, hD, hR⟩ := hst0
  obtain ⟨hX, hr, hlocks, hK, hN, hE, hSW, hZ, hCN, hXs, hbl, hbA⟩ := id hL0
  obtain ⟨⟨hn, hq, hnx, hct⟩, hRz, hR3, hR4, hB⟩ := id hR
  have hx := hX.1
  have hb := hX.2.1
  have hown := hX.2.2.2.1
  have hts := hX.2.2.2.2
  have hin : ∀ k, k ≤ 3 → vp_in (nI (4 * i) + nI k) L := fun k hk => by rw [nI_add]; exact vp_in_nI (by omega) (by omega)
  obtain ⟨ya, hya⟩ : ∃ y, xs (nI (4 * i) + 1).toNatClampNeg = y := ⟨_, rfl⟩
  obtain ⟨yb, hyb⟩ : ∃ y, xs (nI (4 * i) + 2).toNatClampNeg = y := ⟨_, rfl⟩
  obtain ⟨yc, hyc⟩ : ∃ y, xs (nI (4 * i) + 3).toNatClampNeg = y := ⟨_, rfl⟩
  refine lv_aload_n hx hb dL_law_774 rfl (lv_at hl 1 rfl) ?_
  refine lv_aload_n hx hb dL_law_775 rfl (lv_at hl 0 rfl) ?_
  refine lv_iload hx hb dL_law_776 (lv_at hl 4 rfl) ?_
  refine lv_iconst (v := 1) hx hb dL_law_778 (by decide) ?_
  refine lv_iadd hx hb dL_law_779 ?_
  refine va_sld hx hb hXs hbl hbA hS (hin 1 (by decide)) dL_law_780 ?_
  rw [hya]
  refine lv_aload_n hx hb dL_law_781 rfl (lv_at hl 3 rfl) ?_
  refine lw_help hX (cL_removeH l hst D cI cL cZ cJ ad dl sf sg hsf hsg fo t ss q hn hq vv nx ct hnx hct uf zz hRz.1 hB ya) ⟨by decide, by decide, show (parseMethodDescriptor yL_remove.desc).map (fun d => d.parameters.length) = some 3 by decide +kernel⟩ rfl gL_remove ⟨Nat.le_of_ble_eq_true rfl, Nat.le_of_ble_eq_true rfl⟩ hK hN hE hSW hZ hCN [0, 1, 2, 3] rfl hP hD hS (List.range' 9 27) (by decide) (rf_sub lw_len) hl.1 rfl (Nat.le_of_ble_eq_true rfl) dL_law_782 hcs (fun r u h => ?_) (fun r u H locs hpost hP hD hS => ?_)
  · rcases h with ⟨-, -, zt9, hz0, rfl⟩ | ⟨-, -, zt9, hz0, rfl⟩ <;> exact lw_adr
  rw [r_rem hRz] at hpost
  rcases hpost with ⟨hc, rfl, zt9, hz0, rfl⟩ | ⟨hc, rfl, zt9, hz0, rfl⟩
  · rw [rf_put lw_len lw_len] at hP hD
    refine lv_istore (lv' := [(5, .int (0)), (0, .ref b), (1, .ref (ad 1)), (2, .ref (ar 0)), (3, .ref (ad 0)), (4, .int (nI (4 * i)))]) hx hb dL_law_785 hl (by decide) rfl (fun ls hl => ?_)
    refine lv_aload_n hx hb dL_law_787 rfl (lv_at hl 3 rfl) ?_
    refine lv_aload_n hx hb dL_law_788 rfl (lv_at hl 1 rfl) ?_
    refine lv_iload hx hb dL_law_789 (lv_at hl 5 rfl) ?_
    refine lv_iconst (v := 1) hx hb dL_law_791 (by decide) ?_
    refine lv_iadd hx hb dL_law_792 ?_
    refine va_sld hx hb hXs hbl hbA hS (hin 1 (by decide)) dL_law_793 ?_
    rw [hya]
    refine lw_refi hX (c7_remove l D cI cZ (ar 0) (ar 1) (ar 2) (ar 3) (ar 4) (ar 5) (ar 6) (ar 7) (ar 8) rf rb rl ct ss ps f (zz 16).1.2 flk fl fd hct (rz_ok hRz) ya) (Cs := [[((ar 0), .inr (7, [.int (rf), .ref (ar 1), .int (nI (ss)), .int (nI (ps.2)), .int (bI (ps.1 = true)), .int (rb), .int (rl), .ref (ar 2), .ref (ar 3), .ref (ar 4), .ref (ar 5), .int (nI (ct)), .ref (ar 6), .ref (ar 7), .ref (ar 8)]))], [((ar 2), .inl (cI, 151, .inl f))], [((ar 4), .inl (cI, 151, .inl flk))], [((ar 8), .inl (cI, 4, .inl fl))], [((ar 5), .inl (cI, 2114, .inl fd))]]) rfl ⟨by decide, by decide, show (parseMethodDescriptor yX7_remove.desc).map (fun d => d.parameters.length) = some 1 by decide +kernel⟩ rfl g7_remove ⟨Nat.le_of_ble_eq_true rfl, Nat.le_of_ble_eq_true rfl⟩ hK [0] rfl hP hD hS [0, 2, 4, 8, 5] (by decide) rfl rfl hl.1 rfl (Nat.le_of_ble_eq_true rfl) dL_law_794 hcs (fun r9 U9 => r9 = (if remR f (zz 16).1.2 ya = 0 then (recT (zz 16).1.2 ya (-9) f).1 else 0) ∧ ∃ fl9 : Nat → Int32, ∃ lk9 : Nat → Int32, U9 = [[((ar 0), .inr (7, [.int (remR f (zz 16).1.2 ya), .ref (ar 1), .int (nI (ss)), .int (nI (ps.2)), .int (bI (ps.1 = true)), .int (rb), .int (rl), .ref (ar 2), .ref (ar 3), .ref (ar 4), .ref (ar 5), .int (nI (if remR f (zz 16).1.2 ya = 0 then acN ct else ct)), .ref (ar 6), .ref (ar 7), .ref (ar 8)]))], [((ar 2), .inl (cI, 151, .inl (if remR f (zz 16).1.2 ya = 0 then (recT (zz 16).1.2 ya (-9) f).2 else f)))], [((ar 4), .inl (cI, 151, .inl lk9))], [((ar 8), .inl (cI, 4, .inl fl9))], [((ar 5), .inl (cI, 2114, .inl (if remR f (zz 16).1.2 ya = 0 then diN fd f ct else fd)))]]) (fun r9 u9 h => ?_) (fun r9 U9 h => ?_) (fun r9 U9 H locs hpost hP hD hS => ?_)
    · obtain ⟨e9, fl9, lk9, rfl⟩ := h
      exact ⟨[[((ar 0), .inr (7, [.int (remR f (zz 16).1.2 ya), .ref (ar 1), .int (nI (ss)), .int (nI (ps.2)), .int (bI (ps.1 = true)), .int (rb), .int (rl), .ref (ar 2), .ref (ar 3), .ref (ar 4), .ref (ar 5), .int (nI (if remR f (zz 16).1.2 ya = 0 then acN ct else ct)), .ref (ar 6), .ref (ar 7), .ref (ar 8)]))], [((ar 2), .inl (cI, 151, .inl (if remR f (zz 16).1.2 ya = 0 then (recT (zz 16).1.2 ya (-9) f).2 else f)))], [((ar 4), .inl (cI, 151, .inl lk9))], [((ar 8), .inl (cI, 4, .inl fl9))], [((ar 5), .inl (cI, 2114, .inl (if remR f (zz 16).1.2 ya = 0 then diN fd f ct else fd)))]], rfl, e9, fl9, lk9, rfl⟩
    · obtain ⟨-, fl9, lk9, rfl⟩ := h
      rfl
    obtain ⟨e9, fl9, lk9, rfl⟩ := hpost
    rw [if_pos hc] at e9
    subst e9
    have hP : va_P D vwCl (bw (rfB cI cZ ar 0 rb rl ss ps (acN ct) t ((recT (zz 16).1.2 ya (-9) f).2) ft lk9 (diN fd f ct) fkp fik fl9 (lwB cI cL cZ cJ ad dl sf sg (vp_updL fo 0 ((stT ya.toNatClampNeg (-9) (zz 16)).1 : Int32).toInt64) t ss q vv ((nx + 1) % 14) (acN ct) uf (va_up (va_up (va_up zz 16 ((stT ya.toNatClampNeg (-9) (zz 16)).2)) 18 zt9) nx (zz 16))))) H := by
      rw [hc] at hP
      rw [acN_if hct] at hP
      exact hP
    have hD : va_D A (bw (rfB cI cZ ar 0 rb rl ss ps (acN ct) t ((recT (zz 16).1.2 ya (-9) f).2) ft lk9 (diN fd f ct) fkp fik fl9 (lwB cI cL cZ cJ ad dl sf sg (vp_updL fo 0 ((stT ya.toNatClampNeg (-9) (zz 16)).1 : Int32).toInt64) t ss q vv ((nx + 1) % 14) (acN ct) uf (va_up (va_up (va_up zz 16 ((stT ya.toNatClampNeg (-9) (zz 16)).2)) 18 zt9) nx (zz 16))))) := by
      rw [hc] at hD
      rw [acN_if hct] at hD
      exact hD
    refine lv_istore (lv' := [(6, .int ((recT (zz 16).1.2 ya (-9) f).1)), (5, .int (0)), (0, .ref b), (1, .ref (ad 1)), (2, .ref (ar 0)), (3, .ref (ad 0)), (4, .int (nI (4 * i)))]) hx hb dL_law_797 hl (by decide) rfl (fun ls hl => ?_)
    exact lw_tail hL0 g7_thrown dL_law_799 dL_law_800 dL_law_803 dL_law_805 dL_law_810 dL_law_812 dL_law_815 dL_law_816 dL_law_817 dL_law_818 dL_law_820 dL_law_821 dL_law_822 dL_law_827 (by decide) hP hD hS (rel_note hR (v_remove hRz hc).2.1 (v_remove hRz hc).2.2 (by rw [va_up_ne _ _ (show 16 ≠ nx by omega), va_up_ne _ _ (show 16 ≠ 18 by decide), va_up_self]) (va_up_self _ _ _) (fun j h1 h2 => by rw [va_up_ne _ _ h2, va_up_ne _ _ (show j ≠ 18 by omega), va_up_ne _ _ (show j ≠ 16 by omega)]) (vaB (vaB (vaB hB (by rw [(v_remove hRz hc).2.2]; exact hB 16)) hz0) (hB 16))) (fun _ => (show vp_updL fo 0 (((stT ya.toNatClampNeg (-9) (zz 16)).1 : Int32).toInt64) 0 = ((recT (zz 16).1.2 ya (-9) f).1 : Int32).toInt64 from (if_pos rfl).trans (congrArg Int32.toInt64 ((v_remove hRz hc).1)))) hl hcs hk
  · rw [rf_put lw_len lw_len] at hP hD
    refine lv_istore (lv' := [(5, .int (remR f (zz 16).1.2 ya)), (0, .ref b), (1, .ref (ad 1)), (2, .ref (ar 0)), (3, .ref (ad 0)), (4, .int (nI (4 * i)))]) hx hb dL_law_785 hl (by decide) rfl (fun ls hl => ?_)
    refine lv_aload_n hx hb dL_law_787 rfl (lv_at hl 3 rfl) ?_
    refine lv_aload_n hx hb dL_law_788 rfl (lv_at hl 1 rfl) ?_
    refine lv_iload hx hb dL_law_789 (lv_at hl 5 rfl) ?_
    refine lv_iconst (v := 1) hx hb dL_law_791 (by decide) ?_
    refine lv_iadd hx hb dL_law_792 ?_
    refine va_sld hx hb hXs hbl hbA hS (hin 1 (by decide)) dL_law_793 ?_
    rw [hya]
    refine lw_refi hX (c7_remove l D cI cZ (ar 0) (ar 1) (ar 2) (ar 3) (ar 4) (ar 5) (ar 6) (ar 7) (ar 8) rf rb rl ct ss ps f (zz 16).1.2 flk fl fd hct (rz_ok hRz) ya) (Cs := [[((ar 0), .inr (7, [.int (rf), .ref (ar 1), .int (nI (ss)), .int (nI (ps.2)), .int (bI (ps.1 = true)), .int (rb), .int (rl), .ref (ar 2), .ref (ar 3), .ref (ar 4), .ref (ar 5), .int (nI (ct)), .ref (ar 6), .ref (ar 7), .ref (ar 8)]))], [((ar 2), .inl (cI, 151, .inl f))], [((ar 4), .inl (cI, 151, .inl flk))], [((ar 8), .inl (cI, 4, .inl fl))], [((ar 5), .inl (cI, 2114, .inl fd))]]) rfl ⟨by decide, by decide, show (parseMethodDescriptor yX7_remove.desc).map (fun d => d.parameters.length) = some 1 by decide +kernel⟩ rfl g7_remove ⟨Nat.le_of_ble_eq_true rfl, Nat.le_of_ble_eq_true rfl⟩ hK [0] rfl hP hD hS [0, 2, 4, 8, 5] (by decide) rfl rfl hl.1 rfl (Nat.le_of_ble_eq_true rfl) dL_law_794 hcs (fun r9 U9 => r9 = (if remR f (zz 16).1.2 ya = 0 then (recT (zz 16).1.2 ya (-9) f).1 else 0) ∧ ∃ fl9 : Nat → Int32, ∃ lk9 : Nat → Int32, U9 = [[((ar 0), .inr (7, [.int (remR f (zz 16).1.2 ya), .ref (ar 1), .int (nI (ss)), .int (nI (ps.2)), .int (bI (ps.1 = true)), .int (rb), .int (rl), .ref (ar 2), .ref (ar 3), .ref (ar 4), .ref (ar 5), .int (nI (if remR f (zz 16).1.2 ya = 0 then acN ct else ct)), .ref (ar 6), .ref (ar 7), .ref (ar 8)]))], [((ar 2), .inl (cI, 151, .inl (if remR f (zz 16).1.2 ya = 0 then (recT (zz 16).1.2 ya (-9) f).2 else f)))], [((ar 4), .inl (cI, 151, .inl lk9))], [((ar 8), .inl (cI, 4, .inl fl9))], [((ar 5), .inl (cI, 2114, .inl (if remR f (zz 16).1.2 ya = 0 then diN fd f ct else fd)))]]) (fun r9 u9 h => ?_) (fun r9 U9 h => ?_) (fun r9 U9 H locs hpost hP hD hS => ?_)
    · obtain ⟨e9, fl9, lk9, rfl⟩ := h
      exact ⟨[[((ar 0), .inr (7, [.int (remR f (zz 16).1.2 ya), .ref (ar 1), .int (nI (ss)), .int (nI (ps.2)), .int (bI (ps.1 = true)), .int (rb), .int (rl), .ref (ar 2), .ref (ar 3), .ref (ar 4), .ref (ar 5), .int (nI (if remR f (zz 16).1.2 ya = 0 then acN ct else ct)), .ref (ar 6), .ref (ar 7), .ref (ar 8)]))], [((ar 2), .inl (cI, 151, .inl (if remR f (zz 16).1.2 ya = 0 then (recT (zz 16).1.2 ya (-9) f).2 else f)))], [((ar 4), .inl (cI, 151, .inl lk9))], [((ar 8), .inl (cI, 4, .inl fl9))], [((ar 5), .inl (cI, 2114, .inl (if remR f (zz 16).1.2 ya = 0 then diN fd f ct else fd)))]], rfl, e9, fl9, lk9, rfl⟩
    · obtain ⟨-, fl9, lk9, rfl⟩ := h
      rfl
    obtain ⟨e9, fl9, lk9, rfl⟩ := hpost
    rw [if_neg hc] at e9
    subst e9
    have hP : va_P D vwCl (bw (rfB cI cZ ar (remR f (zz 16).1.2 ya) rb rl ss ps ct t f ft lk9 fd fkp fik fl9 (lwB cI cL cZ cJ ad dl sf sg fo t ss q vv nx ct uf (va_up zz 18 zt9)))) H := by
      try simp only [if_neg hc] at hP
      exact hP
    have hD : va_D A (bw (rfB cI cZ ar (remR f (zz 16).1.2 ya) rb rl ss ps ct t f ft lk9 fd fkp fik fl9 (lwB cI cL cZ cJ ad dl sf sg fo t ss q vv nx ct uf (va_up zz 18 zt9)))) := by
      try simp only [if_neg hc] at hD
      exact hD
    refine lv_istore (lv' := [(6, .int (0)), (5, .int (remR f (zz 16).1.2 ya)), (0, .ref b), (1, .ref (ad 1)), (2, .ref (ar 0)), (3, .ref (ad 0)), (4, .int (nI (4 * i)))]) hx hb dL_law_797 hl (by decide) rfl (fun ls hl => ?_)
    exact lw_tail hL0 g7_thrown dL_law_799 dL_law_800 dL_law_803 dL_law_805 dL_law_810 dL_law_812 dL_law_815 dL_law_816 dL_law_817 dL_law_818 dL_law_820 dL_law_821 dL_law_822 dL_law_827 (by decide) hP hD hS (rel_keep hR (fun j h1 => by rw [va_up_ne _ _ (show j ≠ 18 by omega)]) (vaB hB hz0) hn hq) (fun h9 => absurd h9 hc) hl hcs hk
set_option maxHeartbeats 4000000 in
set_option maxRecDepth 100000 in
theorem lc_sweep : LCS 830 p l e s m below meth c D cI cL cZ cJ ar ad dl sf sg A b L i cells slots xs Q := by
  intro hst hsf hsg hL0 hi hL9 H locs ls hcs hst0 hS hl hk
  obtain ⟨rf, rb, rl, ss, ps, t, f, ft, flk, fd, fkp, fik, fl, fo, q, vv, nx, ct, uf, zz, hP, hD, hR⟩ := hst0
  obtain ⟨hX, hr, hlocks, hK, hN, hE, hSW, hZ, hCN, hXs, hbl, hbA⟩ := id hL0
  obtain ⟨⟨hn, hq, hnx, hct⟩, hRz, hR3, hR4, hB⟩ := id hR
  have hx := hX.1
  have hb := hX.2.1
  have hown := hX.2.2.2.1
  have hts := hX.2.2.2.2
  have hin : ∀ k, k ≤ 3 → vp_in (nI (4 * i) + nI k) L := fun k hk => by rw [nI_add]; exact vp_in_nI (by omega) (by omega)
  obtain ⟨ya, hya⟩ : ∃ y, xs (nI (4 * i) + 1).toNatClampNeg = y := ⟨_, rfl⟩
  obtain ⟨yb, hyb⟩ : ∃ y, xs (nI (4 * i) + 2).toNatClampNeg = y := ⟨_, rfl⟩
  obtain ⟨yc, hyc⟩ : ∃ y, xs (nI (4 * i) + 3).toNatClampNeg = y := ⟨_, rfl⟩
  refine lv_aload_n hx hb dL_law_830 rfl (lv_at hl 1 rfl) ?_
  refine lv_aload_n hx hb dL_law_831 rfl (lv_at hl 3 rfl) ?_
  refine lw_help hX (cL_sweepH l hst D cI cL cZ cJ ad dl sf sg hsf hsg fo t ss q hn hq vv nx ct hnx hct uf zz hRz.1 hB ) ⟨by decide, by decide, show (parseMethodDescriptor yL_sweep.desc).map (fun d => d.parameters.length) = some 2 by decide +kernel⟩ rfl gL_sweep ⟨Nat.le_of_ble_eq_true rfl, Nat.le_of_ble_eq_true rfl⟩ hK hN hE hSW hZ hCN [0, 1, 2, 3] rfl hP hD hS (List.range' 9 27) (by decide) (rf_sub lw_len) hl.1 rfl (Nat.le_of_ble_eq_true rfl) dL_law_832 hcs (fun r u h => ?_) (fun r u H locs hpost hP hD hS => ?_)
  · rcases h with ⟨-, -, rfl⟩ | ⟨-, -, rfl⟩ <;> exact lw_adr
  rw [r_swp hRz] at hpost
  rcases hpost with ⟨hc, rfl, rfl⟩ | ⟨hc, rfl, rfl⟩
  · rw [rf_put lw_len lw_len] at hP hD
    refine lv_istore (lv' := [(5, .int (0)), (0, .ref b), (1, .ref (ad 1)), (2, .ref (ar 0)), (3, .ref (ad 0)), (4, .int (nI (4 * i)))]) hx hb dL_law_835 hl (by decide) rfl (fun ls hl => ?_)
    refine lv_aload_n hx hb dL_law_837 rfl (lv_at hl 3 rfl) ?_
    refine lw_refi hX (c7_sweep l D cI cZ (ar 0) (ar 1) (ar 2) (ar 3) (ar 4) (ar 5) (ar 6) (ar 7) (ar 8) rf rb rl ct ss ps f (zz 16).1.2 flk fl fd hct (rz_ok hRz)) (Cs := [[((ar 0), .inr (7, [.int (rf), .ref (ar 1), .int (nI (ss)), .int (nI (ps.2)), .int (bI (ps.1 = true)), .int (rb), .int (rl), .ref (ar 2), .ref (ar 3), .ref (ar 4), .ref (ar 5), .int (nI (ct)), .ref (ar 6), .ref (ar 7), .ref (ar 8)]))], [((ar 2), .inl (cI, 151, .inl f))], [((ar 4), .inl (cI, 151, .inl flk))], [((ar 8), .inl (cI, 4, .inl fl))], [((ar 5), .inl (cI, 2114, .inl fd))]]) rfl ⟨by decide, by decide, show (parseMethodDescriptor yX7_sweep.desc).map (fun d => d.parameters.length) = some 0 by decide +kernel⟩ rfl g7_sweep ⟨Nat.le_of_ble_eq_true rfl, Nat.le_of_ble_eq_true rfl⟩ hK [0] rfl hP hD hS [0, 2, 4, 8, 5] (by decide) rfl rfl hl.1 rfl (Nat.le_of_ble_eq_true rfl) dL_law_838 hcs (fun r9 U9 => r9 = (if swpR f (zz 16).1.2 = 0 then (swpT f (zz 16).1.2).1 else 0) ∧ ∃ fl9 : Nat → Int32, ∃ lk9 : Nat → Int32, U9 = [[((ar 0), .inr (7, [.int (swpR f (zz 16).1.2), .ref (ar 1), .int (nI (ss)), .int (nI (ps.2)), .int (bI (ps.1 = true)), .int (rb), .int (rl), .ref (ar 2), .ref (ar 3), .ref (ar 4), .ref (ar 5), .int (nI (if swpR f (zz 16).1.2 = 0 then acN ct else ct)), .ref (ar 6), .ref (ar 7), .ref (ar 8)]))], [((ar 2), .inl (cI, 151, .inl (if swpR f (zz 16).1.2 = 0 then (swpT f (zz 16).1.2).2 else f)))], [((ar 4), .inl (cI, 151, .inl lk9))], [((ar 8), .inl (cI, 4, .inl fl9))], [((ar 5), .inl (cI, 2114, .inl (if swpR f (zz 16).1.2 = 0 then diN fd f ct else fd)))]]) (fun r9 u9 h => ?_) (fun r9 U9 h => ?_) (fun r9 U9 H locs hpost hP hD hS => ?_)
    · obtain ⟨e9, fl9, lk9, rfl⟩ := h
      exact ⟨[[((ar 0), .inr (7, [.int (swpR f (zz 16).1.2), .ref (ar 1), .int (nI (ss)), .int (nI (ps.2)), .int (bI (ps.1 = true)), .int (rb), .int (rl), .ref (ar 2), .ref (ar 3), .ref (ar 4), .ref (ar 5), .int (nI (if swpR f (zz 16).1.2 = 0 then acN ct else ct)), .ref (ar 6), .ref (ar 7), .ref (ar 8)]))], [((ar 2), .inl (cI, 151, .inl (if swpR f (zz 16).1.2 = 0 then (swpT f (zz 16).1.2).2 else f)))], [((ar 4), .inl (cI, 151, .inl lk9))], [((ar 8), .inl (cI, 4, .inl fl9))], [((ar 5), .inl (cI, 2114, .inl (if swpR f (zz 16).1.2 = 0 then diN fd f ct else fd)))]], rfl, e9, fl9, lk9, rfl⟩
    · obtain ⟨-, fl9, lk9, rfl⟩ := h
      rfl
    obtain ⟨e9, fl9, lk9, rfl⟩ := hpost
    rw [if_pos hc] at e9
    subst e9
    have hP : va_P D vwCl (bw (rfB cI cZ ar 0 rb rl ss ps (acN ct) t ((swpT f (zz 16).1.2).2) ft lk9 (diN fd f ct) fkp fik fl9 (lwB cI cL cZ cJ ad dl sf sg (vp_updL fo 0 ((sbT (oI (cvZ (zz 16))).toNatClampNeg (zz 16)).1 : Int32).toInt64) t ss q vv ((nx + 1) % 14) (acN ct) uf (va_up (va_up zz 16 ((sbT (oI (cvZ (zz 16))).toNatClampNeg (zz 16)).2)) nx (zz 16))))) H := by
      rw [hc] at hP
      rw [acN_if hct] at hP
      exact hP
    have hD : va_D A (bw (rfB cI cZ ar 0 rb rl ss ps (acN ct) t ((swpT f (zz 16).1.2).2) ft lk9 (diN fd f ct) fkp fik fl9 (lwB cI cL cZ cJ ad dl sf sg (vp_updL fo 0 ((sbT (oI (cvZ (zz 16))).toNatClampNeg (zz 16)).1 : Int32).toInt64) t ss q vv ((nx + 1) % 14) (acN ct) uf (va_up (va_up zz 16 ((sbT (oI (cvZ (zz 16))).toNatClampNeg (zz 16)).2)) nx (zz 16))))) := by
      rw [hc] at hD
      rw [acN_if hct] at hD
      exact hD
    refine lv_istore (lv' := [(6, .int ((swpT f (zz 16).1.2).1)), (5, .int (0)), (0, .ref b), (1, .ref (ad 1)), (2, .ref (ar 0)), (3, .ref (ad 0)), (4, .int (nI (4 * i)))]) hx hb dL_law_841 hl (by decide) rfl (fun ls hl => ?_)
    exact lw_tail hL0 g7_thrown dL_law_843 dL_law_844 dL_law_847 dL_law_849 dL_law_854 dL_law_856 dL_law_859 dL_law_860 dL_law_861 dL_law_862 dL_law_864 dL_law_865 dL_law_866 dL_law_871 (by decide) hP hD hS (rel_note hR (v_sweep hRz hc).2.1 (v_sweep hRz hc).2.2 (by rw [va_up_ne _ _ (show 16 ≠ nx by omega), va_up_self]) (va_up_self _ _ _) (fun j h1 h2 => by rw [va_up_ne _ _ h2, va_up_ne _ _ (show j ≠ 16 by omega)]) (vaB (vaB hB (by rw [(v_sweep hRz hc).2.2]; exact hB 16)) (hB 16))) (fun _ => (show vp_updL fo 0 (((sbT (oI (cvZ (zz 16))).toNatClampNeg (zz 16)).1 : Int32).toInt64) 0 = ((swpT f (zz 16).1.2).1 : Int32).toInt64 from (if_pos rfl).trans (congrArg Int32.toInt64 ((v_sweep hRz hc).1)))) hl hcs hk
  · rw [rf_put lw_len lw_len] at hP hD
    refine lv_istore (lv' := [(5, .int (swpR f (zz 16).1.2)), (0, .ref b), (1, .ref (ad 1)), (2, .ref (ar 0)), (3, .ref (ad 0)), (4, .int (nI (4 * i)))]) hx hb dL_law_835 hl (by decide) rfl (fun ls hl => ?_)
    refine lv_aload_n hx hb dL_law_837 rfl (lv_at hl 3 rfl) ?_
    refine lw_refi hX (c7_sweep l D cI cZ (ar 0) (ar 1) (ar 2) (ar 3) (ar 4) (ar 5) (ar 6) (ar 7) (ar 8) rf rb rl ct ss ps f (zz 16).1.2 flk fl fd hct (rz_ok hRz)) (Cs := [[((ar 0), .inr (7, [.int (rf), .ref (ar 1), .int (nI (ss)), .int (nI (ps.2)), .int (bI (ps.1 = true)), .int (rb), .int (rl), .ref (ar 2), .ref (ar 3), .ref (ar 4), .ref (ar 5), .int (nI (ct)), .ref (ar 6), .ref (ar 7), .ref (ar 8)]))], [((ar 2), .inl (cI, 151, .inl f))], [((ar 4), .inl (cI, 151, .inl flk))], [((ar 8), .inl (cI, 4, .inl fl))], [((ar 5), .inl (cI, 2114, .inl fd))]]) rfl ⟨by decide, by decide, show (parseMethodDescriptor yX7_sweep.desc).map (fun d => d.parameters.length) = some 0 by decide +kernel⟩ rfl g7_sweep ⟨Nat.le_of_ble_eq_true rfl, Nat.le_of_ble_eq_true rfl⟩ hK [0] rfl hP hD hS [0, 2, 4, 8, 5] (by decide) rfl rfl hl.1 rfl (Nat.le_of_ble_eq_true rfl) dL_law_838 hcs (fun r9 U9 => r9 = (if swpR f (zz 16).1.2 = 0 then (swpT f (zz 16).1.2).1 else 0) ∧ ∃ fl9 : Nat → Int32, ∃ lk9 : Nat → Int32, U9 = [[((ar 0), .inr (7, [.int (swpR f (zz 16).1.2), .ref (ar 1), .int (nI (ss)), .int (nI (ps.2)), .int (bI (ps.1 = true)), .int (rb), .int (rl), .ref (ar 2), .ref (ar 3), .ref (ar 4), .ref (ar 5), .int (nI (if swpR f (zz 16).1.2 = 0 then acN ct else ct)), .ref (ar 6), .ref (ar 7), .ref (ar 8)]))], [((ar 2), .inl (cI, 151, .inl (if swpR f (zz 16).1.2 = 0 then (swpT f (zz 16).1.2).2 else f)))], [((ar 4), .inl (cI, 151, .inl lk9))], [((ar 8), .inl (cI, 4, .inl fl9))], [((ar 5), .inl (cI, 2114, .inl (if swpR f (zz 16).1.2 = 0 then diN fd f ct else fd)))]]) (fun r9 u9 h => ?_) (fun r9 U9 h => ?_) (fun r9 U9 H locs hpost hP hD hS => ?_)
    · obtain ⟨e9, fl9, lk9, rfl⟩ := h
      exact ⟨[[((ar 0), .inr (7, [.int (swpR f (zz 16).1.2), .ref (ar 1), .int (nI (ss)), .int (nI (ps.2)), .int (bI (ps.1 = true)), .int (rb), .int (rl), .ref (ar 2), .ref (ar 3), .ref (ar 4), .ref (ar 5), .int (nI (if swpR f (zz 16).1.2 = 0 then acN ct else ct)), .ref (ar 6), .ref (ar 7), .ref (ar 8)]))], [((ar 2), .inl (cI, 151, .inl (if swpR f (zz 16).1.2 = 0 then (swpT f (zz 16).1.2).2 else f)))], [((ar 4), .inl (cI, 151, .inl lk9))], [((ar 8), .inl (cI, 4, .inl fl9))], [((ar 5), .inl (cI, 2114, .inl (if swpR f (zz 16).1.2 = 0 then diN fd f ct else fd)))]], rfl, e9, fl9, lk9, rfl⟩
    · obtain ⟨-, fl9, lk9, rfl⟩ := h
      rfl
    obtain ⟨e9, fl9, lk9, rfl⟩ := hpost
    rw [if_neg hc] at e9
    subst e9
    have hP : va_P D vwCl (bw (rfB cI cZ ar (swpR f (zz 16).1.2) rb rl ss ps ct t f ft lk9 fd fkp fik fl9 (lwB cI cL cZ cJ ad dl sf sg fo t ss q vv nx ct uf zz))) H := by
      try simp only [if_neg hc] at hP
      exact hP
    have hD : va_D A (bw (rfB cI cZ ar (swpR f (zz 16).1.2) rb rl ss ps ct t f ft lk9 fd fkp fik fl9 (lwB cI cL cZ cJ ad dl sf sg fo t ss q vv nx ct uf zz))) := by
      try simp only [if_neg hc] at hD
      exact hD
    refine lv_istore (lv' := [(6, .int (0)), (5, .int (swpR f (zz 16).1.2)), (0, .ref b), (1, .ref (ad 1)), (2, .ref (ar 0)), (3, .ref (ad 0)), (4, .int (nI (4 * i)))]) hx hb dL_law_841 hl (by decide) rfl (fun ls hl => ?_)
    exact lw_tail hL0 g7_thrown dL_law_843 dL_law_844 dL_law_847 dL_law_849 dL_law_854 dL_law_856 dL_law_859 dL_law_860 dL_law_861 dL_law_862 dL_law_864 dL_law_865 dL_law_866 dL_law_871 (by decide) hP hD hS hR (fun h9 => absurd h9 hc) hl hcs hk
set_option maxHeartbeats 4000000 in
set_option maxRecDepth 100000 in
theorem lc_cut : LCS 874 p l e s m below meth c D cI cL cZ cJ ar ad dl sf sg A b L i cells slots xs Q := by
  intro hst hsf hsg hL0 hi hL9 H locs ls hcs hst0 hS hl hk
  obtain ⟨rf, rb, rl, ss, ps, t, f, ft, flk, fd, fkp, fik, fl, fo, q, vv, nx, ct, uf, zz, hP, hD, hR⟩ := hst0
  obtain ⟨hX, hr, hlocks, hK, hN, hE, hSW, hZ, hCN, hXs, hbl, hbA⟩ := id hL0
  obtain ⟨⟨hn, hq, hnx, hct⟩, hRz, hR3, hR4, hB⟩ := id hR
  have hx := hX.1
  have hb := hX.2.1
  have hown := hX.2.2.2.1
  have hts := hX.2.2.2.2
  have hin : ∀ k, k ≤ 3 → vp_in (nI (4 * i) + nI k) L := fun k hk => by rw [nI_add]; exact vp_in_nI (by omega) (by omega)
  obtain ⟨ya, hya⟩ : ∃ y, xs (nI (4 * i) + 1).toNatClampNeg = y := ⟨_, rfl⟩
  obtain ⟨yb, hyb⟩ : ∃ y, xs (nI (4 * i) + 2).toNatClampNeg = y := ⟨_, rfl⟩
  obtain ⟨yc, hyc⟩ : ∃ y, xs (nI (4 * i) + 3).toNatClampNeg = y := ⟨_, rfl⟩
  refine lv_aload_n hx hb dL_law_874 rfl (lv_at hl 1 rfl) ?_
  refine lv_aload_n hx hb dL_law_875 rfl (lv_at hl 0 rfl) ?_
  refine lv_iload hx hb dL_law_876 (lv_at hl 4 rfl) ?_
  refine lv_iconst (v := 1) hx hb dL_law_878 (by decide) ?_
  refine lv_iadd hx hb dL_law_879 ?_
  refine va_sld hx hb hXs hbl hbA hS (hin 1 (by decide)) dL_law_880 ?_
  rw [hya]
  refine lv_aload_n hx hb dL_law_881 rfl (lv_at hl 3 rfl) ?_
  refine lw_help hX (cL_cutH l hst D cI cL cZ cJ ad dl sf sg hsf hsg fo t ss q hn hq vv nx ct hnx hct uf zz hRz.1 hB ya) ⟨by decide, by decide, show (parseMethodDescriptor yL_cut.desc).map (fun d => d.parameters.length) = some 3 by decide +kernel⟩ rfl gL_cut ⟨Nat.le_of_ble_eq_true rfl, Nat.le_of_ble_eq_true rfl⟩ hK hN hE hSW hZ hCN [0, 1, 2, 3] rfl hP hD hS (List.range' 9 27) (by decide) (rf_sub lw_len) hl.1 rfl (Nat.le_of_ble_eq_true rfl) dL_law_882 hcs (fun r u h => ?_) (fun r u H locs hpost hP hD hS => ?_)
  · rcases h with ⟨-, -, rfl⟩ | ⟨-, -, rfl⟩ <;> exact lw_adr
  rw [r_cut hRz] at hpost
  rcases hpost with ⟨hc, rfl, rfl⟩ | ⟨hc, rfl, rfl⟩
  · rw [rf_put lw_len lw_len] at hP hD
    refine lv_istore (lv' := [(5, .int (0)), (0, .ref b), (1, .ref (ad 1)), (2, .ref (ar 0)), (3, .ref (ad 0)), (4, .int (nI (4 * i)))]) hx hb dL_law_885 hl (by decide) rfl (fun ls hl => ?_)
    refine lv_aload_n hx hb dL_law_887 rfl (lv_at hl 3 rfl) ?_
    refine lv_aload_n hx hb dL_law_888 rfl (lv_at hl 1 rfl) ?_
    refine lv_iload hx hb dL_law_889 (lv_at hl 5 rfl) ?_
    refine lv_iconst (v := 1) hx hb dL_law_891 (by decide) ?_
    refine lv_iadd hx hb dL_law_892 ?_
    refine va_sld hx hb hXs hbl hbA hS (hin 1 (by decide)) dL_law_893 ?_
    rw [hya]
    refine lw_refi hX (c7_cut l D cI cZ (ar 0) (ar 1) (ar 2) (ar 3) (ar 4) (ar 5) (ar 6) (ar 7) (ar 8) rf rb rl ct ss ps f (zz 16).1.2 flk fl fd hct (rz_ok hRz) ya) (Cs := [[((ar 0), .inr (7, [.int (rf), .ref (ar 1), .int (nI (ss)), .int (nI (ps.2)), .int (bI (ps.1 = true)), .int (rb), .int (rl), .ref (ar 2), .ref (ar 3), .ref (ar 4), .ref (ar 5), .int (nI (ct)), .ref (ar 6), .ref (ar 7), .ref (ar 8)]))], [((ar 2), .inl (cI, 151, .inl f))], [((ar 4), .inl (cI, 151, .inl flk))], [((ar 8), .inl (cI, 4, .inl fl))], [((ar 5), .inl (cI, 2114, .inl fd))]]) rfl ⟨by decide, by decide, show (parseMethodDescriptor yX7_cut.desc).map (fun d => d.parameters.length) = some 1 by decide +kernel⟩ rfl g7_cut ⟨Nat.le_of_ble_eq_true rfl, Nat.le_of_ble_eq_true rfl⟩ hK [0] rfl hP hD hS [0, 2, 4, 8, 5] (by decide) rfl rfl hl.1 rfl (Nat.le_of_ble_eq_true rfl) dL_law_894 hcs (fun r9 U9 => r9 = (if cutRf f ya = 0 then f 5 else 0) ∧ ∃ fl9 : Nat → Int32, ∃ lk9 : Nat → Int32, U9 = [[((ar 0), .inr (7, [.int (cutRf f ya), .ref (ar 1), .int (nI (ss)), .int (nI (ps.2)), .int (bI (ps.1 = true)), .int (rb), .int (rl), .ref (ar 2), .ref (ar 3), .ref (ar 4), .ref (ar 5), .int (nI (if cutRf f ya = 0 then acN ct else ct)), .ref (ar 6), .ref (ar 7), .ref (ar 8)]))], [((ar 2), .inl (cI, 151, .inl (if cutRf f ya = 0 then upd f 5 ya else f)))], [((ar 4), .inl (cI, 151, .inl lk9))], [((ar 8), .inl (cI, 4, .inl fl9))], [((ar 5), .inl (cI, 2114, .inl (if cutRf f ya = 0 then diN fd f ct else fd)))]]) (fun r9 u9 h => ?_) (fun r9 U9 h => ?_) (fun r9 U9 H locs hpost hP hD hS => ?_)
    · obtain ⟨e9, fl9, lk9, rfl⟩ := h
      exact ⟨[[((ar 0), .inr (7, [.int (cutRf f ya), .ref (ar 1), .int (nI (ss)), .int (nI (ps.2)), .int (bI (ps.1 = true)), .int (rb), .int (rl), .ref (ar 2), .ref (ar 3), .ref (ar 4), .ref (ar 5), .int (nI (if cutRf f ya = 0 then acN ct else ct)), .ref (ar 6), .ref (ar 7), .ref (ar 8)]))], [((ar 2), .inl (cI, 151, .inl (if cutRf f ya = 0 then upd f 5 ya else f)))], [((ar 4), .inl (cI, 151, .inl lk9))], [((ar 8), .inl (cI, 4, .inl fl9))], [((ar 5), .inl (cI, 2114, .inl (if cutRf f ya = 0 then diN fd f ct else fd)))]], rfl, e9, fl9, lk9, rfl⟩
    · obtain ⟨-, fl9, lk9, rfl⟩ := h
      rfl
    obtain ⟨e9, fl9, lk9, rfl⟩ := hpost
    rw [if_pos hc] at e9
    subst e9
    have hP : va_P D vwCl (bw (rfB cI cZ ar 0 rb rl ss ps (acN ct) t (upd f 5 ya) ft lk9 (diN fd f ct) fkp fik fl9 (lwB cI cL cZ cJ ad dl sf sg (vp_updL fo 0 ((zz 16).2.1 1 : Int32).toInt64) t ss q vv ((nx + 1) % 14) (acN ct) uf (va_up (va_up zz 16 (zC (zz 16) ya)) nx (zz 16))))) H := by
      rw [hc] at hP
      rw [acN_if hct] at hP
      exact hP
    have hD : va_D A (bw (rfB cI cZ ar 0 rb rl ss ps (acN ct) t (upd f 5 ya) ft lk9 (diN fd f ct) fkp fik fl9 (lwB cI cL cZ cJ ad dl sf sg (vp_updL fo 0 ((zz 16).2.1 1 : Int32).toInt64) t ss q vv ((nx + 1) % 14) (acN ct) uf (va_up (va_up zz 16 (zC (zz 16) ya)) nx (zz 16))))) := by
      rw [hc] at hD
      rw [acN_if hct] at hD
      exact hD
    refine lv_istore (lv' := [(6, .int (f 5)), (5, .int (0)), (0, .ref b), (1, .ref (ad 1)), (2, .ref (ar 0)), (3, .ref (ad 0)), (4, .int (nI (4 * i)))]) hx hb dL_law_897 hl (by decide) rfl (fun ls hl => ?_)
    exact lw_tail hL0 g7_thrown dL_law_899 dL_law_900 dL_law_903 dL_law_905 dL_law_910 dL_law_912 dL_law_915 dL_law_916 dL_law_917 dL_law_918 dL_law_920 dL_law_921 dL_law_922 dL_law_927 (by decide) hP hD hS (rel_note hR (v_cut hRz hc).2 rfl (by rw [va_up_ne _ _ (show 16 ≠ nx by omega), va_up_self]) (va_up_self _ _ _) (fun j h1 h2 => by rw [va_up_ne _ _ h2, va_up_ne _ _ (show j ≠ 16 by omega)]) (vaB (vaB hB (hB 16)) (hB 16))) (fun _ => (show vp_updL fo 0 (((zz 16).2.1 1 : Int32).toInt64) 0 = (f 5 : Int32).toInt64 from (if_pos rfl).trans (congrArg Int32.toInt64 ((v_cut hRz hc).1)))) hl hcs hk
  · rw [rf_put lw_len lw_len] at hP hD
    refine lv_istore (lv' := [(5, .int (cutRf f ya)), (0, .ref b), (1, .ref (ad 1)), (2, .ref (ar 0)), (3, .ref (ad 0)), (4, .int (nI (4 * i)))]) hx hb dL_law_885 hl (by decide) rfl (fun ls hl => ?_)
    refine lv_aload_n hx hb dL_law_887 rfl (lv_at hl 3 rfl) ?_
    refine lv_aload_n hx hb dL_law_888 rfl (lv_at hl 1 rfl) ?_
    refine lv_iload hx hb dL_law_889 (lv_at hl 5 rfl) ?_
    refine lv_iconst (v := 1) hx hb dL_law_891 (by decide) ?_
    refine lv_iadd hx hb dL_law_892 ?_
    refine va_sld hx hb hXs hbl hbA hS (hin 1 (by decide)) dL_law_893 ?_
    rw [hya]
    refine lw_refi hX (c7_cut l D cI cZ (ar 0) (ar 1) (ar 2) (ar 3) (ar 4) (ar 5) (ar 6) (ar 7) (ar 8) rf rb rl ct ss ps f (zz 16).1.2 flk fl fd hct (rz_ok hRz) ya) (Cs := [[((ar 0), .inr (7, [.int (rf), .ref (ar 1), .int (nI (ss)), .int (nI (ps.2)), .int (bI (ps.1 = true)), .int (rb), .int (rl), .ref (ar 2), .ref (ar 3), .ref (ar 4), .ref (ar 5), .int (nI (ct)), .ref (ar 6), .ref (ar 7), .ref (ar 8)]))], [((ar 2), .inl (cI, 151, .inl f))], [((ar 4), .inl (cI, 151, .inl flk))], [((ar 8), .inl (cI, 4, .inl fl))], [((ar 5), .inl (cI, 2114, .inl fd))]]) rfl ⟨by decide, by decide, show (parseMethodDescriptor yX7_cut.desc).map (fun d => d.parameters.length) = some 1 by decide +kernel⟩ rfl g7_cut ⟨Nat.le_of_ble_eq_true rfl, Nat.le_of_ble_eq_true rfl⟩ hK [0] rfl hP hD hS [0, 2, 4, 8, 5] (by decide) rfl rfl hl.1 rfl (Nat.le_of_ble_eq_true rfl) dL_law_894 hcs (fun r9 U9 => r9 = (if cutRf f ya = 0 then f 5 else 0) ∧ ∃ fl9 : Nat → Int32, ∃ lk9 : Nat → Int32, U9 = [[((ar 0), .inr (7, [.int (cutRf f ya), .ref (ar 1), .int (nI (ss)), .int (nI (ps.2)), .int (bI (ps.1 = true)), .int (rb), .int (rl), .ref (ar 2), .ref (ar 3), .ref (ar 4), .ref (ar 5), .int (nI (if cutRf f ya = 0 then acN ct else ct)), .ref (ar 6), .ref (ar 7), .ref (ar 8)]))], [((ar 2), .inl (cI, 151, .inl (if cutRf f ya = 0 then upd f 5 ya else f)))], [((ar 4), .inl (cI, 151, .inl lk9))], [((ar 8), .inl (cI, 4, .inl fl9))], [((ar 5), .inl (cI, 2114, .inl (if cutRf f ya = 0 then diN fd f ct else fd)))]]) (fun r9 u9 h => ?_) (fun r9 U9 h => ?_) (fun r9 U9 H locs hpost hP hD hS => ?_)
    · obtain ⟨e9, fl9, lk9, rfl⟩ := h
      exact ⟨[[((ar 0), .inr (7, [.int (cutRf f ya), .ref (ar 1), .int (nI (ss)), .int (nI (ps.2)), .int (bI (ps.1 = true)), .int (rb), .int (rl), .ref (ar 2), .ref (ar 3), .ref (ar 4), .ref (ar 5), .int (nI (if cutRf f ya = 0 then acN ct else ct)), .ref (ar 6), .ref (ar 7), .ref (ar 8)]))], [((ar 2), .inl (cI, 151, .inl (if cutRf f ya = 0 then upd f 5 ya else f)))], [((ar 4), .inl (cI, 151, .inl lk9))], [((ar 8), .inl (cI, 4, .inl fl9))], [((ar 5), .inl (cI, 2114, .inl (if cutRf f ya = 0 then diN fd f ct else fd)))]], rfl, e9, fl9, lk9, rfl⟩
    · obtain ⟨-, fl9, lk9, rfl⟩ := h
      rfl
    obtain ⟨e9, fl9, lk9, rfl⟩ := hpost
    rw [if_neg hc] at e9
    subst e9
    have hP : va_P D vwCl (bw (rfB cI cZ ar (cutRf f ya) rb rl ss ps ct t f ft lk9 fd fkp fik fl9 (lwB cI cL cZ cJ ad dl sf sg fo t ss q vv nx ct uf zz))) H := by
      try simp only [if_neg hc] at hP
      exact hP
    have hD : va_D A (bw (rfB cI cZ ar (cutRf f ya) rb rl ss ps ct t f ft lk9 fd fkp fik fl9 (lwB cI cL cZ cJ ad dl sf sg fo t ss q vv nx ct uf zz))) := by
      try simp only [if_neg hc] at hD
      exact hD
    refine lv_istore (lv' := [(6, .int (0)), (5, .int (cutRf f ya)), (0, .ref b), (1, .ref (ad 1)), (2, .ref (ar 0)), (3, .ref (ad 0)), (4, .int (nI (4 * i)))]) hx hb dL_law_897 hl (by decide) rfl (fun ls hl => ?_)
    exact lw_tail hL0 g7_thrown dL_law_899 dL_law_900 dL_law_903 dL_law_905 dL_law_910 dL_law_912 dL_law_915 dL_law_916 dL_law_917 dL_law_918 dL_law_920 dL_law_921 dL_law_922 dL_law_927 (by decide) hP hD hS hR (fun h9 => absurd h9 hc) hl hcs hk
set_option maxHeartbeats 4000000 in
set_option maxRecDepth 100000 in
theorem lc_start : LCS 930 p l e s m below meth c D cI cL cZ cJ ar ad dl sf sg A b L i cells slots xs Q := by
  intro hst hsf hsg hL0 hi hL9 H locs ls hcs hst0 hS hl hk
  obtain ⟨rf, rb, rl, ss, ps, t, f, ft, flk, fd, fkp, fik, fl, fo, q, vv, nx, ct, uf, zz, hP, hD, hR⟩ := hst0
  obtain ⟨hX, hr, hlocks, hK, hN, hE, hSW, hZ, hCN, hXs, hbl, hbA⟩ := id hL0
  obtain ⟨⟨hn, hq, hnx, hct⟩, hRz, hR3, hR4, hB⟩ := id hR
  have hx := hX.1
  have hb := hX.2.1
  have hown := hX.2.2.2.1
  have hts := hX.2.2.2.2
  have hin : ∀ k, k ≤ 3 → vp_in (nI (4 * i) + nI k) L := fun k hk => by rw [nI_add]; exact vp_in_nI (by omega) (by omega)
  obtain ⟨ya, hya⟩ : ∃ y, xs (nI (4 * i) + 1).toNatClampNeg = y := ⟨_, rfl⟩
  obtain ⟨yb, hyb⟩ : ∃ y, xs (nI (4 * i) + 2).toNatClampNeg = y := ⟨_, rfl⟩
  obtain ⟨yc, hyc⟩ : ∃ y, xs (nI (4 * i) + 3).toNatClampNeg = y := ⟨_, rfl⟩
  refine lv_aload_n hx hb dL_law_930 rfl (lv_at hl 1 rfl) ?_
  refine lv_aload_n hx hb dL_law_931 rfl (lv_at hl 3 rfl) ?_
  refine lw_help hX (cL_startH l hst D cI cL cZ cJ ad dl sf sg hsf hsg fo t ss q hn hq vv nx ct hnx hct uf zz hRz.1 hB ) ⟨by decide, by decide, show (parseMethodDescriptor yL_start.desc).map (fun d => d.parameters.length) = some 2 by decide +kernel⟩ rfl gL_start ⟨Nat.le_of_ble_eq_true rfl, Nat.le_of_ble_eq_true rfl⟩ hK hN hE hSW hZ hCN [0, 1, 2, 3] rfl hP hD hS (List.range' 9 27) (by decide) (rf_sub lw_len) hl.1 rfl (Nat.le_of_ble_eq_true rfl) dL_law_932 hcs (fun r u h => ?_) (fun r u H locs hpost hP hD hS => ?_)
  · rcases h with ⟨-, -, rfl⟩ | ⟨-, -, rfl⟩ <;> exact lw_adr
  rw [r_sta hRz] at hpost
  rcases hpost with ⟨hc, rfl, rfl⟩ | ⟨hc, rfl, rfl⟩
  · rw [rf_put lw_len lw_len] at hP hD
    refine lv_istore (lv' := [(5, .int (0)), (0, .ref b), (1, .ref (ad 1)), (2, .ref (ar 0)), (3, .ref (ad 0)), (4, .int (nI (4 * i)))]) hx hb dL_law_935 hl (by decide) rfl (fun ls hl => ?_)
    refine lv_aload_n hx hb dL_law_937 rfl (lv_at hl 3 rfl) ?_
    refine lw_refi hX (c7_start l D cI cZ (ar 0) (ar 1) (ar 2) (ar 3) (ar 4) (ar 5) (ar 6) (ar 7) (ar 8) rf rb rl ct ss ps f (zz 16).1.2 flk fl fd hct (rz_ok hRz)) (Cs := [[((ar 0), .inr (7, [.int (rf), .ref (ar 1), .int (nI (ss)), .int (nI (ps.2)), .int (bI (ps.1 = true)), .int (rb), .int (rl), .ref (ar 2), .ref (ar 3), .ref (ar 4), .ref (ar 5), .int (nI (ct)), .ref (ar 6), .ref (ar 7), .ref (ar 8)]))], [((ar 2), .inl (cI, 151, .inl f))], [((ar 4), .inl (cI, 151, .inl flk))], [((ar 8), .inl (cI, 4, .inl fl))], [((ar 5), .inl (cI, 2114, .inl fd))]]) rfl ⟨by decide, by decide, show (parseMethodDescriptor yX7_start.desc).map (fun d => d.parameters.length) = some 0 by decide +kernel⟩ rfl g7_start ⟨Nat.le_of_ble_eq_true rfl, Nat.le_of_ble_eq_true rfl⟩ hK [0] rfl hP hD hS [0, 2, 4, 8, 5] (by decide) rfl rfl hl.1 rfl (Nat.le_of_ble_eq_true rfl) dL_law_938 hcs (fun r9 U9 => r9 = (if staR f = 0 then nI (kys (puR f (zz 16).1.2) (zz 16).1.2 16) else 0) ∧ ∃ fl9 : Nat → Int32, ∃ lk9 : Nat → Int32, U9 = [[((ar 0), .inr (7, [.int (staR f), .ref (ar 1), .int (nI (ss)), .int (nI (ps.2)), .int (bI (ps.1 = true)), .int (rb), .int (rl), .ref (ar 2), .ref (ar 3), .ref (ar 4), .ref (ar 5), .int (nI (if staR f = 0 then acN ct else ct)), .ref (ar 6), .ref (ar 7), .ref (ar 8)]))], [((ar 2), .inl (cI, 151, .inl (if staR f = 0 then puR f (zz 16).1.2 else f)))], [((ar 4), .inl (cI, 151, .inl lk9))], [((ar 8), .inl (cI, 4, .inl fl9))], [((ar 5), .inl (cI, 2114, .inl (if staR f = 0 then diN fd f ct else fd)))]]) (fun r9 u9 h => ?_) (fun r9 U9 h => ?_) (fun r9 U9 H locs hpost hP hD hS => ?_)
    · obtain ⟨e9, fl9, lk9, rfl⟩ := h
      exact ⟨[[((ar 0), .inr (7, [.int (staR f), .ref (ar 1), .int (nI (ss)), .int (nI (ps.2)), .int (bI (ps.1 = true)), .int (rb), .int (rl), .ref (ar 2), .ref (ar 3), .ref (ar 4), .ref (ar 5), .int (nI (if staR f = 0 then acN ct else ct)), .ref (ar 6), .ref (ar 7), .ref (ar 8)]))], [((ar 2), .inl (cI, 151, .inl (if staR f = 0 then puR f (zz 16).1.2 else f)))], [((ar 4), .inl (cI, 151, .inl lk9))], [((ar 8), .inl (cI, 4, .inl fl9))], [((ar 5), .inl (cI, 2114, .inl (if staR f = 0 then diN fd f ct else fd)))]], rfl, e9, fl9, lk9, rfl⟩
    · obtain ⟨-, fl9, lk9, rfl⟩ := h
      rfl
    obtain ⟨e9, fl9, lk9, rfl⟩ := hpost
    rw [if_pos hc] at e9
    subst e9
    have hP : va_P D vwCl (bw (rfB cI cZ ar 0 rb rl ss ps (acN ct) t (puR f (zz 16).1.2) ft lk9 (diN fd f ct) fkp fik fl9 (lwB cI cL cZ cJ ad dl sf sg (vp_updL fo 0 (nI (ckZ (zSw (zz 16)) 16) : Int32).toInt64) t ss q vv ((nx + 1) % 14) (acN ct) uf (va_up (va_up zz 16 (zSw (zz 16))) nx (zz 16))))) H := by
      rw [hc] at hP
      rw [acN_if hct] at hP
      exact hP
    have hD : va_D A (bw (rfB cI cZ ar 0 rb rl ss ps (acN ct) t (puR f (zz 16).1.2) ft lk9 (diN fd f ct) fkp fik fl9 (lwB cI cL cZ cJ ad dl sf sg (vp_updL fo 0 (nI (ckZ (zSw (zz 16)) 16) : Int32).toInt64) t ss q vv ((nx + 1) % 14) (acN ct) uf (va_up (va_up zz 16 (zSw (zz 16))) nx (zz 16))))) := by
      rw [hc] at hD
      rw [acN_if hct] at hD
      exact hD
    refine lv_istore (lv' := [(6, .int (nI (kys (puR f (zz 16).1.2) (zz 16).1.2 16))), (5, .int (0)), (0, .ref b), (1, .ref (ad 1)), (2, .ref (ar 0)), (3, .ref (ad 0)), (4, .int (nI (4 * i)))]) hx hb dL_law_941 hl (by decide) rfl (fun ls hl => ?_)
    exact lw_tail hL0 g7_thrown dL_law_943 dL_law_944 dL_law_947 dL_law_949 dL_law_954 dL_law_956 dL_law_959 dL_law_960 dL_law_961 dL_law_962 dL_law_964 dL_law_965 dL_law_966 dL_law_971 (by decide) hP hD hS (rel_note hR (v_start hRz hc).2.1 (v_start hRz hc).2.2 (by rw [va_up_ne _ _ (show 16 ≠ nx by omega), va_up_self]) (va_up_self _ _ _) (fun j h1 h2 => by rw [va_up_ne _ _ h2, va_up_ne _ _ (show j ≠ 16 by omega)]) (vaB (vaB hB (by rw [(v_start hRz hc).2.2]; exact hB 16)) (hB 16))) (fun _ => (show vp_updL fo 0 ((nI (ckZ (zSw (zz 16)) 16) : Int32).toInt64) 0 = (nI (kys (puR f (zz 16).1.2) (zz 16).1.2 16) : Int32).toInt64 from (if_pos rfl).trans (congrArg Int32.toInt64 ((v_start hRz hc).1)))) hl hcs hk
  · rw [rf_put lw_len lw_len] at hP hD
    refine lv_istore (lv' := [(5, .int (staR f)), (0, .ref b), (1, .ref (ad 1)), (2, .ref (ar 0)), (3, .ref (ad 0)), (4, .int (nI (4 * i)))]) hx hb dL_law_935 hl (by decide) rfl (fun ls hl => ?_)
    refine lv_aload_n hx hb dL_law_937 rfl (lv_at hl 3 rfl) ?_
    refine lw_refi hX (c7_start l D cI cZ (ar 0) (ar 1) (ar 2) (ar 3) (ar 4) (ar 5) (ar 6) (ar 7) (ar 8) rf rb rl ct ss ps f (zz 16).1.2 flk fl fd hct (rz_ok hRz)) (Cs := [[((ar 0), .inr (7, [.int (rf), .ref (ar 1), .int (nI (ss)), .int (nI (ps.2)), .int (bI (ps.1 = true)), .int (rb), .int (rl), .ref (ar 2), .ref (ar 3), .ref (ar 4), .ref (ar 5), .int (nI (ct)), .ref (ar 6), .ref (ar 7), .ref (ar 8)]))], [((ar 2), .inl (cI, 151, .inl f))], [((ar 4), .inl (cI, 151, .inl flk))], [((ar 8), .inl (cI, 4, .inl fl))], [((ar 5), .inl (cI, 2114, .inl fd))]]) rfl ⟨by decide, by decide, show (parseMethodDescriptor yX7_start.desc).map (fun d => d.parameters.length) = some 0 by decide +kernel⟩ rfl g7_start ⟨Nat.le_of_ble_eq_true rfl, Nat.le_of_ble_eq_true rfl⟩ hK [0] rfl hP hD hS [0, 2, 4, 8, 5] (by decide) rfl rfl hl.1 rfl (Nat.le_of_ble_eq_true rfl) dL_law_938 hcs (fun r9 U9 => r9 = (if staR f = 0 then nI (kys (puR f (zz 16).1.2) (zz 16).1.2 16) else 0) ∧ ∃ fl9 : Nat → Int32, ∃ lk9 : Nat → Int32, U9 = [[((ar 0), .inr (7, [.int (staR f), .ref (ar 1), .int (nI (ss)), .int (nI (ps.2)), .int (bI (ps.1 = true)), .int (rb), .int (rl), .ref (ar 2), .ref (ar 3), .ref (ar 4), .ref (ar 5), .int (nI (if staR f = 0 then acN ct else ct)), .ref (ar 6), .ref (ar 7), .ref (ar 8)]))], [((ar 2), .inl (cI, 151, .inl (if staR f = 0 then puR f (zz 16).1.2 else f)))], [((ar 4), .inl (cI, 151, .inl lk9))], [((ar 8), .inl (cI, 4, .inl fl9))], [((ar 5), .inl (cI, 2114, .inl (if staR f = 0 then diN fd f ct else fd)))]]) (fun r9 u9 h => ?_) (fun r9 U9 h => ?_) (fun r9 U9 H locs hpost hP hD hS => ?_)
    · obtain ⟨e9, fl9, lk9, rfl⟩ := h
      exact ⟨[[((ar 0), .inr (7, [.int (staR f), .ref (ar 1), .int (nI (ss)), .int (nI (ps.2)), .int (bI (ps.1 = true)), .int (rb), .int (rl), .ref (ar 2), .ref (ar 3), .ref (ar 4), .ref (ar 5), .int (nI (if staR f = 0 then acN ct else ct)), .ref (ar 6), .ref (ar 7), .ref (ar 8)]))], [((ar 2), .inl (cI, 151, .inl (if staR f = 0 then puR f (zz 16).1.2 else f)))], [((ar 4), .inl (cI, 151, .inl lk9))], [((ar 8), .inl (cI, 4, .inl fl9))], [((ar 5), .inl (cI, 2114, .inl (if staR f = 0 then diN fd f ct else fd)))]], rfl, e9, fl9, lk9, rfl⟩
    · obtain ⟨-, fl9, lk9, rfl⟩ := h
      rfl
    obtain ⟨e9, fl9, lk9, rfl⟩ := hpost
    rw [if_neg hc] at e9
    subst e9
    have hP : va_P D vwCl (bw (rfB cI cZ ar (staR f) rb rl ss ps ct t f ft lk9 fd fkp fik fl9 (lwB cI cL cZ cJ ad dl sf sg fo t ss q vv nx ct uf zz))) H := by
      try simp only [if_neg hc] at hP
      exact hP
    have hD : va_D A (bw (rfB cI cZ ar (staR f) rb rl ss ps ct t f ft lk9 fd fkp fik fl9 (lwB cI cL cZ cJ ad dl sf sg fo t ss q vv nx ct uf zz))) := by
      try simp only [if_neg hc] at hD
      exact hD
    refine lv_istore (lv' := [(6, .int (0)), (5, .int (staR f)), (0, .ref b), (1, .ref (ad 1)), (2, .ref (ar 0)), (3, .ref (ad 0)), (4, .int (nI (4 * i)))]) hx hb dL_law_941 hl (by decide) rfl (fun ls hl => ?_)
    exact lw_tail hL0 g7_thrown dL_law_943 dL_law_944 dL_law_947 dL_law_949 dL_law_954 dL_law_956 dL_law_959 dL_law_960 dL_law_961 dL_law_962 dL_law_964 dL_law_965 dL_law_966 dL_law_971 (by decide) hP hD hS hR (fun h9 => absurd h9 hc) hl hcs hk
set_option maxHeartbeats 4000000 in
set_option maxRecDepth 100000 in
theorem lc_setPolicy : LCS 974 p l e s m below meth c D cI cL cZ cJ ar ad dl sf sg A b L i cells slots xs Q := by
  intro hst hsf hsg hL0 hi hL9 H locs ls hcs hst0 hS hl hk
  obtain ⟨rf, rb, rl, ss, ps, t, f, ft, flk, fd, fkp, fik, fl, fo, q, vv, nx, ct, uf, zz, hP, hD, hR⟩ := hst0
  obtain ⟨hX, hr, hlocks, hK, hN, hE, hSW, hZ, hCN, hXs, hbl, hbA⟩ := id hL0
  obtain ⟨⟨hn, hq, hnx, hct⟩, hRz, hR3, hR4, hB⟩ := id hR
  have hx := hX.1
  have hb := hX.2.1
  have hown := hX.2.2.2.1
  have hts := hX.2.2.2.2
  have hin : ∀ k, k ≤ 3 → vp_in (nI (4 * i) + nI k) L := fun k hk => by rw [nI_add]; exact vp_in_nI (by omega) (by omega)
  obtain ⟨ya, hya⟩ : ∃ y, xs (nI (4 * i) + 1).toNatClampNeg = y := ⟨_, rfl⟩
  obtain ⟨yb, hyb⟩ : ∃ y, xs (nI (4 * i) + 2).toNatClampNeg = y := ⟨_, rfl⟩
  obtain ⟨yc, hyc⟩ : ∃ y, xs (nI (4 * i) + 3).toNatClampNeg = y := ⟨_, rfl⟩
  refine lv_aload_n hx hb dL_law_974 rfl (lv_at hl 1 rfl) ?_
  refine lv_aload_n hx hb dL_law_975 rfl (lv_at hl 0 rfl) ?_
  refine lv_iload hx hb dL_law_976 (lv_at hl 4 rfl) ?_
  refine lv_iconst (v := 1) hx hb dL_law_978 (by decide) ?_
  refine lv_iadd hx hb dL_law_979 ?_
  refine va_sld hx hb hXs hbl hbA hS (hin 1 (by decide)) dL_law_980 ?_
  rw [hya]
  refine lv_aload_n hx hb dL_law_981 rfl (lv_at hl 3 rfl) ?_
  refine lw_help hX (cL_setPolicyH l hst D cI cL cZ cJ ad dl sf sg hsf hsg fo t ss q hn hq vv nx ct hnx hct uf zz hRz.1 hB ya) ⟨by decide, by decide, show (parseMethodDescriptor yL_setPolicy.desc).map (fun d => d.parameters.length) = some 3 by decide +kernel⟩ rfl gL_setPolicy ⟨Nat.le_of_ble_eq_true rfl, Nat.le_of_ble_eq_true rfl⟩ hK hN hE hSW hZ hCN [0, 1, 2, 3] rfl hP hD hS (List.range' 9 27) (by decide) (rf_sub lw_len) hl.1 rfl (Nat.le_of_ble_eq_true rfl) dL_law_982 hcs (fun r u h => ?_) (fun r u H locs hpost hP hD hS => ?_)
  · rcases h with ⟨-, -, rfl⟩ | ⟨-, -, rfl⟩ <;> exact lw_adr
  rw [r_r] at hpost
  rcases hpost with ⟨hc, rfl, rfl⟩ | ⟨hc, rfl, rfl⟩
  · rw [rf_put lw_len lw_len] at hP hD
    refine lv_istore (lv' := [(5, .int (0)), (0, .ref b), (1, .ref (ad 1)), (2, .ref (ar 0)), (3, .ref (ad 0)), (4, .int (nI (4 * i)))]) hx hb dL_law_985 hl (by decide) rfl (fun ls hl => ?_)
    refine lv_aload_n hx hb dL_law_987 rfl (lv_at hl 3 rfl) ?_
    refine lv_aload_n hx hb dL_law_988 rfl (lv_at hl 1 rfl) ?_
    refine lv_iload hx hb dL_law_989 (lv_at hl 5 rfl) ?_
    refine lv_iconst (v := 1) hx hb dL_law_991 (by decide) ?_
    refine lv_iadd hx hb dL_law_992 ?_
    refine va_sld hx hb hXs hbl hbA hS (hin 1 (by decide)) dL_law_993 ?_
    rw [hya]
    refine lw_refi hX (c7_setPolicy l D cI cZ (ar 0) (ar 1) (ar 2) (ar 3) (ar 4) (ar 5) (ar 6) (ar 7) (ar 8) rf rb rl ct ss ps f (zz 16).1.2 flk fl fd hct (rz_ok hRz) ya) (Cs := [[((ar 0), .inr (7, [.int (rf), .ref (ar 1), .int (nI (ss)), .int (nI (ps.2)), .int (bI (ps.1 = true)), .int (rb), .int (rl), .ref (ar 2), .ref (ar 3), .ref (ar 4), .ref (ar 5), .int (nI (ct)), .ref (ar 6), .ref (ar 7), .ref (ar 8)]))], [((ar 2), .inl (cI, 151, .inl f))], [((ar 4), .inl (cI, 151, .inl flk))], [((ar 8), .inl (cI, 4, .inl fl))], [((ar 5), .inl (cI, 2114, .inl fd))]]) rfl ⟨by decide, by decide, show (parseMethodDescriptor yX7_setPolicy.desc).map (fun d => d.parameters.length) = some 1 by decide +kernel⟩ rfl g7_setPolicy ⟨Nat.le_of_ble_eq_true rfl, Nat.le_of_ble_eq_true rfl⟩ hK [0] rfl hP hD hS [0, 2, 4, 8, 5] (by decide) rfl rfl hl.1 rfl (Nat.le_of_ble_eq_true rfl) dL_law_994 hcs (fun r9 U9 => r9 = (if rg2R ya 2 = 0 then f 6 else 0) ∧ ∃ fl9 : Nat → Int32, ∃ lk9 : Nat → Int32, U9 = [[((ar 0), .inr (7, [.int (rg2R ya 2), .ref (ar 1), .int (nI (ss)), .int (nI (ps.2)), .int (bI (ps.1 = true)), .int (rb), .int (rl), .ref (ar 2), .ref (ar 3), .ref (ar 4), .ref (ar 5), .int (nI (if rg2R ya 2 = 0 then acN ct else ct)), .ref (ar 6), .ref (ar 7), .ref (ar 8)]))], [((ar 2), .inl (cI, 151, .inl (if rg2R ya 2 = 0 then upd f 6 ya else f)))], [((ar 4), .inl (cI, 151, .inl lk9))], [((ar 8), .inl (cI, 4, .inl fl9))], [((ar 5), .inl (cI, 2114, .inl (if rg2R ya 2 = 0 then diN fd f ct else fd)))]]) (fun r9 u9 h => ?_) (fun r9 U9 h => ?_) (fun r9 U9 H locs hpost hP hD hS => ?_)
    · obtain ⟨e9, fl9, lk9, rfl⟩ := h
      exact ⟨[[((ar 0), .inr (7, [.int (rg2R ya 2), .ref (ar 1), .int (nI (ss)), .int (nI (ps.2)), .int (bI (ps.1 = true)), .int (rb), .int (rl), .ref (ar 2), .ref (ar 3), .ref (ar 4), .ref (ar 5), .int (nI (if rg2R ya 2 = 0 then acN ct else ct)), .ref (ar 6), .ref (ar 7), .ref (ar 8)]))], [((ar 2), .inl (cI, 151, .inl (if rg2R ya 2 = 0 then upd f 6 ya else f)))], [((ar 4), .inl (cI, 151, .inl lk9))], [((ar 8), .inl (cI, 4, .inl fl9))], [((ar 5), .inl (cI, 2114, .inl (if rg2R ya 2 = 0 then diN fd f ct else fd)))]], rfl, e9, fl9, lk9, rfl⟩
    · obtain ⟨-, fl9, lk9, rfl⟩ := h
      rfl
    obtain ⟨e9, fl9, lk9, rfl⟩ := hpost
    rw [if_pos hc] at e9
    subst e9
    have hP : va_P D vwCl (bw (rfB cI cZ ar 0 rb rl ss ps (acN ct) t (upd f 6 ya) ft lk9 (diN fd f ct) fkp fik fl9 (lwB cI cL cZ cJ ad dl sf sg (vp_updL fo 0 ((zz 16).2.1 0 : Int32).toInt64) t ss q vv ((nx + 1) % 14) (acN ct) uf (va_up (va_up zz 16 (zPo (zz 16) ya)) nx (zz 16))))) H := by
      rw [hc] at hP
      rw [acN_if hct] at hP
      exact hP
    have hD : va_D A (bw (rfB cI cZ ar 0 rb rl ss ps (acN ct) t (upd f 6 ya) ft lk9 (diN fd f ct) fkp fik fl9 (lwB cI cL cZ cJ ad dl sf sg (vp_updL fo 0 ((zz 16).2.1 0 : Int32).toInt64) t ss q vv ((nx + 1) % 14) (acN ct) uf (va_up (va_up zz 16 (zPo (zz 16) ya)) nx (zz 16))))) := by
      rw [hc] at hD
      rw [acN_if hct] at hD
      exact hD
    refine lv_istore (lv' := [(6, .int (f 6)), (5, .int (0)), (0, .ref b), (1, .ref (ad 1)), (2, .ref (ar 0)), (3, .ref (ad 0)), (4, .int (nI (4 * i)))]) hx hb dL_law_997 hl (by decide) rfl (fun ls hl => ?_)
    exact lw_tail hL0 g7_thrown dL_law_999 dL_law_1000 dL_law_1003 dL_law_1005 dL_law_1010 dL_law_1012 dL_law_1015 dL_law_1016 dL_law_1017 dL_law_1018 dL_law_1020 dL_law_1021 dL_law_1022 dL_law_1027 (by decide) hP hD hS (rel_note hR (v_pol hRz hc).2 rfl (by rw [va_up_ne _ _ (show 16 ≠ nx by omega), va_up_self]) (va_up_self _ _ _) (fun j h1 h2 => by rw [va_up_ne _ _ h2, va_up_ne _ _ (show j ≠ 16 by omega)]) (vaB (vaB hB (hB 16)) (hB 16))) (fun _ => (show vp_updL fo 0 (((zz 16).2.1 0 : Int32).toInt64) 0 = (f 6 : Int32).toInt64 from (if_pos rfl).trans (congrArg Int32.toInt64 ((v_pol hRz hc).1)))) hl hcs hk
  · rw [rf_put lw_len lw_len] at hP hD
    refine lv_istore (lv' := [(5, .int (rg2R ya 2)), (0, .ref b), (1, .ref (ad 1)), (2, .ref (ar 0)), (3, .ref (ad 0)), (4, .int (nI (4 * i)))]) hx hb dL_law_985 hl (by decide) rfl (fun ls hl => ?_)
    refine lv_aload_n hx hb dL_law_987 rfl (lv_at hl 3 rfl) ?_
    refine lv_aload_n hx hb dL_law_988 rfl (lv_at hl 1 rfl) ?_
    refine lv_iload hx hb dL_law_989 (lv_at hl 5 rfl) ?_
    refine lv_iconst (v := 1) hx hb dL_law_991 (by decide) ?_
    refine lv_iadd hx hb dL_law_992 ?_
    refine va_sld hx hb hXs hbl hbA hS (hin 1 (by decide)) dL_law_993 ?_
    rw [hya]
    refine lw_refi hX (c7_setPolicy l D cI cZ (ar 0) (ar 1) (ar 2) (ar 3) (ar 4) (ar 5) (ar 6) (ar 7) (ar 8) rf rb rl ct ss ps f (zz 16).1.2 flk fl fd hct (rz_ok hRz) ya) (Cs := [[((ar 0), .inr (7, [.int (rf), .ref (ar 1), .int (nI (ss)), .int (nI (ps.2)), .int (bI (ps.1 = true)), .int (rb), .int (rl), .ref (ar 2), .ref (ar 3), .ref (ar 4), .ref (ar 5), .int (nI (ct)), .ref (ar 6), .ref (ar 7), .ref (ar 8)]))], [((ar 2), .inl (cI, 151, .inl f))], [((ar 4), .inl (cI, 151, .inl flk))], [((ar 8), .inl (cI, 4, .inl fl))], [((ar 5), .inl (cI, 2114, .inl fd))]]) rfl ⟨by decide, by decide, show (parseMethodDescriptor yX7_setPolicy.desc).map (fun d => d.parameters.length) = some 1 by decide +kernel⟩ rfl g7_setPolicy ⟨Nat.le_of_ble_eq_true rfl, Nat.le_of_ble_eq_true rfl⟩ hK [0] rfl hP hD hS [0, 2, 4, 8, 5] (by decide) rfl rfl hl.1 rfl (Nat.le_of_ble_eq_true rfl) dL_law_994 hcs (fun r9 U9 => r9 = (if rg2R ya 2 = 0 then f 6 else 0) ∧ ∃ fl9 : Nat → Int32, ∃ lk9 : Nat → Int32, U9 = [[((ar 0), .inr (7, [.int (rg2R ya 2), .ref (ar 1), .int (nI (ss)), .int (nI (ps.2)), .int (bI (ps.1 = true)), .int (rb), .int (rl), .ref (ar 2), .ref (ar 3), .ref (ar 4), .ref (ar 5), .int (nI (if rg2R ya 2 = 0 then acN ct else ct)), .ref (ar 6), .ref (ar 7), .ref (ar 8)]))], [((ar 2), .inl (cI, 151, .inl (if rg2R ya 2 = 0 then upd f 6 ya else f)))], [((ar 4), .inl (cI, 151, .inl lk9))], [((ar 8), .inl (cI, 4, .inl fl9))], [((ar 5), .inl (cI, 2114, .inl (if rg2R ya 2 = 0 then diN fd f ct else fd)))]]) (fun r9 u9 h => ?_) (fun r9 U9 h => ?_) (fun r9 U9 H locs hpost hP hD hS => ?_)
    · obtain ⟨e9, fl9, lk9, rfl⟩ := h
      exact ⟨[[((ar 0), .inr (7, [.int (rg2R ya 2), .ref (ar 1), .int (nI (ss)), .int (nI (ps.2)), .int (bI (ps.1 = true)), .int (rb), .int (rl), .ref (ar 2), .ref (ar 3), .ref (ar 4), .ref (ar 5), .int (nI (if rg2R ya 2 = 0 then acN ct else ct)), .ref (ar 6), .ref (ar 7), .ref (ar 8)]))], [((ar 2), .inl (cI, 151, .inl (if rg2R ya 2 = 0 then upd f 6 ya else f)))], [((ar 4), .inl (cI, 151, .inl lk9))], [((ar 8), .inl (cI, 4, .inl fl9))], [((ar 5), .inl (cI, 2114, .inl (if rg2R ya 2 = 0 then diN fd f ct else fd)))]], rfl, e9, fl9, lk9, rfl⟩
    · obtain ⟨-, fl9, lk9, rfl⟩ := h
      rfl
    obtain ⟨e9, fl9, lk9, rfl⟩ := hpost
    rw [if_neg hc] at e9
    subst e9
    have hP : va_P D vwCl (bw (rfB cI cZ ar (rg2R ya 2) rb rl ss ps ct t f ft lk9 fd fkp fik fl9 (lwB cI cL cZ cJ ad dl sf sg fo t ss q vv nx ct uf zz))) H := by
      try simp only [if_neg hc] at hP
      exact hP
    have hD : va_D A (bw (rfB cI cZ ar (rg2R ya 2) rb rl ss ps ct t f ft lk9 fd fkp fik fl9 (lwB cI cL cZ cJ ad dl sf sg fo t ss q vv nx ct uf zz))) := by
      try simp only [if_neg hc] at hD
      exact hD
    refine lv_istore (lv' := [(6, .int (0)), (5, .int (rg2R ya 2)), (0, .ref b), (1, .ref (ad 1)), (2, .ref (ar 0)), (3, .ref (ad 0)), (4, .int (nI (4 * i)))]) hx hb dL_law_997 hl (by decide) rfl (fun ls hl => ?_)
    exact lw_tail hL0 g7_thrown dL_law_999 dL_law_1000 dL_law_1003 dL_law_1005 dL_law_1010 dL_law_1012 dL_law_1015 dL_law_1016 dL_law_1017 dL_law_1018 dL_law_1020 dL_law_1021 dL_law_1022 dL_law_1027 (by decide) hP hD hS hR (fun h9 => absurd h9 hc) hl hcs hk
set_option maxHeartbeats 4000000 in
set_option maxRecDepth 100000 in
theorem lc_append : LCS 164 p l e s m below meth c D cI cL cZ cJ ar ad dl sf sg A b L i cells slots xs Q := by
  intro hst hsf hsg hL0 hi hL9 H locs ls hcs hst0 hS hl hk
  obtain ⟨rf, rb, rl, ss, ps, t, f, ft, flk, fd, fkp, fik, fl, fo, q, vv, nx, ct, uf, zz, hP, hD, hR⟩ := hst0
  obtain ⟨hX, hr, hlocks, hK, hN, hE, hSW, hZ, hCN, hXs, hbl, hbA⟩ := id hL0
  obtain ⟨⟨hn, hq, hnx, hct⟩, hRz, hR3, hR4, hB⟩ := id hR
  have hx := hX.1
  have hb := hX.2.1
  have hown := hX.2.2.2.1
  have hts := hX.2.2.2.2
  have hin : ∀ k, k ≤ 3 → vp_in (nI (4 * i) + nI k) L := fun k hk => by rw [nI_add]; exact vp_in_nI (by omega) (by omega)
  obtain ⟨ya, hya⟩ : ∃ y, xs (nI (4 * i) + 1).toNatClampNeg = y := ⟨_, rfl⟩
  obtain ⟨yb, hyb⟩ : ∃ y, xs (nI (4 * i) + 2).toNatClampNeg = y := ⟨_, rfl⟩
  obtain ⟨yc, hyc⟩ : ∃ y, xs (nI (4 * i) + 3).toNatClampNeg = y := ⟨_, rfl⟩
  refine lv_aload_n hx hb dL_law_164 rfl (lv_at hl 1 rfl) ?_
  refine lv_aload_n hx hb dL_law_165 rfl (lv_at hl 0 rfl) ?_
  refine lv_iload hx hb dL_law_166 (lv_at hl 4 rfl) ?_
  refine lv_iconst (v := 1) hx hb dL_law_168 (by decide) ?_
  refine lv_iadd hx hb dL_law_169 ?_
  refine va_sld hx hb hXs hbl hbA hS (hin 1 (by decide)) dL_law_170 ?_
  rw [hya]
  refine lv_aload_n hx hb dL_law_171 rfl (lv_at hl 3 rfl) ?_
  refine lw_help hX (cL_appendH l hst D cI cL cZ cJ ad dl sf sg hsf hsg fo t ss q hn hq vv nx ct hnx hct uf zz hRz.1 hB ya) ⟨by decide, by decide, show (parseMethodDescriptor yL_append.desc).map (fun d => d.parameters.length) = some 3 by decide +kernel⟩ rfl gL_append ⟨Nat.le_of_ble_eq_true rfl, Nat.le_of_ble_eq_true rfl⟩ hK hN hE hSW hZ hCN [0, 1, 2, 3] rfl hP hD hS (List.range' 9 27) (by decide) (rf_sub lw_len) hl.1 rfl (Nat.le_of_ble_eq_true rfl) dL_law_172 hcs (fun r u h => ?_) (fun r u H locs hpost hP hD hS => ?_)
  · rcases h with ⟨-, -, rfl⟩ | ⟨-, -, rfl⟩ <;> exact lw_adr
  rw [r_ap hn] at hpost
  rcases hpost with ⟨hc, rfl, rfl⟩ | ⟨hc, rfl, rfl⟩
  · rw [rf_put lw_len lw_len] at hP hD
    refine lv_istore (lv' := [(5, .int (0)), (0, .ref b), (1, .ref (ad 1)), (2, .ref (ar 0)), (3, .ref (ad 0)), (4, .int (nI (4 * i)))]) hx hb dL_law_175 hl (by decide) rfl (fun ls hl => ?_)
    refine lv_aload_n hx hb dL_law_177 rfl (lv_at hl 3 rfl) ?_
    refine lv_aload_n hx hb dL_law_178 rfl (lv_at hl 1 rfl) ?_
    refine lv_iload hx hb dL_law_179 (lv_at hl 5 rfl) ?_
    refine lv_iconst (v := 1) hx hb dL_law_181 (by decide) ?_
    refine lv_iadd hx hb dL_law_182 ?_
    refine va_sld hx hb hXs hbl hbA hS (hin 1 (by decide)) dL_law_183 ?_
    rw [hya]
    refine lw_refi hX (c7_append l D cI (ar 0) (ar 1) (ar 2) (ar 3) (ar 4) (ar 5) (ar 6) (ar 7) (ar 8) rf rb rl ct t ss hn ps (Nat.zero_le _) ya) (Cs := [[((ar 0), .inr (7, [.int (rf), .ref (ar 1), .int (nI (ss)), .int (nI (ps.2)), .int (bI (ps.1 = true)), .int (rb), .int (rl), .ref (ar 2), .ref (ar 3), .ref (ar 4), .ref (ar 5), .int (nI (ct)), .ref (ar 6), .ref (ar 7), .ref (ar 8)]))], [((ar 1), .inl (cI, 90, .inl t))]]) rfl ⟨by decide, by decide, show (parseMethodDescriptor yX7_append.desc).map (fun d => d.parameters.length) = some 1 by decide +kernel⟩ rfl g7_append ⟨Nat.le_of_ble_eq_true rfl, Nat.le_of_ble_eq_true rfl⟩ hK [0] rfl hP hD hS [0, 1] (by decide) rfl rfl hl.1 rfl (Nat.le_of_ble_eq_true rfl) dL_law_184 hcs (fun r9 U9 => r9 = (if apR ss ya = 0 then nI (ss + 1) else 0) ∧ U9 = [[((ar 0), .inr (7, [.int (apR ss ya), .ref (ar 1), .int (nI (if apR ss ya = 0 then ss + 1 else ss)), .int (nI (ps.2)), .int (bI (ps.1 = true)), .int (rb), .int (rl), .ref (ar 2), .ref (ar 3), .ref (ar 4), .ref (ar 5), .int (nI (ct)), .ref (ar 6), .ref (ar 7), .ref (ar 8)]))], [((ar 1), .inl (cI, 90, .inl (if apR ss ya = 0 then upd t ss ya else t)))]]) (fun r9 u9 h => ?_) (fun r9 U9 h => ?_) (fun r9 U9 H locs hpost hP hD hS => ?_)
    · obtain ⟨e9, rfl⟩ := h
      exact ⟨[[((ar 0), .inr (7, [.int (apR ss ya), .ref (ar 1), .int (nI (if apR ss ya = 0 then ss + 1 else ss)), .int (nI (ps.2)), .int (bI (ps.1 = true)), .int (rb), .int (rl), .ref (ar 2), .ref (ar 3), .ref (ar 4), .ref (ar 5), .int (nI (ct)), .ref (ar 6), .ref (ar 7), .ref (ar 8)]))], [((ar 1), .inl (cI, 90, .inl (if apR ss ya = 0 then upd t ss ya else t)))]], rfl, e9, rfl⟩
    · obtain ⟨-, rfl⟩ := h
      rfl
    obtain ⟨e9, rfl⟩ := hpost
    rw [if_pos hc] at e9
    subst e9
    have hP : va_P D vwCl (bw (rfB cI cZ ar 0 rb rl (ss + 1) ps ct (upd t ss ya) f ft flk fd fkp fik fl (lwB cI cL cZ cJ ad dl sf sg (vp_updL fo 0 (nI (ss + 1) : Int32).toInt64) (upd t ss ya) (ss + 1) q vv nx ct uf zz))) H := by
      rw [hc] at hP
      exact hP
    have hD : va_D A (bw (rfB cI cZ ar 0 rb rl (ss + 1) ps ct (upd t ss ya) f ft flk fd fkp fik fl (lwB cI cL cZ cJ ad dl sf sg (vp_updL fo 0 (nI (ss + 1) : Int32).toInt64) (upd t ss ya) (ss + 1) q vv nx ct uf zz))) := by
      rw [hc] at hD
      exact hD
    refine lv_istore (lv' := [(6, .int (nI (ss + 1))), (5, .int (0)), (0, .ref b), (1, .ref (ad 1)), (2, .ref (ar 0)), (3, .ref (ad 0)), (4, .int (nI (4 * i)))]) hx hb dL_law_187 hl (by decide) rfl (fun ls hl => ?_)
    exact lw_tail hL0 g7_thrown dL_law_189 dL_law_190 dL_law_193 dL_law_195 dL_law_200 dL_law_202 dL_law_205 dL_law_206 dL_law_207 dL_law_208 dL_law_210 dL_law_211 dL_law_212 dL_law_217 (by decide) hP hD hS (rel_keep hR (fun j h1 => rfl) hB (show ss + 1 ≤ 90 by have := ap_0 hc; omega) hq) (fun _ => (show vp_updL fo 0 ((nI (ss + 1) : Int32).toInt64) 0 = (nI (ss + 1) : Int32).toInt64 from (if_pos rfl).trans (congrArg Int32.toInt64 (rfl)))) hl hcs hk
  · rw [rf_put lw_len lw_len] at hP hD
    refine lv_istore (lv' := [(5, .int (apR ss ya)), (0, .ref b), (1, .ref (ad 1)), (2, .ref (ar 0)), (3, .ref (ad 0)), (4, .int (nI (4 * i)))]) hx hb dL_law_175 hl (by decide) rfl (fun ls hl => ?_)
    refine lv_aload_n hx hb dL_law_177 rfl (lv_at hl 3 rfl) ?_
    refine lv_aload_n hx hb dL_law_178 rfl (lv_at hl 1 rfl) ?_
    refine lv_iload hx hb dL_law_179 (lv_at hl 5 rfl) ?_
    refine lv_iconst (v := 1) hx hb dL_law_181 (by decide) ?_
    refine lv_iadd hx hb dL_law_182 ?_
    refine va_sld hx hb hXs hbl hbA hS (hin 1 (by decide)) dL_law_183 ?_
    rw [hya]
    refine lw_refi hX (c7_append l D cI (ar 0) (ar 1) (ar 2) (ar 3) (ar 4) (ar 5) (ar 6) (ar 7) (ar 8) rf rb rl ct t ss hn ps (Nat.zero_le _) ya) (Cs := [[((ar 0), .inr (7, [.int (rf), .ref (ar 1), .int (nI (ss)), .int (nI (ps.2)), .int (bI (ps.1 = true)), .int (rb), .int (rl), .ref (ar 2), .ref (ar 3), .ref (ar 4), .ref (ar 5), .int (nI (ct)), .ref (ar 6), .ref (ar 7), .ref (ar 8)]))], [((ar 1), .inl (cI, 90, .inl t))]]) rfl ⟨by decide, by decide, show (parseMethodDescriptor yX7_append.desc).map (fun d => d.parameters.length) = some 1 by decide +kernel⟩ rfl g7_append ⟨Nat.le_of_ble_eq_true rfl, Nat.le_of_ble_eq_true rfl⟩ hK [0] rfl hP hD hS [0, 1] (by decide) rfl rfl hl.1 rfl (Nat.le_of_ble_eq_true rfl) dL_law_184 hcs (fun r9 U9 => r9 = (if apR ss ya = 0 then nI (ss + 1) else 0) ∧ U9 = [[((ar 0), .inr (7, [.int (apR ss ya), .ref (ar 1), .int (nI (if apR ss ya = 0 then ss + 1 else ss)), .int (nI (ps.2)), .int (bI (ps.1 = true)), .int (rb), .int (rl), .ref (ar 2), .ref (ar 3), .ref (ar 4), .ref (ar 5), .int (nI (ct)), .ref (ar 6), .ref (ar 7), .ref (ar 8)]))], [((ar 1), .inl (cI, 90, .inl (if apR ss ya = 0 then upd t ss ya else t)))]]) (fun r9 u9 h => ?_) (fun r9 U9 h => ?_) (fun r9 U9 H locs hpost hP hD hS => ?_)
    · obtain ⟨e9, rfl⟩ := h
      exact ⟨[[((ar 0), .inr (7, [.int (apR ss ya), .ref (ar 1), .int (nI (if apR ss ya = 0 then ss + 1 else ss)), .int (nI (ps.2)), .int (bI (ps.1 = true)), .int (rb), .int (rl), .ref (ar 2), .ref (ar 3), .ref (ar 4), .ref (ar 5), .int (nI (ct)), .ref (ar 6), .ref (ar 7), .ref (ar 8)]))], [((ar 1), .inl (cI, 90, .inl (if apR ss ya = 0 then upd t ss ya else t)))]], rfl, e9, rfl⟩
    · obtain ⟨-, rfl⟩ := h
      rfl
    obtain ⟨e9, rfl⟩ := hpost
    rw [if_neg hc] at e9
    subst e9
    have hP : va_P D vwCl (bw (rfB cI cZ ar (apR ss ya) rb rl ss ps ct t f ft flk fd fkp fik fl (lwB cI cL cZ cJ ad dl sf sg fo t ss q vv nx ct uf zz))) H := by
      try simp only [if_neg hc] at hP
      exact hP
    have hD : va_D A (bw (rfB cI cZ ar (apR ss ya) rb rl ss ps ct t f ft flk fd fkp fik fl (lwB cI cL cZ cJ ad dl sf sg fo t ss q vv nx ct uf zz))) := by
      try simp only [if_neg hc] at hD
      exact hD
    refine lv_istore (lv' := [(6, .int (0)), (5, .int (apR ss ya)), (0, .ref b), (1, .ref (ad 1)), (2, .ref (ar 0)), (3, .ref (ad 0)), (4, .int (nI (4 * i)))]) hx hb dL_law_187 hl (by decide) rfl (fun ls hl => ?_)
    exact lw_tail hL0 g7_thrown dL_law_189 dL_law_190 dL_law_193 dL_law_195 dL_law_200 dL_law_202 dL_law_205 dL_law_206 dL_law_207 dL_law_208 dL_law_210 dL_law_211 dL_law_212 dL_law_217 (by decide) hP hD hS hR (fun h9 => absurd h9 hc) hl hcs hk
set_option maxHeartbeats 4000000 in
set_option maxRecDepth 100000 in
theorem lc_undo : LCS 1030 p l e s m below meth c D cI cL cZ cJ ar ad dl sf sg A b L i cells slots xs Q := by
  intro hst hsf hsg hL0 hi hL9 H locs ls hcs hst0 hS hl hk
  obtain ⟨rf, rb, rl, ss, ps, t, f, ft, flk, fd, fkp, fik, fl, fo, q, vv, nx, ct, uf, zz, hP, hD, hR⟩ := hst0
  obtain ⟨hX, hr, hlocks, hK, hN, hE, hSW, hZ, hCN, hXs, hbl, hbA⟩ := id hL0
  obtain ⟨⟨hn, hq, hnx, hct⟩, hRz, hR3, hR4, hB⟩ := id hR
  have hx := hX.1
  have hb := hX.2.1
  have hown := hX.2.2.2.1
  have hts := hX.2.2.2.2
  have hin : ∀ k, k ≤ 3 → vp_in (nI (4 * i) + nI k) L := fun k hk => by rw [nI_add]; exact vp_in_nI (by omega) (by omega)
  obtain ⟨ya, hya⟩ : ∃ y, xs (nI (4 * i) + 1).toNatClampNeg = y := ⟨_, rfl⟩
  obtain ⟨yb, hyb⟩ : ∃ y, xs (nI (4 * i) + 2).toNatClampNeg = y := ⟨_, rfl⟩
  obtain ⟨yc, hyc⟩ : ∃ y, xs (nI (4 * i) + 3).toNatClampNeg = y := ⟨_, rfl⟩
  refine lv_aload_n hx hb dL_law_1030 rfl (lv_at hl 1 rfl) ?_
  refine lv_aload_n hx hb dL_law_1031 rfl (lv_at hl 3 rfl) ?_
  refine lw_help hX (cL_undoH l hst D cI cL cZ cJ ad dl sf sg hsf hsg fo t ss q hn hq vv nx ct hnx hct uf zz hRz.1 hB ) ⟨by decide, by decide, show (parseMethodDescriptor yL_undo.desc).map (fun d => d.parameters.length) = some 2 by decide +kernel⟩ rfl gL_undo ⟨Nat.le_of_ble_eq_true rfl, Nat.le_of_ble_eq_true rfl⟩ hK hN hE hSW hZ hCN [0, 1, 2, 3] rfl hP hD hS (List.range' 9 27) (by decide) (rf_sub lw_len) hl.1 rfl (Nat.le_of_ble_eq_true rfl) dL_law_1032 hcs (fun r u h => ?_) (fun r u H locs hpost hP hD hS => ?_)
  · rcases h with ⟨-, -, rfl⟩ | ⟨-, -, rfl⟩ <;> exact lw_adr
  rw [r_und] at hpost
  rcases hpost with ⟨hc, rfl, rfl⟩ | ⟨hc, rfl, rfl⟩
  · rw [rf_put lw_len lw_len] at hP hD
    refine lv_istore (lv' := [(5, .int (0)), (0, .ref b), (1, .ref (ad 1)), (2, .ref (ar 0)), (3, .ref (ad 0)), (4, .int (nI (4 * i)))]) hx hb dL_law_1035 hl (by decide) rfl (fun ls hl => ?_)
    refine lv_aload_n hx hb dL_law_1037 rfl (lv_at hl 3 rfl) ?_
    refine lw_refi hX (c7_undo l D cI cZ (ar 0) (ar 1) (ar 2) (ar 3) (ar 4) (ar 5) (ar 6) (ar 7) (ar 8) rf rb rl ct ss ps f fd hct) (Cs := [[((ar 0), .inr (7, [.int (rf), .ref (ar 1), .int (nI (ss)), .int (nI (ps.2)), .int (bI (ps.1 = true)), .int (rb), .int (rl), .ref (ar 2), .ref (ar 3), .ref (ar 4), .ref (ar 5), .int (nI (ct)), .ref (ar 6), .ref (ar 7), .ref (ar 8)]))], [((ar 2), .inl (cI, 151, .inl f))], [((ar 5), .inl (cI, 2114, .inl fd))]]) rfl ⟨by decide, by decide, show (parseMethodDescriptor yX7_undo.desc).map (fun d => d.parameters.length) = some 0 by decide +kernel⟩ rfl g7_undo ⟨Nat.le_of_ble_eq_true rfl, Nat.le_of_ble_eq_true rfl⟩ hK [0] rfl hP hD hS [0, 2, 5] (by decide) rfl rfl hl.1 rfl (Nat.le_of_ble_eq_true rfl) dL_law_1038 hcs (fun r9 U9 => r9 = (if undR ct = 0 then nI (ct - 1) else 0) ∧ U9 = [[((ar 0), .inr (7, [.int (undR ct), .ref (ar 1), .int (nI (ss)), .int (nI (ps.2)), .int (bI (ps.1 = true)), .int (rb), .int (rl), .ref (ar 2), .ref (ar 3), .ref (ar 4), .ref (ar 5), .int (nI (if undR ct = 0 then ct - 1 else ct)), .ref (ar 6), .ref (ar 7), .ref (ar 8)]))], [((ar 2), .inl (cI, 151, .inl (if undR ct = 0 then rowA fd (ct - 1) else f)))], [((ar 5), .inl (cI, 2114, .inl fd))]]) (fun r9 u9 h => ?_) (fun r9 U9 h => ?_) (fun r9 U9 H locs hpost hP hD hS => ?_)
    · obtain ⟨e9, rfl⟩ := h
      exact ⟨[[((ar 0), .inr (7, [.int (undR ct), .ref (ar 1), .int (nI (ss)), .int (nI (ps.2)), .int (bI (ps.1 = true)), .int (rb), .int (rl), .ref (ar 2), .ref (ar 3), .ref (ar 4), .ref (ar 5), .int (nI (if undR ct = 0 then ct - 1 else ct)), .ref (ar 6), .ref (ar 7), .ref (ar 8)]))], [((ar 2), .inl (cI, 151, .inl (if undR ct = 0 then rowA fd (ct - 1) else f)))], [((ar 5), .inl (cI, 2114, .inl fd))]], rfl, e9, rfl⟩
    · obtain ⟨-, rfl⟩ := h
      rfl
    obtain ⟨e9, rfl⟩ := hpost
    rw [if_pos hc] at e9
    subst e9
    have hP : va_P D vwCl (bw (rfB cI cZ ar 0 rb rl ss ps (ct - 1) t (rowA fd (ct - 1)) ft flk fd fkp fik fl (lwB cI cL cZ cJ ad dl sf sg (vp_updL fo 0 (nI (ct - 1) : Int32).toInt64) t ss q vv ((nx + 14 - 1) % 14) (ct - 1) uf (va_up zz 16 (zz ((nx + 14 - 1) % 14)))))) H := by
      rw [hc] at hP
      exact hP
    have hD : va_D A (bw (rfB cI cZ ar 0 rb rl ss ps (ct - 1) t (rowA fd (ct - 1)) ft flk fd fkp fik fl (lwB cI cL cZ cJ ad dl sf sg (vp_updL fo 0 (nI (ct - 1) : Int32).toInt64) t ss q vv ((nx + 14 - 1) % 14) (ct - 1) uf (va_up zz 16 (zz ((nx + 14 - 1) % 14)))))) := by
      rw [hc] at hD
      exact hD
    refine lv_istore (lv' := [(6, .int (nI (ct - 1))), (5, .int (0)), (0, .ref b), (1, .ref (ad 1)), (2, .ref (ar 0)), (3, .ref (ad 0)), (4, .int (nI (4 * i)))]) hx hb dL_law_1041 hl (by decide) rfl (fun ls hl => ?_)
    exact lw_tail hL0 g7_thrown dL_law_1043 dL_law_1044 dL_law_1047 dL_law_1049 dL_law_1054 dL_law_1056 dL_law_1059 dL_law_1060 dL_law_1061 dL_law_1062 dL_law_1064 dL_law_1065 dL_law_1066 dL_law_1071 (by decide) hP hD hS (rel_undo hR (fun h9 => by rw [undR, if_pos h9] at hc; exact absurd hc (by decide)) (va_up_self _ _ _) (fun j h1 => va_up_ne _ _ (by omega)) (vaB hB (hB _))) (fun _ => (show vp_updL fo 0 ((nI (ct - 1) : Int32).toInt64) 0 = (nI (ct - 1) : Int32).toInt64 from (if_pos rfl).trans (congrArg Int32.toInt64 (rfl)))) hl hcs hk
  · rw [rf_put lw_len lw_len] at hP hD
    refine lv_istore (lv' := [(5, .int (undR ct)), (0, .ref b), (1, .ref (ad 1)), (2, .ref (ar 0)), (3, .ref (ad 0)), (4, .int (nI (4 * i)))]) hx hb dL_law_1035 hl (by decide) rfl (fun ls hl => ?_)
    refine lv_aload_n hx hb dL_law_1037 rfl (lv_at hl 3 rfl) ?_
    refine lw_refi hX (c7_undo l D cI cZ (ar 0) (ar 1) (ar 2) (ar 3) (ar 4) (ar 5) (ar 6) (ar 7) (ar 8) rf rb rl ct ss ps f fd hct) (Cs := [[((ar 0), .inr (7, [.int (rf), .ref (ar 1), .int (nI (ss)), .int (nI (ps.2)), .int (bI (ps.1 = true)), .int (rb), .int (rl), .ref (ar 2), .ref (ar 3), .ref (ar 4), .ref (ar 5), .int (nI (ct)), .ref (ar 6), .ref (ar 7), .ref (ar 8)]))], [((ar 2), .inl (cI, 151, .inl f))], [((ar 5), .inl (cI, 2114, .inl fd))]]) rfl ⟨by decide, by decide, show (parseMethodDescriptor yX7_undo.desc).map (fun d => d.parameters.length) = some 0 by decide +kernel⟩ rfl g7_undo ⟨Nat.le_of_ble_eq_true rfl, Nat.le_of_ble_eq_true rfl⟩ hK [0] rfl hP hD hS [0, 2, 5] (by decide) rfl rfl hl.1 rfl (Nat.le_of_ble_eq_true rfl) dL_law_1038 hcs (fun r9 U9 => r9 = (if undR ct = 0 then nI (ct - 1) else 0) ∧ U9 = [[((ar 0), .inr (7, [.int (undR ct), .ref (ar 1), .int (nI (ss)), .int (nI (ps.2)), .int (bI (ps.1 = true)), .int (rb), .int (rl), .ref (ar 2), .ref (ar 3), .ref (ar 4), .ref (ar 5), .int (nI (if undR ct = 0 then ct - 1 else ct)), .ref (ar 6), .ref (ar 7), .ref (ar 8)]))], [((ar 2), .inl (cI, 151, .inl (if undR ct = 0 then rowA fd (ct - 1) else f)))], [((ar 5), .inl (cI, 2114, .inl fd))]]) (fun r9 u9 h => ?_) (fun r9 U9 h => ?_) (fun r9 U9 H locs hpost hP hD hS => ?_)
    · obtain ⟨e9, rfl⟩ := h
      exact ⟨[[((ar 0), .inr (7, [.int (undR ct), .ref (ar 1), .int (nI (ss)), .int (nI (ps.2)), .int (bI (ps.1 = true)), .int (rb), .int (rl), .ref (ar 2), .ref (ar 3), .ref (ar 4), .ref (ar 5), .int (nI (if undR ct = 0 then ct - 1 else ct)), .ref (ar 6), .ref (ar 7), .ref (ar 8)]))], [((ar 2), .inl (cI, 151, .inl (if undR ct = 0 then rowA fd (ct - 1) else f)))], [((ar 5), .inl (cI, 2114, .inl fd))]], rfl, e9, rfl⟩
    · obtain ⟨-, rfl⟩ := h
      rfl
    obtain ⟨e9, rfl⟩ := hpost
    rw [if_neg hc] at e9
    subst e9
    have hP : va_P D vwCl (bw (rfB cI cZ ar (undR ct) rb rl ss ps ct t f ft flk fd fkp fik fl (lwB cI cL cZ cJ ad dl sf sg fo t ss q vv nx ct uf zz))) H := by
      try simp only [if_neg hc] at hP
      exact hP
    have hD : va_D A (bw (rfB cI cZ ar (undR ct) rb rl ss ps ct t f ft flk fd fkp fik fl (lwB cI cL cZ cJ ad dl sf sg fo t ss q vv nx ct uf zz))) := by
      try simp only [if_neg hc] at hD
      exact hD
    refine lv_istore (lv' := [(6, .int (0)), (5, .int (undR ct)), (0, .ref b), (1, .ref (ad 1)), (2, .ref (ar 0)), (3, .ref (ad 0)), (4, .int (nI (4 * i)))]) hx hb dL_law_1041 hl (by decide) rfl (fun ls hl => ?_)
    exact lw_tail hL0 g7_thrown dL_law_1043 dL_law_1044 dL_law_1047 dL_law_1049 dL_law_1054 dL_law_1056 dL_law_1059 dL_law_1060 dL_law_1061 dL_law_1062 dL_law_1064 dL_law_1065 dL_law_1066 dL_law_1071 (by decide) hP hD hS hR (fun h9 => absurd h9 hc) hl hcs hk
set_option maxHeartbeats 4000000 in
set_option maxRecDepth 100000 in
theorem lc_operations : LCS 1100 p l e s m below meth c D cI cL cZ cJ ar ad dl sf sg A b L i cells slots xs Q := by
  intro hst hsf hsg hL0 hi hL9 H locs ls hcs hst0 hS hl hk
  obtain ⟨rf, rb, rl, ss, ps, t, f, ft, flk, fd, fkp, fik, fl, fo, q, vv, nx, ct, uf, zz, hP, hD, hR⟩ := hst0
  obtain ⟨hX, hr, hlocks, hK, hN, hE, hSW, hZ, hCN, hXs, hbl, hbA⟩ := id hL0
  obtain ⟨⟨hn, hq, hnx, hct⟩, hRz, hR3, hR4, hB⟩ := id hR
  have hx := hX.1
  have hb := hX.2.1
  have hown := hX.2.2.2.1
  have hts := hX.2.2.2.2
  have hin : ∀ k, k ≤ 3 → vp_in (nI (4 * i) + nI k) L := fun k hk => by rw [nI_add]; exact vp_in_nI (by omega) (by omega)
  obtain ⟨ya, hya⟩ : ∃ y, xs (nI (4 * i) + 1).toNatClampNeg = y := ⟨_, rfl⟩
  obtain ⟨yb, hyb⟩ : ∃ y, xs (nI (4 * i) + 2).toNatClampNeg = y := ⟨_, rfl⟩
  obtain ⟨yc, hyc⟩ : ∃ y, xs (nI (4 * i) + 3).toNatClampNeg = y := ⟨_, rfl⟩
  refine lv_aload_n hx hb dL_law_1100 rfl (lv_at hl 1 rfl) ?_
  refine lv_aload_n hx hb dL_law_1101 rfl (lv_at hl 3 rfl) ?_
  refine lw_help hX (cL_operationsH l hst D cI cL cZ cJ ad dl sf sg hsf hsg fo t ss q hn hq vv nx ct hnx hct uf zz hRz.1 hB ) ⟨by decide, by decide, show (parseMethodDescriptor yL_operations.desc).map (fun d => d.parameters.length) = some 2 by decide +kernel⟩ rfl gL_operations ⟨Nat.le_of_ble_eq_true rfl, Nat.le_of_ble_eq_true rfl⟩ hK hN hE hSW hZ hCN [0, 1, 2, 3] rfl hP hD hS (List.range' 9 27) (by decide) (rf_sub lw_len) hl.1 rfl (Nat.le_of_ble_eq_true rfl) dL_law_1102 hcs (fun r u h => ?_) (fun r u H locs hpost hP hD hS => ?_)
  · rcases h with ⟨-, -, zt9, hz0, rfl⟩ | ⟨-, -, zt9, hz0, rfl⟩ <;> exact lw_adr
  rw [r_ops hRz] at hpost
  rcases hpost with ⟨hc, rfl, zt9, hz0, rfl⟩ | ⟨hc, rfl, zt9, hz0, rfl⟩
  · rw [rf_put lw_len lw_len] at hP hD
    refine lv_istore (lv' := [(5, .int (0)), (0, .ref b), (1, .ref (ad 1)), (2, .ref (ar 0)), (3, .ref (ad 0)), (4, .int (nI (4 * i)))]) hx hb dL_law_1105 hl (by decide) rfl (fun ls hl => ?_)
    refine lv_aload_n hx hb dL_law_1107 rfl (lv_at hl 3 rfl) ?_
    refine lw_refi hX (c7_operations l D cI cZ (ar 0) (ar 1) (ar 2) (ar 3) (ar 4) (ar 5) (ar 6) (ar 7) (ar 8) rf rb rl ct ss ps f (zz 16).1.2 flk fl (rz_ok hRz)) (Cs := [[((ar 0), .inr (7, [.int (rf), .ref (ar 1), .int (nI (ss)), .int (nI (ps.2)), .int (bI (ps.1 = true)), .int (rb), .int (rl), .ref (ar 2), .ref (ar 3), .ref (ar 4), .ref (ar 5), .int (nI (ct)), .ref (ar 6), .ref (ar 7), .ref (ar 8)]))], [((ar 2), .inl (cI, 151, .inl f))], [((ar 4), .inl (cI, 151, .inl flk))], [((ar 8), .inl (cI, 4, .inl fl))]]) rfl ⟨by decide, by decide, show (parseMethodDescriptor yX7_operations.desc).map (fun d => d.parameters.length) = some 0 by decide +kernel⟩ rfl g7_operations ⟨Nat.le_of_ble_eq_true rfl, Nat.le_of_ble_eq_true rfl⟩ hK [0] rfl hP hD hS [0, 2, 4, 8] (by decide) rfl rfl hl.1 rfl (Nat.le_of_ble_eq_true rfl) dL_law_1108 hcs (fun r9 U9 => r9 = (if opsR f (zz 16).1.2 = 0 then (lookT (zz 16).1.2 f).2 7 - f 7 else 0) ∧ ∃ fl9 : Nat → Int32, ∃ lk9 : Nat → Int32, U9 = [[((ar 0), .inr (7, [.int (opsR f (zz 16).1.2), .ref (ar 1), .int (nI (ss)), .int (nI (ps.2)), .int (bI (ps.1 = true)), .int (rb), .int (rl), .ref (ar 2), .ref (ar 3), .ref (ar 4), .ref (ar 5), .int (nI (ct)), .ref (ar 6), .ref (ar 7), .ref (ar 8)]))], [((ar 2), .inl (cI, 151, .inl f))], [((ar 4), .inl (cI, 151, .inl lk9))], [((ar 8), .inl (cI, 4, .inl fl9))]]) (fun r9 u9 h => ?_) (fun r9 U9 h => ?_) (fun r9 U9 H locs hpost hP hD hS => ?_)
    · obtain ⟨e9, fl9, lk9, rfl⟩ := h
      exact ⟨[[((ar 0), .inr (7, [.int (opsR f (zz 16).1.2), .ref (ar 1), .int (nI (ss)), .int (nI (ps.2)), .int (bI (ps.1 = true)), .int (rb), .int (rl), .ref (ar 2), .ref (ar 3), .ref (ar 4), .ref (ar 5), .int (nI (ct)), .ref (ar 6), .ref (ar 7), .ref (ar 8)]))], [((ar 2), .inl (cI, 151, .inl f))], [((ar 4), .inl (cI, 151, .inl lk9))], [((ar 8), .inl (cI, 4, .inl fl9))]], rfl, e9, fl9, lk9, rfl⟩
    · obtain ⟨-, fl9, lk9, rfl⟩ := h
      rfl
    obtain ⟨e9, fl9, lk9, rfl⟩ := hpost
    rw [if_pos hc] at e9
    subst e9
    have hP : va_P D vwCl (bw (rfB cI cZ ar 0 rb rl ss ps ct t f ft lk9 fd fkp fik fl9 (lwB cI cL cZ cJ ad dl sf sg (vp_updL fo 0 (csV (zz 16) : Int32).toInt64) t ss q vv nx ct uf (va_up zz 18 zt9)))) H := by
      rw [hc] at hP
      exact hP
    have hD : va_D A (bw (rfB cI cZ ar 0 rb rl ss ps ct t f ft lk9 fd fkp fik fl9 (lwB cI cL cZ cJ ad dl sf sg (vp_updL fo 0 (csV (zz 16) : Int32).toInt64) t ss q vv nx ct uf (va_up zz 18 zt9)))) := by
      rw [hc] at hD
      exact hD
    refine lv_istore (lv' := [(6, .int ((lookT (zz 16).1.2 f).2 7 - f 7)), (5, .int (0)), (0, .ref b), (1, .ref (ad 1)), (2, .ref (ar 0)), (3, .ref (ad 0)), (4, .int (nI (4 * i)))]) hx hb dL_law_1111 hl (by decide) rfl (fun ls hl => ?_)
    exact lw_tail hL0 g7_thrown dL_law_1113 dL_law_1114 dL_law_1117 dL_law_1119 dL_law_1124 dL_law_1126 dL_law_1129 dL_law_1130 dL_law_1131 dL_law_1132 dL_law_1134 dL_law_1135 dL_law_1136 dL_law_1141 (by decide) hP hD hS (rel_keep hR (fun j h1 => by rw [va_up_ne _ _ (show j ≠ 18 by omega)]) (vaB hB hz0) hn hq) (fun _ => (show vp_updL fo 0 ((csV (zz 16) : Int32).toInt64) 0 = ((lookT (zz 16).1.2 f).2 7 - f 7 : Int32).toInt64 from (if_pos rfl).trans (congrArg Int32.toInt64 (v_ops hRz hc)))) hl hcs hk
  · rw [rf_put lw_len lw_len] at hP hD
    refine lv_istore (lv' := [(5, .int (opsR f (zz 16).1.2)), (0, .ref b), (1, .ref (ad 1)), (2, .ref (ar 0)), (3, .ref (ad 0)), (4, .int (nI (4 * i)))]) hx hb dL_law_1105 hl (by decide) rfl (fun ls hl => ?_)
    refine lv_aload_n hx hb dL_law_1107 rfl (lv_at hl 3 rfl) ?_
    refine lw_refi hX (c7_operations l D cI cZ (ar 0) (ar 1) (ar 2) (ar 3) (ar 4) (ar 5) (ar 6) (ar 7) (ar 8) rf rb rl ct ss ps f (zz 16).1.2 flk fl (rz_ok hRz)) (Cs := [[((ar 0), .inr (7, [.int (rf), .ref (ar 1), .int (nI (ss)), .int (nI (ps.2)), .int (bI (ps.1 = true)), .int (rb), .int (rl), .ref (ar 2), .ref (ar 3), .ref (ar 4), .ref (ar 5), .int (nI (ct)), .ref (ar 6), .ref (ar 7), .ref (ar 8)]))], [((ar 2), .inl (cI, 151, .inl f))], [((ar 4), .inl (cI, 151, .inl flk))], [((ar 8), .inl (cI, 4, .inl fl))]]) rfl ⟨by decide, by decide, show (parseMethodDescriptor yX7_operations.desc).map (fun d => d.parameters.length) = some 0 by decide +kernel⟩ rfl g7_operations ⟨Nat.le_of_ble_eq_true rfl, Nat.le_of_ble_eq_true rfl⟩ hK [0] rfl hP hD hS [0, 2, 4, 8] (by decide) rfl rfl hl.1 rfl (Nat.le_of_ble_eq_true rfl) dL_law_1108 hcs (fun r9 U9 => r9 = (if opsR f (zz 16).1.2 = 0 then (lookT (zz 16).1.2 f).2 7 - f 7 else 0) ∧ ∃ fl9 : Nat → Int32, ∃ lk9 : Nat → Int32, U9 = [[((ar 0), .inr (7, [.int (opsR f (zz 16).1.2), .ref (ar 1), .int (nI (ss)), .int (nI (ps.2)), .int (bI (ps.1 = true)), .int (rb), .int (rl), .ref (ar 2), .ref (ar 3), .ref (ar 4), .ref (ar 5), .int (nI (ct)), .ref (ar 6), .ref (ar 7), .ref (ar 8)]))], [((ar 2), .inl (cI, 151, .inl f))], [((ar 4), .inl (cI, 151, .inl lk9))], [((ar 8), .inl (cI, 4, .inl fl9))]]) (fun r9 u9 h => ?_) (fun r9 U9 h => ?_) (fun r9 U9 H locs hpost hP hD hS => ?_)
    · obtain ⟨e9, fl9, lk9, rfl⟩ := h
      exact ⟨[[((ar 0), .inr (7, [.int (opsR f (zz 16).1.2), .ref (ar 1), .int (nI (ss)), .int (nI (ps.2)), .int (bI (ps.1 = true)), .int (rb), .int (rl), .ref (ar 2), .ref (ar 3), .ref (ar 4), .ref (ar 5), .int (nI (ct)), .ref (ar 6), .ref (ar 7), .ref (ar 8)]))], [((ar 2), .inl (cI, 151, .inl f))], [((ar 4), .inl (cI, 151, .inl lk9))], [((ar 8), .inl (cI, 4, .inl fl9))]], rfl, e9, fl9, lk9, rfl⟩
    · obtain ⟨-, fl9, lk9, rfl⟩ := h
      rfl
    obtain ⟨e9, fl9, lk9, rfl⟩ := hpost
    rw [if_neg hc] at e9
    subst e9
    have hP : va_P D vwCl (bw (rfB cI cZ ar (opsR f (zz 16).1.2) rb rl ss ps ct t f ft lk9 fd fkp fik fl9 (lwB cI cL cZ cJ ad dl sf sg fo t ss q vv nx ct uf (va_up zz 18 zt9)))) H := by
      try simp only [if_neg hc] at hP
      exact hP
    have hD : va_D A (bw (rfB cI cZ ar (opsR f (zz 16).1.2) rb rl ss ps ct t f ft lk9 fd fkp fik fl9 (lwB cI cL cZ cJ ad dl sf sg fo t ss q vv nx ct uf (va_up zz 18 zt9)))) := by
      try simp only [if_neg hc] at hD
      exact hD
    refine lv_istore (lv' := [(6, .int (0)), (5, .int (opsR f (zz 16).1.2)), (0, .ref b), (1, .ref (ad 1)), (2, .ref (ar 0)), (3, .ref (ad 0)), (4, .int (nI (4 * i)))]) hx hb dL_law_1111 hl (by decide) rfl (fun ls hl => ?_)
    exact lw_tail hL0 g7_thrown dL_law_1113 dL_law_1114 dL_law_1117 dL_law_1119 dL_law_1124 dL_law_1126 dL_law_1129 dL_law_1130 dL_law_1131 dL_law_1132 dL_law_1134 dL_law_1135 dL_law_1136 dL_law_1141 (by decide) hP hD hS (rel_keep hR (fun j h1 => by rw [va_up_ne _ _ (show j ≠ 18 by omega)]) (vaB hB hz0) hn hq) (fun h9 => absurd h9 hc) hl hcs hk
set_option maxHeartbeats 4000000 in
set_option maxRecDepth 100000 in
theorem lc_afterCut : LCS 1144 p l e s m below meth c D cI cL cZ cJ ar ad dl sf sg A b L i cells slots xs Q := by
  intro hst hsf hsg hL0 hi hL9 H locs ls hcs hst0 hS hl hk
  obtain ⟨rf, rb, rl, ss, ps, t, f, ft, flk, fd, fkp, fik, fl, fo, q, vv, nx, ct, uf, zz, hP, hD, hR⟩ := hst0
  obtain ⟨hX, hr, hlocks, hK, hN, hE, hSW, hZ, hCN, hXs, hbl, hbA⟩ := id hL0
  obtain ⟨⟨hn, hq, hnx, hct⟩, hRz, hR3, hR4, hB⟩ := id hR
  have hx := hX.1
  have hb := hX.2.1
  have hown := hX.2.2.2.1
  have hts := hX.2.2.2.2
  have hin : ∀ k, k ≤ 3 → vp_in (nI (4 * i) + nI k) L := fun k hk => by rw [nI_add]; exact vp_in_nI (by omega) (by omega)
  obtain ⟨ya, hya⟩ : ∃ y, xs (nI (4 * i) + 1).toNatClampNeg = y := ⟨_, rfl⟩
  obtain ⟨yb, hyb⟩ : ∃ y, xs (nI (4 * i) + 2).toNatClampNeg = y := ⟨_, rfl⟩
  obtain ⟨yc, hyc⟩ : ∃ y, xs (nI (4 * i) + 3).toNatClampNeg = y := ⟨_, rfl⟩
  refine lv_aload_n hx hb dL_law_1144 rfl (lv_at hl 1 rfl) ?_
  refine lv_aload_n hx hb dL_law_1145 rfl (lv_at hl 0 rfl) ?_
  refine lv_iload hx hb dL_law_1146 (lv_at hl 4 rfl) ?_
  refine lv_iconst (v := 1) hx hb dL_law_1148 (by decide) ?_
  refine lv_iadd hx hb dL_law_1149 ?_
  refine va_sld hx hb hXs hbl hbA hS (hin 1 (by decide)) dL_law_1150 ?_
  rw [hya]
  refine lv_aload_n hx hb dL_law_1151 rfl (lv_at hl 0 rfl) ?_
  refine lv_iload hx hb dL_law_1152 (lv_at hl 4 rfl) ?_
  refine lv_iconst (v := 2) hx hb dL_law_1154 (by decide) ?_
  refine lv_iadd hx hb dL_law_1155 ?_
  refine va_sld hx hb hXs hbl hbA hS (hin 2 (by decide)) dL_law_1156 ?_
  rw [hyb]
  refine lv_aload_n hx hb dL_law_1157 rfl (lv_at hl 0 rfl) ?_
  refine lv_iload hx hb dL_law_1158 (lv_at hl 4 rfl) ?_
  refine lv_iconst (v := 3) hx hb dL_law_1160 (by decide) ?_
  refine lv_iadd hx hb dL_law_1161 ?_
  refine va_sld hx hb hXs hbl hbA hS (hin 3 (by decide)) dL_law_1162 ?_
  rw [hyc]
  refine lv_aload_n hx hb dL_law_1163 rfl (lv_at hl 3 rfl) ?_
  refine lw_help hX (cL_afterCutH l hst D cI cL cZ cJ ad dl sf sg hsf hsg fo t ss q hn hq vv nx ct hnx hct uf zz hRz.1 hB ya yb yc) ⟨by decide, by decide, show (parseMethodDescriptor yL_afterCut.desc).map (fun d => d.parameters.length) = some 5 by decide +kernel⟩ rfl gL_afterCut ⟨Nat.le_of_ble_eq_true rfl, Nat.le_of_ble_eq_true rfl⟩ hK hN hE hSW hZ hCN [0, 1, 2, 3] rfl hP hD hS (List.range' 9 27) (by decide) (rf_sub lw_len) hl.1 rfl (Nat.le_of_ble_eq_true rfl) dL_law_1164 hcs (fun r u h => ?_) (fun r u H locs hpost hP hD hS => ?_)
  · rcases h with ⟨-, -, zc9, zt9, hz0, hz1, rfl⟩ | ⟨-, -, zc9, zt9, hz0, hz1, rfl⟩ <;> exact lw_adr
  rw [r_afc hRz] at hpost
  rcases hpost with ⟨hc, rfl, zc9, zt9, hz0, hz1, rfl⟩ | ⟨hc, rfl, zc9, zt9, hz0, hz1, rfl⟩
  · rw [rf_put lw_len lw_len] at hP hD
    refine lv_istore (lv' := [(5, .int (0)), (0, .ref b), (1, .ref (ad 1)), (2, .ref (ar 0)), (3, .ref (ad 0)), (4, .int (nI (4 * i)))]) hx hb dL_law_1167 hl (by decide) rfl (fun ls hl => ?_)
    refine lv_aload_n hx hb dL_law_1169 rfl (lv_at hl 3 rfl) ?_
    refine lv_aload_n hx hb dL_law_1170 rfl (lv_at hl 1 rfl) ?_
    refine lv_iload hx hb dL_law_1171 (lv_at hl 5 rfl) ?_
    refine lv_iconst (v := 1) hx hb dL_law_1173 (by decide) ?_
    refine lv_iadd hx hb dL_law_1174 ?_
    refine va_sld hx hb hXs hbl hbA hS (hin 1 (by decide)) dL_law_1175 ?_
    rw [hya]
    refine lv_aload_n hx hb dL_law_1176 rfl (lv_at hl 1 rfl) ?_
    refine lv_iload hx hb dL_law_1177 (lv_at hl 5 rfl) ?_
    refine lv_iconst (v := 2) hx hb dL_law_1179 (by decide) ?_
    refine lv_iadd hx hb dL_law_1180 ?_
    refine va_sld hx hb hXs hbl hbA hS (hin 2 (by decide)) dL_law_1181 ?_
    rw [hyb]
    refine lv_aload_n hx hb dL_law_1182 rfl (lv_at hl 1 rfl) ?_
    refine lv_iload hx hb dL_law_1183 (lv_at hl 5 rfl) ?_
    refine lv_iconst (v := 3) hx hb dL_law_1185 (by decide) ?_
    refine lv_iadd hx hb dL_law_1186 ?_
    refine va_sld hx hb hXs hbl hbA hS (hin 3 (by decide)) dL_law_1187 ?_
    rw [hyc]
    refine lw_refi hX (c7_afterCut l D cI cZ (ar 0) (ar 1) (ar 2) (ar 3) (ar 4) (ar 5) (ar 6) (ar 7) (ar 8) rf rb rl ct ss ps f (zz 16).1.2 ft flk fl (rz_ok hRz) ya yb yc (fun h9 => ok_afc hRz h9)) (Cs := [[((ar 0), .inr (7, [.int (rf), .ref (ar 1), .int (nI (ss)), .int (nI (ps.2)), .int (bI (ps.1 = true)), .int (rb), .int (rl), .ref (ar 2), .ref (ar 3), .ref (ar 4), .ref (ar 5), .int (nI (ct)), .ref (ar 6), .ref (ar 7), .ref (ar 8)]))], [((ar 2), .inl (cI, 151, .inl f))], [((ar 3), .inl (cI, 151, .inl ft))], [((ar 4), .inl (cI, 151, .inl flk))], [((ar 8), .inl (cI, 4, .inl fl))]]) rfl ⟨by decide, by decide, show (parseMethodDescriptor yX7_afterCut.desc).map (fun d => d.parameters.length) = some 3 by decide +kernel⟩ rfl g7_afterCut ⟨Nat.le_of_ble_eq_true rfl, Nat.le_of_ble_eq_true rfl⟩ hK [0] rfl hP hD hS [0, 2, 3, 4, 8] (by decide) rfl rfl hl.1 rfl (Nat.le_of_ble_eq_true rfl) dL_law_1188 hcs (fun r9 U9 => r9 = (if afcR f (zz 16).1.2 ya yb yc = 0 then vlu (recT (zz 16).1.2 ya yb (upd f 5 yc)).2 ya (zz 16).1.2 else 0) ∧ ∃ tr9 : Nat → Int32, ∃ fl9 : Nat → Int32, ∃ lk9 : Nat → Int32, U9 = [[((ar 0), .inr (7, [.int (afcR f (zz 16).1.2 ya yb yc), .ref (ar 1), .int (nI (ss)), .int (nI (ps.2)), .int (bI (ps.1 = true)), .int (rb), .int (rl), .ref (ar 2), .ref (ar 3), .ref (ar 4), .ref (ar 5), .int (nI (ct)), .ref (ar 6), .ref (ar 7), .ref (ar 8)]))], [((ar 2), .inl (cI, 151, .inl f))], [((ar 3), .inl (cI, 151, .inl tr9))], [((ar 4), .inl (cI, 151, .inl lk9))], [((ar 8), .inl (cI, 4, .inl fl9))]]) (fun r9 u9 h => ?_) (fun r9 U9 h => ?_) (fun r9 U9 H locs hpost hP hD hS => ?_)
    · obtain ⟨e9, tr9, fl9, lk9, rfl⟩ := h
      exact ⟨[[((ar 0), .inr (7, [.int (afcR f (zz 16).1.2 ya yb yc), .ref (ar 1), .int (nI (ss)), .int (nI (ps.2)), .int (bI (ps.1 = true)), .int (rb), .int (rl), .ref (ar 2), .ref (ar 3), .ref (ar 4), .ref (ar 5), .int (nI (ct)), .ref (ar 6), .ref (ar 7), .ref (ar 8)]))], [((ar 2), .inl (cI, 151, .inl f))], [((ar 3), .inl (cI, 151, .inl tr9))], [((ar 4), .inl (cI, 151, .inl lk9))], [((ar 8), .inl (cI, 4, .inl fl9))]], rfl, e9, tr9, fl9, lk9, rfl⟩
    · obtain ⟨-, tr9, fl9, lk9, rfl⟩ := h
      rfl
    obtain ⟨e9, tr9, fl9, lk9, rfl⟩ := hpost
    rw [if_pos hc] at e9
    subst e9
    have hP : va_P D vwCl (bw (rfB cI cZ ar 0 rb rl ss ps ct t f tr9 lk9 fd fkp fik fl9 (lwB cI cL cZ cJ ad dl sf sg (vp_updL fo 0 (vaZ (afZ (zz 16) ya.toNatClampNeg yb yc.toNatClampNeg) ya : Int32).toInt64) t ss q vv nx ct uf (va_up (va_up zz 17 zc9) 18 zt9)))) H := by
      rw [hc] at hP
      exact hP
    have hD : va_D A (bw (rfB cI cZ ar 0 rb rl ss ps ct t f tr9 lk9 fd fkp fik fl9 (lwB cI cL cZ cJ ad dl sf sg (vp_updL fo 0 (vaZ (afZ (zz 16) ya.toNatClampNeg yb yc.toNatClampNeg) ya : Int32).toInt64) t ss q vv nx ct uf (va_up (va_up zz 17 zc9) 18 zt9)))) := by
      rw [hc] at hD
      exact hD
    refine lv_istore (lv' := [(6, .int (vlu (recT (zz 16).1.2 ya yb (upd f 5 yc)).2 ya (zz 16).1.2)), (5, .int (0)), (0, .ref b), (1, .ref (ad 1)), (2, .ref (ar 0)), (3, .ref (ad 0)), (4, .int (nI (4 * i)))]) hx hb dL_law_1191 hl (by decide) rfl (fun ls hl => ?_)
    exact lw_tail hL0 g7_thrown dL_law_1193 dL_law_1194 dL_law_1197 dL_law_1199 dL_law_1204 dL_law_1206 dL_law_1209 dL_law_1210 dL_law_1211 dL_law_1212 dL_law_1214 dL_law_1215 dL_law_1216 dL_law_1221 (by decide) hP hD hS (rel_keep hR (fun j h1 => by rw [va_up_ne _ _ (show j ≠ 18 by omega), va_up_ne _ _ (show j ≠ 17 by omega)]) (vaB (vaB hB hz0) hz1) hn hq) (fun _ => (show vp_updL fo 0 ((vaZ (afZ (zz 16) ya.toNatClampNeg yb yc.toNatClampNeg) ya : Int32).toInt64) 0 = (vlu (recT (zz 16).1.2 ya yb (upd f 5 yc)).2 ya (zz 16).1.2 : Int32).toInt64 from (if_pos rfl).trans (congrArg Int32.toInt64 (v_afc hRz hc)))) hl hcs hk
  · rw [rf_put lw_len lw_len] at hP hD
    refine lv_istore (lv' := [(5, .int (afcR f (zz 16).1.2 ya yb yc)), (0, .ref b), (1, .ref (ad 1)), (2, .ref (ar 0)), (3, .ref (ad 0)), (4, .int (nI (4 * i)))]) hx hb dL_law_1167 hl (by decide) rfl (fun ls hl => ?_)
    refine lv_aload_n hx hb dL_law_1169 rfl (lv_at hl 3 rfl) ?_
    refine lv_aload_n hx hb dL_law_1170 rfl (lv_at hl 1 rfl) ?_
    refine lv_iload hx hb dL_law_1171 (lv_at hl 5 rfl) ?_
    refine lv_iconst (v := 1) hx hb dL_law_1173 (by decide) ?_
    refine lv_iadd hx hb dL_law_1174 ?_
    refine va_sld hx hb hXs hbl hbA hS (hin 1 (by decide)) dL_law_1175 ?_
    rw [hya]
    refine lv_aload_n hx hb dL_law_1176 rfl (lv_at hl 1 rfl) ?_
    refine lv_iload hx hb dL_law_1177 (lv_at hl 5 rfl) ?_
    refine lv_iconst (v := 2) hx hb dL_law_1179 (by decide) ?_
    refine lv_iadd hx hb dL_law_1180 ?_
    refine va_sld hx hb hXs hbl hbA hS (hin 2 (by decide)) dL_law_1181 ?_
    rw [hyb]
    refine lv_aload_n hx hb dL_law_1182 rfl (lv_at hl 1 rfl) ?_
    refine lv_iload hx hb dL_law_1183 (lv_at hl 5 rfl) ?_
    refine lv_iconst (v := 3) hx hb dL_law_1185 (by decide) ?_
    refine lv_iadd hx hb dL_law_1186 ?_
    refine va_sld hx hb hXs hbl hbA hS (hin 3 (by decide)) dL_law_1187 ?_
    rw [hyc]
    refine lw_refi hX (c7_afterCut l D cI cZ (ar 0) (ar 1) (ar 2) (ar 3) (ar 4) (ar 5) (ar 6) (ar 7) (ar 8) rf rb rl ct ss ps f (zz 16).1.2 ft flk fl (rz_ok hRz) ya yb yc (fun h9 => ok_afc hRz h9)) (Cs := [[((ar 0), .inr (7, [.int (rf), .ref (ar 1), .int (nI (ss)), .int (nI (ps.2)), .int (bI (ps.1 = true)), .int (rb), .int (rl), .ref (ar 2), .ref (ar 3), .ref (ar 4), .ref (ar 5), .int (nI (ct)), .ref (ar 6), .ref (ar 7), .ref (ar 8)]))], [((ar 2), .inl (cI, 151, .inl f))], [((ar 3), .inl (cI, 151, .inl ft))], [((ar 4), .inl (cI, 151, .inl flk))], [((ar 8), .inl (cI, 4, .inl fl))]]) rfl ⟨by decide, by decide, show (parseMethodDescriptor yX7_afterCut.desc).map (fun d => d.parameters.length) = some 3 by decide +kernel⟩ rfl g7_afterCut ⟨Nat.le_of_ble_eq_true rfl, Nat.le_of_ble_eq_true rfl⟩ hK [0] rfl hP hD hS [0, 2, 3, 4, 8] (by decide) rfl rfl hl.1 rfl (Nat.le_of_ble_eq_true rfl) dL_law_1188 hcs (fun r9 U9 => r9 = (if afcR f (zz 16).1.2 ya yb yc = 0 then vlu (recT (zz 16).1.2 ya yb (upd f 5 yc)).2 ya (zz 16).1.2 else 0) ∧ ∃ tr9 : Nat → Int32, ∃ fl9 : Nat → Int32, ∃ lk9 : Nat → Int32, U9 = [[((ar 0), .inr (7, [.int (afcR f (zz 16).1.2 ya yb yc), .ref (ar 1), .int (nI (ss)), .int (nI (ps.2)), .int (bI (ps.1 = true)), .int (rb), .int (rl), .ref (ar 2), .ref (ar 3), .ref (ar 4), .ref (ar 5), .int (nI (ct)), .ref (ar 6), .ref (ar 7), .ref (ar 8)]))], [((ar 2), .inl (cI, 151, .inl f))], [((ar 3), .inl (cI, 151, .inl tr9))], [((ar 4), .inl (cI, 151, .inl lk9))], [((ar 8), .inl (cI, 4, .inl fl9))]]) (fun r9 u9 h => ?_) (fun r9 U9 h => ?_) (fun r9 U9 H locs hpost hP hD hS => ?_)
    · obtain ⟨e9, tr9, fl9, lk9, rfl⟩ := h
      exact ⟨[[((ar 0), .inr (7, [.int (afcR f (zz 16).1.2 ya yb yc), .ref (ar 1), .int (nI (ss)), .int (nI (ps.2)), .int (bI (ps.1 = true)), .int (rb), .int (rl), .ref (ar 2), .ref (ar 3), .ref (ar 4), .ref (ar 5), .int (nI (ct)), .ref (ar 6), .ref (ar 7), .ref (ar 8)]))], [((ar 2), .inl (cI, 151, .inl f))], [((ar 3), .inl (cI, 151, .inl tr9))], [((ar 4), .inl (cI, 151, .inl lk9))], [((ar 8), .inl (cI, 4, .inl fl9))]], rfl, e9, tr9, fl9, lk9, rfl⟩
    · obtain ⟨-, tr9, fl9, lk9, rfl⟩ := h
      rfl
    obtain ⟨e9, tr9, fl9, lk9, rfl⟩ := hpost
    rw [if_neg hc] at e9
    subst e9
    have hP : va_P D vwCl (bw (rfB cI cZ ar (afcR f (zz 16).1.2 ya yb yc) rb rl ss ps ct t f tr9 lk9 fd fkp fik fl9 (lwB cI cL cZ cJ ad dl sf sg fo t ss q vv nx ct uf (va_up (va_up zz 17 zc9) 18 zt9)))) H := by
      try simp only [if_neg hc] at hP
      exact hP
    have hD : va_D A (bw (rfB cI cZ ar (afcR f (zz 16).1.2 ya yb yc) rb rl ss ps ct t f tr9 lk9 fd fkp fik fl9 (lwB cI cL cZ cJ ad dl sf sg fo t ss q vv nx ct uf (va_up (va_up zz 17 zc9) 18 zt9)))) := by
      try simp only [if_neg hc] at hD
      exact hD
    refine lv_istore (lv' := [(6, .int (0)), (5, .int (afcR f (zz 16).1.2 ya yb yc)), (0, .ref b), (1, .ref (ad 1)), (2, .ref (ar 0)), (3, .ref (ad 0)), (4, .int (nI (4 * i)))]) hx hb dL_law_1191 hl (by decide) rfl (fun ls hl => ?_)
    exact lw_tail hL0 g7_thrown dL_law_1193 dL_law_1194 dL_law_1197 dL_law_1199 dL_law_1204 dL_law_1206 dL_law_1209 dL_law_1210 dL_law_1211 dL_law_1212 dL_law_1214 dL_law_1215 dL_law_1216 dL_law_1221 (by decide) hP hD hS (rel_keep hR (fun j h1 => by rw [va_up_ne _ _ (show j ≠ 18 by omega), va_up_ne _ _ (show j ≠ 17 by omega)]) (vaB (vaB hB hz0) hz1) hn hq) (fun h9 => absurd h9 hc) hl hcs hk
set_option maxHeartbeats 4000000 in
set_option maxRecDepth 100000 in
theorem lc_lasts : LCS 1224 p l e s m below meth c D cI cL cZ cJ ar ad dl sf sg A b L i cells slots xs Q := by
  intro hst hsf hsg hL0 hi hL9 H locs ls hcs hst0 hS hl hk
  obtain ⟨rf, rb, rl, ss, ps, t, f, ft, flk, fd, fkp, fik, fl, fo, q, vv, nx, ct, uf, zz, hP, hD, hR⟩ := hst0
  obtain ⟨hX, hr, hlocks, hK, hN, hE, hSW, hZ, hCN, hXs, hbl, hbA⟩ := id hL0
  obtain ⟨⟨hn, hq, hnx, hct⟩, hRz, hR3, hR4, hB⟩ := id hR
  have hx := hX.1
  have hb := hX.2.1
  have hown := hX.2.2.2.1
  have hts := hX.2.2.2.2
  have hin : ∀ k, k ≤ 3 → vp_in (nI (4 * i) + nI k) L := fun k hk => by rw [nI_add]; exact vp_in_nI (by omega) (by omega)
  obtain ⟨ya, hya⟩ : ∃ y, xs (nI (4 * i) + 1).toNatClampNeg = y := ⟨_, rfl⟩
  obtain ⟨yb, hyb⟩ : ∃ y, xs (nI (4 * i) + 2).toNatClampNeg = y := ⟨_, rfl⟩
  obtain ⟨yc, hyc⟩ : ∃ y, xs (nI (4 * i) + 3).toNatClampNeg = y := ⟨_, rfl⟩
  obtain ⟨la, hla1, hla2⟩ := v_lasts hRz ya
  refine lv_aload_n hx hb dL_law_1224 rfl (lv_at hl 1 rfl) ?_
  refine lv_aload_n hx hb dL_law_1225 rfl (lv_at hl 0 rfl) ?_
  refine lv_iload hx hb dL_law_1226 (lv_at hl 4 rfl) ?_
  refine lv_iconst (v := 1) hx hb dL_law_1228 (by decide) ?_
  refine lv_iadd hx hb dL_law_1229 ?_
  refine va_sld hx hb hXs hbl hbA hS (hin 1 (by decide)) dL_law_1230 ?_
  rw [hya]
  refine lv_aload_n hx hb dL_law_1231 rfl (lv_at hl 3 rfl) ?_
  refine lw_help hX (cL_lastsH l hst D cI cL cZ cJ ad dl sf sg hsf hsg fo t ss q hn hq vv nx ct hnx hct uf zz hRz.1 hB ya) ⟨by decide, by decide, show (parseMethodDescriptor yL_lasts.desc).map (fun d => d.parameters.length) = some 3 by decide +kernel⟩ rfl gL_lasts ⟨Nat.le_of_ble_eq_true rfl, Nat.le_of_ble_eq_true rfl⟩ hK hN hE hSW hZ hCN [0, 1, 2, 3] rfl hP hD hS (List.range' 9 27) (by decide) (rf_sub lw_len) hl.1 rfl (Nat.le_of_ble_eq_true rfl) dL_law_1232 hcs (fun r u h => ?_) (fun r u H locs hpost hP hD hS => ?_)
  · rcases h with ⟨-, -, zc9, hz0, rfl⟩ | ⟨-, -, zc9, hz0, rfl⟩ <;> exact lw_adr
  rw [r_key] at hpost
  rcases hpost with ⟨hc, rfl, zc9, hz0, rfl⟩ | ⟨hc, rfl, zc9, hz0, rfl⟩
  · rw [rf_put lw_len lw_len] at hP hD
    refine lv_istore (lv' := [(5, .int (0)), (0, .ref b), (1, .ref (ad 1)), (2, .ref (ar 0)), (3, .ref (ad 0)), (4, .int (nI (4 * i)))]) hx hb dL_law_1235 hl (by decide) rfl (fun ls hl => ?_)
    refine lv_aload_n hx hb dL_law_1237 rfl (lv_at hl 3 rfl) ?_
    refine lv_aload_n hx hb dL_law_1238 rfl (lv_at hl 1 rfl) ?_
    refine lv_iload hx hb dL_law_1239 (lv_at hl 5 rfl) ?_
    refine lv_iconst (v := 1) hx hb dL_law_1241 (by decide) ?_
    refine lv_iadd hx hb dL_law_1242 ?_
    refine va_sld hx hb hXs hbl hbA hS (hin 1 (by decide)) dL_law_1243 ?_
    rw [hya]
    refine lw_refi hX (c7_lasts l D cI cZ (ar 0) (ar 1) (ar 2) (ar 3) (ar 4) (ar 5) (ar 6) (ar 7) (ar 8) rf rb rl ct ss ps f (zz 16).1.2 ft flk fl (rz_ok hRz) ya la 301 hla2) (Cs := [[((ar 0), .inr (7, [.int (rf), .ref (ar 1), .int (nI (ss)), .int (nI (ps.2)), .int (bI (ps.1 = true)), .int (rb), .int (rl), .ref (ar 2), .ref (ar 3), .ref (ar 4), .ref (ar 5), .int (nI (ct)), .ref (ar 6), .ref (ar 7), .ref (ar 8)]))], [((ar 2), .inl (cI, 151, .inl f))], [((ar 3), .inl (cI, 151, .inl ft))], [((ar 4), .inl (cI, 151, .inl flk))], [((ar 8), .inl (cI, 4, .inl fl))]]) rfl ⟨by decide, by decide, show (parseMethodDescriptor yX7_lasts.desc).map (fun d => d.parameters.length) = some 1 by decide +kernel⟩ rfl g7_lasts ⟨Nat.le_of_ble_eq_true rfl, Nat.le_of_ble_eq_true rfl⟩ hK [0] rfl hP hD hS [0, 2, 3, 4, 8] (by decide) rfl rfl hl.1 rfl (Nat.le_of_ble_eq_true rfl) dL_law_1244 hcs (fun r9 U9 => r9 = (if keyR ya = 0 then nI la else 0) ∧ ∃ tr9 : Nat → Int32, ∃ fl9 : Nat → Int32, ∃ lk9 : Nat → Int32, U9 = [[((ar 0), .inr (7, [.int (keyR ya), .ref (ar 1), .int (nI (ss)), .int (nI (ps.2)), .int (bI (ps.1 = true)), .int (rb), .int (rl), .ref (ar 2), .ref (ar 3), .ref (ar 4), .ref (ar 5), .int (nI (ct)), .ref (ar 6), .ref (ar 7), .ref (ar 8)]))], [((ar 2), .inl (cI, 151, .inl f))], [((ar 3), .inl (cI, 151, .inl tr9))], [((ar 4), .inl (cI, 151, .inl lk9))], [((ar 8), .inl (cI, 4, .inl fl9))]]) (fun r9 u9 h => ?_) (fun r9 U9 h => ?_) (fun r9 U9 H locs hpost hP hD hS => ?_)
    · obtain ⟨e9, tr9, fl9, lk9, rfl⟩ := h
      exact ⟨[[((ar 0), .inr (7, [.int (keyR ya), .ref (ar 1), .int (nI (ss)), .int (nI (ps.2)), .int (bI (ps.1 = true)), .int (rb), .int (rl), .ref (ar 2), .ref (ar 3), .ref (ar 4), .ref (ar 5), .int (nI (ct)), .ref (ar 6), .ref (ar 7), .ref (ar 8)]))], [((ar 2), .inl (cI, 151, .inl f))], [((ar 3), .inl (cI, 151, .inl tr9))], [((ar 4), .inl (cI, 151, .inl lk9))], [((ar 8), .inl (cI, 4, .inl fl9))]], rfl, e9, tr9, fl9, lk9, rfl⟩
    · obtain ⟨-, tr9, fl9, lk9, rfl⟩ := h
      rfl
    obtain ⟨e9, tr9, fl9, lk9, rfl⟩ := hpost
    rw [if_pos hc] at e9
    subst e9
    have hP : va_P D vwCl (bw (rfB cI cZ ar 0 rb rl ss ps ct t f tr9 lk9 fd fkp fik fl9 (lwB cI cL cZ cJ ad dl sf sg (vp_updL fo 0 (laV (zz 16) ya.toNatClampNeg : Int32).toInt64) t ss q vv nx ct uf (va_up zz 17 zc9)))) H := by
      rw [hc] at hP
      exact hP
    have hD : va_D A (bw (rfB cI cZ ar 0 rb rl ss ps ct t f tr9 lk9 fd fkp fik fl9 (lwB cI cL cZ cJ ad dl sf sg (vp_updL fo 0 (laV (zz 16) ya.toNatClampNeg : Int32).toInt64) t ss q vv nx ct uf (va_up zz 17 zc9)))) := by
      rw [hc] at hD
      exact hD
    refine lv_istore (lv' := [(6, .int (nI la)), (5, .int (0)), (0, .ref b), (1, .ref (ad 1)), (2, .ref (ar 0)), (3, .ref (ad 0)), (4, .int (nI (4 * i)))]) hx hb dL_law_1247 hl (by decide) rfl (fun ls hl => ?_)
    exact lw_tail hL0 g7_thrown dL_law_1249 dL_law_1250 dL_law_1253 dL_law_1255 dL_law_1260 dL_law_1262 dL_law_1265 dL_law_1266 dL_law_1267 dL_law_1268 dL_law_1270 dL_law_1271 dL_law_1272 dL_law_1277 (by decide) hP hD hS (rel_keep hR (fun j h1 => by rw [va_up_ne _ _ (show j ≠ 17 by omega)]) (vaB hB hz0) hn hq) (fun _ => (show vp_updL fo 0 ((laV (zz 16) ya.toNatClampNeg : Int32).toInt64) 0 = (nI la : Int32).toInt64 from (if_pos rfl).trans (congrArg Int32.toInt64 (hla1 hc)))) hl hcs hk
  · rw [rf_put lw_len lw_len] at hP hD
    refine lv_istore (lv' := [(5, .int (keyR ya)), (0, .ref b), (1, .ref (ad 1)), (2, .ref (ar 0)), (3, .ref (ad 0)), (4, .int (nI (4 * i)))]) hx hb dL_law_1235 hl (by decide) rfl (fun ls hl => ?_)
    refine lv_aload_n hx hb dL_law_1237 rfl (lv_at hl 3 rfl) ?_
    refine lv_aload_n hx hb dL_law_1238 rfl (lv_at hl 1 rfl) ?_
    refine lv_iload hx hb dL_law_1239 (lv_at hl 5 rfl) ?_
    refine lv_iconst (v := 1) hx hb dL_law_1241 (by decide) ?_
    refine lv_iadd hx hb dL_law_1242 ?_
    refine va_sld hx hb hXs hbl hbA hS (hin 1 (by decide)) dL_law_1243 ?_
    rw [hya]
    refine lw_refi hX (c7_lasts l D cI cZ (ar 0) (ar 1) (ar 2) (ar 3) (ar 4) (ar 5) (ar 6) (ar 7) (ar 8) rf rb rl ct ss ps f (zz 16).1.2 ft flk fl (rz_ok hRz) ya la 301 hla2) (Cs := [[((ar 0), .inr (7, [.int (rf), .ref (ar 1), .int (nI (ss)), .int (nI (ps.2)), .int (bI (ps.1 = true)), .int (rb), .int (rl), .ref (ar 2), .ref (ar 3), .ref (ar 4), .ref (ar 5), .int (nI (ct)), .ref (ar 6), .ref (ar 7), .ref (ar 8)]))], [((ar 2), .inl (cI, 151, .inl f))], [((ar 3), .inl (cI, 151, .inl ft))], [((ar 4), .inl (cI, 151, .inl flk))], [((ar 8), .inl (cI, 4, .inl fl))]]) rfl ⟨by decide, by decide, show (parseMethodDescriptor yX7_lasts.desc).map (fun d => d.parameters.length) = some 1 by decide +kernel⟩ rfl g7_lasts ⟨Nat.le_of_ble_eq_true rfl, Nat.le_of_ble_eq_true rfl⟩ hK [0] rfl hP hD hS [0, 2, 3, 4, 8] (by decide) rfl rfl hl.1 rfl (Nat.le_of_ble_eq_true rfl) dL_law_1244 hcs (fun r9 U9 => r9 = (if keyR ya = 0 then nI la else 0) ∧ ∃ tr9 : Nat → Int32, ∃ fl9 : Nat → Int32, ∃ lk9 : Nat → Int32, U9 = [[((ar 0), .inr (7, [.int (keyR ya), .ref (ar 1), .int (nI (ss)), .int (nI (ps.2)), .int (bI (ps.1 = true)), .int (rb), .int (rl), .ref (ar 2), .ref (ar 3), .ref (ar 4), .ref (ar 5), .int (nI (ct)), .ref (ar 6), .ref (ar 7), .ref (ar 8)]))], [((ar 2), .inl (cI, 151, .inl f))], [((ar 3), .inl (cI, 151, .inl tr9))], [((ar 4), .inl (cI, 151, .inl lk9))], [((ar 8), .inl (cI, 4, .inl fl9))]]) (fun r9 u9 h => ?_) (fun r9 U9 h => ?_) (fun r9 U9 H locs hpost hP hD hS => ?_)
    · obtain ⟨e9, tr9, fl9, lk9, rfl⟩ := h
      exact ⟨[[((ar 0), .inr (7, [.int (keyR ya), .ref (ar 1), .int (nI (ss)), .int (nI (ps.2)), .int (bI (ps.1 = true)), .int (rb), .int (rl), .ref (ar 2), .ref (ar 3), .ref (ar 4), .ref (ar 5), .int (nI (ct)), .ref (ar 6), .ref (ar 7), .ref (ar 8)]))], [((ar 2), .inl (cI, 151, .inl f))], [((ar 3), .inl (cI, 151, .inl tr9))], [((ar 4), .inl (cI, 151, .inl lk9))], [((ar 8), .inl (cI, 4, .inl fl9))]], rfl, e9, tr9, fl9, lk9, rfl⟩
    · obtain ⟨-, tr9, fl9, lk9, rfl⟩ := h
      rfl
    obtain ⟨e9, tr9, fl9, lk9, rfl⟩ := hpost
    rw [if_neg hc] at e9
    subst e9
    have hP : va_P D vwCl (bw (rfB cI cZ ar (keyR ya) rb rl ss ps ct t f tr9 lk9 fd fkp fik fl9 (lwB cI cL cZ cJ ad dl sf sg fo t ss q vv nx ct uf (va_up zz 17 zc9)))) H := by
      try simp only [if_neg hc] at hP
      exact hP
    have hD : va_D A (bw (rfB cI cZ ar (keyR ya) rb rl ss ps ct t f tr9 lk9 fd fkp fik fl9 (lwB cI cL cZ cJ ad dl sf sg fo t ss q vv nx ct uf (va_up zz 17 zc9)))) := by
      try simp only [if_neg hc] at hD
      exact hD
    refine lv_istore (lv' := [(6, .int (0)), (5, .int (keyR ya)), (0, .ref b), (1, .ref (ad 1)), (2, .ref (ar 0)), (3, .ref (ad 0)), (4, .int (nI (4 * i)))]) hx hb dL_law_1247 hl (by decide) rfl (fun ls hl => ?_)
    exact lw_tail hL0 g7_thrown dL_law_1249 dL_law_1250 dL_law_1253 dL_law_1255 dL_law_1260 dL_law_1262 dL_law_1265 dL_law_1266 dL_law_1267 dL_law_1268 dL_law_1270 dL_law_1271 dL_law_1272 dL_law_1277 (by decide) hP hD hS (rel_keep hR (fun j h1 => by rw [va_up_ne _ _ (show j ≠ 17 by omega)]) (vaB hB hz0) hn hq) (fun h9 => absurd h9 hc) hl hcs hk
set_option maxHeartbeats 4000000 in
set_option maxRecDepth 100000 in
theorem lc_runScript : LCS 1293 p l e s m below meth c D cI cL cZ cJ ar ad dl sf sg A b L i cells slots xs Q := by
  intro hst hsf hsg hL0 hi hL9 H locs ls hcs hst0 hS hl hk
  obtain ⟨rf, rb, rl, ss, ps, t, f, ft, flk, fd, fkp, fik, fl, fo, q, vv, nx, ct, uf, zz, hP, hD, hR⟩ := hst0
  obtain ⟨hX, hr, hlocks, hK, hN, hE, hSW, hZ, hCN, hXs, hbl, hbA⟩ := id hL0
  obtain ⟨⟨hn, hq, hnx, hct⟩, hRz, hR3, hR4, hB⟩ := id hR
  have hx := hX.1
  have hb := hX.2.1
  have hown := hX.2.2.2.1
  have hts := hX.2.2.2.2
  have hin : ∀ k, k ≤ 3 → vp_in (nI (4 * i) + nI k) L := fun k hk => by rw [nI_add]; exact vp_in_nI (by omega) (by omega)
  obtain ⟨ya, hya⟩ : ∃ y, xs (nI (4 * i) + 1).toNatClampNeg = y := ⟨_, rfl⟩
  obtain ⟨yb, hyb⟩ : ∃ y, xs (nI (4 * i) + 2).toNatClampNeg = y := ⟨_, rfl⟩
  obtain ⟨yc, hyc⟩ : ∃ y, xs (nI (4 * i) + 3).toNatClampNeg = y := ⟨_, rfl⟩
  obtain ⟨yl, hyl⟩ : ∃ y : Int64, (yb.toInt64 <<< ((32 : Int32).toInt64 &&& 63)) ||| (yc.toInt64 &&& 4294967295) = y := ⟨_, rfl⟩
  refine lv_aload_n hx hb dL_law_1293 rfl (lv_at hl 1 rfl) ?_
  refine lv_aload_n hx hb dL_law_1294 rfl (lv_at hl 0 rfl) ?_
  refine lv_iload hx hb dL_law_1295 (lv_at hl 4 rfl) ?_
  refine lv_iconst (v := 1) hx hb dL_law_1297 (by decide) ?_
  refine lv_iadd hx hb dL_law_1298 ?_
  refine va_sld hx hb hXs hbl hbA hS (hin 1 (by decide)) dL_law_1299 ?_
  rw [hya]
  refine lv_aload_n hx hb dL_law_1300 rfl (lv_at hl 0 rfl) ?_
  refine lv_iload hx hb dL_law_1301 (lv_at hl 4 rfl) ?_
  refine lv_iconst (v := 2) hx hb dL_law_1303 (by decide) ?_
  refine lv_iadd hx hb dL_law_1304 ?_
  refine va_sld hx hb hXs hbl hbA hS (hin 2 (by decide)) dL_law_1305 ?_
  rw [hyb]
  refine lv_i2l (v := yb.toInt64) hx hb dL_law_1306 rfl ?_
  refine lv_bipush (v := 32) hx hb dL_law_1307 (by decide) ?_
  refine lv_lshl (v := (yb.toInt64 <<< ((32 : Int32).toInt64 &&& 63))) hx hb dL_law_1309 rfl ?_
  refine lv_aload_n hx hb dL_law_1310 rfl (lv_at hl 0 rfl) ?_
  refine lv_iload hx hb dL_law_1311 (lv_at hl 4 rfl) ?_
  refine lv_iconst (v := 3) hx hb dL_law_1313 (by decide) ?_
  refine lv_iadd hx hb dL_law_1314 ?_
  refine va_sld hx hb hXs hbl hbA hS (hin 3 (by decide)) dL_law_1315 ?_
  rw [hyc]
  refine lv_i2l (v := yc.toInt64) hx hb dL_law_1316 rfl ?_
  refine lv_ldc2 (v := 4294967295) hx hb hown (hts _ wt_K180) dL_law_1317 ?_
  refine lv_land hx hb dL_law_1320 ?_
  refine lv_lor hx hb dL_law_1321 ?_
  rw [hyl]
  refine lv_aload_n hx hb dL_law_1322 rfl (lv_at hl 3 rfl) ?_
  refine lw_help hX (cL_runScriptH l hst D cI cL cZ cJ ad dl sf sg hsf hsg fo t ss q hn hq vv nx ct hnx hct uf zz hRz.1 hB ya yl) ⟨by decide, by decide, show (parseMethodDescriptor yL_runScript.desc).map (fun d => d.parameters.length) = some 4 by decide +kernel⟩ rfl gL_runScript ⟨Nat.le_of_ble_eq_true rfl, Nat.le_of_ble_eq_true rfl⟩ hK hN hE hSW hZ hCN [0, 1, 2, 3] rfl hP hD hS (List.range' 9 27) (by decide) (rf_sub lw_len) hl.1 rfl (Nat.le_of_ble_eq_true rfl) dL_law_1323 hcs (fun r u h => ?_) (fun r u H locs hpost hP hD hS => ?_)
  · rcases h with ⟨-, -, zc9, zt9, hz0, hz1, rfl⟩ | ⟨-, -, zc9, zt9, hz0, hz1, rfl⟩ <;> exact lw_adr
  rw [r_sc] at hpost
  rcases hpost with ⟨hc, rfl, zc9, zt9, hz0, hz1, rfl⟩ | ⟨hc, rfl, zc9, zt9, hz0, hz1, rfl⟩
  · rw [rf_put lw_len lw_len] at hP hD
    refine lv_istore (lv' := [(5, .int (0)), (0, .ref b), (1, .ref (ad 1)), (2, .ref (ar 0)), (3, .ref (ad 0)), (4, .int (nI (4 * i)))]) hx hb dL_law_1326 hl (by decide) rfl (fun ls hl => ?_)
    refine lv_aload_n hx hb dL_law_1328 rfl (lv_at hl 3 rfl) ?_
    refine lv_aload_n hx hb dL_law_1329 rfl (lv_at hl 1 rfl) ?_
    refine lv_iload hx hb dL_law_1330 (lv_at hl 5 rfl) ?_
    refine lv_iconst (v := 1) hx hb dL_law_1332 (by decide) ?_
    refine lv_iadd hx hb dL_law_1333 ?_
    refine va_sld hx hb hXs hbl hbA hS (hin 1 (by decide)) dL_law_1334 ?_
    rw [hya]
    refine lv_aload_n hx hb dL_law_1335 rfl (lv_at hl 1 rfl) ?_
    refine lv_iload hx hb dL_law_1336 (lv_at hl 5 rfl) ?_
    refine lv_iconst (v := 2) hx hb dL_law_1338 (by decide) ?_
    refine lv_iadd hx hb dL_law_1339 ?_
    refine va_sld hx hb hXs hbl hbA hS (hin 2 (by decide)) dL_law_1340 ?_
    rw [hyb]
    refine lv_i2l (v := yb.toInt64) hx hb dL_law_1341 rfl ?_
    refine lv_bipush (v := 32) hx hb dL_law_1342 (by decide) ?_
    refine lv_lshl (v := (yb.toInt64 <<< ((32 : Int32).toInt64 &&& 63))) hx hb dL_law_1344 rfl ?_
    refine lv_aload_n hx hb dL_law_1345 rfl (lv_at hl 1 rfl) ?_
    refine lv_iload hx hb dL_law_1346 (lv_at hl 5 rfl) ?_
    refine lv_iconst (v := 3) hx hb dL_law_1348 (by decide) ?_
    refine lv_iadd hx hb dL_law_1349 ?_
    refine va_sld hx hb hXs hbl hbA hS (hin 3 (by decide)) dL_law_1350 ?_
    rw [hyc]
    refine lv_i2l (v := yc.toInt64) hx hb dL_law_1351 rfl ?_
    refine lv_ldc2 (v := 4294967295) hx hb hown (hts _ wt_K180) dL_law_1352 ?_
    refine lv_land hx hb dL_law_1355 ?_
    refine lv_lor hx hb dL_law_1356 ?_
    rw [hyl]
    refine lw_refi hX (c7_runScript l D cI cZ (ar 0) (ar 1) (ar 2) (ar 3) (ar 4) (ar 5) (ar 6) (ar 7) (ar 8) rf rb rl ct ss ps f (zz 16).1.2 ft flk fl (rz_wf hRz) (show 1 ≤ (zz 16).1.2 by have := hRz.1.1.1.1; omega) ya yl (scZ ya.toNatClampNeg yl.toInt.toNat ya.toNatClampNeg 0 (zz 16)) (ya.toNatClampNeg + 1) (fun h9 => v_sc hRz _ _)) (Cs := [[((ar 0), .inr (7, [.int (rf), .ref (ar 1), .int (nI (ss)), .int (nI (ps.2)), .int (bI (ps.1 = true)), .int (rb), .int (rl), .ref (ar 2), .ref (ar 3), .ref (ar 4), .ref (ar 5), .int (nI (ct)), .ref (ar 6), .ref (ar 7), .ref (ar 8)]))], [((ar 2), .inl (cI, 151, .inl f))], [((ar 3), .inl (cI, 151, .inl ft))], [((ar 4), .inl (cI, 151, .inl flk))], [((ar 8), .inl (cI, 4, .inl fl))]]) rfl ⟨by decide, by decide, show (parseMethodDescriptor yX7_runScript.desc).map (fun d => d.parameters.length) = some 2 by decide +kernel⟩ rfl g7_runScript ⟨Nat.le_of_ble_eq_true rfl, Nat.le_of_ble_eq_true rfl⟩ hK [0] rfl hP hD hS [0, 2, 3, 4, 8] (by decide) rfl rfl hl.1 rfl (Nat.le_of_ble_eq_true rfl) dL_law_1357 hcs (fun r9 U9 => r9 = (if rsR ya yl = 0 then oI (scZ ya.toNatClampNeg yl.toInt.toNat ya.toNatClampNeg 0 (zz 16)) else 0) ∧ ∃ tr9 : Nat → Int32, ∃ fl9 : Nat → Int32, ∃ lk9 : Nat → Int32, U9 = [[((ar 0), .inr (7, [.int (rsR ya yl), .ref (ar 1), .int (nI (ss)), .int (nI (ps.2)), .int (bI (ps.1 = true)), .int (rb), .int (rl), .ref (ar 2), .ref (ar 3), .ref (ar 4), .ref (ar 5), .int (nI (ct)), .ref (ar 6), .ref (ar 7), .ref (ar 8)]))], [((ar 2), .inl (cI, 151, .inl f))], [((ar 3), .inl (cI, 151, .inl tr9))], [((ar 4), .inl (cI, 151, .inl lk9))], [((ar 8), .inl (cI, 4, .inl fl9))]]) (fun r9 u9 h => ?_) (fun r9 U9 h => ?_) (fun r9 U9 H locs hpost hP hD hS => ?_)
    · obtain ⟨e9, tr9, fl9, lk9, rfl⟩ := h
      exact ⟨[[((ar 0), .inr (7, [.int (rsR ya yl), .ref (ar 1), .int (nI (ss)), .int (nI (ps.2)), .int (bI (ps.1 = true)), .int (rb), .int (rl), .ref (ar 2), .ref (ar 3), .ref (ar 4), .ref (ar 5), .int (nI (ct)), .ref (ar 6), .ref (ar 7), .ref (ar 8)]))], [((ar 2), .inl (cI, 151, .inl f))], [((ar 3), .inl (cI, 151, .inl tr9))], [((ar 4), .inl (cI, 151, .inl lk9))], [((ar 8), .inl (cI, 4, .inl fl9))]], rfl, e9, tr9, fl9, lk9, rfl⟩
    · obtain ⟨-, tr9, fl9, lk9, rfl⟩ := h
      rfl
    obtain ⟨e9, tr9, fl9, lk9, rfl⟩ := hpost
    rw [if_pos hc] at e9
    subst e9
    have hP : va_P D vwCl (bw (rfB cI cZ ar 0 rb rl ss ps ct t f tr9 lk9 fd fkp fik fl9 (lwB cI cL cZ cJ ad dl sf sg (vp_updL fo 0 (oI (scZ ya.toNatClampNeg yl.toInt.toNat ya.toNatClampNeg 0 (zz 16)) : Int32).toInt64) t ss q vv nx ct uf (va_up (va_up zz 17 zc9) 18 zt9)))) H := by
      rw [hc] at hP
      exact hP
    have hD : va_D A (bw (rfB cI cZ ar 0 rb rl ss ps ct t f tr9 lk9 fd fkp fik fl9 (lwB cI cL cZ cJ ad dl sf sg (vp_updL fo 0 (oI (scZ ya.toNatClampNeg yl.toInt.toNat ya.toNatClampNeg 0 (zz 16)) : Int32).toInt64) t ss q vv nx ct uf (va_up (va_up zz 17 zc9) 18 zt9)))) := by
      rw [hc] at hD
      exact hD
    refine lv_istore (lv' := [(6, .int (oI (scZ ya.toNatClampNeg yl.toInt.toNat ya.toNatClampNeg 0 (zz 16)))), (5, .int (0)), (0, .ref b), (1, .ref (ad 1)), (2, .ref (ar 0)), (3, .ref (ad 0)), (4, .int (nI (4 * i)))]) hx hb dL_law_1360 hl (by decide) rfl (fun ls hl => ?_)
    exact lw_tail hL0 g7_thrown dL_law_1362 dL_law_1363 dL_law_1366 dL_law_1368 dL_law_1373 dL_law_1375 dL_law_1378 dL_law_1379 dL_law_1380 dL_law_1381 dL_law_1383 dL_law_1384 dL_law_1385 dL_law_1390 (by decide) hP hD hS (rel_keep hR (fun j h1 => by rw [va_up_ne _ _ (show j ≠ 18 by omega), va_up_ne _ _ (show j ≠ 17 by omega)]) (vaB (vaB hB hz0) hz1) hn hq) (fun _ => (show vp_updL fo 0 ((oI (scZ ya.toNatClampNeg yl.toInt.toNat ya.toNatClampNeg 0 (zz 16)) : Int32).toInt64) 0 = (oI (scZ ya.toNatClampNeg yl.toInt.toNat ya.toNatClampNeg 0 (zz 16)) : Int32).toInt64 from (if_pos rfl).trans (congrArg Int32.toInt64 (rfl)))) hl hcs hk
  · rw [rf_put lw_len lw_len] at hP hD
    refine lv_istore (lv' := [(5, .int (rsR ya yl)), (0, .ref b), (1, .ref (ad 1)), (2, .ref (ar 0)), (3, .ref (ad 0)), (4, .int (nI (4 * i)))]) hx hb dL_law_1326 hl (by decide) rfl (fun ls hl => ?_)
    refine lv_aload_n hx hb dL_law_1328 rfl (lv_at hl 3 rfl) ?_
    refine lv_aload_n hx hb dL_law_1329 rfl (lv_at hl 1 rfl) ?_
    refine lv_iload hx hb dL_law_1330 (lv_at hl 5 rfl) ?_
    refine lv_iconst (v := 1) hx hb dL_law_1332 (by decide) ?_
    refine lv_iadd hx hb dL_law_1333 ?_
    refine va_sld hx hb hXs hbl hbA hS (hin 1 (by decide)) dL_law_1334 ?_
    rw [hya]
    refine lv_aload_n hx hb dL_law_1335 rfl (lv_at hl 1 rfl) ?_
    refine lv_iload hx hb dL_law_1336 (lv_at hl 5 rfl) ?_
    refine lv_iconst (v := 2) hx hb dL_law_1338 (by decide) ?_
    refine lv_iadd hx hb dL_law_1339 ?_
    refine va_sld hx hb hXs hbl hbA hS (hin 2 (by decide)) dL_law_1340 ?_
    rw [hyb]
    refine lv_i2l (v := yb.toInt64) hx hb dL_law_1341 rfl ?_
    refine lv_bipush (v := 32) hx hb dL_law_1342 (by decide) ?_
    refine lv_lshl (v := (yb.toInt64 <<< ((32 : Int32).toInt64 &&& 63))) hx hb dL_law_1344 rfl ?_
    refine lv_aload_n hx hb dL_law_1345 rfl (lv_at hl 1 rfl) ?_
    refine lv_iload hx hb dL_law_1346 (lv_at hl 5 rfl) ?_
    refine lv_iconst (v := 3) hx hb dL_law_1348 (by decide) ?_
    refine lv_iadd hx hb dL_law_1349 ?_
    refine va_sld hx hb hXs hbl hbA hS (hin 3 (by decide)) dL_law_1350 ?_
    rw [hyc]
    refine lv_i2l (v := yc.toInt64) hx hb dL_law_1351 rfl ?_
    refine lv_ldc2 (v := 4294967295) hx hb hown (hts _ wt_K180) dL_law_1352 ?_
    refine lv_land hx hb dL_law_1355 ?_
    refine lv_lor hx hb dL_law_1356 ?_
    rw [hyl]
    refine lw_refi hX (c7_runScript l D cI cZ (ar 0) (ar 1) (ar 2) (ar 3) (ar 4) (ar 5) (ar 6) (ar 7) (ar 8) rf rb rl ct ss ps f (zz 16).1.2 ft flk fl (rz_wf hRz) (show 1 ≤ (zz 16).1.2 by have := hRz.1.1.1.1; omega) ya yl (scZ ya.toNatClampNeg yl.toInt.toNat ya.toNatClampNeg 0 (zz 16)) (ya.toNatClampNeg + 1) (fun h9 => v_sc hRz _ _)) (Cs := [[((ar 0), .inr (7, [.int (rf), .ref (ar 1), .int (nI (ss)), .int (nI (ps.2)), .int (bI (ps.1 = true)), .int (rb), .int (rl), .ref (ar 2), .ref (ar 3), .ref (ar 4), .ref (ar 5), .int (nI (ct)), .ref (ar 6), .ref (ar 7), .ref (ar 8)]))], [((ar 2), .inl (cI, 151, .inl f))], [((ar 3), .inl (cI, 151, .inl ft))], [((ar 4), .inl (cI, 151, .inl flk))], [((ar 8), .inl (cI, 4, .inl fl))]]) rfl ⟨by decide, by decide, show (parseMethodDescriptor yX7_runScript.desc).map (fun d => d.parameters.length) = some 2 by decide +kernel⟩ rfl g7_runScript ⟨Nat.le_of_ble_eq_true rfl, Nat.le_of_ble_eq_true rfl⟩ hK [0] rfl hP hD hS [0, 2, 3, 4, 8] (by decide) rfl rfl hl.1 rfl (Nat.le_of_ble_eq_true rfl) dL_law_1357 hcs (fun r9 U9 => r9 = (if rsR ya yl = 0 then oI (scZ ya.toNatClampNeg yl.toInt.toNat ya.toNatClampNeg 0 (zz 16)) else 0) ∧ ∃ tr9 : Nat → Int32, ∃ fl9 : Nat → Int32, ∃ lk9 : Nat → Int32, U9 = [[((ar 0), .inr (7, [.int (rsR ya yl), .ref (ar 1), .int (nI (ss)), .int (nI (ps.2)), .int (bI (ps.1 = true)), .int (rb), .int (rl), .ref (ar 2), .ref (ar 3), .ref (ar 4), .ref (ar 5), .int (nI (ct)), .ref (ar 6), .ref (ar 7), .ref (ar 8)]))], [((ar 2), .inl (cI, 151, .inl f))], [((ar 3), .inl (cI, 151, .inl tr9))], [((ar 4), .inl (cI, 151, .inl lk9))], [((ar 8), .inl (cI, 4, .inl fl9))]]) (fun r9 u9 h => ?_) (fun r9 U9 h => ?_) (fun r9 U9 H locs hpost hP hD hS => ?_)
    · obtain ⟨e9, tr9, fl9, lk9, rfl⟩ := h
      exact ⟨[[((ar 0), .inr (7, [.int (rsR ya yl), .ref (ar 1), .int (nI (ss)), .int (nI (ps.2)), .int (bI (ps.1 = true)), .int (rb), .int (rl), .ref (ar 2), .ref (ar 3), .ref (ar 4), .ref (ar 5), .int (nI (ct)), .ref (ar 6), .ref (ar 7), .ref (ar 8)]))], [((ar 2), .inl (cI, 151, .inl f))], [((ar 3), .inl (cI, 151, .inl tr9))], [((ar 4), .inl (cI, 151, .inl lk9))], [((ar 8), .inl (cI, 4, .inl fl9))]], rfl, e9, tr9, fl9, lk9, rfl⟩
    · obtain ⟨-, tr9, fl9, lk9, rfl⟩ := h
      rfl
    obtain ⟨e9, tr9, fl9, lk9, rfl⟩ := hpost
    rw [if_neg hc] at e9
    subst e9
    have hP : va_P D vwCl (bw (rfB cI cZ ar (rsR ya yl) rb rl ss ps ct t f tr9 lk9 fd fkp fik fl9 (lwB cI cL cZ cJ ad dl sf sg fo t ss q vv nx ct uf (va_up (va_up zz 17 zc9) 18 zt9)))) H := by
      try simp only [if_neg hc] at hP
      exact hP
    have hD : va_D A (bw (rfB cI cZ ar (rsR ya yl) rb rl ss ps ct t f tr9 lk9 fd fkp fik fl9 (lwB cI cL cZ cJ ad dl sf sg fo t ss q vv nx ct uf (va_up (va_up zz 17 zc9) 18 zt9)))) := by
      try simp only [if_neg hc] at hD
      exact hD
    refine lv_istore (lv' := [(6, .int (0)), (5, .int (rsR ya yl)), (0, .ref b), (1, .ref (ad 1)), (2, .ref (ar 0)), (3, .ref (ad 0)), (4, .int (nI (4 * i)))]) hx hb dL_law_1360 hl (by decide) rfl (fun ls hl => ?_)
    exact lw_tail hL0 g7_thrown dL_law_1362 dL_law_1363 dL_law_1366 dL_law_1368 dL_law_1373 dL_law_1375 dL_law_1378 dL_law_1379 dL_law_1380 dL_law_1381 dL_law_1383 dL_law_1384 dL_law_1385 dL_law_1390 (by decide) hP hD hS (rel_keep hR (fun j h1 => by rw [va_up_ne _ _ (show j ≠ 18 by omega), va_up_ne _ _ (show j ≠ 17 by omega)]) (vaB (vaB hB hz0) hz1) hn hq) (fun h9 => absurd h9 hc) hl hcs hk
set_option maxHeartbeats 4000000 in
set_option maxRecDepth 100000 in
theorem lc_simulate : LCS 1393 p l e s m below meth c D cI cL cZ cJ ar ad dl sf sg A b L i cells slots xs Q := by
  intro hst hsf hsg hL0 hi hL9 H locs ls hcs hst0 hS hl hk
  obtain ⟨rf, rb, rl, ss, ps, t, f, ft, flk, fd, fkp, fik, fl, fo, q, vv, nx, ct, uf, zz, hP, hD, hR⟩ := hst0
  obtain ⟨hX, hr, hlocks, hK, hN, hE, hSW, hZ, hCN, hXs, hbl, hbA⟩ := id hL0
  obtain ⟨⟨hn, hq, hnx, hct⟩, hRz, hR3, hR4, hB⟩ := id hR
  have hx := hX.1
  have hb := hX.2.1
  have hown := hX.2.2.2.1
  have hts := hX.2.2.2.2
  have hin : ∀ k, k ≤ 3 → vp_in (nI (4 * i) + nI k) L := fun k hk => by rw [nI_add]; exact vp_in_nI (by omega) (by omega)
  obtain ⟨ya, hya⟩ : ∃ y, xs (nI (4 * i) + 1).toNatClampNeg = y := ⟨_, rfl⟩
  obtain ⟨yb, hyb⟩ : ∃ y, xs (nI (4 * i) + 2).toNatClampNeg = y := ⟨_, rfl⟩
  obtain ⟨yc, hyc⟩ : ∃ y, xs (nI (4 * i) + 3).toNatClampNeg = y := ⟨_, rfl⟩
  obtain ⟨yl, hyl⟩ : ∃ y : Int64, (ya.toInt64 <<< ((32 : Int32).toInt64 &&& 63)) ||| (yb.toInt64 &&& 4294967295) = y := ⟨_, rfl⟩
  refine lv_aload_n hx hb dL_law_1393 rfl (lv_at hl 1 rfl) ?_
  refine lv_aload_n hx hb dL_law_1394 rfl (lv_at hl 0 rfl) ?_
  refine lv_iload hx hb dL_law_1395 (lv_at hl 4 rfl) ?_
  refine lv_iconst (v := 1) hx hb dL_law_1397 (by decide) ?_
  refine lv_iadd hx hb dL_law_1398 ?_
  refine va_sld hx hb hXs hbl hbA hS (hin 1 (by decide)) dL_law_1399 ?_
  rw [hya]
  refine lv_i2l (v := ya.toInt64) hx hb dL_law_1400 rfl ?_
  refine lv_bipush (v := 32) hx hb dL_law_1401 (by decide) ?_
  refine lv_lshl (v := (ya.toInt64 <<< ((32 : Int32).toInt64 &&& 63))) hx hb dL_law_1403 rfl ?_
  refine lv_aload_n hx hb dL_law_1404 rfl (lv_at hl 0 rfl) ?_
  refine lv_iload hx hb dL_law_1405 (lv_at hl 4 rfl) ?_
  refine lv_iconst (v := 2) hx hb dL_law_1407 (by decide) ?_
  refine lv_iadd hx hb dL_law_1408 ?_
  refine va_sld hx hb hXs hbl hbA hS (hin 2 (by decide)) dL_law_1409 ?_
  rw [hyb]
  refine lv_i2l (v := yb.toInt64) hx hb dL_law_1410 rfl ?_
  refine lv_ldc2 (v := 4294967295) hx hb hown (hts _ wt_K180) dL_law_1411 ?_
  refine lv_land hx hb dL_law_1414 ?_
  refine lv_lor hx hb dL_law_1415 ?_
  rw [hyl]
  refine lv_aload_n hx hb dL_law_1416 rfl (lv_at hl 0 rfl) ?_
  refine lv_iload hx hb dL_law_1417 (lv_at hl 4 rfl) ?_
  refine lv_iconst (v := 3) hx hb dL_law_1419 (by decide) ?_
  refine lv_iadd hx hb dL_law_1420 ?_
  refine va_sld hx hb hXs hbl hbA hS (hin 3 (by decide)) dL_law_1421 ?_
  rw [hyc]
  refine lv_aload_n hx hb dL_law_1422 rfl (lv_at hl 3 rfl) ?_
  refine lw_help hX (cL_simulateH l hst D cI cL cZ cJ ad dl sf sg hsf hsg fo t ss q hn hq vv nx ct hnx hct uf zz hRz.1 hB yl yc) ⟨by decide, by decide, show (parseMethodDescriptor yL_simulate.desc).map (fun d => d.parameters.length) = some 4 by decide +kernel⟩ rfl gL_simulate ⟨Nat.le_of_ble_eq_true rfl, Nat.le_of_ble_eq_true rfl⟩ hK hN hE hSW hZ hCN [0, 1, 2, 3] rfl hP hD hS (List.range' 9 27) (by decide) (rf_sub lw_len) hl.1 rfl (Nat.le_of_ble_eq_true rfl) dL_law_1423 hcs (fun r u h => ?_) (fun r u H locs hpost hP hD hS => ?_)
  · rcases h with ⟨-, -, zc9, zt9, hz0, hz1, rfl⟩ | ⟨-, -, zc9, zt9, hz0, hz1, rfl⟩ <;> exact lw_adr
  rw [r_sim] at hpost
  rcases hpost with ⟨hc, rfl, zc9, zt9, hz0, hz1, rfl⟩ | ⟨hc, rfl, zc9, zt9, hz0, hz1, rfl⟩
  · rw [rf_put lw_len lw_len] at hP hD
    refine lv_istore (lv' := [(5, .int (0)), (0, .ref b), (1, .ref (ad 1)), (2, .ref (ar 0)), (3, .ref (ad 0)), (4, .int (nI (4 * i)))]) hx hb dL_law_1426 hl (by decide) rfl (fun ls hl => ?_)
    refine lv_aload_n hx hb dL_law_1428 rfl (lv_at hl 3 rfl) ?_
    refine lv_aload_n hx hb dL_law_1429 rfl (lv_at hl 1 rfl) ?_
    refine lv_iload hx hb dL_law_1430 (lv_at hl 5 rfl) ?_
    refine lv_iconst (v := 1) hx hb dL_law_1432 (by decide) ?_
    refine lv_iadd hx hb dL_law_1433 ?_
    refine va_sld hx hb hXs hbl hbA hS (hin 1 (by decide)) dL_law_1434 ?_
    rw [hya]
    refine lv_i2l (v := ya.toInt64) hx hb dL_law_1435 rfl ?_
    refine lv_bipush (v := 32) hx hb dL_law_1436 (by decide) ?_
    refine lv_lshl (v := (ya.toInt64 <<< ((32 : Int32).toInt64 &&& 63))) hx hb dL_law_1438 rfl ?_
    refine lv_aload_n hx hb dL_law_1439 rfl (lv_at hl 1 rfl) ?_
    refine lv_iload hx hb dL_law_1440 (lv_at hl 5 rfl) ?_
    refine lv_iconst (v := 2) hx hb dL_law_1442 (by decide) ?_
    refine lv_iadd hx hb dL_law_1443 ?_
    refine va_sld hx hb hXs hbl hbA hS (hin 2 (by decide)) dL_law_1444 ?_
    rw [hyb]
    refine lv_i2l (v := yb.toInt64) hx hb dL_law_1445 rfl ?_
    refine lv_ldc2 (v := 4294967295) hx hb hown (hts _ wt_K180) dL_law_1446 ?_
    refine lv_land hx hb dL_law_1449 ?_
    refine lv_lor hx hb dL_law_1450 ?_
    rw [hyl]
    refine lv_aload_n hx hb dL_law_1451 rfl (lv_at hl 1 rfl) ?_
    refine lv_iload hx hb dL_law_1452 (lv_at hl 5 rfl) ?_
    refine lv_iconst (v := 3) hx hb dL_law_1454 (by decide) ?_
    refine lv_iadd hx hb dL_law_1455 ?_
    refine va_sld hx hb hXs hbl hbA hS (hin 3 (by decide)) dL_law_1456 ?_
    rw [hyc]
    refine lw_refi hX (c7_simulate l D cI cZ (ar 0) (ar 1) (ar 2) (ar 3) (ar 4) (ar 5) (ar 6) (ar 7) (ar 8) rf rb rl ct ss ps f (zz 16).1.2 ft flk fl (rz_wf hRz) (show 1 ≤ (zz 16).1.2 by have := hRz.1.1.1.1; omega) yl yc (smF (zz 16).1.2 yc.toNatClampNeg yl f) (yc.toNatClampNeg + 1) (fun h9 => sm_wf hRz) (fun h9 => sm_L (M := yc.toNatClampNeg) (d := yc.toNatClampNeg) (k := 0) (by omega) hRz)) (Cs := [[((ar 0), .inr (7, [.int (rf), .ref (ar 1), .int (nI (ss)), .int (nI (ps.2)), .int (bI (ps.1 = true)), .int (rb), .int (rl), .ref (ar 2), .ref (ar 3), .ref (ar 4), .ref (ar 5), .int (nI (ct)), .ref (ar 6), .ref (ar 7), .ref (ar 8)]))], [((ar 2), .inl (cI, 151, .inl f))], [((ar 3), .inl (cI, 151, .inl ft))], [((ar 4), .inl (cI, 151, .inl flk))], [((ar 8), .inl (cI, 4, .inl fl))]]) rfl ⟨by decide, by decide, show (parseMethodDescriptor yX7_simulate.desc).map (fun d => d.parameters.length) = some 2 by decide +kernel⟩ rfl g7_simulate ⟨Nat.le_of_ble_eq_true rfl, Nat.le_of_ble_eq_true rfl⟩ hK [0] rfl hP hD hS [0, 2, 3, 4, 8] (by decide) rfl rfl hl.1 rfl (Nat.le_of_ble_eq_true rfl) dL_law_1457 hcs (fun r9 U9 => r9 = (if rg1R yc 99 = 0 then 1000 * ((smF (zz 16).1.2 yc.toNatClampNeg yl f) 7 - f 7) + 20 * ((smF (zz 16).1.2 yc.toNatClampNeg yl f) 11 - f 11) + nI (kys (smF (zz 16).1.2 yc.toNatClampNeg yl f) (zz 16).1.2 16) else 0) ∧ ∃ tr9 : Nat → Int32, ∃ fl9 : Nat → Int32, ∃ lk9 : Nat → Int32, U9 = [[((ar 0), .inr (7, [.int (rg1R yc 99), .ref (ar 1), .int (nI (ss)), .int (nI (ps.2)), .int (bI (ps.1 = true)), .int (rb), .int (rl), .ref (ar 2), .ref (ar 3), .ref (ar 4), .ref (ar 5), .int (nI (ct)), .ref (ar 6), .ref (ar 7), .ref (ar 8)]))], [((ar 2), .inl (cI, 151, .inl f))], [((ar 3), .inl (cI, 151, .inl tr9))], [((ar 4), .inl (cI, 151, .inl lk9))], [((ar 8), .inl (cI, 4, .inl fl9))]]) (fun r9 u9 h => ?_) (fun r9 U9 h => ?_) (fun r9 U9 H locs hpost hP hD hS => ?_)
    · obtain ⟨e9, tr9, fl9, lk9, rfl⟩ := h
      exact ⟨[[((ar 0), .inr (7, [.int (rg1R yc 99), .ref (ar 1), .int (nI (ss)), .int (nI (ps.2)), .int (bI (ps.1 = true)), .int (rb), .int (rl), .ref (ar 2), .ref (ar 3), .ref (ar 4), .ref (ar 5), .int (nI (ct)), .ref (ar 6), .ref (ar 7), .ref (ar 8)]))], [((ar 2), .inl (cI, 151, .inl f))], [((ar 3), .inl (cI, 151, .inl tr9))], [((ar 4), .inl (cI, 151, .inl lk9))], [((ar 8), .inl (cI, 4, .inl fl9))]], rfl, e9, tr9, fl9, lk9, rfl⟩
    · obtain ⟨-, tr9, fl9, lk9, rfl⟩ := h
      rfl
    obtain ⟨e9, tr9, fl9, lk9, rfl⟩ := hpost
    rw [if_pos hc] at e9
    subst e9
    have hP : va_P D vwCl (bw (rfB cI cZ ar 0 rb rl ss ps ct t f tr9 lk9 fd fkp fik fl9 (lwB cI cL cZ cJ ad dl sf sg (vp_updL fo 0 (1000 * ((smZ yc.toNatClampNeg yl (zz 16)).2.1 5 - (zz 16).2.1 5) + 20 * ((smZ yc.toNatClampNeg yl (zz 16)).2.1 9 - (zz 16).2.1 9) + nI (ckZ (smZ yc.toNatClampNeg yl (zz 16)) 16) : Int32).toInt64) t ss q vv nx ct uf (va_up (va_up zz 17 zc9) 18 zt9)))) H := by
      rw [hc] at hP
      exact hP
    have hD : va_D A (bw (rfB cI cZ ar 0 rb rl ss ps ct t f tr9 lk9 fd fkp fik fl9 (lwB cI cL cZ cJ ad dl sf sg (vp_updL fo 0 (1000 * ((smZ yc.toNatClampNeg yl (zz 16)).2.1 5 - (zz 16).2.1 5) + 20 * ((smZ yc.toNatClampNeg yl (zz 16)).2.1 9 - (zz 16).2.1 9) + nI (ckZ (smZ yc.toNatClampNeg yl (zz 16)) 16) : Int32).toInt64) t ss q vv nx ct uf (va_up (va_up zz 17 zc9) 18 zt9)))) := by
      rw [hc] at hD
      exact hD
    refine lv_istore (lv' := [(6, .int (1000 * ((smF (zz 16).1.2 yc.toNatClampNeg yl f) 7 - f 7) + 20 * ((smF (zz 16).1.2 yc.toNatClampNeg yl f) 11 - f 11) + nI (kys (smF (zz 16).1.2 yc.toNatClampNeg yl f) (zz 16).1.2 16))), (5, .int (0)), (0, .ref b), (1, .ref (ad 1)), (2, .ref (ar 0)), (3, .ref (ad 0)), (4, .int (nI (4 * i)))]) hx hb dL_law_1460 hl (by decide) rfl (fun ls hl => ?_)
    exact lw_tail hL0 g7_thrown dL_law_1462 dL_law_1463 dL_law_1466 dL_law_1468 dL_law_1473 dL_law_1475 dL_law_1478 dL_law_1479 dL_law_1480 dL_law_1481 dL_law_1483 dL_law_1484 dL_law_1485 dL_law_1490 (by decide) hP hD hS (rel_keep hR (fun j h1 => by rw [va_up_ne _ _ (show j ≠ 18 by omega), va_up_ne _ _ (show j ≠ 17 by omega)]) (vaB (vaB hB hz0) hz1) hn hq) (fun _ => (show vp_updL fo 0 ((1000 * ((smZ yc.toNatClampNeg yl (zz 16)).2.1 5 - (zz 16).2.1 5) + 20 * ((smZ yc.toNatClampNeg yl (zz 16)).2.1 9 - (zz 16).2.1 9) + nI (ckZ (smZ yc.toNatClampNeg yl (zz 16)) 16) : Int32).toInt64) 0 = (1000 * ((smF (zz 16).1.2 yc.toNatClampNeg yl f) 7 - f 7) + 20 * ((smF (zz 16).1.2 yc.toNatClampNeg yl f) 11 - f 11) + nI (kys (smF (zz 16).1.2 yc.toNatClampNeg yl f) (zz 16).1.2 16) : Int32).toInt64 from (if_pos rfl).trans (congrArg Int32.toInt64 (v_sim hRz)))) hl hcs hk
  · rw [rf_put lw_len lw_len] at hP hD
    refine lv_istore (lv' := [(5, .int (rg1R yc 99)), (0, .ref b), (1, .ref (ad 1)), (2, .ref (ar 0)), (3, .ref (ad 0)), (4, .int (nI (4 * i)))]) hx hb dL_law_1426 hl (by decide) rfl (fun ls hl => ?_)
    refine lv_aload_n hx hb dL_law_1428 rfl (lv_at hl 3 rfl) ?_
    refine lv_aload_n hx hb dL_law_1429 rfl (lv_at hl 1 rfl) ?_
    refine lv_iload hx hb dL_law_1430 (lv_at hl 5 rfl) ?_
    refine lv_iconst (v := 1) hx hb dL_law_1432 (by decide) ?_
    refine lv_iadd hx hb dL_law_1433 ?_
    refine va_sld hx hb hXs hbl hbA hS (hin 1 (by decide)) dL_law_1434 ?_
    rw [hya]
    refine lv_i2l (v := ya.toInt64) hx hb dL_law_1435 rfl ?_
    refine lv_bipush (v := 32) hx hb dL_law_1436 (by decide) ?_
    refine lv_lshl (v := (ya.toInt64 <<< ((32 : Int32).toInt64 &&& 63))) hx hb dL_law_1438 rfl ?_
    refine lv_aload_n hx hb dL_law_1439 rfl (lv_at hl 1 rfl) ?_
    refine lv_iload hx hb dL_law_1440 (lv_at hl 5 rfl) ?_
    refine lv_iconst (v := 2) hx hb dL_law_1442 (by decide) ?_
    refine lv_iadd hx hb dL_law_1443 ?_
    refine va_sld hx hb hXs hbl hbA hS (hin 2 (by decide)) dL_law_1444 ?_
    rw [hyb]
    refine lv_i2l (v := yb.toInt64) hx hb dL_law_1445 rfl ?_
    refine lv_ldc2 (v := 4294967295) hx hb hown (hts _ wt_K180) dL_law_1446 ?_
    refine lv_land hx hb dL_law_1449 ?_
    refine lv_lor hx hb dL_law_1450 ?_
    rw [hyl]
    refine lv_aload_n hx hb dL_law_1451 rfl (lv_at hl 1 rfl) ?_
    refine lv_iload hx hb dL_law_1452 (lv_at hl 5 rfl) ?_
    refine lv_iconst (v := 3) hx hb dL_law_1454 (by decide) ?_
    refine lv_iadd hx hb dL_law_1455 ?_
    refine va_sld hx hb hXs hbl hbA hS (hin 3 (by decide)) dL_law_1456 ?_
    rw [hyc]
    refine lw_refi hX (c7_simulate l D cI cZ (ar 0) (ar 1) (ar 2) (ar 3) (ar 4) (ar 5) (ar 6) (ar 7) (ar 8) rf rb rl ct ss ps f (zz 16).1.2 ft flk fl (rz_wf hRz) (show 1 ≤ (zz 16).1.2 by have := hRz.1.1.1.1; omega) yl yc (smF (zz 16).1.2 yc.toNatClampNeg yl f) (yc.toNatClampNeg + 1) (fun h9 => sm_wf hRz) (fun h9 => sm_L (M := yc.toNatClampNeg) (d := yc.toNatClampNeg) (k := 0) (by omega) hRz)) (Cs := [[((ar 0), .inr (7, [.int (rf), .ref (ar 1), .int (nI (ss)), .int (nI (ps.2)), .int (bI (ps.1 = true)), .int (rb), .int (rl), .ref (ar 2), .ref (ar 3), .ref (ar 4), .ref (ar 5), .int (nI (ct)), .ref (ar 6), .ref (ar 7), .ref (ar 8)]))], [((ar 2), .inl (cI, 151, .inl f))], [((ar 3), .inl (cI, 151, .inl ft))], [((ar 4), .inl (cI, 151, .inl flk))], [((ar 8), .inl (cI, 4, .inl fl))]]) rfl ⟨by decide, by decide, show (parseMethodDescriptor yX7_simulate.desc).map (fun d => d.parameters.length) = some 2 by decide +kernel⟩ rfl g7_simulate ⟨Nat.le_of_ble_eq_true rfl, Nat.le_of_ble_eq_true rfl⟩ hK [0] rfl hP hD hS [0, 2, 3, 4, 8] (by decide) rfl rfl hl.1 rfl (Nat.le_of_ble_eq_true rfl) dL_law_1457 hcs (fun r9 U9 => r9 = (if rg1R yc 99 = 0 then 1000 * ((smF (zz 16).1.2 yc.toNatClampNeg yl f) 7 - f 7) + 20 * ((smF (zz 16).1.2 yc.toNatClampNeg yl f) 11 - f 11) + nI (kys (smF (zz 16).1.2 yc.toNatClampNeg yl f) (zz 16).1.2 16) else 0) ∧ ∃ tr9 : Nat → Int32, ∃ fl9 : Nat → Int32, ∃ lk9 : Nat → Int32, U9 = [[((ar 0), .inr (7, [.int (rg1R yc 99), .ref (ar 1), .int (nI (ss)), .int (nI (ps.2)), .int (bI (ps.1 = true)), .int (rb), .int (rl), .ref (ar 2), .ref (ar 3), .ref (ar 4), .ref (ar 5), .int (nI (ct)), .ref (ar 6), .ref (ar 7), .ref (ar 8)]))], [((ar 2), .inl (cI, 151, .inl f))], [((ar 3), .inl (cI, 151, .inl tr9))], [((ar 4), .inl (cI, 151, .inl lk9))], [((ar 8), .inl (cI, 4, .inl fl9))]]) (fun r9 u9 h => ?_) (fun r9 U9 h => ?_) (fun r9 U9 H locs hpost hP hD hS => ?_)
    · obtain ⟨e9, tr9, fl9, lk9, rfl⟩ := h
      exact ⟨[[((ar 0), .inr (7, [.int (rg1R yc 99), .ref (ar 1), .int (nI (ss)), .int (nI (ps.2)), .int (bI (ps.1 = true)), .int (rb), .int (rl), .ref (ar 2), .ref (ar 3), .ref (ar 4), .ref (ar 5), .int (nI (ct)), .ref (ar 6), .ref (ar 7), .ref (ar 8)]))], [((ar 2), .inl (cI, 151, .inl f))], [((ar 3), .inl (cI, 151, .inl tr9))], [((ar 4), .inl (cI, 151, .inl lk9))], [((ar 8), .inl (cI, 4, .inl fl9))]], rfl, e9, tr9, fl9, lk9, rfl⟩
    · obtain ⟨-, tr9, fl9, lk9, rfl⟩ := h
      rfl
    obtain ⟨e9, tr9, fl9, lk9, rfl⟩ := hpost
    rw [if_neg hc] at e9
    subst e9
    have hP : va_P D vwCl (bw (rfB cI cZ ar (rg1R yc 99) rb rl ss ps ct t f tr9 lk9 fd fkp fik fl9 (lwB cI cL cZ cJ ad dl sf sg fo t ss q vv nx ct uf (va_up (va_up zz 17 zc9) 18 zt9)))) H := by
      try simp only [if_neg hc] at hP
      exact hP
    have hD : va_D A (bw (rfB cI cZ ar (rg1R yc 99) rb rl ss ps ct t f tr9 lk9 fd fkp fik fl9 (lwB cI cL cZ cJ ad dl sf sg fo t ss q vv nx ct uf (va_up (va_up zz 17 zc9) 18 zt9)))) := by
      try simp only [if_neg hc] at hD
      exact hD
    refine lv_istore (lv' := [(6, .int (0)), (5, .int (rg1R yc 99)), (0, .ref b), (1, .ref (ad 1)), (2, .ref (ar 0)), (3, .ref (ad 0)), (4, .int (nI (4 * i)))]) hx hb dL_law_1460 hl (by decide) rfl (fun ls hl => ?_)
    exact lw_tail hL0 g7_thrown dL_law_1462 dL_law_1463 dL_law_1466 dL_law_1468 dL_law_1473 dL_law_1475 dL_law_1478 dL_law_1479 dL_law_1480 dL_law_1481 dL_law_1483 dL_law_1484 dL_law_1485 dL_law_1490 (by decide) hP hD hS (rel_keep hR (fun j h1 => by rw [va_up_ne _ _ (show j ≠ 18 by omega), va_up_ne _ _ (show j ≠ 17 by omega)]) (vaB (vaB hB hz0) hz1) hn hq) (fun h9 => absurd h9 hc) hl hcs hk
set_option maxHeartbeats 4000000 in
set_option maxRecDepth 100000 in
theorem lc_save : LCS 1493 p l e s m below meth c D cI cL cZ cJ ar ad dl sf sg A b L i cells slots xs Q := by
  intro hst hsf hsg hL0 hi hL9 H locs ls hcs hst0 hS hl hk
  obtain ⟨rf, rb, rl, ss, ps, t, f, ft, flk, fd, fkp, fik, fl, fo, q, vv, nx, ct, uf, zz, hP, hD, hR⟩ := hst0
  obtain ⟨hX, hr, hlocks, hK, hN, hE, hSW, hZ, hCN, hXs, hbl, hbA⟩ := id hL0
  obtain ⟨⟨hn, hq, hnx, hct⟩, hRz, hR3, hR4, hB⟩ := id hR
  have hx := hX.1
  have hb := hX.2.1
  have hown := hX.2.2.2.1
  have hts := hX.2.2.2.2
  have hin : ∀ k, k ≤ 3 → vp_in (nI (4 * i) + nI k) L := fun k hk => by rw [nI_add]; exact vp_in_nI (by omega) (by omega)
  obtain ⟨ya, hya⟩ : ∃ y, xs (nI (4 * i) + 1).toNatClampNeg = y := ⟨_, rfl⟩
  obtain ⟨yb, hyb⟩ : ∃ y, xs (nI (4 * i) + 2).toNatClampNeg = y := ⟨_, rfl⟩
  obtain ⟨yc, hyc⟩ : ∃ y, xs (nI (4 * i) + 3).toNatClampNeg = y := ⟨_, rfl⟩
  obtain ⟨kk, hkk2, hkk⟩ := sv_kk ya
  refine lv_aload_n hx hb dL_law_1493 rfl (lv_at hl 1 rfl) ?_
  refine lv_aload_n hx hb dL_law_1494 rfl (lv_at hl 0 rfl) ?_
  refine lv_iload hx hb dL_law_1495 (lv_at hl 4 rfl) ?_
  refine lv_iconst (v := 1) hx hb dL_law_1497 (by decide) ?_
  refine lv_iadd hx hb dL_law_1498 ?_
  refine va_sld hx hb hXs hbl hbA hS (hin 1 (by decide)) dL_law_1499 ?_
  rw [hya]
  refine lv_aload_n hx hb dL_law_1500 rfl (lv_at hl 3 rfl) ?_
  refine lw_help hX (cL_saveH l hst D cI cL cZ cJ ad dl sf sg hsf hsg fo t ss q hn hq vv nx ct hnx hct uf zz hRz.1 hB ya kk hkk2 hkk) ⟨by decide, by decide, show (parseMethodDescriptor yL_save.desc).map (fun d => d.parameters.length) = some 3 by decide +kernel⟩ rfl gL_save ⟨Nat.le_of_ble_eq_true rfl, Nat.le_of_ble_eq_true rfl⟩ hK hN hE hSW hZ hCN [0, 1, 2, 3] rfl hP hD hS (List.range' 9 27) (by decide) (rf_sub lw_len) hl.1 rfl (Nat.le_of_ble_eq_true rfl) dL_law_1501 hcs (fun r u h => ?_) (fun r u H locs hpost hP hD hS => ?_)
  · rcases h with ⟨-, -, rfl⟩ | ⟨-, -, rfl⟩ <;> exact lw_adr
  rw [r_sav] at hpost
  rcases hpost with ⟨hc, rfl, rfl⟩ | ⟨hc, rfl, rfl⟩
  · rw [rf_put lw_len lw_len] at hP hD
    obtain rfl := hkk (in_2.mpr (if0 (by decide) hc).1)
    refine lv_istore (lv' := [(5, .int (0)), (0, .ref b), (1, .ref (ad 1)), (2, .ref (ar 0)), (3, .ref (ad 0)), (4, .int (nI (4 * i)))]) hx hb dL_law_1504 hl (by decide) rfl (fun ls hl => ?_)
    refine lv_aload_n hx hb dL_law_1506 rfl (lv_at hl 3 rfl) ?_
    refine lv_aload_n hx hb dL_law_1507 rfl (lv_at hl 1 rfl) ?_
    refine lv_iload hx hb dL_law_1508 (lv_at hl 5 rfl) ?_
    refine lv_iconst (v := 1) hx hb dL_law_1510 (by decide) ?_
    refine lv_iadd hx hb dL_law_1511 ?_
    refine va_sld hx hb hXs hbl hbA hS (hin 1 (by decide)) dL_law_1512 ?_
    rw [hya]
    refine lw_refi hX (c7_save l D cI cZ (ar 0) (ar 1) (ar 2) (ar 3) (ar 4) (ar 5) (ar 6) (ar 7) (ar 8) rf rb rl ct ss ps f (zz 16).1.2 fkp fik (rz_wf hRz) ya) (Cs := [[((ar 0), .inr (7, [.int (rf), .ref (ar 1), .int (nI (ss)), .int (nI (ps.2)), .int (bI (ps.1 = true)), .int (rb), .int (rl), .ref (ar 2), .ref (ar 3), .ref (ar 4), .ref (ar 5), .int (nI (ct)), .ref (ar 6), .ref (ar 7), .ref (ar 8)]))], [((ar 2), .inl (cI, 151, .inl f))], [((ar 6), .inl (cI, 302, .inl fkp))], [((ar 7), .inl (cZ, 2, .inl fik))]]) rfl ⟨by decide, by decide, show (parseMethodDescriptor yX7_save.desc).map (fun d => d.parameters.length) = some 1 by decide +kernel⟩ rfl g7_save ⟨Nat.le_of_ble_eq_true rfl, Nat.le_of_ble_eq_true rfl⟩ hK [0, 2] rfl hP hD hS [0, 2, 6, 7] (by decide) rfl rfl hl.1 rfl (Nat.le_of_ble_eq_true rfl) dL_law_1513 hcs (fun r9 U9 => r9 = (if rg2R ya 1 = 0 then nI (kys f (zz 16).1.2 16) else 0) ∧ U9 = [[((ar 0), .inr (7, [.int (rg2R ya 1), .ref (ar 1), .int (nI (ss)), .int (nI (ps.2)), .int (bI (ps.1 = true)), .int (rb), .int (rl), .ref (ar 2), .ref (ar 3), .ref (ar 4), .ref (ar 5), .int (nI (ct)), .ref (ar 6), .ref (ar 7), .ref (ar 8)]))], [((ar 2), .inl (cI, 151, .inl f))], [((ar 6), .inl (cI, 302, .inl (if rg2R ya 1 = 0 then va_cpy f fkp 0 (151 * ya.toNatClampNeg) 151 else fkp)))], [((ar 7), .inl (cZ, 2, .inl (if rg2R ya 1 = 0 then upd fik ya.toNatClampNeg 1 else fik)))]]) (fun r9 u9 h => ?_) (fun r9 U9 h => ?_) (fun r9 U9 H locs hpost hP hD hS => ?_)
    · obtain ⟨e9, rfl⟩ := h
      exact ⟨[[((ar 0), .inr (7, [.int (rg2R ya 1), .ref (ar 1), .int (nI (ss)), .int (nI (ps.2)), .int (bI (ps.1 = true)), .int (rb), .int (rl), .ref (ar 2), .ref (ar 3), .ref (ar 4), .ref (ar 5), .int (nI (ct)), .ref (ar 6), .ref (ar 7), .ref (ar 8)]))], [((ar 2), .inl (cI, 151, .inl f))], [((ar 6), .inl (cI, 302, .inl (if rg2R ya 1 = 0 then va_cpy f fkp 0 (151 * ya.toNatClampNeg) 151 else fkp)))], [((ar 7), .inl (cZ, 2, .inl (if rg2R ya 1 = 0 then upd fik ya.toNatClampNeg 1 else fik)))]], rfl, e9, rfl⟩
    · obtain ⟨-, rfl⟩ := h
      rfl
    obtain ⟨e9, rfl⟩ := hpost
    rw [if_pos hc] at e9
    subst e9
    have hP : va_P D vwCl (bw (rfB cI cZ ar 0 rb rl ss ps ct t f ft flk fd (va_cpy f fkp 0 (151 * ya.toNatClampNeg) 151) (upd fik ya.toNatClampNeg 1) fl (lwB cI cL cZ cJ ad dl sf sg (vp_updL fo 0 (nI (ckZ (zz 16) 16) : Int32).toInt64) t ss q vv nx ct (upd uf ya.toNatClampNeg 1) (va_up zz (14 + ya.toNatClampNeg) (zz 16))))) H := by
      rw [hc] at hP
      exact hP
    have hD : va_D A (bw (rfB cI cZ ar 0 rb rl ss ps ct t f ft flk fd (va_cpy f fkp 0 (151 * ya.toNatClampNeg) 151) (upd fik ya.toNatClampNeg 1) fl (lwB cI cL cZ cJ ad dl sf sg (vp_updL fo 0 (nI (ckZ (zz 16) 16) : Int32).toInt64) t ss q vv nx ct (upd uf ya.toNatClampNeg 1) (va_up zz (14 + ya.toNatClampNeg) (zz 16))))) := by
      rw [hc] at hD
      exact hD
    refine lv_istore (lv' := [(6, .int (nI (kys f (zz 16).1.2 16))), (5, .int (0)), (0, .ref b), (1, .ref (ad 1)), (2, .ref (ar 0)), (3, .ref (ad 0)), (4, .int (nI (4 * i)))]) hx hb dL_law_1516 hl (by decide) rfl (fun ls hl => ?_)
    exact lw_tail hL0 g7_thrown dL_law_1518 dL_law_1519 dL_law_1522 dL_law_1524 dL_law_1529 dL_law_1531 dL_law_1534 dL_law_1535 dL_law_1536 dL_law_1537 dL_law_1539 dL_law_1540 dL_law_1541 dL_law_1546 (by decide) hP hD hS (rel_save hR hkk2 (va_up_self _ _ _) (fun j h1 h2 => va_up_ne _ _ h2) (vaB hB (hB 16))) (fun _ => (show vp_updL fo 0 ((nI (ckZ (zz 16) 16) : Int32).toInt64) 0 = (nI (kys f (zz 16).1.2 16) : Int32).toInt64 from (if_pos rfl).trans (congrArg Int32.toInt64 (v_sav hRz)))) hl hcs hk
  · rw [rf_put lw_len lw_len] at hP hD
    refine lv_istore (lv' := [(5, .int (rg2R ya 1)), (0, .ref b), (1, .ref (ad 1)), (2, .ref (ar 0)), (3, .ref (ad 0)), (4, .int (nI (4 * i)))]) hx hb dL_law_1504 hl (by decide) rfl (fun ls hl => ?_)
    refine lv_aload_n hx hb dL_law_1506 rfl (lv_at hl 3 rfl) ?_
    refine lv_aload_n hx hb dL_law_1507 rfl (lv_at hl 1 rfl) ?_
    refine lv_iload hx hb dL_law_1508 (lv_at hl 5 rfl) ?_
    refine lv_iconst (v := 1) hx hb dL_law_1510 (by decide) ?_
    refine lv_iadd hx hb dL_law_1511 ?_
    refine va_sld hx hb hXs hbl hbA hS (hin 1 (by decide)) dL_law_1512 ?_
    rw [hya]
    refine lw_refi hX (c7_save l D cI cZ (ar 0) (ar 1) (ar 2) (ar 3) (ar 4) (ar 5) (ar 6) (ar 7) (ar 8) rf rb rl ct ss ps f (zz 16).1.2 fkp fik (rz_wf hRz) ya) (Cs := [[((ar 0), .inr (7, [.int (rf), .ref (ar 1), .int (nI (ss)), .int (nI (ps.2)), .int (bI (ps.1 = true)), .int (rb), .int (rl), .ref (ar 2), .ref (ar 3), .ref (ar 4), .ref (ar 5), .int (nI (ct)), .ref (ar 6), .ref (ar 7), .ref (ar 8)]))], [((ar 2), .inl (cI, 151, .inl f))], [((ar 6), .inl (cI, 302, .inl fkp))], [((ar 7), .inl (cZ, 2, .inl fik))]]) rfl ⟨by decide, by decide, show (parseMethodDescriptor yX7_save.desc).map (fun d => d.parameters.length) = some 1 by decide +kernel⟩ rfl g7_save ⟨Nat.le_of_ble_eq_true rfl, Nat.le_of_ble_eq_true rfl⟩ hK [0, 2] rfl hP hD hS [0, 2, 6, 7] (by decide) rfl rfl hl.1 rfl (Nat.le_of_ble_eq_true rfl) dL_law_1513 hcs (fun r9 U9 => r9 = (if rg2R ya 1 = 0 then nI (kys f (zz 16).1.2 16) else 0) ∧ U9 = [[((ar 0), .inr (7, [.int (rg2R ya 1), .ref (ar 1), .int (nI (ss)), .int (nI (ps.2)), .int (bI (ps.1 = true)), .int (rb), .int (rl), .ref (ar 2), .ref (ar 3), .ref (ar 4), .ref (ar 5), .int (nI (ct)), .ref (ar 6), .ref (ar 7), .ref (ar 8)]))], [((ar 2), .inl (cI, 151, .inl f))], [((ar 6), .inl (cI, 302, .inl (if rg2R ya 1 = 0 then va_cpy f fkp 0 (151 * ya.toNatClampNeg) 151 else fkp)))], [((ar 7), .inl (cZ, 2, .inl (if rg2R ya 1 = 0 then upd fik ya.toNatClampNeg 1 else fik)))]]) (fun r9 u9 h => ?_) (fun r9 U9 h => ?_) (fun r9 U9 H locs hpost hP hD hS => ?_)
    · obtain ⟨e9, rfl⟩ := h
      exact ⟨[[((ar 0), .inr (7, [.int (rg2R ya 1), .ref (ar 1), .int (nI (ss)), .int (nI (ps.2)), .int (bI (ps.1 = true)), .int (rb), .int (rl), .ref (ar 2), .ref (ar 3), .ref (ar 4), .ref (ar 5), .int (nI (ct)), .ref (ar 6), .ref (ar 7), .ref (ar 8)]))], [((ar 2), .inl (cI, 151, .inl f))], [((ar 6), .inl (cI, 302, .inl (if rg2R ya 1 = 0 then va_cpy f fkp 0 (151 * ya.toNatClampNeg) 151 else fkp)))], [((ar 7), .inl (cZ, 2, .inl (if rg2R ya 1 = 0 then upd fik ya.toNatClampNeg 1 else fik)))]], rfl, e9, rfl⟩
    · obtain ⟨-, rfl⟩ := h
      rfl
    obtain ⟨e9, rfl⟩ := hpost
    rw [if_neg hc] at e9
    subst e9
    have hP : va_P D vwCl (bw (rfB cI cZ ar (rg2R ya 1) rb rl ss ps ct t f ft flk fd fkp fik fl (lwB cI cL cZ cJ ad dl sf sg fo t ss q vv nx ct uf zz))) H := by
      try simp only [if_neg hc] at hP
      exact hP
    have hD : va_D A (bw (rfB cI cZ ar (rg2R ya 1) rb rl ss ps ct t f ft flk fd fkp fik fl (lwB cI cL cZ cJ ad dl sf sg fo t ss q vv nx ct uf zz))) := by
      try simp only [if_neg hc] at hD
      exact hD
    refine lv_istore (lv' := [(6, .int (0)), (5, .int (rg2R ya 1)), (0, .ref b), (1, .ref (ad 1)), (2, .ref (ar 0)), (3, .ref (ad 0)), (4, .int (nI (4 * i)))]) hx hb dL_law_1516 hl (by decide) rfl (fun ls hl => ?_)
    exact lw_tail hL0 g7_thrown dL_law_1518 dL_law_1519 dL_law_1522 dL_law_1524 dL_law_1529 dL_law_1531 dL_law_1534 dL_law_1535 dL_law_1536 dL_law_1537 dL_law_1539 dL_law_1540 dL_law_1541 dL_law_1546 (by decide) hP hD hS hR (fun h9 => absurd h9 hc) hl hcs hk
set_option maxHeartbeats 4000000 in
set_option maxRecDepth 100000 in
theorem lc_restore : LCS 1549 p l e s m below meth c D cI cL cZ cJ ar ad dl sf sg A b L i cells slots xs Q := by
  intro hst hsf hsg hL0 hi hL9 H locs ls hcs hst0 hS hl hk
  obtain ⟨rf, rb, rl, ss, ps, t, f, ft, flk, fd, fkp, fik, fl, fo, q, vv, nx, ct, uf, zz, hP, hD, hR⟩ := hst0
  obtain ⟨hX, hr, hlocks, hK, hN, hE, hSW, hZ, hCN, hXs, hbl, hbA⟩ := id hL0
  obtain ⟨⟨hn, hq, hnx, hct⟩, hRz, hR3, hR4, hB⟩ := id hR
  have hx := hX.1
  have hb := hX.2.1
  have hown := hX.2.2.2.1
  have hts := hX.2.2.2.2
  have hin : ∀ k, k ≤ 3 → vp_in (nI (4 * i) + nI k) L := fun k hk => by rw [nI_add]; exact vp_in_nI (by omega) (by omega)
  obtain ⟨ya, hya⟩ : ∃ y, xs (nI (4 * i) + 1).toNatClampNeg = y := ⟨_, rfl⟩
  obtain ⟨yb, hyb⟩ : ∃ y, xs (nI (4 * i) + 2).toNatClampNeg = y := ⟨_, rfl⟩
  obtain ⟨yc, hyc⟩ : ∃ y, xs (nI (4 * i) + 3).toNatClampNeg = y := ⟨_, rfl⟩
  obtain ⟨kk, hkk2, hkk⟩ := sv_kk ya
  refine lv_aload_n hx hb dL_law_1549 rfl (lv_at hl 1 rfl) ?_
  refine lv_aload_n hx hb dL_law_1550 rfl (lv_at hl 0 rfl) ?_
  refine lv_iload hx hb dL_law_1551 (lv_at hl 4 rfl) ?_
  refine lv_iconst (v := 1) hx hb dL_law_1553 (by decide) ?_
  refine lv_iadd hx hb dL_law_1554 ?_
  refine va_sld hx hb hXs hbl hbA hS (hin 1 (by decide)) dL_law_1555 ?_
  rw [hya]
  refine lv_aload_n hx hb dL_law_1556 rfl (lv_at hl 3 rfl) ?_
  refine lw_help hX (cL_restoreH l hst D cI cL cZ cJ ad dl sf sg hsf hsg fo t ss q hn hq vv nx ct hnx hct uf zz hRz.1 hB ya kk hkk2 hkk) ⟨by decide, by decide, show (parseMethodDescriptor yL_restore.desc).map (fun d => d.parameters.length) = some 3 by decide +kernel⟩ rfl gL_restore ⟨Nat.le_of_ble_eq_true rfl, Nat.le_of_ble_eq_true rfl⟩ hK hN hE hSW hZ hCN [0, 1, 2, 3] rfl hP hD hS (List.range' 9 27) (by decide) (rf_sub lw_len) hl.1 rfl (Nat.le_of_ble_eq_true rfl) dL_law_1557 hcs (fun r u h => ?_) (fun r u H locs hpost hP hD hS => ?_)
  · rcases h with ⟨-, -, rfl⟩ | ⟨-, -, rfl⟩ <;> exact lw_adr
  rw [r_rst (uf := uf) (fik := fik) (x := ya) (fun h9 => (hR4 _ (by rw [hkk h9]; exact hkk2)).1)] at hpost
  rcases hpost with ⟨hc, rfl, rfl⟩ | ⟨hc, rfl, rfl⟩
  · rw [rf_put lw_len lw_len] at hP hD
    obtain rfl := hkk (in_2.mpr (if0 (by decide) hc).1)
    have hu9 : ¬ uf ya.toNatClampNeg = 0 := by rw [(hR4 _ hkk2).1]; exact rst_0 hc
    obtain ⟨g1, g2⟩ := (hR4 _ hkk2).2 hu9
    have hve : nI (ckZ (zz (14 + ya.toNatClampNeg)) 16) = nI (kys (rowA fkp ya.toNatClampNeg) (zz 16).1.2 16) := by rw [rz_ck g1 (Nat.le_refl 16), g2]
    refine lv_istore (lv' := [(5, .int (0)), (0, .ref b), (1, .ref (ad 1)), (2, .ref (ar 0)), (3, .ref (ad 0)), (4, .int (nI (4 * i)))]) hx hb dL_law_1560 hl (by decide) rfl (fun ls hl => ?_)
    refine lv_aload_n hx hb dL_law_1562 rfl (lv_at hl 3 rfl) ?_
    refine lv_aload_n hx hb dL_law_1563 rfl (lv_at hl 1 rfl) ?_
    refine lv_iload hx hb dL_law_1564 (lv_at hl 5 rfl) ?_
    refine lv_iconst (v := 1) hx hb dL_law_1566 (by decide) ?_
    refine lv_iadd hx hb dL_law_1567 ?_
    refine va_sld hx hb hXs hbl hbA hS (hin 1 (by decide)) dL_law_1568 ?_
    rw [hya]
    refine lw_refi hX (c7_restore l D cI cZ (ar 0) (ar 1) (ar 2) (ar 3) (ar 4) (ar 5) (ar 6) (ar 7) (ar 8) rf rb rl ct ss ps f (zz 16).1.2 fkp fik (rz_wf hRz) ya (fun j h8 h9 => by have h7 := hR4 j h8; obtain ⟨g1, g2⟩ := h7.2 (by rw [h7.1]; exact h9); have w9 := rz_wf g1; rw [g2] at w9; exact w9)) (Cs := [[((ar 0), .inr (7, [.int (rf), .ref (ar 1), .int (nI (ss)), .int (nI (ps.2)), .int (bI (ps.1 = true)), .int (rb), .int (rl), .ref (ar 2), .ref (ar 3), .ref (ar 4), .ref (ar 5), .int (nI (ct)), .ref (ar 6), .ref (ar 7), .ref (ar 8)]))], [((ar 2), .inl (cI, 151, .inl f))], [((ar 6), .inl (cI, 302, .inl fkp))], [((ar 7), .inl (cZ, 2, .inl fik))]]) rfl ⟨by decide, by decide, show (parseMethodDescriptor yX7_restore.desc).map (fun d => d.parameters.length) = some 1 by decide +kernel⟩ rfl g7_restore ⟨Nat.le_of_ble_eq_true rfl, Nat.le_of_ble_eq_true rfl⟩ hK [0, 2] rfl hP hD hS [0, 2, 6, 7] (by decide) rfl rfl hl.1 rfl (Nat.le_of_ble_eq_true rfl) dL_law_1569 hcs (fun r9 U9 => r9 = (if rstR fik ya = 0 then nI (kys (rowA fkp ya.toNatClampNeg) (zz 16).1.2 16) else 0) ∧ U9 = [[((ar 0), .inr (7, [.int (rstR fik ya), .ref (ar 1), .int (nI (ss)), .int (nI (ps.2)), .int (bI (ps.1 = true)), .int (rb), .int (rl), .ref (ar 2), .ref (ar 3), .ref (ar 4), .ref (ar 5), .int (nI (if rstR fik ya = 0 then 0 else ct)), .ref (ar 6), .ref (ar 7), .ref (ar 8)]))], [((ar 2), .inl (cI, 151, .inl (if rstR fik ya = 0 then rowA fkp ya.toNatClampNeg else f)))], [((ar 6), .inl (cI, 302, .inl fkp))], [((ar 7), .inl (cZ, 2, .inl fik))]]) (fun r9 u9 h => ?_) (fun r9 U9 h => ?_) (fun r9 U9 H locs hpost hP hD hS => ?_)
    · obtain ⟨e9, rfl⟩ := h
      exact ⟨[[((ar 0), .inr (7, [.int (rstR fik ya), .ref (ar 1), .int (nI (ss)), .int (nI (ps.2)), .int (bI (ps.1 = true)), .int (rb), .int (rl), .ref (ar 2), .ref (ar 3), .ref (ar 4), .ref (ar 5), .int (nI (if rstR fik ya = 0 then 0 else ct)), .ref (ar 6), .ref (ar 7), .ref (ar 8)]))], [((ar 2), .inl (cI, 151, .inl (if rstR fik ya = 0 then rowA fkp ya.toNatClampNeg else f)))], [((ar 6), .inl (cI, 302, .inl fkp))], [((ar 7), .inl (cZ, 2, .inl fik))]], rfl, e9, rfl⟩
    · obtain ⟨-, rfl⟩ := h
      rfl
    obtain ⟨e9, rfl⟩ := hpost
    rw [if_pos hc] at e9
    subst e9
    have hP : va_P D vwCl (bw (rfB cI cZ ar 0 rb rl ss ps 0 t (rowA fkp ya.toNatClampNeg) ft flk fd fkp fik fl (lwB cI cL cZ cJ ad dl sf sg (vp_updL fo 0 (nI (ckZ (zz (14 + ya.toNatClampNeg)) 16) : Int32).toInt64) t ss q vv nx 0 uf (va_up zz 16 (zz (14 + ya.toNatClampNeg)))))) H := by
      rw [hc] at hP
      exact hP
    have hD : va_D A (bw (rfB cI cZ ar 0 rb rl ss ps 0 t (rowA fkp ya.toNatClampNeg) ft flk fd fkp fik fl (lwB cI cL cZ cJ ad dl sf sg (vp_updL fo 0 (nI (ckZ (zz (14 + ya.toNatClampNeg)) 16) : Int32).toInt64) t ss q vv nx 0 uf (va_up zz 16 (zz (14 + ya.toNatClampNeg)))))) := by
      rw [hc] at hD
      exact hD
    refine lv_istore (lv' := [(6, .int (nI (kys (rowA fkp ya.toNatClampNeg) (zz 16).1.2 16))), (5, .int (0)), (0, .ref b), (1, .ref (ad 1)), (2, .ref (ar 0)), (3, .ref (ad 0)), (4, .int (nI (4 * i)))]) hx hb dL_law_1572 hl (by decide) rfl (fun ls hl => ?_)
    exact lw_tail hL0 g7_thrown dL_law_1574 dL_law_1575 dL_law_1578 dL_law_1580 dL_law_1585 dL_law_1587 dL_law_1590 dL_law_1591 dL_law_1592 dL_law_1593 dL_law_1595 dL_law_1596 dL_law_1597 dL_law_1602 (by decide) hP hD hS (rel_rest hR hkk2 hu9 (va_up_self _ _ _) (fun j h1 => va_up_ne _ _ (by omega)) (vaB hB (hB _))) (fun _ => (show vp_updL fo 0 ((nI (ckZ (zz (14 + ya.toNatClampNeg)) 16) : Int32).toInt64) 0 = (nI (kys (rowA fkp ya.toNatClampNeg) (zz 16).1.2 16) : Int32).toInt64 from (if_pos rfl).trans (congrArg Int32.toInt64 (hve)))) hl hcs hk
  · rw [rf_put lw_len lw_len] at hP hD
    refine lv_istore (lv' := [(5, .int (rstR fik ya)), (0, .ref b), (1, .ref (ad 1)), (2, .ref (ar 0)), (3, .ref (ad 0)), (4, .int (nI (4 * i)))]) hx hb dL_law_1560 hl (by decide) rfl (fun ls hl => ?_)
    refine lv_aload_n hx hb dL_law_1562 rfl (lv_at hl 3 rfl) ?_
    refine lv_aload_n hx hb dL_law_1563 rfl (lv_at hl 1 rfl) ?_
    refine lv_iload hx hb dL_law_1564 (lv_at hl 5 rfl) ?_
    refine lv_iconst (v := 1) hx hb dL_law_1566 (by decide) ?_
    refine lv_iadd hx hb dL_law_1567 ?_
    refine va_sld hx hb hXs hbl hbA hS (hin 1 (by decide)) dL_law_1568 ?_
    rw [hya]
    refine lw_refi hX (c7_restore l D cI cZ (ar 0) (ar 1) (ar 2) (ar 3) (ar 4) (ar 5) (ar 6) (ar 7) (ar 8) rf rb rl ct ss ps f (zz 16).1.2 fkp fik (rz_wf hRz) ya (fun j h8 h9 => by have h7 := hR4 j h8; obtain ⟨g1, g2⟩ := h7.2 (by rw [h7.1]; exact h9); have w9 := rz_wf g1; rw [g2] at w9; exact w9)) (Cs := [[((ar 0), .inr (7, [.int (rf), .ref (ar 1), .int (nI (ss)), .int (nI (ps.2)), .int (bI (ps.1 = true)), .int (rb), .int (rl), .ref (ar 2), .ref (ar 3), .ref (ar 4), .ref (ar 5), .int (nI (ct)), .ref (ar 6), .ref (ar 7), .ref (ar 8)]))], [((ar 2), .inl (cI, 151, .inl f))], [((ar 6), .inl (cI, 302, .inl fkp))], [((ar 7), .inl (cZ, 2, .inl fik))]]) rfl ⟨by decide, by decide, show (parseMethodDescriptor yX7_restore.desc).map (fun d => d.parameters.length) = some 1 by decide +kernel⟩ rfl g7_restore ⟨Nat.le_of_ble_eq_true rfl, Nat.le_of_ble_eq_true rfl⟩ hK [0, 2] rfl hP hD hS [0, 2, 6, 7] (by decide) rfl rfl hl.1 rfl (Nat.le_of_ble_eq_true rfl) dL_law_1569 hcs (fun r9 U9 => r9 = (if rstR fik ya = 0 then nI (kys (rowA fkp ya.toNatClampNeg) (zz 16).1.2 16) else 0) ∧ U9 = [[((ar 0), .inr (7, [.int (rstR fik ya), .ref (ar 1), .int (nI (ss)), .int (nI (ps.2)), .int (bI (ps.1 = true)), .int (rb), .int (rl), .ref (ar 2), .ref (ar 3), .ref (ar 4), .ref (ar 5), .int (nI (if rstR fik ya = 0 then 0 else ct)), .ref (ar 6), .ref (ar 7), .ref (ar 8)]))], [((ar 2), .inl (cI, 151, .inl (if rstR fik ya = 0 then rowA fkp ya.toNatClampNeg else f)))], [((ar 6), .inl (cI, 302, .inl fkp))], [((ar 7), .inl (cZ, 2, .inl fik))]]) (fun r9 u9 h => ?_) (fun r9 U9 h => ?_) (fun r9 U9 H locs hpost hP hD hS => ?_)
    · obtain ⟨e9, rfl⟩ := h
      exact ⟨[[((ar 0), .inr (7, [.int (rstR fik ya), .ref (ar 1), .int (nI (ss)), .int (nI (ps.2)), .int (bI (ps.1 = true)), .int (rb), .int (rl), .ref (ar 2), .ref (ar 3), .ref (ar 4), .ref (ar 5), .int (nI (if rstR fik ya = 0 then 0 else ct)), .ref (ar 6), .ref (ar 7), .ref (ar 8)]))], [((ar 2), .inl (cI, 151, .inl (if rstR fik ya = 0 then rowA fkp ya.toNatClampNeg else f)))], [((ar 6), .inl (cI, 302, .inl fkp))], [((ar 7), .inl (cZ, 2, .inl fik))]], rfl, e9, rfl⟩
    · obtain ⟨-, rfl⟩ := h
      rfl
    obtain ⟨e9, rfl⟩ := hpost
    rw [if_neg hc] at e9
    subst e9
    have hP : va_P D vwCl (bw (rfB cI cZ ar (rstR fik ya) rb rl ss ps ct t f ft flk fd fkp fik fl (lwB cI cL cZ cJ ad dl sf sg fo t ss q vv nx ct uf zz))) H := by
      try simp only [if_neg hc] at hP
      exact hP
    have hD : va_D A (bw (rfB cI cZ ar (rstR fik ya) rb rl ss ps ct t f ft flk fd fkp fik fl (lwB cI cL cZ cJ ad dl sf sg fo t ss q vv nx ct uf zz))) := by
      try simp only [if_neg hc] at hD
      exact hD
    refine lv_istore (lv' := [(6, .int (0)), (5, .int (rstR fik ya)), (0, .ref b), (1, .ref (ad 1)), (2, .ref (ar 0)), (3, .ref (ad 0)), (4, .int (nI (4 * i)))]) hx hb dL_law_1572 hl (by decide) rfl (fun ls hl => ?_)
    exact lw_tail hL0 g7_thrown dL_law_1574 dL_law_1575 dL_law_1578 dL_law_1580 dL_law_1585 dL_law_1587 dL_law_1590 dL_law_1591 dL_law_1592 dL_law_1593 dL_law_1595 dL_law_1596 dL_law_1597 dL_law_1602 (by decide) hP hD hS hR (fun h9 => absurd h9 hc) hl hcs hk
set_option maxHeartbeats 4000000 in
set_option maxRecDepth 100000 in
theorem lc_load : LCS 246 p l e s m below meth c D cI cL cZ cJ ar ad dl sf sg A b L i cells slots xs Q := by
  intro hst hsf hsg hL0 hi hL9 H locs ls hcs hst0 hS hl hk
  obtain ⟨rf, rb, rl, ss, ps, t, f, ft, flk, fd, fkp, fik, fl, fo, q, vv, nx, ct, uf, zz, hP, hD, hR⟩ := hst0
  obtain ⟨hX, hr, hlocks, hK, hN, hE, hSW, hZ, hCN, hXs, hbl, hbA⟩ := id hL0
  obtain ⟨⟨hn, hq, hnx, hct⟩, hRz, hR3, hR4, hB⟩ := id hR
  have hx := hX.1
  have hb := hX.2.1
  refine lv_aload_n hx hb dL_law_246 rfl (lv_at hl 1 rfl) ?_
  refine lv_aload_n hx hb dL_law_247 rfl (lv_at hl 3 rfl) ?_
  refine lw_help hX (cL_loadH l hst D cI cL cZ cJ ad dl sf sg hsf hsg fo t ss q hn hq vv nx ct hnx hct uf zz hRz.1 hB) ⟨by decide, by decide, show (parseMethodDescriptor yL_load.desc).map (fun d => d.parameters.length) = some 2 by decide +kernel⟩ rfl gL_load ⟨Nat.le_of_ble_eq_true rfl, Nat.le_of_ble_eq_true rfl⟩ hK hN hE hSW hZ hCN [0, 1, 2, 3] rfl hP hD hS (List.range' 9 27) (by decide) (rf_sub lw_len) hl.1 rfl (Nat.le_of_ble_eq_true rfl) dL_law_248 hcs (fun r u h => ?_) (fun r u H locs hpost hP hD hS => ?_)
  · rcases h with ⟨-, -, q9, v9, zt9, hz0, hz1, rfl⟩ | ⟨-, -, q9, v9, hz0, rfl⟩ <;> exact lw_adr
  rcases hpost with ⟨hc, rfl, q9, v9, zt9, hz0, hz1, rfl⟩ | ⟨hc, rfl, q9, v9, hz0, rfl⟩
  · rw [rf_put lw_len lw_len] at hP hD
    have hfe : feV (feR t ss) = -9 := by
      by_cases h9 : feV (feR t ss) = -9
      · exact h9
      · rw [c6ld, if_neg h9] at hc; exact absurd hc (by decide)
    obtain ⟨f9, hf9, hb9, hB9, hld⟩ := ld_all hn hfe (z := zz 16)
    have hch := ld_chip' hn hfe 0 0
    refine lv_istore (lv' := [(5, .int (0)), (0, .ref b), (1, .ref (ad 1)), (2, .ref (ar 0)), (3, .ref (ad 0)), (4, .int (nI (4 * i)))]) hx hb dL_law_251 hl (by decide) rfl (fun ls hl => ?_)
    refine lv_aload_n hx hb dL_law_253 rfl (lv_at hl 3 rfl) ?_
    refine lw_refi hX (c7_loadOk l D cI cZ (ar 0) (ar 1) (ar 2) (ar 3) (ar 4) (ar 5) (ar 6) (ar 7) (ar 8) rf rb rl ct t ss hn ps (Nat.zero_le _) f flk fl fik 91 (feR t ss) (fe_R hn) (fe_true hfe hn) (chB t ss) 91 (ldR t ss (zz 16)).2 f9 hld) (Cs := [[((ar 0), .inr (7, [.int (rf), .ref (ar 1), .int (nI (ss)), .int (nI (ps.2)), .int (bI (ps.1 = true)), .int (rb), .int (rl), .ref (ar 2), .ref (ar 3), .ref (ar 4), .ref (ar 5), .int (nI (ct)), .ref (ar 6), .ref (ar 7), .ref (ar 8)]))], [((ar 1), .inl (cI, 90, .inl t))], [((ar 2), .inl (cI, 151, .inl f))], [((ar 4), .inl (cI, 151, .inl flk))], [((ar 8), .inl (cI, 4, .inl fl))], [((ar 7), .inl (cZ, 2, .inl fik))]]) rfl ⟨by decide, by decide, show (parseMethodDescriptor yX7_load.desc).map (fun d => d.parameters.length) = some 0 by decide +kernel⟩ rfl g7_load ⟨Nat.le_of_ble_eq_true rfl, Nat.le_of_ble_eq_true rfl⟩ hK [0, 2] rfl hP hD hS [0, 1, 2, 4, 8, 7] (by decide) rfl rfl hl.1 rfl (Nat.le_of_ble_eq_true rfl) dL_law_254 hcs (fun r9 U9 => r9 = (nI ((ldR t ss (zz 16)).2)) ∧ ∃ fl9 : Nat → Int32, ∃ lk9 : Nat → Int32, ∃ rd9 : Bool × Nat, U9 = [[((ar 0), .inr (7, [.int (0), .ref (ar 1), .int (nI (ss)), .int (nI (rd9.2)), .int (bI (rd9.1 = true)), .int (hdB t ss), .int (hdL t ss), .ref (ar 2), .ref (ar 3), .ref (ar 4), .ref (ar 5), .int (0), .ref (ar 6), .ref (ar 7), .ref (ar 8)]))], [((ar 1), .inl (cI, 90, .inl t))], [((ar 2), .inl (cI, 151, .inl f9))], [((ar 4), .inl (cI, 151, .inl lk9))], [((ar 8), .inl (cI, 4, .inl fl9))], [((ar 7), .inl (cZ, 2, .inl (upd (upd fik 0 0) 1 0)))]]) (fun r9 u9 h => ?_) (fun r9 U9 h => ?_) (fun r9 U9 H locs hpost hP hD hS => ?_)
    · obtain ⟨e9, fl9, lk9, rd9, rfl⟩ := h
      exact ⟨[[((ar 0), .inr (7, [.int (0), .ref (ar 1), .int (nI (ss)), .int (nI (rd9.2)), .int (bI (rd9.1 = true)), .int (hdB t ss), .int (hdL t ss), .ref (ar 2), .ref (ar 3), .ref (ar 4), .ref (ar 5), .int (0), .ref (ar 6), .ref (ar 7), .ref (ar 8)]))], [((ar 1), .inl (cI, 90, .inl t))], [((ar 2), .inl (cI, 151, .inl f9))], [((ar 4), .inl (cI, 151, .inl lk9))], [((ar 8), .inl (cI, 4, .inl fl9))], [((ar 7), .inl (cZ, 2, .inl (upd (upd fik 0 0) 1 0)))]], rfl, e9, fl9, lk9, rd9, rfl⟩
    · obtain ⟨-, fl9, lk9, rd9, rfl⟩ := h
      rfl
    obtain ⟨e9, fl9, lk9, rd9, rfl⟩ := hpost
    subst e9
    have hP : va_P D vwCl (bw (rfB cI cZ ar 0 (hdB t ss) (hdL t ss) ss rd9 0 t f9 ft lk9 fd fkp (upd (upd fik 0 0) 1 0) fl9 (lwB cI cL cZ cJ ad dl sf sg (vp_updL fo 0 (nI ((ldR t ss (zz 16)).2) : Int32).toInt64) t ss q9 v9 nx 0 (upd (upd uf 0 0) 1 0) (va_up (va_up zz 16 ((ldR t ss (zz 16)).1)) 18 zt9)))) H := hP
    have hD : va_D A (bw (rfB cI cZ ar 0 (hdB t ss) (hdL t ss) ss rd9 0 t f9 ft lk9 fd fkp (upd (upd fik 0 0) 1 0) fl9 (lwB cI cL cZ cJ ad dl sf sg (vp_updL fo 0 (nI ((ldR t ss (zz 16)).2) : Int32).toInt64) t ss q9 v9 nx 0 (upd (upd uf 0 0) 1 0) (va_up (va_up zz 16 ((ldR t ss (zz 16)).1)) 18 zt9)))) := hD
    refine lv_istore (lv' := [(6, .int ((nI ((ldR t ss (zz 16)).2)))), (5, .int (0)), (0, .ref b), (1, .ref (ad 1)), (2, .ref (ar 0)), (3, .ref (ad 0)), (4, .int (nI (4 * i)))]) hx hb dL_law_257 hl (by decide) rfl (fun ls hl => ?_)
    have h16 : va_up (va_up zz 16 ((ldR t ss (zz 16)).1)) 18 zt9 16 = (ldR t ss (zz 16)).1 := by rw [va_up_ne _ _ (by decide), va_up_self]
    exact lw_tail hL0 g7_thrown dL_law_259 dL_law_260 dL_law_263 dL_law_265 dL_law_270 dL_law_272 dL_law_275 dL_law_276 dL_law_277 dL_law_278 dL_law_280 dL_law_281 dL_law_282 dL_law_287 (by decide) hP hD hS (rel_load hR hz0 (by rw [h16]; exact hf9) (vaB (vaB hB (by rw [hb9]; exact hch.2.2.1)) hz1)) (fun _ => (show vp_updL fo 0 ((nI ((ldR t ss (zz 16)).2) : Int32).toInt64) 0 = ((nI ((ldR t ss (zz 16)).2)) : Int32).toInt64 from if_pos rfl)) hl hcs hk
  · rw [rf_put lw_len lw_len] at hP hD
    have hfe : ¬ feV (feR t ss) = -9 := fun h9 => hc (by rw [c6ld, if_pos h9])
    have hfq : ¬ (feR t ss).1 = true := fun h9 => hfe (by rw [feV, if_pos h9])
    have hc1 : c6ld t ss = 1 := by rw [c6ld, if_neg hfe]
    rw [hc1]
    refine lv_istore (lv' := [(5, .int (1)), (0, .ref b), (1, .ref (ad 1)), (2, .ref (ar 0)), (3, .ref (ad 0)), (4, .int (nI (4 * i)))]) hx hb dL_law_251 hl (by decide) rfl (fun ls hl => ?_)
    refine lv_aload_n hx hb dL_law_253 rfl (lv_at hl 3 rfl) ?_
    refine lw_refi hX (c7_loadBad l D cI cZ (ar 0) (ar 1) (ar 2) (ar 3) (ar 4) (ar 5) (ar 6) (ar 7) (ar 8) rf rb rl ct t ss hn ps (Nat.zero_le _) f flk fl fik 91 (feR t ss) (fe_R hn) hfq) (Cs := [[((ar 0), .inr (7, [.int (rf), .ref (ar 1), .int (nI (ss)), .int (nI (ps.2)), .int (bI (ps.1 = true)), .int (rb), .int (rl), .ref (ar 2), .ref (ar 3), .ref (ar 4), .ref (ar 5), .int (nI (ct)), .ref (ar 6), .ref (ar 7), .ref (ar 8)]))], [((ar 1), .inl (cI, 90, .inl t))], [((ar 2), .inl (cI, 151, .inl f))], [((ar 4), .inl (cI, 151, .inl flk))], [((ar 8), .inl (cI, 4, .inl fl))], [((ar 7), .inl (cZ, 2, .inl fik))]]) rfl ⟨by decide, by decide, show (parseMethodDescriptor yX7_load.desc).map (fun d => d.parameters.length) = some 0 by decide +kernel⟩ rfl g7_load ⟨Nat.le_of_ble_eq_true rfl, Nat.le_of_ble_eq_true rfl⟩ hK [0, 2] rfl hP hD hS [0, 1, 2, 4, 8, 7] (by decide) rfl rfl hl.1 rfl (Nat.le_of_ble_eq_true rfl) dL_law_254 hcs (fun r9 U9 => r9 = 0 ∧ U9 = [[((ar 0), .inr (7, [.int (1), .ref (ar 1), .int (nI (ss)), .int (nI ((feR t ss).2)), .int (bI ((feR t ss).1 = true)), .int (hdB t ss), .int (hdL t ss), .ref (ar 2), .ref (ar 3), .ref (ar 4), .ref (ar 5), .int (nI (ct)), .ref (ar 6), .ref (ar 7), .ref (ar 8)]))], [((ar 1), .inl (cI, 90, .inl t))], [((ar 2), .inl (cI, 151, .inl f))], [((ar 4), .inl (cI, 151, .inl flk))], [((ar 8), .inl (cI, 4, .inl fl))], [((ar 7), .inl (cZ, 2, .inl fik))]]) (fun r9 u9 h => ?_) (fun r9 U9 h => ?_) (fun r9 U9 H locs hpost hP hD hS => ?_)
    · obtain ⟨e9, rfl⟩ := h
      exact ⟨[[((ar 0), .inr (7, [.int (1), .ref (ar 1), .int (nI (ss)), .int (nI ((feR t ss).2)), .int (bI ((feR t ss).1 = true)), .int (hdB t ss), .int (hdL t ss), .ref (ar 2), .ref (ar 3), .ref (ar 4), .ref (ar 5), .int (nI (ct)), .ref (ar 6), .ref (ar 7), .ref (ar 8)]))], [((ar 1), .inl (cI, 90, .inl t))], [((ar 2), .inl (cI, 151, .inl f))], [((ar 4), .inl (cI, 151, .inl flk))], [((ar 8), .inl (cI, 4, .inl fl))], [((ar 7), .inl (cZ, 2, .inl fik))]], rfl, e9, rfl⟩
    · obtain ⟨-, rfl⟩ := h
      rfl
    obtain ⟨e9, rfl⟩ := hpost
    subst e9
    have hP : va_P D vwCl (bw (rfB cI cZ ar 1 (hdB t ss) (hdL t ss) ss (feR t ss) ct t f ft flk fd fkp fik fl (lwB cI cL cZ cJ ad dl sf sg fo t ss q9 v9 nx ct uf zz))) H := hP
    have hD : va_D A (bw (rfB cI cZ ar 1 (hdB t ss) (hdL t ss) ss (feR t ss) ct t f ft flk fd fkp fik fl (lwB cI cL cZ cJ ad dl sf sg fo t ss q9 v9 nx ct uf zz))) := hD
    refine lv_istore (lv' := [(6, .int (0)), (5, .int (1)), (0, .ref b), (1, .ref (ad 1)), (2, .ref (ar 0)), (3, .ref (ad 0)), (4, .int (nI (4 * i)))]) hx hb dL_law_257 hl (by decide) rfl (fun ls hl => ?_)
    exact lw_tail hL0 g7_thrown dL_law_259 dL_law_260 dL_law_263 dL_law_265 dL_law_270 dL_law_272 dL_law_275 dL_law_276 dL_law_277 dL_law_278 dL_law_280 dL_law_281 dL_law_282 dL_law_287 (by decide) hP hD hS (rel_keep hR (fun j h1 => rfl) hB hn hz0) (fun h9 => absurd h9 (by decide)) hl hcs hk
end CS
