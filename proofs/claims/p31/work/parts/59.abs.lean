-- the Log behind an action holds Inv
theorem iv_put {z : LgS} {x v : Int32} (h : Inv z) (hR : c6put z x v = 0) : Inv (stT x.toNatClampNeg v z).2 := by
  unfold c6put at hR
  split at hR
  · rename_i hk
    split at hR
    · exact absurd hR (by decide)
    · rename_i hcs
      exact (inv_st h (cs_ne hcs) (num_in (j := 16) (by decide) hk.1).2 (Or.inl (fun e => hk.2.1 (by rw [e]; decide)))).2
  · exact absurd hR (by decide)
theorem iv_rem {z : LgS} {x : Int32} (h : Inv z) (hR : c6rem z x = 0) : Inv (stT x.toNatClampNeg (-9) z).2 := by
  unfold c6rem at hR
  split at hR
  · rename_i hk
    obtain ⟨e, hl⟩ := num_in (j := 16) (by decide) hk
    split at hR
    · exact absurd hR (by decide)
    · rename_i hcs
      exact (inv_st h (cs_ne (fun y => hcs (Or.inr y))) hl (Or.inr (fun y => hcs (Or.inl (by rw [e]; exact y))))).2
  · exact absurd hR (by decide)
theorem iv_swp {z : LgS} (h : Inv z) (hR : c6swp z = 0) : Inv (sbT (oI (cvZ z)).toNatClampNeg z).2 := by
  unfold c6swp at hR
  split at hR
  · exact absurd hR (by decide)
  · rename_i hv
    cases hc : cvZ z with
    | none => rw [hc] at hv; exact absurd rfl hv
    | some b =>
      rw [← hc, (cvZ_o hc (inv_B h)).1]
      exact (inv_sb h hc).2
theorem iv_cut {z : LgS} {x : Int32} (h : Inv z) (hR : c6cut z x = 0) : Inv (zC z x) := by
  unfold c6cut at hR
  split at hR
  · rename_i hk
    obtain ⟨e, hl⟩ := num_le (a := 99) (by decide) hk.1 hk.2
    rw [e]
    exact inv_zC h hl
  · exact absurd hR (by decide)
theorem iv_pol {z : LgS} {x : Int32} (h : Inv z) (hR : c6r x 2 = 0) : Inv (zPo z x) := by
  unfold c6r at hR
  split at hR
  · rename_i hk
    obtain ⟨e, hl⟩ := num_le (a := 2) (by decide) hk.1 hk.2
    rw [e]
    exact inv_zPo h hl
  · exact absurd hR (by decide)
theorem iv_ld {t : Nat → Int32} {n : Nat} {z : LgS} (hn : n ≤ 90) (hR : c6ld t n = 0) : Inv (ldR t n z).1 := by
  unfold c6ld at hR
  split at hR
  · rename_i he
    obtain ⟨f9, h, -⟩ := ld_all (z := z) hn he
    exact h.1
  · exact absurd hR (by decide)
-- what the wrappers answer, and the object behind them
def apJ (n : Nat) (x : Int32) : Int64 := if c6ap n x = 0 then (nI (n + 1)).toInt64 else if c6ap n x = 1 then (-9000000000000000002) else (-9000000000000000003)
def apA (a : AS) (x : Int32) : AS := if c6ap a.1.2 x = 0 then ((upd a.1.1 a.1.2 x, a.1.2 + 1), a.2) else a
def ldJ (a : AS) : Int64 := if c6ld a.1.1 a.1.2 = 0 then (nI (ldR a.1.1 a.1.2 a.2.1).2).toInt64 else (-9000000000000000003)
def ldA (a : AS) : AS := if c6ld a.1.1 a.1.2 = 0 then (a.1, ((ldR a.1.1 a.1.2 a.2.1).1, ([], fun _ => none))) else a
def abJ (z : LgS) (x : Int32) : Int64 := if c6r x 13 = 0 then (abZ z x.toNatClampNeg).toInt64 else (-9000000000000000002)
def pgJ (z : LgS) (x v : Int32) : Int64 := if c6pg z x v = 0 then (tpZ z x v).toInt64 else if c6pg z x v = 1 then (-9000000000000000001) else (-9000000000000000002)
def blJ (z : LgS) (x v : Int32) : Int64 := if c6bl z x v = 0 then (blZ z x v.toNatClampNeg).toInt64 else if c6bl z x v = 1 then (-9000000000000000001) else (-9000000000000000002)
def geJ (z : LgS) (x : Int32) : Int64 := if c6get z x = 0 then (vaZ z x).toInt64 else if c6get z x = 1 then (-9000000000000000002) else (-9000000000000000003)
def kaJ (z : LgS) (x : Int32) : Int64 := if c6kat x = 0 then (oI (kaF z x 16)).toInt64 else (-9000000000000000002)
def neJ (z : LgS) (x : Int32) : Int64 := if c6key x = 0 then (at_ (z.2.2 6) 16 (-9) x).toInt64 else (-9000000000000000002)
def lcJ (z : LgS) (x : Int32) : Int64 := if c6r x 2 = 0 then (tcF (z.2.1 10) (z.2.1 11) (z.2.1 12) x.toNatClampNeg).toInt64 else (-9000000000000000002)
def noA (a : AS) (z : LgS) : AS := (a.1, (z, ((a.2.1 :: a.2.2.1).take 14, a.2.2.2)))
def puJ (z : LgS) (x v : Int32) : Int64 := if c6put z x v = 0 then (stT x.toNatClampNeg v z).1.toInt64 else if c6put z x v = 1 then (-9000000000000000002) else (-9000000000000000003)
def puA (a : AS) (x v : Int32) : AS := if c6put a.2.1 x v = 0 then noA a (stT x.toNatClampNeg v a.2.1).2 else a
def reJ (z : LgS) (x : Int32) : Int64 := if c6rem z x = 0 then (stT x.toNatClampNeg (-9) z).1.toInt64 else if c6rem z x = 1 then (-9000000000000000002) else (-9000000000000000003)
def reA (a : AS) (x : Int32) : AS := if c6rem a.2.1 x = 0 then noA a (stT x.toNatClampNeg (-9) a.2.1).2 else a
def swJ (z : LgS) : Int64 := if c6swp z = 0 then (sbT (oI (cvZ z)).toNatClampNeg z).1.toInt64 else (-9000000000000000003)
def swA (a : AS) : AS := if c6swp a.2.1 = 0 then noA a (sbT (oI (cvZ a.2.1)).toNatClampNeg a.2.1).2 else a
def cuJ (z : LgS) (x : Int32) : Int64 := if c6cut z x = 0 then (z.2.1 1).toInt64 else if c6cut z x = 1 then (-9000000000000000002) else (-9000000000000000003)
def cuA (a : AS) (x : Int32) : AS := if c6cut a.2.1 x = 0 then noA a (zC a.2.1 x) else a
def stJ (z : LgS) : Int64 := if c6sta z = 0 then (nI (ckZ (zSw z) 16)).toInt64 else (-9000000000000000003)
def stA (a : AS) : AS := if c6sta a.2.1 = 0 then noA a (zSw a.2.1) else a
def poJ (z : LgS) (x : Int32) : Int64 := if c6r x 2 = 0 then (z.2.1 0).toInt64 else (-9000000000000000002)
def poA (a : AS) (x : Int32) : AS := if c6r x 2 = 0 then noA a (zPo a.2.1 x) else a
def unJ (a : AS) : Int64 := if c6und a.2.2.1.length = 0 then (nI (a.2.2.1.length - 1)).toInt64 else (-9000000000000000003)
def unA (a : AS) : AS := match a.2.2.1 with | [] => a | z :: h => (a.1, (z, (h, a.2.2.2)))
def opJ (z : LgS) : Int64 := if c6ops z = 0 then (csV z).toInt64 else (-9000000000000000003)
def acJ (z : LgS) (x v w : Int32) : Int64 := if c6afc z x v w = 0 then (vaZ (afZ z x.toNatClampNeg v w.toNatClampNeg) x).toInt64 else if c6afc z x v w = 1 then (-9000000000000000002) else (-9000000000000000003)
def laJ (z : LgS) (x : Int32) : Int64 := if c6key x = 0 then (laV z x.toNatClampNeg).toInt64 else (-9000000000000000002)
def scJ (z : LgS) (x : Int32) (v : Int64) : Int64 := if c6sc x v = 0 then (oI (scZ x.toNatClampNeg v.toInt.toNat x.toNatClampNeg 0 z)).toInt64 else (-9000000000000000002)
def siJ (z : LgS) (x : Int64) (v : Int32) : Int64 := if c6sim v = 0 then (1000 * ((smZ v.toNatClampNeg x z).2.1 5 - z.2.1 5) + 20 * ((smZ v.toNatClampNeg x z).2.1 9 - z.2.1 9) + nI (ckZ (smZ v.toNatClampNeg x z) 16)).toInt64 else (-9000000000000000002)
def saJ (z : LgS) (x : Int32) : Int64 := if c6sav x = 0 then (nI (ckZ z 16)).toInt64 else (-9000000000000000001)
def saA (a : AS) (x : Int32) : AS := if c6sav x = 0 then (a.1, (a.2.1, (a.2.2.1, fun k => if k = x.toNatClampNeg then some a.2.1 else a.2.2.2 k))) else a
def rsJ (a : AS) (x : Int32) : Int64 := if inN x 2 then (match a.2.2.2 x.toNatClampNeg with | none => (-9000000000000000003) | some z => (nI (ckZ z 16)).toInt64) else (-9000000000000000001)
def rsA (a : AS) (x : Int32) : AS := if inN x 2 then (match a.2.2.2 x.toNatClampNeg with | none => a | some z => (a.1, (z, ([], a.2.2.2)))) else a
theorem hiL_note {nx ct : Nat} {zz z2 : Nat → LgS} (hnx : nx < 14) (hct : ct ≤ 14) (h0 : z2 nx = zz 16) (h1 : ∀ j, j < 14 → j ≠ nx → z2 j = zz j) : hiL ((nx + 1) % 14) (if 14 < ct + 1 then 14 else ct + 1) z2 = (zz 16 :: hiL nx ct zz).take 14 := by
  refine List.ext_getElem (by simp [hiL]; split <;> omega) fun i g1 g2 => ?_
  simp only [hiL, List.length_map, List.length_range] at g1
  simp only [hiL, List.getElem_map, List.getElem_range, List.getElem_take]
  cases i with
  | zero =>
    rw [List.getElem_cons_zero, ← h0]
    congr 1
    omega
  | succ i =>
    rw [List.getElem_cons_succ, List.getElem_map, List.getElem_range]
    rw [show ((nx + 1) % 14 + 13 - (i + 1)) % 14 = (nx + 13 - i) % 14 by split at g1 <;> omega]
    exact h1 _ (Nat.mod_lt _ (by decide)) (by split at g1 <;> omega)
theorem hiL_keep {nx ct : Nat} {zz z2 : Nat → LgS} (h1 : ∀ j, j < 14 → z2 j = zz j) : hiL nx ct z2 = hiL nx ct zz :=
  List.map_congr_left fun j _ => h1 _ (Nat.mod_lt _ (by decide))
theorem hiL_len {nx ct : Nat} {zz : Nat → LgS} : (hiL nx ct zz).length = ct := by simp [hiL]
theorem hiL_back {nx ct : Nat} {zz : Nat → LgS} (hnx : nx < 14) (hct : ct ≤ 14) (h : ¬ ct = 0) : hiL nx ct zz = zz ((nx + 14 - 1) % 14) :: hiL ((nx + 14 - 1) % 14) (ct - 1) zz := by
  refine List.ext_getElem (by simp [hiL]; omega) fun i g1 g2 => ?_
  simp only [hiL, List.length_map, List.length_range] at g1
  simp only [hiL, List.getElem_map, List.getElem_range]
  cases i with
  | zero => rw [List.getElem_cons_zero]; congr 1
  | succ i =>
    rw [List.getElem_cons_succ, List.getElem_map, List.getElem_range]
    congr 1
    omega
theorem upB {zz : Nat → LgS} {k : Nat} {z : LgS} (h : ∀ j, (zz j).1.2 ≤ 8) (hz : z.1.2 ≤ 8) : ∀ j, (va_up zz k z j).1.2 ≤ 8 := fun j => by
  unfold va_up
  split
  · exact hz
  · exact h j
/-- an object that is as it was but for what nobody sees -/
theorem ob_keep {cI cL cZ : ClassId} {G : Geo} {a : AS} {q nx ct : Nat} {vv uf : Nat → Int32} {zz z2 : Nat → LgS} (hc : obC a q nx ct uf zz) {q2 : Nat} (hq : q2 ≤ 90) (h1 : ∀ j, j ≤ 16 → z2 j = zz j) (hB : ∀ j, (z2 j).1.2 ≤ 8) : OB cI cL cZ G a (bw (pwB cI cL cZ G.1 G.2.1 G.2.2.1 G.2.2.2 a.1.1 a.1.2 q2 vv nx ct uf z2)) :=
  ⟨q2, vv, nx, ct, uf, z2, rfl, ⟨hq, hc.1.2.1, hc.1.2.2.1, hB⟩, by rw [h1 16 (Nat.le_refl _)]; exact hc.2.1, by rw [hiL_keep (fun j hj => h1 j (by omega))]; exact hc.2.2.1, fun k hk => by rw [h1 (14 + k) (by omega)]; exact hc.2.2.2 k hk⟩
theorem ob_note {cI cL cZ : ClassId} {G : Geo} {a : AS} {q nx ct : Nat} {vv uf : Nat → Int32} {zz z2 : Nat → LgS} (hc : obC a q nx ct uf zz) {z : LgS} (h16 : z2 16 = z) (hn : z2 nx = zz 16) (h1 : ∀ j, j ≤ 15 → j ≠ nx → z2 j = zz j) (hB : ∀ j, (z2 j).1.2 ≤ 8) : OB cI cL cZ G (noA a z) (bw (pwB cI cL cZ G.1 G.2.1 G.2.2.1 G.2.2.2 a.1.1 a.1.2 q vv ((nx + 1) % 14) (if 14 < ct + 1 then 14 else ct + 1) uf z2)) := by
  obtain ⟨⟨h2, h3, h4, h5⟩, h6, h7, h8⟩ := hc
  refine ⟨q, vv, _, _, uf, z2, rfl, ⟨h2, Nat.mod_lt _ (by decide), by split <;> omega, hB⟩, h16, ?_, fun k hk => ?_⟩
  · rw [hiL_note h3 h4 hn (fun j hj => h1 j (by omega)), h6, h7]
    rfl
  · rw [h1 (14 + k) (by omega) (by omega)]
    exact h8 k hk
/-- what an object must be that its methods may be called -/
def Go (a : AS) : Prop := a.1.2 ≤ 90 ∧ Inv a.2.1
section AB
variable {l : Launch} {D : va_G} {cI cL cZ : ClassId} {Gs : Nat → Geo} {a : AS}
theorem x_about (hst : l.stackTraces = false) (hG : GeoOk (Gs 0)) (hGo : Go a) (x : Int32)  : LX l yL_about cL_about 3 [(0, 6, 7, 15)] 7 111 D cI cL cZ Gs [a] [.ref ((Gs 0).1 1), .int x] (abJ a.2.1 x) [a] := by
  refine lx_of fun q vv nx ct uf zz hc => ?_
  refine ⟨_, cL_aboutH l hst D cI cL cZ (Gs 0).1 (Gs 0).2.1 (Gs 0).2.2.1 (Gs 0).2.2.2 hG.1 hG.2 a.1.1 a.1.2 q (hGo.1) (hc.1.1) vv nx ct hc.1.2.1 hc.1.2.2.1 uf zz (by rw [hc.2.1]; exact hGo.2) hc.1.2.2.2 x, fun r u hp => ?_⟩
  rw [hc.2.1] at hp
  rcases hp with ⟨hR, rfl, rfl⟩ | ⟨hR, rfl, rfl⟩
  · exact ⟨by rw [abJ, if_pos hR], ob_keep (vv := vv) hc hc.1.1 (fun _ _ => rfl) hc.1.2.2.2⟩
  · exact ⟨by rw [abJ, if_neg hR], ob_keep (vv := vv) hc hc.1.1 (fun _ _ => rfl) hc.1.2.2.2⟩
theorem x_page (hst : l.stackTraces = false) (hG : GeoOk (Gs 0)) (hGo : Go a) (x : Int32) (v : Int32)  : LX l yL_page cL_page 4 [(0, 7, 8, 34), (0, 7, 13, 15)] 7 112 D cI cL cZ Gs [a] [.ref ((Gs 0).1 1), .int x, .int v] (pgJ a.2.1 x v) [a] := by
  refine lx_of fun q vv nx ct uf zz hc => ?_
  refine ⟨_, cL_pageH l hst D cI cL cZ (Gs 0).1 (Gs 0).2.1 (Gs 0).2.2.1 (Gs 0).2.2.2 hG.1 hG.2 a.1.1 a.1.2 q (hGo.1) (hc.1.1) vv nx ct hc.1.2.1 hc.1.2.2.1 uf zz (by rw [hc.2.1]; exact hGo.2) hc.1.2.2.2 x v, fun r u hp => ?_⟩
  rw [hc.2.1] at hp
  rcases hp with ⟨hR, rfl, rfl⟩ | ⟨hR, rfl, rfl⟩
  · exact ⟨by rw [pgJ, if_pos hR], ob_keep (vv := vv) hc hc.1.1 (fun _ _ => rfl) hc.1.2.2.2⟩
  · exact ⟨by rw [pgJ, if_neg hR], ob_keep (vv := vv) hc hc.1.1 (fun _ _ => rfl) hc.1.2.2.2⟩
theorem x_block (hst : l.stackTraces = false) (hG : GeoOk (Gs 0)) (hGo : Go a) (x : Int32) (v : Int32)  : LX l yL_block cL_block 4 [(0, 7, 8, 34), (0, 7, 13, 15)] 7 112 D cI cL cZ Gs [a] [.ref ((Gs 0).1 1), .int x, .int v] (blJ a.2.1 x v) [a] := by
  refine lx_of fun q vv nx ct uf zz hc => ?_
  refine ⟨_, cL_blockH l hst D cI cL cZ (Gs 0).1 (Gs 0).2.1 (Gs 0).2.2.1 (Gs 0).2.2.2 hG.1 hG.2 a.1.1 a.1.2 q (hGo.1) (hc.1.1) vv nx ct hc.1.2.1 hc.1.2.2.1 uf zz (by rw [hc.2.1]; exact hGo.2) hc.1.2.2.2 x v, fun r u hp => ?_⟩
  rw [hc.2.1] at hp
  rcases hp with ⟨hR, rfl, rfl⟩ | ⟨hR, rfl, rfl⟩
  · exact ⟨by rw [blJ, if_pos hR], ob_keep (vv := vv) hc hc.1.1 (fun _ _ => rfl) hc.1.2.2.2⟩
  · exact ⟨by rw [blJ, if_neg hR], ob_keep (vv := vv) hc hc.1.1 (fun _ _ => rfl) hc.1.2.2.2⟩
theorem x_get (hst : l.stackTraces = false) (hG : GeoOk (Gs 0)) (hGo : Go a) (x : Int32)  : LX l yL_get cL_get 3 [(0, 6, 7, 15), (0, 6, 12, 19)] 7 111 D cI cL cZ Gs [a] [.ref ((Gs 0).1 1), .int x] (geJ a.2.1 x) [a] := by
  refine lx_of fun q vv nx ct uf zz hc => ?_
  refine ⟨_, cL_getH l hst D cI cL cZ (Gs 0).1 (Gs 0).2.1 (Gs 0).2.2.1 (Gs 0).2.2.2 hG.1 hG.2 a.1.1 a.1.2 q (hGo.1) (hc.1.1) vv nx ct hc.1.2.1 hc.1.2.2.1 uf zz (by rw [hc.2.1]; exact hGo.2) hc.1.2.2.2 x, fun r u hp => ?_⟩
  rw [hc.2.1] at hp
  rcases hp with ⟨hR, rfl, rfl⟩ | ⟨hR, rfl, rfl⟩
  · exact ⟨by rw [geJ, if_pos hR], ob_keep (vv := vv) hc hc.1.1 (fun _ _ => rfl) hc.1.2.2.2⟩
  · exact ⟨by rw [geJ, if_neg hR], ob_keep (vv := vv) hc hc.1.1 (fun _ _ => rfl) hc.1.2.2.2⟩
theorem x_keyAt (hst : l.stackTraces = false) (hG : GeoOk (Gs 0)) (hGo : Go a) (x : Int32)  : LX l yL_keyAt cL_keyAt 3 [(0, 6, 7, 15)] 7 113 D cI cL cZ Gs [a] [.ref ((Gs 0).1 1), .int x] (kaJ a.2.1 x) [a] := by
  refine lx_of fun q vv nx ct uf zz hc => ?_
  refine ⟨_, cL_keyAtH l hst D cI cL cZ (Gs 0).1 (Gs 0).2.1 (Gs 0).2.2.1 (Gs 0).2.2.2 hG.1 hG.2 a.1.1 a.1.2 q (hGo.1) (hc.1.1) vv nx ct hc.1.2.1 hc.1.2.2.1 uf zz (by rw [hc.2.1]; exact hGo.2) hc.1.2.2.2 x, fun r u hp => ?_⟩
  rw [hc.2.1] at hp
  rcases hp with ⟨hR, rfl, rfl⟩ | ⟨hR, rfl, rfl⟩
  · exact ⟨by rw [kaJ, if_pos hR], ob_keep (vv := vv) hc hc.1.1 (fun _ _ => rfl) hc.1.2.2.2⟩
  · exact ⟨by rw [kaJ, if_neg hR], ob_keep (vv := vv) hc hc.1.1 (fun _ _ => rfl) hc.1.2.2.2⟩
theorem x_newest (hst : l.stackTraces = false) (hG : GeoOk (Gs 0)) (hGo : Go a) (x : Int32)  : LX l yL_newest cL_newest 3 [(0, 6, 7, 15)] 7 111 D cI cL cZ Gs [a] [.ref ((Gs 0).1 1), .int x] (neJ a.2.1 x) [a] := by
  refine lx_of fun q vv nx ct uf zz hc => ?_
  refine ⟨_, cL_newestH l hst D cI cL cZ (Gs 0).1 (Gs 0).2.1 (Gs 0).2.2.1 (Gs 0).2.2.2 hG.1 hG.2 a.1.1 a.1.2 q (hGo.1) (hc.1.1) vv nx ct hc.1.2.1 hc.1.2.2.1 uf zz (by rw [hc.2.1]; exact hGo.2) hc.1.2.2.2 x, fun r u hp => ?_⟩
  rw [hc.2.1] at hp
  rcases hp with ⟨hR, rfl, rfl⟩ | ⟨hR, rfl, rfl⟩
  · exact ⟨by rw [neJ, if_pos hR], ob_keep (vv := vv) hc hc.1.1 (fun _ _ => rfl) hc.1.2.2.2⟩
  · exact ⟨by rw [neJ, if_neg hR], ob_keep (vv := vv) hc hc.1.1 (fun _ _ => rfl) hc.1.2.2.2⟩
theorem x_lastCut (hst : l.stackTraces = false) (hG : GeoOk (Gs 0)) (hGo : Go a) (x : Int32)  : LX l yL_lastCut cL_lastCut 3 [(0, 6, 7, 15)] 7 111 D cI cL cZ Gs [a] [.ref ((Gs 0).1 1), .int x] (lcJ a.2.1 x) [a] := by
  refine lx_of fun q vv nx ct uf zz hc => ?_
  refine ⟨_, cL_lastCutH l hst D cI cL cZ (Gs 0).1 (Gs 0).2.1 (Gs 0).2.2.1 (Gs 0).2.2.2 hG.1 hG.2 a.1.1 a.1.2 q (hGo.1) (hc.1.1) vv nx ct hc.1.2.1 hc.1.2.2.1 uf zz (by rw [hc.2.1]; exact hGo.2) hc.1.2.2.2 x, fun r u hp => ?_⟩
  rw [hc.2.1] at hp
  rcases hp with ⟨hR, rfl, rfl⟩ | ⟨hR, rfl, rfl⟩
  · exact ⟨by rw [lcJ, if_pos hR], ob_keep (vv := vv) hc hc.1.1 (fun _ _ => rfl) hc.1.2.2.2⟩
  · exact ⟨by rw [lcJ, if_neg hR], ob_keep (vv := vv) hc hc.1.1 (fun _ _ => rfl) hc.1.2.2.2⟩
theorem x_operations (hst : l.stackTraces = false) (hG : GeoOk (Gs 0)) (hGo : Go a)   : LX l yL_operations cL_operations 2 [(0, 5, 6, 19)] 7 165 D cI cL cZ Gs [a] [.ref ((Gs 0).1 1)] (opJ a.2.1) [a] := by
  refine lx_of fun q vv nx ct uf zz hc => ?_
  refine ⟨_, cL_operationsH l hst D cI cL cZ (Gs 0).1 (Gs 0).2.1 (Gs 0).2.2.1 (Gs 0).2.2.2 hG.1 hG.2 a.1.1 a.1.2 q (hGo.1) (hc.1.1) vv nx ct hc.1.2.1 hc.1.2.2.1 uf zz (by rw [hc.2.1]; exact hGo.2) hc.1.2.2.2 , fun r u hp => ?_⟩
  rw [hc.2.1] at hp
  rcases hp with ⟨hR, rfl, zt9, hb1, rfl⟩ | ⟨hR, rfl, zt9, hb1, rfl⟩
  · exact ⟨by rw [opJ, if_pos hR], ob_keep (vv := vv) hc hc.1.1 (fun j hj => by simp only [va_up]; repeat rw [if_neg (by omega)]) (upB hc.1.2.2.2 hb1)⟩
  · exact ⟨by rw [opJ, if_neg hR], ob_keep (vv := vv) hc hc.1.1 (fun j hj => by simp only [va_up]; repeat rw [if_neg (by omega)]) (upB hc.1.2.2.2 hb1)⟩
theorem x_afterCut (hst : l.stackTraces = false) (hG : GeoOk (Gs 0)) (hGo : Go a) (x : Int32) (v : Int32) (w : Int32)  : LX l yL_afterCut cL_afterCut 5 [(0, 8, 9, 15), (0, 8, 15, 19)] 7 167 D cI cL cZ Gs [a] [.ref ((Gs 0).1 1), .int x, .int v, .int w] (acJ a.2.1 x v w) [a] := by
  refine lx_of fun q vv nx ct uf zz hc => ?_
  refine ⟨_, cL_afterCutH l hst D cI cL cZ (Gs 0).1 (Gs 0).2.1 (Gs 0).2.2.1 (Gs 0).2.2.2 hG.1 hG.2 a.1.1 a.1.2 q (hGo.1) (hc.1.1) vv nx ct hc.1.2.1 hc.1.2.2.1 uf zz (by rw [hc.2.1]; exact hGo.2) hc.1.2.2.2 x v w, fun r u hp => ?_⟩
  rw [hc.2.1] at hp
  rcases hp with ⟨hR, rfl, zc9, zt9, hb1, hb2, rfl⟩ | ⟨hR, rfl, zc9, zt9, hb1, hb2, rfl⟩
  · exact ⟨by rw [acJ, if_pos hR], ob_keep (vv := vv) hc hc.1.1 (fun j hj => by simp only [va_up]; repeat rw [if_neg (by omega)]) (upB (upB hc.1.2.2.2 hb1) hb2)⟩
  · exact ⟨by rw [acJ, if_neg hR], ob_keep (vv := vv) hc hc.1.1 (fun j hj => by simp only [va_up]; repeat rw [if_neg (by omega)]) (upB (upB hc.1.2.2.2 hb1) hb2)⟩
theorem x_lasts (hst : l.stackTraces = false) (hG : GeoOk (Gs 0)) (hGo : Go a) (x : Int32)  : LX l yL_lasts cL_lasts 3 [(0, 6, 7, 15)] 7 145 D cI cL cZ Gs [a] [.ref ((Gs 0).1 1), .int x] (laJ a.2.1 x) [a] := by
  refine lx_of fun q vv nx ct uf zz hc => ?_
  refine ⟨_, cL_lastsH l hst D cI cL cZ (Gs 0).1 (Gs 0).2.1 (Gs 0).2.2.1 (Gs 0).2.2.2 hG.1 hG.2 a.1.1 a.1.2 q (hGo.1) (hc.1.1) vv nx ct hc.1.2.1 hc.1.2.2.1 uf zz (by rw [hc.2.1]; exact hGo.2) hc.1.2.2.2 x, fun r u hp => ?_⟩
  rw [hc.2.1] at hp
  rcases hp with ⟨hR, rfl, zt9, hb1, rfl⟩ | ⟨hR, rfl, zt9, hb1, rfl⟩
  · exact ⟨by rw [laJ, if_pos hR], ob_keep (vv := vv) hc hc.1.1 (fun j hj => by simp only [va_up]; repeat rw [if_neg (by omega)]) (upB hc.1.2.2.2 hb1)⟩
  · exact ⟨by rw [laJ, if_neg hR], ob_keep (vv := vv) hc hc.1.1 (fun j hj => by simp only [va_up]; repeat rw [if_neg (by omega)]) (upB hc.1.2.2.2 hb1)⟩
theorem x_script (hst : l.stackTraces = false) (hG : GeoOk (Gs 0)) (hGo : Go a) (x : Int32) (v : Int64)  : LX l yL_script cL_script 5 [(0, 7, 8, 15)] 7 198 D cI cL cZ Gs [a] [.ref ((Gs 0).1 1), .int x, .long v] (scJ a.2.1 x v) [a] := by
  refine lx_of fun q vv nx ct uf zz hc => ?_
  refine ⟨_, cL_scriptH l hst D cI cL cZ (Gs 0).1 (Gs 0).2.1 (Gs 0).2.2.1 (Gs 0).2.2.2 hG.1 hG.2 a.1.1 a.1.2 q (hGo.1) (hc.1.1) vv nx ct hc.1.2.1 hc.1.2.2.1 uf zz (by rw [hc.2.1]; exact hGo.2) hc.1.2.2.2 x v, fun r u hp => ?_⟩
  rw [hc.2.1] at hp
  rcases hp with ⟨hR, rfl, zc9, zt9, hb1, hb2, rfl⟩ | ⟨hR, rfl, zc9, zt9, hb1, hb2, rfl⟩
  · exact ⟨by rw [scJ, if_pos hR], ob_keep (vv := vv) hc hc.1.1 (fun j hj => by simp only [va_up]; repeat rw [if_neg (by omega)]) (upB (upB hc.1.2.2.2 hb1) hb2)⟩
  · exact ⟨by rw [scJ, if_neg hR], ob_keep (vv := vv) hc hc.1.1 (fun j hj => by simp only [va_up]; repeat rw [if_neg (by omega)]) (upB (upB hc.1.2.2.2 hb1) hb2)⟩
theorem x_simulate (hst : l.stackTraces = false) (hG : GeoOk (Gs 0)) (hGo : Go a) (x : Int64) (v : Int32)  : LX l yL_simulate cL_simulate 5 [(0, 7, 8, 15)] 7 196 D cI cL cZ Gs [a] [.ref ((Gs 0).1 1), .long x, .int v] (siJ a.2.1 x v) [a] := by
  refine lx_of fun q vv nx ct uf zz hc => ?_
  refine ⟨_, cL_simulateH l hst D cI cL cZ (Gs 0).1 (Gs 0).2.1 (Gs 0).2.2.1 (Gs 0).2.2.2 hG.1 hG.2 a.1.1 a.1.2 q (hGo.1) (hc.1.1) vv nx ct hc.1.2.1 hc.1.2.2.1 uf zz (by rw [hc.2.1]; exact hGo.2) hc.1.2.2.2 x v, fun r u hp => ?_⟩
  rw [hc.2.1] at hp
  rcases hp with ⟨hR, rfl, zc9, zt9, hb1, hb2, rfl⟩ | ⟨hR, rfl, zc9, zt9, hb1, hb2, rfl⟩
  · exact ⟨by rw [siJ, if_pos hR], ob_keep (vv := vv) hc hc.1.1 (fun j hj => by simp only [va_up]; repeat rw [if_neg (by omega)]) (upB (upB hc.1.2.2.2 hb1) hb2)⟩
  · exact ⟨by rw [siJ, if_neg hR], ob_keep (vv := vv) hc hc.1.1 (fun j hj => by simp only [va_up]; repeat rw [if_neg (by omega)]) (upB (upB hc.1.2.2.2 hb1) hb2)⟩
theorem x_put (hst : l.stackTraces = false) (hG : GeoOk (Gs 0)) (hGo : Go a) (x : Int32) (v : Int32)  : LX l yL_put cL_put 4 [(0, 7, 8, 15), (0, 7, 13, 19)] 7 166 D cI cL cZ Gs [a] [.ref ((Gs 0).1 1), .int x, .int v] (puJ a.2.1 x v) [puA a x v] := by
  refine lx_of fun q vv nx ct uf zz hc => ?_
  refine ⟨_, cL_putH l hst D cI cL cZ (Gs 0).1 (Gs 0).2.1 (Gs 0).2.2.1 (Gs 0).2.2.2 hG.1 hG.2 a.1.1 a.1.2 q (hGo.1) (hc.1.1) vv nx ct hc.1.2.1 hc.1.2.2.1 uf zz (by rw [hc.2.1]; exact hGo.2) hc.1.2.2.2 x v, fun r u hp => ?_⟩
  rw [hc.2.1] at hp
  rcases hp with ⟨hR, rfl, zt9, hb1, rfl⟩ | ⟨hR, rfl, zt9, hb1, rfl⟩
  · refine ⟨by rw [puJ, if_pos hR], ?_⟩
    rw [puA, if_pos hR]
    exact ob_note (vv := vv) hc (z2 := va_up (va_up (va_up zz 16 ((stT x.toNatClampNeg v a.2.1).2)) 18 zt9) nx a.2.1) (by simp only [va_up]; rw [if_neg (show ¬ 16 = nx by have := hc.1.2.1; omega)]; rfl) ((va_up_self _ _ _).trans hc.2.1.symm) (fun j hj hne => by simp only [va_up]; rw [if_neg hne]; rw [if_neg (by omega)]; rw [if_neg (by omega)]) (upB (upB (upB hc.1.2.2.2 (inv_B (iv_put hGo.2 hR))) hb1) (inv_B hGo.2))
  · refine ⟨by rw [puJ, if_neg hR], ?_⟩
    rw [puA, if_neg hR]
    exact ob_keep (vv := vv) hc hc.1.1 (fun j hj => by simp only [va_up]; rw [if_neg (by omega)]) (upB hc.1.2.2.2 hb1)
theorem x_remove (hst : l.stackTraces = false) (hG : GeoOk (Gs 0)) (hGo : Go a) (x : Int32)  : LX l yL_remove cL_remove 3 [(0, 6, 7, 15), (0, 6, 12, 19)] 7 165 D cI cL cZ Gs [a] [.ref ((Gs 0).1 1), .int x] (reJ a.2.1 x) [reA a x] := by
  refine lx_of fun q vv nx ct uf zz hc => ?_
  refine ⟨_, cL_removeH l hst D cI cL cZ (Gs 0).1 (Gs 0).2.1 (Gs 0).2.2.1 (Gs 0).2.2.2 hG.1 hG.2 a.1.1 a.1.2 q (hGo.1) (hc.1.1) vv nx ct hc.1.2.1 hc.1.2.2.1 uf zz (by rw [hc.2.1]; exact hGo.2) hc.1.2.2.2 x, fun r u hp => ?_⟩
  rw [hc.2.1] at hp
  rcases hp with ⟨hR, rfl, zt9, hb1, rfl⟩ | ⟨hR, rfl, zt9, hb1, rfl⟩
  · refine ⟨by rw [reJ, if_pos hR], ?_⟩
    rw [reA, if_pos hR]
    exact ob_note (vv := vv) hc (z2 := va_up (va_up (va_up zz 16 ((stT x.toNatClampNeg (-9) a.2.1).2)) 18 zt9) nx a.2.1) (by simp only [va_up]; rw [if_neg (show ¬ 16 = nx by have := hc.1.2.1; omega)]; rfl) ((va_up_self _ _ _).trans hc.2.1.symm) (fun j hj hne => by simp only [va_up]; rw [if_neg hne]; rw [if_neg (by omega)]; rw [if_neg (by omega)]) (upB (upB (upB hc.1.2.2.2 (inv_B (iv_rem hGo.2 hR))) hb1) (inv_B hGo.2))
  · refine ⟨by rw [reJ, if_neg hR], ?_⟩
    rw [reA, if_neg hR]
    exact ob_keep (vv := vv) hc hc.1.1 (fun j hj => by simp only [va_up]; rw [if_neg (by omega)]) (upB hc.1.2.2.2 hb1)
theorem x_sweep (hst : l.stackTraces = false) (hG : GeoOk (Gs 0)) (hGo : Go a)   : LX l yL_sweep cL_sweep 2 [(0, 5, 6, 19)] 7 165 D cI cL cZ Gs [a] [.ref ((Gs 0).1 1)] (swJ a.2.1) [swA a] := by
  refine lx_of fun q vv nx ct uf zz hc => ?_
  refine ⟨_, cL_sweepH l hst D cI cL cZ (Gs 0).1 (Gs 0).2.1 (Gs 0).2.2.1 (Gs 0).2.2.2 hG.1 hG.2 a.1.1 a.1.2 q (hGo.1) (hc.1.1) vv nx ct hc.1.2.1 hc.1.2.2.1 uf zz (by rw [hc.2.1]; exact hGo.2) hc.1.2.2.2 , fun r u hp => ?_⟩
  rw [hc.2.1] at hp
  rcases hp with ⟨hR, rfl, rfl⟩ | ⟨hR, rfl, rfl⟩
  · refine ⟨by rw [swJ, if_pos hR], ?_⟩
    rw [swA, if_pos hR]
    exact ob_note (vv := vv) hc (z2 := va_up (va_up zz 16 ((sbT (oI (cvZ a.2.1)).toNatClampNeg a.2.1).2)) nx a.2.1) (by simp only [va_up]; rw [if_neg (show ¬ 16 = nx by have := hc.1.2.1; omega)]; rfl) ((va_up_self _ _ _).trans hc.2.1.symm) (fun j hj hne => by simp only [va_up]; rw [if_neg hne]; rw [if_neg (by omega)]) (upB (upB hc.1.2.2.2 (inv_B (iv_swp hGo.2 hR))) (inv_B hGo.2))
  · refine ⟨by rw [swJ, if_neg hR], ?_⟩
    rw [swA, if_neg hR]
    exact ob_keep (vv := vv) hc hc.1.1 (fun _ _ => rfl) hc.1.2.2.2
theorem x_cut (hst : l.stackTraces = false) (hG : GeoOk (Gs 0)) (hGo : Go a) (x : Int32)  : LX l yL_cut cL_cut 3 [(0, 6, 7, 15), (0, 6, 12, 19)] 7 166 D cI cL cZ Gs [a] [.ref ((Gs 0).1 1), .int x] (cuJ a.2.1 x) [cuA a x] := by
  refine lx_of fun q vv nx ct uf zz hc => ?_
  refine ⟨_, cL_cutH l hst D cI cL cZ (Gs 0).1 (Gs 0).2.1 (Gs 0).2.2.1 (Gs 0).2.2.2 hG.1 hG.2 a.1.1 a.1.2 q (hGo.1) (hc.1.1) vv nx ct hc.1.2.1 hc.1.2.2.1 uf zz (by rw [hc.2.1]; exact hGo.2) hc.1.2.2.2 x, fun r u hp => ?_⟩
  rw [hc.2.1] at hp
  rcases hp with ⟨hR, rfl, rfl⟩ | ⟨hR, rfl, rfl⟩
  · refine ⟨by rw [cuJ, if_pos hR], ?_⟩
    rw [cuA, if_pos hR]
    exact ob_note (vv := vv) hc (z2 := va_up (va_up zz 16 (zC a.2.1 x)) nx a.2.1) (by simp only [va_up]; rw [if_neg (show ¬ 16 = nx by have := hc.1.2.1; omega)]; rfl) ((va_up_self _ _ _).trans hc.2.1.symm) (fun j hj hne => by simp only [va_up]; rw [if_neg hne]; rw [if_neg (by omega)]) (upB (upB hc.1.2.2.2 (inv_B (iv_cut hGo.2 hR))) (inv_B hGo.2))
  · refine ⟨by rw [cuJ, if_neg hR], ?_⟩
    rw [cuA, if_neg hR]
    exact ob_keep (vv := vv) hc hc.1.1 (fun _ _ => rfl) hc.1.2.2.2
theorem x_start (hst : l.stackTraces = false) (hG : GeoOk (Gs 0)) (hGo : Go a)   : LX l yL_start cL_start 2 [(0, 5, 6, 19)] 7 164 D cI cL cZ Gs [a] [.ref ((Gs 0).1 1)] (stJ a.2.1) [stA a] := by
  refine lx_of fun q vv nx ct uf zz hc => ?_
  refine ⟨_, cL_startH l hst D cI cL cZ (Gs 0).1 (Gs 0).2.1 (Gs 0).2.2.1 (Gs 0).2.2.2 hG.1 hG.2 a.1.1 a.1.2 q (hGo.1) (hc.1.1) vv nx ct hc.1.2.1 hc.1.2.2.1 uf zz (by rw [hc.2.1]; exact hGo.2) hc.1.2.2.2 , fun r u hp => ?_⟩
  rw [hc.2.1] at hp
  rcases hp with ⟨hR, rfl, rfl⟩ | ⟨hR, rfl, rfl⟩
  · refine ⟨by rw [stJ, if_pos hR], ?_⟩
    rw [stA, if_pos hR]
    exact ob_note (vv := vv) hc (z2 := va_up (va_up zz 16 (zSw a.2.1)) nx a.2.1) (by simp only [va_up]; rw [if_neg (show ¬ 16 = nx by have := hc.1.2.1; omega)]; rfl) ((va_up_self _ _ _).trans hc.2.1.symm) (fun j hj hne => by simp only [va_up]; rw [if_neg hne]; rw [if_neg (by omega)]) (upB (upB hc.1.2.2.2 (inv_B (inv_zSw hGo.2))) (inv_B hGo.2))
  · refine ⟨by rw [stJ, if_neg hR], ?_⟩
    rw [stA, if_neg hR]
    exact ob_keep (vv := vv) hc hc.1.1 (fun _ _ => rfl) hc.1.2.2.2
theorem x_setPolicy (hst : l.stackTraces = false) (hG : GeoOk (Gs 0)) (hGo : Go a) (x : Int32)  : LX l yL_setPolicy cL_setPolicy 3 [(0, 6, 7, 15)] 7 166 D cI cL cZ Gs [a] [.ref ((Gs 0).1 1), .int x] (poJ a.2.1 x) [poA a x] := by
  refine lx_of fun q vv nx ct uf zz hc => ?_
  refine ⟨_, cL_setPolicyH l hst D cI cL cZ (Gs 0).1 (Gs 0).2.1 (Gs 0).2.2.1 (Gs 0).2.2.2 hG.1 hG.2 a.1.1 a.1.2 q (hGo.1) (hc.1.1) vv nx ct hc.1.2.1 hc.1.2.2.1 uf zz (by rw [hc.2.1]; exact hGo.2) hc.1.2.2.2 x, fun r u hp => ?_⟩
  rw [hc.2.1] at hp
  rcases hp with ⟨hR, rfl, rfl⟩ | ⟨hR, rfl, rfl⟩
  · refine ⟨by rw [poJ, if_pos hR], ?_⟩
    rw [poA, if_pos hR]
    exact ob_note (vv := vv) hc (z2 := va_up (va_up zz 16 (zPo a.2.1 x)) nx a.2.1) (by simp only [va_up]; rw [if_neg (show ¬ 16 = nx by have := hc.1.2.1; omega)]; rfl) ((va_up_self _ _ _).trans hc.2.1.symm) (fun j hj hne => by simp only [va_up]; rw [if_neg hne]; rw [if_neg (by omega)]) (upB (upB hc.1.2.2.2 (inv_B (iv_pol hGo.2 hR))) (inv_B hGo.2))
  · refine ⟨by rw [poJ, if_neg hR], ?_⟩
    rw [poA, if_neg hR]
    exact ob_keep (vv := vv) hc hc.1.1 (fun _ _ => rfl) hc.1.2.2.2
theorem x_append (hst : l.stackTraces = false) (hG : GeoOk (Gs 0)) (hGo : Go a) (x : Int32)  : LX l yL_append cL_append 3 [(0, 6, 7, 15), (0, 6, 12, 19)] 7 111 D cI cL cZ Gs [a] [.ref ((Gs 0).1 1), .int x] (apJ a.1.2 x) [apA a x] := by
  refine lx_of fun q vv nx ct uf zz hc => ?_
  refine ⟨_, cL_appendH l hst D cI cL cZ (Gs 0).1 (Gs 0).2.1 (Gs 0).2.2.1 (Gs 0).2.2.2 hG.1 hG.2 a.1.1 a.1.2 q (hGo.1) (hc.1.1) vv nx ct hc.1.2.1 hc.1.2.2.1 uf zz (by rw [hc.2.1]; exact hGo.2) hc.1.2.2.2 x, fun r u hp => ?_⟩
  rcases hp with ⟨hR, rfl, rfl⟩ | ⟨hR, rfl, rfl⟩
  · refine ⟨by rw [apJ, if_pos hR], ?_⟩
    rw [apA, if_pos hR]
    exact ⟨q, vv, nx, ct, uf, zz, rfl, hc⟩
  · refine ⟨by rw [apJ, if_neg hR], ?_⟩
    rw [apA, if_neg hR]
    exact ob_keep (vv := vv) hc hc.1.1 (fun _ _ => rfl) hc.1.2.2.2
theorem x_load (hst : l.stackTraces = false) (hG : GeoOk (Gs 0)) (hGo : Go a)   : LX l yL_load cL_load 2 [(0, 5, 6, 19)] 7 191 D cI cL cZ Gs [a] [.ref ((Gs 0).1 1)] (ldJ a) [ldA a] := by
  refine lx_of fun q vv nx ct uf zz hc => ?_
  refine ⟨_, cL_loadH l hst D cI cL cZ (Gs 0).1 (Gs 0).2.1 (Gs 0).2.2.1 (Gs 0).2.2.2 hG.1 hG.2 a.1.1 a.1.2 q (hGo.1) (hc.1.1) vv nx ct hc.1.2.1 hc.1.2.2.1 uf zz (by rw [hc.2.1]; exact hGo.2) hc.1.2.2.2 , fun r u hp => ?_⟩
  rw [hc.2.1] at hp
  rcases hp with ⟨hR, rfl, q9, v9, zt9, hq9, hb9, rfl⟩ | ⟨hR, rfl, q9, v9, hq9, rfl⟩
  · refine ⟨by rw [ldJ, if_pos hR], ?_⟩
    rw [ldA, if_pos hR]
    refine ⟨q9, v9, nx, 0, _, _, rfl, ⟨hq9, hc.1.2.1, Nat.zero_le _, upB (upB hc.1.2.2.2 (inv_B (iv_ld hGo.1 hR))) hb9⟩, rfl, rfl, fun k hk => ?_⟩
    have : upd (upd uf 0 0) 1 0 k = 0 := by
      rcases (show k = 0 ∨ k = 1 by omega) with rfl | rfl
      · rw [pk_un (by decide), pk_us]
      · exact pk_us
    rw [if_pos this]
  · refine ⟨by rw [ldJ, if_neg hR], ?_⟩
    rw [ldA, if_neg hR]
    exact ob_keep (vv := v9) hc hq9 (fun _ _ => rfl) hc.1.2.2.2
theorem x_undo (hst : l.stackTraces = false) (hG : GeoOk (Gs 0)) (hGo : Go a)   : LX l yL_undo cL_undo 2 [(0, 5, 6, 19)] 7 164 D cI cL cZ Gs [a] [.ref ((Gs 0).1 1)] (unJ a) [unA a] := by
  refine lx_of fun q vv nx ct uf zz hc => ?_
  refine ⟨_, cL_undoH l hst D cI cL cZ (Gs 0).1 (Gs 0).2.1 (Gs 0).2.2.1 (Gs 0).2.2.2 hG.1 hG.2 a.1.1 a.1.2 q (hGo.1) (hc.1.1) vv nx ct hc.1.2.1 hc.1.2.2.1 uf zz (by rw [hc.2.1]; exact hGo.2) hc.1.2.2.2 , fun r u hp => ?_⟩
  have hlen : a.2.2.1.length = ct := by rw [← hc.2.2.1]; exact hiL_len
  rcases hp with ⟨hR, rfl, rfl⟩ | ⟨hR, rfl, rfl⟩
  · refine ⟨by rw [unJ, hlen, if_pos hR], ?_⟩
    have h0 : ¬ ct = 0 := fun z => by rw [c6und, if_pos z] at hR; exact absurd hR (by decide)
    have hb := hc.2.2.1
    rw [hiL_back hc.1.2.1 hc.1.2.2.1 h0] at hb
    rw [unA, ← hb]
    exact ⟨q, vv, _, _, uf, _, rfl, ⟨hc.1.1, Nat.mod_lt _ (by decide), by have := hc.1.2.2.1; omega, upB hc.1.2.2.2 (hc.1.2.2.2 _)⟩, rfl, hiL_keep (fun j hj => va_up_ne _ _ (by omega)), fun k hk => by rw [va_up_ne _ _ (by omega)]; exact hc.2.2.2 k hk⟩
  · refine ⟨by rw [unJ, hlen, if_neg hR], ?_⟩
    have h0 : ct = 0 := Decidable.byContradiction fun z => hR (by rw [c6und, if_neg z])
    have hnil : a.2.2.1 = [] := List.eq_nil_of_length_eq_zero (hlen.trans h0)
    rw [unA, hnil]
    exact ob_keep (vv := vv) hc hc.1.1 (fun _ _ => rfl) hc.1.2.2.2
theorem x_save (hst : l.stackTraces = false) (hG : GeoOk (Gs 0)) (hGo : Go a) (x : Int32)  : LX l yL_save cL_save 3 [(0, 6, 7, 34)] 7 166 D cI cL cZ Gs [a] [.ref ((Gs 0).1 1), .int x] (saJ a.2.1 x) [saA a x] := by
  refine lx_of fun q vv nx ct uf zz hc => ?_
  obtain ⟨kk, hkk2, hkk⟩ : ∃ kk, kk < 2 ∧ (inN x 2 → x.toNatClampNeg = kk) := by
    by_cases h : inN x 2
    · exact ⟨x.toNatClampNeg, (num_in (j := 2) (by decide) h).2, fun _ => rfl⟩
    · exact ⟨0, by decide, fun z => absurd z h⟩
  refine ⟨_, cL_saveH l hst D cI cL cZ (Gs 0).1 (Gs 0).2.1 (Gs 0).2.2.1 (Gs 0).2.2.2 hG.1 hG.2 a.1.1 a.1.2 q (hGo.1) (hc.1.1) vv nx ct hc.1.2.1 hc.1.2.2.1 uf zz (by rw [hc.2.1]; exact hGo.2) hc.1.2.2.2 x kk hkk2 hkk, fun r u hp => ?_⟩
  rw [hc.2.1] at hp
  rcases hp with ⟨hR, rfl, rfl⟩ | ⟨hR, rfl, rfl⟩
  · refine ⟨by rw [saJ, if_pos hR], ?_⟩
    have hin : inN x 2 := Decidable.byContradiction fun z => by rw [c6sav, if_neg z] at hR; exact absurd hR (by decide)
    rw [saA, if_pos hR, hkk hin]
    refine ⟨q, vv, nx, ct, _, _, rfl, ⟨hc.1.1, hc.1.2.1, hc.1.2.2.1, upB hc.1.2.2.2 (inv_B hGo.2)⟩, by rw [va_up_ne _ _ (by omega)]; exact hc.2.1, by rw [hiL_keep (fun j hj => va_up_ne _ _ (by omega))]; exact hc.2.2.1, fun k hk => ?_⟩
    by_cases e : k = kk
    · subst e
      rw [pk_us, va_up_self, if_neg (by decide)]
      exact if_pos rfl
    · rw [pk_un e, va_up_ne _ _ (by omega)]
      exact (if_neg e).trans (hc.2.2.2 k hk)
  · refine ⟨by rw [saJ, if_neg hR], ?_⟩
    rw [saA, if_neg hR]
    exact ob_keep (vv := vv) hc hc.1.1 (fun _ _ => rfl) hc.1.2.2.2
theorem x_restore (hst : l.stackTraces = false) (hG : GeoOk (Gs 0)) (hGo : Go a) (x : Int32)  : LX l yL_restore cL_restore 3 [(0, 6, 7, 34), (0, 6, 12, 19)] 7 166 D cI cL cZ Gs [a] [.ref ((Gs 0).1 1), .int x] (rsJ a x) [rsA a x] := by
  refine lx_of fun q vv nx ct uf zz hc => ?_
  obtain ⟨kk, hkk2, hkk⟩ : ∃ kk, kk < 2 ∧ (inN x 2 → x.toNatClampNeg = kk) := by
    by_cases h : inN x 2
    · exact ⟨x.toNatClampNeg, (num_in (j := 2) (by decide) h).2, fun _ => rfl⟩
    · exact ⟨0, by decide, fun z => absurd z h⟩
  refine ⟨_, cL_restoreH l hst D cI cL cZ (Gs 0).1 (Gs 0).2.1 (Gs 0).2.2.1 (Gs 0).2.2.2 hG.1 hG.2 a.1.1 a.1.2 q (hGo.1) (hc.1.1) vv nx ct hc.1.2.1 hc.1.2.2.1 uf zz (by rw [hc.2.1]; exact hGo.2) hc.1.2.2.2 x kk hkk2 hkk, fun r u hp => ?_⟩
  by_cases hin : inN x 2
  · have hs := hc.2.2.2 kk hkk2
    rw [rsJ, rsA, if_pos hin, if_pos hin, hkk hin, hs]
    rcases hp with ⟨hR, rfl, rfl⟩ | ⟨hR, rfl, rfl⟩
    · have hu : ¬ uf kk = 0 := fun z => by rw [c6rst, if_pos hin, hkk hin, if_pos z] at hR; exact absurd hR (by decide)
      rw [if_neg hu]
      exact ⟨rfl, q, vv, nx, 0, uf, _, rfl, ⟨hc.1.1, hc.1.2.1, Nat.zero_le _, upB hc.1.2.2.2 (hc.1.2.2.2 _)⟩, rfl, rfl, fun k hk => by rw [va_up_ne _ _ (by omega)]; exact hc.2.2.2 k hk⟩
    · have hu : uf kk = 0 := Decidable.byContradiction fun z => hR (by rw [c6rst, if_pos hin, hkk hin, if_neg z])
      rw [if_pos hu]
      refine ⟨if_neg (by rw [c6rst, if_pos hin, hkk hin, if_pos hu]; decide), ?_⟩
      exact ob_keep (vv := vv) hc hc.1.1 (fun _ _ => rfl) hc.1.2.2.2
  · rw [rsJ, rsA, if_neg hin, if_neg hin]
    rcases hp with ⟨hR, rfl, rfl⟩ | ⟨hR, rfl, rfl⟩
    · rw [c6rst, if_neg hin] at hR
      exact absurd hR (by decide)
    · refine ⟨if_pos (by rw [c6rst, if_neg hin]), ?_⟩
      exact ob_keep (vv := vv) hc hc.1.1 (fun _ _ => rfl) hc.1.2.2.2
theorem lv_ofR {y : MethodName} {b : ByteArray} {nL fr lo : Nat} {av : List Value} {res : Int32}
    (h : ∀ (q : Nat) (vv : Nat → Int32) (nx ct : Nat) (uf : Nat → Int32) (zz : Nat → LgS), obC a q nx ct uf zz → ∃ (Cs : List va_W) (tc : List (ClassId × FieldType)) (isC isT : List Nat), RQ l y b nL .int W6 fr lo D (bw Cs) tc av res ∧ isC.map (fun i => (pwB cI cL cZ (Gs 0).1 (Gs 0).2.1 (Gs 0).2.2.1 (Gs 0).2.2.2 a.1.1 a.1.2 q vv nx ct uf zz)[i]?) = Cs.map some ∧ isT.filterMap (fun i => (TY cI cL cZ)[i]?) = tc) : LV l y b nL fr lo D cI cL cZ Gs [a] av res [a] := by
  intro Bs hB
  obtain ⟨w, rfl, hOB⟩ := OBs_out hB
  obtain ⟨q, vv, nx, ct, uf, zz, rfl, hc⟩ := id hOB
  obtain ⟨Cs, tc, isC, isT, hM, hC, hT⟩ := h q vv nx ct uf zz hc
  rw [bw_one]
  intro p e h1 h2 h3 s m args below h4 h5 h6 h7
  obtain ⟨hv, hP, hK, hD, hN⟩ := h6
  obtain ⟨n, o, g1, g2, g3, g4, L, g5, g6⟩ := hM p e h1 h2 h3 s m args below h4 h5 ⟨hv, bw_subP hP isC hC, hK.sub isT hT, hN⟩ h7
  refine ⟨n, o, g1, g2, g3, ?_, L, g5, fun q hq => (g6 q hq).elim⟩
  obtain ⟨⟨r, -, k1, k2, -⟩, k4⟩ := g4
  exact ⟨⟨r, [_], k1, ⟨k2, OBs_one hOB⟩, by show va_P D vwCl (bw [_]) _; rw [bw_one]; exact hP.kept (fun k q hq => k4.2 q.1 (hP k q hq).lt (fun z => z))⟩, k4.1, fun q hq _ => k4.2 q hq (fun z => z)⟩
theorem x_victim (hGo : Go a) : LV l yX6_victim cX6_victim 1 3 69 D cI cL cZ Gs [a] [.ref ((Gs 0).1 1)] (oI (cvZ a.2.1)) [a] := by
  refine lv_ofR fun q vv nx ct uf zz hc => ⟨_, _, [1, 8 + 16], [0], c6_victim l D cI ((Gs 0).1 1) ((Gs 0).1 2) ((Gs 0).1 4) ((Gs 0).1 6) ((Gs 0).2.1 16) ((Gs 0).2.1 17) ((Gs 0).2.1 18) a.2.1 hGo.2, ?_, rfl⟩
  rw [← hc.2.1]
  exact hcc cw_g1 (hcc (cw_get (j := 16) (by omega)) hcn)
theorem x_oldest (hGo : Go a) : LV l yX6_oldest cX6_oldest 5 2 43 D cI cL cZ Gs [a] [.ref ((Gs 0).1 1)] (oI (olF a.2.1 16)) [a] := by
  refine lv_ofR fun q vv nx ct uf zz hc => ⟨_, _, [1, 8 + 16], [0], c6_oldest l D cI ((Gs 0).1 1) ((Gs 0).1 2) ((Gs 0).1 4) ((Gs 0).1 6) ((Gs 0).2.1 16) ((Gs 0).2.1 17) ((Gs 0).2.1 18) a.2.1 hGo.2, ?_, rfl⟩
  rw [← hc.2.1]
  exact hcc cw_g1 (hcc (cw_get (j := 16) (by omega)) hcn)
theorem x_clearText (hGo : Go a) : LV l yX6_clearText cX6_clearText 1 1 21 D cI cL cZ Gs [a] [.ref ((Gs 0).1 1)] (nI a.1.2) [((a.1.1, 0), a.2)] := by
  refine lv_of fun q vv nx ct uf zz hc => ⟨_, _, [1, 2], [0], _, c6_clearText l D cI ((Gs 0).1 1) ((Gs 0).1 2) ((Gs 0).1 4) ((Gs 0).1 6) ((Gs 0).2.1 16) ((Gs 0).2.1 17) ((Gs 0).2.1 18) ((Gs 0).1 3) a.1.1 a.1.2 hGo.1 q hc.1.1 vv, by simp, ?_, rfl, fun r u hp => ?_⟩
  · exact hcc cw_g1 (hcc cw_g2 hcn)
  · obtain ⟨rfl, rfl⟩ := hp
    exact ⟨rfl, rfl, by rw [pwB, bput_c, cw_s1, bput_c, cw_s2, bput_n]; exact ⟨q, vv, nx, ct, uf, zz, rfl, hc⟩⟩
theorem x_errorPosition (hGo : Go a) : LV l yX6_errorPosition cX6_errorPosition 1 4 90 D cI cL cZ Gs [a] [.ref ((Gs 0).1 1)] (feV (feR a.1.1 a.1.2)) [a] := by
  refine lv_of fun q vv nx ct uf zz hc => ⟨_, _, [1, 2], [0], _, c6_errorPosition l D cI ((Gs 0).1 1) ((Gs 0).1 2) ((Gs 0).1 4) ((Gs 0).1 6) ((Gs 0).2.1 16) ((Gs 0).2.1 17) ((Gs 0).2.1 18) ((Gs 0).1 3) a.1.1 a.1.2 hGo.1 q hc.1.1 vv, by simp, ?_, rfl, fun r u hp => ?_⟩
  · exact hcc cw_g1 (hcc cw_g2 hcn)
  · obtain ⟨rfl, v9, rfl⟩ := hp
    exact ⟨rfl, rfl, by rw [pwB, bput_c, cw_s1, bput_c, cw_s2, bput_n]; exact ob_keep (vv := v9) hc (Nat.le_trans feR_le hGo.1) (fun _ _ => rfl) hc.1.2.2.2⟩
theorem x_whyNoRoom (hGo : Go a) : LV l yX6_whyNoRoom cX6_whyNoRoom 1 5 144 D cI cL cZ Gs [a] [.ref ((Gs 0).1 1)] (wnV a.2.1) [a] := by
  refine lv_of fun q vv nx ct uf zz hc => ⟨_, _, [1, 8 + 16, 8 + 18], [0], _, c6_whyNoRoom l D cI ((Gs 0).1 1) ((Gs 0).1 2) ((Gs 0).1 4) ((Gs 0).1 6) ((Gs 0).2.1 16) ((Gs 0).2.1 17) ((Gs 0).2.1 18) a.2.1 hGo.2 (zz 18) (hc.1.2.2.2 18), by simp, ?_, rfl, fun r u hp => ?_⟩
  · rw [← hc.2.1]; exact hcc cw_g1 (hcc (cw_get (j := 16) (by omega)) (hcc (cw_get (j := 18) (by omega)) hcn))
  · obtain ⟨rfl, zt9, hb, rfl⟩ := hp
    refine ⟨rfl, rfl, ?_⟩
    rw [← hc.2.1, pwB, bput_c, cw_s1, bput_c, cw_set (j := 16) (by omega), va_id (k := 16) rfl, bput_c, cw_set (j := 18) (by omega), bput_n]
    exact ob_keep (vv := vv) hc hc.1.1 (fun j hj => va_up_ne _ _ (by omega)) (upB hc.1.2.2.2 hb)
end AB
theorem k_append : LKX yL_append cL_append 3 [(0, 6, 7, 15), (0, 6, 12, 19)] 170 2 := ⟨⟨by decide, by decide, show (parseMethodDescriptor yL_append.desc).map (fun d => d.parameters.length) = some 2 by decide +kernel⟩, rfl, (mlA 179 rfl), (mlA 180 rfl), (mlA 181 rfl)⟩
theorem k_load : LKX yL_load cL_load 2 [(0, 5, 6, 19)] 235 1 := ⟨⟨by decide, by decide, show (parseMethodDescriptor yL_load.desc).map (fun d => d.parameters.length) = some 1 by decide +kernel⟩, rfl, (mlA 241 rfl), (mlA 242 rfl), (mlA 243 rfl)⟩
theorem k_about : LKX yL_about cL_about 3 [(0, 6, 7, 15)] 102 2 := ⟨⟨by decide, by decide, show (parseMethodDescriptor yL_about.desc).map (fun d => d.parameters.length) = some 2 by decide +kernel⟩, rfl, (mlA 105 rfl), (mlA 106 rfl), (mlA 108 rfl)⟩
theorem k_page : LKX yL_page cL_page 4 [(0, 7, 8, 34), (0, 7, 13, 15)] 112 3 := ⟨⟨by decide, by decide, show (parseMethodDescriptor yL_page.desc).map (fun d => d.parameters.length) = some 3 by decide +kernel⟩, rfl, (mlA 112 rfl), (mlA 113 rfl), (mlA 114 rfl)⟩
theorem k_block : LKX yL_block cL_block 4 [(0, 7, 8, 34), (0, 7, 13, 15)] 107 3 := ⟨⟨by decide, by decide, show (parseMethodDescriptor yL_block.desc).map (fun d => d.parameters.length) = some 3 by decide +kernel⟩, rfl, (mlA 109 rfl), (mlA 110 rfl), (mlA 111 rfl)⟩
theorem k_get : LKX yL_get cL_get 3 [(0, 6, 7, 15), (0, 6, 12, 19)] 127 2 := ⟨⟨by decide, by decide, show (parseMethodDescriptor yL_get.desc).map (fun d => d.parameters.length) = some 2 by decide +kernel⟩, rfl, (mlA 127 rfl), (mlA 128 rfl), (mlA 129 rfl)⟩
theorem k_keyAt : LKX yL_keyAt cL_keyAt 3 [(0, 6, 7, 15)] 129 2 := ⟨⟨by decide, by decide, show (parseMethodDescriptor yL_keyAt.desc).map (fun d => d.parameters.length) = some 2 by decide +kernel⟩, rfl, (mlA 130 rfl), (mlA 131 rfl), (mlA 132 rfl)⟩
theorem k_newest : LKX yL_newest cL_newest 3 [(0, 6, 7, 15)] 131 2 := ⟨⟨by decide, by decide, show (parseMethodDescriptor yL_newest.desc).map (fun d => d.parameters.length) = some 2 by decide +kernel⟩, rfl, (mlA 133 rfl), (mlA 134 rfl), (mlA 135 rfl)⟩
theorem k_lastCut : LKX yL_lastCut cL_lastCut 3 [(0, 6, 7, 15)] 114 2 := ⟨⟨by decide, by decide, show (parseMethodDescriptor yL_lastCut.desc).map (fun d => d.parameters.length) = some 2 by decide +kernel⟩, rfl, (mlA 115 rfl), (mlA 116 rfl), (mlA 117 rfl)⟩
theorem k_put : LKX yL_put cL_put 4 [(0, 7, 8, 15), (0, 7, 13, 19)] 133 3 := ⟨⟨by decide, by decide, show (parseMethodDescriptor yL_put.desc).map (fun d => d.parameters.length) = some 3 by decide +kernel⟩, rfl, (mlA 136 rfl), (mlA 137 rfl), (mlA 138 rfl)⟩
theorem k_remove : LKX yL_remove cL_remove 3 [(0, 6, 7, 15), (0, 6, 12, 19)] 140 2 := ⟨⟨by decide, by decide, show (parseMethodDescriptor yL_remove.desc).map (fun d => d.parameters.length) = some 2 by decide +kernel⟩, rfl, (mlA 145 rfl), (mlA 146 rfl), (mlA 147 rfl)⟩
theorem k_sweep : LKX yL_sweep cL_sweep 2 [(0, 5, 6, 19)] 147 1 := ⟨⟨by decide, by decide, show (parseMethodDescriptor yL_sweep.desc).map (fun d => d.parameters.length) = some 1 by decide +kernel⟩, rfl, (mlA 152 rfl), (mlA 153 rfl), (mlA 154 rfl)⟩
theorem k_cut : LKX yL_cut cL_cut 3 [(0, 6, 7, 15), (0, 6, 12, 19)] 149 2 := ⟨⟨by decide, by decide, show (parseMethodDescriptor yL_cut.desc).map (fun d => d.parameters.length) = some 2 by decide +kernel⟩, rfl, (mlA 155 rfl), (mlA 156 rfl), (mlA 157 rfl)⟩
theorem k_start : LKX yL_start cL_start 2 [(0, 5, 6, 19)] 151 1 := ⟨⟨by decide, by decide, show (parseMethodDescriptor yL_start.desc).map (fun d => d.parameters.length) = some 1 by decide +kernel⟩, rfl, (mlA 158 rfl), (mlA 159 rfl), (mlA 160 rfl)⟩
theorem k_setPolicy : LKX yL_setPolicy cL_setPolicy 3 [(0, 6, 7, 15)] 153 2 := ⟨⟨by decide, by decide, show (parseMethodDescriptor yL_setPolicy.desc).map (fun d => d.parameters.length) = some 2 by decide +kernel⟩, rfl, (mlA 161 rfl), (mlA 162 rfl), (mlA 163 rfl)⟩
theorem k_undo : LKX yL_undo cL_undo 2 [(0, 5, 6, 19)] 201 1 := ⟨⟨by decide, by decide, show (parseMethodDescriptor yL_undo.desc).map (fun d => d.parameters.length) = some 1 by decide +kernel⟩, rfl, (mlA 204 rfl), (mlA 205 rfl), (mlA 206 rfl)⟩
theorem k_operations : LKX yL_operations cL_operations 2 [(0, 5, 6, 19)] 135 1 := ⟨⟨by decide, by decide, show (parseMethodDescriptor yL_operations.desc).map (fun d => d.parameters.length) = some 1 by decide +kernel⟩, rfl, (mlA 139 rfl), (mlA 140 rfl), (mlA 141 rfl)⟩
theorem k_afterCut : LKX yL_afterCut cL_afterCut 5 [(0, 8, 9, 15), (0, 8, 15, 19)] 137 4 := ⟨⟨by decide, by decide, show (parseMethodDescriptor yL_afterCut.desc).map (fun d => d.parameters.length) = some 4 by decide +kernel⟩, rfl, (mlA 142 rfl), (mlA 143 rfl), (mlA 144 rfl)⟩
theorem k_lasts : LKX yL_lasts cL_lasts 3 [(0, 6, 7, 15)] 155 2 := ⟨⟨by decide, by decide, show (parseMethodDescriptor yL_lasts.desc).map (fun d => d.parameters.length) = some 2 by decide +kernel⟩, rfl, (mlA 164 rfl), (mlA 165 rfl), (mlA 166 rfl)⟩
theorem k_script : LKX yL_script cL_script 5 [(0, 7, 8, 15)] 157 3 := ⟨⟨by decide, by decide, show (parseMethodDescriptor yL_script.desc).map (fun d => d.parameters.length) = some 3 by decide +kernel⟩, rfl, (mlA 167 rfl), (mlA 168 rfl), (mlA 169 rfl)⟩
theorem k_simulate : LKX yL_simulate cL_simulate 5 [(0, 7, 8, 15)] 163 3 := ⟨⟨by decide, by decide, show (parseMethodDescriptor yL_simulate.desc).map (fun d => d.parameters.length) = some 3 by decide +kernel⟩, rfl, (mlA 170 rfl), (mlA 171 rfl), (mlA 172 rfl)⟩
theorem k_save : LKX yL_save cL_save 3 [(0, 6, 7, 34)] 166 2 := ⟨⟨by decide, by decide, show (parseMethodDescriptor yL_save.desc).map (fun d => d.parameters.length) = some 2 by decide +kernel⟩, rfl, (mlA 173 rfl), (mlA 174 rfl), (mlA 175 rfl)⟩
theorem k_restore : LKX yL_restore cL_restore 3 [(0, 6, 7, 34), (0, 6, 12, 19)] 168 2 := ⟨⟨by decide, by decide, show (parseMethodDescriptor yL_restore.desc).map (fun d => d.parameters.length) = some 2 by decide +kernel⟩, rfl, (mlA 176 rfl), (mlA 177 rfl), (mlA 178 rfl)⟩
theorem k_victim : LKV yX6_victim cX6_victim 1 144 0 := ⟨⟨by decide, by decide, show (parseMethodDescriptor yX6_victim.desc).map (fun d => d.parameters.length) = some 0 by decide +kernel⟩, rfl, (mlA 148 rfl), (mlA 149 rfl), (mlA 150 rfl), (mlA 151 rfl)⟩
theorem k_oldest : LKV yX6_oldest cX6_oldest 5 182 0 := ⟨⟨by decide, by decide, show (parseMethodDescriptor yX6_oldest.desc).map (fun d => d.parameters.length) = some 0 by decide +kernel⟩, rfl, (mlA 188 rfl), (mlA 189 rfl), (mlA 190 rfl), (mlA 191 rfl)⟩
theorem k_clearText : LKV yX6_clearText cX6_clearText 1 208 0 := ⟨⟨by decide, by decide, show (parseMethodDescriptor yX6_clearText.desc).map (fun d => d.parameters.length) = some 0 by decide +kernel⟩, rfl, (mlA 213 rfl), (mlA 214 rfl), (mlA 215 rfl), (mlA 216 rfl)⟩
theorem k_errorPosition : LKV yX6_errorPosition cX6_errorPosition 1 203 0 := ⟨⟨by decide, by decide, show (parseMethodDescriptor yX6_errorPosition.desc).map (fun d => d.parameters.length) = some 0 by decide +kernel⟩, rfl, (mlA 208 rfl), (mlA 209 rfl), (mlA 210 rfl), (mlA 211 rfl)⟩
theorem k_whyNoRoom : LKV yX6_whyNoRoom cX6_whyNoRoom 1 124 0 := ⟨⟨by decide, by decide, show (parseMethodDescriptor yX6_whyNoRoom.desc).map (fun d => d.parameters.length) = some 0 by decide +kernel⟩, rfl, (mlA 123 rfl), (mlA 124 rfl), (mlA 125 rfl), (mlA 126 rfl)⟩
theorem k_now : LKM yL_now cL_now 5 .long 120 1 := ⟨⟨(mlA 122 rfl), by decide, by decide, show (parseMethodDescriptor yL_now.desc).map (fun d => d.parameters.length) = some 1 by decide +kernel⟩, rfl, (mlA 120 rfl), (mlA 121 rfl)⟩
theorem k_errors : LKM yL_errors cL_errors 7 .boolean 225 1 := ⟨⟨(mlA 234 rfl), by decide, by decide, show (parseMethodDescriptor yL_errors.desc).map (fun d => d.parameters.length) = some 1 by decide +kernel⟩, rfl, (mlA 232 rfl), (mlA 233 rfl)⟩
theorem k_kept : LKM yL_kept cL_kept 15 .boolean 229 1 := ⟨⟨(mlA 237 rfl), by decide, by decide, show (parseMethodDescriptor yL_kept.desc).map (fun d => d.parameters.length) = some 1 by decide +kernel⟩, rfl, (mlA 235 rfl), (mlA 236 rfl)⟩
theorem k_fewest : LKM yL_fewest cL_fewest 4 .boolean 185 2 := ⟨⟨(mlA 194 rfl), by decide, by decide, show (parseMethodDescriptor yL_fewest.desc).map (fun d => d.parameters.length) = some 2 by decide +kernel⟩, rfl, (mlA 192 rfl), (mlA 193 rfl)⟩
theorem k_others : LKM yL_others cL_others 5 .long 194 2 := ⟨⟨(mlA 203 rfl), by decide, by decide, show (parseMethodDescriptor yL_others.desc).map (fun d => d.parameters.length) = some 2 by decide +kernel⟩, rfl, (mlA 201 rfl), (mlA 202 rfl)⟩
theorem k_valueOf : LKM yL_valueOf cL_valueOf 3 .long 191 2 := ⟨⟨(mlA 200 rfl), by decide, by decide, show (parseMethodDescriptor yL_valueOf.desc).map (fun d => d.parameters.length) = some 2 by decide +kernel⟩, rfl, (mlA 198 rfl), (mlA 199 rfl)⟩
theorem k_follows : LKM yL_follows cL_follows 26 .boolean 240 2 := ⟨⟨(mlA 249 rfl), by decide, by decide, show (parseMethodDescriptor yL_follows.desc).map (fun d => d.parameters.length) = some 2 by decide +kernel⟩, rfl, (mlA 247 rfl), (mlA 248 rfl)⟩
theorem k_alike : LKM yL_alike cL_alike 3 .boolean 221 3 := ⟨⟨(mlA 231 rfl), by decide, by decide, show (parseMethodDescriptor yL_alike.desc).map (fun d => d.parameters.length) = some 3 by decide +kernel⟩, rfl, (mlA 229 rfl), (mlA 230 rfl)⟩
theorem k_types : LKM yL_types cL_types 5 .boolean 211 3 := ⟨⟨(mlA 219 rfl), by decide, by decide, show (parseMethodDescriptor yL_types.desc).map (fun d => d.parameters.length) = some 3 by decide +kernel⟩, rfl, (mlA 217 rfl), (mlA 218 rfl)⟩
theorem k_tells : LKM yL_tells cL_tells 6 .boolean 232 3 := ⟨⟨(mlA 240 rfl), by decide, by decide, show (parseMethodDescriptor yL_tells.desc).map (fun d => d.parameters.length) = some 3 by decide +kernel⟩, rfl, (mlA 238 rfl), (mlA 239 rfl)⟩
theorem k_act : LKM yL_act cL_act 3 .long 237 3 := ⟨⟨(mlA 246 rfl), by decide, by decide, show (parseMethodDescriptor yL_act.desc).map (fun d => d.parameters.length) = some 3 by decide +kernel⟩, rfl, (mlA 244 rfl), (mlA 245 rfl)⟩
theorem k_in : LKM yL_in cL_in 6 .boolean 174 3 := ⟨⟨(mlA 187 rfl), by decide, by decide, show (parseMethodDescriptor yL_in.desc).map (fun d => d.parameters.length) = some 3 by decide +kernel⟩, rfl, (mlA 185 rfl), (mlA 186 rfl)⟩
