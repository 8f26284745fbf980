theorem dX1_init_0 : decode cX1_init 0 = .ok (.aload_n 0, 1) := by decide +kernel
theorem dX1_init_1 : decode cX1_init 1 = .ok (.invokespecial 1, 3) := by decide +kernel
theorem dX1_init_4 : decode cX1_init 4 = .ok (.aload_n 0, 1) := by decide +kernel
theorem dX1_init_5 : decode cX1_init 5 = .ok (.bipush 14, 2) := by decide +kernel
theorem dX1_init_7 : decode cX1_init 7 = .ok (.anewarray 9, 3) := by decide +kernel
theorem dX1_init_10 : decode cX1_init 10 = .ok (.putfield 11, 3) := by decide +kernel
theorem dX1_init_13 : decode cX1_init 13 = .ok (.iconst 0, 1) := by decide +kernel
theorem dX1_init_14 : decode cX1_init 14 = .ok (.istore_n 1, 1) := by decide +kernel
theorem dX1_init_15 : decode cX1_init 15 = .ok (.iload_n 1, 1) := by decide +kernel
theorem dX1_init_16 : decode cX1_init 16 = .ok (.bipush 14, 2) := by decide +kernel
theorem dX1_init_18 : decode cX1_init 18 = .ok (.if_icmp .ge 22, 3) := by decide +kernel
theorem dX1_init_21 : decode cX1_init 21 = .ok (.aload_n 0, 1) := by decide +kernel
theorem dX1_init_22 : decode cX1_init 22 = .ok (.getfield 11, 3) := by decide +kernel
theorem dX1_init_25 : decode cX1_init 25 = .ok (.iload_n 1, 1) := by decide +kernel
theorem dX1_init_26 : decode cX1_init 26 = .ok (.new 9, 3) := by decide +kernel
theorem dX1_init_29 : decode cX1_init 29 = .ok (.dup, 1) := by decide +kernel
theorem dX1_init_30 : decode cX1_init 30 = .ok (.invokespecial 15, 3) := by decide +kernel
theorem dX1_init_33 : decode cX1_init 33 = .ok (.aastore, 1) := by decide +kernel
theorem dX1_init_34 : decode cX1_init 34 = .ok (.iinc 1 1, 3) := by decide +kernel
theorem dX1_init_37 : decode cX1_init 37 = .ok (.goto (-22), 3) := by decide +kernel
theorem dX1_init_40 : decode cX1_init 40 = .ok (.return_, 1) := by decide +kernel
theorem dX3_init_0 : decode cX3_init 0 = .ok (.aload_n 0, 1) := by decide +kernel
theorem dX3_init_1 : decode cX3_init 1 = .ok (.invokespecial 3, 3) := by decide +kernel
theorem dX3_init_4 : decode cX3_init 4 = .ok (.aload_n 0, 1) := by decide +kernel
theorem dX3_init_5 : decode cX3_init 5 = .ok (.iconst 2, 1) := by decide +kernel
theorem dX3_init_6 : decode cX3_init 6 = .ok (.anewarray 9, 3) := by decide +kernel
theorem dX3_init_9 : decode cX3_init 9 = .ok (.putfield 11, 3) := by decide +kernel
theorem dX3_init_12 : decode cX3_init 12 = .ok (.aload_n 0, 1) := by decide +kernel
theorem dX3_init_13 : decode cX3_init 13 = .ok (.iconst 2, 1) := by decide +kernel
theorem dX3_init_14 : decode cX3_init 14 = .ok (.newarray .boolean, 2) := by decide +kernel
theorem dX3_init_16 : decode cX3_init 16 = .ok (.putfield 17, 3) := by decide +kernel
theorem dX3_init_19 : decode cX3_init 19 = .ok (.iconst 0, 1) := by decide +kernel
theorem dX3_init_20 : decode cX3_init 20 = .ok (.istore_n 1, 1) := by decide +kernel
theorem dX3_init_21 : decode cX3_init 21 = .ok (.iload_n 1, 1) := by decide +kernel
theorem dX3_init_22 : decode cX3_init 22 = .ok (.iconst 2, 1) := by decide +kernel
theorem dX3_init_23 : decode cX3_init 23 = .ok (.if_icmp .ge 22, 3) := by decide +kernel
theorem dX3_init_26 : decode cX3_init 26 = .ok (.aload_n 0, 1) := by decide +kernel
theorem dX3_init_27 : decode cX3_init 27 = .ok (.getfield 11, 3) := by decide +kernel
theorem dX3_init_30 : decode cX3_init 30 = .ok (.iload_n 1, 1) := by decide +kernel
theorem dX3_init_31 : decode cX3_init 31 = .ok (.new 9, 3) := by decide +kernel
theorem dX3_init_34 : decode cX3_init 34 = .ok (.dup, 1) := by decide +kernel
theorem dX3_init_35 : decode cX3_init 35 = .ok (.invokespecial 21, 3) := by decide +kernel
theorem dX3_init_38 : decode cX3_init 38 = .ok (.aastore, 1) := by decide +kernel
theorem dX3_init_39 : decode cX3_init 39 = .ok (.iinc 1 1, 3) := by decide +kernel
theorem dX3_init_42 : decode cX3_init 42 = .ok (.goto (-21), 3) := by decide +kernel
theorem dX3_init_45 : decode cX3_init 45 = .ok (.return_, 1) := by decide +kernel
theorem dX6_init_0 : decode cX6_init 0 = .ok (.aload_n 0, 1) := by decide +kernel
theorem dX6_init_1 : decode cX6_init 1 = .ok (.invokespecial 3, 3) := by decide +kernel
theorem dX6_init_4 : decode cX6_init 4 = .ok (.aload_n 0, 1) := by decide +kernel
theorem dX6_init_5 : decode cX6_init 5 = .ok (.new 9, 3) := by decide +kernel
theorem dX6_init_8 : decode cX6_init 8 = .ok (.dup, 1) := by decide +kernel
theorem dX6_init_9 : decode cX6_init 9 = .ok (.invokespecial 11, 3) := by decide +kernel
theorem dX6_init_12 : decode cX6_init 12 = .ok (.putfield 12, 3) := by decide +kernel
theorem dX6_init_15 : decode cX6_init 15 = .ok (.aload_n 0, 1) := by decide +kernel
theorem dX6_init_16 : decode cX6_init 16 = .ok (.new 16, 3) := by decide +kernel
theorem dX6_init_19 : decode cX6_init 19 = .ok (.dup, 1) := by decide +kernel
theorem dX6_init_20 : decode cX6_init 20 = .ok (.invokespecial 18, 3) := by decide +kernel
theorem dX6_init_23 : decode cX6_init 23 = .ok (.putfield 19, 3) := by decide +kernel
theorem dX6_init_26 : decode cX6_init 26 = .ok (.aload_n 0, 1) := by decide +kernel
theorem dX6_init_27 : decode cX6_init 27 = .ok (.new 23, 3) := by decide +kernel
theorem dX6_init_30 : decode cX6_init 30 = .ok (.dup, 1) := by decide +kernel
theorem dX6_init_31 : decode cX6_init 31 = .ok (.invokespecial 25, 3) := by decide +kernel
theorem dX6_init_34 : decode cX6_init 34 = .ok (.putfield 26, 3) := by decide +kernel
theorem dX6_init_37 : decode cX6_init 37 = .ok (.aload_n 0, 1) := by decide +kernel
theorem dX6_init_38 : decode cX6_init 38 = .ok (.new 30, 3) := by decide +kernel
theorem dX6_init_41 : decode cX6_init 41 = .ok (.dup, 1) := by decide +kernel
theorem dX6_init_42 : decode cX6_init 42 = .ok (.invokespecial 32, 3) := by decide +kernel
theorem dX6_init_45 : decode cX6_init 45 = .ok (.putfield 33, 3) := by decide +kernel
theorem dX6_init_48 : decode cX6_init 48 = .ok (.aload_n 0, 1) := by decide +kernel
theorem dX6_init_49 : decode cX6_init 49 = .ok (.new 30, 3) := by decide +kernel
theorem dX6_init_52 : decode cX6_init 52 = .ok (.dup, 1) := by decide +kernel
theorem dX6_init_53 : decode cX6_init 53 = .ok (.invokespecial 32, 3) := by decide +kernel
theorem dX6_init_56 : decode cX6_init 56 = .ok (.putfield 37, 3) := by decide +kernel
theorem dX6_init_59 : decode cX6_init 59 = .ok (.aload_n 0, 1) := by decide +kernel
theorem dX6_init_60 : decode cX6_init 60 = .ok (.new 30, 3) := by decide +kernel
theorem dX6_init_63 : decode cX6_init 63 = .ok (.dup, 1) := by decide +kernel
theorem dX6_init_64 : decode cX6_init 64 = .ok (.invokespecial 32, 3) := by decide +kernel
theorem dX6_init_67 : decode cX6_init 67 = .ok (.putfield 40, 3) := by decide +kernel
theorem dX6_init_70 : decode cX6_init 70 = .ok (.return_, 1) := by decide +kernel
theorem q1_init : CQ W6 yX1_init cX1_init 2 none 0 := ⟨(m6 267 rfl), by decide, by decide, by decide +kernel⟩
theorem q3_init : CQ W6 yX3_init cX3_init 2 none 0 := ⟨(m6 270 rfl), by decide, by decide, by decide +kernel⟩
theorem va_nd_of : ∀ (l : List Nat), l.Nodup → va_nd l = true
  | [], _ => rfl
  | a :: l, h => by
    rw [List.nodup_cons] at h
    simp only [va_nd, Bool.and_eq_true, decide_eq_true_eq]
    exact ⟨h.1, va_nd_of l h.2⟩
/-- a class's array of references of the class that is known -/
theorem ra_newq {p : Program} {l : Launch} {e : Env} {R : Room} {s : State} {m : MethodId} {args : Array Value} {below : List Frame} {meth : Method} {c : Code} {H : Heap} {locs : List Loc} {cells slots : Nat} {Q : State → Prop} {cc : ByteArray} {pc nL idx : Nat} {ls : Array Slot} {rest : List Value} {D : va_G} {A : Nat → Prop} {tys : List (ClassId × FieldType)} {ws : va_W} {H0 : Heap} {Wd : List Cond} {own C : String}
    (hX : CallFix p m c cc nL s args Wd own) (hcl : Cond.classLink own idx C ∈ Wd) (hover : va_AO C s) (hK : va_K D vwCl tys s) (t0 : Nat) {cL : ClassId} (ht : tys[t0]? = some (cL, .object C)) (hP : va_P D vwCl ws H) (hD : va_D A ws) (hS : va_S A H0 H locs) (hA : ∀ q, H0.size ≤ q → A q) {n : Nat} (hn : n < 100000) (hcells : cells + 1 ≤ R.cells) (hslots : slots + n ≤ R.slots) (hdg : decode cc pc = .ok (.anewarray idx, 3))
    (kk : ∀ (q : Nat) (H1 : Heap), va_P D vwCl (ws ++ [(q, .inl (cL, n, .inr (.inr (.inr (.inr (fun _ => none))))))]) H1 → va_D A (ws ++ [(q, .inl (cL, n, .inr (.inr (.inr (.inr (fun _ => none))))))]) → va_S A H0 H1 locs → W p l e R s m args below meth c H1 locs (cells + 1) (slots + n) Q (F0 m (pc + 3) ls (.ref q :: rest))) : W p l e R s m args below meth c H locs cells slots Q (F0 m pc ls (.int (nI n) :: rest)) := by
  refine va_newq hX.1 hX.2.1 hX.2.2.2.1 (hX.2.2.2.2 _ hcl) hover hK hP hD hS hA (nI_pos (by omega)) (nI_clamp (by omega)) (by omega) hcells hslots hdg (fun q cA H1 hK1 hP1 hD1 hS1 => ?_)
  obtain ⟨-, -, -, -, -, e1⟩ := (hK1.2 tys.length (cA, .object C) (by simp)).2
  obtain ⟨-, -, -, -, -, e2⟩ := (hK.2 t0 (cL, .object C) ht).2
  have e3 : cA = cL := Option.some.inj (e1.symm.trans e2)
  subst e3
  exact kk q H1 hP1 hD1 hS1
theorem last_C {X : va_W} {x : Nat × va_E} : [X.length].map (fun i => (X ++ [x])[i]?) = [x].map some := by simp
theorem last_R {X : va_W} {x : Nat × va_E} : (List.range X.length).map (fun i => (X ++ [x])[i]?) = X.map some := by
  refine List.ext_getElem (by simp) fun k h1 h2 => ?_
  simp only [List.length_map, List.length_range] at h1
  simp [List.getElem?_append_left h1]
theorem last_d {n : Nat} : ∀ i ∈ List.range n, i ∉ [n] := fun i h z => by
  have h1 := List.mem_range.mp h
  have h2 := List.mem_singleton.mp z
  omega
theorem bw_app (Bs Us : List va_W) : bw (Bs ++ Us) = bw Bs ++ bw Us := List.flatten_append
/-- the constructor of an object that was made just now, behind a world of blocks -/
theorem bm_init {p : Program} {l : Launch} {e : Env} {R : Room} {s : State} {m : MethodId} {args : Array Value} {below : List Frame} {meth : Method} {c : Code} {H : Heap} {locs : List Loc} {cells slots : Nat} {Q : State → Prop} {cc : ByteArray} {pc nL nL2 fr lo mc ms idx b : Nat} {ls : Array Slot} {rest : List Value} {D : va_G} {A0 : Nat → Prop} {tys tc : List (ClassId × FieldType)} {Bs : List va_W} {H0 : Heap} {Wd : List Cond} {own : String} {y : MethodName} {b2 : ByteArray} {x : va_E} {post : List va_W → Prop}
    (hX : CallFix p m c cc nL s args Wd own) (hG : GoodIn Wd Wd) (hi : Cond.initialized y.cls ∈ Wd) (hM : ∀ sz, GM l y b2 nL2 Wd fr lo mc ms D [(b, x)] tc [.ref b] sz (fun u => ∃ Us, u = bw Us ∧ post Us)) (hq : CQ Wd y b2 nL2 none 0) (hl : Cond.methodLink own idx y ∈ Wd) (hs : Cond.instanceMethod y ∈ Wd) (hy1 : y.name = "<init>") (hR : fr + 1 ≤ R.frames ∧ 8 + (nL2 + 11) + lo ≤ R.locals)
    (hK : va_K D vwCl tys s) (hN : NW s) (isT : List Nat) (hT : isT.filterMap (fun i => tys[i]?) = tc) (hP : va_P D vwCl (bw Bs ++ [(b, x)]) H) (hD : va_D A0 (bw Bs ++ [(b, x)])) (hS : va_S A0 H0 H locs) (hA : ∀ q, H0.size ≤ q → A0 q) (hls : ls.size = nL) (hW : (rest.map fun v => v.category).sum ≤ 8) (hdg : decode cc pc = .ok (.invokespecial idx, 3)) (hcs : cells + mc ≤ R.cells ∧ slots + ms ≤ R.slots)
    (kk : ∀ (Us : List va_W) (H1 : Heap) (locs1 : List Loc), post Us → va_P D vwCl (bw (Bs ++ Us)) H1 → va_D A0 (bw (Bs ++ Us)) → va_S A0 H0 H1 locs1 → W p l e R s m args below meth c H1 locs1 (cells + mc) (slots + ms) Q (F0 m (pc + 3) ls rest)) : W p l e R s m args below meth c H locs cells slots Q (F0 m pc ls (.ref b :: rest)) := by
  refine gm_init (wr := bw Bs) (As := []) (rest := rest) hX hG hi (hM H.size) hq hl hs hy1 hR hK hN isT hT hP hD hS hA rfl [(bw Bs).length] (List.range (bw Bs).length) rfl last_C last_R (va_nd_of _ List.nodup_range) last_d hls rfl hW hdg hcs (fun u H1 locs1 hp hP1 hD1 hS1 => ?_)
  obtain ⟨Us, rfl, hpost⟩ := hp
  rw [← bw_app] at hP1 hD1
  exact kk Us H1 locs1 hpost hP1 hD1 hS1
def zN0 : LgS := zNew 4 20 zZero
/-- n Logs, one behind another -/
def zLs (cI : ClassId) (d : Nat → Nat → Nat) (z : Nat → LgS) : Nat → List va_W
  | 0 => []
  | n + 1 => zLs cI d z n ++ [zL cI (d n) (z n)]
theorem zLs_congr {cI : ClassId} {d d2 : Nat → Nat → Nat} {z z2 : Nat → LgS} : ∀ {n : Nat}, (∀ j, j < n → d j = d2 j ∧ z j = z2 j) → zLs cI d z n = zLs cI d2 z2 n
  | 0, _ => rfl
  | n + 1, h => by
    rw [zLs, zLs, zLs_congr (fun j hj => h j (by omega)), (h n (by omega)).1, (h n (by omega)).2]
theorem b2_init (l : Launch) (D : va_G) (cI : ClassId) (lo sz : Nat) : GM l yX2_init cX2_init 1 W6 3 68 10 209 D [(lo, .inr (2, [.null, .null, .int (0), .int (0), .int (0), .int (0), .int (0), .int (0)]))] [(cI, .int)] [.ref lo] sz (fun u => ∃ Us, u = bw Us ∧ ∃ d : Nat → Nat, d 0 = lo ∧ Us = [zL cI d zN0]) := by
  refine met_imp (c2_init l D cI lo sz) (fun _ _ z => z) (fun a st o t z => ?_) (fun _ z => z)
  obtain ⟨⟨u, h1, h2, h3⟩, h4⟩ := z
  obtain ⟨fo, a0, a1, a2, a3, a4, a5, a6, a7, ta, e⟩ := h2
  refine ⟨⟨u, h1, ⟨_, ?_, (fun k => if k = 0 then lo else if k = 1 then fo else if k = 2 then a0 else if k = 3 then a1 else if k = 4 then a2 else if k = 5 then a3 else if k = 6 then a4 else if k = 7 then a5 else if k = 8 then a6 else if k = 9 then a7 else ta), rfl, rfl⟩, h3⟩, h4⟩
  rw [zN0, zL_new, e]
  rfl
set_option maxHeartbeats 4000000 in
set_option maxRecDepth 100000 in
theorem c1_init (l : Launch) (D : va_G) (cI cL : ClassId) (ho sz : Nat) : GM l yX1_init cX1_init 2 W6 4 88 155 3052 D [(ho, .inr (1, [.null, .int 0, .int 0]))] [(cI, .int), (cL, (.object "TornPageLog$Log"))] [.ref ho] sz (fun u9 : va_W => ∃ Us, u9 = bw Us ∧ ∃ sa : Nat, ∃ (d : Nat → Nat → Nat) (sf : Nat → Option Nat), Us = [[(ho, .inr (1, [.ref sa, .int 0, .int 0]))], [(sa, .inl (cL, 14, .inr (.inr (.inr (.inr sf)))))]] ++ zLs cI d (fun _ => zN0) 14 ∧ ∀ j, j < 14 → sf j = some (d j 0)) := by
  refine gm_of RX1 (by decide) rfl (Nat.le_of_ble_eq_true rfl) ?_
  intro p e s m below meth c ls H A hX hr hlocks hname hK hN hP hD hS hA hl
  have hx := hX.1
  have hb := hX.2.1
  have hown := hX.2.2.2.1
  have hts := hX.2.2.2.2
  have hl : lv_has ls 2 [(0, .ref ho)] := hl
  refine lv_aload_n hx hb dX1_init_0 rfl (lv_at hl 0 rfl) ?_
  refine gn_obj hX (m6 85 rfl) (m6 1 rfl) (m6 2 rfl) hl.1 dX1_init_1 (Nat.le_of_ble_eq_true rfl) (Nat.le_of_ble_eq_true rfl) ?_
  refine lv_aload_n hx hb dX1_init_4 rfl (lv_at hl 0 rfl) ?_
  refine lv_bipush (v := 14) hx hb dX1_init_5 (by decide) ?_
  refine ra_newq (n := 14) hX (m6 86 rfl) hN.2.2.2.2 hK 1 rfl hP hD hS hA (by decide) (Nat.le_of_ble_eq_true rfl) (Nat.le_of_ble_eq_true rfl) dX1_init_7 (fun sa H hP hD hS => ?_)
  refine va_putF (D := D) (ci := 1) (v := .ref sa) (ty := (.array (.object "TornPageLog$Log"))) (C := RX1) (T := TX1) (N := 3) hx hb hts u6_X1 tyX1 tyX1_ok nmX1 hown hK hP hD hS 0 rfl rfl 0 (by decide) (hts _ (m6 87 rfl)) (fun _ h9 => h9) rfl hname rfl (by decide +kernel) rfl rfl (Nat.le_of_ble_eq_true rfl) dX1_init_10 (fun H locs hP hD hS => ?_)
  have hP : va_P D vwCl (bw ([[(ho, .inr (1, [.ref sa, .int 0, .int 0]))], [(sa, .inl (cL, 14, .inr (.inr (.inr (.inr (fun _ => none))))))]] ++ zLs cI (fun _ _ => 0) (fun _ => zN0) 0)) H := hP
  have hD : va_D A (bw ([[(ho, .inr (1, [.ref sa, .int 0, .int 0]))], [(sa, .inl (cL, 14, .inr (.inr (.inr (.inr (fun _ => none))))))]] ++ zLs cI (fun _ _ => 0) (fun _ => zN0) 0)) := hD
  refine lv_iconst (v := 0) hx hb dX1_init_13 (by decide) ?_
  refine lv_istore_n (lv' := [(1, .int (nI 0)), (0, .ref ho)]) hx hb dX1_init_14 rfl hl (by decide) rfl (fun ls hl => ?_)
  have LP : ∀ n9 : Nat, ∀ (i9 : Nat) (d : Nat → Nat → Nat) (sf : Nat → Option Nat), i9 ≤ 14 → (∀ j, j < i9 → sf j = some (d j 0)) → 14 - i9 < n9 → ∀ (H : Heap) (locs : List Loc), va_P D vwCl (bw ([[(ho, .inr (1, [.ref sa, .int 0, .int 0]))], [(sa, .inl (cL, 14, .inr (.inr (.inr (.inr sf)))))]] ++ zLs cI d (fun _ => zN0) i9)) H → va_D A (bw ([[(ho, .inr (1, [.ref sa, .int 0, .int 0]))], [(sa, .inl (cL, 14, .inr (.inr (.inr (.inr sf)))))]] ++ zLs cI d (fun _ => zN0) i9)) → va_S A s.heap H locs → ∀ ls : Array Slot, lv_has ls 2 [(1, .int (nI i9)), (0, .ref ho)] → W p l e ({ frames := 4, cells := 155, slots := 3052, locals := 88 } : Room) s m ([.ref ho] : List Value).toArray below meth c H locs (1 + 11 * i9) (14 + 217 * i9) (MQ below (va_Qv (fun u9 : va_W => ∃ Us, u9 = bw Us ∧ ∃ sa : Nat, ∃ (d : Nat → Nat → Nat) (sf : Nat → Option Nat), Us = [[(ho, .inr (1, [.ref sa, .int 0, .int 0]))], [(sa, .inl (cL, 14, .inr (.inr (.inr (.inr sf)))))]] ++ zLs cI d (fun _ => zN0) 14 ∧ ∀ j, j < 14 → sf j = some (d j 0)) (fun u t => va_P D vwCl u t.heap ∧ va_D A u) A) ([.ref ho] : List Value).toArray s 155 3052 A) (F0 m 15 ls []) := by
    intro n9
    induction n9 with
    | zero => intros; omega
    | succ n9 ih =>
      intro i9 d sf hi hsf hm9 H locs hP hD hS ls hl
      refine lv_iload_n hx hb dX1_init_15 rfl (lv_at hl 0 rfl) ?_
      refine lv_bipush (v := 14) hx hb dX1_init_16 (by decide) ?_
      refine lv_icmp_ge (tgt := 40) hx hb dX1_init_18 (by decide) (fun c1 => ?_) (fun c1 => ?_)
      · have c1 := cn_le (a := 14) (b := i9) (by omega) (by omega) c1
        obtain rfl : i9 = 14 := by omega
        exact gn_ret hX hr hlocks hS hP hD ⟨_, rfl, sa, d, sf, rfl, hsf⟩ (Nat.le_of_ble_eq_true rfl) (Nat.le_of_ble_eq_true rfl) dX1_init_40
      · have c1 := cn_nle (a := 14) (b := i9) (by omega) (by omega) c1
        refine lv_aload_n hx hb dX1_init_21 rfl (lv_at hl 1 rfl) ?_
        refine va_get (D := D) (ci := 1) (v := .ref sa) (C := RX1) (T := TX1) (N := 3) hx hb hts u6_X1 hown hK hP 0 rfl rfl 0 (by decide) (hts _ (m6 87 rfl)) (fun _ h9 => h9) rfl dX1_init_22 ?_
        refine lv_iload_n hx hb dX1_init_25 rfl (lv_at hl 0 rfl) ?_
        refine va_new (ci := 2) (fs := [.null, .null, .int (0), .int (0), .int (0), .int (0), .int (0), .int (0)]) (C := RX2) (T := TX2) (N := 8) hx hb hts u6_X2 tyX2 tyX2_ok hown (hts _ (m6 86 rfl)) (hts _ (m6 88 rfl)) (hts _ (m6 83 rfl)) hK hP hD hS hA rfl (fun j hj => by rcases (show j = 0 ∨ j = 1 ∨ j = 2 ∨ j = 3 ∨ j = 4 ∨ j = 5 ∨ j = 6 ∨ j = 7 by omega) with rfl | rfl | rfl | rfl | rfl | rfl | rfl | rfl <;> rfl) (show 1 + 11 * i9 + 1 ≤ 155 by omega) (show 14 + 217 * i9 + 8 ≤ 3052 by omega) dX1_init_26 (fun b H hP hD hS => ?_)
        refine lv_dup hx hb dX1_init_29 rfl ?_
        refine bm_init (Bs := ([[(ho, .inr (1, [.ref sa, .int 0, .int 0]))], [(sa, .inl (cL, 14, .inr (.inr (.inr (.inr sf)))))]] ++ zLs cI d (fun _ => zN0) i9)) hX good6 (m6 83 rfl) (fun sz => b2_init l D cI b sz) q2_init (m6 89 rfl) (m6 90 rfl) rfl ⟨Nat.le_of_ble_eq_true rfl, Nat.le_of_ble_eq_true rfl⟩ hK hN [0] rfl hP hD hS hA hl.1 (Nat.le_of_ble_eq_true rfl) dX1_init_30 ⟨show 1 + 11 * i9 + 1 + 10 ≤ 155 by omega, show 14 + 217 * i9 + 8 + 209 ≤ 3052 by omega⟩ (fun Us H locs hpost hP hD hS => ?_)
        obtain ⟨d1, hd1, rfl⟩ := hpost
        have hq : (bw (([[(ho, .inr (1, [.ref sa, .int 0, .int 0]))], [(sa, .inl (cL, 14, .inr (.inr (.inr (.inr sf)))))]] ++ zLs cI d (fun _ => zN0) i9) ++ [zL cI d1 zN0]))[(bw ([[(ho, .inr (1, [.ref sa, .int 0, .int 0]))], [(sa, .inl (cL, 14, .inr (.inr (.inr (.inr sf)))))]] ++ zLs cI d (fun _ => zN0) i9)).length]? = some (b, .inr (2, [.ref (d1 1), .ref (d1 10), .int (bI (true = true)), .int 0, .int 0, .int 20, .int (-9), .int 1])) := by
          rw [bw_app, List.getElem?_append_right (Nat.le_refl _), Nat.sub_self, ← hd1]
          rfl
        refine va_astq hx hb hK hP hD hS 1 1 (bw ([[(ho, .inr (1, [.ref sa, .int 0, .int 0]))], [(sa, .inl (cL, 14, .inr (.inr (.inr (.inr sf)))))]] ++ zLs cI d (fun _ => zN0) i9)).length 2 rfl rfl hq rfl (vp_in_nI (show i9 < 14 by omega) (by decide)) dX1_init_33 (fun H locs hP hD hS => ?_)
        rw [nI_clamp (show i9 < 2 ^ 31 by omega)] at hP hD
        refine lv_iinc (v := nI (i9 + 1)) (lv' := [(1, .int (nI (i9 + 1))), (0, .ref ho)]) hx hb dX1_init_34 hl (k := 0) rfl (nI_add _ 1) (by decide) rfl (fun ls hl => ?_)
        refine lv_goto (tgt := 15) hx hb dX1_init_37 (by decide) ?_
        have ez : zLs cI (va_up d i9 d1) (fun _ => zN0) (i9 + 1) = zLs cI d (fun _ => zN0) i9 ++ [zL cI d1 zN0] := by
          rw [zLs, zLs_congr (d2 := d) (z2 := fun _ => zN0) (fun j hj => ⟨va_up_ne _ _ (by omega), rfl⟩), va_up_self]
        have hP : va_P D vwCl (bw ([[(ho, .inr (1, [.ref sa, .int 0, .int 0]))], [(sa, .inl (cL, 14, .inr (.inr (.inr (.inr (va_up sf i9 (some b)))))))]] ++ zLs cI (va_up d i9 d1) (fun _ => zN0) (i9 + 1))) H := by rw [ez]; exact hP
        have hD : va_D A (bw ([[(ho, .inr (1, [.ref sa, .int 0, .int 0]))], [(sa, .inl (cL, 14, .inr (.inr (.inr (.inr (va_up sf i9 (some b)))))))]] ++ zLs cI (va_up d i9 d1) (fun _ => zN0) (i9 + 1))) := by rw [ez]; exact hD
        have hW := ih (i9 + 1) (va_up d i9 d1) (va_up sf i9 (some b)) (by omega) (fun j hj => ?_) (by omega) _ _ hP hD hS ls hl
        · rw [show 1 + 11 * i9 + 1 + 10 = 1 + 11 * (i9 + 1) by omega, show 14 + 217 * i9 + 8 + 209 = 14 + 217 * (i9 + 1) by omega]
          exact hW
        · by_cases ej : j = i9
          · subst ej
            rw [va_up_self, va_up_self, hd1]
          · rw [va_up_ne _ _ ej, va_up_ne _ _ ej]
            exact hsf j (by omega)
  exact LP (14 + 1) 0 _ _ (by omega) (fun j hj => absurd hj (by omega)) (by omega) _ _ hP hD hS _ hl
set_option maxHeartbeats 4000000 in
set_option maxRecDepth 100000 in
theorem c3_init (l : Launch) (D : va_G) (cI cL cZ : ClassId) (ho sz : Nat) : GM l yX3_init cX3_init 2 W6 4 88 24 438 D [(ho, .inr (3, [.null, .null]))] [(cI, .int), (cL, (.object "TornPageLog$Log")), (cZ, .boolean)] [.ref ho] sz (fun u9 : va_W => ∃ Us, u9 = bw Us ∧ ∃ sa : Nat, ∃ ua : Nat, ∃ (d : Nat → Nat → Nat) (sf : Nat → Option Nat), Us = [[(ho, .inr (3, [.ref sa, .ref ua]))], [(sa, .inl (cL, 2, .inr (.inr (.inr (.inr sf)))))], [(ua, .inl (cZ, 2, .inl (fun _ => 0)))]] ++ zLs cI d (fun _ => zN0) 2 ∧ ∀ j, j < 2 → sf j = some (d j 0)) := by
  refine gm_of RX3 (by decide) rfl (Nat.le_of_ble_eq_true rfl) ?_
  intro p e s m below meth c ls H A hX hr hlocks hname hK hN hP hD hS hA hl
  have hx := hX.1
  have hb := hX.2.1
  have hown := hX.2.2.2.1
  have hts := hX.2.2.2.2
  have hl : lv_has ls 2 [(0, .ref ho)] := hl
  refine lv_aload_n hx hb dX3_init_0 rfl (lv_at hl 0 rfl) ?_
  refine gn_obj hX (m6 207 rfl) (m6 1 rfl) (m6 2 rfl) hl.1 dX3_init_1 (Nat.le_of_ble_eq_true rfl) (Nat.le_of_ble_eq_true rfl) ?_
  refine lv_aload_n hx hb dX3_init_4 rfl (lv_at hl 0 rfl) ?_
  refine lv_iconst (v := 2) hx hb dX3_init_5 (by decide) ?_
  refine ra_newq (n := 2) hX (m6 208 rfl) hN.2.2.2.2 hK 1 rfl hP hD hS hA (by decide) (Nat.le_of_ble_eq_true rfl) (Nat.le_of_ble_eq_true rfl) dX3_init_6 (fun sa H hP hD hS => ?_)
  refine va_putF (D := D) (ci := 3) (v := .ref sa) (ty := (.array (.object "TornPageLog$Log"))) (C := RX3) (T := TX3) (N := 2) hx hb hts u6_X3 tyX3 tyX3_ok nmX3 hown hK hP hD hS 0 rfl rfl 0 (by decide) (hts _ (m6 209 rfl)) (fun _ h9 => h9) rfl hname rfl (by decide +kernel) rfl rfl (Nat.le_of_ble_eq_true rfl) dX3_init_9 (fun H locs hP hD hS => ?_)
  refine lv_aload_n hx hb dX3_init_12 rfl (lv_at hl 0 rfl) ?_
  refine lv_iconst (v := 2) hx hb dX3_init_13 (by decide) ?_
  refine ra_newz (n := 2) hX (m6 210 rfl) hK 2 rfl hP hD hS hA (by decide) (Nat.le_of_ble_eq_true rfl) (Nat.le_of_ble_eq_true rfl) dX3_init_14 (fun ua H hP hD hS => ?_)
  refine va_putF (D := D) (ci := 3) (v := .ref ua) (ty := (.array .boolean)) (C := RX3) (T := TX3) (N := 2) hx hb hts u6_X3 tyX3 tyX3_ok nmX3 hown hK hP hD hS 0 rfl rfl 1 (by decide) (hts _ (m6 211 rfl)) (fun _ h9 => h9) rfl hname rfl (by decide +kernel) rfl rfl (Nat.le_of_ble_eq_true rfl) dX3_init_16 (fun H locs hP hD hS => ?_)
  have hP : va_P D vwCl (bw ([[(ho, .inr (3, [.ref sa, .ref ua]))], [(sa, .inl (cL, 2, .inr (.inr (.inr (.inr (fun _ => none))))))], [(ua, .inl (cZ, 2, .inl (fun _ => 0)))]] ++ zLs cI (fun _ _ => 0) (fun _ => zN0) 0)) H := hP
  have hD : va_D A (bw ([[(ho, .inr (3, [.ref sa, .ref ua]))], [(sa, .inl (cL, 2, .inr (.inr (.inr (.inr (fun _ => none))))))], [(ua, .inl (cZ, 2, .inl (fun _ => 0)))]] ++ zLs cI (fun _ _ => 0) (fun _ => zN0) 0)) := hD
  refine lv_iconst (v := 0) hx hb dX3_init_19 (by decide) ?_
  refine lv_istore_n (lv' := [(1, .int (nI 0)), (0, .ref ho)]) hx hb dX3_init_20 rfl hl (by decide) rfl (fun ls hl => ?_)
  have LP : ∀ n9 : Nat, ∀ (i9 : Nat) (d : Nat → Nat → Nat) (sf : Nat → Option Nat), i9 ≤ 2 → (∀ j, j < i9 → sf j = some (d j 0)) → 2 - i9 < n9 → ∀ (H : Heap) (locs : List Loc), va_P D vwCl (bw ([[(ho, .inr (3, [.ref sa, .ref ua]))], [(sa, .inl (cL, 2, .inr (.inr (.inr (.inr sf)))))], [(ua, .inl (cZ, 2, .inl (fun _ => 0)))]] ++ zLs cI d (fun _ => zN0) i9)) H → va_D A (bw ([[(ho, .inr (3, [.ref sa, .ref ua]))], [(sa, .inl (cL, 2, .inr (.inr (.inr (.inr sf)))))], [(ua, .inl (cZ, 2, .inl (fun _ => 0)))]] ++ zLs cI d (fun _ => zN0) i9)) → va_S A s.heap H locs → ∀ ls : Array Slot, lv_has ls 2 [(1, .int (nI i9)), (0, .ref ho)] → W p l e ({ frames := 4, cells := 24, slots := 438, locals := 88 } : Room) s m ([.ref ho] : List Value).toArray below meth c H locs (2 + 11 * i9) (4 + 217 * i9) (MQ below (va_Qv (fun u9 : va_W => ∃ Us, u9 = bw Us ∧ ∃ sa : Nat, ∃ ua : Nat, ∃ (d : Nat → Nat → Nat) (sf : Nat → Option Nat), Us = [[(ho, .inr (3, [.ref sa, .ref ua]))], [(sa, .inl (cL, 2, .inr (.inr (.inr (.inr sf)))))], [(ua, .inl (cZ, 2, .inl (fun _ => 0)))]] ++ zLs cI d (fun _ => zN0) 2 ∧ ∀ j, j < 2 → sf j = some (d j 0)) (fun u t => va_P D vwCl u t.heap ∧ va_D A u) A) ([.ref ho] : List Value).toArray s 24 438 A) (F0 m 21 ls []) := by
    intro n9
    induction n9 with
    | zero => intros; omega
    | succ n9 ih =>
      intro i9 d sf hi hsf hm9 H locs hP hD hS ls hl
      refine lv_iload_n hx hb dX3_init_21 rfl (lv_at hl 0 rfl) ?_
      refine lv_iconst (v := 2) hx hb dX3_init_22 (by decide) ?_
      refine lv_icmp_ge (tgt := 45) hx hb dX3_init_23 (by decide) (fun c1 => ?_) (fun c1 => ?_)
      · have c1 := cn_le (a := 2) (b := i9) (by omega) (by omega) c1
        obtain rfl : i9 = 2 := by omega
        exact gn_ret hX hr hlocks hS hP hD ⟨_, rfl, sa, ua, d, sf, rfl, hsf⟩ (Nat.le_of_ble_eq_true rfl) (Nat.le_of_ble_eq_true rfl) dX3_init_45
      · have c1 := cn_nle (a := 2) (b := i9) (by omega) (by omega) c1
        refine lv_aload_n hx hb dX3_init_26 rfl (lv_at hl 1 rfl) ?_
        refine va_get (D := D) (ci := 3) (v := .ref sa) (C := RX3) (T := TX3) (N := 2) hx hb hts u6_X3 hown hK hP 0 rfl rfl 0 (by decide) (hts _ (m6 209 rfl)) (fun _ h9 => h9) rfl dX3_init_27 ?_
        refine lv_iload_n hx hb dX3_init_30 rfl (lv_at hl 0 rfl) ?_
        refine va_new (ci := 2) (fs := [.null, .null, .int (0), .int (0), .int (0), .int (0), .int (0), .int (0)]) (C := RX2) (T := TX2) (N := 8) hx hb hts u6_X2 tyX2 tyX2_ok hown (hts _ (m6 208 rfl)) (hts _ (m6 88 rfl)) (hts _ (m6 83 rfl)) hK hP hD hS hA rfl (fun j hj => by rcases (show j = 0 ∨ j = 1 ∨ j = 2 ∨ j = 3 ∨ j = 4 ∨ j = 5 ∨ j = 6 ∨ j = 7 by omega) with rfl | rfl | rfl | rfl | rfl | rfl | rfl | rfl <;> rfl) (show 2 + 11 * i9 + 1 ≤ 24 by omega) (show 4 + 217 * i9 + 8 ≤ 438 by omega) dX3_init_31 (fun b H hP hD hS => ?_)
        refine lv_dup hx hb dX3_init_34 rfl ?_
        refine bm_init (Bs := ([[(ho, .inr (3, [.ref sa, .ref ua]))], [(sa, .inl (cL, 2, .inr (.inr (.inr (.inr sf)))))], [(ua, .inl (cZ, 2, .inl (fun _ => 0)))]] ++ zLs cI d (fun _ => zN0) i9)) hX good6 (m6 83 rfl) (fun sz => b2_init l D cI b sz) q2_init (m6 212 rfl) (m6 90 rfl) rfl ⟨Nat.le_of_ble_eq_true rfl, Nat.le_of_ble_eq_true rfl⟩ hK hN [0] rfl hP hD hS hA hl.1 (Nat.le_of_ble_eq_true rfl) dX3_init_35 ⟨show 2 + 11 * i9 + 1 + 10 ≤ 24 by omega, show 4 + 217 * i9 + 8 + 209 ≤ 438 by omega⟩ (fun Us H locs hpost hP hD hS => ?_)
        obtain ⟨d1, hd1, rfl⟩ := hpost
        have hq : (bw (([[(ho, .inr (3, [.ref sa, .ref ua]))], [(sa, .inl (cL, 2, .inr (.inr (.inr (.inr sf)))))], [(ua, .inl (cZ, 2, .inl (fun _ => 0)))]] ++ zLs cI d (fun _ => zN0) i9) ++ [zL cI d1 zN0]))[(bw ([[(ho, .inr (3, [.ref sa, .ref ua]))], [(sa, .inl (cL, 2, .inr (.inr (.inr (.inr sf)))))], [(ua, .inl (cZ, 2, .inl (fun _ => 0)))]] ++ zLs cI d (fun _ => zN0) i9)).length]? = some (b, .inr (2, [.ref (d1 1), .ref (d1 10), .int (bI (true = true)), .int 0, .int 0, .int 20, .int (-9), .int 1])) := by
          rw [bw_app, List.getElem?_append_right (Nat.le_refl _), Nat.sub_self, ← hd1]
          rfl
        refine va_astq hx hb hK hP hD hS 1 1 (bw ([[(ho, .inr (3, [.ref sa, .ref ua]))], [(sa, .inl (cL, 2, .inr (.inr (.inr (.inr sf)))))], [(ua, .inl (cZ, 2, .inl (fun _ => 0)))]] ++ zLs cI d (fun _ => zN0) i9)).length 2 rfl rfl hq rfl (vp_in_nI (show i9 < 2 by omega) (by decide)) dX3_init_38 (fun H locs hP hD hS => ?_)
        rw [nI_clamp (show i9 < 2 ^ 31 by omega)] at hP hD
        refine lv_iinc (v := nI (i9 + 1)) (lv' := [(1, .int (nI (i9 + 1))), (0, .ref ho)]) hx hb dX3_init_39 hl (k := 0) rfl (nI_add _ 1) (by decide) rfl (fun ls hl => ?_)
        refine lv_goto (tgt := 21) hx hb dX3_init_42 (by decide) ?_
        have ez : zLs cI (va_up d i9 d1) (fun _ => zN0) (i9 + 1) = zLs cI d (fun _ => zN0) i9 ++ [zL cI d1 zN0] := by
          rw [zLs, zLs_congr (d2 := d) (z2 := fun _ => zN0) (fun j hj => ⟨va_up_ne _ _ (by omega), rfl⟩), va_up_self]
        have hP : va_P D vwCl (bw ([[(ho, .inr (3, [.ref sa, .ref ua]))], [(sa, .inl (cL, 2, .inr (.inr (.inr (.inr (va_up sf i9 (some b)))))))], [(ua, .inl (cZ, 2, .inl (fun _ => 0)))]] ++ zLs cI (va_up d i9 d1) (fun _ => zN0) (i9 + 1))) H := by rw [ez]; exact hP
        have hD : va_D A (bw ([[(ho, .inr (3, [.ref sa, .ref ua]))], [(sa, .inl (cL, 2, .inr (.inr (.inr (.inr (va_up sf i9 (some b)))))))], [(ua, .inl (cZ, 2, .inl (fun _ => 0)))]] ++ zLs cI (va_up d i9 d1) (fun _ => zN0) (i9 + 1))) := by rw [ez]; exact hD
        have hW := ih (i9 + 1) (va_up d i9 d1) (va_up sf i9 (some b)) (by omega) (fun j hj => ?_) (by omega) _ _ hP hD hS ls hl
        · rw [show 2 + 11 * i9 + 1 + 10 = 2 + 11 * (i9 + 1) by omega, show 4 + 217 * i9 + 8 + 209 = 4 + 217 * (i9 + 1) by omega]
          exact hW
        · by_cases ej : j = i9
          · subst ej
            rw [va_up_self, va_up_self, hd1]
          · rw [va_up_ne _ _ ej, va_up_ne _ _ ej]
            exact hsf j (by omega)
  exact LP (2 + 1) 0 _ _ (by omega) (fun j hj => absurd hj (by omega)) (by omega) _ _ hP hD hS _ hl
set_option maxHeartbeats 4000000 in
set_option maxRecDepth 100000 in
theorem c6_init (l : Launch) (D : va_G) (cI cL cZ : ClassId) (ob sz : Nat) : GM l yX6_init cX6_init 1 W6 5 109 216 4244 D [(ob, .inr (6, [.null, .null, .null, .null, .null, .null]))] [(cI, .int), (cL, (.object "TornPageLog$Log")), (cZ, .boolean)] [.ref ob] sz (fun u9 : va_W => ∃ Us, u9 = bw Us ∧ ∃ (so tx ho sa sl sb ua : Nat) (dh ds : Nat → Nat → Nat) (dg dc dt : Nat → Nat) (sf sg : Nat → Option Nat), Us = ([[(ob, .inr (6, [.ref so, .ref ho, .ref sl, .ref (dg 0), .ref (dc 0), .ref (dt 0)]))], zS cI so tx (fun _ => 0) 0 0 (fun _ => 0)] ++ ([[(ho, .inr (1, [.ref sa, .int 0, .int 0]))], [(sa, .inl (cL, 14, .inr (.inr (.inr (.inr sf)))))]] ++ zLs cI dh (fun _ => zN0) 14) ++ ([[(sl, .inr (3, [.ref sb, .ref ua]))], [(sb, .inl (cL, 2, .inr (.inr (.inr (.inr sg)))))], [(ua, .inl (cZ, 2, .inl (fun _ => 0)))]] ++ zLs cI ds (fun _ => zN0) 2) ++ [zL cI dg zN0, zL cI dc zN0, zL cI dt zN0]) ∧ (∀ j, j < 14 → sf j = some (dh j 0)) ∧ ∀ j, j < 2 → sg j = some (ds j 0)) := by
  refine gm_of RX6 (by decide) rfl (Nat.le_of_ble_eq_true rfl) ?_
  intro p e s m below meth c ls H A hX hr hlocks hname hK hN hP hD hS hA hl
  have hx := hX.1
  have hb := hX.2.1
  have hown := hX.2.2.2.1
  have hts := hX.2.2.2.2
  have hl : lv_has ls 1 [(0, .ref ob)] := hl
  refine lv_aload_n hx hb dX6_init_0 rfl (lv_at hl 0 rfl) ?_
  refine gn_obj hX (m6 247 rfl) (m6 1 rfl) (m6 2 rfl) hl.1 dX6_init_1 (Nat.le_of_ble_eq_true rfl) (Nat.le_of_ble_eq_true rfl) ?_
  refine lv_aload_n hx hb dX6_init_4 rfl (lv_at hl 0 rfl) ?_
  refine va_new (ci := 4) (fs := [.null, .int (0), .int (0), .int (0), .int (0), .int (0), .int (0), .int (0)]) (C := RX4) (T := TX4) (N := 8) hx hb hts u6_X4 tyX4 tyX4_ok hown (hts _ (m6 248 rfl)) (hts _ (m6 249 rfl)) (hts _ (m6 221 rfl)) hK hP hD hS hA rfl (fun j hj => by rcases (show j = 0 ∨ j = 1 ∨ j = 2 ∨ j = 3 ∨ j = 4 ∨ j = 5 ∨ j = 6 ∨ j = 7 by omega) with rfl | rfl | rfl | rfl | rfl | rfl | rfl | rfl <;> rfl) (Nat.le_of_ble_eq_true rfl) (Nat.le_of_ble_eq_true rfl) dX6_init_5 (fun so H hP hD hS => ?_)
  refine lv_dup hx hb dX6_init_8 rfl ?_
  refine gm_initN (wr := [(ob, .inr (6, [.null, .null, .null, .null, .null, .null]))]) hX good6 (m6 221 rfl) (c4_init l D cI so H.size) q4_init hN.2.2.2.1 (m6 263 rfl) rfl ⟨Nat.le_of_ble_eq_true rfl, Nat.le_of_ble_eq_true rfl⟩ hK hN [0] rfl hP hD hS hA rfl [1] [0] (by decide) rfl rfl (by decide) (by decide) hl.1 rfl (Nat.le_of_ble_eq_true rfl) dX6_init_9 ⟨Nat.le_of_ble_eq_true rfl, Nat.le_of_ble_eq_true rfl⟩ (fun u H locs hpost hP hD hS => ?_)
  obtain ⟨tx, rfl⟩ := hpost
  refine va_putF (D := D) (ci := 6) (v := .ref so) (ty := (.object "TornPageLog$Story")) (C := RX6) (T := TX6) (N := 6) hx hb hts u6_X6 tyX6 tyX6_ok nmX6 hown hK hP hD hS 0 rfl rfl 0 (by decide) (hts _ (m6 250 rfl)) (fun _ h9 => h9) rfl hname rfl (by decide +kernel) rfl rfl (Nat.le_of_ble_eq_true rfl) dX6_init_12 (fun H locs hP hD hS => ?_)
  have hP : va_P D vwCl (bw [[(ob, .inr (6, [.ref so, .null, .null, .null, .null, .null]))], zS cI so tx (fun _ => 0) 0 0 (fun _ => 0)]) H := hP
  have hD : va_D A (bw [[(ob, .inr (6, [.ref so, .null, .null, .null, .null, .null]))], zS cI so tx (fun _ => 0) 0 0 (fun _ => 0)]) := hD
  refine lv_aload_n hx hb dX6_init_15 rfl (lv_at hl 0 rfl) ?_
  refine va_new (ci := 1) (fs := [.null, .int (0), .int (0)]) (C := RX1) (T := TX1) (N := 3) hx hb hts u6_X1 tyX1 tyX1_ok hown (hts _ (m6 251 rfl)) (hts _ (m6 252 rfl)) (hts _ (m6 253 rfl)) hK hP hD hS hA rfl (fun j hj => by rcases (show j = 0 ∨ j = 1 ∨ j = 2 by omega) with rfl | rfl | rfl <;> rfl) (Nat.le_of_ble_eq_true rfl) (Nat.le_of_ble_eq_true rfl) dX6_init_16 (fun ho H hP hD hS => ?_)
  refine lv_dup hx hb dX6_init_19 rfl ?_
  refine bm_init (Bs := [[(ob, .inr (6, [.ref so, .null, .null, .null, .null, .null]))], zS cI so tx (fun _ => 0) 0 0 (fun _ => 0)]) hX good6 (m6 253 rfl) (fun sz => c1_init l D cI cL ho sz) q1_init (m6 265 rfl) (m6 266 rfl) rfl ⟨Nat.le_of_ble_eq_true rfl, Nat.le_of_ble_eq_true rfl⟩ hK hN [0, 1] rfl hP hD hS hA hl.1 (Nat.le_of_ble_eq_true rfl) dX6_init_20 ⟨Nat.le_of_ble_eq_true rfl, Nat.le_of_ble_eq_true rfl⟩ (fun Us H locs hpost hP hD hS => ?_)
  obtain ⟨sa, dh, sf, rfl, hsf⟩ := hpost
  refine va_putF (D := D) (ci := 6) (v := .ref ho) (ty := (.object "TornPageLog$History")) (C := RX6) (T := TX6) (N := 6) hx hb hts u6_X6 tyX6 tyX6_ok nmX6 hown hK hP hD hS 0 rfl rfl 1 (by decide) (hts _ (m6 254 rfl)) (fun _ h9 => h9) rfl hname rfl (by decide +kernel) rfl rfl (Nat.le_of_ble_eq_true rfl) dX6_init_23 (fun H locs hP hD hS => ?_)
  have hP : va_P D vwCl (bw ([[(ob, .inr (6, [.ref so, .ref ho, .null, .null, .null, .null]))], zS cI so tx (fun _ => 0) 0 0 (fun _ => 0)] ++ ([[(ho, .inr (1, [.ref sa, .int 0, .int 0]))], [(sa, .inl (cL, 14, .inr (.inr (.inr (.inr sf)))))]] ++ zLs cI dh (fun _ => zN0) 14))) H := hP
  have hD : va_D A (bw ([[(ob, .inr (6, [.ref so, .ref ho, .null, .null, .null, .null]))], zS cI so tx (fun _ => 0) 0 0 (fun _ => 0)] ++ ([[(ho, .inr (1, [.ref sa, .int 0, .int 0]))], [(sa, .inl (cL, 14, .inr (.inr (.inr (.inr sf)))))]] ++ zLs cI dh (fun _ => zN0) 14))) := hD
  refine lv_aload_n hx hb dX6_init_26 rfl (lv_at hl 0 rfl) ?_
  refine va_new (ci := 3) (fs := [.null, .null]) (C := RX3) (T := TX3) (N := 2) hx hb hts u6_X3 tyX3 tyX3_ok hown (hts _ (m6 255 rfl)) (hts _ (m6 256 rfl)) (hts _ (m6 257 rfl)) hK hP hD hS hA rfl (fun j hj => by rcases (show j = 0 ∨ j = 1 by omega) with rfl | rfl <;> rfl) (Nat.le_of_ble_eq_true rfl) (Nat.le_of_ble_eq_true rfl) dX6_init_27 (fun sl H hP hD hS => ?_)
  refine lv_dup hx hb dX6_init_30 rfl ?_
  refine bm_init (Bs := ([[(ob, .inr (6, [.ref so, .ref ho, .null, .null, .null, .null]))], zS cI so tx (fun _ => 0) 0 0 (fun _ => 0)] ++ ([[(ho, .inr (1, [.ref sa, .int 0, .int 0]))], [(sa, .inl (cL, 14, .inr (.inr (.inr (.inr sf)))))]] ++ zLs cI dh (fun _ => zN0) 14))) hX good6 (m6 257 rfl) (fun sz => c3_init l D cI cL cZ sl sz) q3_init (m6 268 rfl) (m6 269 rfl) rfl ⟨Nat.le_of_ble_eq_true rfl, Nat.le_of_ble_eq_true rfl⟩ hK hN [0, 1, 2] rfl hP hD hS hA hl.1 (Nat.le_of_ble_eq_true rfl) dX6_init_31 ⟨Nat.le_of_ble_eq_true rfl, Nat.le_of_ble_eq_true rfl⟩ (fun Us H locs hpost hP hD hS => ?_)
  obtain ⟨sb, ua, ds, sg, rfl, hsg⟩ := hpost
  refine va_putF (D := D) (ci := 6) (v := .ref sl) (ty := (.object "TornPageLog$Slots")) (C := RX6) (T := TX6) (N := 6) hx hb hts u6_X6 tyX6 tyX6_ok nmX6 hown hK hP hD hS 0 rfl rfl 2 (by decide) (hts _ (m6 258 rfl)) (fun _ h9 => h9) rfl hname rfl (by decide +kernel) rfl rfl (Nat.le_of_ble_eq_true rfl) dX6_init_34 (fun H locs hP hD hS => ?_)
  have hP : va_P D vwCl (bw ([[(ob, .inr (6, [.ref so, .ref ho, .ref sl, .null, .null, .null]))], zS cI so tx (fun _ => 0) 0 0 (fun _ => 0)] ++ ([[(ho, .inr (1, [.ref sa, .int 0, .int 0]))], [(sa, .inl (cL, 14, .inr (.inr (.inr (.inr sf)))))]] ++ zLs cI dh (fun _ => zN0) 14) ++ ([[(sl, .inr (3, [.ref sb, .ref ua]))], [(sb, .inl (cL, 2, .inr (.inr (.inr (.inr sg)))))], [(ua, .inl (cZ, 2, .inl (fun _ => 0)))]] ++ zLs cI ds (fun _ => zN0) 2))) H := hP
  have hD : va_D A (bw ([[(ob, .inr (6, [.ref so, .ref ho, .ref sl, .null, .null, .null]))], zS cI so tx (fun _ => 0) 0 0 (fun _ => 0)] ++ ([[(ho, .inr (1, [.ref sa, .int 0, .int 0]))], [(sa, .inl (cL, 14, .inr (.inr (.inr (.inr sf)))))]] ++ zLs cI dh (fun _ => zN0) 14) ++ ([[(sl, .inr (3, [.ref sb, .ref ua]))], [(sb, .inl (cL, 2, .inr (.inr (.inr (.inr sg)))))], [(ua, .inl (cZ, 2, .inl (fun _ => 0)))]] ++ zLs cI ds (fun _ => zN0) 2))) := hD
  refine lv_aload_n hx hb dX6_init_37 rfl (lv_at hl 0 rfl) ?_
  refine va_new (ci := 2) (fs := [.null, .null, .int (0), .int (0), .int (0), .int (0), .int (0), .int (0)]) (C := RX2) (T := TX2) (N := 8) hx hb hts u6_X2 tyX2 tyX2_ok hown (hts _ (m6 259 rfl)) (hts _ (m6 88 rfl)) (hts _ (m6 83 rfl)) hK hP hD hS hA rfl (fun j hj => by rcases (show j = 0 ∨ j = 1 ∨ j = 2 ∨ j = 3 ∨ j = 4 ∨ j = 5 ∨ j = 6 ∨ j = 7 by omega) with rfl | rfl | rfl | rfl | rfl | rfl | rfl | rfl <;> rfl) (Nat.le_of_ble_eq_true rfl) (Nat.le_of_ble_eq_true rfl) dX6_init_38 (fun b0 H hP hD hS => ?_)
  refine lv_dup hx hb dX6_init_41 rfl ?_
  refine bm_init (Bs := ([[(ob, .inr (6, [.ref so, .ref ho, .ref sl, .null, .null, .null]))], zS cI so tx (fun _ => 0) 0 0 (fun _ => 0)] ++ ([[(ho, .inr (1, [.ref sa, .int 0, .int 0]))], [(sa, .inl (cL, 14, .inr (.inr (.inr (.inr sf)))))]] ++ zLs cI dh (fun _ => zN0) 14) ++ ([[(sl, .inr (3, [.ref sb, .ref ua]))], [(sb, .inl (cL, 2, .inr (.inr (.inr (.inr sg)))))], [(ua, .inl (cZ, 2, .inl (fun _ => 0)))]] ++ zLs cI ds (fun _ => zN0) 2))) hX good6 (m6 83 rfl) (fun sz => b2_init l D cI b0 sz) q2_init (m6 271 rfl) (m6 90 rfl) rfl ⟨Nat.le_of_ble_eq_true rfl, Nat.le_of_ble_eq_true rfl⟩ hK hN [0] rfl hP hD hS hA hl.1 (Nat.le_of_ble_eq_true rfl) dX6_init_42 ⟨Nat.le_of_ble_eq_true rfl, Nat.le_of_ble_eq_true rfl⟩ (fun Us H locs hpost hP hD hS => ?_)
  obtain ⟨dg, hd0, rfl⟩ := hpost
  refine va_putF (D := D) (ci := 6) (v := .ref b0) (ty := (.object "TornPageLog$Log")) (C := RX6) (T := TX6) (N := 6) hx hb hts u6_X6 tyX6 tyX6_ok nmX6 hown hK hP hD hS 0 rfl rfl 3 (by decide) (hts _ (m6 260 rfl)) (fun _ h9 => h9) rfl hname rfl (by decide +kernel) rfl rfl (Nat.le_of_ble_eq_true rfl) dX6_init_45 (fun H locs hP hD hS => ?_)
  rw [← hd0] at hP hD
  have hP : va_P D vwCl (bw ([[(ob, .inr (6, [.ref so, .ref ho, .ref sl, .ref (dg 0), .null, .null]))], zS cI so tx (fun _ => 0) 0 0 (fun _ => 0)] ++ ([[(ho, .inr (1, [.ref sa, .int 0, .int 0]))], [(sa, .inl (cL, 14, .inr (.inr (.inr (.inr sf)))))]] ++ zLs cI dh (fun _ => zN0) 14) ++ ([[(sl, .inr (3, [.ref sb, .ref ua]))], [(sb, .inl (cL, 2, .inr (.inr (.inr (.inr sg)))))], [(ua, .inl (cZ, 2, .inl (fun _ => 0)))]] ++ zLs cI ds (fun _ => zN0) 2) ++ [zL cI dg zN0])) H := by
    have h9 := hP
    simpa only [bw, List.flatten_append, List.append_assoc, List.flatten_cons, List.flatten_nil, List.append_nil, List.cons_append, List.nil_append, List.set_cons_zero, List.set_cons_succ] using h9
  have hD : va_D A (bw ([[(ob, .inr (6, [.ref so, .ref ho, .ref sl, .ref (dg 0), .null, .null]))], zS cI so tx (fun _ => 0) 0 0 (fun _ => 0)] ++ ([[(ho, .inr (1, [.ref sa, .int 0, .int 0]))], [(sa, .inl (cL, 14, .inr (.inr (.inr (.inr sf)))))]] ++ zLs cI dh (fun _ => zN0) 14) ++ ([[(sl, .inr (3, [.ref sb, .ref ua]))], [(sb, .inl (cL, 2, .inr (.inr (.inr (.inr sg)))))], [(ua, .inl (cZ, 2, .inl (fun _ => 0)))]] ++ zLs cI ds (fun _ => zN0) 2) ++ [zL cI dg zN0])) := by
    have h9 := hD
    simpa only [bw, List.flatten_append, List.append_assoc, List.flatten_cons, List.flatten_nil, List.append_nil, List.cons_append, List.nil_append, List.set_cons_zero, List.set_cons_succ] using h9
  refine lv_aload_n hx hb dX6_init_48 rfl (lv_at hl 0 rfl) ?_
  refine va_new (ci := 2) (fs := [.null, .null, .int (0), .int (0), .int (0), .int (0), .int (0), .int (0)]) (C := RX2) (T := TX2) (N := 8) hx hb hts u6_X2 tyX2 tyX2_ok hown (hts _ (m6 259 rfl)) (hts _ (m6 88 rfl)) (hts _ (m6 83 rfl)) hK hP hD hS hA rfl (fun j hj => by rcases (show j = 0 ∨ j = 1 ∨ j = 2 ∨ j = 3 ∨ j = 4 ∨ j = 5 ∨ j = 6 ∨ j = 7 by omega) with rfl | rfl | rfl | rfl | rfl | rfl | rfl | rfl <;> rfl) (Nat.le_of_ble_eq_true rfl) (Nat.le_of_ble_eq_true rfl) dX6_init_49 (fun b1 H hP hD hS => ?_)
  refine lv_dup hx hb dX6_init_52 rfl ?_
  refine bm_init (Bs := ([[(ob, .inr (6, [.ref so, .ref ho, .ref sl, .ref (dg 0), .null, .null]))], zS cI so tx (fun _ => 0) 0 0 (fun _ => 0)] ++ ([[(ho, .inr (1, [.ref sa, .int 0, .int 0]))], [(sa, .inl (cL, 14, .inr (.inr (.inr (.inr sf)))))]] ++ zLs cI dh (fun _ => zN0) 14) ++ ([[(sl, .inr (3, [.ref sb, .ref ua]))], [(sb, .inl (cL, 2, .inr (.inr (.inr (.inr sg)))))], [(ua, .inl (cZ, 2, .inl (fun _ => 0)))]] ++ zLs cI ds (fun _ => zN0) 2) ++ [zL cI dg zN0])) hX good6 (m6 83 rfl) (fun sz => b2_init l D cI b1 sz) q2_init (m6 271 rfl) (m6 90 rfl) rfl ⟨Nat.le_of_ble_eq_true rfl, Nat.le_of_ble_eq_true rfl⟩ hK hN [0] rfl hP hD hS hA hl.1 (Nat.le_of_ble_eq_true rfl) dX6_init_53 ⟨Nat.le_of_ble_eq_true rfl, Nat.le_of_ble_eq_true rfl⟩ (fun Us H locs hpost hP hD hS => ?_)
  obtain ⟨dc, hd1, rfl⟩ := hpost
  refine va_putF (D := D) (ci := 6) (v := .ref b1) (ty := (.object "TornPageLog$Log")) (C := RX6) (T := TX6) (N := 6) hx hb hts u6_X6 tyX6 tyX6_ok nmX6 hown hK hP hD hS 0 rfl rfl 4 (by decide) (hts _ (m6 261 rfl)) (fun _ h9 => h9) rfl hname rfl (by decide +kernel) rfl rfl (Nat.le_of_ble_eq_true rfl) dX6_init_56 (fun H locs hP hD hS => ?_)
  rw [← hd1] at hP hD
  have hP : va_P D vwCl (bw ([[(ob, .inr (6, [.ref so, .ref ho, .ref sl, .ref (dg 0), .ref (dc 0), .null]))], zS cI so tx (fun _ => 0) 0 0 (fun _ => 0)] ++ ([[(ho, .inr (1, [.ref sa, .int 0, .int 0]))], [(sa, .inl (cL, 14, .inr (.inr (.inr (.inr sf)))))]] ++ zLs cI dh (fun _ => zN0) 14) ++ ([[(sl, .inr (3, [.ref sb, .ref ua]))], [(sb, .inl (cL, 2, .inr (.inr (.inr (.inr sg)))))], [(ua, .inl (cZ, 2, .inl (fun _ => 0)))]] ++ zLs cI ds (fun _ => zN0) 2) ++ [zL cI dg zN0, zL cI dc zN0])) H := by
    have h9 := hP
    simpa only [bw, List.flatten_append, List.append_assoc, List.flatten_cons, List.flatten_nil, List.append_nil, List.cons_append, List.nil_append, List.set_cons_zero, List.set_cons_succ] using h9
  have hD : va_D A (bw ([[(ob, .inr (6, [.ref so, .ref ho, .ref sl, .ref (dg 0), .ref (dc 0), .null]))], zS cI so tx (fun _ => 0) 0 0 (fun _ => 0)] ++ ([[(ho, .inr (1, [.ref sa, .int 0, .int 0]))], [(sa, .inl (cL, 14, .inr (.inr (.inr (.inr sf)))))]] ++ zLs cI dh (fun _ => zN0) 14) ++ ([[(sl, .inr (3, [.ref sb, .ref ua]))], [(sb, .inl (cL, 2, .inr (.inr (.inr (.inr sg)))))], [(ua, .inl (cZ, 2, .inl (fun _ => 0)))]] ++ zLs cI ds (fun _ => zN0) 2) ++ [zL cI dg zN0, zL cI dc zN0])) := by
    have h9 := hD
    simpa only [bw, List.flatten_append, List.append_assoc, List.flatten_cons, List.flatten_nil, List.append_nil, List.cons_append, List.nil_append, List.set_cons_zero, List.set_cons_succ] using h9
  refine lv_aload_n hx hb dX6_init_59 rfl (lv_at hl 0 rfl) ?_
  refine va_new (ci := 2) (fs := [.null, .null, .int (0), .int (0), .int (0), .int (0), .int (0), .int (0)]) (C := RX2) (T := TX2) (N := 8) hx hb hts u6_X2 tyX2 tyX2_ok hown (hts _ (m6 259 rfl)) (hts _ (m6 88 rfl)) (hts _ (m6 83 rfl)) hK hP hD hS hA rfl (fun j hj => by rcases (show j = 0 ∨ j = 1 ∨ j = 2 ∨ j = 3 ∨ j = 4 ∨ j = 5 ∨ j = 6 ∨ j = 7 by omega) with rfl | rfl | rfl | rfl | rfl | rfl | rfl | rfl <;> rfl) (Nat.le_of_ble_eq_true rfl) (Nat.le_of_ble_eq_true rfl) dX6_init_60 (fun b2 H hP hD hS => ?_)
  refine lv_dup hx hb dX6_init_63 rfl ?_
  refine bm_init (Bs := ([[(ob, .inr (6, [.ref so, .ref ho, .ref sl, .ref (dg 0), .ref (dc 0), .null]))], zS cI so tx (fun _ => 0) 0 0 (fun _ => 0)] ++ ([[(ho, .inr (1, [.ref sa, .int 0, .int 0]))], [(sa, .inl (cL, 14, .inr (.inr (.inr (.inr sf)))))]] ++ zLs cI dh (fun _ => zN0) 14) ++ ([[(sl, .inr (3, [.ref sb, .ref ua]))], [(sb, .inl (cL, 2, .inr (.inr (.inr (.inr sg)))))], [(ua, .inl (cZ, 2, .inl (fun _ => 0)))]] ++ zLs cI ds (fun _ => zN0) 2) ++ [zL cI dg zN0, zL cI dc zN0])) hX good6 (m6 83 rfl) (fun sz => b2_init l D cI b2 sz) q2_init (m6 271 rfl) (m6 90 rfl) rfl ⟨Nat.le_of_ble_eq_true rfl, Nat.le_of_ble_eq_true rfl⟩ hK hN [0] rfl hP hD hS hA hl.1 (Nat.le_of_ble_eq_true rfl) dX6_init_64 ⟨Nat.le_of_ble_eq_true rfl, Nat.le_of_ble_eq_true rfl⟩ (fun Us H locs hpost hP hD hS => ?_)
  obtain ⟨dt, hd2, rfl⟩ := hpost
  refine va_putF (D := D) (ci := 6) (v := .ref b2) (ty := (.object "TornPageLog$Log")) (C := RX6) (T := TX6) (N := 6) hx hb hts u6_X6 tyX6 tyX6_ok nmX6 hown hK hP hD hS 0 rfl rfl 5 (by decide) (hts _ (m6 262 rfl)) (fun _ h9 => h9) rfl hname rfl (by decide +kernel) rfl rfl (Nat.le_of_ble_eq_true rfl) dX6_init_67 (fun H locs hP hD hS => ?_)
  rw [← hd2] at hP hD
  have hP : va_P D vwCl (bw ([[(ob, .inr (6, [.ref so, .ref ho, .ref sl, .ref (dg 0), .ref (dc 0), .ref (dt 0)]))], zS cI so tx (fun _ => 0) 0 0 (fun _ => 0)] ++ ([[(ho, .inr (1, [.ref sa, .int 0, .int 0]))], [(sa, .inl (cL, 14, .inr (.inr (.inr (.inr sf)))))]] ++ zLs cI dh (fun _ => zN0) 14) ++ ([[(sl, .inr (3, [.ref sb, .ref ua]))], [(sb, .inl (cL, 2, .inr (.inr (.inr (.inr sg)))))], [(ua, .inl (cZ, 2, .inl (fun _ => 0)))]] ++ zLs cI ds (fun _ => zN0) 2) ++ [zL cI dg zN0, zL cI dc zN0, zL cI dt zN0])) H := by
    have h9 := hP
    simpa only [bw, List.flatten_append, List.append_assoc, List.flatten_cons, List.flatten_nil, List.append_nil, List.cons_append, List.nil_append, List.set_cons_zero, List.set_cons_succ] using h9
  have hD : va_D A (bw ([[(ob, .inr (6, [.ref so, .ref ho, .ref sl, .ref (dg 0), .ref (dc 0), .ref (dt 0)]))], zS cI so tx (fun _ => 0) 0 0 (fun _ => 0)] ++ ([[(ho, .inr (1, [.ref sa, .int 0, .int 0]))], [(sa, .inl (cL, 14, .inr (.inr (.inr (.inr sf)))))]] ++ zLs cI dh (fun _ => zN0) 14) ++ ([[(sl, .inr (3, [.ref sb, .ref ua]))], [(sb, .inl (cL, 2, .inr (.inr (.inr (.inr sg)))))], [(ua, .inl (cZ, 2, .inl (fun _ => 0)))]] ++ zLs cI ds (fun _ => zN0) 2) ++ [zL cI dg zN0, zL cI dc zN0, zL cI dt zN0])) := by
    have h9 := hD
    simpa only [bw, List.flatten_append, List.append_assoc, List.flatten_cons, List.flatten_nil, List.append_nil, List.cons_append, List.nil_append, List.set_cons_zero, List.set_cons_succ] using h9
  exact gn_ret hX hr hlocks hS hP hD ⟨_, rfl, so, tx, ho, sa, sl, sb, ua, dh, ds, dg, dc, dt, sf, sg, rfl, hsf, hsg⟩ (Nat.le_of_ble_eq_true rfl) (Nat.le_of_ble_eq_true rfl) dX6_init_70
