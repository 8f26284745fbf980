-- WORLDS OF BLOCKS: a world is a list of blocks of cells; a call takes whole blocks
theorem wp_iff {D : va_G} {cl : List vw_C} {ws : va_W} {H : Heap} : va_P D cl ws H ↔ ∀ q ∈ ws, va_at D cl q H :=
  ⟨fun h q hq => by obtain ⟨k, hk⟩ := List.mem_iff_getElem?.mp hq; exact h k q hk, fun h k q hk => h q (List.mem_of_getElem? hk)⟩
theorem wd_iff {A : Nat → Prop} {ws : va_W} : va_D A ws ↔ ws.Pairwise (fun x y => x.1 ≠ y.1) ∧ ∀ q ∈ ws, A q.1 := by
  constructor
  · intro h
    refine ⟨List.pairwise_iff_getElem.mpr fun i j hi hj hij he => ?_, fun q hq => ?_⟩
    · have := h.1 i j _ _ (List.getElem?_eq_getElem hi) (List.getElem?_eq_getElem hj) he
      omega
    · obtain ⟨k, hk⟩ := List.mem_iff_getElem?.mp hq
      exact h.2 k q hk
  · intro h
    refine ⟨fun i j x y hi hj hxy => ?_, fun k q hk => h.2 q (List.mem_of_getElem? hk)⟩
    obtain ⟨hi', ei⟩ := List.getElem?_eq_some_iff.mp hi
    obtain ⟨hj', ej⟩ := List.getElem?_eq_some_iff.mp hj
    rcases Nat.lt_trichotomy i j with g | g | g
    · have := List.pairwise_iff_getElem.mp h.1 i j hi' hj' g
      rw [ei, ej] at this
      exact absurd hxy this
    · exact g
    · have := List.pairwise_iff_getElem.mp h.1 j i hj' hi' g
      rw [ei, ej] at this
      exact absurd hxy.symm this
def bw (Bs : List va_W) : va_W := Bs.flatten
theorem bw_mem {Bs : List va_W} {q : Nat × va_E} : q ∈ bw Bs ↔ ∃ b ∈ Bs, q ∈ b := by
  unfold bw
  exact List.mem_flatten
theorem bw_P {D : va_G} {cl : List vw_C} {Bs : List va_W} {H : Heap} : va_P D cl (bw Bs) H ↔ ∀ b ∈ Bs, ∀ q ∈ b, va_at D cl q H := by
  rw [wp_iff]
  exact ⟨fun h b hb q hq => h q (bw_mem.mpr ⟨b, hb, hq⟩), fun h q hq => by obtain ⟨b, hb, hq⟩ := bw_mem.mp hq; exact h b hb q hq⟩
theorem bw_D {A : Nat → Prop} {Bs : List va_W} : va_D A (bw Bs) ↔ ((∀ b ∈ Bs, b.Pairwise (fun x y => x.1 ≠ y.1)) ∧ Bs.Pairwise (fun b c => ∀ x ∈ b, ∀ y ∈ c, x.1 ≠ y.1)) ∧ ∀ b ∈ Bs, ∀ q ∈ b, A q.1 := by
  rw [wd_iff]
  unfold bw
  rw [List.pairwise_flatten]
  refine and_congr Iff.rfl ⟨fun h b hb q hq => h q (bw_mem.mpr ⟨b, hb, hq⟩), fun h q hq => ?_⟩
  obtain ⟨b, hb, hq⟩ := bw_mem.mp hq
  exact h b hb q hq
/-- blocks i ≠ j have no cell in common -/
theorem bw_apart {A : Nat → Prop} {Bs : List va_W} (h : va_D A (bw Bs)) {i j : Nat} {b c : va_W} (hi : Bs[i]? = some b) (hj : Bs[j]? = some c) (hij : i ≠ j) : ∀ x ∈ b, ∀ y ∈ c, x.1 ≠ y.1 := by
  have hp := (bw_D.mp h).1.2
  obtain ⟨hi', ei⟩ := List.getElem?_eq_some_iff.mp hi
  obtain ⟨hj', ej⟩ := List.getElem?_eq_some_iff.mp hj
  rcases Nat.lt_trichotomy i j with g | g | g
  · have := List.pairwise_iff_getElem.mp hp i j hi' hj' g
    rw [ei, ej] at this
    exact this
  · exact absurd g hij
  · have := List.pairwise_iff_getElem.mp hp j i hj' hi' g
    rw [ei, ej] at this
    exact fun x hx y hy => (this y hy x hx).symm
theorem bC_get {Bs Cs : List va_W} {isC : List Nat} (hC : isC.map (fun i => Bs[i]?) = Cs.map some) {j : Nat} {c : va_W} (h : Cs[j]? = some c) : ∃ i, isC[j]? = some i ∧ Bs[i]? = some c := by
  have h1 : (isC.map (fun i => Bs[i]?))[j]? = some (some c) := by rw [hC, List.getElem?_map, h]; rfl
  rw [List.getElem?_map] at h1
  cases hi : isC[j]? with
  | none => rw [hi] at h1; cases h1
  | some i => rw [hi] at h1; exact ⟨i, rfl, Option.some.inj h1⟩
theorem bC_mem {Bs Cs : List va_W} {isC : List Nat} (hC : isC.map (fun i => Bs[i]?) = Cs.map some) {c : va_W} (h : c ∈ Cs) : c ∈ Bs := by
  obtain ⟨j, hj⟩ := List.mem_iff_getElem?.mp h
  obtain ⟨i, -, hi⟩ := bC_get hC hj
  exact List.mem_of_getElem? hi
theorem bw_subP {D : va_G} {cl : List vw_C} {Bs Cs : List va_W} {H : Heap} (h : va_P D cl (bw Bs) H) (isC : List Nat) (hC : isC.map (fun i => Bs[i]?) = Cs.map some) : va_P D cl (bw Cs) H :=
  bw_P.mpr fun b hb q hq => bw_P.mp h b (bC_mem hC hb) q hq
theorem bw_subD {A : Nat → Prop} {Bs Cs : List va_W} (h : va_D A (bw Bs)) (isC : List Nat) (hn : isC.Nodup) (hC : isC.map (fun i => Bs[i]?) = Cs.map some) : va_D A (bw Cs) := by
  have h0 := bw_D.mp h
  refine bw_D.mpr ⟨⟨fun b hb => h0.1.1 b (bC_mem hC hb), List.pairwise_iff_getElem.mpr fun i j hi hj hij => ?_⟩, fun b hb => h0.2 b (bC_mem hC hb)⟩
  obtain ⟨i2, e1, e2⟩ := bC_get hC (List.getElem?_eq_getElem hi)
  obtain ⟨j2, e3, e4⟩ := bC_get hC (List.getElem?_eq_getElem hj)
  refine bw_apart h e2 e4 (fun z => ?_)
  obtain ⟨g1, g2⟩ := List.getElem?_eq_some_iff.mp e1
  obtain ⟨g3, g4⟩ := List.getElem?_eq_some_iff.mp e3
  have := List.pairwise_iff_getElem.mp hn i j g1 g3 hij
  exact this (g2.trans (z.trans g4.symm))
/-- some blocks put anew -/
def bput (Bs : List va_W) (is : List Nat) (Us : List va_W) : List va_W := (is.zip Us).foldl (fun w q => w.set q.1 q.2) Bs
theorem bput_get : ∀ (is : List Nat) (w1 ws : List va_W), is.length = w1.length → ∀ (k : Nat) (q : va_W), (bput ws is w1)[k]? = some q → (∃ j : Nat, is[j]? = some k ∧ w1[j]? = some q) ∨ (k ∉ is ∧ ws[k]? = some q) := by
  intro is
  induction is with
  | nil => intro w1 ws _ k q h; exact Or.inr ⟨List.not_mem_nil, h⟩
  | cons i is ih =>
    intro w1 ws hlen k q h
    cases w1 with
    | nil => simp at hlen
    | cons x w1 =>
      have h' : (bput (ws.set i x) is w1)[k]? = some q := h
      rcases ih w1 (ws.set i x) (by simpa using hlen) k q h' with ⟨j, h1, h2⟩ | ⟨h1, h2⟩
      · exact Or.inl ⟨j + 1, by simpa using h1, by simpa using h2⟩
      · by_cases hk : i = k
        · subst hk
          refine Or.inl ⟨0, by simp, ?_⟩
          rw [List.getElem?_set] at h2
          simp at h2
          simp [h2.2]
        · rw [List.getElem?_set_ne hk] at h2
          exact Or.inr ⟨by simp [h1, Ne.symm hk], h2⟩
theorem bput_len : ∀ (is : List Nat) (w1 ws : List va_W), (bput ws is w1).length = ws.length := by
  intro is
  induction is with
  | nil => intro w1 ws; rfl
  | cons i is ih =>
    intro w1 ws
    cases w1 with
    | nil => rfl
    | cons x w1 => exact (ih w1 (ws.set i x)).trans (List.length_set)
theorem bw_fst (Bs : List va_W) : (bw Bs).map Prod.fst = (Bs.map (fun b => b.map Prod.fst)).flatten := by
  unfold bw
  exact List.map_flatten
theorem bw_join {A0 : Nat → Prop} {D : va_G} {cl : List vw_C} {Bs Cs Us : List va_W} {H H1 : Heap} (hP : va_P D cl (bw Bs) H) (hD : va_D A0 (bw Bs)) (is : List Nat) (hC : is.map (fun i => Bs[i]?) = Cs.map some) (hadr : Us.map (fun b => b.map Prod.fst) = Cs.map (fun b => b.map Prod.fst))
    (hk : ∀ q : Nat, q < H.size → ¬ gp_A (bw Cs) q → H1[q]? = H[q]?) (hP1 : va_P D cl (bw Us) H1) : va_P D cl (bw (bput Bs is Us)) H1 ∧ va_D A0 (bw (bput Bs is Us)) := by
  have hlen : is.length = Us.length := by
    have h1 := congrArg List.length hC
    have h2 := congrArg List.length hadr
    simp at h1 h2
    omega
  have key : ∀ (k : Nat) (q : va_W), (bput Bs is Us)[k]? = some q → ∃ q0, Bs[k]? = some q0 ∧ q0.map Prod.fst = q.map Prod.fst := by
    intro k q h
    rcases bput_get is Us Bs hlen k q h with ⟨j, h1, h2⟩ | ⟨-, h2⟩
    · have h3 : (Cs.map (fun b => b.map Prod.fst))[j]? = some (q.map Prod.fst) := by rw [← hadr, List.getElem?_map, h2]; rfl
      rw [List.getElem?_map] at h3
      cases hw : Cs[j]? with
      | none => rw [hw] at h3; cases h3
      | some q0 =>
        rw [hw] at h3
        obtain ⟨i, h4, h5⟩ := bC_get hC hw
        rw [h1] at h4
        cases h4
        exact ⟨q0, h5, Option.some.inj h3⟩
    · exact ⟨q, h2, rfl⟩
  have hmap : (bput Bs is Us).map (fun b => b.map Prod.fst) = Bs.map (fun b => b.map Prod.fst) := by
    refine List.ext_getElem (by simp [bput_len]) fun k g1 g2 => ?_
    simp only [List.length_map] at g1 g2
    obtain ⟨q0, h1, h2⟩ := key k _ (List.getElem?_eq_getElem g1)
    rw [List.getElem_map, List.getElem_map, ← h2]
    obtain ⟨_, e⟩ := List.getElem?_eq_some_iff.mp h1
    rw [e]
  refine ⟨bw_P.mpr fun b hb q hq => ?_, gp_D hD (by rw [bw_fst, bw_fst, hmap])⟩
  obtain ⟨k, hkb⟩ := List.mem_iff_getElem?.mp hb
  rcases bput_get is Us Bs hlen k b hkb with ⟨j, h1, h2⟩ | ⟨h1, h2⟩
  · exact bw_P.mp hP1 b (List.mem_of_getElem? h2) q hq
  · have hat := bw_P.mp hP b (List.mem_of_getElem? h2) q hq
    refine hat.kept (hk q.1 hat.lt (fun z => ?_))
    obtain ⟨n, e, hz⟩ := z
    obtain ⟨c, hc, hqc⟩ := bw_mem.mp (List.mem_of_getElem? hz)
    obtain ⟨j, hj⟩ := List.mem_iff_getElem?.mp hc
    obtain ⟨i, h3, h4⟩ := bC_get hC hj
    have hne : k ≠ i := fun z => h1 (z ▸ List.mem_of_getElem? h3)
    exact bw_apart hD h2 h4 hne q hq _ hqc rfl
theorem bw_A {A0 : Nat → Prop} {Bs Cs : List va_W} (hD : va_D A0 (bw Bs)) (is : List Nat) (hC : is.map (fun i => Bs[i]?) = Cs.map some) : ∀ q, gp_A (bw Cs) q → A0 q := by
  intro q h
  obtain ⟨k, e, h⟩ := h
  obtain ⟨c, hc, hqc⟩ := bw_mem.mp (List.mem_of_getElem? h)
  exact (bw_D.mp hD).2 c (bC_mem hC hc) _ hqc
/-- a contract with less asked for and more told -/
theorem met_imp {l : Launch} {y : MethodName} {ws : List Cond} {rm : Room} {Pc Pc' : Array Value → State → Prop} {Qc Qc' : Array Value → State → Outcome → State → Prop} {mc ms : Nat} {free free' : Addr → Prop} (h : Met l y ws rm Pc Qc mc ms free) (hP : ∀ a s, Pc' a s → Pc a s) (hQ : ∀ a st o t, Qc a st o t → Qc' a st o t) (hf : ∀ q, free q → free' q) : Met l y ws rm Pc' Qc' mc ms free' :=
  fun p e h1 h2 h3 s m args below h4 h5 h6 h7 => by
    obtain ⟨n, o, g1, g2, g3, g4, L, g5, g6⟩ := h p e h1 h2 h3 s m args below h4 h5 (hP _ _ h6) h7
    exact ⟨n, o, g1, g2, g3, hQ _ _ _ _ g4, L, g5, fun q hq => hf _ (g6 q hq)⟩
-- contracts over worlds of blocks
def BQi (l : Launch) (y : MethodName) (b : ByteArray) (nL : Nat) (ret : FieldType) (Wd : List Cond) (fr lo : Nat) (D : va_G) (Bs : List va_W) (tys : List (ClassId × FieldType)) (av : List Value) (post : Int32 → List va_W → Prop) : Prop :=
  Met l y (.code y b nL (some ret) :: Wd) ({ frames := fr, cells := 0, slots := 0, locals := lo }) (gq_Pc D (bw Bs) tys av) (va_Qi post (fun u t => va_P D vwCl (bw u) t.heap) (gp_A (bw Bs))) 0 0 (gp_A (bw Bs))
def BQv (l : Launch) (y : MethodName) (b : ByteArray) (nL : Nat) (Wd : List Cond) (fr lo : Nat) (D : va_G) (Bs : List va_W) (tys : List (ClassId × FieldType)) (av : List Value) (post : List va_W → Prop) : Prop :=
  Met l y (.code y b nL none :: Wd) ({ frames := fr, cells := 0, slots := 0, locals := lo }) (gq_Pc D (bw Bs) tys av) (va_Qv post (fun u t => va_P D vwCl (bw u) t.heap) (gp_A (bw Bs))) 0 0 (gp_A (bw Bs))
theorem bq_i {l : Launch} {y : MethodName} {b : ByteArray} {nL : Nat} {ret : FieldType} {Wd : List Cond} {fr lo : Nat} {D : va_G} {ws : va_W} {Bs : List va_W} {tys : List (ClassId × FieldType)} {av : List Value} {p1 : Int32 → va_W → Prop} {post : Int32 → List va_W → Prop} (h : GQi l y b nL ret Wd fr lo D ws tys av p1) (e : bw Bs = ws) (hp : ∀ r u, p1 r u → ∃ Us, bw Us = u ∧ post r Us) : BQi l y b nL ret Wd fr lo D Bs tys av post := by
  subst e
  refine met_imp h (fun _ _ z => z) (fun a st o t z => ?_) (fun _ z => z)
  obtain ⟨⟨r, u, h1, h2, h3⟩, h4⟩ := z
  obtain ⟨Us, e, h5⟩ := hp r u h2
  subst e
  exact ⟨⟨r, Us, h1, h5, h3⟩, h4⟩
theorem bq_v {l : Launch} {y : MethodName} {b : ByteArray} {nL : Nat} {Wd : List Cond} {fr lo : Nat} {D : va_G} {ws : va_W} {Bs : List va_W} {tys : List (ClassId × FieldType)} {av : List Value} {p1 : va_W → Prop} {post : List va_W → Prop} (h : GQv l y b nL Wd fr lo D ws tys av p1) (e : bw Bs = ws) (hp : ∀ u, p1 u → ∃ Us, bw Us = u ∧ post Us) : BQv l y b nL Wd fr lo D Bs tys av post := by
  subst e
  refine met_imp h (fun _ _ z => z) (fun a st o t z => ?_) (fun _ z => z)
  obtain ⟨⟨u, h1, h2, h3⟩, h4⟩ := z
  obtain ⟨Us, e, h5⟩ := hp u h2
  subst e
  exact ⟨⟨Us, h1, h5, h3⟩, h4⟩
/-- a reading method over a larger world -/
theorem rq_more {l : Launch} {y : MethodName} {b : ByteArray} {nL : Nat} {ret : FieldType} {Wd : List Cond} {fr lo : Nat} {D : va_G} {ws wc : va_W} {tys tc : List (ClassId × FieldType)} {av : List Value} {res : Int32} (h : RQ l y b nL ret Wd fr lo D wc tc av res) (isC : List Nat) (hC : isC.filterMap (fun i => ws[i]?) = wc) (isT : List Nat) (hT : isT.filterMap (fun i => tys[i]?) = tc) : RQ l y b nL ret Wd fr lo D ws tys av res :=
  met_imp h (fun _ _ z => ⟨z.1, z.2.1.sub isC hC, z.2.2.1.sub isT hT, z.2.2.2⟩) (fun _ _ _ _ z => z) (fun _ z => z)
section BC
variable {p : Program} {l : Launch} {e : Env} {R : Room} {s : State} {m : MethodId} {args : Array Value} {below : List Frame} {meth : Method} {c : Code} {H : Heap} {locs : List Loc} {cells slots : Nat} {Q : State → Prop} {cc : ByteArray} {pc : Nat} {ls : Array Slot} {rest st0 : List Value} {D : va_G} {A A0 : Nat → Prop} {tys tc : List (ClassId × FieldType)} {Bs Cs : List va_W} {H0 : Heap} {nL nL2 fr lo idx : Nat} {Wd : List Cond} {own C host : String} {y : MethodName} {b2 : ByteArray} {ret : FieldType} {av As : List Value} {res : Int32} {b : Addr} {free : Addr → Prop}
theorem bq_reti {v : Int32} {post : Int32 → List va_W → Prop} {u : List va_W} (hx : CallFix p m c cc nL s args Wd own) (hr : meth.sig.returnType = some .int) (hlocks : meth.locks = false) (hS : va_S A s.heap H locs) (hP : va_P D vwCl (bw u) H) (hpost : post v u) (hdg : decode cc pc = .ok (.ireturn, 1)) : W p l e R s m args below meth c H locs cells slots (MQ below (va_Qi post (fun u t => va_P D vwCl (bw u) t.heap) A) args s cells slots A) (F0 m pc ls [.int v]) :=
  W.iret hx.1 hx.2.1 hr (fun t ht _ => ⟨⟨v, u, rfl, hpost, by show va_P D vwCl (bw u) t.heap; rw [ht]; exact hP⟩, hS.F ht⟩) hS.2.2 hdg
theorem bq_retz {v : Int32} {post : Int32 → List va_W → Prop} {u : List va_W} (hx : CallFix p m c cc nL s args Wd own) (hr : meth.sig.returnType = some .boolean) (hlocks : meth.locks = false) (hS : va_S A s.heap H locs) (hP : va_P D vwCl (bw u) H) {P : Prop} [Decidable P] (hv : v = bI P) (hpost : post v u) (hdg : decode cc pc = .ok (.ireturn, 1)) : W p l e R s m args below meth c H locs cells slots (MQ below (va_Qi post (fun u t => va_P D vwCl (bw u) t.heap) A) args s cells slots A) (F0 m pc ls [.int v]) :=
  W.zret hx.1 hx.2.1 hr (by rw [hv]; exact bI_nar) (fun t ht _ => ⟨⟨v, u, rfl, hpost, by show va_P D vwCl (bw u) t.heap; rw [ht]; exact hP⟩, hS.F ht⟩) hS.2.2 hdg
theorem bq_retv {post : List va_W → Prop} {u : List va_W} (hx : CallFix p m c cc nL s args Wd own) (hr : meth.sig.returnType = none) (hlocks : meth.locks = false) (hS : va_S A s.heap H locs) (hP : va_P D vwCl (bw u) H) (hpost : post u) (hdg : decode cc pc = .ok (.return_, 1)) : W p l e R s m args below meth c H locs cells slots (MQ below (va_Qv post (fun u t => va_P D vwCl (bw u) t.heap) A) args s cells slots A) (F0 m pc ls []) :=
  W.vret hx.1 hx.2.1 hr (fun t ht _ => ⟨⟨u, rfl, hpost, by show va_P D vwCl (bw u) t.heap; rw [ht]; exact hP⟩, hS.F ht⟩) hS.2.2 hdg
/-- a static method's call over whole blocks -/
theorem bq_runS {ret : Option FieldType} {Qc : Array Value → State → Outcome → State → Prop} (hX : CallFix p m c cc nL s args Wd own) (hG : GoodIn Wd Wd) (hi : Cond.initialized own ∈ Wd) (hM : Met l y (.code y b2 nL2 ret :: Wd) ({ frames := fr, cells := 0, slots := 0, locals := lo }) (gq_Pc D (bw Cs) tc av) Qc 0 0 free) (hq : CQ Wd y b2 nL2 ret av.length) (hyo : y.cls = own) (hl : Cond.methodLink own idx y ∈ Wd) (hs : Cond.static y ∈ Wd) (hR : fr + 1 ≤ R.frames ∧ 8 + (nL2 + 11) + lo ≤ R.locals)
    (hK : va_K D vwCl tys s) (hN : NW s) (isT : List Nat) (hT : isT.filterMap (fun i => tys[i]?) = tc) (hP : va_P D vwCl (bw Bs) H) (hD : va_D A0 (bw Bs)) (isC : List Nat) (hn : isC.Nodup) (hC : isC.map (fun i => Bs[i]?) = Cs.map some) (hls : ls.size = nL) (hstk : st0 = av.reverse ++ rest) (hW : (rest.map fun v => v.category).sum ≤ 8) (hdg : decode cc pc = .ok (.invokestatic idx, 3)) (hcs : cells ≤ R.cells ∧ slots ≤ R.slots) :
    va_Run p l e R s m args below meth c H locs cells slots 0 0 (F0 m pc ls st0) rest (Qc av.toArray) free := by
  have hPc := bw_subP hP isC hC
  have hKc := hK.sub isT hT
  have hDc := gp_self (bw_subD hD isC hn hC)
  exact va_runS (As := av) (rest := rest) hX hM (cwS av.length hX.2.2.2.2 (gd_S hG hi hl hs hq) rfl rfl rfl ⟨hyo, hq.2⟩ hR) ⟨gq_blind, fun U hU hW => ⟨rfl, by rw [hU]; exact hPc, va_K.moved hW.alike hKc, hDc, NW_warm hW hN⟩⟩ rfl rfl hls hstk (lv_room hW) hdg hcs
/-- an object's method's call over whole blocks; the receiver is a cell of block k0 -/
theorem bq_runV {ret : Option FieldType} {Qc : Array Value → State → Outcome → State → Prop} (hX : CallFix p m c cc nL s args Wd own) (hG : GoodIn Wd Wd) (hi : Cond.initialized C ∈ Wd) (hM : Met l y (.code y b2 nL2 ret :: Wd) ({ frames := fr, cells := 0, slots := 0, locals := lo }) (gq_Pc D (bw Cs) tc (.ref b :: As)) Qc 0 0 free) (hq : CQ Wd y b2 nL2 ret As.length) (hyo : y.cls = C) (hl : Cond.methodLink own idx y ∈ Wd) (hs : Cond.instanceMethod y ∈ Wd) (hsel : Cond.selects C y y ∈ Wd) (hR : fr + 1 ≤ R.frames ∧ 8 + (nL2 + 11) + lo ≤ R.locals)
    (hK : va_K D vwCl tys s) (hN : NW s) (isT : List Nat) (hT : isT.filterMap (fun i => tys[i]?) = tc) (hP : va_P D vwCl (bw Bs) H) (hD : va_D A0 (bw Bs)) (isC : List Nat) (hn : isC.Nodup) (hC : isC.map (fun i => Bs[i]?) = Cs.map some) {ci q0 : Nat} {qc : vw_C} {fs : List Value} (hc : vwCl[ci]? = some qc) (hcC : qc.1 = C) (hrc : (bw Cs)[q0]? = some (b, .inr (ci, fs))) (hls : ls.size = nL) (hstk : st0 = As.reverse ++ .ref b :: rest) (hW : (rest.map fun v => v.category).sum ≤ 8) (hdg : decode cc pc = .ok (.invokevirtual idx, 3)) (hcs : cells ≤ R.cells ∧ slots ≤ R.slots) :
    va_Run p l e R s m args below meth c H locs cells slots 0 0 (F0 m pc ls st0) rest (Qc (Value.ref b :: As).toArray) free := by
  have hPc := bw_subP hP isC hC
  have hKc := hK.sub isT hT
  have hDc := gp_self (bw_subD hD isC hn hC)
  subst hcC
  exact va_runV (As := As) (rest := rest) (b := b) (C := qc.1) hX hM (cwV As.length hX.2.2.2.2 (gd_V hG hi hl hs hsel hq) rfl rfl rfl ⟨hyo, hq.2⟩ hR) ⟨gq_blind, va_recv hKc hPc hc hrc, fun U hU hW => ⟨rfl, by rw [hU]; exact hPc, va_K.moved hW.alike hKc, hDc, NW_warm hW hN⟩⟩ rfl rfl hls hstk (lv_room hW) hdg hcs
theorem bq_backi {post : Int32 → List va_W → Prop} {as : Array Value} (hr : va_Run p l e R s m args below meth c H locs cells slots 0 0 (F0 m pc ls st0) rest (va_Qi post (fun u t => va_P D vwCl (bw u) t.heap) (gp_A (bw Cs)) as) (gp_A (bw Cs))) (hP : va_P D vwCl (bw Bs) H) (hD : va_D A0 (bw Bs)) (hS : va_S A0 H0 H locs) (isC : List Nat) (hC : isC.map (fun i => Bs[i]?) = Cs.map some) (hadr : ∀ r u, post r u → u.map (fun b => b.map Prod.fst) = Cs.map (fun b => b.map Prod.fst))
    (kk : ∀ (r : Int32) (u : List va_W) (H1 : Heap) (locs1 : List Loc), post r u → va_P D vwCl (bw (bput Bs isC u)) H1 → va_D A0 (bw (bput Bs isC u)) → va_S A0 H0 H1 locs1 → W p l e R s m args below meth c H1 locs1 cells slots Q (F0 m (pc + 3) ls (.int r :: rest))) : W p l e R s m args below meth c H locs cells slots Q (F0 m pc ls st0) := by
  have hF := bw_A hD isC hC
  refine va_calli hr hS (fun q _ h => hF q h) hF (fun r u t H1 locs1 ht hvm hp hB hz hk hS1 => ?_)
  rw [ht] at hB
  obtain ⟨h1, h2⟩ := bw_join hP hD isC hC (hadr r u hp) hk hB
  exact kk r u H1 locs1 hp h1 h2 hS1
theorem bq_backv {post : List va_W → Prop} {as : Array Value} (hr : va_Run p l e R s m args below meth c H locs cells slots 0 0 (F0 m pc ls st0) rest (va_Qv post (fun u t => va_P D vwCl (bw u) t.heap) (gp_A (bw Cs)) as) (gp_A (bw Cs))) (hP : va_P D vwCl (bw Bs) H) (hD : va_D A0 (bw Bs)) (hS : va_S A0 H0 H locs) (isC : List Nat) (hC : isC.map (fun i => Bs[i]?) = Cs.map some) (hadr : ∀ u, post u → u.map (fun b => b.map Prod.fst) = Cs.map (fun b => b.map Prod.fst))
    (kk : ∀ (u : List va_W) (H1 : Heap) (locs1 : List Loc), post u → va_P D vwCl (bw (bput Bs isC u)) H1 → va_D A0 (bw (bput Bs isC u)) → va_S A0 H0 H1 locs1 → W p l e R s m args below meth c H1 locs1 cells slots Q (F0 m (pc + 3) ls rest)) : W p l e R s m args below meth c H locs cells slots Q (F0 m pc ls st0) := by
  have hF := bw_A hD isC hC
  refine va_callv hr hS (fun q _ h => hF q h) hF (fun u t H1 locs1 ht hvm hp hB hz hk hS1 => ?_)
  rw [ht] at hB
  obtain ⟨h1, h2⟩ := bw_join hP hD isC hC (hadr u hp) hk hB
  exact kk u H1 locs1 hp h1 h2 hS1
/-- a reading method's call over whole blocks -/
theorem bq_readV (hX : CallFix p m c cc nL s args Wd own) (hG : GoodIn Wd Wd) (hi : Cond.initialized C ∈ Wd) (hM : RQ l y b2 nL2 ret Wd fr lo D (bw Cs) tc (.ref b :: As) res) (hq : CQ Wd y b2 nL2 (some ret) As.length) (hyo : y.cls = C) (hl : Cond.methodLink own idx y ∈ Wd) (hs : Cond.instanceMethod y ∈ Wd) (hsel : Cond.selects C y y ∈ Wd) (hR : fr + 1 ≤ R.frames ∧ 8 + (nL2 + 11) + lo ≤ R.locals)
    (hK : va_K D vwCl tys s) (hN : NW s) (isT : List Nat) (hT : isT.filterMap (fun i => tys[i]?) = tc) (hP : va_P D vwCl (bw Bs) H) (isC : List Nat) (hC : isC.map (fun i => Bs[i]?) = Cs.map some) {ci q0 : Nat} {qc : vw_C} {fs : List Value} (hc : vwCl[ci]? = some qc) (hcC : qc.1 = C) (hrc : (bw Cs)[q0]? = some (b, .inr (ci, fs))) (hS : va_S A0 H0 H locs) (hls : ls.size = nL) (hstk : st0 = As.reverse ++ .ref b :: rest) (hW : (rest.map fun v => v.category).sum ≤ 8) (hdg : decode cc pc = .ok (.invokevirtual idx, 3)) (hcs : cells ≤ R.cells ∧ slots ≤ R.slots)
    (kk : ∀ (H1 : Heap) (locs1 : List Loc), va_P D vwCl (bw Bs) H1 → va_S A0 H0 H1 locs1 → W p l e R s m args below meth c H1 locs1 cells slots Q (F0 m (pc + 3) ls (.int res :: rest))) : W p l e R s m args below meth c H locs cells slots Q (F0 m pc ls st0) := by
  have hPc := bw_subP hP isC hC
  have hKc := hK.sub isT hT
  subst hcC
  refine rp_back (as := (Value.ref b :: As).toArray) (va_runV (As := As) (rest := rest) (b := b) (C := qc.1) hX hM (cwV As.length hX.2.2.2.2 (gd_V hG hi hl hs hsel hq) rfl rfl rfl ⟨hyo, hq.2⟩ hR) ⟨rq_blind, va_recv hKc hPc hc hrc, fun U hU hW => ⟨rfl, by rw [hU]; exact hPc, va_K.moved hW.alike hKc, NW_warm hW hN⟩⟩ rfl rfl hls hstk (lv_room hW) hdg hcs) hP hS kk
theorem bq_readS (hX : CallFix p m c cc nL s args Wd own) (hG : GoodIn Wd Wd) (hi : Cond.initialized own ∈ Wd) (hM : RQ l y b2 nL2 ret Wd fr lo D (bw Cs) tc av res) (hq : CQ Wd y b2 nL2 (some ret) av.length) (hyo : y.cls = own) (hl : Cond.methodLink own idx y ∈ Wd) (hs : Cond.static y ∈ Wd) (hR : fr + 1 ≤ R.frames ∧ 8 + (nL2 + 11) + lo ≤ R.locals)
    (hK : va_K D vwCl tys s) (hN : NW s) (isT : List Nat) (hT : isT.filterMap (fun i => tys[i]?) = tc) (hP : va_P D vwCl (bw Bs) H) (isC : List Nat) (hC : isC.map (fun i => Bs[i]?) = Cs.map some) (hS : va_S A0 H0 H locs) (hls : ls.size = nL) (hstk : st0 = av.reverse ++ rest) (hW : (rest.map fun v => v.category).sum ≤ 8) (hdg : decode cc pc = .ok (.invokestatic idx, 3)) (hcs : cells ≤ R.cells ∧ slots ≤ R.slots)
    (kk : ∀ (H1 : Heap) (locs1 : List Loc), va_P D vwCl (bw Bs) H1 → va_S A0 H0 H1 locs1 → W p l e R s m args below meth c H1 locs1 cells slots Q (F0 m (pc + 3) ls (.int res :: rest))) : W p l e R s m args below meth c H locs cells slots Q (F0 m pc ls st0) := by
  have hPc := bw_subP hP isC hC
  have hKc := hK.sub isT hT
  refine rp_back (as := av.toArray) (va_runS (As := av) (rest := rest) hX hM (cwS av.length hX.2.2.2.2 (gd_S hG hi hl hs hq) rfl rfl rfl ⟨hyo, hq.2⟩ hR) ⟨rq_blind, fun U hU hW => ⟨rfl, by rw [hU]; exact hPc, va_K.moved hW.alike hKc, NW_warm hW hN⟩⟩ rfl rfl hls hstk (lv_room hW) hdg hcs) hP hS kk
end BC
