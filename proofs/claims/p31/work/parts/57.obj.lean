-- AN OBJECT AS ONE VALUE: text and its length, the Log, the remembered Logs (the newest first), the save slots
abbrev AS := ((Nat → Int32) × Nat) × (LgS × (List LgS × (Nat → Option LgS)))
/-- where its cells lie -/
abbrev Geo := (Nat → Nat) × ((Nat → Nat → Nat) × ((Nat → Option Nat) × (Nat → Option Nat)))
def GeoOk (G : Geo) : Prop := (∀ j, j < 14 → G.2.2.1 j = some (G.2.1 j 0)) ∧ ∀ j, j < 2 → G.2.2.2 j = some (G.2.1 (14 + j) 0)
def hiL (nx ct : Nat) (zz : Nat → LgS) : List LgS := (List.range ct).map (fun j => zz ((nx + 13 - j) % 14))
abbrev TY (cI cL cZ : ClassId) : List (ClassId × FieldType) := [(cI, .int), (cL, (.object "TornPageLog$Log")), (cZ, .boolean)]
def obC (a : AS) (q nx ct : Nat) (uf : Nat → Int32) (zz : Nat → LgS) : Prop := (q ≤ 90 ∧ nx < 14 ∧ ct ≤ 14 ∧ ∀ j, (zz j).1.2 ≤ 8) ∧ zz 16 = a.2.1 ∧ hiL nx ct zz = a.2.2.1 ∧ ∀ k, k < 2 → a.2.2.2 k = if uf k = 0 then none else some (zz (14 + k))
def OB (cI cL cZ : ClassId) (G : Geo) (a : AS) (w : va_W) : Prop := ∃ (q : Nat) (vv : Nat → Int32) (nx ct : Nat) (uf : Nat → Int32) (zz : Nat → LgS), w = bw (pwB cI cL cZ G.1 G.2.1 G.2.2.1 G.2.2.2 a.1.1 a.1.2 q vv nx ct uf zz) ∧ obC a q nx ct uf zz
theorem zLs_fst {cI : ClassId} {dl : Nat → Nat → Nat} {z z2 : Nat → LgS} : ∀ n, (zLs cI dl z n).map (fun b => b.map Prod.fst) = (zLs cI dl z2 n).map (fun b => b.map Prod.fst)
  | 0 => rfl
  | n + 1 => by rw [zLs, zLs, List.map_append, List.map_append, zLs_fst n]; rfl
theorem OB_adr {cI cL cZ : ClassId} {G : Geo} {a b : AS} {w u : va_W} (h : OB cI cL cZ G a w) (k : OB cI cL cZ G b u) : u.map Prod.fst = w.map Prod.fst := by
  obtain ⟨q, vv, nx, ct, uf, zz, rfl, -⟩ := h
  obtain ⟨q2, vv2, nx2, ct2, uf2, zz2, rfl, -⟩ := k
  rw [bw_fst, bw_fst]
  unfold pwB cwB
  rw [List.map_append, List.map_append, zLs_fst (z := zz) (z2 := zz2) 19]
  rfl
theorem bw_one (w : va_W) : bw [w] = w := by simp [bw]
/-- some objects, each with its value -/
def OBs (cI cL cZ : ClassId) (Gs : Nat → Geo) (as : List AS) (Bs : List va_W) : Prop := Bs.length = as.length ∧ ∀ (i : Nat) (a : AS) (w : va_W), as[i]? = some a → Bs[i]? = some w → OB cI cL cZ (Gs i) a w
theorem OBs_one {cI cL cZ : ClassId} {Gs : Nat → Geo} {a : AS} {w : va_W} (h : OB cI cL cZ (Gs 0) a w) : OBs cI cL cZ Gs [a] [w] := ⟨rfl, fun i a2 w2 h1 h2 => by
  cases i with
  | zero => cases h1; cases h2; exact h
  | succ i => cases h1⟩
theorem OBs_out {cI cL cZ : ClassId} {Gs : Nat → Geo} {a : AS} {Bs : List va_W} (h : OBs cI cL cZ Gs [a] Bs) : ∃ w, Bs = [w] ∧ OB cI cL cZ (Gs 0) a w := by
  obtain ⟨h1, h2⟩ := h
  match Bs, h1 with
  | [w], _ => exact ⟨w, rfl, h2 0 a w rfl rfl⟩
theorem OBs_adr {cI cL cZ : ClassId} {Gs : Nat → Geo} {as bs : List AS} {Bs Us : List va_W} (hl : as.length = bs.length) (h : OBs cI cL cZ Gs as Bs) (k : OBs cI cL cZ Gs bs Us) : Us.map (fun b => b.map Prod.fst) = Bs.map (fun b => b.map Prod.fst) := by
  have e : Us.length = Bs.length := by rw [h.1, k.1, hl]
  refine List.ext_getElem (by simpa using e) fun i h1 h2 => ?_
  simp only [List.length_map] at h1 h2
  rw [List.getElem_map, List.getElem_map]
  have ha : i < as.length := by rw [← h.1]; exact h2
  have hb : i < bs.length := by rw [← hl]; exact ha
  exact OB_adr (h.2 i _ _ (List.getElem?_eq_getElem ha) (List.getElem?_eq_getElem h2)) (k.2 i _ _ (List.getElem?_eq_getElem hb) (List.getElem?_eq_getElem h1))
/-- some values put anew -/
def lput {α : Type} (as : List α) (is : List Nat) (us : List α) : List α := (is.zip us).foldl (fun w q => w.set q.1 q.2) as
theorem lput_len {α : Type} : ∀ (is : List Nat) (us as : List α), (lput as is us).length = as.length := by
  intro is
  induction is with
  | nil => intro us as; rfl
  | cons i is ih =>
    intro us as
    cases us with
    | nil => rfl
    | cons x us => exact (ih us (as.set i x)).trans (List.length_set)
theorem lput_get {α : Type} : ∀ (is : List Nat) (us as : List α), is.Nodup → (∀ i ∈ is, i < as.length) → is.length = us.length → (∀ (j i : Nat), is[j]? = some i → (lput as is us)[i]? = us[j]?) ∧ ∀ i, i ∉ is → (lput as is us)[i]? = as[i]? := by
  intro is
  induction is with
  | nil => intro us as _ _ _; exact ⟨fun j i h => by simp at h, fun i _ => rfl⟩
  | cons i0 is ih =>
    intro us as hn hlt hl
    cases us with
    | nil => simp at hl
    | cons x us =>
      have hn' := List.nodup_cons.mp hn
      obtain ⟨h1, h2⟩ := ih us (as.set i0 x) hn'.2 (fun i hi => by rw [List.length_set]; exact hlt i (List.mem_cons_of_mem _ hi)) (by simpa using hl)
      refine ⟨fun j i h => ?_, fun i hi => ?_⟩
      · cases j with
        | zero =>
          simp at h
          subst h
          show (lput (as.set i0 x) is us)[i0]? = some x
          rw [h2 i0 hn'.1, List.getElem?_set_self (hlt i0 List.mem_cons_self)]
        | succ j =>
          show (lput (as.set i0 x) is us)[i]? = us[j]?
          exact h1 j i (by simpa using h)
      · show (lput (as.set i0 x) is us)[i]? = as[i]?
        rw [h2 i (fun z => hi (List.mem_cons_of_mem _ z)), List.getElem?_set_ne (fun z : i0 = i => hi (by simp [z]))]
theorem bput_lput (Bs : List va_W) (is : List Nat) (Us : List va_W) : bput Bs is Us = lput Bs is Us := rfl
/-- the objects that a call takes -/
theorem OBs_sub {cI cL cZ : ClassId} {Gs Gc : Nat → Geo} {as cs : List AS} {Bs : List va_W} (h : OBs cI cL cZ Gs as Bs) (is : List Nat) (hI : is.map (fun i => as[i]?) = cs.map some) (hG : ∀ (j i : Nat), is[j]? = some i → Gc j = Gs i) : ∃ Cs, is.map (fun i => Bs[i]?) = Cs.map some ∧ OBs cI cL cZ Gc cs Cs := by
  have hin : ∀ i ∈ is, ∃ w, Bs[i]? = some w := fun i hi => by
    have h1 : as[i]? ∈ cs.map some := by rw [← hI]; exact List.mem_map_of_mem hi
    obtain ⟨a, -, e⟩ := List.mem_map.mp h1
    have h2 : i < as.length := (List.getElem?_eq_some_iff.mp e.symm).1
    exact ⟨_, List.getElem?_eq_getElem (by rw [h.1]; exact h2)⟩
  refine ⟨is.map (fun i => Bs[i]?.getD []), ?_, ?_, fun j a w h1 h2 => ?_⟩
  · rw [List.map_map]
    refine List.map_congr_left fun i hi => ?_
    obtain ⟨w, e⟩ := hin i hi
    simp [e]
  · have := congrArg List.length hI
    simpa using this
  · rw [List.getElem?_map] at h2
    cases hj : is[j]? with
    | none => rw [hj] at h2; cases h2
    | some i =>
      rw [hj] at h2
      obtain ⟨w2, e⟩ := hin i (List.mem_of_getElem? hj)
      simp [e] at h2
      subst h2
      have h3 : (is.map (fun i => as[i]?))[j]? = some as[i]? := by rw [List.getElem?_map, hj]; rfl
      rw [hI, List.getElem?_map, h1] at h3
      rw [hG j i hj]
      exact h.2 i a w2 (Option.some.inj h3).symm e
theorem OBs_put {cI cL cZ : ClassId} {Gs Gc : Nat → Geo} {as cs us : List AS} {Bs Us : List va_W} (h : OBs cI cL cZ Gs as Bs) (is : List Nat) (hn : is.Nodup) (hI : is.map (fun i => as[i]?) = cs.map some) (hG : ∀ (j i : Nat), is[j]? = some i → Gc j = Gs i) (hl : us.length = cs.length) (k : OBs cI cL cZ Gc us Us) : OBs cI cL cZ Gs (lput as is us) (bput Bs is Us) := by
  have hlt : ∀ i ∈ is, i < as.length := fun i hi => by
    have h1 : as[i]? ∈ cs.map some := by rw [← hI]; exact List.mem_map_of_mem hi
    obtain ⟨a, -, e⟩ := List.mem_map.mp h1
    exact (List.getElem?_eq_some_iff.mp e.symm).1
  have hlen : is.length = cs.length := by simpa using congrArg List.length hI
  have g1 := lput_get is us as hn hlt (hlen.trans hl.symm)
  have g2 := lput_get is Us Bs hn (fun i hi => by rw [h.1]; exact hlt i hi) (by rw [hlen, ← hl, k.1])
  refine ⟨by rw [bput_lput, lput_len, lput_len, h.1], fun i a w h1 h2 => ?_⟩
  by_cases hi : i ∈ is
  · obtain ⟨j, hj⟩ := List.mem_iff_getElem?.mp hi
    rw [g1.1 j i hj] at h1
    rw [bput_lput, g2.1 j i hj] at h2
    rw [← hG j i hj]
    exact k.2 j a w h1 h2
  · rw [g1.2 i hi] at h1
    rw [bput_lput, g2.2 i hi] at h2
    exact h.2 i a w h1 h2
-- what a method of the law has throughout, and its world
def LF (p : Program) (m : MethodId) (c : Code) (b : ByteArray) (nL : Nat) (s : State) (args : Array Value) (D : va_G) (cI cL cZ : ClassId) (A : Nat → Prop) : Prop := CallFix p m c b nL s args WLA RL ∧ va_K D vwCl (TY cI cL cZ) s ∧ NW s ∧ EW s ∧ SW s ∧ ZW A s ∧ CN s
def LO (D : va_G) (cI cL cZ : ClassId) (A : Nat → Prop) (s : State) (Gs : Nat → Geo) (as : List AS) (H : Heap) (locs : List Loc) : Prop := ∃ Bs, OBs cI cL cZ Gs as Bs ∧ va_P D vwCl (bw Bs) H ∧ va_D A (bw Bs) ∧ va_S A s.heap H locs
def lqL (D : va_G) (cI cL cZ : ClassId) (Gs : Nat → Geo) (res : Int64) (us : List AS) (A : Nat → Prop) : Array Value → State → Outcome → State → Prop := va_Ql (fun (r : Int64) (U : List va_W) => r = res ∧ OBs cI cL cZ Gs us U) (fun U t => va_P D vwCl (bw U) t.heap) A
def lqI (D : va_G) (cI cL cZ : ClassId) (Gs : Nat → Geo) (res : Int32) (us : List AS) (A : Nat → Prop) : Array Value → State → Outcome → State → Prop := va_Qi (fun (r : Int32) (U : List va_W) => r = res ∧ OBs cI cL cZ Gs us U) (fun U t => va_P D vwCl (bw U) t.heap) A
/-- a wrapper: one call of the class, what it throws is a number -/
def LX (l : Launch) (y : MethodName) (b : ByteArray) (nL : Nat) (hh : List (Nat × Nat × Nat × Nat)) (fr lo : Nat) (D : va_G) (cI cL cZ : ClassId) (Gs : Nat → Geo) (as : List AS) (av : List Value) (res : Int64) (us : List AS) : Prop :=
  ∀ Bs, OBs cI cL cZ Gs as Bs → vx_Met l y (.codeWith y b nL (some .long) hh :: WLA) ({ frames := fr, cells := 1, slots := 6, locals := lo }) (gl_Pc D (bw Bs) (TY cI cL cZ) av) (lqL D cI cL cZ Gs res us (gp_A (bw Bs))) (fun _ _ _ => False) 1 6 (gp_A (bw Bs))
/-- a method of the law that answers a long -/
def LJ (l : Launch) (y : MethodName) (b : ByteArray) (nL fr lo mc ms : Nat) (D : va_G) (cI cL cZ : ClassId) (Gs : Nat → Geo) (as : List AS) (av : List Value) (res : Int64) (us : List AS) : Prop :=
  ∀ Bs, OBs cI cL cZ Gs as Bs → Met l y (.code y b nL (some .long) :: WLA) ({ frames := fr, cells := mc, slots := ms, locals := lo }) (gl_Pc D (bw Bs) (TY cI cL cZ) av) (lqL D cI cL cZ Gs res us (gp_A (bw Bs))) mc ms (gp_A (bw Bs))
/-- a method of the law that answers yes or no -/
def LZ (l : Launch) (y : MethodName) (b : ByteArray) (nL fr lo mc ms : Nat) (D : va_G) (cI cL cZ : ClassId) (Gs : Nat → Geo) (as : List AS) (av : List Value) (res : Int32) (us : List AS) : Prop :=
  ∀ Bs, OBs cI cL cZ Gs as Bs → Met l y (.code y b nL (some .boolean) :: WLA) ({ frames := fr, cells := mc, slots := ms, locals := lo }) (gl_Pc D (bw Bs) (TY cI cL cZ) av) (lqI D cI cL cZ Gs res us (gp_A (bw Bs))) mc ms (gp_A (bw Bs))
/-- a method of the class that throws nothing -/
def LV (l : Launch) (y : MethodName) (b : ByteArray) (nL fr lo : Nat) (D : va_G) (cI cL cZ : ClassId) (Gs : Nat → Geo) (as : List AS) (av : List Value) (res : Int32) (us : List AS) : Prop :=
  ∀ Bs, OBs cI cL cZ Gs as Bs → Met l y (.code y b nL (some .int) :: W6) ({ frames := fr, cells := 0, slots := 0, locals := lo }) (gq_Pc D (bw Bs) (TY cI cL cZ) av) (lqI D cI cL cZ Gs res us (gp_A (bw Bs))) 0 0 (gp_A (bw Bs))
theorem vx_imp {l : Launch} {y : MethodName} {ws : List Cond} {rm : Room} {Pc Pc' : Array Value → State → Prop} {Qc Qc' : Array Value → State → Outcome → State → Prop} {XC : String → State → State → Prop} {mc ms : Nat} {free free' : Addr → Prop} (h : vx_Met l y ws rm Pc Qc XC mc ms free) (hP : ∀ a s, Pc' a s → Pc a s) (hQ : ∀ a st o t, Qc a st o t → Qc' a st o t) (hX : ∀ E st t, ¬ XC E st t) (hf : ∀ q, free q → free' q) : vx_Met l y ws rm Pc' Qc' (fun _ _ _ => False) mc ms free' :=
  fun p e h1 h2 h3 s m args below h4 h5 h6 h7 => by
    obtain ⟨n, o, g1, g2, g3, g4⟩ := h p e h1 h2 h3 s m args below h4 h5 (hP _ _ h6) h7
    refine ⟨n, o, g1, g2, g3, ?_⟩
    rcases g4 with ⟨g4, L, g5, g6⟩ | ⟨q, -, E, ce, L, hE, -⟩
    · exact Or.inl ⟨hQ _ _ _ _ g4, L, g5, fun q hq => hf _ (g6 q hq)⟩
    · exact (hX _ _ _ hE).elim
theorem lx_of {l : Launch} {y : MethodName} {b : ByteArray} {nL fr lo : Nat} {hh : List (Nat × Nat × Nat × Nat)} {D : va_G} {cI cL cZ : ClassId} {Gs : Nat → Geo} {a a2 : AS} {av : List Value} {res : Int64}
    (h : ∀ (q : Nat) (vv : Nat → Int32) (nx ct : Nat) (uf : Nat → Int32) (zz : Nat → LgS), obC a q nx ct uf zz → ∃ post : Int64 → List va_W → Prop, LH l y b nL hh fr lo D (pwB cI cL cZ (Gs 0).1 (Gs 0).2.1 (Gs 0).2.2.1 (Gs 0).2.2.2 a.1.1 a.1.2 q vv nx ct uf zz) (TY cI cL cZ) av post ∧ ∀ r u, post r u → r = res ∧ OB cI cL cZ (Gs 0) a2 (bw u)) : LX l y b nL hh fr lo D cI cL cZ Gs [a] av res [a2] := by
  intro Bs hB
  obtain ⟨w, rfl, q, vv, nx, ct, uf, zz, rfl, hc⟩ := OBs_out hB
  obtain ⟨post, hL, hp⟩ := h q vv nx ct uf zz hc
  rw [bw_one]
  refine vx_imp hL (fun _ _ z => z) (fun a st o t z => ?_) (fun _ _ _ z => z) (fun _ z => z)
  obtain ⟨⟨r, u, h1, h2, h3⟩, h4⟩ := z
  obtain ⟨e, h5⟩ := hp r u h2
  exact ⟨⟨r, [bw u], h1, ⟨e, OBs_one h5⟩, by show va_P D vwCl (bw [bw u]) t.heap; rw [bw_one]; exact h3⟩, h4⟩
theorem lv_of {l : Launch} {y : MethodName} {b : ByteArray} {nL fr lo : Nat} {D : va_G} {cI cL cZ : ClassId} {Gs : Nat → Geo} {a a2 : AS} {av : List Value} {res : Int32}
    (h : ∀ (q : Nat) (vv : Nat → Int32) (nx ct : Nat) (uf : Nat → Int32) (zz : Nat → LgS), obC a q nx ct uf zz → ∃ (Cs : List va_W) (tc : List (ClassId × FieldType)) (isC isT : List Nat) (post : Int32 → List va_W → Prop), BQi l y b nL .int W6 fr lo D Cs tc av post ∧ isC.Nodup ∧ isC.map (fun i => (pwB cI cL cZ (Gs 0).1 (Gs 0).2.1 (Gs 0).2.2.1 (Gs 0).2.2.2 a.1.1 a.1.2 q vv nx ct uf zz)[i]?) = Cs.map some ∧ isT.filterMap (fun i => (TY cI cL cZ)[i]?) = tc ∧ ∀ r u, post r u → u.map (fun b => b.map Prod.fst) = Cs.map (fun b => b.map Prod.fst) ∧ r = res ∧ OB cI cL cZ (Gs 0) a2 (bw (bput (pwB cI cL cZ (Gs 0).1 (Gs 0).2.1 (Gs 0).2.2.1 (Gs 0).2.2.2 a.1.1 a.1.2 q vv nx ct uf zz) isC u))) : LV l y b nL fr lo D cI cL cZ Gs [a] av res [a2] := by
  intro Bs hB
  obtain ⟨w, rfl, q, vv, nx, ct, uf, zz, rfl, hc⟩ := OBs_out hB
  obtain ⟨Cs, tc, isC, isT, post, hM, hn, hC, hT, hp⟩ := h q vv nx ct uf zz hc
  rw [bw_one]
  generalize pwB cI cL cZ (Gs 0).1 (Gs 0).2.1 (Gs 0).2.2.1 (Gs 0).2.2.2 a.1.1 a.1.2 q vv nx ct uf zz = Ps at hC hp ⊢
  have key : ∀ (p : Program) (e : Env), True := fun _ _ => trivial
  intro p e h1 h2 h3 s m args below h4 h5 h6 h7
  obtain ⟨hv, hP, hK, hD, hN⟩ := h6
  obtain ⟨n, o, g1, g2, g3, g4, L, g5, g6⟩ := hM p e h1 h2 h3 s m args below h4 h5 ⟨hv, bw_subP hP isC hC, hK.sub isT hT, gp_self (bw_subD hD isC hn hC), hN⟩ h7
  have hF := bw_A hD isC hC
  refine ⟨n, o, g1, g2, g3, ?_, L, g5, fun q hq => hF _ (g6 q hq)⟩
  obtain ⟨⟨r, u, k1, k2, k3⟩, k4⟩ := g4
  obtain ⟨ea, er, ho⟩ := hp r u k2
  obtain ⟨j1, j2⟩ := bw_join hP hD isC hC ea (fun q hq hA => k4.2 q hq hA) k3
  exact ⟨⟨r, [bw (bput Ps isC u)], k1, ⟨er, OBs_one ho⟩, by show va_P D vwCl (bw [_]) _; rw [bw_one]; exact j1⟩, k4.1, fun q hq hA => k4.2 q hq (fun z => hA (hF q z))⟩
