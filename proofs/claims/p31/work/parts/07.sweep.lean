-- THE REFERENCE'S SWEEP AND RECORD, as functions of the row: none where an index would be wrong, or the count of rounds is used up
theorem cutR_k {f : Nat → Int32} {wh kd : Int32} {sw : Bool} {k : Nat} (h : k = 0 ∨ k = 1 ∨ k = 4 ∨ k = 6 ∨ k = 8 ∨ k = 9 ∨ k = 10 ∨ 15 ≤ k) : cutR f wh kd sw k = f k := by
  unfold cutR tick
  split
  · exact pk_un (by omega)
  · split
    · rw [pk_un (by omega), pk_un (by omega)]
    · rw [pk_un (by omega), pk_un (by omega), pk_un (by omega), pk_un (by omega), pk_un (by omega), pk_un (by omega), pk_un (by omega), pk_un (by omega)]
theorem cutR_3 {f : Nat → Int32} {wh kd : Int32} {sw : Bool} : cutR f wh kd sw 3 = if cutP f then -9 else f 3 := by
  unfold cutR tick
  by_cases h5 : f 5 = 0
  · rw [if_pos h5, if_neg (fun z => z.1 h5)]
    exact pk_un (by decide)
  · rw [if_neg h5]
    by_cases h6 : 0 < f 5 - 1
    · rw [if_pos h6, if_neg (fun z => z.2 h6), pk_un (by decide), pk_un (by decide)]
    · rw [if_neg h6, if_pos ⟨h5, h6⟩, pk_un (by decide), pk_un (by decide), pk_un (by decide), pk_un (by decide)]
      exact pk_us
theorem wrW_k {g : Nat → Int32} {a : Nat} {key val : Int32} {sw : Bool} {k : Nat} (h : k < 23) (h4 : k ≠ 4) (h8 : k ≠ 8) (h9 : k ≠ 9) : wrW g a key val sw k = g k := by
  unfold wrW
  rw [pk_un h9, pk_un h8, pk_un h4, pk_un (by omega), pk_un (by omega), pk_un (by omega), pk_un (by omega)]
theorem wrR_0 {f : Nat → Int32} {a : Nat} {key val : Int32} {sw : Bool} : wrR f a key val sw 0 = f 0 := by
  unfold wrR
  split
  · rw [pk_un (by omega)]; exact cutR_k (Or.inl rfl)
  · rw [wrW_k (by decide) (by decide) (by decide) (by decide)]; exact cutR_k (Or.inl rfl)
theorem wrR_3 {f : Nat → Int32} {a : Nat} {key val : Int32} {sw : Bool} (h : ¬ cutP f) : wrR f a key val sw 3 = f 3 := by
  unfold wrR
  rw [if_neg h, wrW_k (by decide) (by decide) (by decide) (by decide), cutR_3, if_neg h]
theorem nxp_lt {f : Nat → Int32} {o : Option Nat} {p : Nat} (ho : ∀ b, o = some b → b < 8) (h : nxp f o = some p) : p < 32 := by
  cases o with
  | none => cases h
  | some b =>
    have := ho b rfl
    unfold nxp at h
    dsimp only at h
    split at h
    · cases h
    · cases h; omega
/-- the open block, out of the row -/
def opn (f : Nat → Int32) : Option Nat := if f 3 = -9 then none else some (f 3).toNatClampNeg
theorem opn_of {f : Nat → Int32} {o : Option Nat} (h : f 3 = oI o) (ho : ∀ b, o = some b → b < 8) : opn f = o := by
  unfold opn
  rw [h]
  cases o with
  | none => exact if_pos rfl
  | some b =>
    have := ho b rfl
    rw [if_neg (oI_ne (by omega))]
    exact congrArg some (nI_clamp (by omega))
/-- the live ones of the first n pages of block b -/
def lvL (f : Nat → Int32) (B b : Nat) : Nat → List Nat
  | 0 => []
  | n + 1 => if livP f B (4 * b + n) then lvL f B b n ++ [4 * b + n] else lvL f B b n
theorem lvL_lt {f : Nat → Int32} {B b : Nat} : ∀ {n a : Nat}, a ∈ lvL f B b n → a < 4 * b + n
  | 0, a, h => by cases h
  | n + 1, a, h => by
    unfold lvL at h
    split at h
    · rcases List.mem_append.mp h with h | h
      · have := lvL_lt h; omega
      · have := List.mem_singleton.mp h; omega
    · have := lvL_lt h; omega
theorem lvL_len {f : Nat → Int32} {B b : Nat} : ∀ n, (lvL f B b n).length ≤ n
  | 0 => Nat.le_refl _
  | n + 1 => by
    have := lvL_len (f := f) (B := B) (b := b) n
    unfold lvL
    split
    · simp; omega
    · omega
theorem lvL_put {L : List Nat} {fl : Nat → Int32} {x : Nat} (h : ∀ i a : Nat, L[i]? = some a → fl i = nI a) : ∀ i a : Nat, (L ++ [x])[i]? = some a → upd fl L.length (nI x) i = nI a := by
  intro i a ha
  by_cases hi : i < L.length
  · rw [List.getElem?_append_left hi] at ha
    rw [pk_un (by omega)]
    exact h i a ha
  · rw [List.getElem?_append_right (by omega)] at ha
    have hz : i - L.length < 1 := (List.getElem?_eq_some_iff.mp ha).1
    have hi2 : i = L.length := by omega
    subst hi2
    rw [Nat.sub_self] at ha
    cases ha
    exact pk_us
/-- before a copy: a clean block is opened where the open one has no page -/
def swO (f : Nat → Int32) (B : Nat) : Nat → Int32 := match nxp f (opn f) with
  | none => upd f 3 (oI (lcl f B))
  | some _ => f
def swS (a : Nat) (f : Nat → Int32) (k : (Nat → Int32) → Option (Bool × (Nat → Int32))) : Option (Bool × (Nat → Int32)) := match nxp f (opn f) with
  | none => none
  | some p => if cutP f then some (false, wrR f p (pg f a 1) (pg f a 2) true) else k (wrR f p (pg f a 1) (pg f a 2) true)
/-- the copies: whether the power stayed -/
def swC (B : Nat) : List Nat → (Nat → Int32) → Option (Bool × (Nat → Int32))
  | [], f => some (true, f)
  | a :: as, f => swS a (swO f B) (swC B as)
def swE (b : Nat) : Option (Bool × (Nat → Int32)) → Option (Int32 × (Nat → Int32))
  | none => none
  | some (false, g) => some (-2, g)
  | some (true, g) => some (if cutP g then -2 else nI b, erR g b)
/-- sweepOnce -/
def swp (f : Nat → Int32) (B : Nat) : Option (Int32 × (Nat → Int32)) := match vcm f B (opn f) with
  | none => some (-9, f)
  | some b => swE b (swC B (lvL f B b 4) f)
/-- record, with at most n rounds of its loop -/
def rec (B : Nat) (key val : Int32) : Nat → (Nat → Int32) → Option (Int32 × (Nat → Int32))
  | 0, _ => none
  | n + 1, f => match nxp f (opn f) with
    | some p => some (if cutP f then -2 else nI p, wrR f p key val false)
    | none => if 1 < cln f B then rec B key val n (upd f 3 (oI (lcl f B))) else match swp f B with
      | none => none
      | some (v, g) => if v < 0 then some (if v = -9 then -3 else -2, g) else rec B key val n g
/-- what a row must hold for the reading methods to be called on it -/
def Wf (f : Nat → Int32) (B : Nat) : Prop := f 0 = nI B ∧ B ≤ 8 ∧ f 3 = oI (opn f) ∧ ∀ b, opn f = some b → b < 8
theorem Wf_open {f : Nat → Int32} {B : Nat} (h : Wf f B) : Wf (upd f 3 (oI (lcl f B))) B := by
  have h8 : ∀ b, lcl f B = some b → b < 8 := fun b hb => by have := lcl_lt hb; have := h.2.1; omega
  have e : opn (upd f 3 (oI (lcl f B))) = lcl f B := opn_of pk_us h8
  exact ⟨by rw [pk_un (by decide)]; exact h.1, h.2.1, by rw [e]; exact pk_us, by rw [e]; exact h8⟩
theorem Wf_wr {f : Nat → Int32} {B a : Nat} {key val : Int32} {sw : Bool} (h : Wf f B) : Wf (wrR f a key val sw) B := by
  refine ⟨by rw [wrR_0]; exact h.1, h.2.1, ?_⟩
  by_cases hc : cutP f
  · have h3 : wrR f a key val sw 3 = oI none := by
      unfold wrR
      rw [if_pos hc, pk_un (by omega), cutR_3, if_pos hc]
      rfl
    have e := opn_of h3 (fun b hb => by cases hb)
    exact ⟨by rw [e]; exact h3, by rw [e]; intro b hb; cases hb⟩
  · have h3 : wrR f a key val sw 3 = oI (opn f) := (wrR_3 hc).trans h.2.2.1
    have e := opn_of h3 h.2.2.2
    exact ⟨by rw [e]; exact h3, by rw [e]; exact h.2.2.2⟩
theorem stF_k {g : Nat → Int32} {b : Nat} {x : Int32} {k : Nat} (h : k < 23) : ∀ n, stF g b x n k = g k
  | 0 => rfl
  | n + 1 => by
    unfold stF
    rw [pk_un (by omega)]
    exact stF_k h n
theorem erR_0 {f : Nat → Int32} {b : Nat} : erR f b 0 = f 0 := by
  unfold erR
  rw [stF_k (by decide), erG, pk_un (by decide), pk_un (by omega)]
  exact cutR_k (Or.inl rfl)
theorem erR_3 {f : Nat → Int32} {b : Nat} : erR f b 3 = if cutP f then -9 else f 3 := by
  unfold erR
  rw [stF_k (by decide), erG, pk_un (by decide), pk_un (by omega)]
  exact cutR_3
theorem Wf_er {f : Nat → Int32} {B b : Nat} (h : Wf f B) : Wf (erR f b) B := by
  refine ⟨by rw [erR_0]; exact h.1, h.2.1, ?_⟩
  by_cases hc : cutP f
  · have h3 : erR f b 3 = oI none := by rw [erR_3, if_pos hc]; rfl
    have e := opn_of h3 (fun b hb => by cases hb)
    exact ⟨by rw [e]; exact h3, by rw [e]; intro b hb; cases hb⟩
  · have h3 : erR f b 3 = oI (opn f) := by rw [erR_3, if_neg hc]; exact h.2.2.1
    have e := opn_of h3 h.2.2.2
    exact ⟨by rw [e]; exact h3, by rw [e]; exact h.2.2.2⟩
theorem Wf_swO {f : Nat → Int32} {B : Nat} (h : Wf f B) : Wf (swO f B) B := by
  unfold swO
  split
  · exact Wf_open h
  · exact h
theorem Wf_swC {B : Nat} : ∀ {L : List Nat} {f g : Nat → Int32} {ok : Bool}, Wf f B → swC B L f = some (ok, g) → Wf g B
  | [], f, g, ok, h, e => by cases e; exact h
  | a :: as, f, g, ok, h, e => by
    have h1 := Wf_swO h
    unfold swC swS at e
    split at e
    · cases e
    · split at e
      · cases e; exact Wf_wr h1
      · exact Wf_swC (Wf_wr h1) e
theorem Wf_swp {B : Nat} {f g : Nat → Int32} {v : Int32} (h : Wf f B) (e : swp f B = some (v, g)) : Wf g B := by
  unfold swp at e
  split at e
  · cases e; exact h
  · rename_i b _
    rcases hC : swC B (lvL f B b 4) f with _ | ⟨ok, g2⟩
    · rw [hC] at e; cases e
    · rw [hC] at e
      have h2 := Wf_swC h hC
      cases ok
      · cases e; exact h2
      · cases e; exact Wf_er h2
theorem Wf_rec {B : Nat} {key val : Int32} : ∀ {n : Nat} {f g : Nat → Int32} {v : Int32}, Wf f B → rec B key val n f = some (v, g) → Wf g B
  | 0, f, g, v, h, e => by cases e
  | n + 1, f, g, v, h, e => by
    unfold rec at e
    split at e
    · cases e; exact Wf_wr h
    · split at e
      · exact Wf_rec (Wf_open h) e
      · split at e
        · cases e
        · rename_i v2 g2 hs
          have h2 := Wf_swp h hs
          split at e
          · cases e; exact h2
          · exact Wf_rec h2 e
theorem vcm_lt {f : Nat → Int32} {B : Nat} {o : Option Nat} {x : Nat} (h : vcm f B o = some x) : x < B := by
  unfold vcm at h
  split at h
  · exact vct_lt h
  · cases h
theorem so_inj {α β : Type} {a c : α} {b d : β} (h : some (a, b) = some (c, d)) : a = c ∧ b = d := by
  cases h
  exact ⟨rfl, rfl⟩
theorem dropk {L : List Nat} {k a : Nat} (h : L[k]? = some a) : L.drop k = a :: L.drop (k + 1) := by
  obtain ⟨h1, h2⟩ := List.getElem?_eq_some_iff.mp h
  rw [List.drop_eq_getElem_cons h1, h2]
theorem Wf_5 {f : Nat → Int32} {B : Nat} {k : Nat} {x : Int32} (h : Wf f B) (h0 : k ≠ 0) (h3 : k ≠ 3) : Wf (upd f k x) B := by
  have e3 : upd f k x 3 = f 3 := pk_un (Ne.symm h3)
  have e : opn (upd f k x) = opn f := by unfold opn; rw [e3]
  exact ⟨by rw [pk_un (Ne.symm h0)]; exact h.1, h.2.1, by rw [e, e3]; exact h.2.2.1, by rw [e]; exact h.2.2.2⟩
theorem cpy_all {f g : Nat → Int32} {n : Nat} {k : Nat} (h : k < n) : va_cpy f g 0 0 n k = f k := by
  unfold va_cpy
  rw [if_pos ⟨Nat.zero_le _, by omega⟩, Nat.sub_zero, Nat.zero_add]
