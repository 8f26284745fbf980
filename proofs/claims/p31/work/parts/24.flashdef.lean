-- THE CLASS'S FLASH: what its reading methods answer, by its arrays
theorem num0 {x : Int32} {k : Nat} (hk : k < 2 ^ 31) (h0 : ¬ x < 0) (h1 : x < nI k) : x = nI x.toNatClampNeg ∧ x.toNatClampNeg < k := by
  obtain ⟨j, hj, e⟩ := nI_of2 (x := x) (M := nI k) (nI_toInt hk) h0 (Int32.le_of_lt h1)
  have hc : x.toNatClampNeg = j := by rw [e]; exact nI_clamp (by omega)
  rw [e] at h1
  have := cn_lt (a := j) (b := k) (by omega) hk h1
  rw [hc]
  exact ⟨e, this⟩
abbrev inN (x : Int32) (k : Int32) : Prop := ¬ x < 0 ∧ x < k
abbrev pagP (B : Nat) (a : Int32) : Prop := ¬ a < 0 ∧ a < nI (4 * B) ∧ a < 32
def at_ (F : Nat → Int32) (k : Int32) (d : Int32) (x : Int32) : Int32 := if inN x k then F x.toNatClampNeg else d
def tpF (kd ky vl mk lv : Nat → Int32) (a : Nat) (w : Int32) : Int32 :=
  if w = 0 then kd a else if kd a = 1 then if w = 1 then ky a else if w = 2 then vl a else if w = 3 then mk a else lv a else -9
def tpV (kd ky vl mk lv : Nat → Int32) (a w : Int32) : Int32 := if inN a 32 then tpF kd ky vl mk lv a.toNatClampNeg w else -9
def vaV (B : Nat) (vl nw : Nat → Int32) (k : Int32) : Int32 := if pagP B (at_ nw 16 (-9) k) then vl (at_ nw 16 (-9) k).toNatClampNeg else -9
def ckV (B : Nat) (vl nw : Nat → Int32) : Nat → Nat
  | 0 => 0
  | n + 1 => ckV B vl nw n + if vaV B vl nw (nI n) = -9 then 0 else 1
theorem ckV_le {B : Nat} {vl nw : Nat → Int32} : ∀ n, ckV B vl nw n ≤ n
  | 0 => Nat.le_refl _
  | n + 1 => by
    have := ckV_le (B := B) (vl := vl) (nw := nw) n
    unfold ckV
    split <;> omega
def ctF (F : Nat → Int32) (b : Nat) (x : Int32) : Nat → Nat
  | 0 => 0
  | n + 1 => ctF F b x n + if F (4 * b + n) = x then 1 else 0
def ctV (F : Nat → Int32) (x b : Int32) : Int32 := if inN b 8 then nI (ctF F b.toNatClampNeg x 4) else 0
def slF (F : Nat → Int32) (b : Nat) : Nat → Int32
  | 0 => 0
  | n + 1 => slF F b n + F (4 * b + n)
def slV (F : Nat → Int32) (b : Int32) : Int32 := if inN b 8 then slF F b.toNatClampNeg 4 else 0
def tdF (kd lv : Nat → Int32) (b : Nat) : Nat → Bool
  | 0 => false
  | n + 1 => tdF kd lv b n || decide (¬ kd (4 * b + n) = 0 ∧ lv (4 * b + n) = 0)
abbrev tdP (kd lv : Nat → Int32) (b : Int32) : Prop := inN b 8 ∧ tdF kd lv b.toNatClampNeg 4 = true
theorem tdF_at {kd lv : Nat → Int32} {b j : Nat} : ∀ {n : Nat}, j < n → (¬ kd (4 * b + j) = 0 ∧ lv (4 * b + j) = 0) → tdF kd lv b n = true
  | 0, h, _ => absurd h (Nat.not_lt_zero _)
  | n + 1, h, hp => by
    unfold tdF
    by_cases e : j = n
    · subst e
      rw [decide_eq_true hp, Bool.or_true]
    · rw [tdF_at (show j < n by omega) hp, Bool.true_or]
def gmF (kd mk : Nat → Int32) (b : Nat) : Nat → Int32
  | 0 => 0
  | n + 1 => if kd (4 * b + n) = 1 ∧ gmF kd mk b n < mk (4 * b + n) then mk (4 * b + n) else gmF kd mk b n
def gmV (kd mk : Nat → Int32) (b : Int32) : Int32 := if inN b 8 then gmF kd mk b.toNatClampNeg 4 else 0
def cbF (fr : Nat → Int32) (op : Int32) : Nat → Nat
  | 0 => 0
  | n + 1 => cbF fr op n + if ¬ nI n = op ∧ fr n = 4 then 1 else 0
def lwF (fr wr : Nat → Int32) (op : Int32) : Nat → Option Nat
  | 0 => none
  | n + 1 => match lwF fr wr op n with
    | none => if ¬ nI n = op ∧ fr n = 4 then some n else none
    | some o => if (¬ nI n = op ∧ fr n = 4) ∧ wr n < wr o then some n else some o
def lwL (wr : Nat → Int32) : Option Nat → Int32 | none => 0 | some o => wr o
theorem lwF_lt {fr wr : Nat → Int32} {op : Int32} : ∀ {n o : Nat}, lwF fr wr op n = some o → o < n
  | 0, o, h => by cases h
  | n + 1, o, h => by
    unfold lwF at h
    cases hn : lwF fr wr op n with
    | none =>
      rw [hn] at h
      dsimp only at h
      split at h
      · cases h; omega
      · cases h
    | some o2 =>
      rw [hn] at h
      have := lwF_lt hn
      dsimp only at h
      split at h
      · cases h; omega
      · cases h; omega
-- what its writing methods leave
/-- newest, found among the first n pages -/
def frN (kd ky mk : Nat → Int32) : Nat → Nat → Int32
  | 0 => fun _ => -9
  | n + 1 => if kd n = 1 ∧ inN (ky n) 16 ∧ (inN (frN kd ky mk n (ky n).toNatClampNeg) 32 → mk (frN kd ky mk n (ky n).toNatClampNeg).toNatClampNeg < mk n) then upd (frN kd ky mk n) (ky n).toNatClampNeg (nI n) else frN kd ky mk n
/-- live, found among the first n pages -/
def frV (kd ky vl nw : Nat → Int32) : Nat → Nat → Int32
  | 0 => fun _ => 0
  | n + 1 => if kd n = 1 ∧ inN (ky n) 16 ∧ inN (nw (ky n).toNatClampNeg) 32 ∧ (¬ nI n = nw (ky n).toNatClampNeg ∨ ¬ vl n = -9) then upd (frV kd ky vl nw n) (nw (ky n).toNatClampNeg).toNatClampNeg 1 else frV kd ky vl nw n
def nwR (kd ky mk : Nat → Int32) : Nat → Int32 := frN kd ky mk 32
def lvR (kd ky vl mk : Nat → Int32) : Nat → Int32 := frV kd ky vl (nwR kd ky mk) 32
/-- the pages of block b become x -/
def k4 (F : Nat → Int32) (b : Nat) (x : Int32) : Nat → Nat → Int32
  | 0 => F
  | n + 1 => upd (k4 F b x n) (4 * b + n) x
def lvW (lv nw : Nat → Int32) (a k : Nat) : Nat → Int32 := if inN (nw k) 32 then upd (upd lv a 1) (nw k).toNatClampNeg 0 else upd lv a 1
def cstF (F : Nat → Int32) (x : Int32) (n : Nat) : Nat → Int32 := fun k => if k < n then x else F k
theorem cstF_0 (F : Nat → Int32) (x : Int32) : cstF F x 0 = F := by
  funext k
  exact if_neg (Nat.not_lt_zero k)
theorem cstF_s (F : Nat → Int32) (x : Int32) (n : Nat) : cstF F x (n + 1) = upd (cstF F x n) n x := by
  funext k
  unfold cstF upd
  by_cases h : k = n
  · subst h; simp
  · rw [if_neg h]
    dsimp only
    by_cases h2 : k < n
    · rw [if_pos h2, if_pos (by omega)]
    · rw [if_neg h2, if_neg (by omega)]
theorem ne_int {x : Int32} {k : Int32} (h : ¬ x = k) : x.toInt ≠ k.toInt := fun z => h (Int32.toInt_inj.mp z)
theorem mx0 {n : Nat} (h : n < 2 ^ 31) : (if (0 : Int32) < nI n then nI n else 0) = nI n := by
  by_cases z : (0 : Int32) < nI n
  · exact if_pos z
  · rw [if_neg z]
    have := cn_nlt (a := 0) (b := n) (by decide) h z
    have e : n = 0 := by omega
    rw [e]
    rfl
section NQ
variable {p : Program} {l : Launch} {e : Env} {R : Room} {s : State} {m : MethodId} {args : Array Value} {below : List Frame} {meth : Method} {c : Code} {H : Heap} {locs : List Loc} {cells slots : Nat} {Q : State → Prop} {cc : ByteArray} {pc : Nat} {ls : Array Slot} {rest st0 : List Value} {D : va_G} {A A0 : Nat → Prop} {tys tc : List (ClassId × FieldType)} {ws wc : va_W} {H0 : Heap} {nL nL2 fr lo idx : Nat} {Wd : List Cond} {own host : String} {y : MethodName} {b2 : ByteArray} {av As : List Value} {b : Addr} {free : Addr → Prop}
/-- a nest mate's private static method -/
theorem nq_runS {ret : Option FieldType} {Qc : Array Value → State → Outcome → State → Prop} (hX : CallFix p m c cc nL s args Wd own) (hG : GoodIn Wd Wd) (hi : Cond.initialized y.cls ∈ Wd) (hM : Met l y (.code y b2 nL2 ret :: Wd) ({ frames := fr, cells := 0, slots := 0, locals := lo }) (gq_Pc D wc tc av) Qc 0 0 free) (hq : CQ Wd y b2 nL2 ret av.length) (hl : va_Nw (.methodLinkNest own idx y host) s) (hs : Cond.static y ∈ Wd) (hR : fr + 1 ≤ R.frames ∧ 8 + (nL2 + 11) + lo ≤ R.locals)
    (hK : va_K D vwCl tys s) (hN : NW s) (isT : List Nat) (hT : isT.filterMap (fun i => tys[i]?) = tc) (hP : va_P D vwCl ws H) (hD : va_D A0 ws) (isC : List Nat) (hn : va_nd isC = true) (hC : isC.map (fun i => ws[i]?) = wc.map some) (hls : ls.size = nL) (hstk : st0 = av.reverse ++ rest) (hW : (rest.map fun v => v.category).sum ≤ 8) (hdg : decode cc pc = .ok (.invokestatic idx, 3)) (hcs : cells ≤ R.cells ∧ slots ≤ R.slots) :
    va_Run p l e R s m args below meth c H locs cells slots 0 0 (F0 m pc ls st0) rest (Qc av.toArray) free := by
  have hPc := hP.sub isC (gp_fm hC)
  have hKc := hK.sub isT hT
  have hDc := gp_self (hD.sub isC hn hC)
  have hGG : GoodIn Wd (.code y b2 nL2 ret :: Wd) := fun w hw => (List.mem_cons.mp hw).elim (fun h => h ▸ hG _ hq.1) (fun h => hG _ h)
  exact va_runSN (As := av) (rest := rest) hX hM ⟨va_cnB av.length hX.2.2.2.2 hGG rfl rfl rfl hl (hX.2.2.2.2 _ hi) hq.2 hR, hX.2.2.2.2 _ hs, trivial⟩ ⟨gq_blind, fun U hU hW => ⟨rfl, by rw [hU]; exact hPc, va_K.moved hW.alike hKc, hDc, NW_warm hW hN⟩⟩ rfl rfl hls hstk (lv_room hW) hdg hcs
end NQ
