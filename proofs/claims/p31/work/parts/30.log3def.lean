section NI
variable {p : Program} {l : Launch} {e : Env} {R : Room} {s : State} {m : MethodId} {args : Array Value} {below : List Frame} {meth : Method} {c : Code} {H : Heap} {locs : List Loc} {cells slots : Nat} {Q : State → Prop} {cc : ByteArray} {pc : Nat} {ls : Array Slot} {rest st0 : List Value} {D : va_G} {A A0 : Nat → Prop} {tys tc : List (ClassId × FieldType)} {ws wc wr : va_W} {H0 : Heap} {nL nL2 fr lo mc ms idx : Nat} {Wd : List Cond} {own host : String} {y : MethodName} {b2 : ByteArray} {As : List Value} {b : Addr} {post : va_W → Prop}
/-- a nest mate's private constructor -/
theorem gm_initN (hX : CallFix p m c cc nL s args Wd own) (hG : GoodIn Wd Wd) (hi : Cond.initialized y.cls ∈ Wd) {sz : Nat} (hM : GM l y b2 nL2 Wd fr lo mc ms D wc tc (.ref b :: As) sz post) (hq : CQ Wd y b2 nL2 none As.length) (hl : va_Nw (.methodLinkNest own idx y host) s) (hs : Cond.instanceMethod y ∈ Wd) (hy1 : y.name = "<init>") (hR : fr + 1 ≤ R.frames ∧ 8 + (nL2 + 11) + lo ≤ R.locals)
    (hK : va_K D vwCl tys s) (hN : NW s) (isT : List Nat) (hT : isT.filterMap (fun i => tys[i]?) = tc) (hP : va_P D vwCl ws H) (hD : va_D A0 ws) (hS : va_S A0 H0 H locs) (hA : ∀ q, H0.size ≤ q → A0 q) (hsz : H.size = sz) (isC isR : List Nat) (hn : va_nd isC = true) (hC : isC.map (fun i => ws[i]?) = wc.map some) (hRr : isR.map (fun i => ws[i]?) = wr.map some) (hnr : va_nd isR = true) (hdis : ∀ i ∈ isR, i ∉ isC) (hls : ls.size = nL) (hstk : st0 = As.reverse ++ .ref b :: rest) (hW : (rest.map fun v => v.category).sum ≤ 8) (hdg : decode cc pc = .ok (.invokespecial idx, 3)) (hcs : cells + mc ≤ R.cells ∧ slots + ms ≤ R.slots)
    (kk : ∀ (u : va_W) (H1 : Heap) (locs1 : List Loc), post u → va_P D vwCl (wr ++ u) H1 → va_D A0 (wr ++ u) → va_S A0 H0 H1 locs1 → W p l e R s m args below meth c H1 locs1 (cells + mc) (slots + ms) Q (F0 m (pc + 3) ls rest)) : W p l e R s m args below meth c H locs cells slots Q (F0 m pc ls st0) := by
  subst hsz
  have hPc := hP.sub isC (gp_fm hC)
  have hKc := hK.sub isT hT
  have hDc := (hD.sub isC hn hC).weaken (B := fun _ => True) (fun _ _ _ _ => trivial)
  have hFc := va_free (wc := wc) hD hS hA isC hC
  have hGG : GoodIn Wd (.code y b2 nL2 none :: Wd) := fun w hw => (List.mem_cons.mp hw).elim (fun h => h ▸ hG _ hq.1) (fun h => hG _ h)
  refine va_callv (va_runIN (As := As) (rest := rest) (b := b) hX hM ⟨va_cnB As.length hX.2.2.2.2 hGG rfl rfl rfl hl (hX.2.2.2.2 _ hi) hq.2 hR, hy1, hX.2.2.2.2 _ hs⟩ ⟨gm_blind, fun U hU hW => ⟨rfl, by rw [hU], by rw [hU]; exact hPc, va_K.moved hW.alike hKc, hDc, NW_warm hW hN⟩⟩ rfl rfl hls hstk (lv_room hW) hdg hcs) hS (fun q _ h => hFc q h) hFc (fun u t H1 locs1 ht hvm hp hB hz hk hS1 => ?_)
  rw [ht] at hB
  obtain ⟨h1, h2⟩ := va_join hP hD isC isR hC hRr hnr hdis hk hFc hB.1 hB.2
  exact kk u H1 locs1 hp h1 h2 hS1
end NI
-- switchOn
def swG (kd mk : Nat → Int32) : Nat → Int32
  | 0 => 0
  | n + 1 => if swG kd mk n < gmV kd mk (nI n) then gmV kd mk (nI n) else swG kd mk n
def swB (kd mk : Nat → Int32) : Nat → Option Nat
  | 0 => none
  | n + 1 => if swG kd mk n < gmV kd mk (nI n) then some n else swB kd mk n
def opS (fr kd mk : Nat → Int32) (B : Nat) : Int32 := if 0 < at_ fr 8 0 (oI (swB kd mk B)) then oI (swB kd mk B) else -9
