-- THE LAW'S LOOP: its head, its step
section LO
variable {p : Program} {l : Launch} {e : Env} {s : State} {m : MethodId} {below : List Frame} {meth : Method} {c : Code} {cells slots : Nat} {Q : State → Prop} {D : va_G} {A : Nat → Prop} {b : Addr} {cI cL cZ cJ : ClassId} {ar ad : Nat → Nat} {dl : Nat → Nat → Nat} {sf sg : Nat → Option Nat} {L i : Nat} {xs : Nat → Int32}
/-- at the loop's head -/
def LH23 (p : Program) (l : Launch) (e : Env) (s : State) (m : MethodId) (below : List Frame) (meth : Method) (c : Code) (D : va_G) (cI cL cZ cJ : ClassId) (ar ad : Nat → Nat) (dl : Nat → Nat → Nat) (sf sg : Nat → Option Nat) (A : Nat → Prop) (b i cells slots : Nat) (Q : State → Prop) : Prop :=
  ∀ (H : Heap) (locs : List Loc) (ls : Array Slot), LST D cI cL cZ cJ ar ad dl sf sg A H → va_S A s.heap H locs → lv_has ls 7 [(0, .ref b), (1, .ref (ad 1)), (2, .ref (ar 0)), (3, .ref (ad 0)), (4, .int (nI (4 * i)))] → W p l e room_1 s m #[Value.ref b] below meth c H locs cells slots Q (F0 m 23 ls [])
theorem lw_step (hL : LXc D cI cL cZ cJ p s m meth c A b L xs) (hk : LH23 p l e s m below meth c D cI cL cZ cJ ar ad dl sf sg A b (i + 1) cells slots Q) : LK p l e s m below meth c D cI cL cZ cJ ar ad dl sf sg A b i cells slots Q := by
  intro H locs ls hst hS hl
  have hx := hL.1.1
  have hb := hL.1.2.1
  refine lv_iinc (v := nI (4 * (i + 1))) (lv' := [(4, .int (nI (4 * (i + 1)))), (0, .ref b), (1, .ref (ad 1)), (2, .ref (ar 0)), (3, .ref (ad 0))]) hx hb dL_law_1605 hl (k := 4) rfl (by rw [show 4 * (i + 1) = 4 * i + 4 by omega, ← nI_add]; rfl) (by decide) rfl (fun ls hl => ?_)
  refine lv_goto (tgt := 23) hx hb dL_law_1608 (by decide) ?_
  exact hk _ _ _ hst hS (lv_sub hl [1, 2, 3, 4, 0] rfl)
end LO
