-- ROWS OF REFERENCES; the class's History and Slots
section RQ9
variable {p : Program} {l : Launch} {e : Env} {R : Room} {s : State} {m : MethodId} {args : Array Value} {below : List Frame} {meth : Method} {c : Code} {H : Heap} {locs : List Loc} {cells slots : Nat} {Q : State → Prop} {cc : ByteArray} {pc : Nat} {ls : Array Slot} {rest : List Value} {D : va_G} {cl : List vw_C} {A : Nat → Prop} {a : Nat} {tys : List (ClassId × FieldType)} {ws : va_W} {H0 : Heap}
theorem ra_qld (hx : p.tables.exec = Jvm.exec) (hb : c.code = cc) (hK : va_K D cl tys s) (hP : va_P D cl ws H) (q0 t0 : Nat) {cA : ClassId} {C : String} {n : Nat} {f : Nat → Option Nat} (ha : ws[q0]? = some (a, .inl (cA, n, .inr (.inr (.inr (.inr f)))))) (ht : tys[t0]? = some (cA, .object C)) {i v : Nat} (hi : i < n) (hn : n < 2 ^ 31) (hf : f i = some v) (hdg : decode cc pc = .ok (.aaload, 1))
    (kk : W p l e R s m args below meth c H locs cells slots Q (F0 m (pc + 1) ls (.ref v :: rest))) : W p l e R s m args below meth c H locs cells slots Q (F0 m pc ls (.int (nI i) :: .ref a :: rest)) := by
  refine va_aldq hx hb hK hP q0 t0 ha ht (vp_in_nI hi hn) hdg ?_
  rw [nI_clamp (Nat.lt_trans hi hn), hf]
  exact kk
end RQ9
theorem mn_14 {a : Nat} (h : a < 100) : (if (14 : Int32) < nI a then 14 else nI a) = nI (if 14 < a then 14 else a) := by
  by_cases h1 : (14 : Int32) < nI a
  · rw [if_pos h1, if_pos (cn_lt (a := 14) (b := a) (by omega) (by omega) h1)]; rfl
  · have h2 := cn_nlt (a := 14) (b := a) (by omega) (by omega) h1
    rw [if_neg h1, if_neg (by omega)]
theorem mx_0 {a : Nat} (h : a < 100) : (if nI a < (0 : Int32) then 0 else nI a) = nI a := if_neg (nI_pos (by omega))
/-- the cells of a Log whose addresses are d -/
def zL (cI : ClassId) (d : Nat → Nat) (z : LgS) : va_W := [((d 0), .inr (2, [.ref (d 1), .ref (d 10), .int (bI (z.1.1 = true)), .int (z.2.1 0), .int (z.2.1 1), .int (z.2.1 2), .int (z.2.1 3), .int (z.2.1 4)])), ((d 1), .inr (0, [.ref (d 2), .ref (d 3), .ref (d 4), .ref (d 5), .ref (d 6), .ref (d 7), .ref (d 8), .ref (d 9), .int (nI (z.1.2))])), ((d 2), .inl (cI, 32, .inl (z.2.2 0))), ((d 3), .inl (cI, 32, .inl (z.2.2 1))), ((d 4), .inl (cI, 32, .inl (z.2.2 2))), ((d 5), .inl (cI, 32, .inl (z.2.2 3))), ((d 6), .inl (cI, 8, .inl (z.2.2 4))), ((d 7), .inl (cI, 32, .inl (z.2.2 5))), ((d 8), .inl (cI, 16, .inl (z.2.2 6))), ((d 9), .inl (cI, 8, .inl (z.2.2 7))), ((d 10), .inr (5, [.int (z.2.1 5), .int (z.2.1 6), .int (z.2.1 7), .int (z.2.1 8), .int (z.2.1 9), .int (z.2.1 10), .int (z.2.1 11), .int (z.2.1 12)]))]
/-- the cells of n Logs -/
def zH (cI : ClassId) (d : Nat → Nat → Nat) (z : Nat → LgS) : Nat → va_W
  | 0 => []
  | n + 1 => zH cI d z n ++ zL cI (d n) (z n)
