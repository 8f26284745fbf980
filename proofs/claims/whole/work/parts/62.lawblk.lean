-- THE LAW: a Log's block in the law's world
section RG
variable {cI cL cZ cJ : ClassId} {ar ad : Nat → Nat} {dl : Nat → Nat → Nat} {sf sg : Nat → Option Nat} {fo : Nat → Int64} {q : Nat} {vv : Nat → Int32} {nx ct : Nat} {uf : Nat → Int32} {zz : Nat → LgS} {rf rb rl : Int32} {ss n : Nat} {ps : Bool × Nat} {ac9 : Nat} {t t2 f ft flk fd fkp fik fl : Nat → Int32} {C : List va_W} {x : va_W}
theorem rf_up (i : Nat) : (rfB cI cZ ar rf rb rl ss ps ac9 t f ft flk fd fkp fik fl C)[9 + i]? = C[i]? := by
  rw [Nat.add_comm]
  rfl
theorem rf_set (i : Nat) : (rfB cI cZ ar rf rb rl ss ps ac9 t f ft flk fd fkp fik fl C).set (9 + i) x = rfB cI cZ ar rf rb rl ss ps ac9 t f ft flk fd fkp fik fl (C.set i x) := by
  rw [Nat.add_comm]
  rfl
theorem rf_log {j : Nat} (hj : j < 19) : (rfB cI cZ ar rf rb rl ss ps ac9 t f ft flk fd fkp fik fl (lwB cI cL cZ cJ ad dl sf sg fo t2 n q vv nx ct uf zz))[9 + (8 + j)]? = some (zL cI (dl j) (zz j)) := by
  rw [rf_up, lwB]
  exact cw_get hj
theorem rf_setL {j : Nat} {z : LgS} (hj : j < 19) : (rfB cI cZ ar rf rb rl ss ps ac9 t f ft flk fd fkp fik fl (lwB cI cL cZ cJ ad dl sf sg fo t2 n q vv nx ct uf zz)).set (9 + (8 + j)) (zL cI (dl j) z) = rfB cI cZ ar rf rb rl ss ps ac9 t f ft flk fd fkp fik fl (lwB cI cL cZ cJ ad dl sf sg fo t2 n q vv nx ct uf (va_up zz j z)) := by
  rw [rf_set, lwB, cw_set hj]
  rfl
theorem rf_ob : (rfB cI cZ ar rf rb rl ss ps ac9 t f ft flk fd fkp fik fl (lwB cI cL cZ cJ ad dl sf sg fo t2 n q vv nx ct uf zz))[9 + 1]? = some [(ad 1, .inr (6, [.ref (ad 2), .ref (ad 4), .ref (ad 6), .ref (dl 16 0), .ref (dl 17 0), .ref (dl 18 0)]))] := by
  rw [rf_up, lwB]
  exact cw_g1
theorem rf_st : (rfB cI cZ ar rf rb rl ss ps ac9 t f ft flk fd fkp fik fl (lwB cI cL cZ cJ ad dl sf sg fo t2 n q vv nx ct uf zz))[9 + 2]? = some (zS cI (ad 2) (ad 3) t2 n q vv) := by
  rw [rf_up, lwB]
  exact cw_g2
end RG
