-- THE CLASS'S OWN METHODS: what they answer
abbrev icmP (g : Nat) : Prop :=
  if g / 1000 = 1 then True else if g / 1000 = 2 then g % 100 = 0 else if g / 1000 = 3 then g % 1000 = 0 else if g / 1000 = 4 then g / 100 % 10 = 0
  else if g / 1000 = 5 then g % 1000 = 0 else if g / 1000 = 6 then True else if g / 1000 = 7 then True else if g / 1000 = 8 then g / 10 % 100 = 0 else if g / 1000 = 9 then g / 10 % 100 = 0 else False
section PF
variable {z : LgS} {k : Nat} {n : Int32}
theorem pfP_1 : pfP z 1 k n ↔ (0 < csV z ∧ ¬ (stT k n z).1 = -9) := Iff.rfl
theorem pfP_2 : pfP z 2 k n ↔ (¬ vaZ z (nI k) = -9 ∧ 0 < csV z ∧ ¬ (stT k (-9) z).1 = -9) := Iff.rfl
theorem pfP_3 : pfP z 3 k n ↔ (¬ oI (cvZ z) = -9 ∧ ¬ (sbT (oI (cvZ z)).toNatClampNeg z).1 = -9) := Iff.rfl
theorem pfP_4 : pfP z 4 k n ↔ z.1.1 = true := Iff.rfl
theorem pfP_5 : pfP z 5 k n ↔ ¬ z.1.1 = true := Iff.rfl
theorem pfP_6 : pfP z 6 k n ↔ (z.1.1 = true ∧ vaZ z (nI k) = n) := Iff.rfl
theorem pfP_7 : pfP z 7 k n ↔ ((¬ nI k < 0 ∧ nI k < nI z.1.2 ∧ nI k < 8) ∧ ¬ n < at_ (z.2.2 4) 8 0 (nI k)) := Iff.rfl
theorem pfP_8 : pfP z 8 k n ↔ ¬ nI (cbZ z) < n := Iff.rfl
theorem pfP_9 : pfP z 9 k n ↔ ¬ 2 < n := Iff.rfl
theorem pfZ_1 : pfZ z 1 k n = if 0 < csV z then (stT k n z).2 else z := by rw [pfZ, if_pos rfl]
theorem pfZ_2 : pfZ z 2 k n = if ¬ vaZ z (nI k) = -9 ∧ 0 < csV z then (stT k (-9) z).2 else z := by rw [pfZ, if_neg (by decide), if_pos rfl]
theorem pfZ_3 : pfZ z 3 k n = if oI (cvZ z) = -9 then z else (sbT (oI (cvZ z)).toNatClampNeg z).2 := by rw [pfZ, if_neg (by decide), if_neg (by decide), if_pos rfl]
theorem pfZ_4 : pfZ z 4 k n = if z.1.1 = true then zC z n else z := by rw [pfZ, if_neg (by decide), if_neg (by decide), if_neg (by decide), if_pos rfl]
theorem pfZ_5 : pfZ z 5 k n = zSw z := by rw [pfZ, if_neg (by decide), if_neg (by decide), if_neg (by decide), if_neg (by decide), if_pos rfl]
theorem pfZ_6 : pfZ z 6 k n = z := by rw [pfZ, if_neg (by decide), if_neg (by decide), if_neg (by decide), if_neg (by decide), if_neg (by decide), if_pos rfl]
theorem pfZ_7 : pfZ z 7 k n = z := by rw [pfZ, if_neg (by decide), if_neg (by decide), if_neg (by decide), if_neg (by decide), if_neg (by decide), if_neg (by decide), if_pos rfl]
theorem pfZ_8 : pfZ z 8 k n = z := by rw [pfZ, if_neg (by decide), if_neg (by decide), if_neg (by decide), if_neg (by decide), if_neg (by decide), if_neg (by decide), if_neg (by decide), if_pos rfl]
theorem pfZ_9 : pfZ z 9 k n = if 2 < n then z else zPo z n := by rw [pfZ, if_neg (by decide), if_neg (by decide), if_neg (by decide), if_neg (by decide), if_neg (by decide), if_neg (by decide), if_neg (by decide), if_neg (by decide)]
end PF
theorem cvZ_o {z : LgS} {o : Nat} (h : cvZ z = some o) (hB : z.1.2 ≤ 8) : (oI (cvZ z)).toNatClampNeg = o ∧ ¬ oI (cvZ z) = -9 := by
  have := cvF_lt h
  rw [h]
  exact ⟨nI_clamp (by omega), oI_ne (by omega)⟩
