-- more of the reference's public methods
/-- lasts' loop: r is the answer -/
def lsL (B : Nat) (key : Int32) (r : Nat) : Nat → (Nat → Int32) → Nat → Prop
  | 0, _, _ => False
  | n + 1, g, j => if j < 300 ∧ g 2 = 1 then Ok g B ∧ (if ¬ (recT B key 0 g).1 < 0 then lsL B key r n (recT B key 0 g).2 (j + 1) else r = j) else r = j
def rstR (fik : Nat → Int32) (s : Int32) : Int32 := if 0 ≤ s ∧ s ≤ 1 then if fik s.toNatClampNeg = 0 then 2 else 0 else 1
def apR (ss : Nat) (c : Int32) : Int32 := if 0 ≤ c ∧ c ≤ 255 then if ss = 90 then 2 else 0 else 1
theorem nmk_of {f : Nat → Int32} {key : Int32} {B a : Nat} (h : nwst f key (4 * B) = some a) : nmk f key B = pg f a 3 := by
  unfold nmk
  rw [h]
theorem Wf_recT {f : Nat → Int32} {B : Nat} (h : Ok f B) (key val : Int32) : Wf (recT B key val f).2 B := Wf_rec h.1 (ok_rec h key val)
