-- THE REFERENCE'S ROW, WRITTEN
def tick (f : Nat → Int32) : Nat → Int32 := upd f 7 (f 7 + 1)
/-- whether the cut that is set falls on the operation that is counted now -/
abbrev cutP (f : Nat → Int32) : Prop := ¬ f 5 = 0 ∧ ¬ 0 < f 5 - 1
def cutR (f : Nat → Int32) (wh kd : Int32) (sw : Bool) : Nat → Int32 :=
  if f 5 = 0 then tick f
  else if 0 < f 5 - 1 then upd (tick f) 5 (f 5 - 1)
  else upd (upd (upd (upd (upd (upd (upd (tick f) 5 (f 5 - 1)) 2 0) 3 (-9)) 11 (f 11 + 1)) 12 wh) 13 kd) 14 (bI (sw = true))
