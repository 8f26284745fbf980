-- TEXTS: a character more; numbers; the story that tells() types
def tyA (a : AS) (c : Nat) : AS := ((upd a.1.1 a.1.2 (nI c), a.1.2 + 1), a.2)
def ty2 (a : AS) (v : Nat) : AS := tyA (tyA a (48 + v / 10 % 10)) (48 + v / 1 % 10)
def ty3 (a : AS) (v : Nat) : AS := tyA (tyA (tyA a (48 + v / 100 % 10)) (48 + v / 10 % 10)) (48 + v / 1 % 10)
theorem tyA_ap {a : AS} {c : Nat} (hn : a.1.2 < 90) (hc : c ≤ 255) : apJ a.1.2 (nI c) = (nI (a.1.2 + 1)).toInt64 ∧ apA a (nI c) = tyA a c := by
  have e : c6ap a.1.2 (nI c) = 0 := by
    rw [c6ap, if_pos ⟨nJ_neg (by omega), nJ_nlt (a := 255) (by decide) (by omega) hc⟩]
    exact if_neg (by omega)
  rw [apJ, apA, e]
  exact ⟨rfl, rfl⟩
theorem go_ty {a : AS} {c : Nat} (h : Go a) (hn : a.1.2 < 90) : Go (tyA a c) := ⟨hn, h.2⟩
theorem jl_pos {n : Nat} (h : n + 1 < 2 ^ 31) : ¬ (nI (n + 1)).toInt64 ≤ 0 := fun y => by
  have := (jl_le (a := n + 1) (b := 0) h (by decide)).mp y
  omega
/-- one command of tells() -/
def tlC (a : AS) (v : Nat) : AS :=
  if v % 7 = 0 then ty2 (tyA a 100) (v / 7 % 4) else if v % 7 = 1 then tyA a 119 else if v % 7 = 2 then ty2 (tyA a 99) (v / 7 % 30) else if v % 7 = 3 then tyA a 115 else ty3 (ty2 (tyA a 112) (v / 7 % 5)) (v / 35 % 1000)
def tl0 (a : AS) (x : Nat) : AS := ty2 (tyA (tyA ((a.1.1, 0), a.2) 70) (48 + (3 + x % 6) / 1 % 10)) (if x % 3 = 0 then 1 + x / 6 % 3 else 1 + x / 6 % 99)
def tlS (a : AS) (x : Nat) : Nat → AS
  | 0 => tl0 a x
  | i + 1 => tlC (tlS a x i) (x / 2 ^ i % 2 ^ 16)
theorem shr_i {x i : Nat} (hx : x < 2 ^ 31) (hi : i ≤ 11) : nI x >>> (nI i &&& 31) = nI (x / 2 ^ i) := by
  refine pk_shrN hx _ i ?_
  rcases (show i = 0 ∨ i = 1 ∨ i = 2 ∨ i = 3 ∨ i = 4 ∨ i = 5 ∨ i = 6 ∨ i = 7 ∨ i = 8 ∨ i = 9 ∨ i = 10 ∨ i = 11 by omega) with rfl | rfl | rfl | rfl | rfl | rfl | rfl | rfl | rfl | rfl | rfl | rfl <;> decide
theorem tlC_n {a : AS} {v : Nat} : (tlC a v).1.2 ≤ a.1.2 + 6 ∧ a.1.2 + 1 ≤ (tlC a v).1.2 ∧ (tlC a v).2 = a.2 := by
  unfold tlC
  split
  · exact ⟨Nat.le_add_right (a.1.2 + 3) 3, Nat.le_add_right (a.1.2 + 1) 2, rfl⟩
  · split
    · exact ⟨Nat.le_add_right (a.1.2 + 1) 5, Nat.le_refl _, rfl⟩
    · split
      · exact ⟨Nat.le_add_right (a.1.2 + 3) 3, Nat.le_add_right (a.1.2 + 1) 2, rfl⟩
      · split
        · exact ⟨Nat.le_add_right (a.1.2 + 1) 5, Nat.le_refl _, rfl⟩
        · exact ⟨Nat.le_refl _, Nat.le_add_right (a.1.2 + 1) 5, rfl⟩
theorem tlS_n {a : AS} {x : Nat} : ∀ i, (tlS a x i).1.2 ≤ 4 + 6 * i ∧ (tlS a x i).2 = a.2
  | 0 => ⟨Nat.le_refl _, rfl⟩
  | i + 1 => by
    obtain ⟨h1, h2⟩ := tlS_n (a := a) (x := x) i
    obtain ⟨h3, -, h4⟩ := tlC_n (a := tlS a x i) (v := x / 2 ^ i % 2 ^ 16)
    rw [tlS]
    exact ⟨by omega, h4.trans h2⟩
theorem tlS_go {a : AS} {x i : Nat} (h : Go a) (hi : i ≤ 11) : Go (tlS a x i) := by
  obtain ⟨h1, h2⟩ := tlS_n (a := a) (x := x) i
  exact ⟨by omega, by rw [h2]; exact h.2⟩
-- THE READER GOES THROUGH IT
def Rd (t : Nat → Int32) (q q2 : Nat) : Prop := ∀ (t2 : Nat → Int32) (n : Nat), (∀ i, i < q2 → t2 i = t i) → q2 ≤ n → (rcF t2 n q 0 0).1 = (true, q2)
def Rh (t : Nat → Int32) : Prop := ∀ (t2 : Nat → Int32) (n : Nat), (∀ i, i < 4 → t2 i = t i) → 4 ≤ n → (rch t2 n 0 0).1 = (true, 4)
def Ch (t : Nat → Int32) : Nat → Nat → Nat → Prop
  | 0, q, n => q = n
  | c + 1, q, n => ∃ q2, q < q2 ∧ q2 ≤ n ∧ Rd t q q2 ∧ Ch t c q2 n
theorem Ch_le {t : Nat → Int32} : ∀ {c q n : Nat}, Ch t c q n → q + c ≤ n
  | 0, q, n, h => Nat.le_of_eq h
  | c + 1, q, n, h => by
    obtain ⟨q2, h1, h2, -, h3⟩ := h
    have := Ch_le h3
    omega
theorem Rd_mono {t t2 : Nat → Int32} {q q2 : Nat} (h : Rd t q q2) (e : ∀ i, i < q2 → t2 i = t i) : Rd t2 q q2 := fun t3 n h1 h2 => h t3 n (fun i hi => (h1 i hi).trans (e i hi)) h2
theorem Ch_app {t t2 : Nat → Int32} {n2 : Nat} : ∀ {c q n : Nat}, Ch t c q n → (∀ i, i < n → t2 i = t i) → n < n2 → Rd t2 n n2 → Ch t2 (c + 1) q n2
  | 0, q, n, h, e, hn, hr => by
    cases h
    exact ⟨n2, hn, Nat.le_refl _, hr, rfl⟩
  | c + 1, q, n, h, e, hn, hr => by
    obtain ⟨q2, h1, h2, h3, h4⟩ := h
    exact ⟨q2, h1, by omega, Rd_mono h3 (fun i hi => e i (by omega)), Ch_app h4 e hn hr⟩
theorem Ch_fe {t : Nat → Int32} {N : Nat} : ∀ {m c q : Nat}, Ch t c q N → c ≤ m → feL t N m (true, q) = (true, N)
  | 0, 0, q, h, _ => by cases h; rfl
  | m + 1, 0, q, h, _ => by
    cases h
    rw [feL]
    exact if_neg (fun y => Nat.lt_irrefl _ y.2)
  | m + 1, c + 1, q, h, hm => by
    obtain ⟨q2, h1, h2, h3, h4⟩ := h
    rw [feL, if_pos ⟨rfl, Nat.lt_of_lt_of_le h1 h2⟩, h3 t N (fun _ _ => rfl) h2]
    exact Ch_fe h4 (Nat.le_of_succ_le_succ hm)
/-- a whole story of n characters -/
def Sty (t : Nat → Int32) (n : Nat) : Prop := Rh t ∧ ∃ c, Ch t c 4 n
theorem Sty_ok {t : Nat → Int32} {n : Nat} (h : Sty t n) (hn : n ≤ 90) : feV (feR t n) = -9 := by
  obtain ⟨h1, c, h2⟩ := h
  have h3 := Ch_le h2
  rw [feR, h1 t n (fun _ _ => rfl) (by omega), Ch_fe h2 (by omega)]
  rfl
theorem Sty_app {t t2 : Nat → Int32} {n n2 : Nat} (h : Sty t n) (e : ∀ i, i < n → t2 i = t i) (hn : n < n2) (hr : Rd t2 n n2) : Sty t2 n2 := by
  obtain ⟨h1, c, h2⟩ := h
  have h3 := Ch_le h2
  exact ⟨fun t3 n3 h4 h5 => h1 t3 n3 (fun i hi => (h4 i hi).trans (e i (by omega))) h5, c + 1, Ch_app h2 e hn hr⟩
theorem pw10_n : ∀ {m : Nat}, m ≤ 3 → pw10 m = nI (10 ^ m)
  | 0, _ => rfl
  | 1, _ => rfl
  | 2, _ => rfl
  | 3, _ => rfl
/-- a number's digits are read -/
theorem rdN_num {t : Nat → Int32} {n low high V : Nat} (hlo : low ≤ V) (hhi : V ≤ high) (hh : high ≤ 999) : ∀ {m q : Nat}, m ≤ 3 → q + m ≤ n → (∀ i, i < m → t (q + i) = nI (48 + V / 10 ^ (m - 1 - i) % 10)) → rdN t n (nI low) (nI high) m (nI (10 ^ m)) (nI (10 * (V / 10 ^ m))) q = (nI V, q + m)
  | 0, q, _, _, _ => by
    rw [rdN]
    have : nI (10 * (V / 10 ^ 0)) / 10 = nI V := (pk_div (a := 10 * (V / 10 ^ 0)) (d := 10) (by simp; omega) (by decide) (by decide)).trans (congrArg nI (by simp))
    rw [this]
    rfl
  | m + 1, q, hm, hq, hd => by
    have hq1 : q + 1 + m ≤ n := by omega
    have hm1 : m ≤ 3 := by omega
    have h0 := hd 0 (by omega)
    rw [Nat.add_zero, show m + 1 - 1 - 0 = m by omega] at h0
    have hdg : V / 10 ^ m % 10 < 10 := Nat.mod_lt _ (by decide)
    have hc : crV t n q - 48 = nI (V / 10 ^ m % 10) := by
      rw [crV, if_pos (by omega), h0]
      exact (pk_sub (a := 48 + V / 10 ^ m % 10) (b := 48) (by omega)).trans (congrArg nI (by omega))
    have hp : (10 : Nat) ^ (m + 1) = 10 * 10 ^ m := Nat.pow_succ'
    have hpm : 0 < (10 : Nat) ^ m := Nat.pow_pos (by decide)
    have hle : (10 : Nat) ^ m ≤ 1000 := by
      rcases (show m = 0 ∨ m = 1 ∨ m = 2 by omega) with rfl | rfl | rfl <;> decide
    have hs : nI (10 ^ (m + 1)) / 10 = nI (10 ^ m) := (pk_div (a := 10 ^ (m + 1)) (d := 10) (by omega) (by decide) (by decide)).trans (congrArg nI (by omega))
    have hdec : 10 * (V / 10 ^ (m + 1)) + V / 10 ^ m % 10 = V / 10 ^ m := by
      rw [show (10 : Nat) ^ (m + 1) = 10 ^ m * 10 by rw [Nat.pow_succ], ← Nat.div_div_eq_div_mul]
      omega
    have hV := Nat.div_add_mod V (10 ^ m)
    have hVm := Nat.mod_lt V hpm
    have hq2 : V / 10 ^ m * 10 ^ m ≤ V := Nat.div_mul_le_self V (10 ^ m)
    have hVl : V / 10 ^ m ≤ V := Nat.div_le_self _ _
    have hmul : V / 10 ^ m * 10 ^ m + V % 10 ^ m = V := by rw [Nat.mul_comm]; exact hV
    have e1 : nI (10 * (V / 10 ^ (m + 1))) + nI (V / 10 ^ m % 10) = nI (V / 10 ^ m) := (nI_add (10 * (V / 10 ^ (m + 1))) (V / 10 ^ m % 10)).trans (congrArg nI hdec)
    have e2 : nI (V / 10 ^ m) * nI (10 ^ m) = nI (V / 10 ^ m * 10 ^ m) := pk_mul _ _
    have e3 : nI (V / 10 ^ m * 10 ^ m) + nI (10 ^ m) - 1 = nI (V / 10 ^ m * 10 ^ m + 10 ^ m - 1) := by
      rw [nI_add (V / 10 ^ m * 10 ^ m) (10 ^ m)]
      exact pk_sub (a := V / 10 ^ m * 10 ^ m + 10 ^ m) (b := 1) (by omega)
    have e4 : nI (V / 10 ^ m) * 10 = nI (10 * (V / 10 ^ m)) := (pk_mul (V / 10 ^ m) 10).trans (congrArg nI (Nat.mul_comm _ _))
    rw [rdN, hc, hs, e1, e2, e3, e4, if_neg (nJ_neg (by omega)), if_neg (show ¬ (9 : Int32) < nI (V / 10 ^ m % 10) from nJ_nlt (a := 9) (by decide) (by omega) (by omega)), if_neg (nJ_nlt (by omega) (by omega) (by omega)), if_neg (nJ_nlt (by omega) (by omega) (by omega))]
    have ih := rdN_num hlo hhi hh (m := m) (q := q + 1) hm1 hq1 (fun i hi => by
      have := hd (i + 1) (by omega)
      rw [show m + 1 - 1 - (i + 1) = m - 1 - i by omega] at this
      rw [← this]
      congr 1
      omega)
    rw [ih]
    congr 1
    omega
theorem rdV_num {t : Nat → Int32} {n q m low high V : Nat} (hlo : low ≤ V) (hhi : V ≤ high) (hh : high ≤ 999) (hm : m ≤ 3) (hV : V < 10 ^ m) (hq : q + m ≤ n) (hd : ∀ i, i < m → t (q + i) = nI (48 + V / 10 ^ (m - 1 - i) % 10)) : rdV t n q m (nI low) (nI high) = (nI V, q + m) := by
  have := rdN_num hlo hhi hh hm hq hd
  rw [Nat.div_eq_of_lt hV] at this
  rw [rdV, pw10_n hm]
  exact this
theorem ne9 {v : Nat} (h : v < 2 ^ 31) : ¬ nI v = -9 := oI_ne (a := v) h
section RC9
variable {t : Nat → Int32} {n : Nat}
theorem Rd_w (h : t n = 119) : Rd t n (n + 1) := fun t2 N e hN => by
  have hc : crV t2 N n = 119 := by rw [crV, if_pos (by omega), e n (by omega), h]
  rw [rcF, hc]
  rfl
theorem Rd_s (h : t n = 115) : Rd t n (n + 1) := fun t2 N e hN => by
  have hc : crV t2 N n = 115 := by rw [crV, if_pos (by omega), e n (by omega), h]
  rw [rcF, hc]
  rfl
theorem Rd_c {v : Nat} (h : t n = 99) (hv : v ≤ 99) (h1 : t (n + 1) = nI (48 + v / 10 % 10)) (h2 : t (n + 2) = nI (48 + v / 1 % 10)) : Rd t n (n + 3) := fun t2 N e hN => by
  have hc : crV t2 N n = 99 := by rw [crV, if_pos (by omega), e n (by omega), h]
  have hr : rdV t2 N (n + 1) 2 0 99 = (nI v, n + 1 + 2) := rdV_num (low := 0) (high := 99) (Nat.zero_le _) hv (by decide) (by decide) (by omega) (by omega) (fun i hi => by
    rcases (show i = 0 ∨ i = 1 by omega) with rfl | rfl
    · rw [e _ (by omega)]; exact h1
    · rw [e _ (by omega)]; exact h2)
  rw [rcF, hc]
  show (rcN t2 N (n + 1) 4 0).1 = _
  rw [rcN, if_neg (by decide), if_pos rfl, hr]
  simp [ne9 (show v < 2 ^ 31 by omega)]
theorem Rd_d {v : Nat} (h : t n = 100) (hv : v ≤ 15) (h1 : t (n + 1) = nI (48 + v / 10 % 10)) (h2 : t (n + 2) = nI (48 + v / 1 % 10)) : Rd t n (n + 3) := fun t2 N e hN => by
  have hc : crV t2 N n = 100 := by rw [crV, if_pos (by omega), e n (by omega), h]
  have hr : rdV t2 N (n + 1) 2 0 15 = (nI v, n + 1 + 2) := rdV_num (low := 0) (high := 15) (Nat.zero_le _) hv (by decide) (by decide) (by omega) (by omega) (fun i hi => by
    rcases (show i = 0 ∨ i = 1 by omega) with rfl | rfl
    · rw [e _ (by omega)]; exact h1
    · rw [e _ (by omega)]; exact h2)
  rw [rcF, hc, if_neg (by decide), if_pos (by decide), hr, if_neg (ne9 (show v < 2 ^ 31 by omega))]
  rfl
theorem Rd_p {v w : Nat} (h : t n = 112) (hv : v ≤ 15) (hw : w ≤ 999) (h1 : t (n + 1) = nI (48 + v / 10 % 10)) (h2 : t (n + 2) = nI (48 + v / 1 % 10)) (h3 : t (n + 3) = nI (48 + w / 100 % 10)) (h4 : t (n + 4) = nI (48 + w / 10 % 10)) (h5 : t (n + 5) = nI (48 + w / 1 % 10)) : Rd t n (n + 6) := fun t2 N e hN => by
  have hc : crV t2 N n = 112 := by rw [crV, if_pos (by omega), e n (by omega), h]
  have hr : rdV t2 N (n + 1) 2 0 15 = (nI v, n + 1 + 2) := rdV_num (low := 0) (high := 15) (Nat.zero_le _) hv (by decide) (by decide) (by omega) (by omega) (fun i hi => by
    rcases (show i = 0 ∨ i = 1 by omega) with rfl | rfl
    · rw [e _ (by omega)]; exact h1
    · rw [e _ (by omega)]; exact h2)
  have hr2 : rdV t2 N (n + 1 + 2) 3 0 999 = (nI w, n + 1 + 2 + 3) := rdV_num (low := 0) (high := 999) (Nat.zero_le _) hw (by decide) (by decide) (by omega) (by omega) (fun i hi => by
    rcases (show i = 0 ∨ i = 1 ∨ i = 2 by omega) with rfl | rfl | rfl
    · rw [e _ (by omega)]; exact h3
    · rw [e _ (by omega)]; exact h4
    · rw [e _ (by omega)]; exact h5)
  rw [rcF, hc, if_neg (by decide), if_pos (by decide), hr, if_neg (ne9 (show v < 2 ^ 31 by omega))]
  show (rcN t2 N (n + 1 + 2) 1 (nI v)).1 = _
  rw [rcN, if_pos rfl, hr2]
  simp [ne9 (show w < 2 ^ 31 by omega)]
theorem Rh_ok {b l : Nat} (h0 : t 0 = 70) (hb : 3 ≤ b ∧ b ≤ 8) (hl : 1 ≤ l ∧ l ≤ 99) (h1 : t 1 = nI (48 + b / 1 % 10)) (h2 : t 2 = nI (48 + l / 10 % 10)) (h3 : t 3 = nI (48 + l / 1 % 10)) : Rh t := fun t2 N e hN => by
  have hc : crV t2 N 0 = 70 := by rw [crV, if_pos (by omega), e 0 (by omega), h0]
  have hr : rdV t2 N 1 1 3 8 = (nI b, 1 + 1) := rdV_num (low := 3) (high := 8) hb.1 hb.2 (by decide) (by decide) (by omega) (by omega) (fun i hi => by
    rcases (show i = 0 by omega) with rfl
    rw [e _ (by omega)]; exact h1)
  have hr2 : rdV t2 N (1 + 1) 2 1 99 = (nI l, 1 + 1 + 2) := rdV_num (low := 1) (high := 99) hl.1 hl.2 (by decide) (by decide) (by omega) (by omega) (fun i hi => by
    rcases (show i = 0 ∨ i = 1 by omega) with rfl | rfl
    · rw [e _ (by omega)]; exact h2
    · rw [e _ (by omega)]; exact h3)
  rw [rch, if_pos hc, hr, if_neg (ne9 (show b < 2 ^ 31 by omega)), hr2]
  simp [ne9 (show l < 2 ^ 31 by omega)]
end RC9
theorem up_eq {f : Nat → Int32} {k : Nat} {x : Int32} : upd f k x k = x := if_pos rfl
theorem up_lt {f : Nat → Int32} {k j : Nat} {x : Int32} (h : j < k) : upd f k x j = f j := if_neg (by omega)
theorem tlC_sty {a : AS} {v : Nat} (h : Sty a.1.1 a.1.2) : Sty (tlC a v).1.1 (tlC a v).1.2 := by
  unfold tlC
  split
  · refine Sty_app h (n2 := a.1.2 + 3) (fun i hi => ?_) (by omega) (Rd_d (v := v / 7 % 4) ?_ (by omega) ?_ ?_)
    · simp only [ty2, tyA]
      rw [up_lt (by omega), up_lt (by omega), up_lt (by omega)]
    · simp only [ty2, tyA]
      rw [up_lt (by omega), up_lt (by omega), up_eq]; rfl
    · simp only [ty2, tyA]
      rw [up_lt (by omega), up_eq]
    · simp only [ty2, tyA]
      rw [up_eq]
  · split
    · exact Sty_app h (n2 := a.1.2 + 1) (fun i hi => up_lt hi) (by omega) (Rd_w up_eq)
    · split
      · refine Sty_app h (n2 := a.1.2 + 3) (fun i hi => ?_) (by omega) (Rd_c (v := v / 7 % 30) ?_ (by omega) ?_ ?_)
        · simp only [ty2, tyA]
          rw [up_lt (by omega), up_lt (by omega), up_lt (by omega)]
        · simp only [ty2, tyA]
          rw [up_lt (by omega), up_lt (by omega), up_eq]; rfl
        · simp only [ty2, tyA]
          rw [up_lt (by omega), up_eq]
        · simp only [ty2, tyA]
          rw [up_eq]
      · split
        · exact Sty_app h (n2 := a.1.2 + 1) (fun i hi => up_lt hi) (by omega) (Rd_s up_eq)
        · refine Sty_app h (n2 := a.1.2 + 6) (fun i hi => ?_) (by omega) (Rd_p (v := v / 7 % 5) (w := v / 35 % 1000) ?_ (by omega) (by omega) ?_ ?_ ?_ ?_ ?_)
          · simp only [ty3, ty2, tyA]
            rw [up_lt (by omega), up_lt (by omega), up_lt (by omega), up_lt (by omega), up_lt (by omega), up_lt (by omega)]
          · simp only [ty3, ty2, tyA]
            rw [up_lt (by omega), up_lt (by omega), up_lt (by omega), up_lt (by omega), up_lt (by omega), up_eq]; rfl
          · simp only [ty3, ty2, tyA]
            rw [up_lt (by omega), up_lt (by omega), up_lt (by omega), up_lt (by omega), up_eq]
          · simp only [ty3, ty2, tyA]
            rw [up_lt (by omega), up_lt (by omega), up_lt (by omega), up_eq]
          · simp only [ty3, ty2, tyA]
            rw [up_lt (by omega), up_lt (by omega), up_eq]
          · simp only [ty3, ty2, tyA]
            rw [up_lt (by omega), up_eq]
          · simp only [ty3, ty2, tyA]
            rw [up_eq]
theorem tl0_sty {a : AS} {x : Nat} : Sty (tl0 a x).1.1 (tl0 a x).1.2 := by
  refine ⟨Rh_ok (b := 3 + x % 6) (l := if x % 3 = 0 then 1 + x / 6 % 3 else 1 + x / 6 % 99) ?_ (by omega) (by split <;> omega) ?_ ?_ ?_, 0, rfl⟩
  · simp only [tl0, ty2, tyA]
    rw [up_lt (by omega), up_lt (by omega), up_lt (by omega), up_eq]; rfl
  · simp only [tl0, ty2, tyA]
    rw [up_lt (by omega), up_lt (by omega), up_eq]
  · simp only [tl0, ty2, tyA]
    rw [up_lt (by omega), up_eq]
  · simp only [tl0, ty2, tyA]
    rw [up_eq]
theorem tlS_sty {a : AS} {x : Nat} : ∀ i, Sty (tlS a x i).1.1 (tlS a x i).1.2
  | 0 => tl0_sty
  | i + 1 => tlC_sty (tlS_sty i)
theorem tlS_ok {a : AS} {x i : Nat} (hi : i ≤ 11) : feV (feR (tlS a x i).1.1 (tlS a x i).1.2) = -9 := Sty_ok (tlS_sty i) (by have := (tlS_n (a := a) (x := x) i).1; omega)
-- ONE ACT
def acR (a : AS) (x y : Nat) : Int64 × AS :=
  if x % 18 < 3 then (reJ a.2.1 (nI (y % 5)), reA a (nI (y % 5)))
  else if x % 18 < 5 then (swJ a.2.1, swA a)
  else if x % 18 < 7 then (cuJ a.2.1 (nI (y % 14)), cuA a (nI (y % 14)))
  else if x % 18 < 9 then (stJ a.2.1, stA a)
  else if x % 18 = 9 then (poJ a.2.1 (nI (y % 3)), poA a (nI (y % 3)))
  else if x % 18 = 10 then (unJ a, unA a)
  else if x % 18 = 11 then if y % 2 = 0 then (saJ a.2.1 (nI (y / 2 % 2)), saA a (nI (y / 2 % 2))) else (rsJ a (nI (y / 2 % 2)), rsA a (nI (y / 2 % 2)))
  else if y % 3 = 0 then (puJ a.2.1 (nI (y / 3 % 16)) (nI (y / 5 % 1000)), puA a (nI (y / 3 % 16)) (nI (y / 5 % 1000))) else (puJ a.2.1 (nI (y % 5)) (nI (y / 5 % 1000)), puA a (nI (y % 5)) (nI (y / 5 % 1000)))
section AC9
variable {a : AS} {x y : Nat}
theorem acR_rem (h : x % 18 < 3) : acR a x y = (reJ a.2.1 (nI (y % 5)), reA a (nI (y % 5))) := if_pos h
theorem acR_swp (h : 3 ≤ x % 18 ∧ x % 18 < 5) : acR a x y = (swJ a.2.1, swA a) := by rw [acR, if_neg (by omega), if_pos h.2]
theorem acR_cut (h : 5 ≤ x % 18 ∧ x % 18 < 7) : acR a x y = (cuJ a.2.1 (nI (y % 14)), cuA a (nI (y % 14))) := by rw [acR, if_neg (by omega), if_neg (by omega), if_pos h.2]
theorem acR_sta (h : 7 ≤ x % 18 ∧ x % 18 < 9) : acR a x y = (stJ a.2.1, stA a) := by rw [acR, if_neg (by omega), if_neg (by omega), if_neg (by omega), if_pos h.2]
theorem acR_pol (h : x % 18 = 9) : acR a x y = (poJ a.2.1 (nI (y % 3)), poA a (nI (y % 3))) := by rw [acR, if_neg (by omega), if_neg (by omega), if_neg (by omega), if_neg (by omega), if_pos h]
theorem acR_und (h : x % 18 = 10) : acR a x y = (unJ a, unA a) := by rw [acR, if_neg (by omega), if_neg (by omega), if_neg (by omega), if_neg (by omega), if_neg (by omega), if_pos h]
theorem acR_sav (h : x % 18 = 11) (h2 : y % 2 = 0) : acR a x y = (saJ a.2.1 (nI (y / 2 % 2)), saA a (nI (y / 2 % 2))) := by rw [acR, if_neg (by omega), if_neg (by omega), if_neg (by omega), if_neg (by omega), if_neg (by omega), if_neg (by omega), if_pos h, if_pos h2]
theorem acR_rst (h : x % 18 = 11) (h2 : ¬ y % 2 = 0) : acR a x y = (rsJ a (nI (y / 2 % 2)), rsA a (nI (y / 2 % 2))) := by rw [acR, if_neg (by omega), if_neg (by omega), if_neg (by omega), if_neg (by omega), if_neg (by omega), if_neg (by omega), if_pos h, if_neg h2]
theorem acR_put0 (h : 12 ≤ x % 18) (h2 : y % 3 = 0) : acR a x y = (puJ a.2.1 (nI (y / 3 % 16)) (nI (y / 5 % 1000)), puA a (nI (y / 3 % 16)) (nI (y / 5 % 1000))) := by rw [acR, if_neg (by omega), if_neg (by omega), if_neg (by omega), if_neg (by omega), if_neg (by omega), if_neg (by omega), if_neg (by omega), if_pos h2]
theorem acR_put1 (h : 12 ≤ x % 18) (h2 : ¬ y % 3 = 0) : acR a x y = (puJ a.2.1 (nI (y % 5)) (nI (y / 5 % 1000)), puA a (nI (y % 5)) (nI (y / 5 % 1000))) := by rw [acR, if_neg (by omega), if_neg (by omega), if_neg (by omega), if_neg (by omega), if_neg (by omega), if_neg (by omega), if_neg (by omega), if_neg h2]
end AC9
