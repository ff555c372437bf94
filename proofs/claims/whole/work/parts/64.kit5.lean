/-! a throw behind changes -/
def xQ {S : Type} (E : String) (D : va_G) (T : gT) (A : Nat → Prop) (f : S → va_W) : String → State → State → Prop := vx_X (fun _ : S => True) (fun E' u t => E' = E ∧ qB D T A f u t) A
theorem wl_no {x : Int32} {k : Nat} (h0 : ¬ x < 0) (h1 : x < nI k) (hk : k ≤ 24) : ∃ i, i < k ∧ x = nI i := by
  have c0 : (0 : Int32).toInt = 0 := by decide
  rw [ii_lt, c0] at h0
  rw [ii_lt, nI_toInt (by omega)] at h1
  refine ⟨x.toInt.toNat, by omega, ?_⟩
  rw [ii_eq, nI_toInt (by omega)]
  omega
/-- a day's feast, as the class reckons it -/
def c_f1 (x : Int32) (mm : Nat) (wk : Int32) : Int32 := 1 + c_fm (wk - c_fm (j_md x (365 * (x - 1) + c_fd (x - 1) 4 - c_fd (x - 1) 100 + c_fd (x - 1) 400) (mm - 1)) 7) 7
def c_ff (x : Int32) (mm : Nat) (wk kk : Int32) : Int32 := if kk = -1 then c_f1 x mm wk + (j_dy x (nI mm) - c_f1 x mm wk) / 7 * 7 else if j_dy x (nI mm) < c_f1 x mm wk + (kk - 1) * 7 then 0 else c_f1 x mm wk + (kk - 1) * 7
theorem ft_7 {x : Int32} (h : ¬ 6 < x) : x < 7 := by
  have c6 : (6 : Int32).toInt = 6 := by decide
  have c7 : (7 : Int32).toInt = 7 := by decide
  rw [ii_lt, c6] at h
  rw [ii_lt, c7]
  omega
theorem ft_6 {x : Int32} (h : x < 7) : ¬ 6 < x := by
  have c6 : (6 : Int32).toInt = 6 := by decide
  have c7 : (7 : Int32).toInt = 7 := by decide
  rw [ii_lt, c7] at h
  rw [ii_lt, c6]
  omega
theorem ft_k {kk : Int32} (h : (decide (kk = -1) || j_in kk 1 5) = true) : kk = -1 ∨ (¬ kk = -1 ∧ ¬ kk < 1 ∧ kk ≤ 5) := by
  by_cases e : kk = -1
  · exact Or.inl e
  · right
    simp only [e, decide_false, Bool.false_or] at h
    obtain ⟨h1, h2⟩ : ¬ kk < 1 ∧ ¬ 5 < kk := by simpa [j_in] using h
    exact ⟨e, h1, Int32.not_lt.mp h2⟩
