/-! feasts -/
theorem x_sgn {x y : Int32} (hy : 0 ≤ y.toInt) : (0 : Int32) ≤ x ^^^ y ↔ 0 ≤ x.toInt := by
  have h1 : (x ^^^ y).toBitVec.msb = (x.toBitVec.msb ^^ y.toBitVec.msb) := BitVec.msb_xor
  have h2 : y.toBitVec.msb = decide (y.toInt < 0) := BitVec.msb_eq_toInt
  have h3 : x.toBitVec.msb = decide (x.toInt < 0) := BitVec.msb_eq_toInt
  have h4 : (x ^^^ y).toBitVec.msb = decide ((x ^^^ y).toInt < 0) := BitVec.msb_eq_toInt
  rw [h2, h3, h4, decide_eq_false (by omega : ¬ y.toInt < 0), Bool.xor_false, decide_eq_decide] at h1
  rw [ii_le, show (0 : Int32).toInt = 0 from by decide]
  omega
theorem ii_neg {x : Int32} (h : -2147483648 < x.toInt) : (-x).toInt = -x.toInt := by
  have h2 := Int32.toInt_lt x
  have c : (0 : Int32).toInt = 0 := by decide
  rw [← Int32.zero_sub, ii_sub (by rw [c]; omega) (by rw [c]; omega), c]
  omega
theorem ii_divn {a b : Int32} (h : a.toInt < 0) (h2 : -2147483648 < a.toInt) (hb : 0 < b.toInt) : (a / b).toInt = -((-a.toInt) / b.toInt) := by
  rw [Int32.toInt_div]
  have e : a.toInt.tdiv b.toInt = -((-a.toInt) / b.toInt) := by
    have h3 : a.toInt = -(-a.toInt) := by omega
    rw [h3, Int.neg_tdiv, Int.tdiv_eq_ediv_of_nonneg (by omega), Int.neg_neg]
  rw [e]
  have h4 : 0 ≤ (-a.toInt) / b.toInt := Int.ediv_nonneg (by omega) (by omega)
  have h5 : (-a.toInt) / b.toInt ≤ -a.toInt := Int.ediv_le_self _ (by omega)
  refine Int.bmod_eq_of_le ?_ ?_ <;> omega
theorem fl_4 {x : Int32} (h1 : -100000000 ≤ x.toInt) (h2 : x.toInt ≤ 100000000) : (j_fl x 4).toInt = x.toInt / 4 := by
  have c : (4 : Int32).toInt = 4 := by decide
  have c0 : (0 : Int32).toInt = 0 := by decide
  have c1 : (1 : Int32).toInt = 1 := by decide
  rw [j_fl]
  by_cases q : (0 : Int32) ≤ x
  · rw [if_pos q]
    rw [ii_le, c0] at q
    rw [ii_div q (by rw [c]; omega), c]
  · rw [if_neg q]
    rw [ii_le, c0] at q
    have e1 : (-x).toInt = -x.toInt := ii_neg (by omega)
    have e2 : (-x + 4).toInt = -x.toInt + 4 := by rw [ii_add (by rw [e1, c]; omega) (by rw [e1, c]; omega), e1, c]
    have e3 : (-x + 4 - 1).toInt = -x.toInt + 4 - 1 := by rw [ii_sub (by rw [e2, c1]; omega) (by rw [e2, c1]; omega), e2, c1]
    have e4 : ((-x + 4 - 1) / 4).toInt = (-x.toInt + 4 - 1) / 4 := by rw [ii_div (by rw [e3]; omega) (by rw [c]; omega), e3, c]
    rw [ii_neg (by rw [e4]; omega), e4]
    omega
theorem fd_4 {x : Int32} (h1 : -100000000 ≤ x.toInt) (h2 : x.toInt ≤ 100000000) : (c_fd x 4).toInt = x.toInt / 4 := by
  have c : (4 : Int32).toInt = 4 := by decide
  have c1 : (1 : Int32).toInt = 1 := by decide
  rw [c_fd]
  by_cases q : (0 : Int32) ≤ x ^^^ 4
  · rw [if_pos q]
    rw [x_sgn (by rw [c]; omega)] at q
    rw [ii_div q (by rw [c]; omega), c]
  · rw [if_neg q]
    rw [x_sgn (by rw [c]; omega)] at q
    have e1 : (x / 4).toInt = -((-x.toInt) / 4) := by rw [ii_divn (by omega) (by omega) (by rw [c]; omega), c]
    have e2 : (x / 4 * 4).toInt = -((-x.toInt) / 4) * 4 := by rw [ii_mul (by rw [e1, c]; omega) (by rw [e1, c]; omega), e1, c]
    by_cases r : x / 4 * 4 = x
    · rw [if_pos r, e1]
      rw [ii_eq, e2] at r
      omega
    · rw [if_neg r, ii_sub (by rw [e1, c1]; omega) (by rw [e1, c1]; omega), e1, c1]
      rw [ii_eq, e2] at r
      omega
theorem fl_7 {x : Int32} (h1 : -100000000 ≤ x.toInt) (h2 : x.toInt ≤ 100000000) : (j_fl x 7).toInt = x.toInt / 7 := by
  have c : (7 : Int32).toInt = 7 := by decide
  have c0 : (0 : Int32).toInt = 0 := by decide
  have c1 : (1 : Int32).toInt = 1 := by decide
  rw [j_fl]
  by_cases q : (0 : Int32) ≤ x
  · rw [if_pos q]
    rw [ii_le, c0] at q
    rw [ii_div q (by rw [c]; omega), c]
  · rw [if_neg q]
    rw [ii_le, c0] at q
    have e1 : (-x).toInt = -x.toInt := ii_neg (by omega)
    have e2 : (-x + 7).toInt = -x.toInt + 7 := by rw [ii_add (by rw [e1, c]; omega) (by rw [e1, c]; omega), e1, c]
    have e3 : (-x + 7 - 1).toInt = -x.toInt + 7 - 1 := by rw [ii_sub (by rw [e2, c1]; omega) (by rw [e2, c1]; omega), e2, c1]
    have e4 : ((-x + 7 - 1) / 7).toInt = (-x.toInt + 7 - 1) / 7 := by rw [ii_div (by rw [e3]; omega) (by rw [c]; omega), e3, c]
    rw [ii_neg (by rw [e4]; omega), e4]
    omega
theorem fd_7 {x : Int32} (h1 : -100000000 ≤ x.toInt) (h2 : x.toInt ≤ 100000000) : (c_fd x 7).toInt = x.toInt / 7 := by
  have c : (7 : Int32).toInt = 7 := by decide
  have c1 : (1 : Int32).toInt = 1 := by decide
  rw [c_fd]
  by_cases q : (0 : Int32) ≤ x ^^^ 7
  · rw [if_pos q]
    rw [x_sgn (by rw [c]; omega)] at q
    rw [ii_div q (by rw [c]; omega), c]
  · rw [if_neg q]
    rw [x_sgn (by rw [c]; omega)] at q
    have e1 : (x / 7).toInt = -((-x.toInt) / 7) := by rw [ii_divn (by omega) (by omega) (by rw [c]; omega), c]
    have e2 : (x / 7 * 7).toInt = -((-x.toInt) / 7) * 7 := by rw [ii_mul (by rw [e1, c]; omega) (by rw [e1, c]; omega), e1, c]
    by_cases r : x / 7 * 7 = x
    · rw [if_pos r, e1]
      rw [ii_eq, e2] at r
      omega
    · rw [if_neg r, ii_sub (by rw [e1, c1]; omega) (by rw [e1, c1]; omega), e1, c1]
      rw [ii_eq, e2] at r
      omega
theorem fl_100 {x : Int32} (h1 : -100000000 ≤ x.toInt) (h2 : x.toInt ≤ 100000000) : (j_fl x 100).toInt = x.toInt / 100 := by
  have c : (100 : Int32).toInt = 100 := by decide
  have c0 : (0 : Int32).toInt = 0 := by decide
  have c1 : (1 : Int32).toInt = 1 := by decide
  rw [j_fl]
  by_cases q : (0 : Int32) ≤ x
  · rw [if_pos q]
    rw [ii_le, c0] at q
    rw [ii_div q (by rw [c]; omega), c]
  · rw [if_neg q]
    rw [ii_le, c0] at q
    have e1 : (-x).toInt = -x.toInt := ii_neg (by omega)
    have e2 : (-x + 100).toInt = -x.toInt + 100 := by rw [ii_add (by rw [e1, c]; omega) (by rw [e1, c]; omega), e1, c]
    have e3 : (-x + 100 - 1).toInt = -x.toInt + 100 - 1 := by rw [ii_sub (by rw [e2, c1]; omega) (by rw [e2, c1]; omega), e2, c1]
    have e4 : ((-x + 100 - 1) / 100).toInt = (-x.toInt + 100 - 1) / 100 := by rw [ii_div (by rw [e3]; omega) (by rw [c]; omega), e3, c]
    rw [ii_neg (by rw [e4]; omega), e4]
    omega
theorem fd_100 {x : Int32} (h1 : -100000000 ≤ x.toInt) (h2 : x.toInt ≤ 100000000) : (c_fd x 100).toInt = x.toInt / 100 := by
  have c : (100 : Int32).toInt = 100 := by decide
  have c1 : (1 : Int32).toInt = 1 := by decide
  rw [c_fd]
  by_cases q : (0 : Int32) ≤ x ^^^ 100
  · rw [if_pos q]
    rw [x_sgn (by rw [c]; omega)] at q
    rw [ii_div q (by rw [c]; omega), c]
  · rw [if_neg q]
    rw [x_sgn (by rw [c]; omega)] at q
    have e1 : (x / 100).toInt = -((-x.toInt) / 100) := by rw [ii_divn (by omega) (by omega) (by rw [c]; omega), c]
    have e2 : (x / 100 * 100).toInt = -((-x.toInt) / 100) * 100 := by rw [ii_mul (by rw [e1, c]; omega) (by rw [e1, c]; omega), e1, c]
    by_cases r : x / 100 * 100 = x
    · rw [if_pos r, e1]
      rw [ii_eq, e2] at r
      omega
    · rw [if_neg r, ii_sub (by rw [e1, c1]; omega) (by rw [e1, c1]; omega), e1, c1]
      rw [ii_eq, e2] at r
      omega
theorem fl_400 {x : Int32} (h1 : -100000000 ≤ x.toInt) (h2 : x.toInt ≤ 100000000) : (j_fl x 400).toInt = x.toInt / 400 := by
  have c : (400 : Int32).toInt = 400 := by decide
  have c0 : (0 : Int32).toInt = 0 := by decide
  have c1 : (1 : Int32).toInt = 1 := by decide
  rw [j_fl]
  by_cases q : (0 : Int32) ≤ x
  · rw [if_pos q]
    rw [ii_le, c0] at q
    rw [ii_div q (by rw [c]; omega), c]
  · rw [if_neg q]
    rw [ii_le, c0] at q
    have e1 : (-x).toInt = -x.toInt := ii_neg (by omega)
    have e2 : (-x + 400).toInt = -x.toInt + 400 := by rw [ii_add (by rw [e1, c]; omega) (by rw [e1, c]; omega), e1, c]
    have e3 : (-x + 400 - 1).toInt = -x.toInt + 400 - 1 := by rw [ii_sub (by rw [e2, c1]; omega) (by rw [e2, c1]; omega), e2, c1]
    have e4 : ((-x + 400 - 1) / 400).toInt = (-x.toInt + 400 - 1) / 400 := by rw [ii_div (by rw [e3]; omega) (by rw [c]; omega), e3, c]
    rw [ii_neg (by rw [e4]; omega), e4]
    omega
theorem fd_400 {x : Int32} (h1 : -100000000 ≤ x.toInt) (h2 : x.toInt ≤ 100000000) : (c_fd x 400).toInt = x.toInt / 400 := by
  have c : (400 : Int32).toInt = 400 := by decide
  have c1 : (1 : Int32).toInt = 1 := by decide
  rw [c_fd]
  by_cases q : (0 : Int32) ≤ x ^^^ 400
  · rw [if_pos q]
    rw [x_sgn (by rw [c]; omega)] at q
    rw [ii_div q (by rw [c]; omega), c]
  · rw [if_neg q]
    rw [x_sgn (by rw [c]; omega)] at q
    have e1 : (x / 400).toInt = -((-x.toInt) / 400) := by rw [ii_divn (by omega) (by omega) (by rw [c]; omega), c]
    have e2 : (x / 400 * 400).toInt = -((-x.toInt) / 400) * 400 := by rw [ii_mul (by rw [e1, c]; omega) (by rw [e1, c]; omega), e1, c]
    by_cases r : x / 400 * 400 = x
    · rw [if_pos r, e1]
      rw [ii_eq, e2] at r
      omega
    · rw [if_neg r, ii_sub (by rw [e1, c1]; omega) (by rw [e1, c1]; omega), e1, c1]
      rw [ii_eq, e2] at r
      omega
theorem fm_7 {x : Int32} (h1 : -100000000 ≤ x.toInt) (h2 : x.toInt ≤ 100000000) : (c_fm x 7).toInt = x.toInt % 7 := by
  have c : (7 : Int32).toInt = 7 := by decide
  have c0 : (0 : Int32).toInt = 0 := by decide
  rw [c_fm]
  by_cases q : (0 : Int32) ≤ x ^^^ 7
  · rw [if_pos q]
    rw [x_sgn (by rw [c]; omega)] at q
    have e1 : (x / 7).toInt = x.toInt / 7 := by rw [ii_div q (by rw [c]; omega), c]
    have e2 : (x / 7 * 7).toInt = x.toInt / 7 * 7 := by rw [ii_mul (by rw [e1, c]; omega) (by rw [e1, c]; omega), e1, c]
    rw [ii_sub (by rw [e2]; omega) (by rw [e2]; omega), e2]
    omega
  · rw [if_neg q]
    rw [x_sgn (by rw [c]; omega)] at q
    have e1 : (x / 7).toInt = -((-x.toInt) / 7) := by rw [ii_divn (by omega) (by omega) (by rw [c]; omega), c]
    have e2 : (x / 7 * 7).toInt = -((-x.toInt) / 7) * 7 := by rw [ii_mul (by rw [e1, c]; omega) (by rw [e1, c]; omega), e1, c]
    have e3 : (x - x / 7 * 7).toInt = x.toInt + (-x.toInt) / 7 * 7 := by rw [ii_sub (by rw [e2]; omega) (by rw [e2]; omega), e2]; omega
    by_cases r : x - x / 7 * 7 = 0
    · rw [if_pos r, e3]
      rw [ii_eq, e3, c0] at r
      omega
    · rw [if_neg r, ii_add (by rw [e3, c]; omega) (by rw [e3, c]; omega), e3, c]
      rw [ii_eq, e3, c0] at r
      omega
/-- the days ahead of a year -/
theorem d0_B {x : Int32} (h : j_in x (-9999) 9999 = true) : 365 * (x - 1) + c_fd (x - 1) 4 - c_fd (x - 1) 100 + c_fd (x - 1) 400 = 365 * (x - 1) + j_fl (x - 1) 4 - j_fl (x - 1) 100 + j_fl (x - 1) 400 ∧ -4000000 ≤ (365 * (x - 1) + j_fl (x - 1) 4 - j_fl (x - 1) 100 + j_fl (x - 1) 400).toInt ∧ (365 * (x - 1) + j_fl (x - 1) 4 - j_fl (x - 1) 100 + j_fl (x - 1) 400).toInt ≤ 4000000 := by
  simp only [j_in, Bool.and_eq_true, Bool.not_eq_true', decide_eq_false_iff_not] at h
  have c1 := k_toInt.2.1
  have c2 := k_toInt.2.2.1
  rw [ii_lt, ii_lt, c1, c2] at h
  have e1 := yb_m (x := x) (by omega) (by omega)
  have c3 : (365 : Int32).toInt = 365 := by decide
  have m1 : (365 * (x - 1)).toInt = 365 * (x.toInt - 1) := by rw [ii_mul (by rw [e1, c3]; omega) (by rw [e1, c3]; omega), e1, c3]
  have f4 := fl_4 (x := x - 1) (by rw [e1]; omega) (by rw [e1]; omega)
  have f100 := fl_100 (x := x - 1) (by rw [e1]; omega) (by rw [e1]; omega)
  have f400 := fl_400 (x := x - 1) (by rw [e1]; omega) (by rw [e1]; omega)
  rw [e1] at f4 f100 f400
  have g4 : c_fd (x - 1) 4 = j_fl (x - 1) 4 := by rw [ii_eq, f4, fd_4 (by rw [e1]; omega) (by rw [e1]; omega), e1]
  have g100 : c_fd (x - 1) 100 = j_fl (x - 1) 100 := by rw [ii_eq, f100, fd_100 (by rw [e1]; omega) (by rw [e1]; omega), e1]
  have g400 : c_fd (x - 1) 400 = j_fl (x - 1) 400 := by rw [ii_eq, f400, fd_400 (by rw [e1]; omega) (by rw [e1]; omega), e1]
  have m2 : (365 * (x - 1) + j_fl (x - 1) 4).toInt = 365 * (x.toInt - 1) + (x.toInt - 1) / 4 := by rw [ii_add (by rw [m1, f4]; omega) (by rw [m1, f4]; omega), m1, f4]
  have m3 : (365 * (x - 1) + j_fl (x - 1) 4 - j_fl (x - 1) 100).toInt = 365 * (x.toInt - 1) + (x.toInt - 1) / 4 - (x.toInt - 1) / 100 := by rw [ii_sub (by rw [m2, f100]; omega) (by rw [m2, f100]; omega), m2, f100]
  have m4 : (365 * (x - 1) + j_fl (x - 1) 4 - j_fl (x - 1) 100 + j_fl (x - 1) 400).toInt = 365 * (x.toInt - 1) + (x.toInt - 1) / 4 - (x.toInt - 1) / 100 + (x.toInt - 1) / 400 := by rw [ii_add (by rw [m3, f400]; omega) (by rw [m3, f400]; omega), m3, f400]
  refine ⟨by rw [g4, g100, g400], ?_, ?_⟩ <;> rw [m4] <;> omega
theorem md_B {x d0 : Int32} (h1 : -4000000 ≤ d0.toInt) (h2 : d0.toInt ≤ 4000000) : ∀ q, q ≤ 12 → -4000000 ≤ (j_md x d0 q).toInt ∧ (j_md x d0 q).toInt ≤ 4000000 + 31 * q := by
  intro q
  induction q with
  | zero => intro _; exact ⟨h1, by rw [j_md]; omega⟩
  | succ q ih =>
    intro hq
    obtain ⟨a, b⟩ := ih (by omega)
    obtain ⟨d, d1, d2, d3⟩ := dy_nat x (nI (q + 1))
    rw [j_md, d3]
    have e : (nI d).toInt = d := nI_toInt (by omega)
    rw [ii_add (by rw [e]; omega) (by rw [e]; omega), e]
    omega
section
variable {dd wk kk : Int32} {F : Nat}
/-- day q + 1 is the one -/
theorem fs_c (h1 : -5000000 ≤ dd.toInt) (h2 : dd.toInt ≤ 5000000) (hw : 0 ≤ wk.toInt ∧ wk.toInt ≤ 6) (hF : (F : Int) = (wk.toInt - dd.toInt) % 7 + 1) {q : Nat} (hq : q < 31) : dd + nI (q + 1) - 1 - 7 * j_fl (dd + nI (q + 1) - 1) 7 = wk ↔ (q + 1 + 7 - F) % 7 = 0 := by
  have c1 := k_toInt.1
  have c7 : (7 : Int32).toInt = 7 := by decide
  have e0 : (nI (q + 1)).toInt = q + 1 := by rw [nI_toInt (by omega)]; omega
  have e1 : (dd + nI (q + 1)).toInt = dd.toInt + (q + 1) := by rw [ii_add (by rw [e0]; omega) (by rw [e0]; omega), e0]
  have e2 : (dd + nI (q + 1) - 1).toInt = dd.toInt + q := by rw [ii_sub (by rw [e1, c1]; omega) (by rw [e1, c1]; omega), e1, c1]; omega
  have e3 := fl_7 (x := dd + nI (q + 1) - 1) (by rw [e2]; omega) (by rw [e2]; omega)
  rw [e2] at e3
  have e4 : (7 * j_fl (dd + nI (q + 1) - 1) 7).toInt = 7 * ((dd.toInt + q) / 7) := by rw [ii_mul (by rw [e3, c7]; omega) (by rw [e3, c7]; omega), e3, c7]
  rw [ii_eq, ii_sub (by rw [e2, e4]; omega) (by rw [e2, e4]; omega), e2, e4]
  omega
theorem fs_n (h1 : -5000000 ≤ dd.toInt) (h2 : dd.toInt ≤ 5000000) (hw : 0 ≤ wk.toInt ∧ wk.toInt ≤ 6) (hF : (F : Int) = (wk.toInt - dd.toInt) % 7 + 1) : ∀ n, n ≤ 31 → (j_fs dd wk kk n).1 = nI ((n + 7 - F) / 7) := by
  intro n
  induction n with
  | zero => intro _; rw [j_fs, show (0 + 7 - F) / 7 = 0 from by omega]; rfl
  | succ q ih =>
    intro hq
    rw [j_fs]
    by_cases z : dd + nI (q + 1) - 1 - 7 * j_fl (dd + nI (q + 1) - 1) 7 = wk
    · rw [if_pos z]
      rw [fs_c h1 h2 hw hF (by omega)] at z
      show (j_fs dd wk kk q).1 + 1 = _
      rw [ih (by omega), nI_1, show (q + 7 - F) / 7 + 1 = (q + 1 + 7 - F) / 7 from by omega]
    · rw [if_neg z, ih (by omega)]
      rw [fs_c h1 h2 hw hF (by omega)] at z
      rw [show (q + 7 - F) / 7 = (q + 1 + 7 - F) / 7 from by omega]
theorem fs_l (h1 : -5000000 ≤ dd.toInt) (h2 : dd.toInt ≤ 5000000) (hw : 0 ≤ wk.toInt ∧ wk.toInt ≤ 6) (hF : (F : Int) = (wk.toInt - dd.toInt) % 7 + 1) (hk : kk = -1) : ∀ n, n ≤ 31 → F ≤ n → (j_fs dd wk kk n).2 = nI (F + (n - F) / 7 * 7) := by
  intro n
  induction n with
  | zero => intro _ h; omega
  | succ q ih =>
    intro hq hf
    rw [j_fs]
    by_cases z : dd + nI (q + 1) - 1 - 7 * j_fl (dd + nI (q + 1) - 1) 7 = wk
    · rw [if_pos z]
      rw [fs_c h1 h2 hw hF (by omega)] at z
      show (if kk = -1 then nI (q + 1) else _) = _
      rw [if_pos hk, show F + (q + 1 - F) / 7 * 7 = q + 1 from by omega]
    · rw [if_neg z]
      rw [fs_c h1 h2 hw hF (by omega)] at z
      rw [ih (by omega) (by omega), show F + (q - F) / 7 * 7 = F + (q + 1 - F) / 7 * 7 from by omega]
theorem fs_k {k : Nat} (h1 : -5000000 ≤ dd.toInt) (h2 : dd.toInt ≤ 5000000) (hw : 0 ≤ wk.toInt ∧ wk.toInt ≤ 6) (hF : (F : Int) = (wk.toInt - dd.toInt) % 7 + 1) (hk : kk = nI (k + 1)) (hk2 : k < 5) : ∀ n, n ≤ 31 → F + k * 7 ≤ n → (j_fs dd wk kk n).2 = nI (F + k * 7) := by
  intro n
  induction n with
  | zero => intro _ h; omega
  | succ q ih =>
    intro hq hf
    have hk1 : ¬ kk = -1 := by rw [hk]; exact nI_m1 (by omega)
    rw [j_fs]
    by_cases z : dd + nI (q + 1) - 1 - 7 * j_fl (dd + nI (q + 1) - 1) 7 = wk
    · rw [if_pos z]
      rw [fs_c h1 h2 hw hF (by omega)] at z
      show (if kk = -1 then nI (q + 1) else if (j_fs dd wk kk q).1 + 1 = kk then nI (q + 1) else (j_fs dd wk kk q).2) = _
      rw [if_neg hk1, fs_n h1 h2 hw hF q (by omega), nI_1, hk]
      by_cases y : (q + 7 - F) / 7 + 1 = k + 1
      · rw [if_pos (by rw [y]), show F + k * 7 = q + 1 from by omega]
      · rw [if_neg (fun h => y (nI_ij (by omega) (by omega) h)), ← hk]
        exact ih (by omega) (by omega)
    · rw [if_neg z]
      rw [fs_c h1 h2 hw hF (by omega)] at z
      exact ih (by omega) (by omega)
end
theorem ff_same {x wk kk : Int32} {mm dn : Nat} (hx : j_in x (-9999) 9999 = true) (hm : mm ≤ 12) (hwk : j_in wk 0 6 = true) (hkk : (decide (kk = -1) || j_in kk 1 5) = true) (hd1 : 28 ≤ dn) (hd2 : dn ≤ 31) (hdn : j_dy x (nI mm) = nI dn) :
    c_ff x mm wk kk = (if kk = -1 then (j_fs (j_md x (365 * (x - 1) + j_fl (x - 1) 4 - j_fl (x - 1) 100 + j_fl (x - 1) 400) (mm - 1)) wk kk dn).2 else if (j_fs (j_md x (365 * (x - 1) + j_fl (x - 1) 4 - j_fl (x - 1) 100 + j_fl (x - 1) 400) (mm - 1)) wk kk dn).1 < kk then 0 else (j_fs (j_md x (365 * (x - 1) + j_fl (x - 1) 4 - j_fl (x - 1) 100 + j_fl (x - 1) 400) (mm - 1)) wk kk dn).2) := by
  obtain ⟨z1, z2, z3⟩ := d0_B hx
  obtain ⟨y1, y2⟩ := md_B (x := x) z2 z3 (mm - 1) (by omega)
  rw [c_ff, c_f1, z1, hdn]
  generalize j_md x (365 * (x - 1) + j_fl (x - 1) 4 - j_fl (x - 1) 100 + j_fl (x - 1) 400) (mm - 1) = dd at y1 y2 ⊢
  have b1 : -5000000 ≤ dd.toInt := by omega
  have b2 : dd.toInt ≤ 5000000 := by omega
  have c0 := k_toInt.2.2.2
  have c1 := k_toInt.1
  have c6 : (6 : Int32).toInt = 6 := by decide
  have c7 : (7 : Int32).toInt = 7 := by decide
  have hw : 0 ≤ wk.toInt ∧ wk.toInt ≤ 6 := by
    simp only [j_in, Bool.and_eq_true, Bool.not_eq_true', decide_eq_false_iff_not] at hwk
    rw [ii_lt, ii_lt, c0, c6] at hwk
    omega
  have e1 := fm_7 (x := dd) (by omega) (by omega)
  have e2 : (wk - c_fm dd 7).toInt = wk.toInt - dd.toInt % 7 := by rw [ii_sub (by rw [e1]; omega) (by rw [e1]; omega), e1]
  have e3 := fm_7 (x := wk - c_fm dd 7) (by rw [e2]; omega) (by rw [e2]; omega)
  rw [e2] at e3
  obtain ⟨F, hF⟩ : ∃ F : Nat, (F : Int) = (wk.toInt - dd.toInt) % 7 + 1 := ⟨((wk.toInt - dd.toInt) % 7 + 1).toNat, by omega⟩
  have e4 : 1 + c_fm (wk - c_fm dd 7) 7 = nI F := by
    rw [ii_eq, nI_toInt (by omega), ii_add (by rw [e3, c1]; omega) (by rw [e3, c1]; omega), e3, c1]
    omega
  rw [e4]
  have hF7 : F ≤ 7 := by omega
  have hF1 : 1 ≤ F := by omega
  have ef : (nI F).toInt = F := nI_toInt (by omega)
  have ed : (nI dn).toInt = dn := nI_toInt (by omega)
  by_cases k1 : kk = -1
  · rw [if_pos k1, if_pos k1, fs_l b1 b2 hw hF k1 dn hd2 (by omega)]
    have e5 : (nI dn - nI F).toInt = dn - F := by rw [ii_sub (by rw [ef, ed]; omega) (by rw [ef, ed]; omega), ef, ed]
    have e6 : ((nI dn - nI F) / 7).toInt = ((dn : Int) - F) / 7 := by rw [ii_div (by rw [e5]; omega) (by rw [c7]; omega), e5, c7]
    have e7 : ((nI dn - nI F) / 7 * 7).toInt = ((dn : Int) - F) / 7 * 7 := by rw [ii_mul (by rw [e6, c7]; omega) (by rw [e6, c7]; omega), e6, c7]
    rw [ii_eq, ii_add (by rw [ef, e7]; omega) (by rw [ef, e7]; omega), ef, e7, nI_toInt (by omega)]
    omega
  · obtain ⟨k, hk2, hk⟩ : ∃ k : Nat, k < 5 ∧ kk = nI (k + 1) := by
      simp only [k1, decide_false, Bool.false_or, j_in, Bool.and_eq_true, Bool.not_eq_true', decide_eq_false_iff_not] at hkk
      have c5 : (5 : Int32).toInt = 5 := by decide
      rw [ii_lt, ii_lt, c1, c5] at hkk
      refine ⟨(kk.toInt - 1).toNat, by omega, ?_⟩
      rw [ii_eq, nI_toInt (by omega)]
      omega
    have e5 : nI F + (kk - 1) * 7 = nI (F + k * 7) := by
      rw [hk, nI_pred, show nI k * 7 = nI (k * 7) from pk_mul k 7]
      exact nI_add F (k * 7)
    rw [if_neg k1, if_neg k1, e5, fs_n b1 b2 hw hF dn hd2]
    by_cases k3 : F + k * 7 ≤ dn
    · rw [if_neg (by rw [ii_lt, ed, nI_toInt (by omega)]; omega), if_neg (by rw [hk, ii_lt, nI_toInt (by omega), nI_toInt (by omega)]; omega), fs_k b1 b2 hw hF hk hk2 dn hd2 k3]
    · rw [if_pos (by rw [ii_lt, ed, nI_toInt (by omega)]; omega), if_pos (by rw [hk, ii_lt, nI_toInt (by omega), nI_toInt (by omega)]; omega)]
set_option maxHeartbeats 1000000 in
theorem tie_feast {κ : gS} {zw : Int32} {kp : Nat} {fp : Nat → Int32} {S : tS} {pn : Nat} {nn : Nat} {sn : Nat} {z18 : Int32} {f1 : Nat → Int32} {f4 : Nat → Int32} {f5 : Nat → Int32} {f6 : Nat → Int32} {f7 : Nat → Int32} {f8 : Nat → Int32} {f9 : Nat → Int32} {f10 : Nat → Int32} {f11 : Nat → Int32} {f12 : Nat → Int32} {f13 : Nat → Int32} {f15 : Nat → Int32} {f16 : Nat → Int32} {f17 : Nat → Int32} {ln : Nat → Nat} {ck : Nat → Nat} {x : Int32} {mo : Int32} {wk : Int32} {kk : Int32} {ov1 : Nat → Int64} {w0 : Int32} {r1 r2 : Int32} (hR : lawR κ zw kp fp S pn nn sn z18 f1 f4 f5 f6 f7 f8 f9 f10 f11 f12 f13 f15 f16 f17 ln ck) (P1 : ((j_in x (-9999) 9999 && (j_in mo 1 12 && j_in wk 0 6)) = false ∧ r1 = 1) ∨ ((j_in x (-9999) 9999 && (j_in mo 1 12 && j_in wk 0 6)) = true ∧ (decide (kk = -1) || j_in kk 1 5) = false ∧ r1 = 1) ∨ ((j_in x (-9999) 9999 && (j_in mo 1 12 && j_in wk 0 6)) = true ∧ (decide (kk = -1) || j_in kk 1 5) = true ∧ ∃ mm, 1 ≤ mm ∧ mm ≤ 12 ∧ mo = nI mm ∧ r1 = 0 ∧ ∃ v : Int32, ov1 0 = v.toInt64 ∧ v = c_ff x mm wk kk)) (P2 : ((j_in x (-9999) 9999 && (j_in mo 1 12 && (j_in wk 0 6 && (decide (kk = -1) || j_in kk 1 5)))) = false ∧ r2 = 0 ∧ w0 = 1) ∨ ((j_in x (-9999) 9999 && (j_in mo 1 12 && (j_in wk 0 6 && (decide (kk = -1) || j_in kk 1 5)))) = true ∧ w0 = 0 ∧ ∃ mm, 1 ≤ mm ∧ mm ≤ 12 ∧ mo = nI mm ∧ ∃ dn, 28 ≤ dn ∧ dn ≤ 31 ∧ j_dy x (nI mm) = nI dn ∧ r2 = (if kk = -1 then (j_fs (j_md x (365 * (x - 1) + j_fl (x - 1) 4 - j_fl (x - 1) 100 + j_fl (x - 1) 400) (mm - 1)) wk kk dn).2 else if (j_fs (j_md x (365 * (x - 1) + j_fl (x - 1) 4 - j_fl (x - 1) 100 + j_fl (x - 1) 400) (mm - 1)) wk kk dn).1 < kk then 0 else (j_fs (j_md x (365 * (x - 1) + j_fl (x - 1) 4 - j_fl (x - 1) 100 + j_fl (x - 1) 400) (mm - 1)) wk kk dn).2))) : w0 = r1 ∧ (r1 = 0 → ov1 0 = r2.toInt64) ∧ lawR κ zw kp fp S pn nn sn z18 f1 f4 f5 f6 f7 f8 f9 f10 f11 f12 f13 f15 f16 f17 ln ck := by
  rcases P1 with ⟨a, rfl⟩ | ⟨a, b, rfl⟩ | ⟨a, b, mm, m1, m2, rfl, rfl, v, hv, rfl⟩
  · rcases P2 with ⟨-, rfl, rfl⟩ | ⟨a', -⟩
    · exact ⟨rfl, fun h => absurd h (by decide), hR⟩
    · exfalso
      simp only [Bool.and_eq_true] at a'
      rw [a'.1, a'.2.1, a'.2.2.1] at a
      cases a
  · rcases P2 with ⟨-, rfl, rfl⟩ | ⟨a', -⟩
    · exact ⟨rfl, fun h => absurd h (by decide), hR⟩
    · exfalso
      simp only [Bool.and_eq_true] at a'
      rw [a'.2.2.2] at b
      cases b
  · simp only [Bool.and_eq_true] at a
    rcases P2 with ⟨a', -⟩ | ⟨a', rfl, mm', n1, n2, e, dn, d1, d2, d3, rfl⟩
    · rw [a.1, a.2.1, a.2.2, b] at a'
      cases a'
    · have e := nI_ij (by omega) (by omega) e
      subst e
      exact ⟨rfl, fun _ => by rw [hv, ff_same a.1 m2 a.2.2 b d1 d2 d3], hR⟩