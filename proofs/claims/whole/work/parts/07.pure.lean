/-! PURE ROWS: numbers of 32 bits as integers; distances of rows of letters; no machine here -/
section PureNums
theorem ii_add {a b : Int32} (h1 : -2147483648 ≤ a.toInt + b.toInt) (h2 : a.toInt + b.toInt < 2147483648) : (a + b).toInt = a.toInt + b.toInt := by
  rw [Int32.toInt_add]; exact Int.bmod_eq_of_le (by omega) (by omega)
theorem ii_sub {a b : Int32} (h1 : -2147483648 ≤ a.toInt - b.toInt) (h2 : a.toInt - b.toInt < 2147483648) : (a - b).toInt = a.toInt - b.toInt := by
  rw [Int32.toInt_sub]; exact Int.bmod_eq_of_le (by omega) (by omega)
theorem ii_mul {a b : Int32} (h1 : -2147483648 ≤ a.toInt * b.toInt) (h2 : a.toInt * b.toInt < 2147483648) : (a * b).toInt = a.toInt * b.toInt := by
  rw [Int32.toInt_mul]; exact Int.bmod_eq_of_le (by omega) (by omega)
theorem ii_lt {a b : Int32} : a < b ↔ a.toInt < b.toInt := Int32.lt_iff_toInt_lt
theorem ii_le {a b : Int32} : a ≤ b ↔ a.toInt ≤ b.toInt := Int32.le_iff_toInt_le
theorem ii_eq {a b : Int32} : a = b ↔ a.toInt = b.toInt := Int32.toInt_inj.symm
theorem ii_lo (a : Int32) : -2147483648 ≤ a.toInt := Int32.le_toInt a
theorem ii_hi (a : Int32) : a.toInt < 2147483648 := Int32.toInt_lt a
end PureNums
section PureEdit
/-- one more sign: the row of distances behind it, out of the row ahead of it -/
def ed_nx (prev : Nat → Nat) (i : Nat) (s : Int32) (w : Nat → Int32) : Nat → Nat
  | 0 => i + 1
  | j + 1 => min (prev j + (if s = w j then 0 else 1)) (min (prev (j + 1)) (ed_nx prev i s w j) + 1)
/-- letters changed, put in or left out: from the first i signs of p to the first j of w -/
def ed_st (p w : Nat → Int32) : Nat → Nat → Nat
  | 0 => fun j => j
  | i + 1 => ed_nx (ed_st p w i) i (p i) w
theorem ed_00 (p w : Nat → Int32) (j : Nat) : ed_st p w 0 j = j := rfl
theorem ed_i0 (p w : Nat → Int32) (i : Nat) : ed_st p w i 0 = i := by
  cases i with
  | zero => rfl
  | succ i => rfl
theorem ed_ss (p w : Nat → Int32) (i j : Nat) : ed_st p w (i + 1) (j + 1) = min (ed_st p w i j + (if p i = w j then 0 else 1)) (min (ed_st p w i (j + 1)) (ed_st p w (i + 1) j) + 1) := rfl
theorem ed_le (p w : Nat → Int32) : ∀ i j, ed_st p w i j ≤ i + j := by
  intro i
  induction i with
  | zero => intro j; rw [ed_00]; omega
  | succ i ih =>
    intro j
    induction j with
    | zero => rw [ed_i0]; omega
    | succ j jh =>
      rw [ed_ss]
      have h1 := ih (j + 1)
      omega
end PureEdit
