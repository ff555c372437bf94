/-! pure words: all that is tried; the nearest name -/
/-- the best word when the cores 1 .. c have been tried -/
def j_wf (tr : Option Nat → Nat → List Int32 → List Int32) : Nat → List Int32
  | 0 => []
  | c + 1 => if c + 1 < 100 then tr (some 2) (c + 1) (tr (some 1) (c + 1) (tr (some 0) (c + 1) (tr none (c + 1) (j_wf tr c)))) else tr none (c + 1) (j_wf tr c)
def j_kbo (b : Int32) : Option Nat := if b = 1 then some 4 else if b = 2 then some 5 else none
theorem in_best {x : Int32} {b : Nat} (hb : b ≤ 24) (h : j_in x 0 (nI b - 1) = true) : ∃ k, k < b ∧ x = nI k := by
  simp only [j_in, Bool.and_eq_true, Bool.not_eq_true', decide_eq_false_iff_not] at h
  rcases pk_ix x (n := b) (by omega) with q | q | q
  · exact absurd q h.1
  · refine absurd ?_ h.2
    cases b with
    | zero =>
      have e : nI 0 - 1 = (-1 : Int32) := by decide
      rw [e]
      have q0 : (0 : Int32) ≤ x := q
      rw [Int32.lt_iff_toInt_lt]
      rw [Int32.le_iff_toInt_le] at q0
      have e1 : (-1 : Int32).toInt = -1 := by decide
      have e2 : (0 : Int32).toInt = 0 := by decide
      omega
    | succ b =>
      rw [nI_pred]
      rw [Int32.lt_iff_toInt_lt, nI_toInt (by omega)]
      rw [Int32.le_iff_toInt_le, nI_toInt (by omega)] at q
      omega
  · exact q
theorem in_bin {k b : Nat} (hk : k < b) (hb : b ≤ 24) : j_in (nI k) 0 (nI b - 1) = true := by
  simp only [j_in, Bool.and_eq_true, Bool.not_eq_true', decide_eq_false_iff_not]
  refine ⟨nI_pos (by omega), ?_⟩
  cases b with
  | zero => omega
  | succ b => rw [nI_pred]; exact nI_nlt (by omega) (by omega)
/-- the nearest of the first n names, and how near -/
def j_nr (d : Nat → Nat) : Nat → Int32 × Nat
  | 0 => (-1, 100)
  | n + 1 => if d n < (j_nr d n).2 then (nI n, d n) else j_nr d n
