/-! pure words: feasts -/
/-- the days of the first q months -/
def j_md (y : Int32) (d0 : Int32) : Nat → Int32
  | 0 => d0
  | q + 1 => j_md y d0 q + j_dy y (nI (q + 1))
/-- day q of the month is the day of the week -/
def j_wk (dd wk : Int32) (q : Nat) : Prop := dd + nI q - 1 - 7 * j_fl (dd + nI q - 1) 7 = wk
/-- how many of the first q days, and the one that was found -/
def j_fs (dd wk kk : Int32) : Nat → Int32 × Int32
  | 0 => (0, 0)
  | q + 1 => if dd + nI (q + 1) - 1 - 7 * j_fl (dd + nI (q + 1) - 1) 7 = wk then ((j_fs dd wk kk q).1 + 1, if kk = -1 then nI (q + 1) else if (j_fs dd wk kk q).1 + 1 = kk then nI (q + 1) else (j_fs dd wk kk q).2) else j_fs dd wk kk q
theorem dy_nat (y mo : Int32) : ∃ d : Nat, 28 ≤ d ∧ d ≤ 31 ∧ j_dy y mo = nI d := by
  unfold j_dy
  split
  · split
    · exact ⟨29, by decide, by decide, rfl⟩
    · exact ⟨28, by decide, by decide, rfl⟩
  · split
    · exact ⟨30, by decide, by decide, rfl⟩
    · exact ⟨31, by decide, by decide, rfl⟩
theorem in_1_12 {x : Int32} (h : j_in x 1 12 = true) : ∃ k : Nat, 1 ≤ k ∧ k ≤ 12 ∧ x = nI k := by
  simp only [j_in, Bool.and_eq_true, Bool.not_eq_true', decide_eq_false_iff_not] at h
  rcases pk_ix x (n := 13) (by omega) with q | q | ⟨k, hk, e⟩
  · refine absurd ?_ h.1
    rw [Int32.lt_iff_toInt_lt] at q ⊢
    have e1 : (1 : Int32).toInt = 1 := by decide
    have e2 : (0 : Int32).toInt = 0 := by decide
    omega
  · refine absurd ?_ h.2
    rw [Int32.le_iff_toInt_le, nI_toInt (by omega)] at q
    rw [Int32.lt_iff_toInt_lt]
    have e1 : (12 : Int32).toInt = 12 := by decide
    omega
  · subst e
    exact ⟨k, nc_nlt (b := 1) h.1 (by omega) (by decide), by omega, rfl⟩
