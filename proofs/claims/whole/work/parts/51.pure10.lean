/-! pure words: what stands in found, and what beginnings make of it -/
theorem ii_div {a b : Int32} (h : 0 ≤ a.toInt) (hb : 0 < b.toInt) : (a / b).toInt = a.toInt / b.toInt := by
  have h1 := ii_lo a
  have h2 : a.toInt < 2147483648 := Int32.toInt_lt a
  rw [Int32.toInt_div, Int.tdiv_eq_ediv_of_nonneg h]
  have h3 : 0 ≤ a.toInt / b.toInt := Int.ediv_nonneg h (by omega)
  have h4 : a.toInt / b.toInt ≤ a.toInt := Int.ediv_le_self _ h
  exact Int.bmod_eq_of_le (by omega) (by omega)
/-- what is found as the reference has it: years in range where nothing is open -/
def jOk (u : jS) : Prop := u.2.2 = 1 ∨ u.2.2 = 2 ∨ (u.2.2 = 0 ∧ -9999 ≤ u.1.toInt ∧ u.1.toInt ≤ u.2.1.toInt ∧ u.2.1.toInt ≤ 9999)
/-- the class's years for it -/
def fnd (u : jS) (x y : Int32) (b c : Bool) : Prop := x = j_lo u.2.2 u.1 ∧ y = j_hi u.2.2 u.2.1 ∧ b = j_op u.2.2 0 ∧ c = j_op u.2.2 1
theorem op_00 : j_op 0 0 = false := by decide
theorem op_01 : j_op 0 1 = false := by decide
theorem op_10 : j_op 1 0 = true := by decide
theorem op_11 : j_op 1 1 = false := by decide
theorem op_20 : j_op 2 0 = false := by decide
theorem op_21 : j_op 2 1 = true := by decide
theorem fnd_0 {u : jS} {x y : Int32} {b c : Bool} (h : fnd u x y b c) (h0 : u.2.2 = 0) : x = u.1 ∧ y = u.2.1 ∧ b = false ∧ c = false := by
  obtain ⟨h1, h2, h3, h4⟩ := h
  rw [h0] at h1 h2 h3 h4
  refine ⟨by rw [h1, j_lo, op_00]; rfl, by rw [h2, j_hi, op_01]; rfl, by rw [h3, op_00], by rw [h4, op_01]⟩
theorem fnd_n {u : jS} {x y : Int32} {b c : Bool} (h : fnd u x y b c) (h0 : u.2.2 = 1 ∨ u.2.2 = 2) : (b || c) = true := by
  obtain ⟨-, -, h3, h4⟩ := h
  rcases h0 with e | e
  · rw [e] at h3 h4; rw [h3, h4]; decide
  · rw [e] at h3 h4; rw [h3, h4]; decide
theorem fnd_of {x y : Int32} : fnd (x, y, 0) x y false false := ⟨by rw [j_lo, op_00]; rfl, by rw [j_hi, op_01]; rfl, op_00.symm, op_01.symm⟩
theorem ap_n {wd : Int32} {b : Nat} {u : jS} (h : u.2.2 = 1 ∨ u.2.2 = 2) : j_ap wd b u = none := by
  rw [j_ap, if_neg]
  rcases h with e | e <;> rw [e] <;> decide
abbrev apQ (wd : Int32) (b : Nat) (u : jS) (r w0 w1 : Int32) (v2 v3 : Bool) : Prop := (r = 1 ∧ ∃ u1, j_ap wd b u = some u1 ∧ jOk u1 ∧ fnd u1 w0 w1 v2 v3) ∨ (r = 0 ∧ j_ap wd b u = none)
theorem bg_th {wd : Int32} {b : Nat} {u : jS} {e0 e1 r w0 w1 : Int32} {oF oT : Bool} (hb : b < 3) (hu : jOk u) (hf : fnd u e0 e1 oF oT)
    (h : ((oF || oT) = false ∧ ¬ (e1 - e0 + 1) / 3 < 1 ∧ r = 1 ∧ w0 = e0 + nI b * ((e1 - e0 + 1) / 3) ∧ w1 = (if nI b = 2 then e1 else e0 + nI b * ((e1 - e0 + 1) / 3) + (e1 - e0 + 1) / 3 - 1)) ∨ (((oF || oT) = true ∨ (e1 - e0 + 1) / 3 < 1) ∧ r = 0 ∧ w0 = e0 ∧ w1 = e1)) : apQ wd b u r w0 w1 oF oT := by
  rcases hu with h1 | h1 | ⟨h1, h2, h3, h4⟩
  · have hn := fnd_n hf (Or.inl h1)
    rcases h with ⟨q, -⟩ | ⟨-, q, -⟩
    · rw [hn] at q; cases q
    · exact Or.inr ⟨q, ap_n (Or.inl h1)⟩
  · have hn := fnd_n hf (Or.inr h1)
    rcases h with ⟨q, -⟩ | ⟨-, q, -⟩
    · rw [hn] at q; cases q
    · exact Or.inr ⟨q, ap_n (Or.inr h1)⟩
  obtain ⟨f1, f2, f3, f4⟩ := fnd_0 hf h1
  subst f1 f2 f3 f4
  have n3 : ¬ (3 : Int32) ≤ nI b := (fun z => absurd (nc_le (a := 3) (b := b) z (by decide) (by omega)) (by omega))
  have hs : (u.2.1 - u.1).toInt = u.2.1.toInt - u.1.toInt := ii_sub (by omega) (by omega)
  have h11 : (1 : Int32).toInt = 1 := by decide
  have hs1 : (u.2.1 - u.1 + 1).toInt = u.2.1.toInt - u.1.toInt + 1 := by rw [ii_add (by rw [hs, h11]; omega) (by rw [hs, h11]; omega), hs, h11]
  have h33 : (3 : Int32).toInt = 3 := by decide
  have ht : ((u.2.1 - u.1 + 1) / 3).toInt = (u.2.1.toInt - u.1.toInt + 1) / 3 := by rw [ii_div (by rw [hs1]; omega) (by rw [h33]; omega), hs1, h33]
  have e1 : ¬ ((u.2.1 - u.1 + 1) / 3 < 1) ↔ ¬ ((u.2.1 - u.1 + 1) / 3 ≤ 0) := by
    rw [ii_lt, ii_le, h11, show (0 : Int32).toInt = 0 by decide]; omega
  rcases h with ⟨-, q, q2, q3, q4⟩ | ⟨q, q2, q3, q4⟩
  · have q' := e1.mp q
    refine Or.inl ⟨q2, (w0, w1, 0), ?_, ?_, fnd_of⟩
    · rw [j_ap, if_pos h1, j_mR, if_neg n3, decide_eq_false q', j_mF, if_neg n3, j_mL, if_neg n3, j_mO, if_neg n3, q3, q4]; rfl
    · rw [ii_lt, ht, h11] at q
      refine Or.inr (Or.inr ⟨rfl, ?_⟩)
      have hbI : (nI b).toInt = (b : Int) := nI_toInt (by omega)
      have hbc : b = 0 ∨ b = 1 ∨ b = 2 := by omega
      have hm : (nI b * ((u.2.1 - u.1 + 1) / 3)).toInt = (b : Int) * ((u.2.1.toInt - u.1.toInt + 1) / 3) := by
        rw [ii_mul (by rw [hbI, ht]; rcases hbc with e | e | e <;> subst e <;> omega) (by rw [hbI, ht]; rcases hbc with e | e | e <;> subst e <;> omega), hbI, ht]
      have ha : (u.1 + nI b * ((u.2.1 - u.1 + 1) / 3)).toInt = u.1.toInt + (b : Int) * ((u.2.1.toInt - u.1.toInt + 1) / 3) := by
        rw [ii_add (by rw [hm]; rcases hbc with e | e | e <;> subst e <;> omega) (by rw [hm]; rcases hbc with e | e | e <;> subst e <;> omega), hm]
      have hA2 : (u.1 + nI b * ((u.2.1 - u.1 + 1) / 3) + (u.2.1 - u.1 + 1) / 3).toInt = u.1.toInt + (b : Int) * ((u.2.1.toInt - u.1.toInt + 1) / 3) + (u.2.1.toInt - u.1.toInt + 1) / 3 := by
        rw [ii_add (by rw [ha, ht]; rcases hbc with e | e | e <;> subst e <;> omega) (by rw [ha, ht]; rcases hbc with e | e | e <;> subst e <;> omega), ha, ht]
      have hA3 : (u.1 + nI b * ((u.2.1 - u.1 + 1) / 3) + (u.2.1 - u.1 + 1) / 3 - 1).toInt = u.1.toInt + (b : Int) * ((u.2.1.toInt - u.1.toInt + 1) / 3) + (u.2.1.toInt - u.1.toInt + 1) / 3 - 1 := by
        rw [ii_sub (by rw [hA2, h11]; rcases hbc with e | e | e <;> subst e <;> omega) (by rw [hA2, h11]; rcases hbc with e | e | e <;> subst e <;> omega), hA2, h11]
      show -9999 ≤ w0.toInt ∧ w0.toInt ≤ w1.toInt ∧ w1.toInt ≤ 9999
      rw [q3, q4, ha]
      by_cases h2' : nI b = 2
      · have hb2 : b = 2 := (nI_eq (a := b) (b := 2) (by omega) (by decide)).mp h2'
        rw [if_pos h2']; subst hb2; omega
      · rw [if_neg h2', hA3]
        rcases hbc with e | e | e
        · subst e; omega
        · subst e; omega
        · exact absurd (show nI b = 2 by rw [e]; rfl) h2'
  · refine Or.inr ⟨q2, ?_⟩
    have q' : (u.2.1 - u.1 + 1) / 3 ≤ 0 := by
      rcases q with q | q
      · cases q
      · exact Classical.not_not.mp (fun z => (e1.mpr z) q)
    rw [j_ap, if_pos h1, j_mR, if_neg n3, decide_eq_true q', if_neg (by decide)]
theorem m3_R {wd x y : Int32} : j_mR (nI 3) wd x y = true := by rw [j_mR, if_pos (by decide), if_pos (by decide)]
theorem m3_F {wd x y : Int32} : j_mF (nI 3) wd x y = (if -9999 ≤ x - wd then x - wd else -9999) := by rw [j_mF, if_pos (by decide), if_pos (by decide)]
theorem m3_L {wd x y : Int32} : j_mL (nI 3) wd x y = (if y + wd ≤ 9999 then y + wd else 9999) := by rw [j_mL, if_pos (by decide), if_pos (by decide)]
theorem m3_O : j_mO (nI 3) = 0 := by rw [j_mO, if_pos (by decide), if_pos (by decide)]
theorem bg_wi {wd : Int32} {u : jS} {e0 e1 r w0 w1 : Int32} {oF oT : Bool} (hw0 : 0 ≤ wd.toInt) (hw1 : wd.toInt ≤ 1000) (hu : jOk u) (hf : fnd u e0 e1 oF oT)
    (h : ((oF || oT) = false ∧ r = 1 ∧ w0 = (if -9999 < e0 - wd then e0 - wd else -9999) ∧ w1 = (if e1 + wd < 9999 then e1 + wd else 9999)) ∨ ((oF || oT) = true ∧ r = 0 ∧ w0 = e0 ∧ w1 = e1)) : apQ wd 3 u r w0 w1 oF oT := by
  rcases hu with h1 | h1 | ⟨h1, h2, h3, h4⟩
  · have hn := fnd_n hf (Or.inl h1)
    rcases h with ⟨q, -⟩ | ⟨-, q, -⟩
    · rw [hn] at q; cases q
    · exact Or.inr ⟨q, ap_n (Or.inl h1)⟩
  · have hn := fnd_n hf (Or.inr h1)
    rcases h with ⟨q, -⟩ | ⟨-, q, -⟩
    · rw [hn] at q; cases q
    · exact Or.inr ⟨q, ap_n (Or.inr h1)⟩
  obtain ⟨f1, f2, f3, f4⟩ := fnd_0 hf h1
  subst f1 f2 f3 f4
  rcases h with ⟨-, q2, q3, q4⟩ | ⟨q, -⟩
  · have hs : (u.1 - wd).toInt = u.1.toInt - wd.toInt := ii_sub (by omega) (by omega)
    have ha : (u.2.1 + wd).toInt = u.2.1.toInt + wd.toInt := ii_add (by omega) (by omega)
    have c1 : (-9999 : Int32).toInt = -9999 := by decide
    have c2 : (9999 : Int32).toInt = 9999 := by decide
    have q3' : w0 = (if -9999 ≤ u.1 - wd then u.1 - wd else -9999) := by
      rw [q3]
      by_cases z : -9999 < u.1 - wd
      · rw [if_pos z, if_pos (Int32.le_of_lt z)]
      · rw [if_neg z]
        by_cases z2 : -9999 ≤ u.1 - wd
        · rw [if_pos z2]; rw [ii_lt] at z; rw [ii_le] at z2; rw [ii_eq]; omega
        · rw [if_neg z2]
    have q4' : w1 = (if u.2.1 + wd ≤ 9999 then u.2.1 + wd else 9999) := by
      rw [q4]
      by_cases z : u.2.1 + wd < 9999
      · rw [if_pos z, if_pos (Int32.le_of_lt z)]
      · rw [if_neg z]
        by_cases z2 : u.2.1 + wd ≤ 9999
        · rw [if_pos z2]; rw [ii_lt] at z; rw [ii_le] at z2; rw [ii_eq]; omega
        · rw [if_neg z2]
    refine Or.inl ⟨q2, (w0, w1, 0), ?_, Or.inr (Or.inr ⟨rfl, ?_⟩), fnd_of⟩
    · rw [j_ap, if_pos h1, m3_R, if_pos rfl, m3_F, m3_L, m3_O, q3', q4']
    · show -9999 ≤ w0.toInt ∧ w0.toInt ≤ w1.toInt ∧ w1.toInt ≤ 9999
      rw [q3, q4]
      by_cases z : -9999 < u.1 - wd <;> by_cases z2 : u.2.1 + wd < 9999
      · rw [if_pos z, if_pos z2, hs, ha]; rw [ii_lt, hs, c1] at z; rw [ii_lt, ha, c2] at z2; omega
      · rw [if_pos z, if_neg z2, hs, c2]; rw [ii_lt, hs, c1] at z; rw [ii_lt, ha, c2] at z2; omega
      · rw [if_neg z, if_pos z2, c1, ha]; rw [ii_lt, hs, c1] at z; rw [ii_lt, ha, c2] at z2; omega
      · rw [if_neg z, if_neg z2, c1, c2]; omega
  · cases q
theorem bg_be {wd : Int32} {u : jS} {e0 e1 r w0 w1 : Int32} {oF oT v2 : Bool} (hu : jOk u) (hf : fnd u e0 e1 oF oT)
    (h : ((oF || oT) = false ∧ ¬ e0 = -9999 ∧ r = 1 ∧ w0 = -9999 ∧ w1 = e0 - 1 ∧ v2 = true) ∨ (((oF || oT) = true ∨ e0 = -9999) ∧ r = 0 ∧ w0 = e0 ∧ w1 = e1 ∧ v2 = oF)) : apQ wd 4 u r w0 w1 v2 oT := by
  rcases hu with h1 | h1 | ⟨h1, h2, h3, h4⟩
  · have hn := fnd_n hf (Or.inl h1)
    rcases h with ⟨q, -⟩ | ⟨-, q, -⟩
    · rw [hn] at q; cases q
    · exact Or.inr ⟨q, ap_n (Or.inl h1)⟩
  · have hn := fnd_n hf (Or.inr h1)
    rcases h with ⟨q, -⟩ | ⟨-, q, -⟩
    · rw [hn] at q; cases q
    · exact Or.inr ⟨q, ap_n (Or.inr h1)⟩
  obtain ⟨f1, f2, f3, f4⟩ := fnd_0 hf h1
  subst f1 f2 f3 f4
  have c1 : (-9999 : Int32).toInt = -9999 := by decide
  have h11 : (1 : Int32).toInt = 1 := by decide
  have hs : (u.1 - 1).toInt = u.1.toInt - 1 := by rw [ii_sub (by rw [h11]; omega) (by rw [h11]; omega), h11]
  have eR : j_mR (nI 4) wd u.1 u.2.1 = !decide (u.1 - 1 < -9999) := rfl
  have e2 : ¬ u.1 = -9999 ↔ ¬ (u.1 - 1 < -9999) := by rw [ii_lt, ii_eq, hs, c1]; omega
  rcases h with ⟨-, q, q2, q3, q4, q5⟩ | ⟨q, q2, -⟩
  · subst q3 q4 q5
    refine Or.inl ⟨q2, (u.1, u.1 - 1, 1), ?_, Or.inl rfl, ⟨?_, ?_, ?_, ?_⟩⟩
    · rw [j_ap, if_pos h1, eR, decide_eq_false (e2.mp q)]; rfl
    · rw [j_lo, op_10]; rfl
    · rw [j_hi, op_11]; rfl
    · exact op_10.symm
    · exact op_11.symm
  · refine Or.inr ⟨q2, ?_⟩
    have q' : u.1 - 1 < -9999 := by
      rcases q with q | q
      · cases q
      · exact Classical.not_not.mp (fun z => (e2.mpr z) q)
    rw [j_ap, if_pos h1, eR, decide_eq_true q', if_neg (by decide)]
theorem bg_af {wd : Int32} {u : jS} {e0 e1 r w0 w1 : Int32} {oF oT v3 : Bool} (hu : jOk u) (hf : fnd u e0 e1 oF oT)
    (h : ((oF || oT) = false ∧ ¬ e1 = 9999 ∧ r = 1 ∧ w0 = e1 + 1 ∧ w1 = 9999 ∧ v3 = true) ∨ (((oF || oT) = true ∨ e1 = 9999) ∧ r = 0 ∧ w0 = e0 ∧ w1 = e1 ∧ v3 = oT)) : apQ wd 5 u r w0 w1 oF v3 := by
  rcases hu with h1 | h1 | ⟨h1, h2, h3, h4⟩
  · have hn := fnd_n hf (Or.inl h1)
    rcases h with ⟨q, -⟩ | ⟨-, q, -⟩
    · rw [hn] at q; cases q
    · exact Or.inr ⟨q, ap_n (Or.inl h1)⟩
  · have hn := fnd_n hf (Or.inr h1)
    rcases h with ⟨q, -⟩ | ⟨-, q, -⟩
    · rw [hn] at q; cases q
    · exact Or.inr ⟨q, ap_n (Or.inr h1)⟩
  obtain ⟨f1, f2, f3, f4⟩ := fnd_0 hf h1
  subst f1 f2 f3 f4
  have c1 : (9999 : Int32).toInt = 9999 := by decide
  have h11 : (1 : Int32).toInt = 1 := by decide
  have hs : (u.2.1 + 1).toInt = u.2.1.toInt + 1 := by rw [ii_add (by rw [h11]; omega) (by rw [h11]; omega), h11]
  have eR : j_mR (nI 5) wd u.1 u.2.1 = !decide (9999 < u.2.1 + 1) := rfl
  have e2 : ¬ u.2.1 = 9999 ↔ ¬ (9999 < u.2.1 + 1) := by rw [ii_lt, ii_eq, hs, c1]; omega
  rcases h with ⟨-, q, q2, q3, q4, q5⟩ | ⟨q, q2, -⟩
  · subst q3 q4 q5
    refine Or.inl ⟨q2, (u.2.1 + 1, u.2.1, 2), ?_, Or.inr (Or.inl rfl), ⟨?_, ?_, ?_, ?_⟩⟩
    · rw [j_ap, if_pos h1, eR, decide_eq_false (e2.mp q)]; rfl
    · rw [j_lo, op_20]; rfl
    · rw [j_hi, op_21]; rfl
    · exact op_20.symm
    · exact op_21.symm
  · refine Or.inr ⟨q2, ?_⟩
    have q' : 9999 < u.2.1 + 1 := by
      rcases q with q | q
      · cases q
      · exact Classical.not_not.mp (fun z => (e2.mpr z) q)
    rw [j_ap, if_pos h1, eR, decide_eq_true q', if_neg (by decide)]
