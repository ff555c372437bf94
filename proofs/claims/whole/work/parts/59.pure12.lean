/-! pure words: nearness, as the class counts it -/
theorem mn_nI {a b : Nat} (ha : a < 2147483648) (hb : b < 2147483648) : (if nI b < nI a then nI b else nI a) = nI (min a b) := by
  by_cases c : b < a
  · rw [if_pos (nI_lt c ha), Nat.min_eq_right (by omega)]
  · rw [if_neg (nI_nlt (by omega) hb), Nat.min_eq_left (by omega)]
def nd (S : tS) (fp : Nat → Int32) (kp k : Nat) : Nat := match S.2.1[k]? with
  | some n => ed_st fp (nF n) kp (nK n)
  | none => 0
theorem nd_at {S : tS} {fp : Nat → Int32} {kp k : Nat} {n : nmD} (h : S.2.1[k]? = some n) : nd S fp kp k = ed_st fp (nF n) kp (nK n) := by
  rw [nd, h]
/-- the nearest of the first i names, as the class keeps it -/
def c_nr (d : Nat → Nat) (i : Nat) (a f : Int32) : Prop := (i = 0 ∧ a = -1 ∧ f = 0) ∨ (0 < i ∧ a = (j_nr d i).1 ∧ ¬ a = -1 ∧ f = nI (j_nr d i).2 ∧ (j_nr d i).2 ≤ 40)
theorem c_nr_e {d : Nat → Nat} {i : Nat} {a f : Int32} (h : c_nr d i a f) : a = (j_nr d i).1 := by
  rcases h with ⟨h1, h2, -⟩ | ⟨-, h2, -⟩
  · subst h1; exact h2
  · exact h2
theorem c_nr_y {d : Nat → Nat} {i : Nat} {a f : Int32} (h : c_nr d i a f) (hd : d i ≤ 40) (hi : i < 2147483648) (hc : a = -1 ∨ nI (d i) < f) : c_nr d (i + 1) (nI i) (nI (d i)) := by
  have key : d i < (j_nr d i).2 := by
    rcases h with ⟨h1, h2, -⟩ | ⟨h0, h2, h3, h4, h5⟩
    · subst h1; show d 0 < 100; omega
    · rcases hc with q | q
      · exact absurd q h3
      · rw [h4] at q; exact nc_lt q (by omega) (by omega)
  have e : j_nr d (i + 1) = (nI i, d i) := by rw [j_nr, if_pos key]
  exact Or.inr ⟨by omega, by rw [e], nI_m1 hi, by rw [e], by rw [e]; exact hd⟩
theorem c_nr_n {d : Nat → Nat} {i : Nat} {a f : Int32} (h : c_nr d i a f) (hd : d i ≤ 40) (h1 : ¬ a = -1) (h2 : ¬ nI (d i) < f) : c_nr d (i + 1) a f := by
  rcases h with ⟨-, q, -⟩ | ⟨h0, g2, g3, g4, g5⟩
  · exact absurd q h1
  · have key : ¬ d i < (j_nr d i).2 := fun z => h2 (by rw [g4]; exact nI_lt z (by omega))
    have e : j_nr d (i + 1) = j_nr d i := by rw [j_nr, if_neg key]
    exact Or.inr ⟨by omega, by rw [e]; exact g2, g3, by rw [e]; exact g4, by rw [e]; exact g5⟩
theorem up_lt {f : Nat → Int32} {k j : Nat} {v : Int32} (h : j ≠ k) : upd f k v j = f j := by simp [upd, h]
theorem up_eq {f : Nat → Int32} {k : Nat} {v : Int32} : upd f k v k = v := by simp [upd]
