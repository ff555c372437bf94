/-! pure words: centuries; the core of a word -/
theorem dig {x : Int32} (h : j_in x 48 57 = true) : ∃ d, d ≤ 9 ∧ x = nI (48 + d) := by
  obtain ⟨h1, h2⟩ : ¬ x < 48 ∧ ¬ 57 < x := by simpa [j_in] using h
  have c1 : (48 : Int32).toInt = 48 := by decide
  have c2 : (57 : Int32).toInt = 57 := by decide
  rw [ii_lt, c1] at h1
  rw [ii_lt, c2] at h2
  refine ⟨x.toInt.toNat - 48, by omega, ?_⟩
  rw [ii_eq, nI_toInt (by omega)]
  omega
theorem nb_1 {x : Int32} : 10 * 0 + x - 48 = x - 48 := by
  rw [show (10 * 0 : Int32) = 0 by decide, Int32.zero_add]
theorem dig_s {d : Nat} : nI (48 + d) - 48 = nI d := by
  have k := pk_sub (a := 48 + d) (b := 48) (by omega)
  rw [Nat.add_sub_cancel_left] at k
  exact k
theorem cv_nat {f : Nat → Int32} {k t : Nat} (h : j_ce f k t = true) : ∃ v, v ≤ 99 ∧ j_cv f k t = nI v := by
  simp only [j_ce, Bool.and_eq_true, Bool.or_eq_true, decide_eq_true_eq] at h
  obtain ⟨⟨⟨h1, h2⟩, h3⟩, h4⟩ := h
  obtain ⟨d, hd, ed⟩ := dig h3
  rw [j_cv]
  by_cases c : t + 2 = k
  · rw [if_pos c, ed, dig_s]; exact ⟨d, by omega, rfl⟩
  · rw [if_neg c]
    have hk : k - 2 = t + 1 := by omega
    rw [hk] at h4
    obtain ⟨e, he, ee⟩ := dig h4
    rw [ed, ee, dig_s]
    refine ⟨10 * d + e, by omega, ?_⟩
    have q1 : (10 : Int32) * nI d = nI (10 * d) := pk_mul 10 d
    have q2 : nI (10 * d) + nI (48 + e) = nI (10 * d + (48 + e)) := nI_add _ _
    rw [q1, q2, show 10 * d + (48 + e) = 48 + (10 * d + e) by omega, dig_s]
theorem cv_in {f : Nat → Int32} {k t : Nat} (h : j_ce f k t = true) : j_in (j_cv f k t) 1 99 = !decide (j_cv f k t ≤ 0) := by
  obtain ⟨v, hv, e⟩ := cv_nat h
  rw [e]
  have c2 : ¬ (99 : Int32) < nI v := (show ¬ nI 99 < nI v from nI_nlt (by omega) (by decide))
  by_cases c : v = 0
  · subst c; decide
  · have q1 : ¬ nI v < 1 := (show ¬ nI v < nI 1 from nI_nlt (by omega) (by omega))
    have q2 : ¬ nI v ≤ 0 := nI_nle (by omega) (by omega)
    simp [j_in, q1, q2, c2]
theorem cv_ok {f : Nat → Int32} {k t : Nat} (h : j_ce f k t = true) (h0 : ¬ j_cv f k t ≤ 0) : jOk (100 * (j_cv f k t - 1) + 1, 100 * j_cv f k t, 0) := by
  obtain ⟨v, hv, e⟩ := cv_nat h
  rw [e] at h0 ⊢
  have hv1 : 1 ≤ v := by
    rcases Nat.lt_or_ge 0 v with q | q
    · exact q
    · exact absurd (show nI v ≤ 0 by rw [show v = 0 by omega]; decide) h0
  have q1 : nI v - 1 = nI (v - 1) := pk_sub (a := v) (b := 1) hv1
  have q2 : (100 : Int32) * nI (v - 1) = nI (100 * (v - 1)) := pk_mul 100 (v - 1)
  have q3 : (100 : Int32) * nI v = nI (100 * v) := pk_mul 100 v
  refine Or.inr (Or.inr ⟨rfl, ?_⟩)
  show -9999 ≤ (100 * (nI v - 1) + 1).toInt ∧ (100 * (nI v - 1) + 1).toInt ≤ (100 * nI v).toInt ∧ (100 * nI v).toInt ≤ 9999
  rw [q1, q2, q3, nI_1, nI_toInt (by omega), nI_toInt (by omega)]
  omega
theorem dg_no {kp t : Nat} (hk : kp ≤ 24) (ht : t ≤ kp) (h2 : ¬ kp = t + 2) (h3 : ¬ kp = t + 3) (a : ¬ nI kp - 1 - nI t < 1) (b : ¬ 2 < nI kp - 1 - nI t) : False := by
  have e1 : (nI kp).toInt = kp := nI_toInt (by omega)
  have e2 : (nI t).toInt = t := nI_toInt (by omega)
  have h11 : (1 : Int32).toInt = 1 := by decide
  have h22 : (2 : Int32).toInt = 2 := by decide
  have s1 : (nI kp - 1).toInt = kp - 1 := by rw [ii_sub (by rw [e1, h11]; omega) (by rw [e1, h11]; omega), e1, h11]
  have s2 : (nI kp - 1 - nI t).toInt = kp - 1 - t := by rw [ii_sub (by rw [s1, e2]; omega) (by rw [s1, e2]; omega), s1, e2]
  rw [ii_lt, s2, h11] at a
  rw [ii_lt, s2, h22] at b
  omega
theorem ce_len {f : Nat → Int32} {k t : Nat} (h2 : ¬ k = t + 2) (h3 : ¬ k = t + 3) : j_ce f k t = false := by
  rw [j_ce, decide_eq_false (fun e => h2 e.symm), decide_eq_false (fun e => h3 e.symm)]; rfl
theorem ce_c {f : Nat → Int32} {k t : Nat} (h : ¬ f (k - 1) = 99) : j_ce f k t = false := by
  rw [j_ce, decide_eq_false h]; simp
theorem ce_d {f : Nat → Int32} {k t : Nat} (h : j_in (f t) 48 57 = false) : j_ce f k t = false := by
  rw [j_ce, h]; simp
theorem ce_e {f : Nat → Int32} {k t : Nat} (h : j_in (f (k - 2)) 48 57 = false) : j_ce f k t = false := by
  rw [j_ce, h]; simp
theorem ce_2 {f : Nat → Int32} {t : Nat} (h1 : f (t + 1) = 99) (h2 : j_in (f t) 48 57 = true) : j_ce f (t + 2) t = true := by
  simp only [j_ce, Nat.add_sub_cancel, h2, show t + 2 - 1 = t + 1 from rfl, h1]; simp
theorem ce_3 {f : Nat → Int32} {t : Nat} (h1 : f (t + 2) = 99) (h2 : j_in (f t) 48 57 = true) (h3 : j_in (f (t + 1)) 48 57 = true) : j_ce f (t + 3) t = true := by
  simp only [j_ce, h2, show t + 3 - 1 = t + 2 from rfl, show t + 3 - 2 = t + 1 from rfl, h1, h3]; simp
theorem cv_2 {f : Nat → Int32} {t : Nat} : j_cv f (t + 2) t = f t - 48 := by rw [j_cv, if_pos rfl]
theorem cv_3 {f : Nat → Int32} {t : Nat} : j_cv f (t + 3) t = 10 * (f t - 48) + f (t + 1) - 48 := by rw [j_cv, if_neg (by omega)]
theorem nl_sub2 {n : Nat} : nI (n + 2) - nI n = 2 := by
  have k := pk_sub (a := n + 2) (b := n) (by omega)
  rw [Nat.add_sub_cancel_left] at k
  exact k
theorem nI_m1 {i : Nat} (h : i < 2147483648) : ¬ nI i = -1 := fun e => nI_pos h (by rw [e]; decide)
theorem fb_lt {f : Nat → Int32} {k t b : Nat} (h : j_fb f k t = some b) : b < 6 ∧ j_bp f k t b := by
  rcases Classical.em (∃ i, i < 6 ∧ j_bp f k t i) with ⟨i, hi, hb⟩ | hn
  · have key : ∀ n, n ≤ 6 → (∃ i, i < n ∧ j_bp f k t i) → ∃ i, i < n ∧ j_bp f k t i ∧ ∀ q, q < i → ¬ j_bp f k t q := by
      intro n
      induction n with
      | zero => rintro - ⟨i, hi, -⟩; omega
      | succ n ih =>
        rintro hn ⟨i, hi, hb⟩
        rcases Classical.em (∃ i, i < n ∧ j_bp f k t i) with he | he
        · obtain ⟨i, h1, h2⟩ := ih (by omega) he
          exact ⟨i, by omega, h2⟩
        · have : i = n := by
            rcases Nat.lt_or_ge i n with q | q
            · exact absurd ⟨i, q, hb⟩ he
            · omega
          subst this
          exact ⟨i, by omega, hb, fun q hq hq2 => he ⟨q, hq, hq2⟩⟩
    obtain ⟨i, h1, h2, h3⟩ := key 6 (Nat.le_refl _) ⟨i, hi, hb⟩
    rw [j_fb_some h1 h3 h2] at h
    cases h
    exact ⟨h1, h2⟩
  · rw [j_fb_none (fun b hb z => hn ⟨b, hb, z⟩)] at h
    cases h
theorem wd_some {fb : Nat → Option Nat} {co : Nat → Option jS} {ap : Nat → jS → Option jS} {k t b : Nat} (h : fb t = some b) : j_wd fb co ap (k + 1) t = (j_wd fb co ap k (t + jl b)).bind (ap b) := by simp [j_wd, h]
theorem wd_zero {fb : Nat → Option Nat} {co : Nat → Option jS} {ap : Nat → jS → Option jS} {t b : Nat} (h : fb t = some b) : j_wd fb co ap 0 t = none := by simp [j_wd, h]
/-- names are of letters -/
def lOk (S : tS) : Prop := ∀ n ∈ S.2.1, 1 ≤ nK n ∧ ∀ i, i < nK n → j_in (nF n i) 97 122 = true
/-- what stands behind the beginnings -/
def c_co (fp : Nat → Int32) (kp : Nat) (S : tS) (x y : Int32) (co : Nat → Option jS) : Prop :=
  (∀ t, j_ce fp kp t = true → co t = if j_cv fp kp t ≤ 0 then none else some (100 * (j_cv fp kp t - 1) + 1, 100 * j_cv fp kp t, 0)) ∧
  (∀ t, j_ce fp kp t = false → (∀ (i : Nat) (n : nmD), S.2.1[i]? = some n → ¬ c_mt fp kp t n) → co t = none) ∧
  (∀ (t i : Nat) (n : nmD), j_ce fp kp t = false → S.2.1[i]? = some n → c_mt fp kp t n → co t = (ya x y n).1.map (fun r => (r.2.1, r.2.2, 0))) ∧ (∀ t u, co t = some u → jOk u)
theorem ce_mt {fp : Nat → Int32} {kp t i : Nat} {S : tS} {n : nmD} (h : lOk S) (hn : S.2.1[i]? = some n) (hm : c_mt fp kp t n) : j_ce fp kp t = false := by
  obtain ⟨h1, h2⟩ := h n (List.mem_of_getElem? hn)
  have h3 := h2 0 (by omega)
  rw [hm.2 0 (by omega), Nat.add_zero] at h3
  refine ce_d ?_
  obtain ⟨q1, q2⟩ : ¬ fp t < 97 ∧ ¬ 122 < fp t := by simpa [j_in] using h3
  have : (57 : Int32) < fp t := by
    rw [ii_lt] at q1 ⊢
    have c1 : (97 : Int32).toInt = 97 := by decide
    have c2 : (57 : Int32).toInt = 57 := by decide
    omega
  rw [j_in, decide_eq_true this]; simp
