/-! what a word that is read stands for, in both -/
def uB (u : jS) : Prop := (u.2.2 = 0 ∨ u.2.2 = 1 ∨ u.2.2 = 2) ∧ yB (j_lo u.2.2 u.1) (j_hi u.2.2 u.2.1)
theorem lo_0 {v : Int32} : j_lo 0 v = v := by rw [j_lo, if_neg (by rw [op_0.1]; decide)]
theorem hi_0 {v : Int32} : j_hi 0 v = v := by rw [j_hi, if_neg (by rw [op_0.2.1]; decide)]
theorem lo_1 {v : Int32} : j_lo 1 v = -9999 := by rw [j_lo, if_pos (by rw [op_0.2.2.1])]
theorem hi_1 {v : Int32} : j_hi 1 v = v := by rw [j_hi, if_neg (by rw [op_0.2.2.2.1]; decide)]
theorem lo_2 {v : Int32} : j_lo 2 v = v := by rw [j_lo, if_neg (by rw [op_0.2.2.2.2.1]; decide)]
theorem hi_2 {v : Int32} : j_hi 2 v = 9999 := by rw [j_hi, if_pos (by rw [op_0.2.2.2.2.2.1])]
theorem third_i {fi la : Int32} (h : yB fi la) : ((la - fi + 1) / 3).toInt = (la.toInt - fi.toInt + 1) / 3 := by
  obtain ⟨a1, a2, a3⟩ := h
  have c := k_toInt.1
  have c3 : (3 : Int32).toInt = 3 := by decide
  have e1 : (la - fi).toInt = la.toInt - fi.toInt := ii_sub (by omega) (by omega)
  have e2 : (la - fi + 1).toInt = la.toInt - fi.toInt + 1 := by rw [ii_add (by rw [e1, c]; omega) (by rw [e1, c]; omega), e1, c]
  rw [ii_div (by rw [e2]; omega) (by rw [c3]; omega), e2, c3]
theorem third_m {fi la : Int32} {k : Nat} (hk : k < 3) (h : yB fi la) : (fi + nI k * ((la - fi + 1) / 3)).toInt = fi.toInt + k * ((la.toInt - fi.toInt + 1) / 3) := by
  have e := third_i h
  obtain ⟨a1, a2, a3⟩ := h
  have ek : (nI k).toInt = k := nI_toInt (by omega)
  have q1 : (nI k * ((la - fi + 1) / 3)).toInt = k * ((la.toInt - fi.toInt + 1) / 3) := by
    have : k = 0 ∨ k = 1 ∨ k = 2 := by omega
    rcases this with rfl | rfl | rfl <;> rw [ii_mul (by rw [ek, e]; omega) (by rw [ek, e]; omega), ek, e]
  have : k = 0 ∨ k = 1 ∨ k = 2 := by omega
  rcases this with rfl | rfl | rfl <;> rw [ii_add (by rw [q1]; omega) (by rw [q1]; omega), q1]
theorem n3 {k : Nat} (h : k < 3) : ¬ (3 : Int32) ≤ nI k := fun z => absurd (nc_le (a := 3) (b := k) z (by decide) (by omega)) (by omega)
/-- a third of years: where it lies -/
theorem third_B {wd fi la : Int32} {k : Nat} (hk : k < 3) (h : yB fi la) (hr : j_mR (nI k) wd fi la = true) : yB (j_mF (nI k) wd fi la) (j_mL (nI k) wd fi la) ∧ fi.toInt ≤ (j_mF (nI k) wd fi la).toInt ∧ (j_mL (nI k) wd fi la).toInt ≤ la.toInt := by
  have e := third_i h
  have m := third_m hk h
  obtain ⟨a1, a2, a3⟩ := h
  have c := k_toInt.1
  rw [j_mR, if_neg (n3 hk)] at hr
  simp only [Bool.not_eq_true', decide_eq_false_iff_not] at hr
  rw [ii_le, e, k_toInt.2.2.2] at hr
  have hF : j_mF (nI k) wd fi la = fi + nI k * ((la - fi + 1) / 3) := by rw [j_mF, if_neg (n3 hk)]
  by_cases k2 : nI k = 2
  · have hL : j_mL (nI k) wd fi la = la := by rw [j_mL, if_neg (n3 hk), if_pos k2]
    have hk2 : k = 2 := nI_ij (b := 2) (by omega) (by omega) k2
    subst hk2
    rw [hF, hL]
    refine ⟨⟨?_, ?_, a3⟩, ?_, Int.le_refl _⟩ <;> rw [m] <;> omega
  · have hk2 : k = 0 ∨ k = 1 := by
      have : k ≠ 2 := fun h => k2 (by rw [h]; rfl)
      omega
    have hL : j_mL (nI k) wd fi la = fi + nI k * ((la - fi + 1) / 3) + ((la - fi + 1) / 3) - 1 := by rw [j_mL, if_neg (n3 hk), if_neg k2]
    have m2 : (fi + nI k * ((la - fi + 1) / 3) + ((la - fi + 1) / 3)).toInt = fi.toInt + k * ((la.toInt - fi.toInt + 1) / 3) + (la.toInt - fi.toInt + 1) / 3 := by
      rcases hk2 with rfl | rfl <;> rw [ii_add (by rw [m, e]; omega) (by rw [m, e]; omega), m, e]
    have m3 : (fi + nI k * ((la - fi + 1) / 3) + ((la - fi + 1) / 3) - 1).toInt = fi.toInt + k * ((la.toInt - fi.toInt + 1) / 3) + (la.toInt - fi.toInt + 1) / 3 - 1 := by
      rcases hk2 with rfl | rfl <;> rw [ii_sub (by rw [m2, c]; omega) (by rw [m2, c]; omega), m2, c]
    rw [hF, hL]
    rcases hk2 with rfl | rfl <;> refine ⟨⟨?_, ?_, ?_⟩, ?_, ?_⟩ <;> (try rw [m]) <;> (try rw [m3]) <;> omega
theorem ap_B {wd : Int32} {b : Nat} {u u1 : jS} (hw : 0 ≤ wd.toInt ∧ wd.toInt ≤ 1000) (hb : b < 6) (hu : uB u) (h : j_ap wd b u = some u1) : uB u1 := by
  rw [j_ap] at h
  by_cases c : u.2.2 = 0
  · rw [if_pos c] at h
    by_cases d : j_mR (nI b) wd u.1 u.2.1 = true
    · rw [if_pos d] at h
      cases h
      have hB : yB u.1 u.2.1 := by
        have := hu.2
        rw [c, lo_0, hi_0] at this
        exact this
      by_cases hb3 : b < 3
      · have hO : j_mO (nI b) = 0 := by rw [j_mO, if_neg (n3 hb3)]
        refine ⟨Or.inl hO, ?_⟩
        show yB (j_lo (j_mO (nI b)) (j_mF (nI b) wd u.1 u.2.1)) (j_hi (j_mO (nI b)) (j_mL (nI b) wd u.1 u.2.1))
        rw [hO, lo_0, hi_0]
        exact (third_B hb3 hB d).1
      · obtain ⟨a1, a2, a3⟩ := hB
        have k1 := k_toInt.2.1
        have k2 := k_toInt.2.2.1
        have hb2 : b = 3 ∨ b = 4 ∨ b = 5 := by omega
        rcases hb2 with rfl | rfl | rfl
        · refine ⟨Or.inl (show j_mO (nI 3) = 0 from by decide), ?_⟩
          have hF : j_mF (nI 3) wd u.1 u.2.1 = (if -9999 ≤ u.1 - wd then u.1 - wd else -9999) := by rw [j_mF, if_pos (by decide), if_pos (by decide)]
          have hL : j_mL (nI 3) wd u.1 u.2.1 = (if u.2.1 + wd ≤ 9999 then u.2.1 + wd else 9999) := by rw [j_mL, if_pos (by decide), if_pos (by decide)]
          show yB (j_lo (j_mO (nI 3)) (j_mF (nI 3) wd u.1 u.2.1)) (j_hi (j_mO (nI 3)) (j_mL (nI 3) wd u.1 u.2.1))
          rw [show j_mO (nI 3) = 0 from by decide, lo_0, hi_0, hF, hL]
          have e1 : (u.1 - wd).toInt = u.1.toInt - wd.toInt := ii_sub (by omega) (by omega)
          have e2 : (u.2.1 + wd).toInt = u.2.1.toInt + wd.toInt := ii_add (by omega) (by omega)
          refine ⟨?_, ?_, ?_⟩
          · rw [mx_toInt', k1]; omega
          · rw [mx_toInt', mn_toInt', e1, e2, k1, k2]; omega
          · rw [mn_toInt', k2]; omega
        · have e := yb_m (x := u.1) a1 (by omega)
          rw [j_mR, if_pos (by decide), if_neg (by decide), if_pos (by decide)] at d
          simp only [Bool.not_eq_true', decide_eq_false_iff_not] at d
          rw [ii_lt, e, k1] at d
          refine ⟨Or.inr (Or.inl (show j_mO (nI 4) = 1 from by decide)), ?_⟩
          show yB (j_lo (j_mO (nI 4)) (j_mF (nI 4) wd u.1 u.2.1)) (j_hi (j_mO (nI 4)) (j_mL (nI 4) wd u.1 u.2.1))
          rw [show j_mO (nI 4) = 1 from by decide, lo_1, hi_1, j_mL, if_pos (by decide), if_neg (by decide), if_pos (by decide)]
          refine ⟨?_, ?_, ?_⟩
          · rw [k1]; omega
          · rw [k1, e]; omega
          · rw [e]; omega
        · have e := yb_p (x := u.2.1) (by omega) a3
          rw [j_mR, if_pos (by decide), if_neg (by decide), if_neg (by decide)] at d
          simp only [Bool.not_eq_true', decide_eq_false_iff_not] at d
          rw [ii_lt, e, k2] at d
          refine ⟨Or.inr (Or.inr (show j_mO (nI 5) = 2 from by decide)), ?_⟩
          show yB (j_lo (j_mO (nI 5)) (j_mF (nI 5) wd u.1 u.2.1)) (j_hi (j_mO (nI 5)) (j_mL (nI 5) wd u.1 u.2.1))
          rw [show j_mO (nI 5) = 2 from by decide, lo_2, hi_2, j_mF, if_pos (by decide), if_neg (by decide), if_neg (by decide)]
          refine ⟨?_, ?_, ?_⟩
          · rw [e]; omega
          · rw [e, k2]; omega
          · rw [k2]; omega
    · rw [if_neg d] at h; cases h
  · rw [if_neg c] at h; cases h
theorem wd_B2 {wd : Int32} {f : Nat → Int32} {n : Nat} {co : Nat → Option jS} (hw : 0 ≤ wd.toInt ∧ wd.toInt ≤ 1000) (hc : ∀ t u, co t = some u → uB u) : ∀ (k t : Nat) (u : jS), j_wd (j_fb f n) co (j_ap wd) k t = some u → uB u := by
  intro k
  induction k with
  | zero =>
    intro t u h
    rw [j_wd] at h
    cases q : j_fb f n t with
    | none => rw [q] at h; exact hc t u h
    | some b => rw [q] at h; cases h
  | succ k ih =>
    intro t u h
    rw [j_wd] at h
    cases q : j_fb f n t with
    | none => rw [q] at h; exact hc t u h
    | some b =>
      rw [q] at h
      obtain ⟨v, hv, h2⟩ := Option.bind_eq_some_iff.mp h
      exact ap_B hw (fb_lt q).1 (ih _ v hv) h2
/-- the years of a name, in both -/
theorem ya_nv {f4 f6 f7 f8 f10 f11 f12 f13 : Nat → Int32} {ln ck : Nat → Nat} {i : Nat} {n : nmD} (hT : nmT f4 f6 f7 f8 f10 f11 f12 f13 ln ck i n) (hB : nmB n) (pl dy : Int32) : (ya pl dy n).1.map (fun r => (r.2.1, r.2.2, (0 : Int32))) = j_nv f6 f7 f8 f10 f11 f12 f13 ck pl dy i := by
  obtain ⟨t1, t2, t3, t4, t5, t6⟩ := hT
  have key : ∀ j, j ≤ (nH n).length → (∃ k q, j_nk f10 f13 i pl dy j = some k ∧ k < j ∧ (nH n)[k]? = some q ∧ yt pl dy n j = (some (q.2.2.2.1, q.2.2.2.2.1, q.2.2.2.2.2), q.2.2.1)) ∨ (j_nk f10 f13 i pl dy j = none ∧ yt pl dy n j = (nG n, -1)) := by
    intro j
    induction j with
    | zero => intro _; exact Or.inr ⟨rfl, rfl⟩
    | succ j ih =>
      intro hj
      have hq : (nH n)[j]? = some (nH n)[j] := List.getElem?_eq_getElem (by omega)
      generalize (nH n)[j] = q at hq
      obtain ⟨s1, s2, s3, s4⟩ := t6 j q hq
      have hday := (hB.2 q (List.mem_of_getElem? hq)).2
      rw [yt_s hq, j_nk, ya_s]
      rcases ih (by omega) with ⟨k, q2, k1, k2, k3, k4⟩ | ⟨k1, k4⟩
      · rw [k4, k1]
        have u2 := (t6 k q2 k3).2.1
        by_cases c : q.2.1 = pl ∧ ¬ dy < q.2.2.1 ∧ ¬ q.2.2.1 < q2.2.2.1
        · rw [if_pos c, if_pos ⟨by rw [← s1]; exact c.1, by rw [← s2]; exact c.2.1, fun k' h => by cases h; rw [← s2, ← u2]; exact c.2.2⟩]
          exact Or.inl ⟨j, q, rfl, by omega, hq, rfl⟩
        · rw [if_neg c, if_neg (fun z => c ⟨by rw [s1]; exact z.1, by rw [s2]; exact z.2.1, by rw [s2, u2]; exact z.2.2 k rfl⟩)]
          exact Or.inl ⟨k, q2, rfl, by omega, k3, rfl⟩
      · rw [k4, k1]
        have hm : ¬ q.2.2.1 < -1 := by
          have c1 : (-1 : Int32).toInt = -1 := by decide
          rw [ii_lt, k_toInt.2.2.2] at hday
          rw [ii_lt, c1]
          omega
        by_cases c : q.2.1 = pl ∧ ¬ dy < q.2.2.1 ∧ ¬ q.2.2.1 < -1
        · rw [if_pos c, if_pos ⟨by rw [← s1]; exact c.1, by rw [← s2]; exact c.2.1, fun k' h => by cases h⟩]
          exact Or.inl ⟨j, q, rfl, by omega, hq, rfl⟩
        · rw [if_neg c, if_neg (fun z => c ⟨by rw [s1]; exact z.1, by rw [s2]; exact z.2.1, hm⟩)]
          exact Or.inr ⟨rfl, rfl⟩
  rw [j_nv, ← t5, ← yt_all (Nat.le_refl _)]
  rcases key _ (Nat.le_refl _) with ⟨k, q, k1, k2, k3, k4⟩ | ⟨k1, k4⟩
  · rw [k4, k1]
    obtain ⟨s1, s2, s3, s4⟩ := t6 k q k3
    show some (q.2.2.2.2.1, q.2.2.2.2.2, (0 : Int32)) = some (f11 (6 * i + k), f12 (6 * i + k), 0)
    rw [s3, s4]
  · rw [k4, k1]
    show (nG n).map (fun r => (r.2.1, r.2.2, (0 : Int32))) = if f6 i = 0 then none else some (f7 i, f8 i, 0)
    cases g : nG n with
    | none => rw [if_pos (t3.mpr g)]; rfl
    | some r => rw [if_neg (fun z => by rw [t3.mp z] at g; cases g), ← (t4 r g).1, ← (t4 r g).2]; rfl
theorem ya_B {n : nmD} (hB : nmB n) (pl dy : Int32) {r : Nat × Int32 × Int32} (h : (ya pl dy n).1 = some r) : yB r.2.1 r.2.2 := by
  have key : ∀ j, ∀ r, (yt pl dy n j).1 = some r → yB r.2.1 r.2.2 := by
    intro j
    induction j with
    | zero => intro r h; exact hB.1 r h
    | succ j ih =>
      intro r h
      rcases Nat.lt_or_ge j (nH n).length with hj | hj
      · have hq : (nH n)[j]? = some (nH n)[j] := List.getElem?_eq_getElem hj
        generalize (nH n)[j] = q at hq
        rw [yt_s hq, ya_s] at h
        split at h
        · cases h
          exact (hB.2 q (List.mem_of_getElem? hq)).1
        · exact ih r h
      · rw [yt_all (by omega), ← yt_all hj] at h
        exact ih r h
  exact key _ r (by rw [yt_all (Nat.le_refl _)]; exact h)
section
variable {κ : gS} {zw : Int32} {kp : Nat} {fp : Nat → Int32} {S : tS} {pn nn sn : Nat} {z18 : Int32} {f1 f4 f5 f6 f7 f8 f9 f10 f11 f12 f13 f15 f16 f17 : Nat → Int32} {ln ck : Nat → Nat}
theorem uB_ok {u : jS} (h : uB u) : jOk u := by
  rcases h.1 with h1 | h1 | h1
  · refine Or.inr (Or.inr ⟨h1, ?_⟩)
    have := h.2
    rw [h1, lo_0, hi_0] at this
    exact this
  · exact Or.inl h1
  · exact Or.inr (Or.inl h1)
/-- what stands on the pad from a place on, for both -/
theorem lawR.co (h : lawR κ zw kp fp S pn nn sn z18 f1 f4 f5 f6 f7 f8 f9 f10 f11 f12 f13 f15 f16 f17 ln ck) (x y : Int32) : ∃ co : Nat → Option jS, c_co fp kp S x y co ∧ (∀ t u, co t = some u → uB u) ∧
    (∀ t9, j_ce f1 pn t9 = true → co t9 = if j_cv f1 pn t9 ≤ 0 then none else some (100 * (j_cv f1 pn t9 - 1) + 1, 100 * j_cv f1 pn t9, 0)) ∧ (∀ t9, j_ce f1 pn t9 = false → (∀ i, i < nn → ¬ j_mt f1 f4 ln pn t9 i) → co t9 = none) ∧
    (∀ t9, j_ce f1 pn t9 = false → ∀ i, i < nn → j_mt f1 f4 ln pn t9 i → co t9 = j_nv f6 f7 f8 f10 f11 f12 f13 ck x y i) := by
  have hmt := fun (i : Nat) (n : nmD) (hn : S.2.1[i]? = some n) (t : Nat) => h.mt hn t
  have hth := fun (i : Nat) (hi : i < nn) => h.nth hi
  obtain ⟨⟨h1, h2, e1, e2, h5⟩, hN, hS⟩ := h
  subst e1; subst e2
  have one : ∀ t, ∃ v : Option jS, (∀ u, v = some u → uB u) ∧ (j_ce fp kp t = true → v = if j_cv fp kp t ≤ 0 then none else some (100 * (j_cv fp kp t - 1) + 1, 100 * j_cv fp kp t, 0)) ∧ (j_ce fp kp t = false → (∀ (i : Nat) (n : nmD), S.2.1[i]? = some n → ¬ c_mt fp kp t n) → v = none) ∧
      (j_ce fp kp t = false → ∀ (i : Nat) (n : nmD), S.2.1[i]? = some n → c_mt fp kp t n → v = (ya x y n).1.map (fun r => (r.2.1, r.2.2, 0))) := by
    intro t
    cases q : j_ce fp kp t
    · by_cases z : ∃ (i : Nat) (n : nmD), S.2.1[i]? = some n ∧ c_mt fp kp t n
      · obtain ⟨i, n, hn, hm⟩ := z
        refine ⟨(ya x y n).1.map (fun r => (r.2.1, r.2.2, 0)), fun u hu => ?_, fun h => (by cases h), fun _ hno => absurd hm (hno i n hn), fun _ i' n' hn' hm' => ?_⟩
        · obtain ⟨r, hr, rfl⟩ := Option.map_eq_some_iff.mp hu
          refine ⟨Or.inl rfl, ?_⟩
          show yB (j_lo 0 r.2.1) (j_hi 0 r.2.2)
          rw [lo_0, hi_0]
          exact ya_B (hN.2.2.2.1 i n hn).2 x y hr
        · have e : i = i' := hN.2.2.1 i i' n n' hn hn' (by have := hm.1; have := hm'.1; omega) (fun k hk => by rw [hm.2 k hk, hm'.2 k (by have := hm.1; have := hm'.1; omega)])
          subst e
          cases hn.symm.trans hn'
          rfl
      · exact ⟨none, fun u hu => (by cases hu), fun h => (by cases h), fun _ _ => rfl, fun _ i n hn hm => absurd ⟨i, n, hn, hm⟩ z⟩
    · refine ⟨_, fun u hu => ?_, fun _ => rfl, fun h => (by cases h), fun h => by cases h⟩
      split at hu
      · cases hu
      · rename_i h0
        cases hu
        obtain ⟨v, v1, v2⟩ := cv_nat q
        refine ⟨Or.inl rfl, ?_⟩
        show yB (j_lo 0 (100 * (j_cv fp kp t - 1) + 1)) (j_hi 0 (100 * j_cv fp kp t))
        rw [lo_0, hi_0]
        rcases cv_ok q h0 with h9 | h9 | h9
        · exact absurd (show (0 : Int32) = 1 from h9) (by decide)
        · exact absurd (show (0 : Int32) = 2 from h9) (by decide)
        · exact h9.2
  refine ⟨fun t => Classical.choose (one t), ⟨fun t => (Classical.choose_spec (one t)).2.1, fun t => (Classical.choose_spec (one t)).2.2.1, fun t i n hq hn hm => (Classical.choose_spec (one t)).2.2.2 hq i n hn hm, fun t u hu => uB_ok ((Classical.choose_spec (one t)).1 u hu)⟩, fun t u hu => (Classical.choose_spec (one t)).1 u hu, fun t => (Classical.choose_spec (one t)).2.1, fun t hq hno => (Classical.choose_spec (one t)).2.2.1 hq (fun i n hn hm => hno i (by have := (List.getElem?_eq_some_iff.mp hn).1; have := hN.1; omega) ((hmt i n hn t).mp hm)), fun t hq i hi hm => ?_⟩
  obtain ⟨n, hn⟩ := hth i hi
  refine ((Classical.choose_spec (one t)).2.2.2 hq i n hn ((hmt i n hn t).mpr hm)).trans ?_
  exact ya_nv (hN.2.2.2.1 i n hn).1 (hN.2.2.2.1 i n hn).2 x y
end
