/-! the shortest word, in both -/
section
variable {b fr to zw : Int32} {q : spD} {u : jS}
def spO (b fr to : Int32) (q : spD) : Prop := (b = 0 ∨ b = 1 ∨ b = 2) ∧ q.2.1 = j_lo b fr ∧ q.2.2.1 = j_hi b to ∧ q.2.2.2.1 = j_op b 0 ∧ q.2.2.2.2 = j_op b 1 ∧ yB q.2.1 q.2.2.1
theorem sb_fs (h : spO b fr to q) (hu : u.2.2 = 0) (hB : yB u.1 u.2.1) : j_sb zw (j_kbo b) u b fr to = c_fs u.1 u.2.1 q := by
  obtain ⟨hb, o2, o3, o4, o5, o6, o7, o8⟩ := h
  obtain ⟨b1, b2, b3⟩ := hB
  have k1 := k_toInt.2.1
  have k2 := k_toInt.2.2.1
  rcases hb with rfl | rfl | rfl
  · rw [lo_0] at o2
    rw [hi_0] at o3
    rw [op_0.1] at o4
    rw [op_0.2.1] at o5
    rw [show j_kbo 0 = none from by decide]
    show j_sy u 0 fr to = _
    rw [j_sy, hu, op_0.1, op_0.2.1, c_fs, o4, o5, o2, o3, if_neg (by decide), if_neg (by decide), Bool.false_or, Bool.false_or, show decide ((0 : Int32) = 0) = true from by decide, Bool.true_and]
    exact congr (congrArg _ (decide_eq_decide.mpr eq_comm)) (decide_eq_decide.mpr eq_comm)
  · rw [lo_1] at o2
    rw [hi_1] at o3
    rw [op_0.2.2.1] at o4
    rw [op_0.2.2.2.1] at o5
    rw [show j_kbo 1 = some 4 from by decide, c_fs, o4, if_pos rfl, o3]
    have e := yb_m (x := u.1) b1 (by omega)
    rw [o2, k1] at o6 o7
    rw [o3] at o7 o8
    have e2 := yb_p (x := to) (by omega) o8
    have hap : j_ap zw 4 u = if j_mR (nI 4) zw u.1 u.2.1 = true then some (u.1, u.1 - 1, 1) else none := by
      rw [j_ap, if_pos hu]
      congr 1
    rw [j_sb, show j_oa zw (some 4) u = j_ap zw 4 u from rfl, hap]
    have hr : j_mR (nI 4) zw u.1 u.2.1 = !decide (u.1 - 1 < -9999) := by rw [j_mR, if_pos (by decide), if_neg (by decide), if_pos (by decide)]
    rw [hr]
    by_cases d : u.1 - 1 < -9999
    · rw [if_neg (by simp [d])]
      rw [ii_lt, e, k1] at d
      exact (decide_eq_false (fun z => by rw [ii_eq, e2] at z; omega)).symm
    · rw [if_pos (by simp [d])]
      show j_sy (u.1, u.1 - 1, 1) 1 fr to = _
      rw [j_sy, op_0.2.2.1, op_0.2.2.2.1]
      simp only [Bool.true_or, Bool.and_true, Bool.false_or, decide_true, Bool.true_and]
      rw [decide_eq_decide, ii_eq, ii_eq, e, e2]
      omega
  · rw [lo_2] at o2
    rw [hi_2] at o3
    rw [op_0.2.2.2.2.1] at o4
    rw [op_0.2.2.2.2.2.1] at o5
    rw [show j_kbo 2 = some 5 from by decide, c_fs, o4, o5, if_neg (by decide), if_pos rfl, o2]
    have e := yb_p (x := u.2.1) (by omega) b3
    rw [o3, k2] at o7 o8
    rw [o2] at o6 o7
    have e2 := yb_m (x := fr) o6 o7
    have hap : j_ap zw 5 u = if j_mR (nI 5) zw u.1 u.2.1 = true then some (u.2.1 + 1, u.2.1, 2) else none := by
      rw [j_ap, if_pos hu]
      congr 1
    rw [j_sb, show j_oa zw (some 5) u = j_ap zw 5 u from rfl, hap]
    have hr : j_mR (nI 5) zw u.1 u.2.1 = !decide (9999 < u.2.1 + 1) := by rw [j_mR, if_pos (by decide), if_neg (by decide), if_neg (by decide)]
    rw [hr]
    by_cases d : 9999 < u.2.1 + 1
    · rw [if_neg (by simp [d])]
      rw [ii_lt, e, k2] at d
      exact (decide_eq_false (fun z => by rw [ii_eq, e2] at z; omega)).symm
    · rw [if_pos (by simp [d])]
      show j_sy (u.2.1 + 1, u.2.1, 2) 2 fr to = _
      rw [j_sy, op_0.2.2.2.2.1, op_0.2.2.2.2.2.1]
      simp only [Bool.true_or, Bool.and_true, Bool.false_or, decide_true, Bool.true_and]
      rw [decide_eq_decide, ii_eq, ii_eq, e, e2]
      omega
theorem qc_i {c : Nat} (h1 : 1 ≤ c) (h2 : c ≤ 99) : (j_qc c).1.toInt = 100 * (c - 1) + 1 ∧ (j_qc c).2.1.toInt = 100 * c := by
  have q1 : nI c - 1 = nI (c - 1) := pk_sub (a := c) (b := 1) h1
  have q2 : (100 : Int32) * nI (c - 1) = nI (100 * (c - 1)) := pk_mul 100 (c - 1)
  have q3 : (100 : Int32) * nI c = nI (100 * c) := pk_mul 100 c
  show (100 * (nI c - 1) + 1).toInt = _ ∧ (100 * nI c).toInt = _
  rw [q1, q2, q3, nI_1, nI_toInt (by omega), nI_toInt (by omega)]
  omega
def thO (th : Option Nat) : Prop := th = none ∨ th = some 0 ∨ th = some 1 ∨ th = some 2
theorem oa_B {c : Nat} {th : Option Nat} (h1 : 1 ≤ c) (h2 : c ≤ 99) (ht : thO th) (h : j_oa zw th (j_qc c) = some u) : u.2.2 = 0 ∧ yB u.1 u.2.1 ∧ 100 * ((c : Int) - 1) + 1 ≤ u.1.toInt ∧ u.2.1.toInt ≤ 100 * c := by
  obtain ⟨i1, i2⟩ := qc_i h1 h2
  have hB : yB (j_qc c).1 (j_qc c).2.1 := ⟨by rw [i1]; omega, by rw [i1, i2]; omega, by rw [i2]; omega⟩
  have main : ∀ k, k < 3 → j_ap zw k (j_qc c) = some u → u.2.2 = 0 ∧ yB u.1 u.2.1 ∧ 100 * ((c : Int) - 1) + 1 ≤ u.1.toInt ∧ u.2.1.toInt ≤ 100 * c := by
    intro k hk h
    rw [j_ap, if_pos (show (j_qc c).2.2 = 0 from rfl)] at h
    by_cases d : j_mR (nI k) zw (j_qc c).1 (j_qc c).2.1 = true
    · rw [if_pos d] at h
      cases h
      obtain ⟨t1, t2, t3⟩ := third_B hk hB d
      exact ⟨by show j_mO (nI k) = 0; rw [j_mO, if_neg (n3 hk)], t1, by show _ ≤ (j_mF (nI k) zw (j_qc c).1 (j_qc c).2.1).toInt; omega, by show (j_mL (nI k) zw (j_qc c).1 (j_qc c).2.1).toInt ≤ _; omega⟩
    · rw [if_neg d] at h; cases h
  rcases ht with rfl | rfl | rfl | rfl
  · cases h
    exact ⟨rfl, hB, by omega, by omega⟩
  · exact main 0 (by decide) h
  · exact main 1 (by decide) h
  · exact main 2 (by decide) h
theorem cs_ce {c : Nat} {th : Option Nat} (h : spO b fr to q) (h1 : 1 ≤ c) (h2 : c ≤ 99) (ht : thO th) (hc : c_cs zw th c q = true) : c_ce q = nI c := by
  rw [c_cs] at hc
  cases e : j_oa zw th (j_qc c) with
  | none => rw [e] at hc; cases hc
  | some u =>
    rw [e] at hc
    obtain ⟨-, hB, i1, i2⟩ := oa_B h1 h2 ht e
    obtain ⟨b1, b2, b3⟩ := hB
    have hv : 100 * ((c : Int) - 1) + 1 ≤ (c_ys q).toInt ∧ (c_ys q).toInt ≤ 100 * c := by
      have hc2 : c_fs u.1 u.2.1 q = true := hc
      rw [c_fs] at hc2
      rw [c_ys]
      by_cases o : q.2.2.2.1 = true
      · rw [if_pos o] at hc2 ⊢
        rw [← of_decide_eq_true hc2]
        omega
      · rw [if_neg o] at hc2 ⊢
        by_cases o2 : q.2.2.2.2 = true
        · rw [if_pos o2] at hc2 ⊢
          rw [← of_decide_eq_true hc2]
          omega
        · rw [if_neg o2] at hc2 ⊢
          rw [Bool.and_eq_true] at hc2
          rw [← of_decide_eq_true hc2.1]
          omega
    have e1 := yb_m (x := c_ys q) (by omega) (by omega)
    have e2 := fd_100 (x := c_ys q - 1) (by rw [e1]; omega) (by rw [e1]; omega)
    rw [e1] at e2
    rw [c_ce, ii_eq, ii_add (by rw [e2, k_toInt.1]; omega) (by rw [e2, k_toInt.1]; omega), e2, k_toInt.1, nI_toInt (by omega)]
    omega
theorem bt_k (h : spO b fr to q) : c_bt q = j_ot (j_kbo b) := by
  obtain ⟨hb, -, -, o4, o5, -⟩ := h
  rcases hb with rfl | rfl | rfl
  · rw [c_bt, o4, o5, op_0.1, op_0.2.1, if_neg (by decide), if_neg (by decide)]; rfl
  · rw [c_bt, o4, op_0.2.2.1, if_pos rfl]; rfl
  · rw [c_bt, o4, o5, op_0.2.2.2.2.1, op_0.2.2.2.2.2.1, if_neg (by decide), if_pos rfl]; rfl
theorem ss_cs {c : Nat} {th : Option Nat} (h : spO b fr to q) (h1 : 1 ≤ c) (h2 : c ≤ 99) (ht : thO th) : j_ss zw (j_kbo b) (j_oa zw th (j_qc c)) b fr to = c_cs zw th c q := by
  rw [c_cs]
  cases e : j_oa zw th (j_qc c) with
  | none => rfl
  | some u =>
    obtain ⟨i1, i2, -⟩ := oa_B h1 h2 ht e
    exact sb_fs h i1 i2
theorem tc_no {c : Nat} {th : Option Nat} (h : spO b fr to q) (h1 : 1 ≤ c) (h2 : c ≤ 99) (ht : thO th) (hc : ¬ c_ce q = nI c) (bl : List Int32) : c_tc zw q th c bl = bl := by
  rw [c_tc]
  cases e : c_cs zw th c q
  · exact try_f
  · exact absurd (cs_ce h h1 h2 ht e) hc
abbrev w4 (zw : Int32) (q : spD) (c : Nat) (bl : List Int32) : List Int32 := c_tc zw q (some 2) c (c_tc zw q (some 1) c (c_tc zw q (some 0) c (c_tc zw q none c bl)))
theorem wf_99 {tr : Option Nat → Nat → List Int32 → List Int32} (h : spO b fr to q) (htr : ∀ (th : Option Nat) (c : Nat) (bl : List Int32), thO th → 1 ≤ c → c ≤ 99 → tr th c bl = c_tc zw q th c bl) : ∀ k, k ≤ 99 → ((∀ c, 1 ≤ c → c ≤ k → ¬ c_ce q = nI c) → j_wf tr k = []) ∧ (∀ c, 1 ≤ c → c ≤ k → c_ce q = nI c → j_wf tr k = w4 zw q c []) := by
  intro k
  induction k with
  | zero => intro _; exact ⟨fun _ => rfl, fun c h1 h2 => absurd h2 (by omega)⟩
  | succ k ih =>
    intro hk
    have hs : j_wf tr (k + 1) = w4 zw q (k + 1) (j_wf tr k) := by
      rw [j_wf, if_pos (by omega), htr none _ _ (Or.inl rfl) (by omega) hk, htr (some 0) _ _ (Or.inr (Or.inl rfl)) (by omega) hk, htr (some 1) _ _ (Or.inr (Or.inr (Or.inl rfl))) (by omega) hk, htr (some 2) _ _ (Or.inr (Or.inr (Or.inr rfl))) (by omega) hk]
    have hn : ¬ c_ce q = nI (k + 1) → j_wf tr (k + 1) = j_wf tr k := fun z => by
      rw [hs]
      show c_tc zw q (some 2) (k + 1) (c_tc zw q (some 1) (k + 1) (c_tc zw q (some 0) (k + 1) (c_tc zw q none (k + 1) (j_wf tr k)))) = _
      rw [tc_no h (by omega) hk (Or.inl rfl) z, tc_no h (by omega) hk (Or.inr (Or.inl rfl)) z, tc_no h (by omega) hk (Or.inr (Or.inr (Or.inl rfl))) z, tc_no h (by omega) hk (Or.inr (Or.inr (Or.inr rfl))) z]
    obtain ⟨i1, i2⟩ := ih (by omega)
    refine ⟨fun hno => by rw [hn (hno _ (by omega) (Nat.le_refl _))]; exact i1 (fun c h1 h2 => hno c h1 (by omega)), fun c h1 h2 hc => ?_⟩
    by_cases e : c = k + 1
    · subst e
      rw [hs, i1 (fun c' h1' h2' hc' => by have := nI_ij (by omega) (by omega) (hc.symm.trans hc'); omega)]
    · rw [hn (fun z => e (nI_ij (by omega) (by omega) (hc.symm.trans z)))]
      exact i2 c h1 (by omega) hc
theorem wf_w4 {tr : Option Nat → Nat → List Int32 → List Int32} (h : spO b fr to q) (htr : ∀ (th : Option Nat) (c : Nat) (bl : List Int32), thO th → 1 ≤ c → c ≤ 99 → tr th c bl = c_tc zw q th c bl) : j_wf tr 99 = c_w4 zw q := by
  obtain ⟨i1, i2⟩ := wf_99 h htr 99 (Nat.le_refl _)
  rw [c_w4]
  cases e : j_in (c_ce q) 1 99
  · rw [if_neg (by decide)]
    refine i1 (fun c h1 h2 hc => ?_)
    rw [hc, in_199 h1 h2] at e
    cases e
  · rw [if_pos rfl]
    obtain ⟨c, h1, h2, h3⟩ := ce_nat e
    rw [i2 c h1 h2 h3, h3, nI_clamp (by omega)]
end
section
variable {κ : gS} {zw : Int32} {kp : Nat} {fp : Nat → Int32} {S : tS} {pn nn sn : Nat} {z18 : Int32} {f1 f4 f5 f6 f7 f8 f9 f10 f11 f12 f13 f15 f16 f17 : Nat → Int32} {ln ck : Nat → Nat}
theorem lawR.wl (h : lawR κ zw kp fp S pn nn sn z18 f1 f4 f5 f6 f7 f8 f9 f10 f11 f12 f13 f15 f16 f17 ln ck) {j : Nat} {q : spD} (hj : S.2.2.2[j]? = some q) :
    (if f17 j = 3 then [] else j_wf (fun th c9 bl => j_try (j_ss z18 (j_kbo (f17 j)) (j_src z18 th (j_nv f6 f7 f8 f10 f11 f12 f13 ck 0 100000) c9) (f17 j) (f15 j) (f16 j)) (j_tx (j_kbo (f17 j)) th f4 ln c9) bl) (99 + nn)) = c_wl zw q S := by
  obtain ⟨⟨-, -, -, -, ez, -⟩, hN, hS⟩ := h
  subst ez
  obtain ⟨o1, o2, o3, o4, o5, o6⟩ := hS.2 j q hj
  by_cases h3 : f17 j = 3
  · rw [if_pos h3, c_wl, o4, o5, h3, op_0.2.2.2.2.2.2.1, op_0.2.2.2.2.2.2.2, if_pos (by decide)]
  · rw [if_neg h3]
    have hO : spO (f17 j) (f15 j) (f16 j) q := ⟨by rcases o1 with h | h | h | h; exact Or.inl h; exact Or.inr (Or.inl h); exact Or.inr (Or.inr h); exact absurd h h3, o2, o3, o4, o5, o6⟩
    have hno : (q.2.2.2.1 && q.2.2.2.2) = false := by
      rw [o4, o5]
      rcases o1 with h | h | h | h
      · rw [h]; decide +kernel
      · rw [h]; decide +kernel
      · rw [h]; decide +kernel
      · exact absurd h h3
    rw [c_wl, if_neg (by rw [hno]; decide), hN.1]
    generalize htr0 : (fun (th : Option Nat) (c9 : Nat) (bl : List Int32) => j_try (j_ss zw (j_kbo (f17 j)) (j_src zw th (j_nv f6 f7 f8 f10 f11 f12 f13 ck 0 100000) c9) (f17 j) (f15 j) (f16 j)) (j_tx (j_kbo (f17 j)) th f4 ln c9) bl) = tr
    have ht0 : ∀ (th : Option Nat) (c9 : Nat) (bl : List Int32), tr th c9 bl = j_try (j_ss zw (j_kbo (f17 j)) (j_src zw th (j_nv f6 f7 f8 f10 f11 f12 f13 ck 0 100000) c9) (f17 j) (f15 j) (f16 j)) (j_tx (j_kbo (f17 j)) th f4 ln c9) bl := fun th c9 bl => by rw [← htr0]
    have htr : ∀ (th : Option Nat) (c : Nat) (bl : List Int32), thO th → 1 ≤ c → c ≤ 99 → tr th c bl = c_tc zw q th c bl := fun th c bl ht h1 h2 => by
      rw [ht0, j_src, if_pos h2, j_tx, if_pos h2, ss_cs hO h1 h2 ht, c_tc, bt_k hO]
    have hall : ∀ i, i ≤ nn → j_wf tr (99 + i) = c_nl q S (c_w4 zw q) i := by
      intro i
      induction i with
      | zero => intro _; exact wf_w4 hO htr
      | succ i ih =>
        intro hi
        obtain ⟨n, hn⟩ : ∃ n, S.2.1[i]? = some n := ⟨_, List.getElem?_eq_getElem (by have := hN.1; omega)⟩
        obtain ⟨hT, hB⟩ := hN.2.2.2.1 i n hn
        have hy := ya_nv hT hB 0 100000
        rw [nl_s hn, ← ih (by omega), show 99 + (i + 1) = (99 + i) + 1 from by omega, j_wf, if_neg (by omega), ht0, j_src, if_neg (by omega), j_tx, if_neg (by omega), show 99 + i + 1 - 100 = i from by omega, ← hy, c_tn, bt_k hO]
        have e1 : j_ls (fun k => f4 (8 * i + k)) (ln i) = j_ls (nF n) (nK n) := by
          rw [hT.1]
          exact ls_congr (fun k hk => (hT.2.1 k (by rw [hT.1]; exact hk)).symm)
        have e2 : j_ss zw (j_kbo (f17 j)) ((ya 0 100000 n).1.map (fun r => (r.2.1, r.2.2, (0 : Int32)))) (f17 j) (f15 j) (f16 j) = c_ns n q := by
          rw [c_ns]
          cases e : (ya 0 100000 n).1 with
          | none => rfl
          | some r => exact sb_fs hO rfl (ya_B hB 0 100000 e)
        rw [e1, e2]
        show j_try (c_ns n q) (j_ot (j_kbo (f17 j)) ++ [] ++ j_ls (nF n) (nK n)) _ = _
        rw [List.append_nil]
    exact hall nn (Nat.le_refl _)
end
theorem up_24 {w bl : List Int32} {s : Bool} (h1 : w.length ≤ 24) (h2 : bl.length ≤ 24) : (j_try s w bl).length ≤ 24 := by
  rw [j_try]
  split
  · rw [j_up]
    split
    · exact h1
    · exact h2
  · exact h2
theorem ot_7 {o : Option Nat} : (j_ot o).length ≤ 7 := by
  cases o with
  | none => exact Nat.zero_le _
  | some b =>
    show (jcs b).length ≤ 7
    rw [jcs]
    split
    · decide
    · split
      · decide
      · split
        · decide
        · split
          · decide
          · split <;> decide
theorem bt_7 {q : spD} : (c_bt q).length ≤ 7 := by
  rw [c_bt]
  split
  · decide
  · split <;> decide
theorem tc_24 {zw : Int32} {q : spD} {th : Option Nat} {c : Nat} {bl : List Int32} (h : bl.length ≤ 24) : (c_tc zw q th c bl).length ≤ 24 := by
  refine up_24 ?_ h
  have h1 := bt_7 (q := q)
  have h2 := ot_7 (o := th)
  have h3 : (j_ct c).length ≤ 3 := by rw [j_ct]; split <;> simp
  rw [List.length_append, List.length_append]
  omega
theorem wl_24 {κ : gS} {zw : Int32} {q : spD} {S : tS} (h : tOk κ S) : (c_wl zw q S).length ≤ 24 := by
  rw [c_wl]
  split
  · exact Nat.zero_le _
  · have h4 : (c_w4 zw q).length ≤ 24 := by
      rw [c_w4]
      split
      · exact tc_24 (tc_24 (tc_24 (tc_24 (Nat.zero_le _))))
      · exact Nat.zero_le _
    generalize S.2.1.length = k
    induction k with
    | zero => exact h4
    | succ k ih =>
      rw [c_nl]
      split
      · rename_i n hn
        refine up_24 ?_ ih
        have h1 := bt_7 (q := q)
        have h2 := (h.2.1 n (List.mem_of_getElem? hn)).1
        rw [List.length_append, ls_len]
        omega
      · exact ih
