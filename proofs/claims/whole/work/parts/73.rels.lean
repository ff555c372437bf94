/-! relations: the class's and the reference's are the same within the years -/
theorem k_toInt : (1 : Int32).toInt = 1 ∧ (-9999 : Int32).toInt = -9999 ∧ (9999 : Int32).toInt = 9999 ∧ (0 : Int32).toInt = 0 := by decide
theorem yb_p {x : Int32} (h1 : -9999 ≤ x.toInt) (h2 : x.toInt ≤ 9999) : (x + 1).toInt = x.toInt + 1 := by
  have c := k_toInt.1
  rw [ii_add (by rw [c]; omega) (by rw [c]; omega), c]
theorem yb_m {x : Int32} (h1 : -9999 ≤ x.toInt) (h2 : x.toInt ≤ 9999) : (x - 1).toInt = x.toInt - 1 := by
  have c := k_toInt.1
  rw [ii_sub (by rw [c]; omega) (by rw [c]; omega), c]
theorem rl_same {x y cv dv : Int32} (h1 : yB x y) (h2 : yB cv dv) : c_rl x y cv dv = j_rl x y cv dv := by
  obtain ⟨a1, a2, a3⟩ := h1
  obtain ⟨b1, b2, b3⟩ := h2
  have e1 := yb_p (x := y) (by omega) a3
  have e2 := yb_m (x := cv) b1 (by omega)
  have p1 : cv ≤ y + 1 ↔ cv - 1 ≤ y := by rw [ii_le, ii_le, e1, e2]; omega
  have p2 : y + 1 = cv ↔ y = cv - 1 := by rw [ii_eq, ii_eq, e1, e2]; omega
  have p5 : c_rl5 x y cv = (if cv - 1 ≤ y then (if y = cv - 1 then 1 else 2) else 0) := by simp only [c_rl5, p1, p2]
  have p4 : c_rl4 x y cv dv = j_rl4 x y cv := by simp only [c_rl4, j_rl4, p5]
  have p3 : c_rl3 x y cv dv = j_rl3 x y cv dv := by simp only [c_rl3, j_rl3, p4]
  have p2' : c_rl2 x y cv dv = j_rl2 x y cv dv := by simp only [c_rl2, j_rl2, p3]
  simp only [c_rl, j_rl, p2']
def ra_b (p q r : Bool) : Int32 := if r = true then (if q = true then (if p = true then 0 else 0 ||| 1) else (if p = true then 0 else 0 ||| 1) ||| 2) else (if q = true then (if p = true then 0 else 0 ||| 1) else (if p = true then 0 else 0 ||| 1) ||| 2) ||| 4
def rb_b (s d1 d2 : Bool) : Int32 := if s = true then (if d2 = true then (if d1 = true then 8 else 8 ||| 16) else (if d1 = true then 8 else 8 ||| 16) ||| 32) else 0
def rs_b (p q r p' q' r' s d1 d2 : Bool) : Int32 := if ra_b p' q' r' = 0 then ra_b p q r ||| rb_b s d1 d2 else (ra_b p q r ||| rb_b s d1 d2) ||| 64
def bi_b (b : Int32) (m n : Bool) (k : Int32) : Int32 := (b ||| (if m = true then 1 <<< (k &&& 31) else 0)) ||| (if n = true then 64 else 0)
def js_b (p q r p' q' r' s d1 d2 : Bool) : Int32 := if s = true then (((bi_b (bi_b (bi_b 0 (!p) (!p') (nI 0)) (!q) (!q') (nI 1)) (!r) (!r') (nI 2)) ||| 8) ||| (if d1 = true then 0 else 16)) ||| (if d2 = true then 0 else 32) else j_rA (bi_b (bi_b (bi_b 0 (!p) (!p') (nI 0)) (!q) (!q') (nI 1)) (!r) (!r') (nI 2))
theorem rs_b_eq : ∀ p q r p' q' r' s d1 d2 : Bool, rs_b p q r p' q' r' s d1 d2 = js_b p q r p' q' r' s d1 d2 := by decide +kernel
abbrev raP (x dv : Int32) : Bool := decide (dv ≤ x + 1)
abbrev raQ (x y cv dv : Int32) : Bool := decide ((if dv < y + 1 then dv else y + 1) < (if x + 1 < cv then cv else x + 1))
abbrev raR (x y cv dv : Int32) : Bool := decide ((if dv - 1 < y then dv - 1 else y) < (if x + 1 < cv then cv else x + 1))
theorem ra_of {x y cv dv : Int32} : c_ra x y cv dv = ra_b (raP x dv) (raQ x y cv dv) (raR x y cv dv) := by
  simp only [c_ra, c_ra1, c_ra2, c_ra3, ra_b, raP, raQ, raR, decide_eq_true_eq]
theorem mn_toInt {a b : Int32} : (if a < b then a else b).toInt = min a.toInt b.toInt := by
  split
  · rename_i h; rw [ii_lt] at h; omega
  · rename_i h; rw [ii_lt] at h; omega
theorem mx_toInt {a b : Int32} : (if a < b then b else a).toInt = max a.toInt b.toInt := by
  split
  · rename_i h; rw [ii_lt] at h; omega
  · rename_i h; rw [ii_lt] at h; omega
theorem mn_toInt' {a b : Int32} : (if a ≤ b then a else b).toInt = min a.toInt b.toInt := by
  split
  · rename_i h; rw [ii_le] at h; omega
  · rename_i h; rw [ii_le] at h; omega
theorem mx_toInt' {a b : Int32} : (if a ≤ b then b else a).toInt = max a.toInt b.toInt := by
  split
  · rename_i h; rw [ii_le] at h; omega
  · rename_i h; rw [ii_le] at h; omega
theorem mb_0 {x y cv dv : Int32} (h1 : yB x y) (h2 : yB cv dv) : j_mb (nI 0) x y cv dv = !raP x dv := by
  obtain ⟨a1, a2, a3⟩ := h1
  obtain ⟨b1, b2, b3⟩ := h2
  have e1 := yb_p (x := x) a1 (by omega)
  have c2 : (2 : Int32).toInt = 2 := by decide
  have e2 : (x + 2).toInt = x.toInt + 2 := by rw [ii_add (by rw [c2]; omega) (by rw [c2]; omega), c2]
  rw [j_mb, if_pos (show nI 0 = 0 from by decide)]
  congr 1
  rw [decide_eq_decide, ii_lt, ii_le, e1, e2]
  omega
theorem mb_1 {x y cv dv : Int32} (h1 : yB x y) (h2 : yB cv dv) : j_mb (nI 1) x y cv dv = !raQ x y cv dv := by
  obtain ⟨a1, a2, a3⟩ := h1
  obtain ⟨b1, b2, b3⟩ := h2
  have e1 := yb_p (x := x) a1 (by omega)
  have e2 := yb_p (x := y) (by omega) a3
  have e3 := yb_m (x := dv) (by omega) b3
  have e4 := yb_m (x := cv) b1 (by omega)
  rw [j_mb, if_neg (by decide), if_pos (show nI 1 = 1 from by decide)]
  congr 1
  rw [decide_eq_decide, ii_lt, ii_lt, mn_toInt, mx_toInt, mn_toInt', mx_toInt', e1, e2, e3, e4]
  omega
theorem mb_2 {x y cv dv : Int32} (h1 : yB x y) (h2 : yB cv dv) : j_mb (nI 2) x y cv dv = !raR x y cv dv := by
  obtain ⟨a1, a2, a3⟩ := h1
  obtain ⟨b1, b2, b3⟩ := h2
  have e1 := yb_p (x := x) a1 (by omega)
  have e3 := yb_m (x := dv) (by omega) b3
  rw [j_mb, if_neg (by decide), if_neg (by decide)]
  congr 1
  rw [decide_eq_decide, ii_lt, ii_lt, mn_toInt, mx_toInt, mn_toInt', mx_toInt', e1, e3]
theorem sub1 {x y : Int32} (h : yB x y) : y - x + 1 ≤ 1 ↔ y ≤ x := by
  obtain ⟨a1, a2, a3⟩ := h
  have c := k_toInt.1
  have e1 : (y - x).toInt = y.toInt - x.toInt := ii_sub (by omega) (by omega)
  have e2 : (y - x + 1).toInt = y.toInt - x.toInt + 1 := by rw [ii_add (by rw [e1, c]; omega) (by rw [e1, c]; omega), e1, c]
  rw [ii_le, ii_le, e2, c]
  omega
theorem rs_same {x y cv dv : Int32} (h1 : yB x y) (h2 : yB cv dv) : c_rs x y cv dv = j_rs x y cv dv := by
  have hB : j_bits x y cv dv 3 = bi_b (bi_b (bi_b 0 (!raP x dv) (!raP cv y) (nI 0)) (!raQ x y cv dv) (!raQ cv dv x y) (nI 1)) (!raR x y cv dv) (!raR cv dv x y) (nI 2) := by
    simp only [j_bits, bi_b, mb_0 h1 h2, mb_0 h2 h1, mb_1 h1 h2, mb_1 h2 h1, mb_2 h1 h2, mb_2 h2 h1]
  have hb : c_rb x y cv dv = rb_b (decide (¬ dv < x ∧ ¬ y < cv)) (decide (dv ≤ cv)) (decide (y ≤ x)) := by
    have q : ((if x < cv then cv else x) ≤ (if dv < y then dv else y)) ↔ (¬ dv < x ∧ ¬ y < cv) := by
      obtain ⟨a1, a2, a3⟩ := h1
      obtain ⟨b1, b2, b3⟩ := h2
      rw [ii_le, mn_toInt, mx_toInt, ii_lt, ii_lt]
      omega
    simp only [c_rb, c_rb1, c_rb2, rb_b, sub1 h1, sub1 h2, q, decide_eq_true_eq]
  have hl : c_rs x y cv dv = rs_b (raP x dv) (raQ x y cv dv) (raR x y cv dv) (raP cv y) (raQ cv dv x y) (raR cv dv x y) (decide (¬ dv < x ∧ ¬ y < cv)) (decide (dv ≤ cv)) (decide (y ≤ x)) := by
    rw [c_rs, hb, ra_of, ra_of, rs_b]
  rw [hl, rs_b_eq, j_rs, hB, js_b]
  by_cases q1 : dv < x
  · rw [if_pos q1, if_neg (by simp [q1])]
  · rw [if_neg q1]
    by_cases q2 : y < cv
    · rw [if_pos q2, if_neg (by simp [q2])]
    · rw [if_neg q2, if_pos (by simp [q1, q2]), j_rB]
      simp only [decide_eq_true_eq]
theorem or_3 {a b : Int32} (ha : a = 0 ∨ a = 1 ∨ a = 2 ∨ a = 3) (hb : b = 0 ∨ b = 1 ∨ b = 2 ∨ b = 3) : (a ||| b = 0 ∨ a ||| b = 1 ∨ a ||| b = 2 ∨ a ||| b = 3) ∧ j_op (a ||| b) 0 = (j_op a 0 || j_op b 0) ∧ j_op (a ||| b) 1 = (j_op a 1 || j_op b 1) := by
  rcases ha with rfl | rfl | rfl | rfl <;> rcases hb with rfl | rfl | rfl | rfl <;> decide +kernel
theorem op_c {a : Int32} (ha : a = 0 ∨ a = 1 ∨ a = 2 ∨ a = 3) : (j_op a 0 || j_op a 1) = false ↔ a = 0 := by
  rcases ha with rfl | rfl | rfl | rfl <;> decide +kernel
