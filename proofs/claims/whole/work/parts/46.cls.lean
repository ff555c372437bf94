/-! names and spans by their numbers -/
theorem nm_at {κ : gS} {S : tS} {j : Nat} {n : nmD} (h : tOk κ S) (hn : S.2.1[j]? = some n) : S.1.2.2.2.2 j = some (nA n) ∧ S.2.1.length ≤ S.1.2.2.2.1 ∧ S.1.2.2.2.1 ≤ 90 ∧ j < S.2.1.length ∧ n ∈ S.2.1 ∧ nmOk κ n := by
  have hj : j < S.2.1.length := (List.getElem?_eq_some_iff.mp hn).1
  have hne : S.2.1.map (fun n => n.1) ≠ [] := fun e => by rw [List.map_eq_nil_iff] at e; rw [e] at hj; exact absurd hj (by simp)
  obtain ⟨g1, g2, g3, g4⟩ := h.1.2 hne
  rw [List.length_map] at g1 g4
  exact ⟨by rw [g4 j hj, List.getElem?_map, hn]; rfl, g1, g3, hj, List.mem_of_getElem? hn, h.2.1 n (List.mem_of_getElem? hn)⟩
theorem sp_at {κ : gS} {S : tS} {j : Nat} {q : spD} (h : tOk κ S) (hn : S.2.2.2[j]? = some q) : S.2.2.1.2.2.2.2 j = some q.1 ∧ S.2.2.2.length ≤ S.2.2.1.2.2.2.1 ∧ S.2.2.1.2.2.2.1 ≤ 90 ∧ j < S.2.2.2.length ∧ q ∈ S.2.2.2 := by
  have hj : j < S.2.2.2.length := (List.getElem?_eq_some_iff.mp hn).1
  have hne : S.2.2.2.map (fun n => n.1) ≠ [] := fun e => by rw [List.map_eq_nil_iff] at e; rw [e] at hj; exact absurd hj (by simp)
  obtain ⟨g1, g2, g3, g4⟩ := h.2.2.1.2 hne
  rw [List.length_map] at g1 g4
  exact ⟨by rw [g4 j hj, List.getElem?_map, hn]; rfl, g1, g3, hj, List.mem_of_getElem? hn⟩
theorem ix_f {x : Int32} {k : Nat} (h : j_ix x (nI k) = false) (hk : k < 2147483648) (j : Nat) (hj : j < k) : ¬ x = nI j := by
  intro e
  subst e
  rw [j_ix, decide_eq_false (nI_pos (by omega)), decide_eq_false (nI_ge hj hk)] at h
  exact absurd h (by decide)
theorem ix_t {x : Int32} {k : Nat} (h : j_ix x (nI k) = true) (hk : k < 2147483648) : ∃ j, j < k ∧ x = nI j := by
  simp only [j_ix, Bool.and_eq_true, Bool.not_eq_true', decide_eq_false_iff_not] at h
  obtain ⟨n, hn, rfl⟩ := nI_of h.1
  rcases Nat.lt_or_ge n k with q | q
  · exact ⟨n, q, rfl⟩
  · exact absurd (nI_le q hn) h.2
section MyLdc
variable {p : Program} {l : Launch} {e : Env} {R : Room} {s : State} {m : MethodId} {args : Array Value} {below : List Frame} {meth : Method} {c : Code} {H : Heap} {locs : List Loc} {cells slots : Nat} {Q : State → Prop}
theorem g_ldcw {cc : ByteArray} {pc : Nat} {ls : Array Slot} {rest : List Value} (hexec : p.tables.exec = Jvm.exec) (hb : c.code = cc) {own tx : String} {index q : Nat} (hown : s.vm.findClass own = some m.cls) (hZ : vk_R own index tx q s) (hdg : decode cc pc = .ok (.ldc_w index, 3))
    (k : W p l e R s m args below meth c H locs cells slots Q (F0 m (pc + 3) ls (.ref q :: rest))) : W p l e R s m args below meth c H locs cells slots Q (F0 m pc ls rest) := by
  intro T hT X
  obtain ⟨t, a1, b1⟩ := k T hT X
  have hZ1 : (Cond.stringRef own index tx).before args s = true := by
    have h := hZ.1
    rw [Cond.before] at h ⊢
    exact h
  have hZ2 : (Term.string own index).eval args s none [] s = some (.ref q) := hZ.2
  exact ⟨t, X.ldcStringW hexec hown (text := tx) (a := q) hZ1 hZ2 (g := F0 m pc ls rest) rfl (by rw [hb]; exact hdg) t a1, b1⟩
end MyLdc
theorem b6 {b : Nat} (h : b < 6) : b = 0 ∨ b = 1 ∨ b = 2 ∨ b = 3 ∨ b = 4 ∨ b = 5 := by omega
theorem dy_eq : ∀ mm, mm < 13 → 1 ≤ mm → ∀ y, j_dy y (nI mm) = dM.getD (mm - 1) 0 + (if mm = 2 ∧ j_lp y = true then 1 else 0) := by
  intro mm h1 h2 y
  have : mm = 1 ∨ mm = 2 ∨ mm = 3 ∨ mm = 4 ∨ mm = 5 ∨ mm = 6 ∨ mm = 7 ∨ mm = 8 ∨ mm = 9 ∨ mm = 10 ∨ mm = 11 ∨ mm = 12 := by omega
  rw [j_dy]
  generalize j_lp y = b
  revert b
  rcases this with rfl | rfl | rfl | rfl | rfl | rfl | rfl | rfl | rfl | rfl | rfl | rfl <;> decide
/-- which relation two spans have, as the class decides it -/
def c_rl5 (x y cv : Int32) : Int32 := if cv ≤ y + 1 then (if y + 1 = cv then 1 else 2) else 0
def c_rl4 (x y cv dv : Int32) : Int32 := if x ≤ cv then c_rl5 x y cv else 6
def c_rl3 (x y cv dv : Int32) : Int32 := if cv < x then c_rl4 x y cv dv else if y < dv then c_rl4 x y cv dv else 5
def c_rl2 (x y cv dv : Int32) : Int32 := if x < cv then c_rl3 x y cv dv else if dv < y then c_rl3 x y cv dv else 4
def c_rl (x y cv dv : Int32) : Int32 := if x = cv then (if y = dv then 3 else c_rl2 x y cv dv) else c_rl2 x y cv dv
def c_ra1 (x dv : Int32) : Int32 := if dv ≤ x + 1 then 0 else 0 ||| 1
def c_ra2 (b x y cv dv : Int32) : Int32 := if (if dv < y + 1 then dv else y + 1) < (if x + 1 < cv then cv else x + 1) then b else b ||| 2
def c_ra3 (b x y cv dv : Int32) : Int32 := if (if dv - 1 < y then dv - 1 else y) < (if x + 1 < cv then cv else x + 1) then b else b ||| 4
def c_ra (x y cv dv : Int32) : Int32 := c_ra3 (c_ra2 (c_ra1 x dv) x y cv dv) x y cv dv
def c_rb1 (cv dv : Int32) : Int32 := if dv - cv + 1 ≤ 1 then 8 else 8 ||| 16
def c_rb2 (b x y : Int32) : Int32 := if y - x + 1 ≤ 1 then b else b ||| 32
def c_rb (x y cv dv : Int32) : Int32 := if (if x < cv then cv else x) ≤ (if dv < y then dv else y) then c_rb2 (c_rb1 cv dv) x y else 0
theorem ix_no {x k : Int32} (h : j_ix x k = false) (h1 : ¬ x < 0) (h2 : x < k) : False := by
  rw [j_ix, decide_eq_false h1, decide_eq_false (Int32.not_le.mpr h2)] at h
  exact absurd h (by decide)
theorem in_012 {x : Int32} (h : j_in x 0 2 = true) : x = 0 ∨ x = 1 ∨ x = 2 := by
  obtain ⟨h1, h2⟩ : ¬ x < 0 ∧ ¬ 2 < x := by simpa [j_in] using h
  obtain ⟨n, hn, rfl⟩ := nI_of h1
  have h3 : ¬ nI 2 < nI n := h2
  have h4 : n ≤ 2 := by
    rcases Nat.lt_or_ge 2 n with q | q
    · exact absurd (nI_lt q hn) h3
    · exact q
  have h5 : n = 0 ∨ n = 1 ∨ n = 2 := by omega
  rcases h5 with rfl | rfl | rfl
  · exact Or.inl rfl
  · exact Or.inr (Or.inl rfl)
  · exact Or.inr (Or.inr rfl)
theorem in_n012 {x : Int32} (h : j_in x 0 2 = false) : x.toInt < 0 ∨ 2 < x.toInt := by
  rcases Classical.em (x < 0) with q | q
  · left; rw [Int32.lt_iff_toInt_lt] at q; exact q
  · rcases Classical.em (2 < x) with r | r
    · right; rw [Int32.lt_iff_toInt_lt] at r; exact r
    · exact absurd h (by simp [j_in, q, r])
/-- the pad from a sign on is the name -/
def c_mt (f : Nat → Int32) (k t9 : Nat) (n : nmD) : Prop := nK n + t9 = k ∧ ∀ i, i < nK n → nF n i = f (t9 + i)
