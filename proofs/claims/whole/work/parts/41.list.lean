/-! a list's states -/
theorem li_cases {κ : gS} {d : liD} {xs : List Nat} (h : liOk κ d xs) : (xs = [] ∧ d.2.1 = κ.2.2.1) ∨ (xs ≠ [] ∧ xs.length < d.2.2.2.1 ∧ d.2.2.2.1 ≤ 90) ∨ (xs ≠ [] ∧ xs.length = d.2.2.2.1 ∧ 10 ≤ d.2.2.2.1) := by
  by_cases e : xs = []
  · exact Or.inl ⟨e, h.1 e⟩
  · obtain ⟨h1, h2, h3, -⟩ := h.2 e
    rcases Nat.lt_or_ge xs.length d.2.2.2.1 with q | q
    · exact Or.inr (Or.inl ⟨e, q, h3⟩)
    · exact Or.inr (Or.inr ⟨e, by omega, h2⟩)
theorem li_w0 {κ : gS} {T : gT} {d : liD} {pl : va_W} (h : d.2.1 = κ.2.2.1) : liO d ([] : List Nat).length :: (liB T d ([] : List Nat).length ++ pl) = [(d.1, .inr (0, [.ref κ.2.2.1, .int 0, .int d.2.2.1]))] ++ pl := by
  rw [← h]; rfl
theorem li_w1 {T : gT} {d : liD} {xs : List Nat} {pl : va_W} (h : xs ≠ []) : liO d xs.length :: (liB T d xs.length ++ pl) = [(d.1, .inr (0, [.ref d.2.1, .int (nI xs.length), .int d.2.2.1])), (d.2.1, .inl (T.2.2.2, d.2.2.2.1, .inr (.inr (.inr (.inr d.2.2.2.2)))))] ++ pl := by
  rw [liB, if_neg (fun e => h (List.length_eq_zero_iff.mp e))]; rfl
theorem li_w2 {T : gT} {d : liD} {k : Nat} {pl : va_W} : liO d (k + 1) :: (liB T d (k + 1) ++ pl) = [liO d (k + 1), liA T d] ++ pl := by
  rw [liB, if_neg (by omega)]; rfl
theorem li_ok1 {κ : gS} {lo ra qe : Nat} {md : Int32} : liOk κ (lo, ra, md, 10, va_up (fun _ => none) 0 (some qe)) ([] ++ [qe]) :=
  ⟨fun h => absurd h (by simp), fun _ => ⟨by simp, by simp, by simp, li_up (xs := []) (fun i hi => absurd hi (by simp))⟩⟩
theorem li_ok2 {κ : gS} {d : liD} {xs : List Nat} {qe : Nat} {md : Int32} (h : liOk κ d xs) (h1 : xs ≠ []) (h2 : xs.length < d.2.2.2.1) : liOk κ (d.1, d.2.1, md, d.2.2.2.1, va_up d.2.2.2.2 xs.length (some qe)) (xs ++ [qe]) := by
  obtain ⟨g1, g2, g3, g4⟩ := h.2 h1
  exact ⟨fun h => absurd h (by simp), fun _ => ⟨by simp; omega, g2, g3, li_up g4⟩⟩
theorem li_ok3 {κ : gS} {d : liD} {xs : List Nat} {ra qe : Nat} {md : Int32} (h : liOk κ d xs) (h1 : xs ≠ []) (h2 : xs.length = d.2.2.2.1) (h3 : xs.length ≤ 60) : liOk κ (d.1, ra, md, d.2.2.2.1 + d.2.2.2.1 / 2, va_up (va_cpy d.2.2.2.2 (fun _ => none) 0 0 d.2.2.2.1) d.2.2.2.1 (some qe)) (xs ++ [qe]) := by
  obtain ⟨g1, g2, g3, g4⟩ := h.2 h1
  refine ⟨fun h => absurd h (by simp), fun _ => ⟨by simp; omega, by simp; omega, by simp; omega, ?_⟩⟩
  show ∀ i, i < (xs ++ [qe]).length → va_up (va_cpy d.2.2.2.2 (fun _ => none) 0 0 d.2.2.2.1) d.2.2.2.1 (some qe) i = (xs ++ [qe])[i]?
  rw [← h2]
  exact li_up (fun i hi => (cpy_lt hi).trans (g4 i hi))
theorem li_el {κ : gS} {d : liD} {xs : List Nat} {pl : va_W} (h : liOk κ d xs) (h1 : xs ≠ []) (h2 : xs.length = d.2.2.2.1) (h3 : ∀ x ∈ xs, isOb pl x) : ∀ i, i < d.2.2.2.1 → ∀ y, d.2.2.2.2 i = some y → isOb pl y := by
  obtain ⟨g1, g2, g3, g4⟩ := h.2 h1
  intro i hi y hy
  rw [g4 i (by omega)] at hy
  exact h3 y (List.mem_of_getElem? hy)
