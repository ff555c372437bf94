/-! the relation kept: a name more, a name changed, a span more -/
theorem ap1 {α : Type} {l : List α} {a b : α} {i : Nat} (h : (l ++ [a])[i]? = some b) : (i < l.length ∧ l[i]? = some b) ∨ (i = l.length ∧ b = a) := by
  rcases Nat.lt_or_ge i l.length with h1 | h1
  · rw [List.getElem?_append_left h1] at h
    exact Or.inl ⟨h1, h⟩
  · rw [List.getElem?_append_right h1] at h
    have h2 : i - l.length = 0 := by
      rcases Nat.eq_zero_or_pos (i - l.length) with h3 | h3
      · exact h3
      · rw [List.getElem?_eq_none (by simp; omega)] at h
        cases h
    rw [h2] at h
    exact Or.inr ⟨by omega, (Option.some.inj h).symm⟩
theorem st1 {α : Type} {l : List α} {a b : α} {i j : Nat} (h : (l.set j a)[i]? = some b) : (i ≠ j ∧ l[i]? = some b) ∨ (i = j ∧ b = a) := by
  rw [List.getElem?_set] at h
  by_cases e : j = i
  · rw [if_pos e] at h
    split at h
    · exact Or.inr ⟨e.symm, (Option.some.inj h).symm⟩
    · cases h
  · rw [if_neg e] at h
    exact Or.inl ⟨fun z => e z.symm, h⟩
section
variable {κ : gS} {S S1 : tS} {kp nn sn j : Nat} {fp f4 f5 f6 f7 f8 f9 f10 f11 f12 f13 f15 f16 f17 g4 g6 g7 g8 g9 g10 g11 g12 g13 : Nat → Int32} {ln ck ck' : Nat → Nat} {n n' : nmD}
theorem N_add (hN : lawN S nn f4 f5 f6 f7 f8 f9 f10 f11 f12 f13 ln ck) (hnew : nmP κ S fp kp S1) (hg : j_gd fp kp) (hno : ∀ (i : Nat) (n : nmD), S.2.1[i]? = some n → ¬ c_mt fp kp 0 n) (hcp : cpI f4 fp g4 (8 * nn) kp) :
    lawN S1 (nn + 1) g4 (upd f5 nn (nI kp)) f6 f7 f8 f9 f10 f11 f12 f13 (fun i => if i = nn then kp else ln i) ck := by
  obtain ⟨hok, d1, n1, rfl, e1, e2, e3, e4⟩ := hnew
  obtain ⟨m1, m2, m3, m4, m5, m6, m7, m8, m9⟩ := hN
  have hln : ∀ i, i ≠ nn → (if i = nn then kp else ln i) = ln i := fun i h => if_neg h
  refine ⟨by simp [m1], ?_, ?_, ?_, ?_, ?_, m7, m8, fun i hi => m9 i (by omega)⟩
  · intro n hn
    rcases List.mem_append.mp hn with h | h
    · exact m2 n h
    · rw [List.mem_singleton.mp h]
      exact ⟨by rw [e1]; exact hg.1, fun i hi => by rw [e2 i (by omega)]; exact hg.2.2 i (by omega)⟩
  · intro i j n n' hi hj hk hf
    rcases ap1 hi with ⟨a1, a2⟩ | ⟨a1, a2⟩ <;> rcases ap1 hj with ⟨b1, b2⟩ | ⟨b1, b2⟩
    · exact m3 i j n n' a2 b2 hk hf
    · subst b2
      exact absurd ⟨by rw [hk, e1]; omega, fun k hk2 => by rw [hf k hk2, e2 k (by omega), Nat.zero_add]⟩ (hno i n a2)
    · subst a2
      exact absurd ⟨by rw [← hk, e1]; omega, fun k hk2 => by rw [← hf k (by omega), e2 k (by omega), Nat.zero_add]⟩ (hno j n' b2)
    · omega
  · intro i n hi
    rcases ap1 hi with ⟨a1, a2⟩ | ⟨a1, a2⟩
    · obtain ⟨⟨t1, t2, t3, t4, t5, t6⟩, tb⟩ := m4 i n a2
      have hi2 : i ≠ nn := by omega
      have h8 := m6 i
      exact ⟨⟨by rw [t1]; exact (hln i hi2).symm, fun k hk => by rw [t2 k hk, hcp.2 _ (Or.inl (by omega))], t3, t4, t5, t6⟩, tb⟩
    · subst a2
      have hi2 : i = nn := by omega
      subst hi2
      exact ⟨⟨by rw [e1]; exact (if_pos rfl).symm, fun k hk => by rw [e2 k (by omega), hcp.1 k (by omega)], ⟨fun _ => e3, fun _ => (m9 _ (Nat.le_refl _)).1⟩, fun r9 h => (by rw [e3] at h; cases h), (by rw [e4]; exact (m9 _ (Nat.le_refl _)).2.symm), fun k q h => (by rw [e4] at h; cases h)⟩,
        fun r9 h => (by rw [e3] at h; cases h), fun q h => by rw [e4] at h; cases h⟩
  · intro i
    show upd f5 nn (nI kp) i = nI (if i = nn then kp else ln i)
    by_cases e : i = nn
    · subst e; rw [up_eq, if_pos rfl]
    · rw [up_lt e, if_neg e]; exact m5 i
  · intro i
    show (if i = nn then kp else ln i) ≤ 8
    by_cases e : i = nn
    · rw [if_pos e]; exact hg.2.1
    · rw [if_neg e]; exact m6 i
theorem N_set (hN : lawN S nn f4 f5 f6 f7 f8 f9 f10 f11 f12 f13 ln ck) (hj : S.2.1[j]? = some n) (e : S1.2.1 = S.2.1.set j n') (hk : nK n' = nK n) (hf : nF n' = nF n) (ht : nmT f4 g6 g7 g8 g10 g11 g12 g13 ln ck' j n') (hb : nmB n')
    (ho : ∀ (i : Nat) (n : nmD), i ≠ j → nmT f4 f6 f7 f8 f10 f11 f12 f13 ln ck i n → nmT f4 g6 g7 g8 g10 g11 g12 g13 ln ck' i n) (h9 : ∀ i, g9 i = nI (ck' i)) (h10 : ∀ i, ck' i ≤ 6) (h11 : ∀ i, nn ≤ i → g6 i = 0 ∧ ck' i = 0) :
    lawN S1 nn f4 f5 g6 g7 g8 g9 g10 g11 g12 g13 ln ck' := by
  obtain ⟨m1, m2, m3, m4, m5, m6, m7, m8, m9⟩ := hN
  have hjl : j < S.2.1.length := (List.getElem?_eq_some_iff.mp hj).1
  have hlet : ∀ (i : Nat) (z : nmD), S1.2.1[i]? = some z → ∃ y, S.2.1[i]? = some y ∧ nK z = nK y ∧ nF z = nF y := fun i z h => by
    rw [e] at h
    rcases st1 h with ⟨a1, a2⟩ | ⟨a1, a2⟩
    · exact ⟨z, a2, rfl, rfl⟩
    · subst a1; subst a2
      exact ⟨n, hj, hk, hf⟩
  refine ⟨by rw [e, List.length_set]; exact m1, ?_, ?_, ?_, m5, m6, h9, h10, h11⟩
  · intro z hz
    obtain ⟨i, hi⟩ := List.mem_iff_getElem?.mp hz
    obtain ⟨y, h1, h2, h3⟩ := hlet i z hi
    rw [h2, h3]
    exact m2 y (List.mem_of_getElem? h1)
  · intro i k z z' h1 h2 h3 h4
    obtain ⟨y, a1, a2, a3⟩ := hlet i z h1
    obtain ⟨y', b1, b2, b3⟩ := hlet k z' h2
    exact m3 i k y y' a1 b1 (by rw [← a2, ← b2]; exact h3) (fun q hq => by rw [← a3, ← b3]; exact h4 q (by omega))
  · intro i z h
    rw [e] at h
    rcases st1 h with ⟨a1, a2⟩ | ⟨a1, a2⟩
    · exact ⟨ho i z a1 (m4 i z a2).1, (m4 i z a2).2⟩
    · subst a1; subst a2
      exact ⟨ht, hb⟩
theorem S_add {a b o : Int32} {q : spD} (hS : lawS S sn f15 f16 f17) (e : S1.2.2.2 = S.2.2.2 ++ [q]) (ht : spT (upd f15 sn a) (upd f16 sn b) (upd f17 sn o) sn q) : lawS S1 (sn + 1) (upd f15 sn a) (upd f16 sn b) (upd f17 sn o) := by
  obtain ⟨h1, h2⟩ := hS
  refine ⟨by rw [e]; simp [h1], fun j z h => ?_⟩
  rw [e] at h
  rcases ap1 h with ⟨a1, a2⟩ | ⟨a1, a2⟩
  · have hj : j ≠ sn := by omega
    have := h2 j z a2
    simp only [spT, up_lt hj]
    exact this
  · subst a2
    have hj : j = sn := by omega
    subst hj
    exact ht
end
