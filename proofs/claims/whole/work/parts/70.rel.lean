/-! the class and the reference tied: one relation -/
def yB (x y : Int32) : Prop := -9999 ≤ x.toInt ∧ x.toInt ≤ y.toInt ∧ y.toInt ≤ 9999
def nmB (n : nmD) : Prop := (∀ r9, nG n = some r9 → yB r9.2.1 r9.2.2) ∧ ∀ q ∈ nH n, yB q.2.2.2.2.1 q.2.2.2.2.2 ∧ ¬ q.2.2.1 < 0
def nmT (f4 f6 f7 f8 f10 f11 f12 f13 : Nat → Int32) (ln ck : Nat → Nat) (i : Nat) (n : nmD) : Prop :=
  nK n = ln i ∧ (∀ k, k < nK n → nF n k = f4 (8 * i + k)) ∧ (f6 i = 0 ↔ nG n = none) ∧ (∀ r9, nG n = some r9 → r9.2.1 = f7 i ∧ r9.2.2 = f8 i) ∧ (nH n).length = ck i ∧
  ∀ k q, (nH n)[k]? = some q → q.2.1 = f10 (6 * i + k) ∧ q.2.2.1 = f13 (6 * i + k) ∧ q.2.2.2.2.1 = f11 (6 * i + k) ∧ q.2.2.2.2.2 = f12 (6 * i + k)
def spT (f15 f16 f17 : Nat → Int32) (j : Nat) (q : spD) : Prop :=
  (f17 j = 0 ∨ f17 j = 1 ∨ f17 j = 2 ∨ f17 j = 3) ∧ q.2.1 = j_lo (f17 j) (f15 j) ∧ q.2.2.1 = j_hi (f17 j) (f16 j) ∧ q.2.2.2.1 = j_op (f17 j) 0 ∧ q.2.2.2.2 = j_op (f17 j) 1 ∧ yB q.2.1 q.2.2.1
def nmU (S : tS) : Prop := ∀ (i j : Nat) (n n' : nmD), S.2.1[i]? = some n → S.2.1[j]? = some n' → nK n = nK n' → (∀ k, k < nK n → nF n k = nF n' k) → i = j
def lawN (S : tS) (nn : Nat) (f4 f5 f6 f7 f8 f9 f10 f11 f12 f13 : Nat → Int32) (ln ck : Nat → Nat) : Prop :=
  S.2.1.length = nn ∧ lOk S ∧ nmU S ∧ (∀ (i : Nat) (n : nmD), S.2.1[i]? = some n → nmT f4 f6 f7 f8 f10 f11 f12 f13 ln ck i n ∧ nmB n) ∧ (∀ i, f5 i = nI (ln i)) ∧ (∀ i, ln i ≤ 8) ∧ (∀ i, f9 i = nI (ck i)) ∧ (∀ i, ck i ≤ 6) ∧ ∀ i, nn ≤ i → f6 i = 0 ∧ ck i = 0
def lawS (S : tS) (sn : Nat) (f15 f16 f17 : Nat → Int32) : Prop := S.2.2.2.length = sn ∧ ∀ (j : Nat) (q : spD), S.2.2.2[j]? = some q → spT f15 f16 f17 j q
def lawR (κ : gS) (zw : Int32) (kp : Nat) (fp : Nat → Int32) (S : tS) (pn nn sn : Nat) (z18 : Int32) (f1 f4 f5 f6 f7 f8 f9 f10 f11 f12 f13 f15 f16 f17 : Nat → Int32) (ln ck : Nat → Nat) : Prop :=
  (tOk κ S ∧ kp ≤ 24 ∧ kp = pn ∧ fp = f1 ∧ zw = z18 ∧ 0 ≤ zw.toInt ∧ zw.toInt ≤ 1000) ∧ lawN S nn f4 f5 f6 f7 f8 f9 f10 f11 f12 f13 ln ck ∧ lawS S sn f15 f16 f17
section
variable {κ : gS} {zw : Int32} {kp : Nat} {fp : Nat → Int32} {S : tS} {pn nn sn : Nat} {z18 : Int32} {f1 f4 f5 f6 f7 f8 f9 f10 f11 f12 f13 f15 f16 f17 : Nat → Int32} {ln ck : Nat → Nat}
theorem lawR.nn24 (h : lawR κ zw kp fp S pn nn sn z18 f1 f4 f5 f6 f7 f8 f9 f10 f11 f12 f13 f15 f16 f17 ln ck) : nn ≤ 24 := by
  have := h.1.1.2.2.2.1
  have := h.2.1.1
  omega
theorem lawR.sn60 (h : lawR κ zw kp fp S pn nn sn z18 f1 f4 f5 f6 f7 f8 f9 f10 f11 f12 f13 f15 f16 f17 ln ck) : sn ≤ 60 := by
  have := h.1.1.2.2.2.2
  have := h.2.2.1
  omega
theorem lawR.pn24 (h : lawR κ zw kp fp S pn nn sn z18 f1 f4 f5 f6 f7 f8 f9 f10 f11 f12 f13 f15 f16 f17 ln ck) : pn ≤ 24 := by
  have := h.1.2.1
  have := h.1.2.2.1
  omega
theorem lawR.ln1 (h : lawR κ zw kp fp S pn nn sn z18 f1 f4 f5 f6 f7 f8 f9 f10 f11 f12 f13 f15 f16 f17 ln ck) : ∀ i, i < nn → 1 ≤ ln i := by
  intro i hi
  have e := h.2.1.1
  have hn : S.2.1[i]? = some S.2.1[i] := List.getElem?_eq_getElem (by omega)
  have h1 := (h.2.1.2.2.2.1 i _ hn).1.1
  have h2 := (h.2.1.2.1 _ (List.mem_of_getElem? hn)).1
  omega
theorem lawR.mt (h : lawR κ zw kp fp S pn nn sn z18 f1 f4 f5 f6 f7 f8 f9 f10 f11 f12 f13 f15 f16 f17 ln ck) {i : Nat} {n : nmD} (hn : S.2.1[i]? = some n) (t : Nat) : c_mt fp kp t n ↔ j_mt f1 f4 ln pn t i := by
  obtain ⟨⟨-, -, e1, e2, -⟩, hN, -⟩ := h
  obtain ⟨t1, t2, -⟩ := (hN.2.2.2.1 i n hn).1
  subst e1; subst e2
  constructor
  · intro c
    exact ⟨by rw [← t1]; exact c.1, fun k hk => by rw [← t2 k (by omega)]; exact c.2 k (by omega)⟩
  · intro c
    exact ⟨by rw [t1]; exact c.1, fun k hk => by rw [t2 k hk]; exact c.2 k (by omega)⟩
theorem lawR.nth (h : lawR κ zw kp fp S pn nn sn z18 f1 f4 f5 f6 f7 f8 f9 f10 f11 f12 f13 f15 f16 f17 ln ck) {i : Nat} (hi : i < nn) : ∃ n, S.2.1[i]? = some n := ⟨_, List.getElem?_eq_getElem (by have := h.2.1.1; omega)⟩
theorem lawR.sth (h : lawR κ zw kp fp S pn nn sn z18 f1 f4 f5 f6 f7 f8 f9 f10 f11 f12 f13 f15 f16 f17 ln ck) {i : Nat} (hi : i < sn) : ∃ n, S.2.2.2[i]? = some n := ⟨_, List.getElem?_eq_getElem (by have := h.2.2.1; omega)⟩
end
