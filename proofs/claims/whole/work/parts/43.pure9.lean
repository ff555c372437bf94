/-! texts of beginnings, as the reference has them; the years that a name stands for -/
theorem sx_jl : ∀ i, i < 6 → sL.getD i 0 = jl i := by decide +kernel
theorem sx_jc : ∀ i, i < 6 → ∀ j, j < jl i → sX i j = jc i j := by decide +kernel
theorem sx_p : ∀ i, i < 6 → 0 < sL.getD i 0 := by decide +kernel
theorem sx_m1 : ∀ i, i < 7 → ∀ j, j < sL.getD i 0 → ¬ (-1 : Int32) = sX i j := by decide +kernel
def c_bp (f : Nat → Int32) (k t9 si : Nat) : Prop := t9 + sL.getD si 0 ≤ k ∧ ∀ i, i < sL.getD si 0 → f (t9 + i) = sX si i
theorem c_bp_j {f : Nat → Int32} {k t9 si : Nat} (h : si < 6) : c_bp f k t9 si ↔ j_bp f k t9 si := by
  rw [c_bp, j_bp, sx_jl si h]
  exact ⟨fun q => ⟨q.1, fun i hi => (q.2 i hi).trans (sx_jc si h i hi)⟩, fun q => ⟨q.1, fun i hi => (q.2 i hi).trans (sx_jc si h i hi).symm⟩⟩
/-- floor of a quotient, and what is left -/
def c_fd (x y : Int32) : Int32 := if 0 ≤ x ^^^ y then x / y else if x / y * y = x then x / y else x / y - 1
def c_fm (x y : Int32) : Int32 := if 0 ≤ x ^^^ y then x - x / y * y else if x - x / y * y = 0 then x - x / y * y else x - x / y * y + y
/-- years' address, from, to; and the day of the phase -/
abbrev yaT : Type := Option (Nat × Int32 × Int32) × Int32
def ya_s (pl dy : Int32) (u : yaT) (q : phD) : yaT := if q.2.1 = pl ∧ ¬ dy < q.2.2.1 ∧ ¬ q.2.2.1 < u.2 then (some (q.2.2.2.1, q.2.2.2.2.1, q.2.2.2.2.2), q.2.2.1) else u
def ya (pl dy : Int32) (n : nmD) : yaT := (nH n).foldl (ya_s pl dy) (nG n, -1)
def yt (pl dy : Int32) (n : nmD) (j : Nat) : yaT := ((nH n).take j).foldl (ya_s pl dy) (nG n, -1)
theorem yt_0 {pl dy : Int32} {n : nmD} : yt pl dy n 0 = (nG n, -1) := rfl
theorem yt_s {pl dy : Int32} {n : nmD} {j : Nat} {q : phD} (h : (nH n)[j]? = some q) : yt pl dy n (j + 1) = ya_s pl dy (yt pl dy n j) q := by
  rw [yt, yt, List.take_add_one, h, List.foldl_append]; rfl
theorem yt_all {pl dy : Int32} {n : nmD} {j : Nat} (h : (nH n).length ≤ j) : yt pl dy n j = ya pl dy n := by
  rw [yt, List.take_of_length_le h, ya]
/-- the years lie in the name's world -/
theorem yt_mem {T : gT} {pl dy : Int32} {n : nmD} : ∀ j : Nat, ∀ r, (yt pl dy n j).1 = some r → rgY r ∈ nmW T n := by
  intro j
  induction j with
  | zero => intro r h; exact nmm_g h
  | succ j ih =>
    intro r h
    cases hq : (nH n)[j]? with
    | none =>
      have hl : (nH n).length ≤ j := List.getElem?_eq_none_iff.mp hq
      rw [yt_all (by omega), ← yt_all hl] at h
      exact ih r h
    | some q =>
      rw [yt_s hq, ya_s] at h
      by_cases cnd : q.2.1 = pl ∧ ¬ dy < q.2.2.1 ∧ ¬ q.2.2.1 < (yt pl dy n j).2
      · rw [if_pos cnd] at h
        cases h
        exact nmm_y (List.mem_of_getElem? hq)
      · rw [if_neg cnd] at h
        exact ih r h
theorem ya_mem {T : gT} {pl dy : Int32} {n : nmD} {r : Nat × Int32 × Int32} (h : (ya pl dy n).1 = some r) : rgY r ∈ nmW T n := yt_mem (nH n).length r (by rw [yt_all (Nat.le_refl _)]; exact h)
theorem ph_at {κ : gS} {n : nmD} {j : Nat} (h : nmOk κ n) (hj : j < (nH n).length) : ∃ q, (nH n)[j]? = some q ∧ (nL n).2.2.2.2 j = some q.1 ∧ (nH n).length ≤ (nL n).2.2.2.1 ∧ (nL n).2.2.2.1 ≤ 90 := by
  obtain ⟨q, hq⟩ : ∃ q, (nH n)[j]? = some q := ⟨_, List.getElem?_eq_getElem hj⟩
  have hne : (nH n).map (fun q => q.1) ≠ [] := fun e => by rw [List.map_eq_nil_iff] at e; rw [e] at hj; exact absurd hj (by simp)
  obtain ⟨g1, g2, g3, g4⟩ := h.2.2.2 hne
  rw [List.length_map] at g1 g4
  exact ⟨q, hq, by rw [g4 j hj, List.getElem?_map, hq]; rfl, g1, g3⟩
theorem met_ofP {l : Launch} {y : MethodName} {ws ws' : List Cond} {rm : Room} {Pc : Array Value → State → Prop} {Qc : Array Value → State → Outcome → State → Prop} {mc ms : Nat} {free : Addr → Prop} {cc : ByteArray} {maxL : Nat} {ret : Option FieldType}
    (hy : plainFor y = true) (hw : ws = Cond.code y cc maxL ret :: ws')
    (body : ∀ p e s m args below meth c s₁, BodyLoose p l y (headSpec ws rm) cc maxL ret e s m args below meth c s₁ → c.maxLocals = maxL → Pc args s →
      W p l e (headSpec ws rm).room s m args below meth c s.heap [] 0 0 (MQ below Qc args s mc ms free) (entryFrame m args maxL)) : Met l y ws rm Pc Qc mc ms free := by
  refine MetFree.of_bodySF (code := cc) (maxLocals := maxL) (ret := ret) hy ?_ ?_
  · intro args s m h hn
    obtain ⟨meth, c, h1, h2, h3, h4, h5, h6, -, -⟩ := Cond.code_spec hn (atoms_spec (ws := ws) h _ (by rw [hw]; exact List.mem_cons_self))
    exact ⟨meth, c, h1, h2, h3, h4, h5, h6⟩
  · intro p e s m args below meth c s₁ B hml hP _
    have hh0 : s₁.heap = s.heap := by rw [B.state]; rfl
    obtain ⟨t, a1, o, b1, b2, b3⟩ := body p e s m args below meth c s₁ B hml hP s₁ hh0 (Stand.of_body B)
    exact ⟨t, o, a1, b1, b2, ⟨b3.1, b3.2⟩⟩
