/-! pure words: the shortest word -/
/-- the first n values as a list -/
def j_ls (f : Nat → Int32) (n : Nat) : List Int32 := (List.range n).map f
theorem ls_len (f : Nat → Int32) (n : Nat) : (j_ls f n).length = n := by simp [j_ls]
theorem ls_get {f : Nat → Int32} {n k : Nat} (h : k < n) : (j_ls f n)[k]? = some (f k) := by simp [j_ls, h]
theorem ls_ext {f : Nat → Int32} {n : Nat} {L : List Int32} (hl : L.length = n) (h : ∀ k, k < n → L[k]? = some (f k)) : j_ls f n = L := by
  apply List.ext_getElem?
  intro k
  by_cases hk : k < n
  · rw [ls_get hk, h k hk]
  · rw [List.getElem?_eq_none (by rw [ls_len]; omega), List.getElem?_eq_none (by omega)]
theorem ls_congr {f g : Nat → Int32} {n : Nat} (h : ∀ k, k < n → f k = g k) : j_ls f n = j_ls g n := ls_ext (ls_len g n) (fun k hk => by rw [ls_get hk, h k hk])
theorem ls_app {f g h : Nat → Int32} {a b : Nat} (h1 : ∀ k, k < a → h k = f k) (h2 : ∀ k, k < b → h (a + k) = g k) : j_ls h (a + b) = j_ls f a ++ j_ls g b := by
  apply ls_ext
  · rw [List.length_append, ls_len, ls_len]
  · intro k hk
    by_cases q : k < a
    · rw [List.getElem?_append_left (by rw [ls_len]; exact q), ls_get q, h1 k q]
    · rw [List.getElem?_append_right (by rw [ls_len]; omega), ls_len, ls_get (by omega), ← h2 (k - a) (by omega), show a + (k - a) = k by omega]
/-- shorter, or as long and ahead in order -/
def j_sh (f g : Nat → Int32) (a b : Nat) : Prop := a < b ∨ (a = b ∧ ∃ k, k < a ∧ (∀ i, i < k → f i = g i) ∧ f k < g k)
def j_lx : List Int32 → List Int32 → Bool
  | [], _ => false
  | _ :: _, [] => false
  | x :: a, y :: b => if x = y then j_lx a b else decide (x < y)
def j_sl (a b : List Int32) : Bool := decide (a.length < b.length) || (decide (a.length = b.length) && j_lx a b)
theorem lx_iff : ∀ (a b : List Int32), a.length = b.length → (j_lx a b = true ↔ ∃ k, k < a.length ∧ (∀ i, i < k → a[i]? = b[i]?) ∧ ∃ x y, a[k]? = some x ∧ b[k]? = some y ∧ x < y) := by
  intro a
  induction a with
  | nil =>
    intro b _
    simp [j_lx]
  | cons x a ih =>
    intro b hb
    cases b with
    | nil => simp at hb
    | cons y b =>
      have hb' : a.length = b.length := by simpa using hb
      by_cases e : x = y
      · subst e
        rw [show j_lx (x :: a) (x :: b) = j_lx a b from by simp [j_lx], ih b hb']
        constructor
        · rintro ⟨k, hk, h1, u, v, h2, h3, h4⟩
          refine ⟨k + 1, by simp; exact hk, fun i hi => ?_, u, v, by simpa using h2, by simpa using h3, h4⟩
          cases i with
          | zero => rfl
          | succ i => simpa using h1 i (by omega)
        · rintro ⟨k, hk, h1, u, v, h2, h3, h4⟩
          cases k with
          | zero =>
            simp at h2 h3
            subst h2 h3
            exact absurd h4 Int32.lt_irrefl
          | succ k => exact ⟨k, by simpa using hk, fun i hi => by simpa using h1 (i + 1) (by omega), u, v, by simpa using h2, by simpa using h3, h4⟩
      · rw [show j_lx (x :: a) (y :: b) = decide (x < y) from by simp [j_lx, e]]
        constructor
        · intro h
          exact ⟨0, by simp, fun i hi => absurd hi (Nat.not_lt_zero i), x, y, rfl, rfl, of_decide_eq_true h⟩
        · rintro ⟨k, hk, h1, u, v, h2, h3, h4⟩
          cases k with
          | zero =>
            simp at h2 h3
            subst h2 h3
            exact decide_eq_true h4
          | succ k =>
            have := h1 0 (by omega)
            simp at this
            exact absurd this e
theorem sl_iff {f g : Nat → Int32} {a b : Nat} : j_sl (j_ls f a) (j_ls g b) = true ↔ j_sh f g a b := by
  simp only [j_sl, j_sh, ls_len, Bool.or_eq_true, decide_eq_true_eq, Bool.and_eq_true]
  constructor
  · rintro (h | ⟨h1, h2⟩)
    · exact Or.inl h
    · subst h1
      obtain ⟨k, hk, q1, x, y, q2, q3, q4⟩ := (lx_iff _ _ (by rw [ls_len, ls_len])).mp h2
      rw [ls_len] at hk
      rw [ls_get hk] at q2 q3
      cases q2; cases q3
      refine Or.inr ⟨rfl, k, hk, fun i hi => ?_, q4⟩
      have := q1 i hi
      rw [ls_get (by omega), ls_get (by omega)] at this
      exact Option.some.inj this
  · rintro (h | ⟨h1, k, hk, q1, q2⟩)
    · exact Or.inl h
    · subst h1
      refine Or.inr ⟨rfl, (lx_iff _ _ (by rw [ls_len, ls_len])).mpr ⟨k, by rw [ls_len]; exact hk, fun i hi => ?_, f k, g k, ls_get hk, ls_get hk, q2⟩⟩
      rw [ls_get (by omega), ls_get (by omega), q1 i hi]
/-- the best so far, and one more that is tried -/
def j_up (w bl : List Int32) : List Int32 := if bl = [] ∨ j_sl w bl = true then w else bl
/-- whether years say a span with these ends -/
def j_sy (q : jS) (bo fr to : Int32) : Bool := decide (q.2.2 = bo) && (j_op bo 0 || decide (fr = q.1)) && (j_op bo 1 || decide (to = q.2.1))
/-- a beginning that may be wanting -/
def j_oi (o : Option Nat) : Int32 := match o with
  | none => -1
  | some b => nI b
def j_oa (wd : Int32) (o : Option Nat) (q : jS) : Option jS := match o with
  | none => some q
  | some b => j_ap wd b q
def j_ot (o : Option Nat) : List Int32 := match o with
  | none => []
  | some b => jcs b
def j_sb (wd : Int32) (o : Option Nat) (q : jS) (bo fr to : Int32) : Bool := match j_oa wd o q with
  | none => false
  | some q2 => j_sy q2 bo fr to
theorem jcs_ls : ∀ b, b < 6 → jcs b = j_ls (jc b) (jl b) := by decide +kernel
