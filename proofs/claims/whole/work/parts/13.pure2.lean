/-! pure words of the reference: what a pad holds at a place, names, phases -/
/-- the beginning b stands at a place of the pad -/
def j_bp (f1 : Nat → Int32) (pn at9 b : Nat) : Prop := at9 + jl b ≤ pn ∧ ∀ k, k < jl b → f1 (at9 + k) = jc b k
/-- name i is what stands on the pad from a place on -/
def j_mt (f1 f4 : Nat → Int32) (ln : Nat → Nat) (pn at9 i : Nat) : Prop := ln i + at9 = pn ∧ ∀ k, k < ln i → f4 (8 * i + k) = f1 (at9 + k)
/-- the pad may be a name -/
def j_gd (f1 : Nat → Int32) (pn : Nat) : Prop := 1 ≤ pn ∧ pn ≤ 8 ∧ ∀ k, k < pn → j_in (f1 k) 97 122 = true
/-- k letters have been laid from b on -/
def cpI (f4 f1 g4 : Nat → Int32) (b k : Nat) : Prop := (∀ i, i < k → g4 (b + i) = f1 i) ∧ ∀ i, (i < b ∨ b + k ≤ i) → g4 i = f4 i
theorem cpI_0 {f4 f1 : Nat → Int32} {b : Nat} : cpI f4 f1 f4 b 0 := ⟨fun i h => absurd h (Nat.not_lt_zero i), fun _ _ => rfl⟩
theorem cpI_s {f4 f1 g4 : Nat → Int32} {b k : Nat} (h : cpI f4 f1 g4 b k) : cpI f4 f1 (upd g4 (b + k) (f1 k)) b (k + 1) := by
  refine ⟨fun i hi => ?_, fun i hi => ?_⟩
  · by_cases e : i = k
    · subst e; exact pk_us
    · rw [pk_un (by omega)]; exact h.1 i (by omega)
  · rw [pk_un (by omega)]; exact h.2 i (by omega)
/-- of the first q phases of name j the one that is in use -/
def j_nk (f10 f13 : Nat → Int32) (j : Nat) (pl dy : Int32) : Nat → Option Nat
  | 0 => none
  | q + 1 => if f10 (6 * j + q) = pl ∧ ¬ dy < f13 (6 * j + q) ∧ (∀ k, j_nk f10 f13 j pl dy q = some k → ¬ f13 (6 * j + q) < f13 (6 * j + k)) then some q else j_nk f10 f13 j pl dy q
