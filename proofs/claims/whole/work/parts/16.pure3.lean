/-! pure words: the phase in use; a century on the pad -/
section NK
variable {f10 f13 : Nat → Int32} {j : Nat} {pl dy : Int32} {q k : Nat}
theorem nk_no1 (h : ¬ f10 (6 * j + q) = pl) : j_nk f10 f13 j pl dy (q + 1) = j_nk f10 f13 j pl dy q := by rw [j_nk, if_neg (fun z => h z.1)]
theorem nk_no2 (h : dy < f13 (6 * j + q)) : j_nk f10 f13 j pl dy (q + 1) = j_nk f10 f13 j pl dy q := by rw [j_nk, if_neg (fun z => z.2.1 h)]
theorem nk_no3 (hs : j_nk f10 f13 j pl dy q = some k) (h : f13 (6 * j + q) < f13 (6 * j + k)) : j_nk f10 f13 j pl dy (q + 1) = j_nk f10 f13 j pl dy q := by rw [j_nk, if_neg (fun z => z.2.2 k hs h)]
theorem nk_yes0 (h1 : f10 (6 * j + q) = pl) (h2 : ¬ dy < f13 (6 * j + q)) (hn : j_nk f10 f13 j pl dy q = none) : j_nk f10 f13 j pl dy (q + 1) = some q := by
  rw [j_nk, if_pos ⟨h1, h2, fun k hk => by rw [hn] at hk; cases hk⟩]
theorem nk_yes1 (h1 : f10 (6 * j + q) = pl) (h2 : ¬ dy < f13 (6 * j + q)) (hs : j_nk f10 f13 j pl dy q = some k) (h3 : ¬ f13 (6 * j + q) < f13 (6 * j + k)) : j_nk f10 f13 j pl dy (q + 1) = some q := by
  rw [j_nk, if_pos ⟨h1, h2, fun k' hk => by rw [hs] at hk; cases hk; exact h3⟩]
end NK
/-- first, last, and which ends are open -/
abbrev jS : Type := Int32 × Int32 × Int32
/-- what name i stands for, at a place on a day -/
def j_nv (f6 f7 f8 f10 f11 f12 f13 : Nat → Int32) (ck : Nat → Nat) (pl dy : Int32) (i : Nat) : Option jS := match j_nk f10 f13 i pl dy (ck i) with
  | some k => some (f11 (6 * i + k), f12 (6 * i + k), 0)
  | none => if f6 i = 0 then none else some (f7 i, f8 i, 0)
/-- a number and the letter c stand on the pad from a place on -/
def j_ce (f1 : Nat → Int32) (pn at9 : Nat) : Bool := (decide (at9 + 2 = pn) || decide (at9 + 3 = pn)) && decide (f1 (pn - 1) = 99) && j_in (f1 at9) 48 57 && j_in (f1 (pn - 2)) 48 57
/-- which number -/
def j_cv (f1 : Nat → Int32) (pn at9 : Nat) : Int32 := if at9 + 2 = pn then f1 at9 - 48 else 10 * (f1 at9 - 48) + f1 (at9 + 1) - 48
theorem in_2_3 {n : Nat} (h : n ≤ 24) : j_in (nI n) 2 3 = true ↔ n = 2 ∨ n = 3 := by
  simp only [j_in, Bool.and_eq_true, Bool.not_eq_true', decide_eq_false_iff_not]
  constructor
  · intro q
    have h1 := nc_nlt (b := 2) q.1 (by omega) (by decide)
    have h2 := nc_nlt (a := 3) q.2 (by decide) (by omega)
    omega
  · intro q
    exact ⟨nI_nlt (a := n) (b := 2) (by omega) (by omega), nI_nlt (a := 3) (b := n) (by omega) (by decide)⟩
