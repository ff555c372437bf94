/-! pure words: reading the pad as a word -/
def j_bb (f1 : Nat → Int32) (pn at9 b : Nat) : Bool := decide (at9 + jl b ≤ pn) && (List.range (jl b)).all (fun k => decide (f1 (at9 + k) = jc b k))
theorem j_bb_iff {f1 : Nat → Int32} {pn at9 b : Nat} : j_bb f1 pn at9 b = true ↔ j_bp f1 pn at9 b := by
  simp only [j_bb, j_bp, Bool.and_eq_true, decide_eq_true_eq, List.all_eq_true, List.mem_range]
theorem j_bb_no {f1 : Nat → Int32} {pn at9 b : Nat} (h : ¬ j_bp f1 pn at9 b) : j_bb f1 pn at9 b = false := by
  cases e : j_bb f1 pn at9 b with
  | false => rfl
  | true => exact absurd (j_bb_iff.mp e) h
/-- which beginning stands at a place -/
def j_fb (f1 : Nat → Int32) (pn at9 : Nat) : Option Nat :=
  if j_bb f1 pn at9 0 = true then some 0 else if j_bb f1 pn at9 1 = true then some 1 else if j_bb f1 pn at9 2 = true then some 2 else if j_bb f1 pn at9 3 = true then some 3 else if j_bb f1 pn at9 4 = true then some 4 else if j_bb f1 pn at9 5 = true then some 5 else none
theorem j_fb_none {f1 : Nat → Int32} {pn at9 : Nat} (h : ∀ b, b < 6 → ¬ j_bp f1 pn at9 b) : j_fb f1 pn at9 = none := by
  simp [j_fb, j_bb_no (h 0 (by decide)), j_bb_no (h 1 (by decide)), j_bb_no (h 2 (by decide)), j_bb_no (h 3 (by decide)), j_bb_no (h 4 (by decide)), j_bb_no (h 5 (by decide))]
theorem j_fb_some {f1 : Nat → Int32} {pn at9 b : Nat} (hb : b < 6) (h : ∀ i, i < b → ¬ j_bp f1 pn at9 i) (hp : j_bp f1 pn at9 b) : j_fb f1 pn at9 = some b := by
  have hp := j_bb_iff.mpr hp
  rcases (show b = 0 ∨ b = 1 ∨ b = 2 ∨ b = 3 ∨ b = 4 ∨ b = 5 by omega) with rfl | rfl | rfl | rfl | rfl | rfl
  · simp [j_fb, hp]
  · simp [j_fb, hp, j_bb_no (h 0 (by decide))]
  · simp [j_fb, hp, j_bb_no (h 0 (by decide)), j_bb_no (h 1 (by decide))]
  · simp [j_fb, hp, j_bb_no (h 0 (by decide)), j_bb_no (h 1 (by decide)), j_bb_no (h 2 (by decide))]
  · simp [j_fb, hp, j_bb_no (h 0 (by decide)), j_bb_no (h 1 (by decide)), j_bb_no (h 2 (by decide)), j_bb_no (h 3 (by decide))]
  · simp [j_fb, hp, j_bb_no (h 0 (by decide)), j_bb_no (h 1 (by decide)), j_bb_no (h 2 (by decide)), j_bb_no (h 3 (by decide)), j_bb_no (h 4 (by decide))]
/-- what a beginning makes of years -/
def j_ap (wd : Int32) (b : Nat) (q : jS) : Option jS := if q.2.2 = 0 then (if j_mR (nI b) wd q.1 q.2.1 = true then some (j_mF (nI b) wd q.1 q.2.1, j_mL (nI b) wd q.1 q.2.1, j_mO (nI b)) else none) else none
/-- the word from a place on, with at most k beginnings ahead -/
def j_wd (fb : Nat → Option Nat) (co : Nat → Option jS) (ap : Nat → jS → Option jS) : Nat → Nat → Option jS
  | 0, t => match fb t with
    | none => co t
    | some _ => none
  | k + 1, t => match fb t with
    | none => co t
    | some b => (j_wd fb co ap k (t + jl b)).bind (ap b)
/-- n beginnings, the last one first -/
def j_un (ap : Nat → jS → Option jS) (bs : Nat → Nat) : Nat → Option jS → Option jS
  | 0, o => o
  | n + 1, o => j_un ap bs n (o.bind (ap (bs n)))
section WD
variable {fb : Nat → Option Nat} {co : Nat → Option jS} {ap : Nat → jS → Option jS} {bs bs' : Nat → Nat} {W9 : Option jS}
theorem un_none : ∀ n, j_un ap bs n none = none := by
  intro n
  induction n with
  | zero => rfl
  | succ n ih => exact ih
theorem un_congr : ∀ (n : Nat) (o : Option jS), (∀ i, i < n → bs i = bs' i) → j_un ap bs n o = j_un ap bs' n o := by
  intro n
  induction n with
  | zero => intro o _; rfl
  | succ n ih =>
    intro o h
    show j_un ap bs n _ = j_un ap bs' n _
    rw [h n (Nat.lt_succ_self n)]
    exact ih _ (fun i hi => h i (Nat.lt_succ_of_lt hi))
theorem wd_none {k t : Nat} (h : fb t = none) : j_wd fb co ap k t = co t := by
  cases k <;> simp [j_wd, h]
theorem wd_end {n t : Nat} (h : W9 = j_un ap bs n (j_wd fb co ap (5 - n) t)) (hf : fb t = none) : W9 = j_un ap bs n (co t) := by rw [h, wd_none hf]
theorem wd_more {n t b : Nat} (hn : n < 5) (h : W9 = j_un ap bs n (j_wd fb co ap (5 - n) t)) (hf : fb t = some b) : W9 = j_un ap (va_up bs n b) (n + 1) (j_wd fb co ap (5 - (n + 1)) (t + jl b)) := by
  rw [h]
  obtain ⟨k, hk⟩ : ∃ k, 5 - n = k + 1 := ⟨5 - n - 1, by omega⟩
  have hk2 : 5 - (n + 1) = k := by omega
  rw [hk, hk2]
  show j_un ap bs n (j_wd fb co ap (k + 1) t) = j_un ap (va_up bs n b) n ((j_wd fb co ap k (t + jl b)).bind (ap (va_up bs n b n)))
  rw [va_up_self, ← un_congr (bs := bs) (bs' := va_up bs n b) n _ (fun i hi => (va_up_ne bs b (by omega)).symm)]
  simp [j_wd, hf]
theorem wd_much {t b : Nat} (h : W9 = j_un ap bs 5 (j_wd fb co ap (5 - 5) t)) (hf : fb t = some b) : W9 = none := by
  rw [h, show j_wd fb co ap (5 - 5) t = none from by simp [j_wd, hf]]
  exact un_none 5
end WD
