/-! numbers of the machine that are counts -/
theorem nc_lt {a b : Nat} (h : nI a < nI b) (ha : a < 2147483648) (hb : b < 2147483648) : a < b := (nI_ltI ha hb).mp h
theorem nc_nlt {a b : Nat} (h : ¬ nI a < nI b) (ha : a < 2147483648) (hb : b < 2147483648) : b ≤ a := Nat.le_of_not_lt (fun q => h ((nI_ltI ha hb).mpr q))
theorem nc_le {a b : Nat} (h : nI a ≤ nI b) (ha : a < 2147483648) (hb : b < 2147483648) : a ≤ b := (nI_leI ha hb).mp h
theorem nc_nle {a b : Nat} (h : ¬ nI a ≤ nI b) (ha : a < 2147483648) (hb : b < 2147483648) : b < a := Nat.lt_of_not_le (fun q => h ((nI_leI ha hb).mpr q))
theorem nc_eq {a b : Nat} (h : nI a = nI b) (ha : a < 2147483648) (hb : b < 2147483648) : a = b := (nI_eq ha hb).mp h
theorem nc_ne {a b : Nat} (h : ¬ nI a = nI b) (_ : a < 2147483648) (_ : b < 2147483648) : a ≠ b := fun e => h (by rw [e])
theorem lg_cmp0 {x y : Int64} : lg_cmp x y = 0 ↔ x = y := by
  constructor
  · intro h
    by_cases h1 : y < x
    · simp [lg_cmp, h1] at h
    · by_cases h2 : x = y
      · exact h2
      · simp [lg_cmp, h1, h2] at h
  · intro h
    subst h
    simp [lg_cmp]
/-- the beginnings, as the reference holds them: their signs, how many, each -/
def jw : Nat → Int64 := fun b => if b = 0 then 111469205944608 else if b = 1 then 1835623456 else if b = 2 then 465491485984 else if b = 3 then 107075404657696 else if b = 4 then 27696038348481824 else 107092667363872
def jl : Nat → Nat := fun b => if b = 0 then 6 else if b = 1 then 4 else if b = 2 then 5 else if b = 3 then 6 else if b = 4 then 7 else 6
def jcs : Nat → List Int32 := fun b => if b = 0 then [101, 97, 114, 108, 121, 32] else if b = 1 then [109, 105, 100, 32] else if b = 2 then [108, 97, 116, 101, 32] else if b = 3 then [97, 98, 111, 117, 116, 32] else if b = 4 then [98, 101, 102, 111, 114, 101, 32] else [97, 102, 116, 101, 114, 32]
def jc (b k : Nat) : Int32 := (jcs b).getD k 0
theorem jl_le (b : Nat) : jl b ≤ 7 := by unfold jl; split <;> (try split) <;> (try split) <;> (try split) <;> (try split) <;> omega
theorem jw_cond : ∀ b, b < 6 → ∀ k, k < 8 → k ≤ jl b → (((jw b).toUInt64 >>> ((8 * nI k : Int32).toInt64.toUInt64 &&& Int64.toUInt64 63)).toInt64 = 0 ↔ k = jl b) := by decide +kernel
theorem jw_sign : ∀ b, b < 6 → ∀ k, k < 7 → k < jl b → (((jw b).toUInt64 >>> ((8 * (nI (jl b) - 1 - nI k) : Int32).toInt64.toUInt64 &&& Int64.toUInt64 63)).toInt64 &&& 255).toInt32 = jc b k := by decide +kernel
