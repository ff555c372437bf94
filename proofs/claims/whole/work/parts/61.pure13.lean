/-! pure words: the class's shortest word -/
def c_fs (x y : Int32) (q : spD) : Bool := if q.2.2.2.1 = true then decide (x = q.2.2.1 + 1) else if q.2.2.2.2 = true then decide (y = q.2.1 - 1) else decide (x = q.2.1) && decide (y = q.2.2.1)
def c_bt (q : spD) : List Int32 := if q.2.2.2.1 = true then jcs 4 else if q.2.2.2.2 = true then jcs 5 else []
def c_cs (zw : Int32) (th : Option Nat) (c : Nat) (q : spD) : Bool := match j_oa zw th (j_qc c) with
  | none => false
  | some u => c_fs u.1 u.2.1 q
def c_ns (n : nmD) (q : spD) : Bool := match (ya 0 100000 n).1 with
  | none => false
  | some r => c_fs r.2.1 r.2.2 q
def c_tc (zw : Int32) (q : spD) (th : Option Nat) (c : Nat) (bl : List Int32) : List Int32 := j_try (c_cs zw th c q) (c_bt q ++ j_ot th ++ j_ct c) bl
def c_tn (q : spD) (n : nmD) (bl : List Int32) : List Int32 := j_try (c_ns n q) (c_bt q ++ j_ls (nF n) (nK n)) bl
def c_ys (q : spD) : Int32 := if q.2.2.2.1 = true then q.2.2.1 + 1 else if q.2.2.2.2 = true then q.2.1 - 1 else q.2.1
def c_ce (q : spD) : Int32 := c_fd (c_ys q - 1) 100 + 1
def c_w4 (zw : Int32) (q : spD) : List Int32 := if j_in (c_ce q) 1 99 = true then c_tc zw q (some 2) (c_ce q).toNatClampNeg (c_tc zw q (some 1) (c_ce q).toNatClampNeg (c_tc zw q (some 0) (c_ce q).toNatClampNeg (c_tc zw q none (c_ce q).toNatClampNeg []))) else []
def c_nl (q : spD) (S : tS) (bl : List Int32) : Nat → List Int32
  | 0 => bl
  | i + 1 => match S.2.1[i]? with
    | some n => c_tn q n (c_nl q S bl i)
    | none => c_nl q S bl i
def c_wl (zw : Int32) (q : spD) (S : tS) : List Int32 := if (q.2.2.2.1 && q.2.2.2.2) = true then [] else c_nl q S (c_w4 zw q) S.2.1.length
theorem nl_s {q : spD} {S : tS} {bl : List Int32} {i : Nat} {n : nmD} (h : S.2.1[i]? = some n) : c_nl q S bl (i + 1) = c_tn q n (c_nl q S bl i) := by rw [c_nl, h]
theorem try_f {w bl : List Int32} : j_try false w bl = bl := by rw [j_try, if_neg (by decide)]
theorem try_t {w bl : List Int32} : j_try true w bl = j_up w bl := by rw [j_try, if_pos rfl]
theorem ct_t {c : Nat} (h : c ≤ 99) : 48 + nI c / 10 = nI (48 + c / 10) := by
  rw [ii_eq, nI_toInt (by omega)]
  have e1 : (nI c).toInt = c := nI_toInt (by omega)
  have e2 : (10 : Int32).toInt = 10 := by decide
  have e3 : (48 : Int32).toInt = 48 := by decide
  have d : (nI c / 10).toInt = (c : Int) / 10 := by rw [ii_div (by rw [e1]; omega) (by rw [e2]; omega), e1, e2]
  rw [ii_add (by rw [d, e3]; omega) (by rw [d, e3]; omega), d, e3]
  omega
theorem ct_u {c : Nat} (h : c ≤ 99) : 48 + (nI c - nI c / 10 * 10) = nI (48 + c % 10) := by
  rw [ii_eq, nI_toInt (by omega)]
  have e1 : (nI c).toInt = c := nI_toInt (by omega)
  have e2 : (10 : Int32).toInt = 10 := by decide
  have e3 : (48 : Int32).toInt = 48 := by decide
  have d : (nI c / 10).toInt = (c : Int) / 10 := by rw [ii_div (by rw [e1]; omega) (by rw [e2]; omega), e1, e2]
  have m : (nI c / 10 * 10).toInt = (c : Int) / 10 * 10 := by rw [ii_mul (by rw [d, e2]; omega) (by rw [d, e2]; omega), d, e2]
  have s : (nI c - nI c / 10 * 10).toInt = (c : Int) - (c : Int) / 10 * 10 := by rw [ii_sub (by rw [e1, m]; omega) (by rw [e1, m]; omega), e1, m]
  rw [ii_add (by rw [s, e3]; omega) (by rw [s, e3]; omega), s, e3]
  omega
theorem ce_nat {x : Int32} (h : j_in x 1 99 = true) : ∃ c, 1 ≤ c ∧ c ≤ 99 ∧ x = nI c := by
  obtain ⟨h1, h2⟩ : ¬ x < 1 ∧ ¬ 99 < x := by simpa [j_in] using h
  have c1 : (1 : Int32).toInt = 1 := by decide
  have c2 : (99 : Int32).toInt = 99 := by decide
  rw [ii_lt, c1] at h1
  rw [ii_lt, c2] at h2
  refine ⟨x.toInt.toNat, by omega, by omega, ?_⟩
  rw [ii_eq, nI_toInt (by omega)]
  omega
theorem in_199 {c : Nat} (h1 : 1 ≤ c) (h2 : c ≤ 99) : j_in (nI c) 1 99 = true := by
  have q1 : ¬ nI c < 1 := (show ¬ nI c < nI 1 from nI_nlt (by omega) (by omega))
  have q2 : ¬ (99 : Int32) < nI c := (show ¬ nI 99 < nI c from nI_nlt (by omega) (by decide))
  simp [j_in, q1, q2]
theorem qc_ok {c : Nat} (h1 : 1 ≤ c) (h2 : c ≤ 99) : jOk (j_qc c) := by
  refine Or.inr (Or.inr ⟨rfl, ?_⟩)
  have q1 : nI c - 1 = nI (c - 1) := pk_sub (a := c) (b := 1) h1
  have q2 : (100 : Int32) * nI (c - 1) = nI (100 * (c - 1)) := pk_mul 100 (c - 1)
  have q3 : (100 : Int32) * nI c = nI (100 * c) := pk_mul 100 c
  show -9999 ≤ (100 * (nI c - 1) + 1).toInt ∧ (100 * (nI c - 1) + 1).toInt ≤ (100 * nI c).toInt ∧ (100 * nI c).toInt ≤ 9999
  rw [q1, q2, q3, nI_1, nI_toInt (by omega), nI_toInt (by omega)]
  omega
theorem ap_0 {wd : Int32} {b : Nat} {u u1 : jS} (hb : b < 3) (h : j_ap wd b u = some u1) : u1.2.2 = 0 := by
  have n3 : ¬ (3 : Int32) ≤ nI b := (fun z => absurd (nc_le (a := 3) (b := b) z (by decide) (by omega)) (by omega))
  rw [j_ap] at h
  by_cases c : u.2.2 = 0
  · rw [if_pos c] at h
    by_cases d : j_mR (nI b) wd u.1 u.2.1 = true
    · rw [if_pos d] at h
      cases h
      show j_mO (nI b) = 0
      rw [j_mO, if_neg n3]
    · rw [if_neg d] at h; cases h
  · rw [if_neg c] at h; cases h
theorem cs_t {zw : Int32} {b c : Nat} {q : spD} {u : jS} (h : j_ap zw b (j_qc c) = some u) : c_cs zw (some b) c q = c_fs u.1 u.2.1 q := by
  rw [c_cs, show j_oa zw (some b) (j_qc c) = some u from h]
theorem cs_n {zw : Int32} {b c : Nat} {q : spD} (h : j_ap zw b (j_qc c) = none) : c_cs zw (some b) c q = false := by
  rw [c_cs, show j_oa zw (some b) (j_qc c) = none from h]
theorem ct_2 {c : Nat} (h : 10 ≤ c) : j_ct c = [nI (48 + c / 10), nI (48 + c % 10), 99] := by rw [j_ct, if_pos (by omega)]
theorem ct_1' {c : Nat} (h : c < 10) : j_ct c = [nI (48 + c % 10), 99] := by rw [j_ct, if_neg (by omega)]
theorem sx_ls : ∀ b, b < 6 → j_ls (sX b) (sL.getD b 0) = jcs b := by decide +kernel
theorem bt_4 {q : spD} (h : q.2.2.2.1 = true) : c_bt q = jcs 4 := by rw [c_bt, if_pos h]
theorem bt_5 {q : spD} (h : q.2.2.2.1 = false) (h2 : q.2.2.2.2 = true) : c_bt q = jcs 5 := by rw [c_bt, if_neg (by rw [h]; decide), if_pos h2]
theorem bt_0 {q : spD} (h : q.2.2.2.1 = false) (h2 : q.2.2.2.2 = false) : c_bt q = [] := by rw [c_bt, if_neg (by rw [h]; decide), if_neg (by rw [h2]; decide)]
theorem ls_nil {f : Nat → Int32} : j_ls f 0 = [] := rfl
theorem ns_t {n : nmD} {q : spD} {r : Nat × Int32 × Int32} (h : (ya 0 100000 n).1 = some r) : c_ns n q = c_fs r.2.1 r.2.2 q := by rw [c_ns, h]
theorem ns_n {n : nmD} {q : spD} (h : (ya 0 100000 n).1 = none) : c_ns n q = false := by rw [c_ns, h]
