/-! the ties, first part -/
theorem nI_ij {a b : Nat} (ha : a < 2147483648) (hb : b < 2147483648) (h : nI a = nI b) : a = b := by
  have := congrArg Int32.toInt h
  rw [nI_toInt ha, nI_toInt hb] at this
  omega
theorem ix_y {j k : Nat} (h : j < k) (hk : k < 2147483648) : j_ix (nI j) (nI k) = true := by
  cases q : j_ix (nI j) (nI k)
  · exact absurd rfl (ix_f q hk j h)
  · rfl
theorem yy_B {x y : Int32} (h : j_yy x y = true) : yB x y := by
  simp only [j_yy, j_in, Bool.and_eq_true, Bool.not_eq_true', decide_eq_false_iff_not, decide_eq_true_eq] at h
  obtain ⟨⟨⟨h1, h2⟩, h3, h4⟩, h5⟩ := h
  have c1 : (-9999 : Int32).toInt = -9999 := by decide
  have c2 : (9999 : Int32).toInt = 9999 := by decide
  rw [ii_lt, c1] at h1
  rw [ii_lt, c2] at h4
  rw [ii_le] at h5
  exact ⟨by omega, h5, by omega⟩
theorem dy_0 {x y : Int32} (h : j_in x 0 y = true) : ¬ x < 0 := by
  simp only [j_in, Bool.and_eq_true, Bool.not_eq_true', decide_eq_false_iff_not] at h
  exact h.1
theorem op_0 : j_op 0 0 = false ∧ j_op 0 1 = false ∧ j_op 1 0 = true ∧ j_op 1 1 = false ∧ j_op 2 0 = false ∧ j_op 2 1 = true ∧ j_op 3 0 = true ∧ j_op 3 1 = true := by decide +kernel
theorem wd_B {x : Int32} (h : j_in x 0 1000 = true) : 0 ≤ x.toInt ∧ x.toInt ≤ 1000 := by
  simp only [j_in, Bool.and_eq_true, Bool.not_eq_true', decide_eq_false_iff_not] at h
  have c1 : (0 : Int32).toInt = 0 := by decide
  have c2 : (1000 : Int32).toInt = 1000 := by decide
  rw [ii_lt, ii_lt, c1, c2] at h
  omega
theorem rg_len {a b x : Int32} (hB : yB a b) (h1 : 1 ≤ x) : x ≤ b - a + 1 ↔ x - 1 ≤ b - a := by
  obtain ⟨b1, b2, b3⟩ := hB
  have c1 : (1 : Int32).toInt = 1 := by decide
  rw [ii_le, c1] at h1
  have hx := Int32.toInt_le x
  have e1 : (b - a).toInt = b.toInt - a.toInt := ii_sub (by omega) (by omega)
  have e2 : (b - a + 1).toInt = b.toInt - a.toInt + 1 := by rw [ii_add (by rw [e1, c1]; omega) (by rw [e1, c1]; omega), e1, c1]
  have e3 : (x - 1).toInt = x.toInt - 1 := by
    have hx2 : x.toInt < 2147483648 := by have := Int32.toInt_lt x; omega
    rw [ii_sub (by rw [c1]; omega) (by rw [c1]; omega), c1]
  rw [ii_le, ii_le, e1, e2, e3]
  omega
set_option maxHeartbeats 1000000 in
theorem tie_unit {κ : gS} {zw : Int32} {kp : Nat} {fp : Nat → Int32} {S : tS} {pn : Nat} {nn : Nat} {sn : Nat} {z18 : Int32} {f1 : Nat → Int32} {f4 : Nat → Int32} {f5 : Nat → Int32} {f6 : Nat → Int32} {f7 : Nat → Int32} {f8 : Nat → Int32} {f9 : Nat → Int32} {f10 : Nat → Int32} {f11 : Nat → Int32} {f12 : Nat → Int32} {f13 : Nat → Int32} {f15 : Nat → Int32} {f16 : Nat → Int32} {f17 : Nat → Int32} {ln : Nat → Nat} {ck : Nat → Nat} {x : Int32} {ov1 : Nat → Int64} {kp1 : Nat} {fp1 : Nat → Int32} {w0 : Int32} {w2 : Int32} {g1 : Nat → Int32} {r1 r2 : Int32} (hR : lawR κ zw kp fp S pn nn sn z18 f1 f4 f5 f6 f7 f8 f9 f10 f11 f12 f13 f15 f16 f17 ln ck) (P1 : (j_sg x = false ∧ r1 = 1 ∧ kp1 = kp ∧ fp1 = fp) ∨ (j_sg x = true ∧ kp = 24 ∧ r1 = 2 ∧ kp1 = kp ∧ fp1 = fp) ∨ (j_sg x = true ∧ kp < 24 ∧ r1 = 0 ∧ (∃ v : Int32, ov1 0 = v.toInt64 ∧ v = nI (kp + 1)) ∧ kp1 = kp + 1 ∧ fp1 = upd fp kp x)) (P2 : (j_sg x = false ∧ r2 = 0 ∧ w0 = 1 ∧ w2 = nI pn ∧ g1 = f1) ∨ (j_sg x = true ∧ pn = 24 ∧ r2 = 0 ∧ w0 = 2 ∧ w2 = nI pn ∧ g1 = f1) ∨ (j_sg x = true ∧ pn < 24 ∧ r2 = nI (pn + 1) ∧ w0 = 0 ∧ w2 = nI (pn + 1) ∧ g1 = upd f1 pn x)) : w0 = r1 ∧ (r1 = 0 → ov1 0 = r2.toInt64) ∧ ∃ (pn' : Nat), w2 = nI pn' ∧ lawR κ zw kp1 fp1 S pn' nn sn z18 g1 f4 f5 f6 f7 f8 f9 f10 f11 f12 f13 f15 f16 f17 ln ck := by
  obtain ⟨⟨h1, h2, rfl, rfl, h5⟩, hN, hS⟩ := hR
  rcases P1 with ⟨a, rfl, rfl, rfl⟩ | ⟨a, b, rfl, rfl, rfl⟩ | ⟨a, b, rfl, ⟨v, hv, rfl⟩, rfl, rfl⟩ <;> rcases P2 with ⟨a', rfl, rfl, rfl, rfl⟩ | ⟨a', b', rfl, rfl, rfl, rfl⟩ | ⟨a', b', rfl, rfl, rfl, rfl⟩
  · exact ⟨rfl, fun h => absurd h (by decide), _, rfl, ⟨h1, h2, rfl, rfl, h5⟩, hN, hS⟩
  · rw [a] at a'; cases a'
  · rw [a] at a'; cases a'
  · rw [a] at a'; cases a'
  · exact ⟨rfl, fun h => absurd h (by decide), _, rfl, ⟨h1, h2, rfl, rfl, h5⟩, hN, hS⟩
  · omega
  · rw [a] at a'; cases a'
  · omega
  · exact ⟨rfl, fun _ => hv, _, rfl, ⟨h1, by omega, rfl, rfl, h5⟩, hN, hS⟩
set_option maxHeartbeats 1000000 in
theorem tie_name {κ : gS} {zw : Int32} {kp : Nat} {fp : Nat → Int32} {S : tS} {pn : Nat} {nn : Nat} {sn : Nat} {z18 : Int32} {f1 : Nat → Int32} {f4 : Nat → Int32} {f5 : Nat → Int32} {f6 : Nat → Int32} {f7 : Nat → Int32} {f8 : Nat → Int32} {f9 : Nat → Int32} {f10 : Nat → Int32} {f11 : Nat → Int32} {f12 : Nat → Int32} {f13 : Nat → Int32} {f15 : Nat → Int32} {f16 : Nat → Int32} {f17 : Nat → Int32} {ln : Nat → Nat} {ck : Nat → Nat} {ov1 : Nat → Int64} {kp1 : Nat} {S1 : tS} {w0 : Int32} {w2 : Int32} {wq3 : Int32} {g4 : Nat → Int32} {g5 : Nat → Int32} {r1 r2 : Int32} (hR : lawR κ zw kp fp S pn nn sn z18 f1 f4 f5 f6 f7 f8 f9 f10 f11 f12 f13 f15 f16 f17 ln ck) (P1 : (¬ j_gd fp kp ∧ r1 = 1 ∧ kp1 = kp ∧ S1 = S) ∨ (j_gd fp kp ∧ (∀ (i : Nat) (n : nmD), S.2.1[i]? = some n → ¬ c_mt fp kp 0 n) ∧ S.2.1.length = 24 ∧ r1 = 2 ∧ kp1 = kp ∧ S1 = S) ∨ (j_gd fp kp ∧ r1 = 0 ∧ kp1 = 0 ∧ ∃ v : Int32, ov1 0 = v.toInt64 ∧ ((∃ (i : Nat) (n : nmD), v = nI i ∧ S.2.1[i]? = some n ∧ c_mt fp kp 0 n ∧ S1 = S) ∨ ((∀ (i : Nat) (n : nmD), S.2.1[i]? = some n → ¬ c_mt fp kp 0 n) ∧ S.2.1.length < 24 ∧ v = nI S.2.1.length ∧ nmP κ S fp kp S1)))) (P2 : (¬ j_gd f1 pn ∧ r2 = 0 ∧ w0 = 1 ∧ w2 = nI pn ∧ wq3 = nI nn ∧ g4 = f4 ∧ g5 = f5) ∨ (j_gd f1 pn ∧ (∃ i, i < nn ∧ j_mt f1 f4 ln pn 0 i ∧ r2 = nI i) ∧ w0 = 0 ∧ w2 = 0 ∧ wq3 = nI nn ∧ g4 = f4 ∧ g5 = f5) ∨ (j_gd f1 pn ∧ (∀ i, i < nn → ¬ j_mt f1 f4 ln pn 0 i) ∧ nn = 24 ∧ r2 = 0 ∧ w0 = 2 ∧ w2 = nI pn ∧ wq3 = nI nn ∧ g4 = f4 ∧ g5 = f5) ∨ (j_gd f1 pn ∧ (∀ i, i < nn → ¬ j_mt f1 f4 ln pn 0 i) ∧ nn < 24 ∧ r2 = nI nn ∧ w0 = 0 ∧ w2 = 0 ∧ wq3 = nI (nn + 1) ∧ cpI f4 f1 g4 (8 * nn) pn ∧ g5 = upd f5 nn (nI pn))) : w0 = r1 ∧ (r1 = 0 → ov1 0 = r2.toInt64) ∧ ∃ (pn' : Nat) (nn' : Nat) (ln' : Nat → Nat), w2 = nI pn' ∧ wq3 = nI nn' ∧ lawR κ zw kp1 fp S1 pn' nn' sn z18 f1 g4 g5 f6 f7 f8 f9 f10 f11 f12 f13 f15 f16 f17 ln' ck := by
  have hm := fun (i : Nat) (n : nmD) (h : S.2.1[i]? = some n) => hR.mt h 0
  have hth := fun (i : Nat) (h : i < nn) => hR.nth h
  obtain ⟨⟨h1, h2, e1, e2, h5⟩, hN, hS⟩ := hR
  subst e1; subst e2
  have hlen := hN.1
  rcases P1 with ⟨a, rfl, rfl, rfl⟩ | ⟨a, b, b2, rfl, rfl, rfl⟩ | ⟨a, rfl, rfl, v, hv, hc⟩
  · rcases P2 with ⟨a', rfl, rfl, rfl, rfl, rfl, rfl⟩ | ⟨a', -⟩ | ⟨a', -⟩ | ⟨a', -⟩
    · exact ⟨rfl, fun h => absurd h (by decide), _, nn, ln, rfl, rfl, ⟨h1, h2, rfl, rfl, h5⟩, hN, hS⟩
    all_goals exact absurd a' a
  · rcases P2 with ⟨a', -⟩ | ⟨-, ⟨i, hi, hmt, -⟩, -⟩ | ⟨-, -, -, rfl, rfl, rfl, rfl, rfl, rfl⟩ | ⟨-, -, hlt, -⟩
    · exact absurd a a'
    · obtain ⟨n, hn⟩ := hth i hi
      exact absurd ((hm i n hn).mpr hmt) (b i n hn)
    · exact ⟨rfl, fun h => absurd h (by decide), _, nn, ln, rfl, rfl, ⟨h1, h2, rfl, rfl, h5⟩, hN, hS⟩
    · omega
  · rcases hc with ⟨i, n, rfl, hn, hmt, rfl⟩ | ⟨hno, hlt, rfl, hnew⟩
    · rcases P2 with ⟨a', -⟩ | ⟨-, ⟨i', hi', hmt', rfl⟩, rfl, rfl, rfl, rfl, rfl⟩ | ⟨-, hno, -⟩ | ⟨-, hno, -⟩
      · exact absurd a a'
      · obtain ⟨n', hn'⟩ := hth i' hi'
        have hm' := (hm i' n' hn').mpr hmt'
        have e : i = i' := hN.2.2.1 i i' n n' hn hn' (by have := hmt.1; have := hm'.1; omega) (fun k hk => by rw [hmt.2 k hk, hm'.2 k (by have := hmt.1; have := hm'.1; omega)])
        subst e
        exact ⟨rfl, fun _ => hv, 0, nn, ln, rfl, rfl, ⟨h1, Nat.zero_le _, rfl, rfl, h5⟩, hN, hS⟩
      · exact absurd ((hm i n hn).mp hmt) (hno i (by have := (List.getElem?_eq_some_iff.mp hn).1; omega))
      · exact absurd ((hm i n hn).mp hmt) (hno i (by have := (List.getElem?_eq_some_iff.mp hn).1; omega))
    · rcases P2 with ⟨a', -⟩ | ⟨-, ⟨i, hi, hmt, -⟩, -⟩ | ⟨-, -, h24, -⟩ | ⟨-, -, -, rfl, rfl, rfl, rfl, hcp, rfl⟩
      · exact absurd a a'
      · obtain ⟨n, hn⟩ := hth i hi
        exact absurd ((hm i n hn).mpr hmt) (hno i n hn)
      · omega
      · have hA := N_add hN hnew a hno hcp
        obtain ⟨hok, d1, n1, rfl, -⟩ := hnew
        exact ⟨rfl, fun _ => by rw [hv, hlen], 0, nn + 1, _, rfl, rfl, ⟨hok, Nat.zero_le _, rfl, rfl, h5⟩, hA, hS⟩
set_option maxHeartbeats 1000000 in
theorem tie_reign {κ : gS} {zw : Int32} {kp : Nat} {fp : Nat → Int32} {S : tS} {pn : Nat} {nn : Nat} {sn : Nat} {z18 : Int32} {f1 : Nat → Int32} {f4 : Nat → Int32} {f5 : Nat → Int32} {f6 : Nat → Int32} {f7 : Nat → Int32} {f8 : Nat → Int32} {f9 : Nat → Int32} {f10 : Nat → Int32} {f11 : Nat → Int32} {f12 : Nat → Int32} {f13 : Nat → Int32} {f15 : Nat → Int32} {f16 : Nat → Int32} {f17 : Nat → Int32} {ln : Nat → Nat} {ck : Nat → Nat} {xn : Int32} {x : Int32} {y : Int32} {ov1 : Nat → Int64} {S1 : tS} {w0 : Int32} {g6 : Nat → Int32} {g7 : Nat → Int32} {g8 : Nat → Int32} {r1 r2 : Int32} (hR : lawR κ zw kp fp S pn nn sn z18 f1 f4 f5 f6 f7 f8 f9 f10 f11 f12 f13 f15 f16 f17 ln ck) (P1 : (j_ix xn (nI S.2.1.length) = false ∧ r1 = 1 ∧ S1 = S) ∨ (∃ (j : Nat) (n : nmD), xn = nI j ∧ S.2.1[j]? = some n ∧ ((j_yy x y = false ∧ r1 = 2 ∧ S1 = S) ∨ (j_yy x y = true ∧ r1 = 0 ∧ ∃ v : Int32, ov1 0 = (if v = 0 then 0 else 1) ∧ v = b2i (decide (nG n = none)) ∧ rgP κ S j n x y S1)))) (P2 : (j_ix xn (nI nn) = false ∧ r2 = 0 ∧ w0 = 1 ∧ g6 = f6 ∧ g7 = f7 ∧ g8 = f8) ∨ (j_ix xn (nI nn) = true ∧ j_yy x y = false ∧ r2 = 0 ∧ w0 = 2 ∧ g6 = f6 ∧ g7 = f7 ∧ g8 = f8) ∨ (j_yy x y = true ∧ ∃ j, j < nn ∧ xn = nI j ∧ r2 = b2i (decide (f6 j = 0)) ∧ w0 = 0 ∧ g6 = upd f6 j 1 ∧ g7 = upd f7 j x ∧ g8 = upd f8 j y)) : w0 = r1 ∧ (r1 = 0 → ov1 0 = (if r2 = 0 then 0 else 1)) ∧ lawR κ zw kp fp S1 pn nn sn z18 f1 f4 f5 g6 g7 g8 f9 f10 f11 f12 f13 f15 f16 f17 ln ck := by
  have h24 := hR.nn24
  obtain ⟨h0, hN, hS⟩ := hR
  have hl := hN.1
  subst hl
  rcases P1 with ⟨a, rfl, rfl⟩ | ⟨j, n, rfl, hj, hc⟩
  · rcases P2 with ⟨-, rfl, rfl, rfl, rfl, rfl⟩ | ⟨a', -⟩ | ⟨-, j, hj, rfl, -⟩
    · exact ⟨rfl, fun h => absurd h (by decide), h0, hN, hS⟩
    · rw [a] at a'; cases a'
    · exact absurd rfl (ix_f a (by omega) j hj)
  · have hjl := (List.getElem?_eq_some_iff.mp hj).1
    rcases hc with ⟨a, rfl, rfl⟩ | ⟨a, rfl, v, hv, rfl, hg⟩
    · rcases P2 with ⟨a', -⟩ | ⟨-, -, rfl, rfl, rfl, rfl, rfl⟩ | ⟨a', -⟩
      · exact absurd rfl (ix_f a' (by omega) j hjl)
      · exact ⟨rfl, fun h => absurd h (by decide), h0, hN, hS⟩
      · rw [a] at a'; cases a'
    · rcases P2 with ⟨a', -⟩ | ⟨-, a', -⟩ | ⟨-, j', hj', e, rfl, rfl, rfl, rfl, rfl⟩
      · exact absurd rfl (ix_f a' (by omega) j hjl)
      · rw [a] at a'; cases a'
      · have e := nI_ij (by omega) (by omega) e
        subst e
        obtain ⟨hok, q9, rfl⟩ := hg
        obtain ⟨⟨t1, t2, t3, t4, t5, t6⟩, tb1, tb2⟩ := hN.2.2.2.1 j n hj
        refine ⟨rfl, fun _ => ?_, ⟨hok, h0.2⟩, N_set hN hj rfl rfl rfl ⟨t1, t2, ?_, ?_, t5, t6⟩ ⟨?_, tb2⟩ ?_ hN.2.2.2.2.2.2.1 hN.2.2.2.2.2.2.2.1 ?_, hS⟩
        · rw [hv, show decide (nG n = none) = decide (f6 j = 0) from by simp [t3]]
        · rw [up_eq]
          exact ⟨fun h => absurd h (by decide), fun h => by cases h⟩
        · intro r9 h
          cases h
          rw [up_eq, up_eq]
          exact ⟨rfl, rfl⟩
        · intro r9 h
          cases h
          exact yy_B a
        · intro i z hi ⟨s1, s2, s3, s4, s5, s6⟩
          exact ⟨s1, s2, by rw [up_lt hi]; exact s3, fun r h => by rw [up_lt hi, up_lt hi]; exact s4 r h, s5, s6⟩
        · intro i hi
          rw [up_lt (by omega)]
          exact hN.2.2.2.2.2.2.2.2 i hi
set_option maxHeartbeats 1000000 in
theorem tie_phase {κ : gS} {zw : Int32} {kp : Nat} {fp : Nat → Int32} {S : tS} {pn : Nat} {nn : Nat} {sn : Nat} {z18 : Int32} {f1 : Nat → Int32} {f4 : Nat → Int32} {f5 : Nat → Int32} {f6 : Nat → Int32} {f7 : Nat → Int32} {f8 : Nat → Int32} {f9 : Nat → Int32} {f10 : Nat → Int32} {f11 : Nat → Int32} {f12 : Nat → Int32} {f13 : Nat → Int32} {f15 : Nat → Int32} {f16 : Nat → Int32} {f17 : Nat → Int32} {ln : Nat → Nat} {ck : Nat → Nat} {xn : Int32} {pz : Int32} {x : Int32} {y : Int32} {dy : Int32} {ov1 : Nat → Int64} {S1 : tS} {w0 : Int32} {g9 : Nat → Int32} {g10 : Nat → Int32} {g11 : Nat → Int32} {g12 : Nat → Int32} {g13 : Nat → Int32} {r1 r2 : Int32} (hR : lawR κ zw kp fp S pn nn sn z18 f1 f4 f5 f6 f7 f8 f9 f10 f11 f12 f13 f15 f16 f17 ln ck) (P1 : (j_ix xn (nI S.2.1.length) = false ∧ r1 = 1 ∧ S1 = S) ∨ (∃ (j : Nat) (n : nmD), xn = nI j ∧ S.2.1[j]? = some n ∧ ((j_in pz 0 7 = false ∧ r1 = 1 ∧ S1 = S) ∨ (j_in pz 0 7 = true ∧ j_yy x y = false ∧ r1 = 2 ∧ S1 = S) ∨ (j_in pz 0 7 = true ∧ j_yy x y = true ∧ j_in dy 0 100000 = false ∧ r1 = 2 ∧ S1 = S) ∨ (j_in pz 0 7 = true ∧ j_yy x y = true ∧ j_in dy 0 100000 = true ∧ (nH n).length = 6 ∧ r1 = 3 ∧ S1 = S) ∨ (j_in pz 0 7 = true ∧ j_yy x y = true ∧ j_in dy 0 100000 = true ∧ (nH n).length < 6 ∧ r1 = 0 ∧ ∃ v : Int32, ov1 0 = v.toInt64 ∧ v = nI ((nH n).length + 1) ∧ phP κ S j n pz dy x y S1)))) (P2 : ((j_ix xn (nI nn) && j_in pz 0 7) = false ∧ r2 = 0 ∧ w0 = 1 ∧ g9 = f9 ∧ g10 = f10 ∧ g11 = f11 ∧ g12 = f12 ∧ g13 = f13) ∨ ((j_ix xn (nI nn) && j_in pz 0 7) = true ∧ (j_yy x y && j_in dy 0 100000) = false ∧ r2 = 0 ∧ w0 = 2 ∧ g9 = f9 ∧ g10 = f10 ∧ g11 = f11 ∧ g12 = f12 ∧ g13 = f13) ∨ (j_in pz 0 7 = true ∧ (j_yy x y && j_in dy 0 100000) = true ∧ ∃ j, j < nn ∧ xn = nI j ∧ ((ck j = 6 ∧ r2 = 0 ∧ w0 = 3 ∧ g9 = f9 ∧ g10 = f10 ∧ g11 = f11 ∧ g12 = f12 ∧ g13 = f13) ∨ (ck j < 6 ∧ r2 = nI (ck j + 1) ∧ w0 = 0 ∧ g9 = upd f9 j (nI (ck j + 1)) ∧ g10 = upd f10 (6 * j + ck j) pz ∧ g11 = upd f11 (6 * j + ck j) x ∧ g12 = upd f12 (6 * j + ck j) y ∧ g13 = upd f13 (6 * j + ck j) dy)))) : w0 = r1 ∧ (r1 = 0 → ov1 0 = r2.toInt64) ∧ ∃ (ck' : Nat → Nat), lawR κ zw kp fp S1 pn nn sn z18 f1 f4 f5 f6 f7 f8 g9 g10 g11 g12 g13 f15 f16 f17 ln ck' := by
  have h24 := hR.nn24
  obtain ⟨h0, hN, hS⟩ := hR
  have hl := hN.1
  subst hl
  rcases P1 with ⟨a, rfl, rfl⟩ | ⟨j, n, rfl, hj, hc⟩
  · rcases P2 with ⟨-, rfl, rfl, rfl, rfl, rfl, rfl, rfl⟩ | ⟨a', -⟩ | ⟨-, -, j, hj, rfl, -⟩
    · exact ⟨rfl, fun h => absurd h (by decide), ck, h0, hN, hS⟩
    · rw [a] at a'; cases a'
    · exact absurd rfl (ix_f a (by omega) j hj)
  · have hjl := (List.getElem?_eq_some_iff.mp hj).1
    rw [ix_y hjl (by omega), Bool.true_and] at P2
    have hck := (hN.2.2.2.1 j n hj).1.2.2.2.2.1
    rcases hc with ⟨a, rfl, rfl⟩ | ⟨a, b, rfl, rfl⟩ | ⟨a, b, d, rfl, rfl⟩ | ⟨a, b, d, e6, rfl, rfl⟩ | ⟨a, b, d, e6, rfl, v, hv, rfl, hg⟩
    · rcases P2 with ⟨-, rfl, rfl, rfl, rfl, rfl, rfl, rfl⟩ | ⟨a', -⟩ | ⟨a', -⟩
      · exact ⟨rfl, fun h => absurd h (by decide), ck, h0, hN, hS⟩
      · rw [a] at a'; cases a'
      · rw [a] at a'; cases a'
    · rcases P2 with ⟨a', -⟩ | ⟨-, -, rfl, rfl, rfl, rfl, rfl, rfl, rfl⟩ | ⟨-, b', -⟩
      · rw [a] at a'; cases a'
      · exact ⟨rfl, fun h => absurd h (by decide), ck, h0, hN, hS⟩
      · rw [b] at b'; cases b'
    · rcases P2 with ⟨a', -⟩ | ⟨-, -, rfl, rfl, rfl, rfl, rfl, rfl, rfl⟩ | ⟨-, b', -⟩
      · rw [a] at a'; cases a'
      · exact ⟨rfl, fun h => absurd h (by decide), ck, h0, hN, hS⟩
      · rw [b, d] at b'; cases b'
    · rcases P2 with ⟨a', -⟩ | ⟨-, b', -⟩ | ⟨-, -, j', hj', e, ⟨-, rfl, rfl, rfl, rfl, rfl, rfl, rfl⟩ | ⟨h6, -⟩⟩
      · rw [a] at a'; cases a'
      · rw [b, d] at b'; cases b'
      · exact ⟨rfl, fun h => absurd h (by decide), ck, h0, hN, hS⟩
      · have e := nI_ij (by omega) (by omega) e
        subst e
        omega
    · rcases P2 with ⟨a', -⟩ | ⟨-, b', -⟩ | ⟨-, -, j', hj', e, ⟨h6, -⟩ | ⟨-, rfl, rfl, rfl, rfl, rfl, rfl, rfl⟩⟩
      · rw [a] at a'; cases a'
      · rw [b, d] at b'; cases b'
      · have e := nI_ij (by omega) (by omega) e
        subst e
        omega
      · have e := nI_ij (by omega) (by omega) e
        subst e
        obtain ⟨hok, d1, q9, y9, rfl⟩ := hg
        obtain ⟨⟨t1, t2, t3, t4, t5, t6⟩, tb1, tb2⟩ := hN.2.2.2.1 j n hj
        refine ⟨rfl, fun _ => by rw [hv, t5], fun i => if i = j then ck j + 1 else ck i, ⟨hok, h0.2⟩, N_set hN hj rfl rfl rfl ⟨t1, t2, t3, t4, ?_, ?_⟩ ⟨tb1, ?_⟩ ?_ ?_ ?_ ?_, hS⟩
        · show ((nH n) ++ [(q9, pz, dy, y9, x, y)]).length = if j = j then ck j + 1 else ck j
          rw [if_pos rfl]
          simp [t5]
        · intro k q hq
          rcases ap1 (show ((nH n) ++ [(q9, pz, dy, y9, x, y)])[k]? = some q from hq) with ⟨a1, a2⟩ | ⟨a1, a2⟩
          · have := t6 k q a2
            rw [up_lt (by omega), up_lt (by omega), up_lt (by omega), up_lt (by omega)]
            exact this
          · subst a2
            rw [a1, t5, up_eq, up_eq, up_eq, up_eq]
            exact ⟨rfl, rfl, rfl, rfl⟩
        · intro q hq
          rcases List.mem_append.mp (show q ∈ (nH n) ++ [(q9, pz, dy, y9, x, y)] from hq) with h | h
          · exact tb2 q h
          · rw [List.mem_singleton.mp h]
            exact ⟨yy_B b, dy_0 d⟩
        · intro i z hi ⟨s1, s2, s3, s4, s5, s6⟩
          have h6 := hN.2.2.2.2.2.2.2.1 i
          have h7 := hN.2.2.2.2.2.2.2.1 j
          refine ⟨s1, s2, s3, s4, by show _ = if i = j then ck j + 1 else ck i; rw [if_neg hi]; exact s5, fun k q hq => ?_⟩
          have hk := (List.getElem?_eq_some_iff.mp hq).1
          have hne : 6 * i + k ≠ 6 * j + ck j := by
            intro h
            rcases Nat.lt_trichotomy i j with h8 | h8 | h8 <;> omega
          rw [up_lt hne, up_lt hne, up_lt hne, up_lt hne]
          exact s6 k q hq
        · intro i
          show upd f9 j (nI (ck j + 1)) i = nI (if i = j then ck j + 1 else ck i)
          by_cases h : i = j
          · subst h; rw [up_eq, if_pos rfl]
          · rw [up_lt h, if_neg h]; exact hN.2.2.2.2.2.2.1 i
        · intro i
          show (if i = j then ck j + 1 else ck i) ≤ 6
          by_cases h : i = j
          · rw [if_pos h]; omega
          · rw [if_neg h]; exact hN.2.2.2.2.2.2.2.1 i
        · intro i hi
          have hne : i ≠ j := by omega
          refine ⟨(hN.2.2.2.2.2.2.2.2 i hi).1, ?_⟩
          show (if i = j then ck j + 1 else ck i) = 0
          rw [if_neg hne]
          exact (hN.2.2.2.2.2.2.2.2 i hi).2
set_option maxHeartbeats 1000000 in
theorem tie_width {κ : gS} {zw : Int32} {kp : Nat} {fp : Nat → Int32} {S : tS} {pn : Nat} {nn : Nat} {sn : Nat} {z18 : Int32} {f1 : Nat → Int32} {f4 : Nat → Int32} {f5 : Nat → Int32} {f6 : Nat → Int32} {f7 : Nat → Int32} {f8 : Nat → Int32} {f9 : Nat → Int32} {f10 : Nat → Int32} {f11 : Nat → Int32} {f12 : Nat → Int32} {f13 : Nat → Int32} {f15 : Nat → Int32} {f16 : Nat → Int32} {f17 : Nat → Int32} {ln : Nat → Nat} {ck : Nat → Nat} {x : Int32} {ov1 : Nat → Int64} {w3 : Int32} {w0 : Int32} {w18 : Int32} {r1 r2 : Int32} (hR : lawR κ zw kp fp S pn nn sn z18 f1 f4 f5 f6 f7 f8 f9 f10 f11 f12 f13 f15 f16 f17 ln ck) (P1 : (j_in x 0 1000 = false ∧ r1 = 1 ∧ w3 = zw) ∨ (j_in x 0 1000 = true ∧ (r1 = 0 ∧ ∃ v : Int32, ov1 0 = v.toInt64 ∧ v = zw) ∧ w3 = x)) (P2 : (j_in x 0 1000 = false ∧ r2 = 0 ∧ w0 = 1 ∧ w18 = z18) ∨ (j_in x 0 1000 = true ∧ r2 = z18 ∧ w0 = 0 ∧ w18 = x)) : w0 = r1 ∧ (r1 = 0 → ov1 0 = r2.toInt64) ∧ lawR κ w3 kp fp S pn nn sn w18 f1 f4 f5 f6 f7 f8 f9 f10 f11 f12 f13 f15 f16 f17 ln ck := by
  obtain ⟨⟨h1, h2, h3, h4, rfl, h5⟩, hN, hS⟩ := hR
  rcases P1 with ⟨a, rfl, rfl⟩ | ⟨a, ⟨rfl, v, hv, rfl⟩, rfl⟩ <;> rcases P2 with ⟨a', rfl, rfl, rfl⟩ | ⟨a', rfl, rfl, rfl⟩
  · exact ⟨rfl, fun h => absurd h (by decide), ⟨h1, h2, h3, h4, rfl, h5⟩, hN, hS⟩
  · rw [a] at a'; cases a'
  · rw [a] at a'; cases a'
  · exact ⟨rfl, fun _ => hv, ⟨h1, h2, h3, h4, rfl, wd_B a⟩, hN, hS⟩
set_option maxHeartbeats 1000000 in
theorem tie_span {κ : gS} {zw : Int32} {kp : Nat} {fp : Nat → Int32} {S : tS} {pn : Nat} {nn : Nat} {sn : Nat} {z18 : Int32} {f1 : Nat → Int32} {f4 : Nat → Int32} {f5 : Nat → Int32} {f6 : Nat → Int32} {f7 : Nat → Int32} {f8 : Nat → Int32} {f9 : Nat → Int32} {f10 : Nat → Int32} {f11 : Nat → Int32} {f12 : Nat → Int32} {f13 : Nat → Int32} {f15 : Nat → Int32} {f16 : Nat → Int32} {f17 : Nat → Int32} {ln : Nat → Nat} {ck : Nat → Nat} {x : Int32} {y : Int32} {ov1 : Nat → Int64} {S1 : tS} {wq0 : Int32} {w19 : Int32} {w20 : Int32} {w21 : Int32} {g15 : Nat → Int32} {g16 : Nat → Int32} {g17 : Nat → Int32} {w14 : Int32} {z19 : Int32} {z20 : Int32} {z21 : Int32} {r1 r2 : Int32} (hR : lawR κ zw kp fp S pn nn sn z18 f1 f4 f5 f6 f7 f8 f9 f10 f11 f12 f13 f15 f16 f17 ln ck) (P1 : (j_yy x y = false ∧ r1 = 1 ∧ S1 = S) ∨ (j_yy x y = true ∧ S.2.2.2.length = 60 ∧ r1 = 2 ∧ S1 = S) ∨ (j_yy x y = true ∧ S.2.2.2.length < 60 ∧ r1 = 0 ∧ ∃ v : Int32, ov1 0 = v.toInt64 ∧ v = nI S.2.2.2.length ∧ spP κ S x y false false S1)) (P2 : (j_yy x y = false ∧ r2 = 0 ∧ wq0 = 1 ∧ w19 = z19 ∧ w20 = z20 ∧ w21 = z21 ∧ g15 = f15 ∧ g16 = f16 ∧ g17 = f17 ∧ w14 = nI sn) ∨ (j_yy x y = true ∧ sn = 60 ∧ r2 = 0 ∧ wq0 = 2 ∧ w19 = z19 ∧ w20 = z20 ∧ w21 = z21 ∧ g15 = f15 ∧ g16 = f16 ∧ g17 = f17 ∧ w14 = nI sn) ∨ (j_yy x y = true ∧ sn < 60 ∧ r2 = nI sn ∧ wq0 = 0 ∧ w19 = x ∧ w20 = y ∧ w21 = 0 ∧ g15 = upd f15 sn x ∧ g16 = upd f16 sn y ∧ g17 = upd f17 sn 0 ∧ w14 = nI (sn + 1))) : wq0 = r1 ∧ (r1 = 0 → ov1 0 = r2.toInt64) ∧ ∃ (sn' : Nat), w14 = nI sn' ∧ lawR κ zw kp fp S1 pn nn sn' z18 f1 f4 f5 f6 f7 f8 f9 f10 f11 f12 f13 g15 g16 g17 ln ck := by
  have h24 := hR.sn60
  obtain ⟨h0, hN, hS⟩ := hR
  have hl := hS.1
  subst hl
  rcases P1 with ⟨a, rfl, rfl⟩ | ⟨a, b, rfl, rfl⟩ | ⟨a, b, rfl, v, hv, rfl, hg⟩ <;> rcases P2 with ⟨a', rfl, rfl, -, -, -, rfl, rfl, rfl, rfl⟩ | ⟨a', b', rfl, rfl, -, -, -, rfl, rfl, rfl, rfl⟩ | ⟨a', b', rfl, rfl, -, -, -, rfl, rfl, rfl, rfl⟩
  · exact ⟨rfl, fun h => absurd h (by decide), _, rfl, h0, hN, hS⟩
  · rw [a] at a'; cases a'
  · rw [a] at a'; cases a'
  · rw [a] at a'; cases a'
  · exact ⟨rfl, fun h => absurd h (by decide), _, rfl, h0, hN, hS⟩
  · omega
  · rw [a] at a'; cases a'
  · omega
  · obtain ⟨hok, q9, d1, rfl⟩ := hg
    refine ⟨rfl, fun _ => hv, _, rfl, ⟨hok, h0.2⟩, hN, S_add hS rfl ?_⟩
    simp only [spT, up_eq]
    exact ⟨Or.inl (by first | rfl | trivial), by rw [j_lo, if_neg (by decide)], by rw [j_hi, if_neg (by decide)], op_0.1.symm, op_0.2.1.symm, yy_B a⟩
set_option maxHeartbeats 1000000 in
theorem tie_count {κ : gS} {zw : Int32} {kp : Nat} {fp : Nat → Int32} {S : tS} {pn : Nat} {nn : Nat} {sn : Nat} {z18 : Int32} {f1 : Nat → Int32} {f4 : Nat → Int32} {f5 : Nat → Int32} {f6 : Nat → Int32} {f7 : Nat → Int32} {f8 : Nat → Int32} {f9 : Nat → Int32} {f10 : Nat → Int32} {f11 : Nat → Int32} {f12 : Nat → Int32} {f13 : Nat → Int32} {f15 : Nat → Int32} {f16 : Nat → Int32} {f17 : Nat → Int32} {ln : Nat → Nat} {ck : Nat → Nat} {x : Int32} {ov1 : Nat → Int64} {w0 : Int32} {r1 r2 : Int32} (hR : lawR κ zw kp fp S pn nn sn z18 f1 f4 f5 f6 f7 f8 f9 f10 f11 f12 f13 f15 f16 f17 ln ck) (P1 : (j_in x 0 2 = false ∧ r1 = 1) ∨ (j_in x 0 2 = true ∧ r1 = 0 ∧ ∃ v : Int32, ov1 0 = v.toInt64 ∧ v = (if x = 0 then nI kp else if x = 1 then nI S.2.1.length else nI S.2.2.2.length))) (P2 : (j_in x 0 2 = false ∧ r2 = 0 ∧ w0 = 1) ∨ (j_in x 0 2 = true ∧ r2 = (if x = 0 then (nI pn) else if x = 1 then (nI nn) else (nI sn)) ∧ w0 = 0)) : w0 = r1 ∧ (r1 = 0 → ov1 0 = r2.toInt64) ∧ lawR κ zw kp fp S pn nn sn z18 f1 f4 f5 f6 f7 f8 f9 f10 f11 f12 f13 f15 f16 f17 ln ck := by
  have hR0 := hR
  obtain ⟨⟨h1, h2, rfl, h4, h5⟩, hN, hS⟩ := hR
  rcases P1 with ⟨a, rfl⟩ | ⟨a, rfl, v, hv, rfl⟩ <;> rcases P2 with ⟨a', rfl, rfl⟩ | ⟨a', rfl, rfl⟩
  · exact ⟨rfl, fun h => absurd h (by decide), hR0⟩
  · rw [a] at a'; cases a'
  · rw [a] at a'; cases a'
  · exact ⟨rfl, fun _ => by rw [hv, hN.1, hS.1], hR0⟩
set_option maxHeartbeats 1000000 in
theorem tie_end {κ : gS} {zw : Int32} {kp : Nat} {fp : Nat → Int32} {S : tS} {pn : Nat} {nn : Nat} {sn : Nat} {z18 : Int32} {f1 : Nat → Int32} {f4 : Nat → Int32} {f5 : Nat → Int32} {f6 : Nat → Int32} {f7 : Nat → Int32} {f8 : Nat → Int32} {f9 : Nat → Int32} {f10 : Nat → Int32} {f11 : Nat → Int32} {f12 : Nat → Int32} {f13 : Nat → Int32} {f15 : Nat → Int32} {f16 : Nat → Int32} {f17 : Nat → Int32} {ln : Nat → Nat} {ck : Nat → Nat} {xs : Int32} {wh : Int32} {ov1 : Nat → Int64} {w0 : Int32} {r1 r2 : Int32} (hR : lawR κ zw kp fp S pn nn sn z18 f1 f4 f5 f6 f7 f8 f9 f10 f11 f12 f13 f15 f16 f17 ln ck) (P1 : (j_ix xs (nI S.2.2.2.length) = false ∧ r1 = 1) ∨ (∃ (j : Nat) (q : spD), xs = nI j ∧ S.2.2.2[j]? = some q ∧ ((j_in wh 0 1 = false ∧ r1 = 1) ∨ (j_in wh 0 1 = true ∧ (if wh = 0 then q.2.2.2.1 else q.2.2.2.2) = true ∧ r1 = 2) ∨ (j_in wh 0 1 = true ∧ (if wh = 0 then q.2.2.2.1 else q.2.2.2.2) = false ∧ r1 = 0 ∧ ∃ v : Int32, ov1 0 = v.toInt64 ∧ v = (if wh = 0 then q.2.1 else q.2.2.1))))) (P2 : ((j_ix xs (nI sn) && j_in wh 0 1) = false ∧ r2 = 0 ∧ w0 = 1) ∨ ((j_ix xs (nI sn) && j_in wh 0 1) = true ∧ ∃ j, j < sn ∧ xs = nI j ∧ ((j_op (f17 j) wh = true ∧ r2 = 0 ∧ w0 = 2) ∨ (j_op (f17 j) wh = false ∧ r2 = (if wh = 0 then f15 j else f16 j) ∧ w0 = 0)))) : w0 = r1 ∧ (r1 = 0 → ov1 0 = r2.toInt64) ∧ lawR κ zw kp fp S pn nn sn z18 f1 f4 f5 f6 f7 f8 f9 f10 f11 f12 f13 f15 f16 f17 ln ck := by
  have hR0 := hR
  have h24 := hR.sn60
  obtain ⟨h0, hN, hS⟩ := hR
  have hl := hS.1
  subst hl
  rcases P1 with ⟨a, rfl⟩ | ⟨j, q, rfl, hj, hc⟩
  · rcases P2 with ⟨-, rfl, rfl⟩ | ⟨a', -⟩
    · exact ⟨rfl, fun h => absurd h (by decide), hR0⟩
    · rw [a] at a'; cases a'
  · have hjl := (List.getElem?_eq_some_iff.mp hj).1
    obtain ⟨o1, o2, o3, o4, o5, o6⟩ := hS.2 j q hj
    rw [ix_y hjl (by omega), Bool.true_and] at P2
    have how : ∀ w : Int32, j_in w 0 1 = true → (if w = 0 then q.2.2.2.1 else q.2.2.2.2) = j_op (f17 j) w := fun w hw => by
      rcases in_01 hw with rfl | rfl
      · rw [if_pos rfl, o4]
      · rw [if_neg (by decide), o5]
    rcases hc with ⟨a, rfl⟩ | ⟨a, b, rfl⟩ | ⟨a, b, rfl, v, hv, rfl⟩
    · rcases P2 with ⟨-, rfl, rfl⟩ | ⟨a', -⟩
      · exact ⟨rfl, fun h => absurd h (by decide), hR0⟩
      · rw [a] at a'; cases a'
    · rcases P2 with ⟨a', -⟩ | ⟨-, j', hj', e, ⟨-, rfl, rfl⟩ | ⟨b', -⟩⟩
      · rw [a] at a'; cases a'
      · exact ⟨rfl, fun h => absurd h (by decide), hR0⟩
      · have e := nI_ij (by omega) (by omega) e
        subst e
        rw [how _ a, b'] at b; cases b
    · rcases P2 with ⟨a', -⟩ | ⟨-, j', hj', e, ⟨b', -⟩ | ⟨b', rfl, rfl⟩⟩
      · rw [a] at a'; cases a'
      · have e := nI_ij (by omega) (by omega) e
        subst e
        rw [how _ a, b'] at b; cases b
      · have e := nI_ij (by omega) (by omega) e
        subst e
        refine ⟨rfl, fun _ => ?_, hR0⟩
        rw [hv]
        rcases in_01 a with rfl | rfl
        · rw [if_pos rfl, if_pos rfl, o2, j_lo, if_neg (by rw [b']; decide)]
        · rw [if_neg (by decide), if_neg (by decide), o3, j_hi, if_neg (by rw [b']; decide)]
set_option maxHeartbeats 1000000 in
theorem tie_open {κ : gS} {zw : Int32} {kp : Nat} {fp : Nat → Int32} {S : tS} {pn : Nat} {nn : Nat} {sn : Nat} {z18 : Int32} {f1 : Nat → Int32} {f4 : Nat → Int32} {f5 : Nat → Int32} {f6 : Nat → Int32} {f7 : Nat → Int32} {f8 : Nat → Int32} {f9 : Nat → Int32} {f10 : Nat → Int32} {f11 : Nat → Int32} {f12 : Nat → Int32} {f13 : Nat → Int32} {f15 : Nat → Int32} {f16 : Nat → Int32} {f17 : Nat → Int32} {ln : Nat → Nat} {ck : Nat → Nat} {xs : Int32} {wh : Int32} {ov1 : Nat → Int64} {w0 : Int32} {r1 r2 : Int32} (hR : lawR κ zw kp fp S pn nn sn z18 f1 f4 f5 f6 f7 f8 f9 f10 f11 f12 f13 f15 f16 f17 ln ck) (P1 : (j_ix xs (nI S.2.2.2.length) = false ∧ r1 = 1) ∨ (∃ (j : Nat) (q : spD), xs = nI j ∧ S.2.2.2[j]? = some q ∧ ((j_in wh 0 1 = false ∧ r1 = 1) ∨ (j_in wh 0 1 = true ∧ r1 = 0 ∧ ∃ v : Int32, ov1 0 = (if v = 0 then 0 else 1) ∧ v = b2i (if wh = 0 then q.2.2.2.1 else q.2.2.2.2))))) (P2 : ((j_ix xs (nI sn) && j_in wh 0 1) = false ∧ r2 = 0 ∧ w0 = 1) ∨ ((j_ix xs (nI sn) && j_in wh 0 1) = true ∧ ∃ j, j < sn ∧ xs = nI j ∧ r2 = b2i (j_op (f17 j) wh) ∧ w0 = 0)) : w0 = r1 ∧ (r1 = 0 → ov1 0 = (if r2 = 0 then 0 else 1)) ∧ lawR κ zw kp fp S pn nn sn z18 f1 f4 f5 f6 f7 f8 f9 f10 f11 f12 f13 f15 f16 f17 ln ck := by
  have hR0 := hR
  have h24 := hR.sn60
  obtain ⟨h0, hN, hS⟩ := hR
  have hl := hS.1
  subst hl
  rcases P1 with ⟨a, rfl⟩ | ⟨j, q, rfl, hj, hc⟩
  · rcases P2 with ⟨-, rfl, rfl⟩ | ⟨a', -⟩
    · exact ⟨rfl, fun h => absurd h (by decide), hR0⟩
    · rw [a] at a'; cases a'
  · have hjl := (List.getElem?_eq_some_iff.mp hj).1
    obtain ⟨o1, o2, o3, o4, o5, o6⟩ := hS.2 j q hj
    rw [ix_y hjl (by omega), Bool.true_and] at P2
    rcases hc with ⟨a, rfl⟩ | ⟨a, rfl, v, hv, rfl⟩
    · rcases P2 with ⟨-, rfl, rfl⟩ | ⟨a', -⟩
      · exact ⟨rfl, fun h => absurd h (by decide), hR0⟩
      · rw [a] at a'; cases a'
    · rcases P2 with ⟨a', -⟩ | ⟨-, j', hj', e, rfl, rfl⟩
      · rw [a] at a'; cases a'
      · have e := nI_ij (by omega) (by omega) e
        subst e
        refine ⟨rfl, fun _ => ?_, hR0⟩
        rw [hv]
        rcases in_01 a with rfl | rfl
        · rw [show (if (0 : Int32) = 0 then q.2.2.2.1 else q.2.2.2.2) = j_op (f17 j) 0 from (if_pos rfl).trans o4]
        · rw [show (if (1 : Int32) = 0 then q.2.2.2.1 else q.2.2.2.2) = j_op (f17 j) 1 from (if_neg (by decide)).trans o5]
set_option maxHeartbeats 1000000 in
theorem tie_regnal {κ : gS} {zw : Int32} {kp : Nat} {fp : Nat → Int32} {S : tS} {pn : Nat} {nn : Nat} {sn : Nat} {z18 : Int32} {f1 : Nat → Int32} {f4 : Nat → Int32} {f5 : Nat → Int32} {f6 : Nat → Int32} {f7 : Nat → Int32} {f8 : Nat → Int32} {f9 : Nat → Int32} {f10 : Nat → Int32} {f11 : Nat → Int32} {f12 : Nat → Int32} {f13 : Nat → Int32} {f15 : Nat → Int32} {f16 : Nat → Int32} {f17 : Nat → Int32} {ln : Nat → Nat} {ck : Nat → Nat} {xn : Int32} {x : Int32} {ov1 : Nat → Int64} {w0 : Int32} {r1 r2 : Int32} (hR : lawR κ zw kp fp S pn nn sn z18 f1 f4 f5 f6 f7 f8 f9 f10 f11 f12 f13 f15 f16 f17 ln ck) (P1 : (j_ix xn (nI S.2.1.length) = false ∧ r1 = 1) ∨ (∃ (j : Nat) (n : nmD), xn = nI j ∧ S.2.1[j]? = some n ∧ ((¬ 1 ≤ x ∧ r1 = 2) ∨ (1 ≤ x ∧ nG n = none ∧ r1 = 3) ∨ (1 ≤ x ∧ ∃ r9, nG n = some r9 ∧ ¬ x ≤ r9.2.2 - r9.2.1 + 1 ∧ r1 = 3) ∨ (1 ≤ x ∧ ∃ r9, nG n = some r9 ∧ x ≤ r9.2.2 - r9.2.1 + 1 ∧ r1 = 0 ∧ ∃ v : Int32, ov1 0 = v.toInt64 ∧ v = r9.2.1 + x - 1)))) (P2 : (j_ix xn (nI nn) = false ∧ r2 = 0 ∧ w0 = 1) ∨ (j_ix xn (nI nn) = true ∧ ∃ j, j < nn ∧ xn = nI j ∧ ((¬ 1 ≤ x ∧ r2 = 0 ∧ w0 = 2) ∨ (1 ≤ x ∧ (f6 j = 0 ∨ ¬ x - 1 ≤ f8 j - f7 j) ∧ r2 = 0 ∧ w0 = 3) ∨ (1 ≤ x ∧ ¬ f6 j = 0 ∧ x - 1 ≤ f8 j - f7 j ∧ r2 = f7 j + x - 1 ∧ w0 = 0)))) : w0 = r1 ∧ (r1 = 0 → ov1 0 = r2.toInt64) ∧ lawR κ zw kp fp S pn nn sn z18 f1 f4 f5 f6 f7 f8 f9 f10 f11 f12 f13 f15 f16 f17 ln ck := by
  have hR0 := hR
  have h24 := hR.nn24
  obtain ⟨h0, hN, hS⟩ := hR
  have hl := hN.1
  subst hl
  rcases P1 with ⟨a, rfl⟩ | ⟨j, n, rfl, hj, hc⟩
  · rcases P2 with ⟨-, rfl, rfl⟩ | ⟨a', -⟩
    · exact ⟨rfl, fun h => absurd h (by decide), hR0⟩
    · rw [a] at a'; cases a'
  · have hjl := (List.getElem?_eq_some_iff.mp hj).1
    obtain ⟨⟨t1, t2, t3, t4, t5, t6⟩, tb1, tb2⟩ := hN.2.2.2.1 j n hj
    rcases P2 with ⟨a', -⟩ | ⟨-, j', hj', e, hc2⟩
    · exact absurd rfl (ix_f a' (by omega) j hjl)
    · have e := nI_ij (by omega) (by omega) e
      subst e
      rcases hc with ⟨a, rfl⟩ | ⟨a, b, rfl⟩ | ⟨a, r9, b, d, rfl⟩ | ⟨a, r9, b, d, rfl, v, hv, rfl⟩ <;> rcases hc2 with ⟨a', rfl, rfl⟩ | ⟨a', b', rfl, rfl⟩ | ⟨a', b', d', rfl, rfl⟩
      · exact ⟨rfl, fun h => absurd h (by decide), hR0⟩
      · exact absurd a' a
      · exact absurd a' a
      · exact absurd a a'
      · exact ⟨rfl, fun h => absurd h (by decide), hR0⟩
      · exact absurd (t3.mpr b) b'
      · exact absurd a a'
      · exact ⟨rfl, fun h => absurd h (by decide), hR0⟩
      · rw [(t4 r9 b).1.symm, (t4 r9 b).2.symm] at d'
        exact absurd ((rg_len (tb1 r9 b) a).mpr d') d
      · exact absurd a a'
      · rcases b' with b' | b'
        · rw [t3.mp b'] at b; cases b
        · rw [(t4 r9 b).1.symm, (t4 r9 b).2.symm] at b'
          exact absurd ((rg_len (tb1 r9 b) a).mp d) b'
      · exact ⟨rfl, fun _ => by rw [hv, (t4 r9 b).1], hR0⟩