/-! the ties, second part: two spans -/
set_option maxHeartbeats 1000000 in
theorem tie_relations {κ : gS} {zw : Int32} {kp : Nat} {fp : Nat → Int32} {S : tS} {pn : Nat} {nn : Nat} {sn : Nat} {z18 : Int32} {f1 : Nat → Int32} {f4 : Nat → Int32} {f5 : Nat → Int32} {f6 : Nat → Int32} {f7 : Nat → Int32} {f8 : Nat → Int32} {f9 : Nat → Int32} {f10 : Nat → Int32} {f11 : Nat → Int32} {f12 : Nat → Int32} {f13 : Nat → Int32} {f15 : Nat → Int32} {f16 : Nat → Int32} {f17 : Nat → Int32} {ln : Nat → Nat} {ck : Nat → Nat} {xs : Int32} {ys : Int32} {ov1 : Nat → Int64} {w0 : Int32} {r1 r2 : Int32} (hR : lawR κ zw kp fp S pn nn sn z18 f1 f4 f5 f6 f7 f8 f9 f10 f11 f12 f13 f15 f16 f17 ln ck) (P1 : (j_ix xs (nI S.2.2.2.length) = false ∧ r1 = 1) ∨ (∃ (j : Nat) (q : spD), xs = nI j ∧ S.2.2.2[j]? = some q ∧ ((j_ix ys (nI S.2.2.2.length) = false ∧ r1 = 1) ∨ (∃ (j2 : Nat) (q2 : spD), ys = nI j2 ∧ S.2.2.2[j2]? = some q2 ∧ (r1 = 0 ∧ ∃ v : Int32, ov1 0 = v.toInt64 ∧ v = c_rs q.2.1 q.2.2.1 q2.2.1 q2.2.2.1))))) (P2 : ((j_ix xs (nI sn) && j_ix ys (nI sn)) = false ∧ r2 = 0 ∧ w0 = 1) ∨ ((j_ix xs (nI sn) && j_ix ys (nI sn)) = true ∧ ∃ i, i < sn ∧ xs = nI i ∧ ∃ j, j < sn ∧ ys = nI j ∧ r2 = j_rs (j_lo (f17 i) (f15 i)) (j_hi (f17 i) (f16 i)) (j_lo (f17 j) (f15 j)) (j_hi (f17 j) (f16 j)) ∧ w0 = 0)) : w0 = r1 ∧ (r1 = 0 → ov1 0 = r2.toInt64) ∧ lawR κ zw kp fp S pn nn sn z18 f1 f4 f5 f6 f7 f8 f9 f10 f11 f12 f13 f15 f16 f17 ln ck := by
  have hR0 := hR
  have h24 := hR.sn60
  obtain ⟨h0, hN, hS⟩ := hR
  have hl := hS.1
  subst hl
  rcases P1 with ⟨a, rfl⟩ | ⟨j, q, rfl, hj, hc⟩
  · rcases P2 with ⟨-, rfl, rfl⟩ | ⟨a', -⟩
    · exact ⟨rfl, fun h => absurd h (by decide), hR0⟩
    · rw [a, Bool.false_and] at a'; cases a'
  · have hjl := (List.getElem?_eq_some_iff.mp hj).1
    rw [ix_y hjl (by omega), Bool.true_and] at P2
    obtain ⟨o1, o2, o3, o4, o5, o6⟩ := hS.2 j q hj
    rcases hc with ⟨a, rfl⟩ | ⟨j2, q2, rfl, hj2, hc⟩
    · rcases P2 with ⟨-, rfl, rfl⟩ | ⟨a', -⟩
      · exact ⟨rfl, fun h => absurd h (by decide), hR0⟩
      · rw [a] at a'; cases a'
    · have hjl2 := (List.getElem?_eq_some_iff.mp hj2).1
      rw [ix_y hjl2 (by omega)] at P2
      obtain ⟨p1, p2, p3, p4, p5, p6⟩ := hS.2 j2 q2 hj2
      rcases P2 with ⟨a', -⟩ | ⟨-, i', hi', e, j', hj', e', hd⟩
      · cases a'
      · have e := nI_ij (by omega) (by omega) e
        have e' := nI_ij (by omega) (by omega) e'
        subst e; subst e'
        obtain ⟨rfl, v, hv, rfl⟩ := hc
        obtain ⟨rfl, rfl⟩ := hd
        exact ⟨rfl, fun _ => by rw [hv, rs_same o6 p6, o2, o3, p2, p3], hR0⟩
set_option maxHeartbeats 1000000 in
theorem tie_relation {κ : gS} {zw : Int32} {kp : Nat} {fp : Nat → Int32} {S : tS} {pn : Nat} {nn : Nat} {sn : Nat} {z18 : Int32} {f1 : Nat → Int32} {f4 : Nat → Int32} {f5 : Nat → Int32} {f6 : Nat → Int32} {f7 : Nat → Int32} {f8 : Nat → Int32} {f9 : Nat → Int32} {f10 : Nat → Int32} {f11 : Nat → Int32} {f12 : Nat → Int32} {f13 : Nat → Int32} {f15 : Nat → Int32} {f16 : Nat → Int32} {f17 : Nat → Int32} {ln : Nat → Nat} {ck : Nat → Nat} {xs : Int32} {ys : Int32} {ov1 : Nat → Int64} {w0 : Int32} {r1 r2 : Int32} (hR : lawR κ zw kp fp S pn nn sn z18 f1 f4 f5 f6 f7 f8 f9 f10 f11 f12 f13 f15 f16 f17 ln ck) (P1 : (j_ix xs (nI S.2.2.2.length) = false ∧ r1 = 1) ∨ (∃ (j : Nat) (q : spD), xs = nI j ∧ S.2.2.2[j]? = some q ∧ ((j_ix ys (nI S.2.2.2.length) = false ∧ r1 = 1) ∨ (∃ (j2 : Nat) (q2 : spD), ys = nI j2 ∧ S.2.2.2[j2]? = some q2 ∧ ((((q.2.2.2.1 || q.2.2.2.2) || (q2.2.2.2.1 || q2.2.2.2.2)) = true ∧ r1 = 2) ∨ (((q.2.2.2.1 || q.2.2.2.2) || (q2.2.2.2.1 || q2.2.2.2.2)) = false ∧ r1 = 0 ∧ ∃ v : Int32, ov1 0 = v.toInt64 ∧ v = c_rl q.2.1 q.2.2.1 q2.2.1 q2.2.2.1)))))) (P2 : ((j_ix xs (nI sn) && j_ix ys (nI sn)) = false ∧ r2 = 0 ∧ w0 = 1) ∨ ((j_ix xs (nI sn) && j_ix ys (nI sn)) = true ∧ ∃ i, i < sn ∧ xs = nI i ∧ ∃ j, j < sn ∧ ys = nI j ∧ (((¬ f17 i = 0 ∨ ¬ f17 j = 0) ∧ r2 = 0 ∧ w0 = 2) ∨ (f17 i = 0 ∧ f17 j = 0 ∧ r2 = j_rl (f15 i) (f16 i) (f15 j) (f16 j) ∧ w0 = 0)))) : w0 = r1 ∧ (r1 = 0 → ov1 0 = r2.toInt64) ∧ lawR κ zw kp fp S pn nn sn z18 f1 f4 f5 f6 f7 f8 f9 f10 f11 f12 f13 f15 f16 f17 ln ck := by
  have hR0 := hR
  have h24 := hR.sn60
  obtain ⟨h0, hN, hS⟩ := hR
  have hl := hS.1
  subst hl
  rcases P1 with ⟨a, rfl⟩ | ⟨j, q, rfl, hj, hc⟩
  · rcases P2 with ⟨-, rfl, rfl⟩ | ⟨a', -⟩
    · exact ⟨rfl, fun h => absurd h (by decide), hR0⟩
    · rw [a, Bool.false_and] at a'; cases a'
  · have hjl := (List.getElem?_eq_some_iff.mp hj).1
    rw [ix_y hjl (by omega), Bool.true_and] at P2
    obtain ⟨o1, o2, o3, o4, o5, o6⟩ := hS.2 j q hj
    rcases hc with ⟨a, rfl⟩ | ⟨j2, q2, rfl, hj2, hc⟩
    · rcases P2 with ⟨-, rfl, rfl⟩ | ⟨a', -⟩
      · exact ⟨rfl, fun h => absurd h (by decide), hR0⟩
      · rw [a] at a'; cases a'
    · have hjl2 := (List.getElem?_eq_some_iff.mp hj2).1
      rw [ix_y hjl2 (by omega)] at P2
      obtain ⟨p1, p2, p3, p4, p5, p6⟩ := hS.2 j2 q2 hj2
      rcases P2 with ⟨a', -⟩ | ⟨-, i', hi', e, j', hj', e', hd⟩
      · cases a'
      · have e := nI_ij (by omega) (by omega) e
        have e' := nI_ij (by omega) (by omega) e'
        subst e; subst e'
        rw [o4, o5, p4, p5] at hc
        rcases hc with ⟨a, rfl⟩ | ⟨a, rfl, v, hv, rfl⟩
        · rcases hd with ⟨-, rfl, rfl⟩ | ⟨d1, d2, -⟩
          · exact ⟨rfl, fun h => absurd h (by decide), hR0⟩
          · rw [(op_c o1).mpr d1, (op_c p1).mpr d2] at a; cases a
        · rcases hd with ⟨d, -⟩ | ⟨d1, d2, rfl, rfl⟩
          · obtain ⟨a1, a2⟩ := oo_f a
            rcases d with d | d
            · exact absurd ((op_c o1).mp a1) d
            · exact absurd ((op_c p1).mp a2) d
          · refine ⟨rfl, fun _ => ?_, hR0⟩
            rw [hv, rl_same o6 p6, o2, o3, p2, p3, d1, d2, j_lo, j_hi, j_lo, j_hi, if_neg (by rw [op_0.1]; decide), if_neg (by rw [op_0.2.1]; decide), if_neg (by rw [op_0.1]; decide), if_neg (by rw [op_0.2.1]; decide)]
set_option maxHeartbeats 1000000 in
theorem tie_join {κ : gS} {zw : Int32} {kp : Nat} {fp : Nat → Int32} {S : tS} {pn : Nat} {nn : Nat} {sn : Nat} {z18 : Int32} {f1 : Nat → Int32} {f4 : Nat → Int32} {f5 : Nat → Int32} {f6 : Nat → Int32} {f7 : Nat → Int32} {f8 : Nat → Int32} {f9 : Nat → Int32} {f10 : Nat → Int32} {f11 : Nat → Int32} {f12 : Nat → Int32} {f13 : Nat → Int32} {f15 : Nat → Int32} {f16 : Nat → Int32} {f17 : Nat → Int32} {ln : Nat → Nat} {ck : Nat → Nat} {xs : Int32} {ys : Int32} {ov1 : Nat → Int64} {S1 : tS} {wq0 : Int32} {w19 : Int32} {w20 : Int32} {w21 : Int32} {g15 : Nat → Int32} {g16 : Nat → Int32} {g17 : Nat → Int32} {w14 : Int32} {z19 : Int32} {z20 : Int32} {z21 : Int32} {r1 r2 : Int32} (hR : lawR κ zw kp fp S pn nn sn z18 f1 f4 f5 f6 f7 f8 f9 f10 f11 f12 f13 f15 f16 f17 ln ck) (P1 : (j_ix xs (nI S.2.2.2.length) = false ∧ r1 = 1 ∧ S1 = S) ∨ (∃ (j : Nat) (q : spD), xs = nI j ∧ S.2.2.2[j]? = some q ∧ ((j_ix ys (nI S.2.2.2.length) = false ∧ r1 = 1 ∧ S1 = S) ∨ (∃ (j2 : Nat) (q2 : spD), ys = nI j2 ∧ S.2.2.2[j2]? = some q2 ∧ ((S.2.2.2.length = 60 ∧ r1 = 2 ∧ S1 = S) ∨ (S.2.2.2.length < 60 ∧ r1 = 0 ∧ ∃ v : Int32, ov1 0 = v.toInt64 ∧ v = nI S.2.2.2.length ∧ spP κ S (if q2.2.1 < q.2.1 then q2.2.1 else q.2.1) (if q.2.2.1 < q2.2.2.1 then q2.2.2.1 else q.2.2.1) (q.2.2.2.1 || q2.2.2.2.1) (q.2.2.2.2 || q2.2.2.2.2) S1)))))) (P2 : ((j_ix xs (nI sn) && j_ix ys (nI sn)) = false ∧ r2 = 0 ∧ wq0 = 1 ∧ w19 = z19 ∧ w20 = z20 ∧ w21 = z21 ∧ g15 = f15 ∧ g16 = f16 ∧ g17 = f17 ∧ w14 = nI sn) ∨ ((j_ix xs (nI sn) && j_ix ys (nI sn)) = true ∧ ∃ i, i < sn ∧ xs = nI i ∧ ∃ j, j < sn ∧ ys = nI j ∧ ((sn = 60 ∧ r2 = 0 ∧ wq0 = 2 ∧ w19 = z19 ∧ w20 = z20 ∧ w21 = z21 ∧ g15 = f15 ∧ g16 = f16 ∧ g17 = f17 ∧ w14 = nI sn) ∨ (sn < 60 ∧ r2 = nI sn ∧ wq0 = 0 ∧ w19 = (if f15 j ≤ f15 i then f15 j else f15 i) ∧ w20 = (if f16 i ≤ f16 j then f16 j else f16 i) ∧ w21 = f17 i ||| f17 j ∧ g15 = upd f15 sn w19 ∧ g16 = upd f16 sn w20 ∧ g17 = upd f17 sn w21 ∧ w14 = nI (sn + 1))))) : wq0 = r1 ∧ (r1 = 0 → ov1 0 = r2.toInt64) ∧ ∃ (sn' : Nat), w14 = nI sn' ∧ lawR κ zw kp fp S1 pn nn sn' z18 f1 f4 f5 f6 f7 f8 f9 f10 f11 f12 f13 g15 g16 g17 ln ck := by
  have hR0 := hR
  have h24 := hR.sn60
  obtain ⟨h0, hN, hS⟩ := hR
  have hl := hS.1
  subst hl
  rcases P1 with ⟨a, rfl, rfl⟩ | ⟨j, q, rfl, hj, hc⟩
  · rcases P2 with ⟨-, rfl, rfl, -, -, -, rfl, rfl, rfl, rfl⟩ | ⟨a', -⟩
    · exact ⟨rfl, fun h => absurd h (by decide), _, rfl, h0, hN, hS⟩
    · rw [a, Bool.false_and] at a'; cases a'
  · have hjl := (List.getElem?_eq_some_iff.mp hj).1
    rw [ix_y hjl (by omega), Bool.true_and] at P2
    obtain ⟨o1, o2, o3, o4, o5, o6⟩ := hS.2 j q hj
    rcases hc with ⟨a, rfl, rfl⟩ | ⟨j2, q2, rfl, hj2, hc⟩
    · rcases P2 with ⟨-, rfl, rfl, -, -, -, rfl, rfl, rfl, rfl⟩ | ⟨a', -⟩
      · exact ⟨rfl, fun h => absurd h (by decide), _, rfl, h0, hN, hS⟩
      · rw [a] at a'; cases a'
    · have hjl2 := (List.getElem?_eq_some_iff.mp hj2).1
      rw [ix_y hjl2 (by omega)] at P2
      obtain ⟨p1, p2, p3, p4, p5, p6⟩ := hS.2 j2 q2 hj2
      rcases P2 with ⟨a', -⟩ | ⟨-, i', hi', e, j', hj', e', hd⟩
      · cases a'
      · have e := nI_ij (by omega) (by omega) e
        have e' := nI_ij (by omega) (by omega) e'
        subst e; subst e'
        rcases hc with ⟨a, rfl, rfl⟩ | ⟨a, rfl, v, hv, rfl, hg⟩
        · rcases hd with ⟨-, rfl, rfl, -, -, -, rfl, rfl, rfl, rfl⟩ | ⟨d, -⟩
          · exact ⟨rfl, fun h => absurd h (by decide), _, rfl, h0, hN, hS⟩
          · omega
        · rcases hd with ⟨d, -⟩ | ⟨-, rfl, rfl, rfl, rfl, rfl, rfl, rfl, rfl, rfl⟩
          · omega
          · obtain ⟨hok, q9, d1, rfl⟩ := hg
            refine ⟨rfl, fun _ => hv, _, rfl, ⟨hok, h0.2⟩, hN, S_add hS rfl ?_⟩
            obtain ⟨u1, u2, u3⟩ := or_3 o1 p1
            simp only [spT, up_eq]
            refine ⟨u1, ?_, ?_, ?_, ?_, ?_⟩
            · rw [j_lo, u2, ii_eq, mn_toInt, o2, p2, j_lo, j_lo]
              obtain ⟨b1, b2, b3⟩ := o6
              obtain ⟨d1, d2, d3⟩ := p6
              rw [o2, j_lo] at b1
              rw [p2, j_lo] at d1
              have c := k_toInt.2.1
              cases x1 : j_op (f17 j) 0 <;> cases x2 : j_op (f17 j2) 0 <;> simp only [x1, x2, Bool.or_self, Bool.or_true, Bool.true_or, Bool.or_false, Bool.false_or, if_true, if_false, Bool.false_eq_true] at b1 d1 ⊢
              · rw [mn_toInt']
              · omega
              · omega
              · omega
            · rw [j_hi, u3, ii_eq, mx_toInt, o3, p3, j_hi, j_hi]
              obtain ⟨b1, b2, b3⟩ := o6
              obtain ⟨d1, d2, d3⟩ := p6
              rw [o3, j_hi] at b3
              rw [p3, j_hi] at d3
              have c := k_toInt.2.2.1
              cases x1 : j_op (f17 j) 1 <;> cases x2 : j_op (f17 j2) 1 <;> simp only [x1, x2, Bool.or_self, Bool.or_true, Bool.true_or, Bool.or_false, Bool.false_or, if_true, if_false, Bool.false_eq_true] at b3 d3 ⊢
              · rw [mx_toInt']
              · omega
              · omega
              · omega
            · rw [o4, p4, u2]
            · rw [o5, p5, u3]
            · obtain ⟨b1, b2, b3⟩ := o6
              obtain ⟨d1, d2, d3⟩ := p6
              refine ⟨?_, ?_, ?_⟩
              · show -9999 ≤ (if q2.2.1 < q.2.1 then q2.2.1 else q.2.1).toInt
                rw [mn_toInt]; omega
              · show (if q2.2.1 < q.2.1 then q2.2.1 else q.2.1).toInt ≤ (if q.2.2.1 < q2.2.2.1 then q2.2.2.1 else q.2.2.1).toInt
                rw [mn_toInt, mx_toInt]; omega
              · show (if q.2.2.1 < q2.2.2.1 then q2.2.2.1 else q.2.2.1).toInt ≤ 9999
                rw [mx_toInt]; omega