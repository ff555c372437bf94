/-! the tie: word -/
set_option maxHeartbeats 1000000 in
theorem tie_word {κ : gS} {zw : Int32} {kp : Nat} {fp : Nat → Int32} {S : tS} {pn : Nat} {nn : Nat} {sn : Nat} {z18 : Int32} {f1 : Nat → Int32} {f4 : Nat → Int32} {f5 : Nat → Int32} {f6 : Nat → Int32} {f7 : Nat → Int32} {f8 : Nat → Int32} {f9 : Nat → Int32} {f10 : Nat → Int32} {f11 : Nat → Int32} {f12 : Nat → Int32} {f13 : Nat → Int32} {f15 : Nat → Int32} {f16 : Nat → Int32} {f17 : Nat → Int32} {ln : Nat → Nat} {ck : Nat → Nat} {xs : Int32} {ii : Int32} {ov1 : Nat → Int64} {wq0 : Int32} {r1 r2 : Int32} (hR : lawR κ zw kp fp S pn nn sn z18 f1 f4 f5 f6 f7 f8 f9 f10 f11 f12 f13 f15 f16 f17 ln ck) (P1 : (j_ix xs (nI S.2.2.2.length) = false ∧ r1 = 1) ∨ (∃ (j : Nat) (q : spD), xs = nI j ∧ S.2.2.2[j]? = some q ∧ ((ii = -1 ∧ r1 = 0 ∧ ∃ v : Int32, ov1 0 = v.toInt64 ∧ v = (if (c_wl zw q S).length = 0 then -1 else nI (c_wl zw q S).length)) ∨ (¬ ii = -1 ∧ r1 = 0 ∧ ∃ v : Int32, ov1 0 = v.toInt64 ∧ ∃ k9, ii = nI k9 ∧ (c_wl zw q S)[k9]? = some v) ∨ (¬ ii = -1 ∧ (∀ i, i < (c_wl zw q S).length → ¬ ii = nI i) ∧ r1 = 1)))) (P2 : (j_ix xs (nI sn) = false ∧ r2 = 0 ∧ wq0 = 1) ∨ (j_ix xs (nI sn) = true ∧ ∃ j, j < sn ∧ xs = nI j ∧ ((ii = -1 ∧ wq0 = 0 ∧ r2 = (if (if f17 j = 3 then [] else j_wf (fun th c9 bl => j_try (j_ss z18 (j_kbo (f17 j)) (j_src z18 th (j_nv f6 f7 f8 f10 f11 f12 f13 ck 0 100000) c9) (f17 j) (f15 j) (f16 j)) (j_tx (j_kbo (f17 j)) th f4 ln c9) bl) (99 + nn)).length = 0 then -1 else nI (if f17 j = 3 then [] else j_wf (fun th c9 bl => j_try (j_ss z18 (j_kbo (f17 j)) (j_src z18 th (j_nv f6 f7 f8 f10 f11 f12 f13 ck 0 100000) c9) (f17 j) (f15 j) (f16 j)) (j_tx (j_kbo (f17 j)) th f4 ln c9) bl) (99 + nn)).length)) ∨ (¬ ii = -1 ∧ wq0 = 0 ∧ ∃ k, ii = nI k ∧ (if f17 j = 3 then [] else j_wf (fun th c9 bl => j_try (j_ss z18 (j_kbo (f17 j)) (j_src z18 th (j_nv f6 f7 f8 f10 f11 f12 f13 ck 0 100000) c9) (f17 j) (f15 j) (f16 j)) (j_tx (j_kbo (f17 j)) th f4 ln c9) bl) (99 + nn))[k]? = some r2) ∨ (¬ ii = -1 ∧ wq0 = 1 ∧ r2 = 0 ∧ (∀ k, k < (if f17 j = 3 then [] else j_wf (fun th c9 bl => j_try (j_ss z18 (j_kbo (f17 j)) (j_src z18 th (j_nv f6 f7 f8 f10 f11 f12 f13 ck 0 100000) c9) (f17 j) (f15 j) (f16 j)) (j_tx (j_kbo (f17 j)) th f4 ln c9) bl) (99 + nn)).length → ¬ ii = nI k))))) : wq0 = r1 ∧ (r1 = 0 → ov1 0 = r2.toInt64) ∧ lawR κ zw kp fp S pn nn sn z18 f1 f4 f5 f6 f7 f8 f9 f10 f11 f12 f13 f15 f16 f17 ln ck := by
  have hR0 := hR
  have hwl := fun (j : Nat) (q : spD) (h : S.2.2.2[j]? = some q) => hR.wl h
  have h24 := hR.sn60
  obtain ⟨h0, hN, hS⟩ := hR
  have hl := hS.1
  subst hl
  have h24q := fun (q : spD) => wl_24 (zw := zw) (q := q) h0.1
  rcases P1 with ⟨a, rfl⟩ | ⟨j, q, rfl, hj, hc⟩
  · rcases P2 with ⟨-, rfl, rfl⟩ | ⟨a', -⟩
    · exact ⟨rfl, fun h => absurd h (by decide), hR0⟩
    · rw [a] at a'; cases a'
  · have hjl := (List.getElem?_eq_some_iff.mp hj).1
    rcases P2 with ⟨a', -⟩ | ⟨-, j', hj', e, hd⟩
    · exact absurd rfl (ix_f a' (by omega) j hjl)
    · have e := nI_ij (by omega) (by omega) e
      subst e
      rw [hwl j q hj] at hd
      have hq := h24q q
      rcases hc with ⟨a, rfl, v, hv, rfl⟩ | ⟨a, rfl, v, hv, k9, rfl, hk⟩ | ⟨a, b, rfl⟩ <;> rcases hd with ⟨a', rfl, rfl⟩ | ⟨a', rfl, k, e, hk'⟩ | ⟨a', rfl, rfl, b'⟩
      · exact ⟨rfl, fun _ => hv, hR0⟩
      · exact absurd a a'
      · exact absurd a a'
      · exact absurd a' a
      · have hk1 := (List.getElem?_eq_some_iff.mp hk).1
        have hk2 := (List.getElem?_eq_some_iff.mp hk').1
        have e := nI_ij (by omega) (by omega) e
        subst e
        cases hk.symm.trans hk'
        exact ⟨rfl, fun _ => hv, hR0⟩
      · exact absurd rfl (b' k9 (List.getElem?_eq_some_iff.mp hk).1)
      · exact absurd a' a
      · exact absurd e (b k (List.getElem?_eq_some_iff.mp hk').1)
      · exact ⟨rfl, fun h => absurd h (by decide), hR0⟩