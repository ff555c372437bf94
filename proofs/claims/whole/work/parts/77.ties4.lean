/-! the tie: read -/
set_option maxHeartbeats 1000000 in
theorem tie_read {κ : gS} {zw : Int32} {kp : Nat} {fp : Nat → Int32} {S : tS} {pn : Nat} {nn : Nat} {sn : Nat} {z18 : Int32} {f1 : Nat → Int32} {f4 : Nat → Int32} {f5 : Nat → Int32} {f6 : Nat → Int32} {f7 : Nat → Int32} {f8 : Nat → Int32} {f9 : Nat → Int32} {f10 : Nat → Int32} {f11 : Nat → Int32} {f12 : Nat → Int32} {f13 : Nat → Int32} {f15 : Nat → Int32} {f16 : Nat → Int32} {f17 : Nat → Int32} {ln : Nat → Nat} {ck : Nat → Nat} {x : Int32} {y : Int32} {co : Nat → Option jS} {ov1 : Nat → Int64} {kp1 : Nat} {S1 : tS} {wq0 : Int32} {w2 : Int32} {w19 : Int32} {w20 : Int32} {w21 : Int32} {g15 : Nat → Int32} {g16 : Nat → Int32} {g17 : Nat → Int32} {w14 : Int32} {r1 r2 : Int32} (hR : lawR κ zw kp fp S pn nn sn z18 f1 f4 f5 f6 f7 f8 f9 f10 f11 f12 f13 f15 f16 f17 ln ck) (hCB : ∀ t u, co t = some u → uB u) (P1 : (j_in x 0 7 = false ∧ r1 = 1 ∧ kp1 = kp ∧ S1 = S) ∨ (j_in x 0 7 = true ∧ j_in y 0 100000 = false ∧ r1 = 2 ∧ kp1 = kp ∧ S1 = S) ∨ (j_in x 0 7 = true ∧ j_in y 0 100000 = true ∧ S.2.2.2.length = 60 ∧ r1 = 3 ∧ kp1 = kp ∧ S1 = S) ∨ (j_in x 0 7 = true ∧ j_in y 0 100000 = true ∧ S.2.2.2.length < 60 ∧ r1 = 0 ∧ ∃ v : Int32, ov1 0 = v.toInt64 ∧ (kp1 = 0 ∧ ((∃ uj, j_wd (j_fb fp kp) co (j_ap zw) 5 0 = some uj ∧ jOk uj ∧ v = nI S.2.2.2.length ∧ spP κ S (j_lo uj.2.2 uj.1) (j_hi uj.2.2 uj.2.1) (j_op uj.2.2 0) (j_op uj.2.2 1) S1) ∨ (j_wd (j_fb fp kp) co (j_ap zw) 5 0 = none ∧ v = -1 ∧ S1 = S))))) (P2 : (j_in x 0 7 = false ∧ r2 = 0 ∧ wq0 = 1 ∧ w2 = nI pn ∧ g15 = f15 ∧ g16 = f16 ∧ g17 = f17 ∧ w14 = nI sn) ∨ (j_in x 0 7 = true ∧ j_in y 0 100000 = false ∧ r2 = 0 ∧ wq0 = 2 ∧ w2 = nI pn ∧ g15 = f15 ∧ g16 = f16 ∧ g17 = f17 ∧ w14 = nI sn) ∨ (j_in x 0 7 = true ∧ j_in y 0 100000 = true ∧ sn = 60 ∧ r2 = 0 ∧ wq0 = 3 ∧ w2 = nI pn ∧ g15 = f15 ∧ g16 = f16 ∧ g17 = f17 ∧ w14 = nI sn) ∨ (j_in x 0 7 = true ∧ j_in y 0 100000 = true ∧ sn < 60 ∧ wq0 = 0 ∧ w2 = 0 ∧ ((j_wd (j_fb f1 pn) co (j_ap z18) 5 0 = some (w19, w20, w21) ∧ r2 = nI sn ∧ g15 = upd f15 sn w19 ∧ g16 = upd f16 sn w20 ∧ g17 = upd f17 sn w21 ∧ w14 = nI (sn + 1)) ∨ (j_wd (j_fb f1 pn) co (j_ap z18) 5 0 = none ∧ r2 = -1 ∧ g15 = f15 ∧ g16 = f16 ∧ g17 = f17 ∧ w14 = nI sn)))) : wq0 = r1 ∧ (r1 = 0 → ov1 0 = r2.toInt64) ∧ ∃ (pn' : Nat) (sn' : Nat), w2 = nI pn' ∧ w14 = nI sn' ∧ lawR κ zw kp1 fp S1 pn' nn sn' z18 f1 f4 f5 f6 f7 f8 f9 f10 f11 f12 f13 g15 g16 g17 ln ck := by
  have h24 := hR.sn60
  obtain ⟨h0, hN, hS⟩ := hR
  have hl := hS.1
  subst hl
  obtain ⟨h1, h2, e1, e2, e3, h5⟩ := h0
  subst e1; subst e2; subst e3
  rcases P1 with ⟨a, rfl, rfl, rfl⟩ | ⟨a, b, rfl, rfl, rfl⟩ | ⟨a, b, d, rfl, rfl, rfl⟩ | ⟨a, b, d, rfl, v, hv, rfl, hc⟩ <;> rcases P2 with ⟨a', rfl, rfl, rfl, rfl, rfl, rfl, rfl⟩ | ⟨a', b', rfl, rfl, rfl, rfl, rfl, rfl, rfl⟩ | ⟨a', b', d', rfl, rfl, rfl, rfl, rfl, rfl, rfl⟩ | ⟨a', b', d', rfl, rfl, hc'⟩
  · exact ⟨rfl, fun h => absurd h (by decide), _, _, rfl, rfl, ⟨h1, h2, rfl, rfl, rfl, h5⟩, hN, hS⟩
  · rw [a] at a'; cases a'
  · rw [a] at a'; cases a'
  · rw [a] at a'; cases a'
  · rw [a] at a'; cases a'
  · exact ⟨rfl, fun h => absurd h (by decide), _, _, rfl, rfl, ⟨h1, h2, rfl, rfl, rfl, h5⟩, hN, hS⟩
  · rw [b] at b'; cases b'
  · rw [b] at b'; cases b'
  · rw [a] at a'; cases a'
  · rw [b] at b'; cases b'
  · exact ⟨rfl, fun h => absurd h (by decide), _, _, rfl, rfl, ⟨h1, h2, rfl, rfl, rfl, h5⟩, hN, hS⟩
  · omega
  · rw [a] at a'; cases a'
  · rw [b] at b'; cases b'
  · omega
  · rcases hc with ⟨uj, w1', -, rfl, hg⟩ | ⟨w1', rfl, rfl⟩ <;> rcases hc' with ⟨w2', rfl, rfl, rfl, rfl, rfl⟩ | ⟨w2', rfl, rfl, rfl, rfl, rfl⟩
    · cases w1'.symm.trans w2'
      obtain ⟨hok, q9, d1, rfl⟩ := hg
      have hU := wd_B2 h5 hCB _ _ _ w1'
      refine ⟨rfl, fun _ => hv, 0, _, rfl, rfl, ⟨hok, Nat.zero_le _, rfl, rfl, rfl, h5⟩, hN, S_add hS rfl ?_⟩
      simp only [spT, up_eq]
      refine ⟨?_, trivial, trivial, trivial, trivial, hU.2⟩
      rcases hU.1 with h | h | h
      · exact Or.inl h
      · exact Or.inr (Or.inl h)
      · exact Or.inr (Or.inr (Or.inl h))
    · rw [w1'] at w2'; cases w2'
    · rw [w1'] at w2'; cases w2'
    · exact ⟨rfl, fun _ => hv, 0, _, rfl, rfl, ⟨h1, Nat.zero_le _, rfl, rfl, rfl, h5⟩, hN, hS⟩