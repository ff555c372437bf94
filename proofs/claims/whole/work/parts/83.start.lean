/-! what lies there at the law's start -/
def rfOf (o : Option Value) : Nat := match o with
  | some (.ref a) => a
  | _ => 0
theorem rf_ev {o : Option Value} {a : Nat} (h : o = some (.ref a)) : o = some (.ref (rfOf o)) := by rw [h]; rfl
abbrev tS0 (k : Nat) : Term := Term.string "TimeWords" k
abbrev tV0 (k : Nat) : Term := Term.field (tS0 k) "java/lang/String" "value" "[B"
abbrev tE0 : Term := Term.static "java/util/ArrayList" "DEFAULTCAPACITY_EMPTY_ELEMENTDATA" "[Ljava/lang/Object;"
abbrev tM0 : Term := Term.static "TimeWords" "MONTH_DAYS" "[I"
abbrev gv (b : Nat) (s : State) : Prop := (Jvm.Cond.and given_1 narrow_1).before #[Value.ref b] s = true
def kap (b : Nat) (s : State) (mi : Nat) : gS := (fun k => rfOf ((tS0 k).eval #[Value.ref b] s none [] s), fun i => rfOf ((tV0 (282 + 2 * i)).eval #[Value.ref b] s none [] s), rfOf (tE0.eval #[Value.ref b] s none [] s), rfOf (tM0.eval #[Value.ref b] s none [] s), mi)
abbrev A0 (s : State) : Nat → Prop := fun q => s.heap.size ≤ q
theorem A0_no {s : State} : ∀ a : Nat, a < s.heap.size → ¬ A0 s a := fun _ h => Nat.not_le.mpr h
theorem ex_ev {b : Nat} {s : State} {t : Term} {nm : String} (h : (Cond.exactly t nm).before #[Value.ref b] s = true) : t.eval #[Value.ref b] s none [] s = some (.ref (rfOf (t.eval #[Value.ref b] s none [] s))) := by
  obtain ⟨a, c, cA, kA, q1, -⟩ := Cond.exactly_spec (args := #[Value.ref b]) (first := s) (o := none) (s := s) (idx := []) (t := t) (cls := nm) h
  exact rf_ev q1
set_option maxHeartbeats 1000000 in
theorem st_0 {b : Nat} {s : State} (h : gv b s) (mi : Nat) : va_O "java/lang/String" ((kap b s mi).1 (282 + 2 * 0)) (A0 s) s s.heap ∧ va_OF "java/lang/String" "coder" "B" (.int 0) ((kap b s mi).1 (282 + 2 * 0)) (A0 s) s s.heap ∧ va_OF "java/lang/String" "value" "[B" (.ref ((kap b s mi).2.1 0)) ((kap b s mi).1 (282 + 2 * 0)) (A0 s) s s.heap ∧ va_T .byte ((kap b s mi).2.1 0) (sL.getD 0 0) (fun j => .int ((sB.getD 0 []).getD j 0)) (A0 s) s s.heap := by
  have hs := flat_of_before _ h
  have hex : (Cond.exactly (tS0 282) "java/lang/String").before #[Value.ref b] s = true := hs _ (by decide +kernel)
  have ht := ex_ev hex
  have hco : (Cond.eq (.field (tS0 282) "java/lang/String" "coder" "B") (.int 0)).before #[Value.ref b] s = true := hs _ (by decide +kernel)
  have har : (Cond.arrayOf (tV0 282) .byte).before #[Value.ref b] s = true := hs _ (by decide +kernel)
  have hle : (Cond.eq (.length (tV0 282)) (.int 6)).before #[Value.ref b] s = true := hs _ (by decide +kernel)
  have e0 : (Cond.eq (.elem (tV0 282) (.int 0)) (.int 101)).before #[Value.ref b] s = true := hs _ (by decide +kernel)
  have e1 : (Cond.eq (.elem (tV0 282) (.int 1)) (.int 97)).before #[Value.ref b] s = true := hs _ (by decide +kernel)
  have e2 : (Cond.eq (.elem (tV0 282) (.int 2)) (.int 114)).before #[Value.ref b] s = true := hs _ (by decide +kernel)
  have e3 : (Cond.eq (.elem (tV0 282) (.int 3)) (.int 108)).before #[Value.ref b] s = true := hs _ (by decide +kernel)
  have e4 : (Cond.eq (.elem (tV0 282) (.int 4)) (.int 121)).before #[Value.ref b] s = true := hs _ (by decide +kernel)
  have e5 : (Cond.eq (.elem (tV0 282) (.int 5)) (.int 32)).before #[Value.ref b] s = true := hs _ (by decide +kernel)
  obtain ⟨t, q1, q2⟩ := va_Tof (args := #[Value.ref b]) (tm := tV0 282) (ty := .byte) (N := 6) (f := fun j => .int ((sB.getD 0 []).getD j 0)) (A := A0 s) (by decide) har (va_eqt hle) (fun j hj => by
      rcases (show j = 0 ∨ j = 1 ∨ j = 2 ∨ j = 3 ∨ j = 4 ∨ j = 5 by omega) with rfl | rfl | rfl | rfl | rfl | rfl
      · exact va_eqt e0
      · exact va_eqt e1
      · exact va_eqt e2
      · exact va_eqt e3
      · exact va_eqt e4
      · exact va_eqt e5) A0_no
  have q3 : (kap b s mi).2.1 0 = t := by show rfOf ((tV0 282).eval #[Value.ref b] s none [] s) = t; rw [q1]; rfl
  exact ⟨va_Oof hex ht A0_no, vk_OFof ht (va_eqt hco) A0_no, by rw [q3]; exact vk_OFof ht q1 A0_no, by rw [q3]; exact q2⟩
set_option maxHeartbeats 1000000 in
theorem st_1 {b : Nat} {s : State} (h : gv b s) (mi : Nat) : va_O "java/lang/String" ((kap b s mi).1 (282 + 2 * 1)) (A0 s) s s.heap ∧ va_OF "java/lang/String" "coder" "B" (.int 0) ((kap b s mi).1 (282 + 2 * 1)) (A0 s) s s.heap ∧ va_OF "java/lang/String" "value" "[B" (.ref ((kap b s mi).2.1 1)) ((kap b s mi).1 (282 + 2 * 1)) (A0 s) s s.heap ∧ va_T .byte ((kap b s mi).2.1 1) (sL.getD 1 0) (fun j => .int ((sB.getD 1 []).getD j 0)) (A0 s) s s.heap := by
  have hs := flat_of_before _ h
  have hex : (Cond.exactly (tS0 284) "java/lang/String").before #[Value.ref b] s = true := hs _ (by decide +kernel)
  have ht := ex_ev hex
  have hco : (Cond.eq (.field (tS0 284) "java/lang/String" "coder" "B") (.int 0)).before #[Value.ref b] s = true := hs _ (by decide +kernel)
  have har : (Cond.arrayOf (tV0 284) .byte).before #[Value.ref b] s = true := hs _ (by decide +kernel)
  have hle : (Cond.eq (.length (tV0 284)) (.int 4)).before #[Value.ref b] s = true := hs _ (by decide +kernel)
  have e0 : (Cond.eq (.elem (tV0 284) (.int 0)) (.int 109)).before #[Value.ref b] s = true := hs _ (by decide +kernel)
  have e1 : (Cond.eq (.elem (tV0 284) (.int 1)) (.int 105)).before #[Value.ref b] s = true := hs _ (by decide +kernel)
  have e2 : (Cond.eq (.elem (tV0 284) (.int 2)) (.int 100)).before #[Value.ref b] s = true := hs _ (by decide +kernel)
  have e3 : (Cond.eq (.elem (tV0 284) (.int 3)) (.int 32)).before #[Value.ref b] s = true := hs _ (by decide +kernel)
  obtain ⟨t, q1, q2⟩ := va_Tof (args := #[Value.ref b]) (tm := tV0 284) (ty := .byte) (N := 4) (f := fun j => .int ((sB.getD 1 []).getD j 0)) (A := A0 s) (by decide) har (va_eqt hle) (fun j hj => by
      rcases (show j = 0 ∨ j = 1 ∨ j = 2 ∨ j = 3 by omega) with rfl | rfl | rfl | rfl
      · exact va_eqt e0
      · exact va_eqt e1
      · exact va_eqt e2
      · exact va_eqt e3) A0_no
  have q3 : (kap b s mi).2.1 1 = t := by show rfOf ((tV0 284).eval #[Value.ref b] s none [] s) = t; rw [q1]; rfl
  exact ⟨va_Oof hex ht A0_no, vk_OFof ht (va_eqt hco) A0_no, by rw [q3]; exact vk_OFof ht q1 A0_no, by rw [q3]; exact q2⟩
set_option maxHeartbeats 1000000 in
theorem st_2 {b : Nat} {s : State} (h : gv b s) (mi : Nat) : va_O "java/lang/String" ((kap b s mi).1 (282 + 2 * 2)) (A0 s) s s.heap ∧ va_OF "java/lang/String" "coder" "B" (.int 0) ((kap b s mi).1 (282 + 2 * 2)) (A0 s) s s.heap ∧ va_OF "java/lang/String" "value" "[B" (.ref ((kap b s mi).2.1 2)) ((kap b s mi).1 (282 + 2 * 2)) (A0 s) s s.heap ∧ va_T .byte ((kap b s mi).2.1 2) (sL.getD 2 0) (fun j => .int ((sB.getD 2 []).getD j 0)) (A0 s) s s.heap := by
  have hs := flat_of_before _ h
  have hex : (Cond.exactly (tS0 286) "java/lang/String").before #[Value.ref b] s = true := hs _ (by decide +kernel)
  have ht := ex_ev hex
  have hco : (Cond.eq (.field (tS0 286) "java/lang/String" "coder" "B") (.int 0)).before #[Value.ref b] s = true := hs _ (by decide +kernel)
  have har : (Cond.arrayOf (tV0 286) .byte).before #[Value.ref b] s = true := hs _ (by decide +kernel)
  have hle : (Cond.eq (.length (tV0 286)) (.int 5)).before #[Value.ref b] s = true := hs _ (by decide +kernel)
  have e0 : (Cond.eq (.elem (tV0 286) (.int 0)) (.int 108)).before #[Value.ref b] s = true := hs _ (by decide +kernel)
  have e1 : (Cond.eq (.elem (tV0 286) (.int 1)) (.int 97)).before #[Value.ref b] s = true := hs _ (by decide +kernel)
  have e2 : (Cond.eq (.elem (tV0 286) (.int 2)) (.int 116)).before #[Value.ref b] s = true := hs _ (by decide +kernel)
  have e3 : (Cond.eq (.elem (tV0 286) (.int 3)) (.int 101)).before #[Value.ref b] s = true := hs _ (by decide +kernel)
  have e4 : (Cond.eq (.elem (tV0 286) (.int 4)) (.int 32)).before #[Value.ref b] s = true := hs _ (by decide +kernel)
  obtain ⟨t, q1, q2⟩ := va_Tof (args := #[Value.ref b]) (tm := tV0 286) (ty := .byte) (N := 5) (f := fun j => .int ((sB.getD 2 []).getD j 0)) (A := A0 s) (by decide) har (va_eqt hle) (fun j hj => by
      rcases (show j = 0 ∨ j = 1 ∨ j = 2 ∨ j = 3 ∨ j = 4 by omega) with rfl | rfl | rfl | rfl | rfl
      · exact va_eqt e0
      · exact va_eqt e1
      · exact va_eqt e2
      · exact va_eqt e3
      · exact va_eqt e4) A0_no
  have q3 : (kap b s mi).2.1 2 = t := by show rfOf ((tV0 286).eval #[Value.ref b] s none [] s) = t; rw [q1]; rfl
  exact ⟨va_Oof hex ht A0_no, vk_OFof ht (va_eqt hco) A0_no, by rw [q3]; exact vk_OFof ht q1 A0_no, by rw [q3]; exact q2⟩
set_option maxHeartbeats 1000000 in
theorem st_3 {b : Nat} {s : State} (h : gv b s) (mi : Nat) : va_O "java/lang/String" ((kap b s mi).1 (282 + 2 * 3)) (A0 s) s s.heap ∧ va_OF "java/lang/String" "coder" "B" (.int 0) ((kap b s mi).1 (282 + 2 * 3)) (A0 s) s s.heap ∧ va_OF "java/lang/String" "value" "[B" (.ref ((kap b s mi).2.1 3)) ((kap b s mi).1 (282 + 2 * 3)) (A0 s) s s.heap ∧ va_T .byte ((kap b s mi).2.1 3) (sL.getD 3 0) (fun j => .int ((sB.getD 3 []).getD j 0)) (A0 s) s s.heap := by
  have hs := flat_of_before _ h
  have hex : (Cond.exactly (tS0 288) "java/lang/String").before #[Value.ref b] s = true := hs _ (by decide +kernel)
  have ht := ex_ev hex
  have hco : (Cond.eq (.field (tS0 288) "java/lang/String" "coder" "B") (.int 0)).before #[Value.ref b] s = true := hs _ (by decide +kernel)
  have har : (Cond.arrayOf (tV0 288) .byte).before #[Value.ref b] s = true := hs _ (by decide +kernel)
  have hle : (Cond.eq (.length (tV0 288)) (.int 6)).before #[Value.ref b] s = true := hs _ (by decide +kernel)
  have e0 : (Cond.eq (.elem (tV0 288) (.int 0)) (.int 97)).before #[Value.ref b] s = true := hs _ (by decide +kernel)
  have e1 : (Cond.eq (.elem (tV0 288) (.int 1)) (.int 98)).before #[Value.ref b] s = true := hs _ (by decide +kernel)
  have e2 : (Cond.eq (.elem (tV0 288) (.int 2)) (.int 111)).before #[Value.ref b] s = true := hs _ (by decide +kernel)
  have e3 : (Cond.eq (.elem (tV0 288) (.int 3)) (.int 117)).before #[Value.ref b] s = true := hs _ (by decide +kernel)
  have e4 : (Cond.eq (.elem (tV0 288) (.int 4)) (.int 116)).before #[Value.ref b] s = true := hs _ (by decide +kernel)
  have e5 : (Cond.eq (.elem (tV0 288) (.int 5)) (.int 32)).before #[Value.ref b] s = true := hs _ (by decide +kernel)
  obtain ⟨t, q1, q2⟩ := va_Tof (args := #[Value.ref b]) (tm := tV0 288) (ty := .byte) (N := 6) (f := fun j => .int ((sB.getD 3 []).getD j 0)) (A := A0 s) (by decide) har (va_eqt hle) (fun j hj => by
      rcases (show j = 0 ∨ j = 1 ∨ j = 2 ∨ j = 3 ∨ j = 4 ∨ j = 5 by omega) with rfl | rfl | rfl | rfl | rfl | rfl
      · exact va_eqt e0
      · exact va_eqt e1
      · exact va_eqt e2
      · exact va_eqt e3
      · exact va_eqt e4
      · exact va_eqt e5) A0_no
  have q3 : (kap b s mi).2.1 3 = t := by show rfOf ((tV0 288).eval #[Value.ref b] s none [] s) = t; rw [q1]; rfl
  exact ⟨va_Oof hex ht A0_no, vk_OFof ht (va_eqt hco) A0_no, by rw [q3]; exact vk_OFof ht q1 A0_no, by rw [q3]; exact q2⟩
set_option maxHeartbeats 1000000 in
theorem st_4 {b : Nat} {s : State} (h : gv b s) (mi : Nat) : va_O "java/lang/String" ((kap b s mi).1 (282 + 2 * 4)) (A0 s) s s.heap ∧ va_OF "java/lang/String" "coder" "B" (.int 0) ((kap b s mi).1 (282 + 2 * 4)) (A0 s) s s.heap ∧ va_OF "java/lang/String" "value" "[B" (.ref ((kap b s mi).2.1 4)) ((kap b s mi).1 (282 + 2 * 4)) (A0 s) s s.heap ∧ va_T .byte ((kap b s mi).2.1 4) (sL.getD 4 0) (fun j => .int ((sB.getD 4 []).getD j 0)) (A0 s) s s.heap := by
  have hs := flat_of_before _ h
  have hex : (Cond.exactly (tS0 290) "java/lang/String").before #[Value.ref b] s = true := hs _ (by decide +kernel)
  have ht := ex_ev hex
  have hco : (Cond.eq (.field (tS0 290) "java/lang/String" "coder" "B") (.int 0)).before #[Value.ref b] s = true := hs _ (by decide +kernel)
  have har : (Cond.arrayOf (tV0 290) .byte).before #[Value.ref b] s = true := hs _ (by decide +kernel)
  have hle : (Cond.eq (.length (tV0 290)) (.int 7)).before #[Value.ref b] s = true := hs _ (by decide +kernel)
  have e0 : (Cond.eq (.elem (tV0 290) (.int 0)) (.int 98)).before #[Value.ref b] s = true := hs _ (by decide +kernel)
  have e1 : (Cond.eq (.elem (tV0 290) (.int 1)) (.int 101)).before #[Value.ref b] s = true := hs _ (by decide +kernel)
  have e2 : (Cond.eq (.elem (tV0 290) (.int 2)) (.int 102)).before #[Value.ref b] s = true := hs _ (by decide +kernel)
  have e3 : (Cond.eq (.elem (tV0 290) (.int 3)) (.int 111)).before #[Value.ref b] s = true := hs _ (by decide +kernel)
  have e4 : (Cond.eq (.elem (tV0 290) (.int 4)) (.int 114)).before #[Value.ref b] s = true := hs _ (by decide +kernel)
  have e5 : (Cond.eq (.elem (tV0 290) (.int 5)) (.int 101)).before #[Value.ref b] s = true := hs _ (by decide +kernel)
  have e6 : (Cond.eq (.elem (tV0 290) (.int 6)) (.int 32)).before #[Value.ref b] s = true := hs _ (by decide +kernel)
  obtain ⟨t, q1, q2⟩ := va_Tof (args := #[Value.ref b]) (tm := tV0 290) (ty := .byte) (N := 7) (f := fun j => .int ((sB.getD 4 []).getD j 0)) (A := A0 s) (by decide) har (va_eqt hle) (fun j hj => by
      rcases (show j = 0 ∨ j = 1 ∨ j = 2 ∨ j = 3 ∨ j = 4 ∨ j = 5 ∨ j = 6 by omega) with rfl | rfl | rfl | rfl | rfl | rfl | rfl
      · exact va_eqt e0
      · exact va_eqt e1
      · exact va_eqt e2
      · exact va_eqt e3
      · exact va_eqt e4
      · exact va_eqt e5
      · exact va_eqt e6) A0_no
  have q3 : (kap b s mi).2.1 4 = t := by show rfOf ((tV0 290).eval #[Value.ref b] s none [] s) = t; rw [q1]; rfl
  exact ⟨va_Oof hex ht A0_no, vk_OFof ht (va_eqt hco) A0_no, by rw [q3]; exact vk_OFof ht q1 A0_no, by rw [q3]; exact q2⟩
set_option maxHeartbeats 1000000 in
theorem st_5 {b : Nat} {s : State} (h : gv b s) (mi : Nat) : va_O "java/lang/String" ((kap b s mi).1 (282 + 2 * 5)) (A0 s) s s.heap ∧ va_OF "java/lang/String" "coder" "B" (.int 0) ((kap b s mi).1 (282 + 2 * 5)) (A0 s) s s.heap ∧ va_OF "java/lang/String" "value" "[B" (.ref ((kap b s mi).2.1 5)) ((kap b s mi).1 (282 + 2 * 5)) (A0 s) s s.heap ∧ va_T .byte ((kap b s mi).2.1 5) (sL.getD 5 0) (fun j => .int ((sB.getD 5 []).getD j 0)) (A0 s) s s.heap := by
  have hs := flat_of_before _ h
  have hex : (Cond.exactly (tS0 292) "java/lang/String").before #[Value.ref b] s = true := hs _ (by decide +kernel)
  have ht := ex_ev hex
  have hco : (Cond.eq (.field (tS0 292) "java/lang/String" "coder" "B") (.int 0)).before #[Value.ref b] s = true := hs _ (by decide +kernel)
  have har : (Cond.arrayOf (tV0 292) .byte).before #[Value.ref b] s = true := hs _ (by decide +kernel)
  have hle : (Cond.eq (.length (tV0 292)) (.int 6)).before #[Value.ref b] s = true := hs _ (by decide +kernel)
  have e0 : (Cond.eq (.elem (tV0 292) (.int 0)) (.int 97)).before #[Value.ref b] s = true := hs _ (by decide +kernel)
  have e1 : (Cond.eq (.elem (tV0 292) (.int 1)) (.int 102)).before #[Value.ref b] s = true := hs _ (by decide +kernel)
  have e2 : (Cond.eq (.elem (tV0 292) (.int 2)) (.int 116)).before #[Value.ref b] s = true := hs _ (by decide +kernel)
  have e3 : (Cond.eq (.elem (tV0 292) (.int 3)) (.int 101)).before #[Value.ref b] s = true := hs _ (by decide +kernel)
  have e4 : (Cond.eq (.elem (tV0 292) (.int 4)) (.int 114)).before #[Value.ref b] s = true := hs _ (by decide +kernel)
  have e5 : (Cond.eq (.elem (tV0 292) (.int 5)) (.int 32)).before #[Value.ref b] s = true := hs _ (by decide +kernel)
  obtain ⟨t, q1, q2⟩ := va_Tof (args := #[Value.ref b]) (tm := tV0 292) (ty := .byte) (N := 6) (f := fun j => .int ((sB.getD 5 []).getD j 0)) (A := A0 s) (by decide) har (va_eqt hle) (fun j hj => by
      rcases (show j = 0 ∨ j = 1 ∨ j = 2 ∨ j = 3 ∨ j = 4 ∨ j = 5 by omega) with rfl | rfl | rfl | rfl | rfl | rfl
      · exact va_eqt e0
      · exact va_eqt e1
      · exact va_eqt e2
      · exact va_eqt e3
      · exact va_eqt e4
      · exact va_eqt e5) A0_no
  have q3 : (kap b s mi).2.1 5 = t := by show rfOf ((tV0 292).eval #[Value.ref b] s none [] s) = t; rw [q1]; rfl
  exact ⟨va_Oof hex ht A0_no, vk_OFof ht (va_eqt hco) A0_no, by rw [q3]; exact vk_OFof ht q1 A0_no, by rw [q3]; exact q2⟩
set_option maxHeartbeats 1000000 in
theorem st_6 {b : Nat} {s : State} (h : gv b s) (mi : Nat) : va_O "java/lang/String" ((kap b s mi).1 (282 + 2 * 6)) (A0 s) s s.heap ∧ va_OF "java/lang/String" "coder" "B" (.int 0) ((kap b s mi).1 (282 + 2 * 6)) (A0 s) s s.heap ∧ va_OF "java/lang/String" "value" "[B" (.ref ((kap b s mi).2.1 6)) ((kap b s mi).1 (282 + 2 * 6)) (A0 s) s s.heap ∧ va_T .byte ((kap b s mi).2.1 6) (sL.getD 6 0) (fun j => .int ((sB.getD 6 []).getD j 0)) (A0 s) s s.heap := by
  have hs := flat_of_before _ h
  have hex : (Cond.exactly (tS0 294) "java/lang/String").before #[Value.ref b] s = true := hs _ (by decide +kernel)
  have ht := ex_ev hex
  have hco : (Cond.eq (.field (tS0 294) "java/lang/String" "coder" "B") (.int 0)).before #[Value.ref b] s = true := hs _ (by decide +kernel)
  have har : (Cond.arrayOf (tV0 294) .byte).before #[Value.ref b] s = true := hs _ (by decide +kernel)
  have hle : (Cond.eq (.length (tV0 294)) (.int 0)).before #[Value.ref b] s = true := hs _ (by decide +kernel)
  obtain ⟨t, q1, q2⟩ := va_Tof (args := #[Value.ref b]) (tm := tV0 294) (ty := .byte) (N := 0) (f := fun j => .int ((sB.getD 6 []).getD j 0)) (A := A0 s) (by decide) har (va_eqt hle) (fun j hj => absurd hj (Nat.not_lt_zero _)) A0_no
  have q3 : (kap b s mi).2.1 6 = t := by show rfOf ((tV0 294).eval #[Value.ref b] s none [] s) = t; rw [q1]; rfl
  exact ⟨va_Oof hex ht A0_no, vk_OFof ht (va_eqt hco) A0_no, by rw [q3]; exact vk_OFof ht q1 A0_no, by rw [q3]; exact q2⟩
theorem st_E {b : Nat} {s : State} (h : gv b s) (mi : Nat) : tE0.eval #[Value.ref b] s none [] s = some (.ref (kap b s mi).2.2.1) ∧ va_T (.object "java/lang/Object") (kap b s mi).2.2.1 0 (fun _ => .null) (A0 s) s s.heap := by
  have hs := flat_of_before _ h
  have har : (Cond.arrayOf tE0 (.object "java/lang/Object")).before #[Value.ref b] s = true := hs _ (by decide +kernel)
  have hle : (Cond.eq (.length tE0) (.int 0)).before #[Value.ref b] s = true := hs _ (by decide +kernel)
  obtain ⟨t, q1, q2⟩ := va_Tof (args := #[Value.ref b]) (tm := tE0) (ty := .object "java/lang/Object") (N := 0) (f := fun _ => .null) (A := A0 s) (by decide) har (va_eqt hle) (fun j hj => absurd hj (Nat.not_lt_zero _)) A0_no
  have q3 : (kap b s mi).2.2.1 = t := by show rfOf (tE0.eval #[Value.ref b] s none [] s) = t; rw [q1]; rfl
  rw [q3]
  exact ⟨q1, q2⟩
set_option maxHeartbeats 1000000 in
theorem st_M {b : Nat} {s : State} (h : gv b s) (mi : Nat) : tM0.eval #[Value.ref b] s none [] s = some (.ref (kap b s mi).2.2.2.1) ∧ va_T .int (kap b s mi).2.2.2.1 12 (fun j => .int (dM.getD j 0)) (A0 s) s s.heap := by
  have hs := flat_of_before _ h
  have har : (Cond.arrayOf tM0 .int).before #[Value.ref b] s = true := hs _ (by decide +kernel)
  have hle : (Cond.eq (.length tM0) (.int 12)).before #[Value.ref b] s = true := hs _ (by decide +kernel)
  have e0 : (Cond.eq (.elem tM0 (.int 0)) (.int 31)).before #[Value.ref b] s = true := hs _ (by decide +kernel)
  have e1 : (Cond.eq (.elem tM0 (.int 1)) (.int 28)).before #[Value.ref b] s = true := hs _ (by decide +kernel)
  have e2 : (Cond.eq (.elem tM0 (.int 2)) (.int 31)).before #[Value.ref b] s = true := hs _ (by decide +kernel)
  have e3 : (Cond.eq (.elem tM0 (.int 3)) (.int 30)).before #[Value.ref b] s = true := hs _ (by decide +kernel)
  have e4 : (Cond.eq (.elem tM0 (.int 4)) (.int 31)).before #[Value.ref b] s = true := hs _ (by decide +kernel)
  have e5 : (Cond.eq (.elem tM0 (.int 5)) (.int 30)).before #[Value.ref b] s = true := hs _ (by decide +kernel)
  have e6 : (Cond.eq (.elem tM0 (.int 6)) (.int 31)).before #[Value.ref b] s = true := hs _ (by decide +kernel)
  have e7 : (Cond.eq (.elem tM0 (.int 7)) (.int 31)).before #[Value.ref b] s = true := hs _ (by decide +kernel)
  have e8 : (Cond.eq (.elem tM0 (.int 8)) (.int 30)).before #[Value.ref b] s = true := hs _ (by decide +kernel)
  have e9 : (Cond.eq (.elem tM0 (.int 9)) (.int 31)).before #[Value.ref b] s = true := hs _ (by decide +kernel)
  have e10 : (Cond.eq (.elem tM0 (.int 10)) (.int 30)).before #[Value.ref b] s = true := hs _ (by decide +kernel)
  have e11 : (Cond.eq (.elem tM0 (.int 11)) (.int 31)).before #[Value.ref b] s = true := hs _ (by decide +kernel)
  obtain ⟨t, q1, q2⟩ := va_Tof (args := #[Value.ref b]) (tm := tM0) (ty := .int) (N := 12) (f := fun j => .int (dM.getD j 0)) (A := A0 s) (by decide) har (va_eqt hle) (fun j hj => by
      rcases (show j = 0 ∨ j = 1 ∨ j = 2 ∨ j = 3 ∨ j = 4 ∨ j = 5 ∨ j = 6 ∨ j = 7 ∨ j = 8 ∨ j = 9 ∨ j = 10 ∨ j = 11 by omega) with rfl | rfl | rfl | rfl | rfl | rfl | rfl | rfl | rfl | rfl | rfl | rfl
      · exact va_eqt e0
      · exact va_eqt e1
      · exact va_eqt e2
      · exact va_eqt e3
      · exact va_eqt e4
      · exact va_eqt e5
      · exact va_eqt e6
      · exact va_eqt e7
      · exact va_eqt e8
      · exact va_eqt e9
      · exact va_eqt e10
      · exact va_eqt e11) A0_no
  have q3 : (kap b s mi).2.2.2.1 = t := by show rfOf (tM0.eval #[Value.ref b] s none [] s) = t; rw [q1]; rfl
  rw [q3]
  exact ⟨q1, q2⟩
set_option maxHeartbeats 4000000 in
theorem sW_start {b : Nat} {s : State} (h : gv b s) (hts : ∀ w ∈ lw_tbl, w.before #[Value.ref b] s = true) (mi : Nat) : sW (kap b s mi) s := by
  have hs := flat_of_before _ h
  refine ⟨fun w hw => ?_, fun q hq => ?_⟩
  · simp only [sC, List.mem_cons, List.not_mem_nil, or_false] at hw
    rcases hw with rfl | rfl | rfl | rfl | rfl | rfl | rfl | rfl | rfl | rfl | rfl | rfl | rfl | rfl | rfl | rfl | rfl | rfl | rfl | rfl <;> exact va_Nw.of rfl (hts _ (by decide +kernel))
  · simp only [sR, List.mem_cons, List.not_mem_nil, or_false] at hq
    rcases hq with rfl | rfl | rfl | rfl | rfl | rfl | rfl | rfl | rfl | rfl | rfl | rfl | rfl | rfl | rfl | rfl | rfl | rfl | rfl | rfl | rfl | rfl | rfl | rfl | rfl | rfl | rfl | rfl
    · exact vk_R.of (A := #[Value.ref b]) (hts (Cond.stringRef "TimeWords" 57 "no sign") (by decide +kernel)) (ex_ev (hs (Cond.exactly (tS0 57) "java/lang/String") (by decide +kernel)))
    · exact vk_R.of (A := #[Value.ref b]) (hts (Cond.stringRef "TimeWords" 67 "the pad is full") (by decide +kernel)) (ex_ev (hs (Cond.exactly (tS0 67) "java/lang/String") (by decide +kernel)))
    · exact vk_R.of (A := #[Value.ref b]) (hts (Cond.stringRef "TimeWords" 80 "the pad is no row of 1 to 8 letters") (by decide +kernel)) (ex_ev (hs (Cond.exactly (tS0 80) "java/lang/String") (by decide +kernel)))
    · exact vk_R.of (A := #[Value.ref b]) (hts (Cond.stringRef "TimeWords" 90 "no room for another name") (by decide +kernel)) (ex_ev (hs (Cond.exactly (tS0 90) "java/lang/String") (by decide +kernel)))
    · exact vk_R.of (A := #[Value.ref b]) (hts (Cond.stringRef "TimeWords" 119 "no room for another phase") (by decide +kernel)) (ex_ev (hs (Cond.exactly (tS0 119) "java/lang/String") (by decide +kernel)))
    · exact vk_R.of (A := #[Value.ref b]) (hts (Cond.stringRef "TimeWords" 126 "no width") (by decide +kernel)) (ex_ev (hs (Cond.exactly (tS0 126) "java/lang/String") (by decide +kernel)))
    · exact vk_R.of (A := #[Value.ref b]) (hts (Cond.stringRef "TimeWords" 151 "the span is open there") (by decide +kernel)) (ex_ev (hs (Cond.exactly (tS0 151) "java/lang/String") (by decide +kernel)))
    · exact vk_R.of (A := #[Value.ref b]) (hts (Cond.stringRef "TimeWords" 176 "a span is open") (by decide +kernel)) (ex_ev (hs (Cond.exactly (tS0 176) "java/lang/String") (by decide +kernel)))
    · exact vk_R.of (A := #[Value.ref b]) (hts (Cond.stringRef "TimeWords" 186 "no such sign") (by decide +kernel)) (ex_ev (hs (Cond.exactly (tS0 186) "java/lang/String") (by decide +kernel)))
    · exact vk_R.of (A := #[Value.ref b]) (hts (Cond.stringRef "TimeWords" 209 "no year, month or day of the week") (by decide +kernel)) (ex_ev (hs (Cond.exactly (tS0 209) "java/lang/String") (by decide +kernel)))
    · exact vk_R.of (A := #[Value.ref b]) (hts (Cond.stringRef "TimeWords" 211 "no such one of the month") (by decide +kernel)) (ex_ev (hs (Cond.exactly (tS0 211) "java/lang/String") (by decide +kernel)))
    · exact vk_R.of (A := #[Value.ref b]) (hts (Cond.stringRef "TimeWords" 225 "no year of a reign") (by decide +kernel)) (ex_ev (hs (Cond.exactly (tS0 225) "java/lang/String") (by decide +kernel)))
    · exact vk_R.of (A := #[Value.ref b]) (hts (Cond.stringRef "TimeWords" 229 "no reign, or one that is too short") (by decide +kernel)) (ex_ev (hs (Cond.exactly (tS0 229) "java/lang/String") (by decide +kernel)))
    · exact vk_R.of (A := #[Value.ref b]) (hts (Cond.stringRef "TimeWords" 231 "nothing to count") (by decide +kernel)) (ex_ev (hs (Cond.exactly (tS0 231) "java/lang/String") (by decide +kernel)))
    · exact vk_R.of (A := #[Value.ref b]) (hts (Cond.stringRef "TimeWords" 233 "no such name") (by decide +kernel)) (ex_ev (hs (Cond.exactly (tS0 233) "java/lang/String") (by decide +kernel)))
    · exact vk_R.of (A := #[Value.ref b]) (hts (Cond.stringRef "TimeWords" 235 "no such span") (by decide +kernel)) (ex_ev (hs (Cond.exactly (tS0 235) "java/lang/String") (by decide +kernel)))
    · exact vk_R.of (A := #[Value.ref b]) (hts (Cond.stringRef "TimeWords" 237 "no room for another span") (by decide +kernel)) (ex_ev (hs (Cond.exactly (tS0 237) "java/lang/String") (by decide +kernel)))
    · exact vk_R.of (A := #[Value.ref b]) (hts (Cond.stringRef "TimeWords" 239 "no such place") (by decide +kernel)) (ex_ev (hs (Cond.exactly (tS0 239) "java/lang/String") (by decide +kernel)))
    · exact vk_R.of (A := #[Value.ref b]) (hts (Cond.stringRef "TimeWords" 241 "no such end") (by decide +kernel)) (ex_ev (hs (Cond.exactly (tS0 241) "java/lang/String") (by decide +kernel)))
    · exact vk_R.of (A := #[Value.ref b]) (hts (Cond.stringRef "TimeWords" 243 "no years from one to another") (by decide +kernel)) (ex_ev (hs (Cond.exactly (tS0 243) "java/lang/String") (by decide +kernel)))
    · exact vk_R.of (A := #[Value.ref b]) (hts (Cond.stringRef "TimeWords" 246 "no day") (by decide +kernel)) (ex_ev (hs (Cond.exactly (tS0 246) "java/lang/String") (by decide +kernel)))
    · exact vk_R.of (A := #[Value.ref b]) (hts (Cond.stringRef "TimeWords" 282 "early ") (by decide +kernel)) (ex_ev (hs (Cond.exactly (tS0 282) "java/lang/String") (by decide +kernel)))
    · exact vk_R.of (A := #[Value.ref b]) (hts (Cond.stringRef "TimeWords" 284 "mid ") (by decide +kernel)) (ex_ev (hs (Cond.exactly (tS0 284) "java/lang/String") (by decide +kernel)))
    · exact vk_R.of (A := #[Value.ref b]) (hts (Cond.stringRef "TimeWords" 286 "late ") (by decide +kernel)) (ex_ev (hs (Cond.exactly (tS0 286) "java/lang/String") (by decide +kernel)))
    · exact vk_R.of (A := #[Value.ref b]) (hts (Cond.stringRef "TimeWords" 288 "about ") (by decide +kernel)) (ex_ev (hs (Cond.exactly (tS0 288) "java/lang/String") (by decide +kernel)))
    · exact vk_R.of (A := #[Value.ref b]) (hts (Cond.stringRef "TimeWords" 290 "before ") (by decide +kernel)) (ex_ev (hs (Cond.exactly (tS0 290) "java/lang/String") (by decide +kernel)))
    · exact vk_R.of (A := #[Value.ref b]) (hts (Cond.stringRef "TimeWords" 292 "after ") (by decide +kernel)) (ex_ev (hs (Cond.exactly (tS0 292) "java/lang/String") (by decide +kernel)))
    · exact vk_R.of (A := #[Value.ref b]) (hts (Cond.stringRef "TimeWords" 294 "") (by decide +kernel)) (ex_ev (hs (Cond.exactly (tS0 294) "java/lang/String") (by decide +kernel)))
set_option maxHeartbeats 4000000 in
theorem sF_start {b : Nat} {s : State} (h : gv b s) (hts : ∀ w ∈ lw_tbl, w.before #[Value.ref b] s = true) : ∃ κ : gS, sF κ (A0 s) s := by
  have hs := flat_of_before _ h
  obtain ⟨mi, hmi⟩ := va_Mi.of (C := "[Ljava/lang/Object;") (hs (Cond.isRef (.mirror "[Ljava/lang/Object;")) (by decide +kernel))
  have tt := fun (w : Cond) (h : w ∈ lw_tbl) => hts w h
  refine ⟨kap b s mi, fun i hi => ?_, ⟨?_, ?_, (st_E h mi).2, ?_, (st_M h mi).2, ?_, ?_, ?_⟩, ⟨hmi, va_AO.of (hts (.arrayOver (.object "java/lang/Object")) (by decide +kernel)), va_Dc.of (hts (.declares ⟨"java/lang/Object", "getClass", "()Ljava/lang/Class;"⟩) (by decide +kernel)), fun q hq => ?_⟩, sW_start h hts mi⟩
  · rcases (show i = 0 ∨ i = 1 ∨ i = 2 ∨ i = 3 ∨ i = 4 ∨ i = 5 ∨ i = 6 by omega) with rfl | rfl | rfl | rfl | rfl | rfl | rfl
    · exact st_0 h mi
    · exact st_1 h mi
    · exact st_2 h mi
    · exact st_3 h mi
    · exact st_4 h mi
    · exact st_5 h mi
    · exact st_6 h mi
  · exact va_Zof (hts _ (by decide +kernel)) (hts _ (by decide +kernel)) (va_eqi (hs (Cond.eq (.static "java/lang/String" "COMPACT_STRINGS" "Z") (.int 1)) (by decide +kernel))) A0_no
  · exact va_Zof (hts _ (by decide +kernel)) (hts _ (by decide +kernel)) (st_E h mi).1 A0_no
  · exact va_Zof (hts _ (by decide +kernel)) (hts _ (by decide +kernel)) (st_M h mi).1 A0_no
  · exact va_Zqof (hts _ (by decide +kernel)) (hts _ (by decide +kernel)) (hs (Cond.isRef (.static "jdk/internal/util/Preconditions" "SIOOBE_FORMATTER" "Ljava/util/function/BiFunction;")) (by decide +kernel)) A0_no
  · exact vx_Zqof (hts _ (by decide +kernel)) (hts _ (by decide +kernel)) (hs _ (by decide +kernel)) A0_no
  · exact vx_Zqof (hts _ (by decide +kernel)) (hts _ (by decide +kernel)) (hs _ (by decide +kernel)) A0_no
  · simp only [sN, List.mem_cons, List.not_mem_nil, or_false] at hq
    rcases hq with rfl | rfl | rfl | rfl | rfl | rfl
    · exact va_Nc.of (hs (Cond.not (.castable "java/lang/IllegalArgumentException" "java/lang/IllegalStateException")) (by decide +kernel))
    · exact va_Nc.of (hs (Cond.not (.castable "java/lang/IllegalArgumentException" "java/lang/IndexOutOfBoundsException")) (by decide +kernel))
    · exact va_Nc.of (hs (Cond.not (.castable "java/lang/IllegalStateException" "java/lang/IllegalArgumentException")) (by decide +kernel))
    · exact va_Nc.of (hs (Cond.not (.castable "java/lang/IllegalStateException" "java/lang/IndexOutOfBoundsException")) (by decide +kernel))
    · exact va_Nc.of (hs (Cond.not (.castable "java/lang/IndexOutOfBoundsException" "java/lang/IllegalArgumentException")) (by decide +kernel))
    · exact va_Nc.of (hs (Cond.not (.castable "java/lang/IndexOutOfBoundsException" "java/lang/IllegalStateException")) (by decide +kernel))
theorem gK_start {b : Nat} {s : State} (hts : ∀ w ∈ lw_tbl, w.before #[Value.ref b] s = true) : ∃ (D : va_G) (T : gT), gK D T s := by
  have hw : ∀ w ∈ bg_W, w.before #[Value.ref b] s = true := fun w h => hts w (bg_L w h)
  obtain ⟨c0, iS0, hKn0⟩ := u_known (C := "java/util/ArrayList") (T := F_A) (N := 3) (n := 3) hw in_A (hw _ wn_A)
  obtain ⟨c1, iS1, hKn1⟩ := u_known (C := "TimeWords$Row") (T := F_R) (N := 2) (n := 2) hw in_R (hw _ wn_R)
  obtain ⟨c2, iS2, hKn2⟩ := u_known (C := "TimeWords$Years") (T := F_Y) (N := 4) (n := 4) hw in_Y (hw _ wn_Y)
  obtain ⟨c3, iS3, hKn3⟩ := u_known (C := "TimeWords$Phase") (T := F_P) (N := 3) (n := 3) hw in_P (hw _ wn_P)
  obtain ⟨c4, iS4, hKn4⟩ := u_known (C := "TimeWords$Name") (T := F_N) (N := 3) (n := 3) hw in_N (hw _ wn_N)
  obtain ⟨c5, iS5, hKn5⟩ := u_known (C := "TimeWords") (T := F_T) (N := 8) (n := 8) hw in_T (hw _ wn_T)
  obtain ⟨c6, iS6, hKn6⟩ := u_known (C := "TimeWordsModel") (T := F_M) (N := 28) (n := 28) hw in_M (hw _ wn_M)
  obtain ⟨i1, k1, p1, a1, a2, a3⟩ := Cond.arrayClass_spec (args := #[Value.ref b]) (first := s) (o := none) (s := s) (idx := []) (hw _ wa_int)
  obtain ⟨i2, k2, p2, b1, b2, b3⟩ := Cond.arrayClass_spec (args := #[Value.ref b]) (first := s) (o := none) (s := s) (idx := []) (hw _ wa_boolean)
  obtain ⟨i3, k3, p3, d1, d2, d3⟩ := Cond.arrayClass_spec (args := #[Value.ref b]) (first := s) (o := none) (s := s) (idx := []) (hw _ wa_long)
  obtain ⟨p4, i4, k4, e1, -, e3, e4, e5⟩ := Cond.arrayOver_spec (args := #[Value.ref b]) (first := s) (o := none) (s := s) (idx := []) (n := "java/lang/Object") (hts (.arrayOver (.object "java/lang/Object")) (by decide +kernel))
  refine ⟨(fun k => if k = 0 then c0 else if k = 1 then c1 else if k = 2 then c2 else if k = 3 then c3 else if k = 4 then c4 else if k = 5 then c5 else c6, fun k => if k = 0 then iS0 else if k = 1 then iS1 else if k = 2 then iS2 else if k = 3 then iS3 else if k = 4 then iS4 else if k = 5 then iS5 else iS6), (i1, i2, i3, i4), ?_, ?_⟩
  · intro k q hq
    match k, hq with
    | 0, hq => cases hq; exact hKn0
    | 1, hq => cases hq; exact hKn1
    | 2, hq => cases hq; exact hKn2
    | 3, hq => cases hq; exact hKn3
    | 4, hq => cases hq; exact hKn4
    | 5, hq => cases hq; exact hKn5
    | 6, hq => cases hq; exact hKn6
    | k + 7, hq => simp [gC] at hq
  · intro k q hq
    match k, hq with
    | 0, hq => cases hq; exact ⟨fun n z => ⟨fun k h => (by cases h), k1, a2, p1, a3⟩, a1⟩
    | 1, hq => cases hq; exact ⟨fun n z => ⟨fun k h => (by cases h), k2, b2, p2, b3⟩, b1⟩
    | 2, hq => cases hq; exact ⟨fun n z => ⟨fun k h => (by cases h), k3, d2, p3, d3⟩, d1⟩
    | 3, hq => cases hq; exact ⟨fun n z => ⟨fun k h => (by cases h), k4, e3, p4, e4⟩, k4, p4, e3, e4, e1, e5⟩
    | k + 4, hq => simp at hq