/-- the bits of before, meets, overlaps, and of the other way round -/
def j_bits (x y cv dv : Int32) : Nat → Int32
  | 0 => 0
  | q + 1 => (j_bits x y cv dv q ||| (if j_mb (nI q) x y cv dv = true then 1 <<< (nI q &&& 31) else 0)) ||| (if j_mb (nI q) cv dv x y = true then 64 else 0)
def j_rA (b : Int32) : Int32 := ((b ||| 0) ||| 0) ||| 0
def j_rB (b x y cv dv : Int32) : Int32 := ((b ||| 8) ||| (if dv ≤ cv then 0 else 16)) ||| (if y ≤ x then 0 else 32)
def j_rs (x y cv dv : Int32) : Int32 := if dv < x then j_rA (j_bits x y cv dv 3) else if y < cv then j_rA (j_bits x y cv dv 3) else j_rB (j_bits x y cv dv 3) x y cv dv
set_option maxHeartbeats 4000000 in
set_option maxRecDepth 100000 in
theorem k_M_relations (l : Launch) (D : va_G) (T : gT) (o : Nat) (a : Nat → Nat) (z0 z2 z3 : Int32) (sn : Nat) (z18 z19 z20 z21 z24 z26 : Int32) (f1 f4 f5 f6 f7 f8 f9 f10 f11 f12 f13 f15 f16 f17 f22 f23 f25 f27 : Nat → Int32) (sz : Nat) (na nb : Int32) (hy0 : sn ≤ 60) : Met l y_M_relations (Cond.code y_M_relations b_M_relations 9 (some .int) :: bg_W) ({ frames := 2, cells := 0, slots := 0, locals := 43 }) (qP D T (mX T o a z0 z2 z3 (nI sn) z18 z19 z20 z21 z24 z26 f1 f4 f5 f6 f7 f8 f9 f10 f11 f12 f13 f15 f16 f17 f22 f23 f25 f27) [.ref o, .int na, .int nb] sz) (va_Qi (fun (r : Int32) (w0 : Int32) => ((j_ix na (nI sn) && j_ix nb (nI sn)) = false ∧ r = 0 ∧ w0 = 1) ∨ ((j_ix na (nI sn) && j_ix nb (nI sn)) = true ∧ ∃ i, i < sn ∧ na = nI i ∧ ∃ j, j < sn ∧ nb = nI j ∧ r = j_rs (j_lo (f17 i) (f15 i)) (j_hi (f17 i) (f16 i)) (j_lo (f17 j) (f15 j)) (j_hi (f17 j) (f16 j)) ∧ w0 = 0)) (qB D T (va_A (mX T o a z0 z2 z3 (nI sn) z18 z19 z20 z21 z24 z26 f1 f4 f5 f6 f7 f8 f9 f10 f11 f12 f13 f15 f16 f17 f22 f23 f25 f27) sz) (fun w0 : Int32 => mX T o a w0 z2 z3 (nI sn) z18 z19 z20 z21 z24 z26 f1 f4 f5 f6 f7 f8 f9 f10 f11 f12 f13 f15 f16 f17 f22 f23 f25 f27)) (va_A (mX T o a z0 z2 z3 (nI sn) z18 z19 z20 z21 z24 z26 f1 f4 f5 f6 f7 f8 f9 f10 f11 f12 f13 f15 f16 f17 f22 f23 f25 f27) sz)) 0 0 (va_A (mX T o a z0 z2 z3 (nI sn) z18 z19 z20 z21 z24 z26 f1 f4 f5 f6 f7 f8 f9 f10 f11 f12 f13 f15 f16 f17 f22 f23 f25 f27) sz) := by
  refine Met.ofW (cc := b_M_relations) (maxL := 9) (ret := (some .int)) (by decide) rfl ?_
  intro p e s m args below meth c s₁ B hml hv
  obtain ⟨rfl, hsz, hP, hK, hD0⟩ := hv
  have hx := B.exec
  have hb := B.bytes
  have hr := B.returns
  have hw : ∀ w ∈ bg_W, w.before ([.ref o, .int na, .int nb] : List Value).toArray s = true := fun w h => atoms_spec (ws := (Cond.code y_M_relations b_M_relations 9 (some .int) :: bg_W)) B.pre w (List.mem_cons_of_mem _ h)
  have hown : s.vm.findClass "TimeWordsModel" = some m.cls := findClass_of_methodNamed B.named
  have hlocks := B.notSynchronized
  subst hsz
  have hD := hD0.self (sz := s.heap.size)
  generalize hAe : va_A (mX T o a z0 z2 z3 (nI sn) z18 z19 z20 z21 z24 z26 f1 f4 f5 f6 f7 f8 f9 f10 f11 f12 f13 f15 f16 f17 f22 f23 f25 f27) s.heap.size = A at hD ⊢
  have hA : ∀ q : Nat, s.heap.size ≤ q → A q := fun q h => by rw [← hAe]; exact Or.inr h
  have hS : va_S A s.heap s.heap [] := va_S.rf
  have hl := lv_entry ([.ref o, .int na, .int nb]) (n := 9) (Nat.le_of_ble_eq_true rfl)
  rw [lg_entry_eq]
  generalize (lg_sl ([.ref o, .int na, .int nb]) ++ List.replicate (9 - (lg_sl ([.ref o, .int na, .int nb])).length) Slot.unset).toArray = ls at hl ⊢
  have hl : lv_has ls 9 [(0, .ref o), (1, .int na), (2, .int nb)] := hl
  refine lv_aload_n hx hb d_M_relations_0 rfl (lv_at hl 0 rfl) ?_
  refine lv_iload_n hx hb d_M_relations_1 rfl (lv_at hl 1 rfl) ?_
  refine vp_callSi (va_Run.run (va_runV (As := [.int na]) (rest := []) ⟨hx, hb, hml, hown, hw⟩ (k_M_isSpan l D T o a z0 z2 z3 (nI sn) z18 z19 z20 z21 z24 z26 f1 f4 f5 f6 f7 f8 f9 f10 f11 f12 f13 f15 f16 f17 f22 f23 f25 f27 na) (cwV 1 hw (bg_V ml_M_164 wi_M_isSpan wv_M_isSpan wz_M wc_M_isSpan) rfl rfl rfl (by decide +kernel) ⟨Nat.le_of_ble_eq_true rfl, Nat.le_of_ble_eq_true rfl⟩) ⟨sP_b, va_recv hK hP (ci := 6) (q0 := 0) rfl rfl, sP_p hP hK⟩ rfl rfl hl.1 rfl (lv_room (Nat.le_of_ble_eq_true rfl)) d_M_relations_2 ⟨Nat.le_of_ble_eq_true rfl, Nat.le_of_ble_eq_true rfl⟩)) (fun r1 hr1 => ?_)
  replace hr1 := hr1.symm; subst hr1
  refine lv_if_eq (tgt := 16) hx hb d_M_relations_5 (by decide) (fun c2 => ?_) (fun c2 => ?_)
  · have c2 := b2i_f c2
    refine lv_aload_n hx hb d_M_relations_16 rfl (lv_at hl 0 rfl) ?_
    refine lv_iconst (v := 1) hx hb d_M_relations_17 (by decide) ?_
    refine g_calli (va_runV (As := [.int 1]) (rest := []) ⟨hx, hb, hml, hown, hw⟩ (k_M_fails l D T o a z0 z2 z3 (nI sn) z18 z19 z20 z21 z24 z26 f1 f4 f5 f6 f7 f8 f9 f10 f11 f12 f13 f15 f16 f17 f22 f23 f25 f27 s.heap.size 1) (cwV 1 hw (bg_V ml_M_89 wi_M_fails wv_M_fails wz_M wc_M_fails) rfl rfl rfl (by decide +kernel) ⟨Nat.le_of_ble_eq_true rfl, Nat.le_of_ble_eq_true rfl⟩) ⟨qP_b, va_recv hK hP (ci := 6) (q0 := 0) rfl rfl, qP_p hP hK hD⟩ rfl rfl hl.1 rfl (lv_room (Nat.le_of_ble_eq_true rfl)) d_M_relations_18 ⟨Nat.le_of_ble_eq_true rfl, Nat.le_of_ble_eq_true rfl⟩) hD hS hA (fun r3 u4 H locs hr3 hP hD hS => ?_)
    obtain ⟨q0, q1⟩ := hr3
    replace q0 := q0.symm; subst q0; replace q1 := q1.symm; subst q1
    have hP : va_P D gC (mX T o a 1 z2 z3 (nI sn) z18 z19 z20 z21 z24 z26 f1 f4 f5 f6 f7 f8 f9 f10 f11 f12 f13 f15 f16 f17 f22 f23 f25 f27) H := hP
    have hD : va_D A (mX T o a 1 z2 z3 (nI sn) z18 z19 z20 z21 z24 z26 f1 f4 f5 f6 f7 f8 f9 f10 f11 f12 f13 f15 f16 f17 f22 f23 f25 f27) := hD
    exact W.iret (v := 0) hx hb hr (fun t ht hW => ⟨⟨0, 1, rfl, (Or.inl ⟨by simp [*], rfl, rfl⟩), by rw [ht]; exact hP, va_K.moved hW.alike hK, hD⟩, hS.F ht⟩) hS.2.2 d_M_relations_21
  · have c2 := b2i_t c2
    have hxia := c2
    obtain ⟨ia, hia, rfl⟩ := ix_of c2 (by omega)
    refine lv_aload_n hx hb d_M_relations_8 rfl (lv_at hl 0 rfl) ?_
    refine lv_iload_n hx hb d_M_relations_9 rfl (lv_at hl 2 rfl) ?_
    refine vp_callSi (va_Run.run (va_runV (As := [.int nb]) (rest := []) ⟨hx, hb, hml, hown, hw⟩ (k_M_isSpan l D T o a z0 z2 z3 (nI sn) z18 z19 z20 z21 z24 z26 f1 f4 f5 f6 f7 f8 f9 f10 f11 f12 f13 f15 f16 f17 f22 f23 f25 f27 nb) (cwV 1 hw (bg_V ml_M_164 wi_M_isSpan wv_M_isSpan wz_M wc_M_isSpan) rfl rfl rfl (by decide +kernel) ⟨Nat.le_of_ble_eq_true rfl, Nat.le_of_ble_eq_true rfl⟩) ⟨sP_b, va_recv hK hP (ci := 6) (q0 := 0) rfl rfl, sP_p hP hK⟩ rfl rfl hl.1 rfl (lv_room (Nat.le_of_ble_eq_true rfl)) d_M_relations_10 ⟨Nat.le_of_ble_eq_true rfl, Nat.le_of_ble_eq_true rfl⟩)) (fun r5 hr5 => ?_)
    replace hr5 := hr5.symm; subst hr5
    refine lv_if_ne (tgt := 22) hx hb d_M_relations_13 (by decide) (fun c6 => ?_) (fun c6 => ?_)
    · have c6 := b2i_t c6
      have hxib := c6
      obtain ⟨ib, hib, rfl⟩ := ix_of c6 (by omega)
      refine lv_aload_n hx hb d_M_relations_22 rfl (lv_at hl 0 rfl) ?_
      refine lv_iconst (v := 0) hx hb d_M_relations_23 (by decide) ?_
      refine va_put (D := D) (ci := 6) (v := .int 0) (ty := .int) (C := "TimeWordsModel") (T := F_M) (N := 28) hx hb hw in_M ty_M ty_M_ok n_M hown hK hP hD hS 0 rfl rfl 0 (by decide) (hw _ fl_M_69) (fun _ h9 => h9) rfl (by decide +kernel) rfl rfl (Nat.le_of_ble_eq_true rfl) d_M_relations_24 (fun H locs hP hD hS => ?_)
      have hP : va_P D gC (mX T o a 0 z2 z3 (nI sn) z18 z19 z20 z21 z24 z26 f1 f4 f5 f6 f7 f8 f9 f10 f11 f12 f13 f15 f16 f17 f22 f23 f25 f27) H := hP
      have hD : va_D A (mX T o a 0 z2 z3 (nI sn) z18 z19 z20 z21 z24 z26 f1 f4 f5 f6 f7 f8 f9 f10 f11 f12 f13 f15 f16 f17 f22 f23 f25 f27) := hD
      refine lv_aload_n hx hb d_M_relations_27 rfl (lv_at hl 0 rfl) ?_
      refine lv_iload_n hx hb d_M_relations_28 rfl (lv_at hl 1 rfl) ?_
      refine vp_callSi (va_Run.run (va_runV (As := [.int (nI ia)]) (rest := []) ⟨hx, hb, hml, hown, hw⟩ (k_M_lowest l D T o a 0 z2 z3 (nI sn) z18 z19 z20 z21 z24 z26 f1 f4 f5 f6 f7 f8 f9 f10 f11 f12 f13 f15 f16 f17 f22 f23 f25 f27 ia (by omega)) (cwV 1 hw (bg_V ml_M_170 wi_M_lowest wv_M_lowest wz_M wc_M_lowest) rfl rfl rfl (by decide +kernel) ⟨Nat.le_of_ble_eq_true rfl, Nat.le_of_ble_eq_true rfl⟩) ⟨sP_b, va_recv hK hP (ci := 6) (q0 := 0) rfl rfl, sP_p hP hK⟩ rfl rfl hl.1 rfl (lv_room (Nat.le_of_ble_eq_true rfl)) d_M_relations_29 ⟨Nat.le_of_ble_eq_true rfl, Nat.le_of_ble_eq_true rfl⟩)) (fun r7 hr7 => ?_)
      replace hr7 := hr7.symm; subst hr7
      refine lv_istore_n (lv' := [(3, .int (j_lo (f17 ia) (f15 ia))), (0, .ref o), (1, .int (nI ia)), (2, .int (nI ib))]) hx hb d_M_relations_32 rfl hl (by decide) rfl (fun ls hl => ?_)
      refine lv_aload_n hx hb d_M_relations_33 rfl (lv_at hl 1 rfl) ?_
      refine lv_iload_n hx hb d_M_relations_34 rfl (lv_at hl 2 rfl) ?_
      refine vp_callSi (va_Run.run (va_runV (As := [.int (nI ia)]) (rest := []) ⟨hx, hb, hml, hown, hw⟩ (k_M_highest l D T o a 0 z2 z3 (nI sn) z18 z19 z20 z21 z24 z26 f1 f4 f5 f6 f7 f8 f9 f10 f11 f12 f13 f15 f16 f17 f22 f23 f25 f27 ia (by omega)) (cwV 1 hw (bg_V ml_M_173 wi_M_highest wv_M_highest wz_M wc_M_highest) rfl rfl rfl (by decide +kernel) ⟨Nat.le_of_ble_eq_true rfl, Nat.le_of_ble_eq_true rfl⟩) ⟨sP_b, va_recv hK hP (ci := 6) (q0 := 0) rfl rfl, sP_p hP hK⟩ rfl rfl hl.1 rfl (lv_room (Nat.le_of_ble_eq_true rfl)) d_M_relations_35 ⟨Nat.le_of_ble_eq_true rfl, Nat.le_of_ble_eq_true rfl⟩)) (fun r8 hr8 => ?_)
      replace hr8 := hr8.symm; subst hr8
      refine lv_istore (lv' := [(4, .int (j_hi (f17 ia) (f16 ia))), (3, .int (j_lo (f17 ia) (f15 ia))), (0, .ref o), (1, .int (nI ia)), (2, .int (nI ib))]) hx hb d_M_relations_38 hl (by decide) rfl (fun ls hl => ?_)
      refine lv_aload_n hx hb d_M_relations_40 rfl (lv_at hl 2 rfl) ?_
      refine lv_iload_n hx hb d_M_relations_41 rfl (lv_at hl 4 rfl) ?_
      refine vp_callSi (va_Run.run (va_runV (As := [.int (nI ib)]) (rest := []) ⟨hx, hb, hml, hown, hw⟩ (k_M_lowest l D T o a 0 z2 z3 (nI sn) z18 z19 z20 z21 z24 z26 f1 f4 f5 f6 f7 f8 f9 f10 f11 f12 f13 f15 f16 f17 f22 f23 f25 f27 ib (by omega)) (cwV 1 hw (bg_V ml_M_170 wi_M_lowest wv_M_lowest wz_M wc_M_lowest) rfl rfl rfl (by decide +kernel) ⟨Nat.le_of_ble_eq_true rfl, Nat.le_of_ble_eq_true rfl⟩) ⟨sP_b, va_recv hK hP (ci := 6) (q0 := 0) rfl rfl, sP_p hP hK⟩ rfl rfl hl.1 rfl (lv_room (Nat.le_of_ble_eq_true rfl)) d_M_relations_42 ⟨Nat.le_of_ble_eq_true rfl, Nat.le_of_ble_eq_true rfl⟩)) (fun r9 hr9 => ?_)
      replace hr9 := hr9.symm; subst hr9
      refine lv_istore (lv' := [(5, .int (j_lo (f17 ib) (f15 ib))), (4, .int (j_hi (f17 ia) (f16 ia))), (3, .int (j_lo (f17 ia) (f15 ia))), (0, .ref o), (1, .int (nI ia)), (2, .int (nI ib))]) hx hb d_M_relations_45 hl (by decide) rfl (fun ls hl => ?_)
      refine lv_aload_n hx hb d_M_relations_47 rfl (lv_at hl 3 rfl) ?_
      refine lv_iload_n hx hb d_M_relations_48 rfl (lv_at hl 5 rfl) ?_
      refine vp_callSi (va_Run.run (va_runV (As := [.int (nI ib)]) (rest := []) ⟨hx, hb, hml, hown, hw⟩ (k_M_highest l D T o a 0 z2 z3 (nI sn) z18 z19 z20 z21 z24 z26 f1 f4 f5 f6 f7 f8 f9 f10 f11 f12 f13 f15 f16 f17 f22 f23 f25 f27 ib (by omega)) (cwV 1 hw (bg_V ml_M_173 wi_M_highest wv_M_highest wz_M wc_M_highest) rfl rfl rfl (by decide +kernel) ⟨Nat.le_of_ble_eq_true rfl, Nat.le_of_ble_eq_true rfl⟩) ⟨sP_b, va_recv hK hP (ci := 6) (q0 := 0) rfl rfl, sP_p hP hK⟩ rfl rfl hl.1 rfl (lv_room (Nat.le_of_ble_eq_true rfl)) d_M_relations_49 ⟨Nat.le_of_ble_eq_true rfl, Nat.le_of_ble_eq_true rfl⟩)) (fun r10 hr10 => ?_)
      replace hr10 := hr10.symm; subst hr10
      refine lv_istore (lv' := [(6, .int (j_hi (f17 ib) (f16 ib))), (5, .int (j_lo (f17 ib) (f15 ib))), (4, .int (j_hi (f17 ia) (f16 ia))), (3, .int (j_lo (f17 ia) (f15 ia))), (0, .ref o), (1, .int (nI ia)), (2, .int (nI ib))]) hx hb d_M_relations_52 hl (by decide) rfl (fun ls hl => ?_)
      refine lv_iconst (v := 0) hx hb d_M_relations_54 (by decide) ?_
      refine lv_istore (lv' := [(7, .int 0), (6, .int (j_hi (f17 ib) (f16 ib))), (5, .int (j_lo (f17 ib) (f15 ib))), (4, .int (j_hi (f17 ia) (f16 ia))), (3, .int (j_lo (f17 ia) (f15 ia))), (0, .ref o), (1, .int (nI ia)), (2, .int (nI ib))]) hx hb d_M_relations_55 hl (by decide) rfl (fun ls hl => ?_)
      refine lv_iconst (v := 0) hx hb d_M_relations_57 (by decide) ?_
      refine lv_istore (lv' := [(8, .int 0), (7, .int 0), (6, .int (j_hi (f17 ib) (f16 ib))), (5, .int (j_lo (f17 ib) (f15 ib))), (4, .int (j_hi (f17 ia) (f16 ia))), (3, .int (j_lo (f17 ia) (f15 ia))), (0, .ref o), (1, .int (nI ia)), (2, .int (nI ib))]) hx hb d_M_relations_58 hl (by decide) rfl (fun ls hl => ?_)
      have loop : ∀ (n : Nat) (q : Nat) (bt : Int32), (q ≤ 3) → (bt = j_bits (j_lo (f17 ia) (f15 ia)) (j_hi (f17 ia) (f16 ia)) (j_lo (f17 ib) (f15 ib)) (j_hi (f17 ib) (f16 ib)) q) → ∀ (H : Heap) (locs : List Loc), va_P D gC (mX T o a 0 z2 z3 (nI sn) z18 z19 z20 z21 z24 z26 f1 f4 f5 f6 f7 f8 f9 f10 f11 f12 f13 f15 f16 f17 f22 f23 f25 f27) H → va_D A (mX T o a 0 z2 z3 (nI sn) z18 z19 z20 z21 z24 z26 f1 f4 f5 f6 f7 f8 f9 f10 f11 f12 f13 f15 f16 f17 f22 f23 f25 f27) → va_S A s.heap H locs → ∀ (ls : Array Slot), lv_has ls 9 [(0, .ref o), (3, .int (j_lo (f17 ia) (f15 ia))), (4, .int (j_hi (f17 ia) (f16 ia))), (5, .int (j_lo (f17 ib) (f15 ib))), (6, .int (j_hi (f17 ib) (f16 ib))), (7, .int bt), (8, .int (nI q))] → 3 - q < n → W p l e (headSpec (Cond.code y_M_relations b_M_relations 9 (some .int) :: bg_W) ({ frames := 2, cells := 0, slots := 0, locals := 43 })).room s m ([.ref o, .int (nI ia), .int (nI ib)] : List Value).toArray below meth c H locs 0 0 (MQ below (va_Qi (fun (r : Int32) (w0 : Int32) => ((j_ix (nI ia) (nI sn) && j_ix (nI ib) (nI sn)) = false ∧ r = 0 ∧ w0 = 1) ∨ ((j_ix (nI ia) (nI sn) && j_ix (nI ib) (nI sn)) = true ∧ ∃ i, i < sn ∧ (nI ia) = nI i ∧ ∃ j, j < sn ∧ (nI ib) = nI j ∧ r = j_rs (j_lo (f17 i) (f15 i)) (j_hi (f17 i) (f16 i)) (j_lo (f17 j) (f15 j)) (j_hi (f17 j) (f16 j)) ∧ w0 = 0)) (qB D T A (fun w0 : Int32 => mX T o a w0 z2 z3 (nI sn) z18 z19 z20 z21 z24 z26 f1 f4 f5 f6 f7 f8 f9 f10 f11 f12 f13 f15 f16 f17 f22 f23 f25 f27)) A) ([.ref o, .int (nI ia), .int (nI ib)] : List Value).toArray s 0 0 A) (F0 m 60 ls []) := by
        intro n
        induction n with
        | zero => intro q bt hq3 hbt H locs hP hD hS ls hl hm; exact absurd hm (Nat.not_lt_zero _)
        | succ n ih =>
          intro q bt hq3 hbt H locs hP hD hS ls hl hm
          refine lv_iload hx hb d_M_relations_60 (lv_at hl 6 rfl) ?_
          refine lv_iconst (v := 3) hx hb d_M_relations_62 (by decide) ?_
          refine lv_icmp_ge (tgt := 126) hx hb d_M_relations_63 (by decide) (fun c11 => ?_) (fun c11 => ?_)
          · have c11 := nc_le (a := 3) (b := q) c11 (by omega) (by omega)
            refine lv_iload_n hx hb d_M_relations_126 rfl (lv_at hl 1 rfl) ?_
            refine lv_iload hx hb d_M_relations_127 (lv_at hl 4 rfl) ?_
            refine lv_icmp_gt (tgt := 143) hx hb d_M_relations_129 (by decide) (fun c12 => ?_) (fun c12 => ?_)
            · refine lv_iconst (v := 0) hx hb d_M_relations_143 (by decide) ?_
              refine lv_istore (lv' := [(8, .int 0), (0, .ref o), (3, .int (j_lo (f17 ia) (f15 ia))), (4, .int (j_hi (f17 ia) (f16 ia))), (5, .int (j_lo (f17 ib) (f15 ib))), (6, .int (j_hi (f17 ib) (f16 ib))), (7, .int bt)]) hx hb d_M_relations_144 hl (by decide) rfl (fun ls hl => ?_)
              refine lv_iload hx hb d_M_relations_146 (lv_at hl 6 rfl) ?_
              refine lv_iload hx hb d_M_relations_148 (lv_at hl 0 rfl) ?_
              refine lv_if_eq (tgt := 158) hx hb d_M_relations_150 (by decide) (fun c13 => ?_) (fun c13 => absurd c13 (by decide))
              refine lv_iconst (v := 0) hx hb d_M_relations_158 (by decide) ?_
              refine lv_ior hx hb d_M_relations_159 ?_
              refine lv_iload hx hb d_M_relations_160 (lv_at hl 0 rfl) ?_
              refine lv_if_eq (tgt := 177) hx hb d_M_relations_162 (by decide) (fun c14 => ?_) (fun c14 => absurd c14 (by decide))
              refine lv_iconst (v := 0) hx hb d_M_relations_177 (by decide) ?_
              refine lv_ior hx hb d_M_relations_178 ?_
              refine lv_iload hx hb d_M_relations_179 (lv_at hl 0 rfl) ?_
              refine lv_if_eq (tgt := 195) hx hb d_M_relations_181 (by decide) (fun c15 => ?_) (fun c15 => absurd c15 (by decide))
              refine lv_iconst (v := 0) hx hb d_M_relations_195 (by decide) ?_
              refine lv_ior hx hb d_M_relations_196 ?_
              exact W.iret (v := ((bt ||| 0) ||| 0) ||| 0) hx hb hr (fun t ht hW => ⟨⟨((bt ||| 0) ||| 0) ||| 0, 0, rfl, (Or.inr ⟨by rw [hxia, hxib]; rfl, ia, hia, rfl, ib, hib, rfl, by rw [hbt, show q = 3 by omega]; exact (by simp only [j_rs, j_rA, j_rB, if_pos c12, decide_eq_true c12]), rfl⟩), by rw [ht]; exact hP, va_K.moved hW.alike hK, hD⟩, hS.F ht⟩) hS.2.2 d_M_relations_197
            · refine lv_iload hx hb d_M_relations_132 (lv_at hl 3 rfl) ?_
              refine lv_iload hx hb d_M_relations_134 (lv_at hl 2 rfl) ?_
              refine lv_icmp_gt (tgt := 143) hx hb d_M_relations_136 (by decide) (fun c16 => ?_) (fun c16 => ?_)
              · refine lv_iconst (v := 0) hx hb d_M_relations_143 (by decide) ?_
                refine lv_istore (lv' := [(8, .int 0), (0, .ref o), (3, .int (j_lo (f17 ia) (f15 ia))), (4, .int (j_hi (f17 ia) (f16 ia))), (5, .int (j_lo (f17 ib) (f15 ib))), (6, .int (j_hi (f17 ib) (f16 ib))), (7, .int bt)]) hx hb d_M_relations_144 hl (by decide) rfl (fun ls hl => ?_)
                refine lv_iload hx hb d_M_relations_146 (lv_at hl 6 rfl) ?_
                refine lv_iload hx hb d_M_relations_148 (lv_at hl 0 rfl) ?_
                refine lv_if_eq (tgt := 158) hx hb d_M_relations_150 (by decide) (fun c17 => ?_) (fun c17 => absurd c17 (by decide))
                refine lv_iconst (v := 0) hx hb d_M_relations_158 (by decide) ?_
                refine lv_ior hx hb d_M_relations_159 ?_
                refine lv_iload hx hb d_M_relations_160 (lv_at hl 0 rfl) ?_
                refine lv_if_eq (tgt := 177) hx hb d_M_relations_162 (by decide) (fun c18 => ?_) (fun c18 => absurd c18 (by decide))
                refine lv_iconst (v := 0) hx hb d_M_relations_177 (by decide) ?_
                refine lv_ior hx hb d_M_relations_178 ?_
                refine lv_iload hx hb d_M_relations_179 (lv_at hl 0 rfl) ?_
                refine lv_if_eq (tgt := 195) hx hb d_M_relations_181 (by decide) (fun c19 => ?_) (fun c19 => absurd c19 (by decide))
                refine lv_iconst (v := 0) hx hb d_M_relations_195 (by decide) ?_
                refine lv_ior hx hb d_M_relations_196 ?_
                exact W.iret (v := ((bt ||| 0) ||| 0) ||| 0) hx hb hr (fun t ht hW => ⟨⟨((bt ||| 0) ||| 0) ||| 0, 0, rfl, (Or.inr ⟨by rw [hxia, hxib]; rfl, ia, hia, rfl, ib, hib, rfl, by rw [hbt, show q = 3 by omega]; exact (by simp only [j_rs, j_rA, j_rB, if_neg c12, decide_eq_false c12, if_pos c16, decide_eq_true c16]), rfl⟩), by rw [ht]; exact hP, va_K.moved hW.alike hK, hD⟩, hS.F ht⟩) hS.2.2 d_M_relations_197
              · refine lv_iconst (v := 1) hx hb d_M_relations_139 (by decide) ?_
                refine lv_goto (tgt := 144) hx hb d_M_relations_140 (by decide) ?_
                refine lv_istore (lv' := [(8, .int 1), (0, .ref o), (3, .int (j_lo (f17 ia) (f15 ia))), (4, .int (j_hi (f17 ia) (f16 ia))), (5, .int (j_lo (f17 ib) (f15 ib))), (6, .int (j_hi (f17 ib) (f16 ib))), (7, .int bt)]) hx hb d_M_relations_144 hl (by decide) rfl (fun ls hl => ?_)
                refine lv_iload hx hb d_M_relations_146 (lv_at hl 6 rfl) ?_
                refine lv_iload hx hb d_M_relations_148 (lv_at hl 0 rfl) ?_
                refine lv_if_eq (tgt := 158) hx hb d_M_relations_150 (by decide) (fun c20 => absurd c20 (by decide)) (fun c20 => ?_)
                refine lv_bipush (v := 8) hx hb d_M_relations_153 (by decide) ?_
                refine lv_goto (tgt := 159) hx hb d_M_relations_155 (by decide) ?_
                refine lv_ior hx hb d_M_relations_159 ?_
                refine lv_iload hx hb d_M_relations_160 (lv_at hl 0 rfl) ?_
                refine lv_if_eq (tgt := 177) hx hb d_M_relations_162 (by decide) (fun c21 => absurd c21 (by decide)) (fun c21 => ?_)
                refine lv_iload hx hb d_M_relations_165 (lv_at hl 5 rfl) ?_
                refine lv_iload hx hb d_M_relations_167 (lv_at hl 4 rfl) ?_
                refine lv_icmp_le (tgt := 177) hx hb d_M_relations_169 (by decide) (fun c22 => ?_) (fun c22 => ?_)
                · refine lv_iconst (v := 0) hx hb d_M_relations_177 (by decide) ?_
                  refine lv_ior hx hb d_M_relations_178 ?_
                  refine lv_iload hx hb d_M_relations_179 (lv_at hl 0 rfl) ?_
                  refine lv_if_eq (tgt := 195) hx hb d_M_relations_181 (by decide) (fun c23 => absurd c23 (by decide)) (fun c23 => ?_)
                  refine lv_iload hx hb d_M_relations_184 (lv_at hl 3 rfl) ?_
                  refine lv_iload_n hx hb d_M_relations_186 rfl (lv_at hl 2 rfl) ?_
                  refine lv_icmp_le (tgt := 195) hx hb d_M_relations_187 (by decide) (fun c24 => ?_) (fun c24 => ?_)
                  · refine lv_iconst (v := 0) hx hb d_M_relations_195 (by decide) ?_
                    refine lv_ior hx hb d_M_relations_196 ?_
                    exact W.iret (v := ((bt ||| 8) ||| 0) ||| 0) hx hb hr (fun t ht hW => ⟨⟨((bt ||| 8) ||| 0) ||| 0, 0, rfl, (Or.inr ⟨by rw [hxia, hxib]; rfl, ia, hia, rfl, ib, hib, rfl, by rw [hbt, show q = 3 by omega]; exact (by simp only [j_rs, j_rA, j_rB, if_neg c12, decide_eq_false c12, if_neg c16, decide_eq_false c16, if_pos c22, decide_eq_true c22, if_pos c24, decide_eq_true c24]), rfl⟩), by rw [ht]; exact hP, va_K.moved hW.alike hK, hD⟩, hS.F ht⟩) hS.2.2 d_M_relations_197
                  · refine lv_bipush (v := 32) hx hb d_M_relations_190 (by decide) ?_
                    refine lv_goto (tgt := 196) hx hb d_M_relations_192 (by decide) ?_
                    refine lv_ior hx hb d_M_relations_196 ?_
                    exact W.iret (v := ((bt ||| 8) ||| 0) ||| 32) hx hb hr (fun t ht hW => ⟨⟨((bt ||| 8) ||| 0) ||| 32, 0, rfl, (Or.inr ⟨by rw [hxia, hxib]; rfl, ia, hia, rfl, ib, hib, rfl, by rw [hbt, show q = 3 by omega]; exact (by simp only [j_rs, j_rA, j_rB, if_neg c12, decide_eq_false c12, if_neg c16, decide_eq_false c16, if_pos c22, decide_eq_true c22, if_neg c24, decide_eq_false c24]), rfl⟩), by rw [ht]; exact hP, va_K.moved hW.alike hK, hD⟩, hS.F ht⟩) hS.2.2 d_M_relations_197
                · refine lv_bipush (v := 16) hx hb d_M_relations_172 (by decide) ?_
                  refine lv_goto (tgt := 178) hx hb d_M_relations_174 (by decide) ?_
                  refine lv_ior hx hb d_M_relations_178 ?_
                  refine lv_iload hx hb d_M_relations_179 (lv_at hl 0 rfl) ?_
                  refine lv_if_eq (tgt := 195) hx hb d_M_relations_181 (by decide) (fun c25 => absurd c25 (by decide)) (fun c25 => ?_)
                  refine lv_iload hx hb d_M_relations_184 (lv_at hl 3 rfl) ?_
                  refine lv_iload_n hx hb d_M_relations_186 rfl (lv_at hl 2 rfl) ?_
                  refine lv_icmp_le (tgt := 195) hx hb d_M_relations_187 (by decide) (fun c26 => ?_) (fun c26 => ?_)
                  · refine lv_iconst (v := 0) hx hb d_M_relations_195 (by decide) ?_
                    refine lv_ior hx hb d_M_relations_196 ?_
                    exact W.iret (v := ((bt ||| 8) ||| 16) ||| 0) hx hb hr (fun t ht hW => ⟨⟨((bt ||| 8) ||| 16) ||| 0, 0, rfl, (Or.inr ⟨by rw [hxia, hxib]; rfl, ia, hia, rfl, ib, hib, rfl, by rw [hbt, show q = 3 by omega]; exact (by simp only [j_rs, j_rA, j_rB, if_neg c12, decide_eq_false c12, if_neg c16, decide_eq_false c16, if_neg c22, decide_eq_false c22, if_pos c26, decide_eq_true c26]), rfl⟩), by rw [ht]; exact hP, va_K.moved hW.alike hK, hD⟩, hS.F ht⟩) hS.2.2 d_M_relations_197
                  · refine lv_bipush (v := 32) hx hb d_M_relations_190 (by decide) ?_
                    refine lv_goto (tgt := 196) hx hb d_M_relations_192 (by decide) ?_
                    refine lv_ior hx hb d_M_relations_196 ?_
                    exact W.iret (v := ((bt ||| 8) ||| 16) ||| 32) hx hb hr (fun t ht hW => ⟨⟨((bt ||| 8) ||| 16) ||| 32, 0, rfl, (Or.inr ⟨by rw [hxia, hxib]; rfl, ia, hia, rfl, ib, hib, rfl, by rw [hbt, show q = 3 by omega]; exact (by simp only [j_rs, j_rA, j_rB, if_neg c12, decide_eq_false c12, if_neg c16, decide_eq_false c16, if_neg c22, decide_eq_false c22, if_neg c26, decide_eq_false c26]), rfl⟩), by rw [ht]; exact hP, va_K.moved hW.alike hK, hD⟩, hS.F ht⟩) hS.2.2 d_M_relations_197
          · have c11 := nc_nle (a := 3) (b := q) c11 (by omega) (by omega)
            refine lv_iload hx hb d_M_relations_66 (lv_at hl 5 rfl) ?_
            refine lv_iload hx hb d_M_relations_68 (lv_at hl 6 rfl) ?_
            refine lv_iload_n hx hb d_M_relations_70 rfl (lv_at hl 1 rfl) ?_
            refine lv_iload hx hb d_M_relations_71 (lv_at hl 2 rfl) ?_
            refine lv_iload hx hb d_M_relations_73 (lv_at hl 3 rfl) ?_
            refine lv_iload hx hb d_M_relations_75 (lv_at hl 4 rfl) ?_
            refine vp_callSi (va_Run.run (va_runS (As := [.int (nI q), .int (j_lo (f17 ia) (f15 ia)), .int (j_hi (f17 ia) (f16 ia)), .int (j_lo (f17 ib) (f15 ib)), .int (j_hi (f17 ib) (f16 ib))]) (rest := [.int bt]) ⟨hx, hb, hml, hown, hw⟩ (k_M_mayBe l (nI q) (j_lo (f17 ia) (f15 ia)) (j_hi (f17 ia) (f16 ia)) (j_lo (f17 ib) (f15 ib)) (j_hi (f17 ib) (f16 ib))) (va_cwS 5 hw (bg_S ml_M_176 wt_M_mayBe wz_M wc_M_mayBe) rfl rfl rfl (by decide +kernel) ⟨Nat.le_of_ble_eq_true rfl, Nat.le_of_ble_eq_true rfl⟩) ⟨nP_b, nP_p⟩ rfl rfl hl.1 rfl (lv_room (Nat.le_of_ble_eq_true rfl)) d_M_relations_77 ⟨Nat.le_of_ble_eq_true rfl, Nat.le_of_ble_eq_true rfl⟩)) (fun r27 hr27 => ?_)
            replace hr27 := hr27.symm; subst hr27
            refine lv_if_eq (tgt := 90) hx hb d_M_relations_80 (by decide) (fun c28 => ?_) (fun c28 => ?_)
            · have c28 := b2i_f c28
              refine lv_iconst (v := 0) hx hb d_M_relations_90 (by decide) ?_
              refine lv_ior hx hb d_M_relations_91 ?_
              refine lv_istore (lv' := [(7, .int (bt ||| 0)), (0, .ref o), (3, .int (j_lo (f17 ia) (f15 ia))), (4, .int (j_hi (f17 ia) (f16 ia))), (5, .int (j_lo (f17 ib) (f15 ib))), (6, .int (j_hi (f17 ib) (f16 ib))), (8, .int (nI q))]) hx hb d_M_relations_92 hl (by decide) rfl (fun ls hl => ?_)
              refine lv_iload hx hb d_M_relations_94 (lv_at hl 0 rfl) ?_
              refine lv_iload hx hb d_M_relations_96 (lv_at hl 6 rfl) ?_
              refine lv_iload hx hb d_M_relations_98 (lv_at hl 4 rfl) ?_
              refine lv_iload hx hb d_M_relations_100 (lv_at hl 5 rfl) ?_
              refine lv_iload_n hx hb d_M_relations_102 rfl (lv_at hl 2 rfl) ?_
              refine lv_iload hx hb d_M_relations_103 (lv_at hl 3 rfl) ?_
              refine vp_callSi (va_Run.run (va_runS (As := [.int (nI q), .int (j_lo (f17 ib) (f15 ib)), .int (j_hi (f17 ib) (f16 ib)), .int (j_lo (f17 ia) (f15 ia)), .int (j_hi (f17 ia) (f16 ia))]) (rest := [.int (bt ||| 0)]) ⟨hx, hb, hml, hown, hw⟩ (k_M_mayBe l (nI q) (j_lo (f17 ib) (f15 ib)) (j_hi (f17 ib) (f16 ib)) (j_lo (f17 ia) (f15 ia)) (j_hi (f17 ia) (f16 ia))) (va_cwS 5 hw (bg_S ml_M_176 wt_M_mayBe wz_M wc_M_mayBe) rfl rfl rfl (by decide +kernel) ⟨Nat.le_of_ble_eq_true rfl, Nat.le_of_ble_eq_true rfl⟩) ⟨nP_b, nP_p⟩ rfl rfl hl.1 rfl (lv_room (Nat.le_of_ble_eq_true rfl)) d_M_relations_105 ⟨Nat.le_of_ble_eq_true rfl, Nat.le_of_ble_eq_true rfl⟩)) (fun r29 hr29 => ?_)
              replace hr29 := hr29.symm; subst hr29
              refine lv_if_eq (tgt := 116) hx hb d_M_relations_108 (by decide) (fun c30 => ?_) (fun c30 => ?_)
              · have c30 := b2i_f c30
                refine lv_iconst (v := 0) hx hb d_M_relations_116 (by decide) ?_
                refine lv_ior hx hb d_M_relations_117 ?_
                refine lv_istore (lv' := [(7, .int ((bt ||| 0) ||| 0)), (0, .ref o), (3, .int (j_lo (f17 ia) (f15 ia))), (4, .int (j_hi (f17 ia) (f16 ia))), (5, .int (j_lo (f17 ib) (f15 ib))), (6, .int (j_hi (f17 ib) (f16 ib))), (8, .int (nI q))]) hx hb d_M_relations_118 hl (by decide) rfl (fun ls hl => ?_)
                refine lv_iinc (v := nI (q + 1)) (lv' := [(8, .int (nI (q + 1))), (7, .int ((bt ||| 0) ||| 0)), (0, .ref o), (3, .int (j_lo (f17 ia) (f15 ia))), (4, .int (j_hi (f17 ia) (f16 ia))), (5, .int (j_lo (f17 ib) (f15 ib))), (6, .int (j_hi (f17 ib) (f16 ib)))]) hx hb d_M_relations_120 hl (k := 6) rfl (nI_add q 1) (by decide) rfl (fun ls hl => ?_)
                refine lv_goto (tgt := 60) hx hb d_M_relations_123 (by decide) ?_
                exact ih (q + 1) ((bt ||| 0) ||| 0) (by omega) (by rw [hbt]; simp only [j_bits, c28, c30, Bool.false_eq_true, if_true, if_false]) _ _ hP hD hS ls (lv_sub hl [2, 3, 4, 5, 6, 1, 0] rfl) (by omega)
              · have c30 := b2i_t c30
                refine lv_bipush (v := 64) hx hb d_M_relations_111 (by decide) ?_
                refine lv_goto (tgt := 117) hx hb d_M_relations_113 (by decide) ?_
                refine lv_ior hx hb d_M_relations_117 ?_
                refine lv_istore (lv' := [(7, .int ((bt ||| 0) ||| 64)), (0, .ref o), (3, .int (j_lo (f17 ia) (f15 ia))), (4, .int (j_hi (f17 ia) (f16 ia))), (5, .int (j_lo (f17 ib) (f15 ib))), (6, .int (j_hi (f17 ib) (f16 ib))), (8, .int (nI q))]) hx hb d_M_relations_118 hl (by decide) rfl (fun ls hl => ?_)
                refine lv_iinc (v := nI (q + 1)) (lv' := [(8, .int (nI (q + 1))), (7, .int ((bt ||| 0) ||| 64)), (0, .ref o), (3, .int (j_lo (f17 ia) (f15 ia))), (4, .int (j_hi (f17 ia) (f16 ia))), (5, .int (j_lo (f17 ib) (f15 ib))), (6, .int (j_hi (f17 ib) (f16 ib)))]) hx hb d_M_relations_120 hl (k := 6) rfl (nI_add q 1) (by decide) rfl (fun ls hl => ?_)
                refine lv_goto (tgt := 60) hx hb d_M_relations_123 (by decide) ?_
                exact ih (q + 1) ((bt ||| 0) ||| 64) (by omega) (by rw [hbt]; simp only [j_bits, c28, c30, Bool.false_eq_true, if_true, if_false]) _ _ hP hD hS ls (lv_sub hl [2, 3, 4, 5, 6, 1, 0] rfl) (by omega)
            · have c28 := b2i_t c28
              refine lv_iconst (v := 1) hx hb d_M_relations_83 (by decide) ?_
              refine lv_iload hx hb d_M_relations_84 (lv_at hl 6 rfl) ?_
              refine lv_ishl hx hb d_M_relations_86 ?_
              refine lv_goto (tgt := 91) hx hb d_M_relations_87 (by decide) ?_
              refine lv_ior hx hb d_M_relations_91 ?_
              refine lv_istore (lv' := [(7, .int (bt ||| (1 <<< ((nI q) &&& 31)))), (0, .ref o), (3, .int (j_lo (f17 ia) (f15 ia))), (4, .int (j_hi (f17 ia) (f16 ia))), (5, .int (j_lo (f17 ib) (f15 ib))), (6, .int (j_hi (f17 ib) (f16 ib))), (8, .int (nI q))]) hx hb d_M_relations_92 hl (by decide) rfl (fun ls hl => ?_)
              refine lv_iload hx hb d_M_relations_94 (lv_at hl 0 rfl) ?_
              refine lv_iload hx hb d_M_relations_96 (lv_at hl 6 rfl) ?_
              refine lv_iload hx hb d_M_relations_98 (lv_at hl 4 rfl) ?_
              refine lv_iload hx hb d_M_relations_100 (lv_at hl 5 rfl) ?_
              refine lv_iload_n hx hb d_M_relations_102 rfl (lv_at hl 2 rfl) ?_
              refine lv_iload hx hb d_M_relations_103 (lv_at hl 3 rfl) ?_
              refine vp_callSi (va_Run.run (va_runS (As := [.int (nI q), .int (j_lo (f17 ib) (f15 ib)), .int (j_hi (f17 ib) (f16 ib)), .int (j_lo (f17 ia) (f15 ia)), .int (j_hi (f17 ia) (f16 ia))]) (rest := [.int (bt ||| (1 <<< ((nI q) &&& 31)))]) ⟨hx, hb, hml, hown, hw⟩ (k_M_mayBe l (nI q) (j_lo (f17 ib) (f15 ib)) (j_hi (f17 ib) (f16 ib)) (j_lo (f17 ia) (f15 ia)) (j_hi (f17 ia) (f16 ia))) (va_cwS 5 hw (bg_S ml_M_176 wt_M_mayBe wz_M wc_M_mayBe) rfl rfl rfl (by decide +kernel) ⟨Nat.le_of_ble_eq_true rfl, Nat.le_of_ble_eq_true rfl⟩) ⟨nP_b, nP_p⟩ rfl rfl hl.1 rfl (lv_room (Nat.le_of_ble_eq_true rfl)) d_M_relations_105 ⟨Nat.le_of_ble_eq_true rfl, Nat.le_of_ble_eq_true rfl⟩)) (fun r31 hr31 => ?_)
              replace hr31 := hr31.symm; subst hr31
              refine lv_if_eq (tgt := 116) hx hb d_M_relations_108 (by decide) (fun c32 => ?_) (fun c32 => ?_)
              · have c32 := b2i_f c32
                refine lv_iconst (v := 0) hx hb d_M_relations_116 (by decide) ?_
                refine lv_ior hx hb d_M_relations_117 ?_
                refine lv_istore (lv' := [(7, .int ((bt ||| (1 <<< ((nI q) &&& 31))) ||| 0)), (0, .ref o), (3, .int (j_lo (f17 ia) (f15 ia))), (4, .int (j_hi (f17 ia) (f16 ia))), (5, .int (j_lo (f17 ib) (f15 ib))), (6, .int (j_hi (f17 ib) (f16 ib))), (8, .int (nI q))]) hx hb d_M_relations_118 hl (by decide) rfl (fun ls hl => ?_)
                refine lv_iinc (v := nI (q + 1)) (lv' := [(8, .int (nI (q + 1))), (7, .int ((bt ||| (1 <<< ((nI q) &&& 31))) ||| 0)), (0, .ref o), (3, .int (j_lo (f17 ia) (f15 ia))), (4, .int (j_hi (f17 ia) (f16 ia))), (5, .int (j_lo (f17 ib) (f15 ib))), (6, .int (j_hi (f17 ib) (f16 ib)))]) hx hb d_M_relations_120 hl (k := 6) rfl (nI_add q 1) (by decide) rfl (fun ls hl => ?_)
                refine lv_goto (tgt := 60) hx hb d_M_relations_123 (by decide) ?_
                exact ih (q + 1) ((bt ||| (1 <<< ((nI q) &&& 31))) ||| 0) (by omega) (by rw [hbt]; simp only [j_bits, c28, c32, Bool.false_eq_true, if_true, if_false]) _ _ hP hD hS ls (lv_sub hl [2, 3, 4, 5, 6, 1, 0] rfl) (by omega)
              · have c32 := b2i_t c32
                refine lv_bipush (v := 64) hx hb d_M_relations_111 (by decide) ?_
                refine lv_goto (tgt := 117) hx hb d_M_relations_113 (by decide) ?_
                refine lv_ior hx hb d_M_relations_117 ?_
                refine lv_istore (lv' := [(7, .int ((bt ||| (1 <<< ((nI q) &&& 31))) ||| 64)), (0, .ref o), (3, .int (j_lo (f17 ia) (f15 ia))), (4, .int (j_hi (f17 ia) (f16 ia))), (5, .int (j_lo (f17 ib) (f15 ib))), (6, .int (j_hi (f17 ib) (f16 ib))), (8, .int (nI q))]) hx hb d_M_relations_118 hl (by decide) rfl (fun ls hl => ?_)
                refine lv_iinc (v := nI (q + 1)) (lv' := [(8, .int (nI (q + 1))), (7, .int ((bt ||| (1 <<< ((nI q) &&& 31))) ||| 64)), (0, .ref o), (3, .int (j_lo (f17 ia) (f15 ia))), (4, .int (j_hi (f17 ia) (f16 ia))), (5, .int (j_lo (f17 ib) (f15 ib))), (6, .int (j_hi (f17 ib) (f16 ib)))]) hx hb d_M_relations_120 hl (k := 6) rfl (nI_add q 1) (by decide) rfl (fun ls hl => ?_)
                refine lv_goto (tgt := 60) hx hb d_M_relations_123 (by decide) ?_
                exact ih (q + 1) ((bt ||| (1 <<< ((nI q) &&& 31))) ||| 64) (by omega) (by rw [hbt]; simp only [j_bits, c28, c32, Bool.false_eq_true, if_true, if_false]) _ _ hP hD hS ls (lv_sub hl [2, 3, 4, 5, 6, 1, 0] rfl) (by omega)
      exact loop ((3 - 0) + 1) 0 0 (Nat.zero_le _) rfl _ _ hP hD hS ls (lv_sub hl [6, 5, 4, 3, 2, 1, 0] rfl) (Nat.lt_succ_self _)
    · have c6 := b2i_f c6
      refine lv_aload_n hx hb d_M_relations_16 rfl (lv_at hl 0 rfl) ?_
      refine lv_iconst (v := 1) hx hb d_M_relations_17 (by decide) ?_
      refine g_calli (va_runV (As := [.int 1]) (rest := []) ⟨hx, hb, hml, hown, hw⟩ (k_M_fails l D T o a z0 z2 z3 (nI sn) z18 z19 z20 z21 z24 z26 f1 f4 f5 f6 f7 f8 f9 f10 f11 f12 f13 f15 f16 f17 f22 f23 f25 f27 s.heap.size 1) (cwV 1 hw (bg_V ml_M_89 wi_M_fails wv_M_fails wz_M wc_M_fails) rfl rfl rfl (by decide +kernel) ⟨Nat.le_of_ble_eq_true rfl, Nat.le_of_ble_eq_true rfl⟩) ⟨qP_b, va_recv hK hP (ci := 6) (q0 := 0) rfl rfl, qP_p hP hK hD⟩ rfl rfl hl.1 rfl (lv_room (Nat.le_of_ble_eq_true rfl)) d_M_relations_18 ⟨Nat.le_of_ble_eq_true rfl, Nat.le_of_ble_eq_true rfl⟩) hD hS hA (fun r33 u34 H locs hr33 hP hD hS => ?_)
      obtain ⟨q0, q1⟩ := hr33
      replace q0 := q0.symm; subst q0; replace q1 := q1.symm; subst q1
      have hP : va_P D gC (mX T o a 1 z2 z3 (nI sn) z18 z19 z20 z21 z24 z26 f1 f4 f5 f6 f7 f8 f9 f10 f11 f12 f13 f15 f16 f17 f22 f23 f25 f27) H := hP
      have hD : va_D A (mX T o a 1 z2 z3 (nI sn) z18 z19 z20 z21 z24 z26 f1 f4 f5 f6 f7 f8 f9 f10 f11 f12 f13 f15 f16 f17 f22 f23 f25 f27) := hD
      exact W.iret (v := 0) hx hb hr (fun t ht hW => ⟨⟨0, 1, rfl, (Or.inl ⟨by simp [*], rfl, rfl⟩), by rw [ht]; exact hP, va_K.moved hW.alike hK, hD⟩, hS.F ht⟩) hS.2.2 d_M_relations_21

set_option maxHeartbeats 4000000 in
set_option maxRecDepth 100000 in
theorem k_M_putWord (l : Launch) (D : va_G) (T : gT) (o : Nat) (a : Nat → Nat) (z0 z2 z3 z14 z18 z19 z20 z21 : Int32) (mn : Nat) (z26 : Int32) (f1 f4 f5 f6 f7 f8 f9 f10 f11 f12 f13 f15 f16 f17 f22 f23 f25 f27 : Nat → Int32) (sz : Nat) (b : Nat) (hy0 : b < 6) (hy1 : mn + jl b ≤ 40) : Met l y_M_putWord (Cond.code y_M_putWord b_M_putWord 4 none :: bg_W) ({ frames := 2, cells := 0, slots := 0, locals := 44 }) (qP D T (mX T o a z0 z2 z3 z14 z18 z19 z20 z21 (nI mn) z26 f1 f4 f5 f6 f7 f8 f9 f10 f11 f12 f13 f15 f16 f17 f22 f23 f25 f27) [.ref o, .long (jw b)] sz) (va_Qv (fun u : (Nat → Int32) × Int32 => match u with | (g23, w24) => w24 = nI (mn + jl b) ∧ cpI f23 (jc b) g23 mn (jl b)) (qB D T (va_A (mX T o a z0 z2 z3 z14 z18 z19 z20 z21 (nI mn) z26 f1 f4 f5 f6 f7 f8 f9 f10 f11 f12 f13 f15 f16 f17 f22 f23 f25 f27) sz) (fun u : (Nat → Int32) × Int32 => match u with | (g23, w24) => mX T o a z0 z2 z3 z14 z18 z19 z20 z21 w24 z26 f1 f4 f5 f6 f7 f8 f9 f10 f11 f12 f13 f15 f16 f17 f22 g23 f25 f27)) (va_A (mX T o a z0 z2 z3 z14 z18 z19 z20 z21 (nI mn) z26 f1 f4 f5 f6 f7 f8 f9 f10 f11 f12 f13 f15 f16 f17 f22 f23 f25 f27) sz)) 0 0 (va_A (mX T o a z0 z2 z3 z14 z18 z19 z20 z21 (nI mn) z26 f1 f4 f5 f6 f7 f8 f9 f10 f11 f12 f13 f15 f16 f17 f22 f23 f25 f27) sz) := by
  refine Met.ofW (cc := b_M_putWord) (maxL := 4) (ret := none) (by decide) rfl ?_
  intro p e s m args below meth c s₁ B hml hv
  obtain ⟨rfl, hsz, hP, hK, hD0⟩ := hv
  have hx := B.exec
  have hb := B.bytes
  have hr := B.returns
  have hw : ∀ w ∈ bg_W, w.before ([.ref o, .long (jw b)] : List Value).toArray s = true := fun w h => atoms_spec (ws := (Cond.code y_M_putWord b_M_putWord 4 none :: bg_W)) B.pre w (List.mem_cons_of_mem _ h)
  have hown : s.vm.findClass "TimeWordsModel" = some m.cls := findClass_of_methodNamed B.named
  have hlocks := B.notSynchronized
  subst hsz
  have hD := hD0.self (sz := s.heap.size)
  generalize hAe : va_A (mX T o a z0 z2 z3 z14 z18 z19 z20 z21 (nI mn) z26 f1 f4 f5 f6 f7 f8 f9 f10 f11 f12 f13 f15 f16 f17 f22 f23 f25 f27) s.heap.size = A at hD ⊢
  have hA : ∀ q : Nat, s.heap.size ≤ q → A q := fun q h => by rw [← hAe]; exact Or.inr h
  have hS : va_S A s.heap s.heap [] := va_S.rf
  have hl := lv_entry ([.ref o, .long (jw b)]) (n := 4) (Nat.le_of_ble_eq_true rfl)
  rw [lg_entry_eq]
  generalize (lg_sl ([.ref o, .long (jw b)]) ++ List.replicate (4 - (lg_sl ([.ref o, .long (jw b)])).length) Slot.unset).toArray = ls at hl ⊢
  have hl : lv_has ls 4 [(0, .ref o), (1, .long (jw b))] := hl
  have h7 := jl_le b
  refine lv_iconst (v := 0) hx hb d_M_putWord_0 (by decide) ?_
  refine lv_istore_n (lv' := [(3, .int 0), (0, .ref o), (1, .long (jw b))]) hx hb d_M_putWord_1 rfl hl (by decide) rfl (fun ls hl => ?_)
  have loop : ∀ (n : Nat) (k : Nat) (g23 : Nat → Int32), (k ≤ jl b) → (cpI f23 (jc b) g23 mn k) → ∀ (H : Heap) (locs : List Loc), va_P D gC (mX T o a z0 z2 z3 z14 z18 z19 z20 z21 (nI (mn + k)) z26 f1 f4 f5 f6 f7 f8 f9 f10 f11 f12 f13 f15 f16 f17 f22 g23 f25 f27) H → va_D A (mX T o a z0 z2 z3 z14 z18 z19 z20 z21 (nI (mn + k)) z26 f1 f4 f5 f6 f7 f8 f9 f10 f11 f12 f13 f15 f16 f17 f22 g23 f25 f27) → va_S A s.heap H locs → ∀ (ls : Array Slot), lv_has ls 4 [(0, .ref o), (1, .long (jw b)), (3, .int (nI k))] → jl b - k < n → W p l e (headSpec (Cond.code y_M_putWord b_M_putWord 4 none :: bg_W) ({ frames := 2, cells := 0, slots := 0, locals := 44 })).room s m ([.ref o, .long (jw b)] : List Value).toArray below meth c H locs 0 0 (MQ below (va_Qv (fun u : (Nat → Int32) × Int32 => match u with | (g23, w24) => w24 = nI (mn + jl b) ∧ cpI f23 (jc b) g23 mn (jl b)) (qB D T A (fun u : (Nat → Int32) × Int32 => match u with | (g23, w24) => mX T o a z0 z2 z3 z14 z18 z19 z20 z21 w24 z26 f1 f4 f5 f6 f7 f8 f9 f10 f11 f12 f13 f15 f16 f17 f22 g23 f25 f27)) A) ([.ref o, .long (jw b)] : List Value).toArray s 0 0 A) (F0 m 2 ls []) := by
    intro n
    induction n with
    | zero => intro k g23 hk hC H locs hP hD hS ls hl hm; exact absurd hm (Nat.not_lt_zero _)
    | succ n ih =>
      intro k g23 hk hC H locs hP hD hS ls hl hm
      refine lv_iload_n hx hb d_M_putWord_2 rfl (lv_at hl 2 rfl) ?_
      refine lv_lload_n hx hb d_M_putWord_3 rfl (lv_at hl 1 rfl) ?_
      refine vp_callSi (va_Run.run (va_runS (As := [.long (jw b)]) (rest := [.int (nI k)]) ⟨hx, hb, hml, hown, hw⟩ (k_M_signs l b hy0) (va_cwS 1 hw (bg_S ml_M_106 wt_M_signs wz_M wc_M_signs) rfl rfl rfl (by decide +kernel) ⟨Nat.le_of_ble_eq_true rfl, Nat.le_of_ble_eq_true rfl⟩) ⟨nP_b, nP_p⟩ rfl rfl hl.1 rfl (lv_room (Nat.le_of_ble_eq_true rfl)) d_M_putWord_4 ⟨Nat.le_of_ble_eq_true rfl, Nat.le_of_ble_eq_true rfl⟩)) (fun r1 hr1 => ?_)
      replace hr1 := hr1.symm; subst hr1
      refine lv_icmp_ge (tgt := 25) hx hb d_M_putWord_7 (by decide) (fun c2 => ?_) (fun c2 => ?_)
      · have c2 := nc_le (a := jl b) (b := k) c2 (by omega) (by omega)
        exact W.vret hx hb hr (fun t ht hW => ⟨⟨(g23, nI (mn + k)), rfl, (by have e9 : k = jl b := (by omega); subst e9; exact ⟨rfl, hC⟩), by rw [ht]; exact hP, va_K.moved hW.alike hK, hD⟩, hS.F ht⟩) hS.2.2 d_M_putWord_25
      · have c2 := nc_nle (a := jl b) (b := k) c2 (by omega) (by omega)
        refine lv_aload_n hx hb d_M_putWord_10 rfl (lv_at hl 0 rfl) ?_
        refine lv_lload_n hx hb d_M_putWord_11 rfl (lv_at hl 1 rfl) ?_
        refine lv_iload_n hx hb d_M_putWord_12 rfl (lv_at hl 2 rfl) ?_
        refine vp_callSi (va_Run.run (va_runS (As := [.long (jw b), .int (nI k)]) (rest := [.ref o]) ⟨hx, hb, hml, hown, hw⟩ (k_M_signOf l b k hy0 (by omega)) (va_cwS 2 hw (bg_S ml_M_128 wt_M_signOf wz_M wc_M_signOf) rfl rfl rfl (by decide +kernel) ⟨Nat.le_of_ble_eq_true rfl, Nat.le_of_ble_eq_true rfl⟩) ⟨nP_b, nP_p⟩ rfl rfl hl.1 rfl (lv_room (Nat.le_of_ble_eq_true rfl)) d_M_putWord_13 ⟨Nat.le_of_ble_eq_true rfl, Nat.le_of_ble_eq_true rfl⟩)) (fun r3 hr3 => ?_)
        replace hr3 := hr3.symm; subst hr3
        refine g_callv (va_runV (As := [.int (jc b k)]) (rest := []) ⟨hx, hb, hml, hown, hw⟩ (k_M_put l D T o a z0 z2 z3 z14 z18 z19 z20 z21 (mn + k) z26 f1 f4 f5 f6 f7 f8 f9 f10 f11 f12 f13 f15 f16 f17 f22 g23 f25 f27 H.size (jc b k) (by omega)) (cwV 1 hw (bg_V ml_M_183 wi_M_put wv_M_put wz_M wc_M_put) rfl rfl rfl (by decide +kernel) ⟨Nat.le_of_ble_eq_true rfl, Nat.le_of_ble_eq_true rfl⟩) ⟨qP_b, va_recv hK hP (ci := 6) (q0 := 0) rfl rfl, qP_p hP hK hD⟩ rfl rfl hl.1 rfl (lv_room (Nat.le_of_ble_eq_true rfl)) d_M_putWord_16 ⟨Nat.le_of_ble_eq_true rfl, Nat.le_of_ble_eq_true rfl⟩) hD hS hA (fun u9 H locs hr4 hP hD hS => ?_)
        obtain ⟨u5, u6⟩ := u9
        dsimp only at hr4 hP hD
        obtain ⟨q0, q1⟩ := hr4
        replace q0 := q0.symm; subst q0; replace q1 := q1.symm; subst q1
        have hP : va_P D gC (mX T o a z0 z2 z3 z14 z18 z19 z20 z21 (nI ((mn + k) + 1)) z26 f1 f4 f5 f6 f7 f8 f9 f10 f11 f12 f13 f15 f16 f17 f22 (upd g23 (mn + k) (jc b k)) f25 f27) H := hP
        have hD : va_D A (mX T o a z0 z2 z3 z14 z18 z19 z20 z21 (nI ((mn + k) + 1)) z26 f1 f4 f5 f6 f7 f8 f9 f10 f11 f12 f13 f15 f16 f17 f22 (upd g23 (mn + k) (jc b k)) f25 f27) := hD
        refine lv_iinc (v := nI (k + 1)) (lv' := [(3, .int (nI (k + 1))), (0, .ref o), (1, .long (jw b))]) hx hb d_M_putWord_19 hl (k := 2) rfl (nI_add k 1) (by decide) rfl (fun ls hl => ?_)
        refine lv_goto (tgt := 2) hx hb d_M_putWord_22 (by decide) ?_
        exact ih (k + 1) (upd g23 (mn + k) (jc b k)) (by omega) (cpI_s hC) _ _ hP hD hS ls (lv_sub hl [1, 2, 0] rfl) (by omega)
  exact loop ((jl b - 0) + 1) 0 f23 (Nat.zero_le _) cpI_0 _ _ hP hD hS ls (lv_sub hl [1, 2, 0] rfl) (Nat.lt_succ_self _)

set_option maxHeartbeats 4000000 in
set_option maxRecDepth 100000 in
theorem k_M_isBetter (l : Launch) (D : va_G) (T : gT) (o : Nat) (a : Nat → Nat) (z0 z2 z3 z14 z18 z19 z20 z21 : Int32) (mn bn : Nat) (f1 f4 f5 f6 f7 f8 f9 f10 f11 f12 f13 f15 f16 f17 f22 f23 f25 f27 : Nat → Int32) (hy0 : 1 ≤ mn) (hy1 : mn ≤ 40) (hy2 : bn ≤ 40) : Met l y_M_isBetter (Cond.code y_M_isBetter b_M_isBetter 2 (some .boolean) :: bg_W) ({ frames := 0, cells := 0, slots := 0, locals := 0 }) (sP D T (mX T o a z0 z2 z3 z14 z18 z19 z20 z21 (nI mn) (nI bn) f1 f4 f5 f6 f7 f8 f9 f10 f11 f12 f13 f15 f16 f17 f22 f23 f25 f27) [.ref o]) (vp_Si (fun r : Int32 => (r = 1 ∧ (bn = 0 ∨ j_sh f23 f25 mn bn)) ∨ (r = 0 ∧ ¬ (bn = 0 ∨ j_sh f23 f25 mn bn)))) 0 0 (fun _ => False) := by
  refine Met.ofW (cc := b_M_isBetter) (maxL := 2) (ret := (some .boolean)) (by decide) rfl ?_
  intro p e s m args below meth c s₁ B hml hv
  obtain ⟨rfl, hP, hK⟩ := hv
  have hx := B.exec
  have hb := B.bytes
  have hr := B.returns
  have hw : ∀ w ∈ bg_W, w.before ([.ref o] : List Value).toArray s = true := fun w h => atoms_spec (ws := (Cond.code y_M_isBetter b_M_isBetter 2 (some .boolean) :: bg_W)) B.pre w (List.mem_cons_of_mem _ h)
  have hown : s.vm.findClass "TimeWordsModel" = some m.cls := findClass_of_methodNamed B.named
  have hlocks := B.notSynchronized
  have hl := lv_entry ([.ref o]) (n := 2) (Nat.le_of_ble_eq_true rfl)
  rw [lg_entry_eq]
  generalize (lg_sl ([.ref o]) ++ List.replicate (2 - (lg_sl ([.ref o])).length) Slot.unset).toArray = ls at hl ⊢
  have hl : lv_has ls 2 [(0, .ref o)] := hl
  refine lv_aload_n hx hb d_M_isBetter_0 rfl (lv_at hl 0 rfl) ?_
  refine va_get (D := D) (ci := 6) (v := .int (nI bn)) (C := "TimeWordsModel") (T := F_M) (N := 28) hx hb hw in_M hown hK hP 0 rfl rfl 26 (by decide) (hw _ fl_M_187) (fun _ h9 => h9) rfl d_M_isBetter_1 ?_
  refine lv_if_eq (tgt := 18) hx hb d_M_isBetter_4 (by decide) (fun c1 => ?_) (fun c1 => ?_)
  · have c1 := nc_eq (a := bn) (b := 0) c1 (by omega) (by omega)
    refine lv_aload_n hx hb d_M_isBetter_18 rfl (lv_at hl 0 rfl) ?_
    refine va_get (D := D) (ci := 6) (v := .int (nI bn)) (C := "TimeWordsModel") (T := F_M) (N := 28) hx hb hw in_M hown hK hP 0 rfl rfl 26 (by decide) (hw _ fl_M_187) (fun _ h9 => h9) rfl d_M_isBetter_19 ?_
    refine lv_if_eq (tgt := 36) hx hb d_M_isBetter_22 (by decide) (fun c2 => ?_) (fun c2 => ?_)
    · have c2 := nc_eq (a := bn) (b := 0) c2 (by omega) (by omega)
      refine lv_iconst (v := 1) hx hb d_M_isBetter_36 (by decide) ?_
      refine lv_goto (tgt := 41) hx hb d_M_isBetter_37 (by decide) ?_
      exact W.zret (v := 1) hx hb hr rfl (fun t ht hW => ⟨1, rfl, (Or.inl ⟨rfl, by rcases Nat.eq_zero_or_pos bn with q | q; exact Or.inl q; exact Or.inr (Or.inl (by omega))⟩), ht⟩) (fun _ h => nomatch h) d_M_isBetter_41
    · have c2 := nc_ne (a := bn) (b := 0) c2 (by omega) (by omega)
      refine lv_aload_n hx hb d_M_isBetter_25 rfl (lv_at hl 0 rfl) ?_
      refine va_get (D := D) (ci := 6) (v := .int (nI mn)) (C := "TimeWordsModel") (T := F_M) (N := 28) hx hb hw in_M hown hK hP 0 rfl rfl 24 (by decide) (hw _ fl_M_180) (fun _ h9 => h9) rfl d_M_isBetter_26 ?_
      refine lv_aload_n hx hb d_M_isBetter_29 rfl (lv_at hl 0 rfl) ?_
      refine va_get (D := D) (ci := 6) (v := .int (nI bn)) (C := "TimeWordsModel") (T := F_M) (N := 28) hx hb hw in_M hown hK hP 0 rfl rfl 26 (by decide) (hw _ fl_M_187) (fun _ h9 => h9) rfl d_M_isBetter_30 ?_
      refine lv_icmp_ge (tgt := 40) hx hb d_M_isBetter_33 (by decide) (fun c3 => ?_) (fun c3 => ?_)
      · have c3 := nc_le (a := bn) (b := mn) c3 (by omega) (by omega)
        refine lv_iconst (v := 0) hx hb d_M_isBetter_40 (by decide) ?_
        exact W.zret (v := 0) hx hb hr rfl (fun t ht hW => ⟨0, rfl, (Or.inr ⟨rfl, fun q => by rcases q with q | q | q <;> omega⟩), ht⟩) (fun _ h => nomatch h) d_M_isBetter_41
      · have c3 := nc_nle (a := bn) (b := mn) c3 (by omega) (by omega)
        refine lv_iconst (v := 1) hx hb d_M_isBetter_36 (by decide) ?_
        refine lv_goto (tgt := 41) hx hb d_M_isBetter_37 (by decide) ?_
        exact W.zret (v := 1) hx hb hr rfl (fun t ht hW => ⟨1, rfl, (Or.inl ⟨rfl, by rcases Nat.eq_zero_or_pos bn with q | q; exact Or.inl q; exact Or.inr (Or.inl (by omega))⟩), ht⟩) (fun _ h => nomatch h) d_M_isBetter_41
  · have c1 := nc_ne (a := bn) (b := 0) c1 (by omega) (by omega)
    refine lv_aload_n hx hb d_M_isBetter_7 rfl (lv_at hl 0 rfl) ?_
    refine va_get (D := D) (ci := 6) (v := .int (nI mn)) (C := "TimeWordsModel") (T := F_M) (N := 28) hx hb hw in_M hown hK hP 0 rfl rfl 24 (by decide) (hw _ fl_M_180) (fun _ h9 => h9) rfl d_M_isBetter_8 ?_
    refine lv_aload_n hx hb d_M_isBetter_11 rfl (lv_at hl 0 rfl) ?_
    refine va_get (D := D) (ci := 6) (v := .int (nI bn)) (C := "TimeWordsModel") (T := F_M) (N := 28) hx hb hw in_M hown hK hP 0 rfl rfl 26 (by decide) (hw _ fl_M_187) (fun _ h9 => h9) rfl d_M_isBetter_12 ?_
    refine lv_icmp_eq (tgt := 42) hx hb d_M_isBetter_15 (by decide) (fun c4 => ?_) (fun c4 => ?_)
    · have c4 := nc_eq (a := mn) (b := bn) c4 (by omega) (by omega)
      refine lv_iconst (v := 0) hx hb d_M_isBetter_42 (by decide) ?_
      refine lv_istore_n (lv' := [(1, .int 0), (0, .ref o)]) hx hb d_M_isBetter_43 rfl hl (by decide) rfl (fun ls hl => ?_)
      have hmb : mn = bn := by omega
      have loop : ∀ (n : Nat) (k : Nat), (k < mn) → (∀ i, i < k → f23 i = f25 i) → ∀ (ls : Array Slot), lv_has ls 2 [(0, .ref o), (1, .int (nI k))] → mn - k < n → W p l e (headSpec (Cond.code y_M_isBetter b_M_isBetter 2 (some .boolean) :: bg_W) ({ frames := 0, cells := 0, slots := 0, locals := 0 })).room s m ([.ref o] : List Value).toArray below meth c s.heap [] 0 0 (MQ below (vp_Si (fun r : Int32 => (r = 1 ∧ (bn = 0 ∨ j_sh f23 f25 mn bn)) ∨ (r = 0 ∧ ¬ (bn = 0 ∨ j_sh f23 f25 mn bn)))) ([.ref o] : List Value).toArray s 0 0 (fun _ => False)) (F0 m 44 ls []) := by
        intro n
        induction n with
        | zero => intro k hk hE ls hl hm; exact absurd hm (Nat.not_lt_zero _)
        | succ n ih =>
          intro k hk hE ls hl hm
          refine lv_iload_n hx hb d_M_isBetter_44 rfl (lv_at hl 1 rfl) ?_
          refine lv_aload_n hx hb d_M_isBetter_45 rfl (lv_at hl 0 rfl) ?_
          refine va_get (D := D) (ci := 6) (v := .int (nI mn)) (C := "TimeWordsModel") (T := F_M) (N := 28) hx hb hw in_M hown hK hP 0 rfl rfl 24 (by decide) (hw _ fl_M_180) (fun _ h9 => h9) rfl d_M_isBetter_46 ?_
          refine lv_iconst (v := 1) hx hb d_M_isBetter_49 (by decide) ?_
          refine lv_isub hx hb d_M_isBetter_50 ?_
          rw [show (nI mn) - 1 = nI (mn - 1) from pk_sub (a := mn) (b := 1) (by omega)]
          refine lv_icmp_ge (tgt := 75) hx hb d_M_isBetter_51 (by decide) (fun c5 => ?_) (fun c5 => ?_)
          · have c5 := nc_le (a := mn - 1) (b := k) c5 (by omega) (by omega)
            refine lv_aload_n hx hb d_M_isBetter_75 rfl (lv_at hl 0 rfl) ?_
            refine va_get (D := D) (ci := 6) (v := .ref (a 23)) (C := "TimeWordsModel") (T := F_M) (N := 28) hx hb hw in_M hown hK hP 0 rfl rfl 23 (by decide) (hw _ fl_M_60) (fun _ h9 => h9) rfl d_M_isBetter_76 ?_
            refine lv_iload_n hx hb d_M_isBetter_79 rfl (lv_at hl 1 rfl) ?_
            refine va_iald hx hb hK hP 16 0 rfl rfl (by first | assumption | exact vp_in_nI (by omega) (by omega)) d_M_isBetter_80 ?_
            rw [show (nI k).toNatClampNeg = k from nI_clamp (by omega)]
            refine lv_aload_n hx hb d_M_isBetter_81 rfl (lv_at hl 0 rfl) ?_
            refine va_get (D := D) (ci := 6) (v := .ref (a 25)) (C := "TimeWordsModel") (T := F_M) (N := 28) hx hb hw in_M hown hK hP 0 rfl rfl 25 (by decide) (hw _ fl_M_63) (fun _ h9 => h9) rfl d_M_isBetter_82 ?_
            refine lv_iload_n hx hb d_M_isBetter_85 rfl (lv_at hl 1 rfl) ?_
            refine va_iald hx hb hK hP 17 0 rfl rfl (by first | assumption | exact vp_in_nI (by omega) (by omega)) d_M_isBetter_86 ?_
            rw [show (nI k).toNatClampNeg = k from nI_clamp (by omega)]
            refine lv_icmp_ge (tgt := 94) hx hb d_M_isBetter_87 (by decide) (fun c6 => ?_) (fun c6 => ?_)
            · refine lv_iconst (v := 0) hx hb d_M_isBetter_94 (by decide) ?_
              exact W.zret (v := 0) hx hb hr rfl (fun t ht hW => ⟨0, rfl, (Or.inr ⟨rfl, fun q => by
                  rcases q with q | q | ⟨-, k2, q1, q2, q3⟩
                  · omega
                  · omega
                  · rcases Nat.lt_trichotomy k2 k with q4 | q4 | q4
                    · rw [hE k2 q4] at q3; exact absurd q3 Int32.lt_irrefl
                    · subst q4; exact k2_nlt c6 q3
                    · first | omega | exact absurd (q2 k q4) (by assumption)⟩), ht⟩) (fun _ h => nomatch h) d_M_isBetter_95
            · refine lv_iconst (v := 1) hx hb d_M_isBetter_90 (by decide) ?_
              refine lv_goto (tgt := 95) hx hb d_M_isBetter_91 (by decide) ?_
              exact W.zret (v := 1) hx hb hr rfl (fun t ht hW => ⟨1, rfl, (Or.inl ⟨rfl, Or.inr (Or.inr ⟨hmb, k, hk, hE, k2_lt c6⟩)⟩), ht⟩) (fun _ h => nomatch h) d_M_isBetter_95
          · have c5 := nc_nle (a := mn - 1) (b := k) c5 (by omega) (by omega)
            refine lv_aload_n hx hb d_M_isBetter_54 rfl (lv_at hl 0 rfl) ?_
            refine va_get (D := D) (ci := 6) (v := .ref (a 23)) (C := "TimeWordsModel") (T := F_M) (N := 28) hx hb hw in_M hown hK hP 0 rfl rfl 23 (by decide) (hw _ fl_M_60) (fun _ h9 => h9) rfl d_M_isBetter_55 ?_
            refine lv_iload_n hx hb d_M_isBetter_58 rfl (lv_at hl 1 rfl) ?_
            refine va_iald hx hb hK hP 16 0 rfl rfl (by first | assumption | exact vp_in_nI (by omega) (by omega)) d_M_isBetter_59 ?_
            rw [show (nI k).toNatClampNeg = k from nI_clamp (by omega)]
            refine lv_aload_n hx hb d_M_isBetter_60 rfl (lv_at hl 0 rfl) ?_
            refine va_get (D := D) (ci := 6) (v := .ref (a 25)) (C := "TimeWordsModel") (T := F_M) (N := 28) hx hb hw in_M hown hK hP 0 rfl rfl 25 (by decide) (hw _ fl_M_63) (fun _ h9 => h9) rfl d_M_isBetter_61 ?_
            refine lv_iload_n hx hb d_M_isBetter_64 rfl (lv_at hl 1 rfl) ?_
            refine va_iald hx hb hK hP 17 0 rfl rfl (by first | assumption | exact vp_in_nI (by omega) (by omega)) d_M_isBetter_65 ?_
            rw [show (nI k).toNatClampNeg = k from nI_clamp (by omega)]
            refine lv_icmp_ne (tgt := 75) hx hb d_M_isBetter_66 (by decide) (fun c7 => ?_) (fun c7 => ?_)
            · refine lv_aload_n hx hb d_M_isBetter_75 rfl (lv_at hl 0 rfl) ?_
              refine va_get (D := D) (ci := 6) (v := .ref (a 23)) (C := "TimeWordsModel") (T := F_M) (N := 28) hx hb hw in_M hown hK hP 0 rfl rfl 23 (by decide) (hw _ fl_M_60) (fun _ h9 => h9) rfl d_M_isBetter_76 ?_
              refine lv_iload_n hx hb d_M_isBetter_79 rfl (lv_at hl 1 rfl) ?_
              refine va_iald hx hb hK hP 16 0 rfl rfl (by first | assumption | exact vp_in_nI (by omega) (by omega)) d_M_isBetter_80 ?_
              rw [show (nI k).toNatClampNeg = k from nI_clamp (by omega)]
              refine lv_aload_n hx hb d_M_isBetter_81 rfl (lv_at hl 0 rfl) ?_
              refine va_get (D := D) (ci := 6) (v := .ref (a 25)) (C := "TimeWordsModel") (T := F_M) (N := 28) hx hb hw in_M hown hK hP 0 rfl rfl 25 (by decide) (hw _ fl_M_63) (fun _ h9 => h9) rfl d_M_isBetter_82 ?_
              refine lv_iload_n hx hb d_M_isBetter_85 rfl (lv_at hl 1 rfl) ?_
              refine va_iald hx hb hK hP 17 0 rfl rfl (by first | assumption | exact vp_in_nI (by omega) (by omega)) d_M_isBetter_86 ?_
              rw [show (nI k).toNatClampNeg = k from nI_clamp (by omega)]
              refine lv_icmp_ge (tgt := 94) hx hb d_M_isBetter_87 (by decide) (fun c8 => ?_) (fun c8 => ?_)
              · refine lv_iconst (v := 0) hx hb d_M_isBetter_94 (by decide) ?_
                exact W.zret (v := 0) hx hb hr rfl (fun t ht hW => ⟨0, rfl, (Or.inr ⟨rfl, fun q => by
                    rcases q with q | q | ⟨-, k2, q1, q2, q3⟩
                    · omega
                    · omega
                    · rcases Nat.lt_trichotomy k2 k with q4 | q4 | q4
                      · rw [hE k2 q4] at q3; exact absurd q3 Int32.lt_irrefl
                      · subst q4; exact k2_nlt c8 q3
                      · first | omega | exact absurd (q2 k q4) (by assumption)⟩), ht⟩) (fun _ h => nomatch h) d_M_isBetter_95
              · refine lv_iconst (v := 1) hx hb d_M_isBetter_90 (by decide) ?_
                refine lv_goto (tgt := 95) hx hb d_M_isBetter_91 (by decide) ?_
                exact W.zret (v := 1) hx hb hr rfl (fun t ht hW => ⟨1, rfl, (Or.inl ⟨rfl, Or.inr (Or.inr ⟨hmb, k, hk, hE, k2_lt c8⟩)⟩), ht⟩) (fun _ h => nomatch h) d_M_isBetter_95
            · refine lv_iinc (v := nI (k + 1)) (lv' := [(1, .int (nI (k + 1))), (0, .ref o)]) hx hb d_M_isBetter_69 hl (k := 1) rfl (nI_add k 1) (by decide) rfl (fun ls hl => ?_)
              refine lv_goto (tgt := 44) hx hb d_M_isBetter_72 (by decide) ?_
              exact ih (k + 1) (by omega) (lt_s hE c7) ls (lv_sub hl [1, 0] rfl) (by omega)
      exact loop ((mn - 0) + 1) 0 (by omega) lt_0 ls (lv_sub hl [1, 0] rfl) (Nat.lt_succ_self _)
    · have c4 := nc_ne (a := mn) (b := bn) c4 (by omega) (by omega)
      refine lv_aload_n hx hb d_M_isBetter_18 rfl (lv_at hl 0 rfl) ?_
      refine va_get (D := D) (ci := 6) (v := .int (nI bn)) (C := "TimeWordsModel") (T := F_M) (N := 28) hx hb hw in_M hown hK hP 0 rfl rfl 26 (by decide) (hw _ fl_M_187) (fun _ h9 => h9) rfl d_M_isBetter_19 ?_
      refine lv_if_eq (tgt := 36) hx hb d_M_isBetter_22 (by decide) (fun c9 => ?_) (fun c9 => ?_)
      · have c9 := nc_eq (a := bn) (b := 0) c9 (by omega) (by omega)
        refine lv_iconst (v := 1) hx hb d_M_isBetter_36 (by decide) ?_
        refine lv_goto (tgt := 41) hx hb d_M_isBetter_37 (by decide) ?_
        exact W.zret (v := 1) hx hb hr rfl (fun t ht hW => ⟨1, rfl, (Or.inl ⟨rfl, by rcases Nat.eq_zero_or_pos bn with q | q; exact Or.inl q; exact Or.inr (Or.inl (by omega))⟩), ht⟩) (fun _ h => nomatch h) d_M_isBetter_41
      · have c9 := nc_ne (a := bn) (b := 0) c9 (by omega) (by omega)
        refine lv_aload_n hx hb d_M_isBetter_25 rfl (lv_at hl 0 rfl) ?_
        refine va_get (D := D) (ci := 6) (v := .int (nI mn)) (C := "TimeWordsModel") (T := F_M) (N := 28) hx hb hw in_M hown hK hP 0 rfl rfl 24 (by decide) (hw _ fl_M_180) (fun _ h9 => h9) rfl d_M_isBetter_26 ?_
        refine lv_aload_n hx hb d_M_isBetter_29 rfl (lv_at hl 0 rfl) ?_
        refine va_get (D := D) (ci := 6) (v := .int (nI bn)) (C := "TimeWordsModel") (T := F_M) (N := 28) hx hb hw in_M hown hK hP 0 rfl rfl 26 (by decide) (hw _ fl_M_187) (fun _ h9 => h9) rfl d_M_isBetter_30 ?_
        refine lv_icmp_ge (tgt := 40) hx hb d_M_isBetter_33 (by decide) (fun c10 => ?_) (fun c10 => ?_)
        · have c10 := nc_le (a := bn) (b := mn) c10 (by omega) (by omega)
          refine lv_iconst (v := 0) hx hb d_M_isBetter_40 (by decide) ?_
          exact W.zret (v := 0) hx hb hr rfl (fun t ht hW => ⟨0, rfl, (Or.inr ⟨rfl, fun q => by rcases q with q | q | q <;> omega⟩), ht⟩) (fun _ h => nomatch h) d_M_isBetter_41
        · have c10 := nc_nle (a := bn) (b := mn) c10 (by omega) (by omega)
          refine lv_iconst (v := 1) hx hb d_M_isBetter_36 (by decide) ?_
          refine lv_goto (tgt := 41) hx hb d_M_isBetter_37 (by decide) ?_
          exact W.zret (v := 1) hx hb hr rfl (fun t ht hW => ⟨1, rfl, (Or.inl ⟨rfl, by rcases Nat.eq_zero_or_pos bn with q | q; exact Or.inl q; exact Or.inr (Or.inl (by omega))⟩), ht⟩) (fun _ h => nomatch h) d_M_isBetter_41

set_option maxHeartbeats 4000000 in
set_option maxRecDepth 100000 in
theorem k_M_says (l : Launch) (D : va_G) (T : gT) (o : Nat) (a : Nat → Nat) (z0 z2 z3 z14 z18 z19 z20 z21 z24 z26 : Int32) (f1 f4 f5 f6 f7 f8 f9 f10 f11 f12 f13 f15 f16 f17 f22 f23 f25 f27 : Nat → Int32) (sz : Nat) (j : Nat) (bo : Option Nat) (hy0 : j < 60) (hy1 : ∀ b, bo = some b → b < 6) : Met l y_M_says (Cond.code y_M_says b_M_says 5 (some .boolean) :: bg_W) ({ frames := 1, cells := 0, slots := 0, locals := 23 }) (qP D T (mX T o a z0 z2 z3 z14 z18 z19 z20 z21 z24 z26 f1 f4 f5 f6 f7 f8 f9 f10 f11 f12 f13 f15 f16 f17 f22 f23 f25 f27) [.ref o, .int (nI j), .int (j_oi bo)] sz) (va_Qi (fun (r : Int32) (u : Int32 × Int32 × Int32) => match u with | (w19, w20, w21) => r = b2i (j_sb z18 bo (z19, z20, z21) (f17 j) (f15 j) (f16 j))) (qB D T (va_A (mX T o a z0 z2 z3 z14 z18 z19 z20 z21 z24 z26 f1 f4 f5 f6 f7 f8 f9 f10 f11 f12 f13 f15 f16 f17 f22 f23 f25 f27) sz) (fun u : Int32 × Int32 × Int32 => match u with | (w19, w20, w21) => mX T o a z0 z2 z3 z14 z18 w19 w20 w21 z24 z26 f1 f4 f5 f6 f7 f8 f9 f10 f11 f12 f13 f15 f16 f17 f22 f23 f25 f27)) (va_A (mX T o a z0 z2 z3 z14 z18 z19 z20 z21 z24 z26 f1 f4 f5 f6 f7 f8 f9 f10 f11 f12 f13 f15 f16 f17 f22 f23 f25 f27) sz)) 0 0 (va_A (mX T o a z0 z2 z3 z14 z18 z19 z20 z21 z24 z26 f1 f4 f5 f6 f7 f8 f9 f10 f11 f12 f13 f15 f16 f17 f22 f23 f25 f27) sz) := by
  refine Met.ofW (cc := b_M_says) (maxL := 5) (ret := (some .boolean)) (by decide) rfl ?_
  intro p e s m args below meth c s₁ B hml hv
  obtain ⟨rfl, hsz, hP, hK, hD0⟩ := hv
  have hx := B.exec
  have hb := B.bytes
  have hr := B.returns
  have hw : ∀ w ∈ bg_W, w.before ([.ref o, .int (nI j), .int (j_oi bo)] : List Value).toArray s = true := fun w h => atoms_spec (ws := (Cond.code y_M_says b_M_says 5 (some .boolean) :: bg_W)) B.pre w (List.mem_cons_of_mem _ h)
  have hown : s.vm.findClass "TimeWordsModel" = some m.cls := findClass_of_methodNamed B.named
  have hlocks := B.notSynchronized
  subst hsz
  have hD := hD0.self (sz := s.heap.size)
  generalize hAe : va_A (mX T o a z0 z2 z3 z14 z18 z19 z20 z21 z24 z26 f1 f4 f5 f6 f7 f8 f9 f10 f11 f12 f13 f15 f16 f17 f22 f23 f25 f27) s.heap.size = A at hD ⊢
  have hA : ∀ q : Nat, s.heap.size ≤ q → A q := fun q h => by rw [← hAe]; exact Or.inr h
  have hS : va_S A s.heap s.heap [] := va_S.rf
  have hl := lv_entry ([.ref o, .int (nI j), .int (j_oi bo)]) (n := 5) (Nat.le_of_ble_eq_true rfl)
  rw [lg_entry_eq]
  generalize (lg_sl ([.ref o, .int (nI j), .int (j_oi bo)]) ++ List.replicate (5 - (lg_sl ([.ref o, .int (nI j), .int (j_oi bo)])).length) Slot.unset).toArray = ls at hl ⊢
  have hl : lv_has ls 5 [(0, .ref o), (1, .int (nI j)), (2, .int (j_oi bo))] := hl
  rcases bo with _ | b
  · have hl : lv_has ls 5 [(0, .ref o), (1, .int (nI j)), (2, .int (-1))] := hl
    have hoa : j_oa z18 none (z19, z20, z21) = some (z19, z20, z21) := rfl
    refine lv_iload_n hx hb d_M_says_0 rfl (lv_at hl 2 rfl) ?_
    refine lv_iconst (v := (-1)) hx hb d_M_says_1 (by decide) ?_
    refine lv_icmp_eq (tgt := 13) hx hb d_M_says_2 (by decide) (fun c1 => ?_) (fun c1 => absurd c1 (by decide))
    refine lv_iconst (v := 1) hx hb d_M_says_13 (by decide) ?_
    refine lv_goto (tgt := 18) hx hb d_M_says_14 (by decide) ?_
    refine lv_istore_n (lv' := [(3, .int 1), (0, .ref o), (1, .int (nI j)), (2, .int (-1))]) hx hb d_M_says_18 rfl hl (by decide) rfl (fun ls hl => ?_)
    refine lv_aload_n hx hb d_M_says_19 rfl (lv_at hl 1 rfl) ?_
    refine lv_iload_n hx hb d_M_says_20 rfl (lv_at hl 2 rfl) ?_
    refine lv_iconst (v := 0) hx hb d_M_says_21 (by decide) ?_
    refine vp_callSi (va_Run.run (va_runV (As := [.int (nI j), .int 0]) (rest := []) ⟨hx, hb, hml, hown, hw⟩ (k_M_isOpen l D T o a z0 z2 z3 z14 z18 z19 z20 z21 z24 z26 f1 f4 f5 f6 f7 f8 f9 f10 f11 f12 f13 f15 f16 f17 f22 f23 f25 f27 j 0 hy0) (cwV 2 hw (bg_V ml_M_167 wi_M_isOpen wv_M_isOpen wz_M wc_M_isOpen) rfl rfl rfl (by decide +kernel) ⟨Nat.le_of_ble_eq_true rfl, Nat.le_of_ble_eq_true rfl⟩) ⟨sP_b, va_recv hK hP (ci := 6) (q0 := 0) rfl rfl, sP_p hP hK⟩ rfl rfl hl.1 rfl (lv_room (Nat.le_of_ble_eq_true rfl)) d_M_says_22 ⟨Nat.le_of_ble_eq_true rfl, Nat.le_of_ble_eq_true rfl⟩)) (fun r2 hr2 => ?_)
    replace hr2 := hr2.symm; subst hr2
    refine lv_if_ne (tgt := 41) hx hb d_M_says_25 (by decide) (fun c3 => ?_) (fun c3 => ?_)
    · have c3 := b2i_t c3
      refine lv_iconst (v := 1) hx hb d_M_says_41 (by decide) ?_
      refine lv_goto (tgt := 46) hx hb d_M_says_42 (by decide) ?_
      refine lv_istore (lv' := [(4, .int 1), (3, .int 1), (0, .ref o), (1, .int (nI j)), (2, .int (-1))]) hx hb d_M_says_46 hl (by decide) rfl (fun ls hl => ?_)
      refine lv_iload_n hx hb d_M_says_48 rfl (lv_at hl 1 rfl) ?_
      refine lv_if_eq (tgt := 96) hx hb d_M_says_49 (by decide) (fun c4 => absurd c4 (by decide)) (fun c4 => ?_)
      refine lv_aload_n hx hb d_M_says_52 rfl (lv_at hl 2 rfl) ?_
      refine va_get (D := D) (ci := 6) (v := .int z21) (C := "TimeWordsModel") (T := F_M) (N := 28) hx hb hw in_M hown hK hP 0 rfl rfl 21 (by decide) (hw _ fl_M_138) (fun _ h9 => h9) rfl d_M_says_53 ?_
      refine lv_aload_n hx hb d_M_says_56 rfl (lv_at hl 2 rfl) ?_
      refine va_get (D := D) (ci := 6) (v := .ref (a 17)) (C := "TimeWordsModel") (T := F_M) (N := 28) hx hb hw in_M hown hK hP 0 rfl rfl 17 (by decide) (hw _ fl_M_50) (fun _ h9 => h9) rfl d_M_says_57 ?_
      refine lv_iload_n hx hb d_M_says_60 rfl (lv_at hl 3 rfl) ?_
      refine va_iald hx hb hK hP 14 0 rfl rfl (by first | assumption | exact vp_in_nI (by omega) (by omega)) d_M_says_61 ?_
      rw [show (nI j).toNatClampNeg = j from nI_clamp (by omega)]
      refine lv_icmp_ne (tgt := 96) hx hb d_M_says_62 (by decide) (fun c5 => ?_) (fun c5 => ?_)
      · refine lv_iconst (v := 0) hx hb d_M_says_96 (by decide) ?_
        exact W.zret (v := 0) hx hb hr rfl (fun t ht hW => ⟨⟨0, (z19, z20, z21), rfl, (by simp only [j_sb, hoa, j_sy, c3, decide_eq_false c5, Bool.true_and, Bool.false_and, Bool.and_false, Bool.true_or, Bool.false_or, Bool.and_true, Bool.or_true, Bool.or_false]; rfl), by rw [ht]; exact hP, va_K.moved hW.alike hK, hD⟩, hS.F ht⟩) hS.2.2 d_M_says_97
      · refine lv_iload hx hb d_M_says_65 (lv_at hl 0 rfl) ?_
        refine lv_if_eq (tgt := 96) hx hb d_M_says_67 (by decide) (fun c6 => absurd c6 (by decide)) (fun c6 => ?_)
        refine lv_aload_n hx hb d_M_says_70 rfl (lv_at hl 2 rfl) ?_
        refine lv_iload_n hx hb d_M_says_71 rfl (lv_at hl 3 rfl) ?_
        refine lv_iconst (v := 1) hx hb d_M_says_72 (by decide) ?_
        refine vp_callSi (va_Run.run (va_runV (As := [.int (nI j), .int 1]) (rest := []) ⟨hx, hb, hml, hown, hw⟩ (k_M_isOpen l D T o a z0 z2 z3 z14 z18 z19 z20 z21 z24 z26 f1 f4 f5 f6 f7 f8 f9 f10 f11 f12 f13 f15 f16 f17 f22 f23 f25 f27 j 1 hy0) (cwV 2 hw (bg_V ml_M_167 wi_M_isOpen wv_M_isOpen wz_M wc_M_isOpen) rfl rfl rfl (by decide +kernel) ⟨Nat.le_of_ble_eq_true rfl, Nat.le_of_ble_eq_true rfl⟩) ⟨sP_b, va_recv hK hP (ci := 6) (q0 := 0) rfl rfl, sP_p hP hK⟩ rfl rfl hl.1 rfl (lv_room (Nat.le_of_ble_eq_true rfl)) d_M_says_73 ⟨Nat.le_of_ble_eq_true rfl, Nat.le_of_ble_eq_true rfl⟩)) (fun r7 hr7 => ?_)
        replace hr7 := hr7.symm; subst hr7
        refine lv_if_ne (tgt := 92) hx hb d_M_says_76 (by decide) (fun c8 => ?_) (fun c8 => ?_)
        · have c8 := b2i_t c8
          refine lv_iconst (v := 1) hx hb d_M_says_92 (by decide) ?_
          refine lv_goto (tgt := 97) hx hb d_M_says_93 (by decide) ?_
          exact W.zret (v := 1) hx hb hr rfl (fun t ht hW => ⟨⟨1, (z19, z20, z21), rfl, (by simp only [j_sb, hoa, j_sy, c3, decide_eq_true c5, c8, Bool.true_and, Bool.false_and, Bool.and_false, Bool.true_or, Bool.false_or, Bool.and_true, Bool.or_true, Bool.or_false]; rfl), by rw [ht]; exact hP, va_K.moved hW.alike hK, hD⟩, hS.F ht⟩) hS.2.2 d_M_says_97
        · have c8 := b2i_f c8
          refine lv_aload_n hx hb d_M_says_79 rfl (lv_at hl 2 rfl) ?_
          refine va_get (D := D) (ci := 6) (v := .ref (a 16)) (C := "TimeWordsModel") (T := F_M) (N := 28) hx hb hw in_M hown hK hP 0 rfl rfl 16 (by decide) (hw _ fl_M_47) (fun _ h9 => h9) rfl d_M_says_80 ?_
          refine lv_iload_n hx hb d_M_says_83 rfl (lv_at hl 3 rfl) ?_
          refine va_iald hx hb hK hP 13 0 rfl rfl (by first | assumption | exact vp_in_nI (by omega) (by omega)) d_M_says_84 ?_
          rw [show (nI j).toNatClampNeg = j from nI_clamp (by omega)]
          refine lv_aload_n hx hb d_M_says_85 rfl (lv_at hl 2 rfl) ?_
          refine va_get (D := D) (ci := 6) (v := .int z20) (C := "TimeWordsModel") (T := F_M) (N := 28) hx hb hw in_M hown hK hP 0 rfl rfl 20 (by decide) (hw _ fl_M_135) (fun _ h9 => h9) rfl d_M_says_86 ?_
          refine lv_icmp_ne (tgt := 96) hx hb d_M_says_89 (by decide) (fun c9 => ?_) (fun c9 => ?_)
          · refine lv_iconst (v := 0) hx hb d_M_says_96 (by decide) ?_
            exact W.zret (v := 0) hx hb hr rfl (fun t ht hW => ⟨⟨0, (z19, z20, z21), rfl, (by simp only [j_sb, hoa, j_sy, c3, decide_eq_true c5, c8, decide_eq_false c9, Bool.true_and, Bool.false_and, Bool.and_false, Bool.true_or, Bool.false_or, Bool.and_true, Bool.or_true, Bool.or_false]; rfl), by rw [ht]; exact hP, va_K.moved hW.alike hK, hD⟩, hS.F ht⟩) hS.2.2 d_M_says_97
          · refine lv_iconst (v := 1) hx hb d_M_says_92 (by decide) ?_
            refine lv_goto (tgt := 97) hx hb d_M_says_93 (by decide) ?_
            exact W.zret (v := 1) hx hb hr rfl (fun t ht hW => ⟨⟨1, (z19, z20, z21), rfl, (by simp only [j_sb, hoa, j_sy, c3, decide_eq_true c5, c8, decide_eq_true c9, Bool.true_and, Bool.false_and, Bool.and_false, Bool.true_or, Bool.false_or, Bool.and_true, Bool.or_true, Bool.or_false]; rfl), by rw [ht]; exact hP, va_K.moved hW.alike hK, hD⟩, hS.F ht⟩) hS.2.2 d_M_says_97
    · have c3 := b2i_f c3
      refine lv_aload_n hx hb d_M_says_28 rfl (lv_at hl 1 rfl) ?_
      refine va_get (D := D) (ci := 6) (v := .ref (a 15)) (C := "TimeWordsModel") (T := F_M) (N := 28) hx hb hw in_M hown hK hP 0 rfl rfl 15 (by decide) (hw _ fl_M_44) (fun _ h9 => h9) rfl d_M_says_29 ?_
      refine lv_iload_n hx hb d_M_says_32 rfl (lv_at hl 2 rfl) ?_
      refine va_iald hx hb hK hP 12 0 rfl rfl (by first | assumption | exact vp_in_nI (by omega) (by omega)) d_M_says_33 ?_
      rw [show (nI j).toNatClampNeg = j from nI_clamp (by omega)]
      refine lv_aload_n hx hb d_M_says_34 rfl (lv_at hl 1 rfl) ?_
      refine va_get (D := D) (ci := 6) (v := .int z19) (C := "TimeWordsModel") (T := F_M) (N := 28) hx hb hw in_M hown hK hP 0 rfl rfl 19 (by decide) (hw _ fl_M_132) (fun _ h9 => h9) rfl d_M_says_35 ?_
      refine lv_icmp_ne (tgt := 45) hx hb d_M_says_38 (by decide) (fun c10 => ?_) (fun c10 => ?_)
      · refine lv_iconst (v := 0) hx hb d_M_says_45 (by decide) ?_
        refine lv_istore (lv' := [(4, .int 0), (3, .int 1), (0, .ref o), (1, .int (nI j)), (2, .int (-1))]) hx hb d_M_says_46 hl (by decide) rfl (fun ls hl => ?_)
        refine lv_iload_n hx hb d_M_says_48 rfl (lv_at hl 1 rfl) ?_
        refine lv_if_eq (tgt := 96) hx hb d_M_says_49 (by decide) (fun c11 => absurd c11 (by decide)) (fun c11 => ?_)
        refine lv_aload_n hx hb d_M_says_52 rfl (lv_at hl 2 rfl) ?_
        refine va_get (D := D) (ci := 6) (v := .int z21) (C := "TimeWordsModel") (T := F_M) (N := 28) hx hb hw in_M hown hK hP 0 rfl rfl 21 (by decide) (hw _ fl_M_138) (fun _ h9 => h9) rfl d_M_says_53 ?_
        refine lv_aload_n hx hb d_M_says_56 rfl (lv_at hl 2 rfl) ?_
        refine va_get (D := D) (ci := 6) (v := .ref (a 17)) (C := "TimeWordsModel") (T := F_M) (N := 28) hx hb hw in_M hown hK hP 0 rfl rfl 17 (by decide) (hw _ fl_M_50) (fun _ h9 => h9) rfl d_M_says_57 ?_
        refine lv_iload_n hx hb d_M_says_60 rfl (lv_at hl 3 rfl) ?_
        refine va_iald hx hb hK hP 14 0 rfl rfl (by first | assumption | exact vp_in_nI (by omega) (by omega)) d_M_says_61 ?_
        rw [show (nI j).toNatClampNeg = j from nI_clamp (by omega)]
        refine lv_icmp_ne (tgt := 96) hx hb d_M_says_62 (by decide) (fun c12 => ?_) (fun c12 => ?_)
        · refine lv_iconst (v := 0) hx hb d_M_says_96 (by decide) ?_
          exact W.zret (v := 0) hx hb hr rfl (fun t ht hW => ⟨⟨0, (z19, z20, z21), rfl, (by simp only [j_sb, hoa, j_sy, c3, decide_eq_false c10, decide_eq_false c12, Bool.true_and, Bool.false_and, Bool.and_false, Bool.true_or, Bool.false_or, Bool.and_true, Bool.or_true, Bool.or_false]; rfl), by rw [ht]; exact hP, va_K.moved hW.alike hK, hD⟩, hS.F ht⟩) hS.2.2 d_M_says_97
        · refine lv_iload hx hb d_M_says_65 (lv_at hl 0 rfl) ?_
          refine lv_if_eq (tgt := 96) hx hb d_M_says_67 (by decide) (fun c13 => ?_) (fun c13 => absurd c13 (by decide))
          refine lv_iconst (v := 0) hx hb d_M_says_96 (by decide) ?_
          exact W.zret (v := 0) hx hb hr rfl (fun t ht hW => ⟨⟨0, (z19, z20, z21), rfl, (by simp only [j_sb, hoa, j_sy, c3, decide_eq_false c10, decide_eq_true c12, Bool.true_and, Bool.false_and, Bool.and_false, Bool.true_or, Bool.false_or, Bool.and_true, Bool.or_true, Bool.or_false]; rfl), by rw [ht]; exact hP, va_K.moved hW.alike hK, hD⟩, hS.F ht⟩) hS.2.2 d_M_says_97
      · refine lv_iconst (v := 1) hx hb d_M_says_41 (by decide) ?_
        refine lv_goto (tgt := 46) hx hb d_M_says_42 (by decide) ?_
        refine lv_istore (lv' := [(4, .int 1), (3, .int 1), (0, .ref o), (1, .int (nI j)), (2, .int (-1))]) hx hb d_M_says_46 hl (by decide) rfl (fun ls hl => ?_)
        refine lv_iload_n hx hb d_M_says_48 rfl (lv_at hl 1 rfl) ?_
        refine lv_if_eq (tgt := 96) hx hb d_M_says_49 (by decide) (fun c14 => absurd c14 (by decide)) (fun c14 => ?_)
        refine lv_aload_n hx hb d_M_says_52 rfl (lv_at hl 2 rfl) ?_
        refine va_get (D := D) (ci := 6) (v := .int z21) (C := "TimeWordsModel") (T := F_M) (N := 28) hx hb hw in_M hown hK hP 0 rfl rfl 21 (by decide) (hw _ fl_M_138) (fun _ h9 => h9) rfl d_M_says_53 ?_
        refine lv_aload_n hx hb d_M_says_56 rfl (lv_at hl 2 rfl) ?_
        refine va_get (D := D) (ci := 6) (v := .ref (a 17)) (C := "TimeWordsModel") (T := F_M) (N := 28) hx hb hw in_M hown hK hP 0 rfl rfl 17 (by decide) (hw _ fl_M_50) (fun _ h9 => h9) rfl d_M_says_57 ?_
        refine lv_iload_n hx hb d_M_says_60 rfl (lv_at hl 3 rfl) ?_
        refine va_iald hx hb hK hP 14 0 rfl rfl (by first | assumption | exact vp_in_nI (by omega) (by omega)) d_M_says_61 ?_
        rw [show (nI j).toNatClampNeg = j from nI_clamp (by omega)]
        refine lv_icmp_ne (tgt := 96) hx hb d_M_says_62 (by decide) (fun c15 => ?_) (fun c15 => ?_)
        · refine lv_iconst (v := 0) hx hb d_M_says_96 (by decide) ?_
          exact W.zret (v := 0) hx hb hr rfl (fun t ht hW => ⟨⟨0, (z19, z20, z21), rfl, (by simp only [j_sb, hoa, j_sy, c3, decide_eq_true c10, decide_eq_false c15, Bool.true_and, Bool.false_and, Bool.and_false, Bool.true_or, Bool.false_or, Bool.and_true, Bool.or_true, Bool.or_false]; rfl), by rw [ht]; exact hP, va_K.moved hW.alike hK, hD⟩, hS.F ht⟩) hS.2.2 d_M_says_97
        · refine lv_iload hx hb d_M_says_65 (lv_at hl 0 rfl) ?_
          refine lv_if_eq (tgt := 96) hx hb d_M_says_67 (by decide) (fun c16 => absurd c16 (by decide)) (fun c16 => ?_)
          refine lv_aload_n hx hb d_M_says_70 rfl (lv_at hl 2 rfl) ?_
          refine lv_iload_n hx hb d_M_says_71 rfl (lv_at hl 3 rfl) ?_
          refine lv_iconst (v := 1) hx hb d_M_says_72 (by decide) ?_
          refine vp_callSi (va_Run.run (va_runV (As := [.int (nI j), .int 1]) (rest := []) ⟨hx, hb, hml, hown, hw⟩ (k_M_isOpen l D T o a z0 z2 z3 z14 z18 z19 z20 z21 z24 z26 f1 f4 f5 f6 f7 f8 f9 f10 f11 f12 f13 f15 f16 f17 f22 f23 f25 f27 j 1 hy0) (cwV 2 hw (bg_V ml_M_167 wi_M_isOpen wv_M_isOpen wz_M wc_M_isOpen) rfl rfl rfl (by decide +kernel) ⟨Nat.le_of_ble_eq_true rfl, Nat.le_of_ble_eq_true rfl⟩) ⟨sP_b, va_recv hK hP (ci := 6) (q0 := 0) rfl rfl, sP_p hP hK⟩ rfl rfl hl.1 rfl (lv_room (Nat.le_of_ble_eq_true rfl)) d_M_says_73 ⟨Nat.le_of_ble_eq_true rfl, Nat.le_of_ble_eq_true rfl⟩)) (fun r17 hr17 => ?_)
          replace hr17 := hr17.symm; subst hr17
          refine lv_if_ne (tgt := 92) hx hb d_M_says_76 (by decide) (fun c18 => ?_) (fun c18 => ?_)
          · have c18 := b2i_t c18
            refine lv_iconst (v := 1) hx hb d_M_says_92 (by decide) ?_
            refine lv_goto (tgt := 97) hx hb d_M_says_93 (by decide) ?_
            exact W.zret (v := 1) hx hb hr rfl (fun t ht hW => ⟨⟨1, (z19, z20, z21), rfl, (by simp only [j_sb, hoa, j_sy, c3, decide_eq_true c10, decide_eq_true c15, c18, Bool.true_and, Bool.false_and, Bool.and_false, Bool.true_or, Bool.false_or, Bool.and_true, Bool.or_true, Bool.or_false]; rfl), by rw [ht]; exact hP, va_K.moved hW.alike hK, hD⟩, hS.F ht⟩) hS.2.2 d_M_says_97
          · have c18 := b2i_f c18
            refine lv_aload_n hx hb d_M_says_79 rfl (lv_at hl 2 rfl) ?_
            refine va_get (D := D) (ci := 6) (v := .ref (a 16)) (C := "TimeWordsModel") (T := F_M) (N := 28) hx hb hw in_M hown hK hP 0 rfl rfl 16 (by decide) (hw _ fl_M_47) (fun _ h9 => h9) rfl d_M_says_80 ?_
            refine lv_iload_n hx hb d_M_says_83 rfl (lv_at hl 3 rfl) ?_
            refine va_iald hx hb hK hP 13 0 rfl rfl (by first | assumption | exact vp_in_nI (by omega) (by omega)) d_M_says_84 ?_
            rw [show (nI j).toNatClampNeg = j from nI_clamp (by omega)]
            refine lv_aload_n hx hb d_M_says_85 rfl (lv_at hl 2 rfl) ?_
            refine va_get (D := D) (ci := 6) (v := .int z20) (C := "TimeWordsModel") (T := F_M) (N := 28) hx hb hw in_M hown hK hP 0 rfl rfl 20 (by decide) (hw _ fl_M_135) (fun _ h9 => h9) rfl d_M_says_86 ?_
            refine lv_icmp_ne (tgt := 96) hx hb d_M_says_89 (by decide) (fun c19 => ?_) (fun c19 => ?_)
            · refine lv_iconst (v := 0) hx hb d_M_says_96 (by decide) ?_
              exact W.zret (v := 0) hx hb hr rfl (fun t ht hW => ⟨⟨0, (z19, z20, z21), rfl, (by simp only [j_sb, hoa, j_sy, c3, decide_eq_true c10, decide_eq_true c15, c18, decide_eq_false c19, Bool.true_and, Bool.false_and, Bool.and_false, Bool.true_or, Bool.false_or, Bool.and_true, Bool.or_true, Bool.or_false]; rfl), by rw [ht]; exact hP, va_K.moved hW.alike hK, hD⟩, hS.F ht⟩) hS.2.2 d_M_says_97
            · refine lv_iconst (v := 1) hx hb d_M_says_92 (by decide) ?_
              refine lv_goto (tgt := 97) hx hb d_M_says_93 (by decide) ?_
              exact W.zret (v := 1) hx hb hr rfl (fun t ht hW => ⟨⟨1, (z19, z20, z21), rfl, (by simp only [j_sb, hoa, j_sy, c3, decide_eq_true c10, decide_eq_true c15, c18, decide_eq_true c19, Bool.true_and, Bool.false_and, Bool.and_false, Bool.true_or, Bool.false_or, Bool.and_true, Bool.or_true, Bool.or_false]; rfl), by rw [ht]; exact hP, va_K.moved hW.alike hK, hD⟩, hS.F ht⟩) hS.2.2 d_M_says_97
  · have hl : lv_has ls 5 [(0, .ref o), (1, .int (nI j)), (2, .int (nI b))] := hl
    have hb6 := hy1 b rfl
    refine lv_iload_n hx hb d_M_says_0 rfl (lv_at hl 2 rfl) ?_
    refine lv_iconst (v := (-1)) hx hb d_M_says_1 (by decide) ?_
    refine lv_icmp_eq (tgt := 13) hx hb d_M_says_2 (by decide) (fun c20 => absurd c20 ((fun e9 : nI b = -1 => absurd (e9 ▸ nI_pos' (n := b) (by omega)) (by decide)))) (fun c20 => ?_)
    refine lv_aload_n hx hb d_M_says_5 rfl (lv_at hl 0 rfl) ?_
    refine lv_iload_n hx hb d_M_says_6 rfl (lv_at hl 2 rfl) ?_
    refine g_calli (va_runV (As := [.int (nI b)]) (rest := []) ⟨hx, hb, hml, hown, hw⟩ (k_M_makes l D T o a z0 z2 z3 z14 z18 z19 z20 z21 z24 z26 f1 f4 f5 f6 f7 f8 f9 f10 f11 f12 f13 f15 f16 f17 f22 f23 f25 f27 s.heap.size (nI b)) (cwV 1 hw (bg_V ml_M_154 wi_M_makes wv_M_makes wz_M wc_M_makes) rfl rfl rfl (by decide +kernel) ⟨Nat.le_of_ble_eq_true rfl, Nat.le_of_ble_eq_true rfl⟩) ⟨qP_b, va_recv hK hP (ci := 6) (q0 := 0) rfl rfl, qP_p hP hK hD⟩ rfl rfl hl.1 rfl (lv_room (Nat.le_of_ble_eq_true rfl)) d_M_says_7 ⟨Nat.le_of_ble_eq_true rfl, Nat.le_of_ble_eq_true rfl⟩) hD hS hA (fun r21 u9 H locs hr21 hP hD hS => ?_)
    obtain ⟨u22, u23, u24⟩ := u9
    dsimp only at hr21 hP hD
    have hP : va_P D gC (mX T o a z0 z2 z3 z14 z18 u22 u23 u24 z24 z26 f1 f4 f5 f6 f7 f8 f9 f10 f11 f12 f13 f15 f16 f17 f22 f23 f25 f27) H := hP
    have hD : va_D A (mX T o a z0 z2 z3 z14 z18 u22 u23 u24 z24 z26 f1 f4 f5 f6 f7 f8 f9 f10 f11 f12 f13 f15 f16 f17 f22 f23 f25 f27) := hD
    have hmk : (r21 = 1 ∧ j_oa z18 (some b) (z19, z20, z21) = some (u22, u23, u24)) ∨ (r21 = 0 ∧ j_oa z18 (some b) (z19, z20, z21) = none) := by
      rcases hr21 with ⟨h1, h2, -⟩ | ⟨h1, h2, h3, h4, h5⟩
      · exact Or.inr ⟨h2, by show j_ap z18 b (z19, z20, z21) = none; rw [j_ap, if_neg h1]⟩
      · cases hq : j_mR (nI b) z18 z19 z20 with
        | true => rw [hq] at h2; exact Or.inl ⟨h2, by show j_ap z18 b (z19, z20, z21) = _; rw [j_ap, if_pos h1, if_pos hq, h3, h4, h5]⟩
        | false => rw [hq] at h2; exact Or.inr ⟨h2, by show j_ap z18 b (z19, z20, z21) = none; rw [j_ap, if_pos h1, if_neg (by rw [hq]; exact Bool.false_ne_true)]⟩
    rcases hmk with hmk | hmk
    · obtain ⟨hr9, hoa⟩ := hmk
      subst hr9
      refine lv_if_eq (tgt := 17) hx hb d_M_says_10 (by decide) (fun c25 => absurd c25 (by decide)) (fun c25 => ?_)
      refine lv_iconst (v := 1) hx hb d_M_says_13 (by decide) ?_
      refine lv_goto (tgt := 18) hx hb d_M_says_14 (by decide) ?_
      refine lv_istore_n (lv' := [(3, .int 1), (0, .ref o), (1, .int (nI j)), (2, .int (nI b))]) hx hb d_M_says_18 rfl hl (by decide) rfl (fun ls hl => ?_)
      refine lv_aload_n hx hb d_M_says_19 rfl (lv_at hl 1 rfl) ?_
      refine lv_iload_n hx hb d_M_says_20 rfl (lv_at hl 2 rfl) ?_
      refine lv_iconst (v := 0) hx hb d_M_says_21 (by decide) ?_
      refine vp_callSi (va_Run.run (va_runV (As := [.int (nI j), .int 0]) (rest := []) ⟨hx, hb, hml, hown, hw⟩ (k_M_isOpen l D T o a z0 z2 z3 z14 z18 u22 u23 u24 z24 z26 f1 f4 f5 f6 f7 f8 f9 f10 f11 f12 f13 f15 f16 f17 f22 f23 f25 f27 j 0 hy0) (cwV 2 hw (bg_V ml_M_167 wi_M_isOpen wv_M_isOpen wz_M wc_M_isOpen) rfl rfl rfl (by decide +kernel) ⟨Nat.le_of_ble_eq_true rfl, Nat.le_of_ble_eq_true rfl⟩) ⟨sP_b, va_recv hK hP (ci := 6) (q0 := 0) rfl rfl, sP_p hP hK⟩ rfl rfl hl.1 rfl (lv_room (Nat.le_of_ble_eq_true rfl)) d_M_says_22 ⟨Nat.le_of_ble_eq_true rfl, Nat.le_of_ble_eq_true rfl⟩)) (fun r26 hr26 => ?_)
      replace hr26 := hr26.symm; subst hr26
      refine lv_if_ne (tgt := 41) hx hb d_M_says_25 (by decide) (fun c27 => ?_) (fun c27 => ?_)
      · have c27 := b2i_t c27
        refine lv_iconst (v := 1) hx hb d_M_says_41 (by decide) ?_
        refine lv_goto (tgt := 46) hx hb d_M_says_42 (by decide) ?_
        refine lv_istore (lv' := [(4, .int 1), (3, .int 1), (0, .ref o), (1, .int (nI j)), (2, .int (nI b))]) hx hb d_M_says_46 hl (by decide) rfl (fun ls hl => ?_)
        refine lv_iload_n hx hb d_M_says_48 rfl (lv_at hl 1 rfl) ?_
        refine lv_if_eq (tgt := 96) hx hb d_M_says_49 (by decide) (fun c28 => absurd c28 (by decide)) (fun c28 => ?_)
        refine lv_aload_n hx hb d_M_says_52 rfl (lv_at hl 2 rfl) ?_
        refine va_get (D := D) (ci := 6) (v := .int u24) (C := "TimeWordsModel") (T := F_M) (N := 28) hx hb hw in_M hown hK hP 0 rfl rfl 21 (by decide) (hw _ fl_M_138) (fun _ h9 => h9) rfl d_M_says_53 ?_
        refine lv_aload_n hx hb d_M_says_56 rfl (lv_at hl 2 rfl) ?_
        refine va_get (D := D) (ci := 6) (v := .ref (a 17)) (C := "TimeWordsModel") (T := F_M) (N := 28) hx hb hw in_M hown hK hP 0 rfl rfl 17 (by decide) (hw _ fl_M_50) (fun _ h9 => h9) rfl d_M_says_57 ?_
        refine lv_iload_n hx hb d_M_says_60 rfl (lv_at hl 3 rfl) ?_
        refine va_iald hx hb hK hP 14 0 rfl rfl (by first | assumption | exact vp_in_nI (by omega) (by omega)) d_M_says_61 ?_
        rw [show (nI j).toNatClampNeg = j from nI_clamp (by omega)]
        refine lv_icmp_ne (tgt := 96) hx hb d_M_says_62 (by decide) (fun c29 => ?_) (fun c29 => ?_)
        · refine lv_iconst (v := 0) hx hb d_M_says_96 (by decide) ?_
          exact W.zret (v := 0) hx hb hr rfl (fun t ht hW => ⟨⟨0, (u22, u23, u24), rfl, (by simp only [j_sb, hoa, j_sy, c27, decide_eq_false c29, Bool.true_and, Bool.false_and, Bool.and_false, Bool.true_or, Bool.false_or, Bool.and_true, Bool.or_true, Bool.or_false]; rfl), by rw [ht]; exact hP, va_K.moved hW.alike hK, hD⟩, hS.F ht⟩) hS.2.2 d_M_says_97
        · refine lv_iload hx hb d_M_says_65 (lv_at hl 0 rfl) ?_
          refine lv_if_eq (tgt := 96) hx hb d_M_says_67 (by decide) (fun c30 => absurd c30 (by decide)) (fun c30 => ?_)
          refine lv_aload_n hx hb d_M_says_70 rfl (lv_at hl 2 rfl) ?_
          refine lv_iload_n hx hb d_M_says_71 rfl (lv_at hl 3 rfl) ?_
          refine lv_iconst (v := 1) hx hb d_M_says_72 (by decide) ?_
          refine vp_callSi (va_Run.run (va_runV (As := [.int (nI j), .int 1]) (rest := []) ⟨hx, hb, hml, hown, hw⟩ (k_M_isOpen l D T o a z0 z2 z3 z14 z18 u22 u23 u24 z24 z26 f1 f4 f5 f6 f7 f8 f9 f10 f11 f12 f13 f15 f16 f17 f22 f23 f25 f27 j 1 hy0) (cwV 2 hw (bg_V ml_M_167 wi_M_isOpen wv_M_isOpen wz_M wc_M_isOpen) rfl rfl rfl (by decide +kernel) ⟨Nat.le_of_ble_eq_true rfl, Nat.le_of_ble_eq_true rfl⟩) ⟨sP_b, va_recv hK hP (ci := 6) (q0 := 0) rfl rfl, sP_p hP hK⟩ rfl rfl hl.1 rfl (lv_room (Nat.le_of_ble_eq_true rfl)) d_M_says_73 ⟨Nat.le_of_ble_eq_true rfl, Nat.le_of_ble_eq_true rfl⟩)) (fun r31 hr31 => ?_)
          replace hr31 := hr31.symm; subst hr31
          refine lv_if_ne (tgt := 92) hx hb d_M_says_76 (by decide) (fun c32 => ?_) (fun c32 => ?_)
          · have c32 := b2i_t c32
            refine lv_iconst (v := 1) hx hb d_M_says_92 (by decide) ?_
            refine lv_goto (tgt := 97) hx hb d_M_says_93 (by decide) ?_
            exact W.zret (v := 1) hx hb hr rfl (fun t ht hW => ⟨⟨1, (u22, u23, u24), rfl, (by simp only [j_sb, hoa, j_sy, c27, decide_eq_true c29, c32, Bool.true_and, Bool.false_and, Bool.and_false, Bool.true_or, Bool.false_or, Bool.and_true, Bool.or_true, Bool.or_false]; rfl), by rw [ht]; exact hP, va_K.moved hW.alike hK, hD⟩, hS.F ht⟩) hS.2.2 d_M_says_97
          · have c32 := b2i_f c32
            refine lv_aload_n hx hb d_M_says_79 rfl (lv_at hl 2 rfl) ?_
            refine va_get (D := D) (ci := 6) (v := .ref (a 16)) (C := "TimeWordsModel") (T := F_M) (N := 28) hx hb hw in_M hown hK hP 0 rfl rfl 16 (by decide) (hw _ fl_M_47) (fun _ h9 => h9) rfl d_M_says_80 ?_
            refine lv_iload_n hx hb d_M_says_83 rfl (lv_at hl 3 rfl) ?_
            refine va_iald hx hb hK hP 13 0 rfl rfl (by first | assumption | exact vp_in_nI (by omega) (by omega)) d_M_says_84 ?_
            rw [show (nI j).toNatClampNeg = j from nI_clamp (by omega)]
            refine lv_aload_n hx hb d_M_says_85 rfl (lv_at hl 2 rfl) ?_
            refine va_get (D := D) (ci := 6) (v := .int u23) (C := "TimeWordsModel") (T := F_M) (N := 28) hx hb hw in_M hown hK hP 0 rfl rfl 20 (by decide) (hw _ fl_M_135) (fun _ h9 => h9) rfl d_M_says_86 ?_
            refine lv_icmp_ne (tgt := 96) hx hb d_M_says_89 (by decide) (fun c33 => ?_) (fun c33 => ?_)
            · refine lv_iconst (v := 0) hx hb d_M_says_96 (by decide) ?_
              exact W.zret (v := 0) hx hb hr rfl (fun t ht hW => ⟨⟨0, (u22, u23, u24), rfl, (by simp only [j_sb, hoa, j_sy, c27, decide_eq_true c29, c32, decide_eq_false c33, Bool.true_and, Bool.false_and, Bool.and_false, Bool.true_or, Bool.false_or, Bool.and_true, Bool.or_true, Bool.or_false]; rfl), by rw [ht]; exact hP, va_K.moved hW.alike hK, hD⟩, hS.F ht⟩) hS.2.2 d_M_says_97
            · refine lv_iconst (v := 1) hx hb d_M_says_92 (by decide) ?_
              refine lv_goto (tgt := 97) hx hb d_M_says_93 (by decide) ?_
              exact W.zret (v := 1) hx hb hr rfl (fun t ht hW => ⟨⟨1, (u22, u23, u24), rfl, (by simp only [j_sb, hoa, j_sy, c27, decide_eq_true c29, c32, decide_eq_true c33, Bool.true_and, Bool.false_and, Bool.and_false, Bool.true_or, Bool.false_or, Bool.and_true, Bool.or_true, Bool.or_false]; rfl), by rw [ht]; exact hP, va_K.moved hW.alike hK, hD⟩, hS.F ht⟩) hS.2.2 d_M_says_97
      · have c27 := b2i_f c27
        refine lv_aload_n hx hb d_M_says_28 rfl (lv_at hl 1 rfl) ?_
        refine va_get (D := D) (ci := 6) (v := .ref (a 15)) (C := "TimeWordsModel") (T := F_M) (N := 28) hx hb hw in_M hown hK hP 0 rfl rfl 15 (by decide) (hw _ fl_M_44) (fun _ h9 => h9) rfl d_M_says_29 ?_
        refine lv_iload_n hx hb d_M_says_32 rfl (lv_at hl 2 rfl) ?_
        refine va_iald hx hb hK hP 12 0 rfl rfl (by first | assumption | exact vp_in_nI (by omega) (by omega)) d_M_says_33 ?_
        rw [show (nI j).toNatClampNeg = j from nI_clamp (by omega)]
        refine lv_aload_n hx hb d_M_says_34 rfl (lv_at hl 1 rfl) ?_
        refine va_get (D := D) (ci := 6) (v := .int u22) (C := "TimeWordsModel") (T := F_M) (N := 28) hx hb hw in_M hown hK hP 0 rfl rfl 19 (by decide) (hw _ fl_M_132) (fun _ h9 => h9) rfl d_M_says_35 ?_
        refine lv_icmp_ne (tgt := 45) hx hb d_M_says_38 (by decide) (fun c34 => ?_) (fun c34 => ?_)
        · refine lv_iconst (v := 0) hx hb d_M_says_45 (by decide) ?_
          refine lv_istore (lv' := [(4, .int 0), (3, .int 1), (0, .ref o), (1, .int (nI j)), (2, .int (nI b))]) hx hb d_M_says_46 hl (by decide) rfl (fun ls hl => ?_)
          refine lv_iload_n hx hb d_M_says_48 rfl (lv_at hl 1 rfl) ?_
          refine lv_if_eq (tgt := 96) hx hb d_M_says_49 (by decide) (fun c35 => absurd c35 (by decide)) (fun c35 => ?_)
          refine lv_aload_n hx hb d_M_says_52 rfl (lv_at hl 2 rfl) ?_
          refine va_get (D := D) (ci := 6) (v := .int u24) (C := "TimeWordsModel") (T := F_M) (N := 28) hx hb hw in_M hown hK hP 0 rfl rfl 21 (by decide) (hw _ fl_M_138) (fun _ h9 => h9) rfl d_M_says_53 ?_
          refine lv_aload_n hx hb d_M_says_56 rfl (lv_at hl 2 rfl) ?_
          refine va_get (D := D) (ci := 6) (v := .ref (a 17)) (C := "TimeWordsModel") (T := F_M) (N := 28) hx hb hw in_M hown hK hP 0 rfl rfl 17 (by decide) (hw _ fl_M_50) (fun _ h9 => h9) rfl d_M_says_57 ?_
          refine lv_iload_n hx hb d_M_says_60 rfl (lv_at hl 3 rfl) ?_
          refine va_iald hx hb hK hP 14 0 rfl rfl (by first | assumption | exact vp_in_nI (by omega) (by omega)) d_M_says_61 ?_
          rw [show (nI j).toNatClampNeg = j from nI_clamp (by omega)]
          refine lv_icmp_ne (tgt := 96) hx hb d_M_says_62 (by decide) (fun c36 => ?_) (fun c36 => ?_)
          · refine lv_iconst (v := 0) hx hb d_M_says_96 (by decide) ?_
            exact W.zret (v := 0) hx hb hr rfl (fun t ht hW => ⟨⟨0, (u22, u23, u24), rfl, (by simp only [j_sb, hoa, j_sy, c27, decide_eq_false c34, decide_eq_false c36, Bool.true_and, Bool.false_and, Bool.and_false, Bool.true_or, Bool.false_or, Bool.and_true, Bool.or_true, Bool.or_false]; rfl), by rw [ht]; exact hP, va_K.moved hW.alike hK, hD⟩, hS.F ht⟩) hS.2.2 d_M_says_97
          · refine lv_iload hx hb d_M_says_65 (lv_at hl 0 rfl) ?_
            refine lv_if_eq (tgt := 96) hx hb d_M_says_67 (by decide) (fun c37 => ?_) (fun c37 => absurd c37 (by decide))
            refine lv_iconst (v := 0) hx hb d_M_says_96 (by decide) ?_
            exact W.zret (v := 0) hx hb hr rfl (fun t ht hW => ⟨⟨0, (u22, u23, u24), rfl, (by simp only [j_sb, hoa, j_sy, c27, decide_eq_false c34, decide_eq_true c36, Bool.true_and, Bool.false_and, Bool.and_false, Bool.true_or, Bool.false_or, Bool.and_true, Bool.or_true, Bool.or_false]; rfl), by rw [ht]; exact hP, va_K.moved hW.alike hK, hD⟩, hS.F ht⟩) hS.2.2 d_M_says_97
        · refine lv_iconst (v := 1) hx hb d_M_says_41 (by decide) ?_
          refine lv_goto (tgt := 46) hx hb d_M_says_42 (by decide) ?_
          refine lv_istore (lv' := [(4, .int 1), (3, .int 1), (0, .ref o), (1, .int (nI j)), (2, .int (nI b))]) hx hb d_M_says_46 hl (by decide) rfl (fun ls hl => ?_)
          refine lv_iload_n hx hb d_M_says_48 rfl (lv_at hl 1 rfl) ?_
          refine lv_if_eq (tgt := 96) hx hb d_M_says_49 (by decide) (fun c38 => absurd c38 (by decide)) (fun c38 => ?_)
          refine lv_aload_n hx hb d_M_says_52 rfl (lv_at hl 2 rfl) ?_
          refine va_get (D := D) (ci := 6) (v := .int u24) (C := "TimeWordsModel") (T := F_M) (N := 28) hx hb hw in_M hown hK hP 0 rfl rfl 21 (by decide) (hw _ fl_M_138) (fun _ h9 => h9) rfl d_M_says_53 ?_
          refine lv_aload_n hx hb d_M_says_56 rfl (lv_at hl 2 rfl) ?_
          refine va_get (D := D) (ci := 6) (v := .ref (a 17)) (C := "TimeWordsModel") (T := F_M) (N := 28) hx hb hw in_M hown hK hP 0 rfl rfl 17 (by decide) (hw _ fl_M_50) (fun _ h9 => h9) rfl d_M_says_57 ?_
          refine lv_iload_n hx hb d_M_says_60 rfl (lv_at hl 3 rfl) ?_
          refine va_iald hx hb hK hP 14 0 rfl rfl (by first | assumption | exact vp_in_nI (by omega) (by omega)) d_M_says_61 ?_
          rw [show (nI j).toNatClampNeg = j from nI_clamp (by omega)]
          refine lv_icmp_ne (tgt := 96) hx hb d_M_says_62 (by decide) (fun c39 => ?_) (fun c39 => ?_)
          · refine lv_iconst (v := 0) hx hb d_M_says_96 (by decide) ?_
            exact W.zret (v := 0) hx hb hr rfl (fun t ht hW => ⟨⟨0, (u22, u23, u24), rfl, (by simp only [j_sb, hoa, j_sy, c27, decide_eq_true c34, decide_eq_false c39, Bool.true_and, Bool.false_and, Bool.and_false, Bool.true_or, Bool.false_or, Bool.and_true, Bool.or_true, Bool.or_false]; rfl), by rw [ht]; exact hP, va_K.moved hW.alike hK, hD⟩, hS.F ht⟩) hS.2.2 d_M_says_97
          · refine lv_iload hx hb d_M_says_65 (lv_at hl 0 rfl) ?_
            refine lv_if_eq (tgt := 96) hx hb d_M_says_67 (by decide) (fun c40 => absurd c40 (by decide)) (fun c40 => ?_)
            refine lv_aload_n hx hb d_M_says_70 rfl (lv_at hl 2 rfl) ?_
            refine lv_iload_n hx hb d_M_says_71 rfl (lv_at hl 3 rfl) ?_
            refine lv_iconst (v := 1) hx hb d_M_says_72 (by decide) ?_
            refine vp_callSi (va_Run.run (va_runV (As := [.int (nI j), .int 1]) (rest := []) ⟨hx, hb, hml, hown, hw⟩ (k_M_isOpen l D T o a z0 z2 z3 z14 z18 u22 u23 u24 z24 z26 f1 f4 f5 f6 f7 f8 f9 f10 f11 f12 f13 f15 f16 f17 f22 f23 f25 f27 j 1 hy0) (cwV 2 hw (bg_V ml_M_167 wi_M_isOpen wv_M_isOpen wz_M wc_M_isOpen) rfl rfl rfl (by decide +kernel) ⟨Nat.le_of_ble_eq_true rfl, Nat.le_of_ble_eq_true rfl⟩) ⟨sP_b, va_recv hK hP (ci := 6) (q0 := 0) rfl rfl, sP_p hP hK⟩ rfl rfl hl.1 rfl (lv_room (Nat.le_of_ble_eq_true rfl)) d_M_says_73 ⟨Nat.le_of_ble_eq_true rfl, Nat.le_of_ble_eq_true rfl⟩)) (fun r41 hr41 => ?_)
            replace hr41 := hr41.symm; subst hr41
            refine lv_if_ne (tgt := 92) hx hb d_M_says_76 (by decide) (fun c42 => ?_) (fun c42 => ?_)
            · have c42 := b2i_t c42
              refine lv_iconst (v := 1) hx hb d_M_says_92 (by decide) ?_
              refine lv_goto (tgt := 97) hx hb d_M_says_93 (by decide) ?_
              exact W.zret (v := 1) hx hb hr rfl (fun t ht hW => ⟨⟨1, (u22, u23, u24), rfl, (by simp only [j_sb, hoa, j_sy, c27, decide_eq_true c34, decide_eq_true c39, c42, Bool.true_and, Bool.false_and, Bool.and_false, Bool.true_or, Bool.false_or, Bool.and_true, Bool.or_true, Bool.or_false]; rfl), by rw [ht]; exact hP, va_K.moved hW.alike hK, hD⟩, hS.F ht⟩) hS.2.2 d_M_says_97
            · have c42 := b2i_f c42
              refine lv_aload_n hx hb d_M_says_79 rfl (lv_at hl 2 rfl) ?_
              refine va_get (D := D) (ci := 6) (v := .ref (a 16)) (C := "TimeWordsModel") (T := F_M) (N := 28) hx hb hw in_M hown hK hP 0 rfl rfl 16 (by decide) (hw _ fl_M_47) (fun _ h9 => h9) rfl d_M_says_80 ?_
              refine lv_iload_n hx hb d_M_says_83 rfl (lv_at hl 3 rfl) ?_
              refine va_iald hx hb hK hP 13 0 rfl rfl (by first | assumption | exact vp_in_nI (by omega) (by omega)) d_M_says_84 ?_
              rw [show (nI j).toNatClampNeg = j from nI_clamp (by omega)]
              refine lv_aload_n hx hb d_M_says_85 rfl (lv_at hl 2 rfl) ?_
              refine va_get (D := D) (ci := 6) (v := .int u23) (C := "TimeWordsModel") (T := F_M) (N := 28) hx hb hw in_M hown hK hP 0 rfl rfl 20 (by decide) (hw _ fl_M_135) (fun _ h9 => h9) rfl d_M_says_86 ?_
              refine lv_icmp_ne (tgt := 96) hx hb d_M_says_89 (by decide) (fun c43 => ?_) (fun c43 => ?_)
              · refine lv_iconst (v := 0) hx hb d_M_says_96 (by decide) ?_
                exact W.zret (v := 0) hx hb hr rfl (fun t ht hW => ⟨⟨0, (u22, u23, u24), rfl, (by simp only [j_sb, hoa, j_sy, c27, decide_eq_true c34, decide_eq_true c39, c42, decide_eq_false c43, Bool.true_and, Bool.false_and, Bool.and_false, Bool.true_or, Bool.false_or, Bool.and_true, Bool.or_true, Bool.or_false]; rfl), by rw [ht]; exact hP, va_K.moved hW.alike hK, hD⟩, hS.F ht⟩) hS.2.2 d_M_says_97
              · refine lv_iconst (v := 1) hx hb d_M_says_92 (by decide) ?_
                refine lv_goto (tgt := 97) hx hb d_M_says_93 (by decide) ?_
                exact W.zret (v := 1) hx hb hr rfl (fun t ht hW => ⟨⟨1, (u22, u23, u24), rfl, (by simp only [j_sb, hoa, j_sy, c27, decide_eq_true c34, decide_eq_true c39, c42, decide_eq_true c43, Bool.true_and, Bool.false_and, Bool.and_false, Bool.true_or, Bool.false_or, Bool.and_true, Bool.or_true, Bool.or_false]; rfl), by rw [ht]; exact hP, va_K.moved hW.alike hK, hD⟩, hS.F ht⟩) hS.2.2 d_M_says_97
    · obtain ⟨hr9, hoa⟩ := hmk
      subst hr9
      refine lv_if_eq (tgt := 17) hx hb d_M_says_10 (by decide) (fun c44 => ?_) (fun c44 => absurd c44 (by decide))
      refine lv_iconst (v := 0) hx hb d_M_says_17 (by decide) ?_
      refine lv_istore_n (lv' := [(3, .int 0), (0, .ref o), (1, .int (nI j)), (2, .int (nI b))]) hx hb d_M_says_18 rfl hl (by decide) rfl (fun ls hl => ?_)
      refine lv_aload_n hx hb d_M_says_19 rfl (lv_at hl 1 rfl) ?_
      refine lv_iload_n hx hb d_M_says_20 rfl (lv_at hl 2 rfl) ?_
      refine lv_iconst (v := 0) hx hb d_M_says_21 (by decide) ?_
      refine vp_callSi (va_Run.run (va_runV (As := [.int (nI j), .int 0]) (rest := []) ⟨hx, hb, hml, hown, hw⟩ (k_M_isOpen l D T o a z0 z2 z3 z14 z18 u22 u23 u24 z24 z26 f1 f4 f5 f6 f7 f8 f9 f10 f11 f12 f13 f15 f16 f17 f22 f23 f25 f27 j 0 hy0) (cwV 2 hw (bg_V ml_M_167 wi_M_isOpen wv_M_isOpen wz_M wc_M_isOpen) rfl rfl rfl (by decide +kernel) ⟨Nat.le_of_ble_eq_true rfl, Nat.le_of_ble_eq_true rfl⟩) ⟨sP_b, va_recv hK hP (ci := 6) (q0 := 0) rfl rfl, sP_p hP hK⟩ rfl rfl hl.1 rfl (lv_room (Nat.le_of_ble_eq_true rfl)) d_M_says_22 ⟨Nat.le_of_ble_eq_true rfl, Nat.le_of_ble_eq_true rfl⟩)) (fun r45 hr45 => ?_)
      replace hr45 := hr45.symm; subst hr45
      refine lv_if_ne (tgt := 41) hx hb d_M_says_25 (by decide) (fun c46 => ?_) (fun c46 => ?_)
      · have c46 := b2i_t c46
        refine lv_iconst (v := 1) hx hb d_M_says_41 (by decide) ?_
        refine lv_goto (tgt := 46) hx hb d_M_says_42 (by decide) ?_
        refine lv_istore (lv' := [(4, .int 1), (3, .int 0), (0, .ref o), (1, .int (nI j)), (2, .int (nI b))]) hx hb d_M_says_46 hl (by decide) rfl (fun ls hl => ?_)
        refine lv_iload_n hx hb d_M_says_48 rfl (lv_at hl 1 rfl) ?_
        refine lv_if_eq (tgt := 96) hx hb d_M_says_49 (by decide) (fun c47 => ?_) (fun c47 => absurd c47 (by decide))
        refine lv_iconst (v := 0) hx hb d_M_says_96 (by decide) ?_
        exact W.zret (v := 0) hx hb hr rfl (fun t ht hW => ⟨⟨0, (u22, u23, u24), rfl, (by simp only [j_sb, hoa, j_sy, c46, Bool.true_and, Bool.false_and, Bool.and_false, Bool.true_or, Bool.false_or, Bool.and_true, Bool.or_true, Bool.or_false]; rfl), by rw [ht]; exact hP, va_K.moved hW.alike hK, hD⟩, hS.F ht⟩) hS.2.2 d_M_says_97
      · have c46 := b2i_f c46
        refine lv_aload_n hx hb d_M_says_28 rfl (lv_at hl 1 rfl) ?_
        refine va_get (D := D) (ci := 6) (v := .ref (a 15)) (C := "TimeWordsModel") (T := F_M) (N := 28) hx hb hw in_M hown hK hP 0 rfl rfl 15 (by decide) (hw _ fl_M_44) (fun _ h9 => h9) rfl d_M_says_29 ?_
        refine lv_iload_n hx hb d_M_says_32 rfl (lv_at hl 2 rfl) ?_
        refine va_iald hx hb hK hP 12 0 rfl rfl (by first | assumption | exact vp_in_nI (by omega) (by omega)) d_M_says_33 ?_
        rw [show (nI j).toNatClampNeg = j from nI_clamp (by omega)]
        refine lv_aload_n hx hb d_M_says_34 rfl (lv_at hl 1 rfl) ?_
        refine va_get (D := D) (ci := 6) (v := .int u22) (C := "TimeWordsModel") (T := F_M) (N := 28) hx hb hw in_M hown hK hP 0 rfl rfl 19 (by decide) (hw _ fl_M_132) (fun _ h9 => h9) rfl d_M_says_35 ?_
        refine lv_icmp_ne (tgt := 45) hx hb d_M_says_38 (by decide) (fun c48 => ?_) (fun c48 => ?_)
        · refine lv_iconst (v := 0) hx hb d_M_says_45 (by decide) ?_
          refine lv_istore (lv' := [(4, .int 0), (3, .int 0), (0, .ref o), (1, .int (nI j)), (2, .int (nI b))]) hx hb d_M_says_46 hl (by decide) rfl (fun ls hl => ?_)
          refine lv_iload_n hx hb d_M_says_48 rfl (lv_at hl 1 rfl) ?_
          refine lv_if_eq (tgt := 96) hx hb d_M_says_49 (by decide) (fun c49 => ?_) (fun c49 => absurd c49 (by decide))
          refine lv_iconst (v := 0) hx hb d_M_says_96 (by decide) ?_
          exact W.zret (v := 0) hx hb hr rfl (fun t ht hW => ⟨⟨0, (u22, u23, u24), rfl, (by simp only [j_sb, hoa, j_sy, c46, decide_eq_false c48, Bool.true_and, Bool.false_and, Bool.and_false, Bool.true_or, Bool.false_or, Bool.and_true, Bool.or_true, Bool.or_false]; rfl), by rw [ht]; exact hP, va_K.moved hW.alike hK, hD⟩, hS.F ht⟩) hS.2.2 d_M_says_97
        · refine lv_iconst (v := 1) hx hb d_M_says_41 (by decide) ?_
          refine lv_goto (tgt := 46) hx hb d_M_says_42 (by decide) ?_
          refine lv_istore (lv' := [(4, .int 1), (3, .int 0), (0, .ref o), (1, .int (nI j)), (2, .int (nI b))]) hx hb d_M_says_46 hl (by decide) rfl (fun ls hl => ?_)
          refine lv_iload_n hx hb d_M_says_48 rfl (lv_at hl 1 rfl) ?_
          refine lv_if_eq (tgt := 96) hx hb d_M_says_49 (by decide) (fun c50 => ?_) (fun c50 => absurd c50 (by decide))
          refine lv_iconst (v := 0) hx hb d_M_says_96 (by decide) ?_
          exact W.zret (v := 0) hx hb hr rfl (fun t ht hW => ⟨⟨0, (u22, u23, u24), rfl, (by simp only [j_sb, hoa, j_sy, c46, decide_eq_true c48, Bool.true_and, Bool.false_and, Bool.and_false, Bool.true_or, Bool.false_or, Bool.and_true, Bool.or_true, Bool.or_false]; rfl), by rw [ht]; exact hP, va_K.moved hW.alike hK, hD⟩, hS.F ht⟩) hS.2.2 d_M_says_97
