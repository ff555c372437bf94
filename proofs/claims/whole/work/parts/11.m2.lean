theorem ix_of {n : Int32} {k : Nat} (h : j_ix n (nI k) = true) (hk : k < 2 ^ 31) : ∃ j : Nat, j < k ∧ n = nI j := by
  simp only [j_ix, Bool.and_eq_true, Bool.not_eq_true', decide_eq_false_iff_not] at h
  rcases pk_ix n hk with h1 | h1 | h1
  · exact absurd h1 h.1
  · exact absurd h1 h.2
  · exact h1
theorem ix_ne {a b : Nat} (h : ¬ nI a = nI b) : a ≠ b := fun e => h (by rw [e])
/-- a sign -/
def j_sg (s : Int32) : Bool := j_in s 97 122 || j_in s 48 57 || decide (s = 32)
/-- years from one to another -/
def j_yy (x y : Int32) : Bool := j_in x (-9999) 9999 && j_in y (-9999) 9999 && decide (x ≤ y)
set_option maxHeartbeats 4000000 in
set_option maxRecDepth 100000 in
theorem k_M_unit (l : Launch) (D : va_G) (T : gT) (o : Nat) (a : Nat → Nat) (z0 : Int32) (pn : Nat) (z3 z14 z18 z19 z20 z21 z24 z26 : Int32) (f1 f4 f5 f6 f7 f8 f9 f10 f11 f12 f13 f15 f16 f17 f22 f23 f25 f27 : Nat → Int32) (sz : Nat) (sg : Int32) (hy0 : pn ≤ 24) : Met l y_M_unit (Cond.code y_M_unit b_M_unit 2 (some .int) :: bg_W) ({ frames := 2, cells := 0, slots := 0, locals := 42 }) (qP D T (mX T o a z0 (nI pn) z3 z14 z18 z19 z20 z21 z24 z26 f1 f4 f5 f6 f7 f8 f9 f10 f11 f12 f13 f15 f16 f17 f22 f23 f25 f27) [.ref o, .int sg] sz) (va_Qi (fun (r : Int32) (u : Int32 × Int32 × (Nat → Int32)) => match u with | (w0, w2, g1) => (j_sg sg = false ∧ r = 0 ∧ w0 = 1 ∧ w2 = nI pn ∧ g1 = f1) ∨ (j_sg sg = true ∧ pn = 24 ∧ r = 0 ∧ w0 = 2 ∧ w2 = nI pn ∧ g1 = f1) ∨ (j_sg sg = true ∧ pn < 24 ∧ r = nI (pn + 1) ∧ w0 = 0 ∧ w2 = nI (pn + 1) ∧ g1 = upd f1 pn sg)) (qB D T (va_A (mX T o a z0 (nI pn) z3 z14 z18 z19 z20 z21 z24 z26 f1 f4 f5 f6 f7 f8 f9 f10 f11 f12 f13 f15 f16 f17 f22 f23 f25 f27) sz) (fun u : Int32 × Int32 × (Nat → Int32) => match u with | (w0, w2, g1) => mX T o a w0 w2 z3 z14 z18 z19 z20 z21 z24 z26 g1 f4 f5 f6 f7 f8 f9 f10 f11 f12 f13 f15 f16 f17 f22 f23 f25 f27)) (va_A (mX T o a z0 (nI pn) z3 z14 z18 z19 z20 z21 z24 z26 f1 f4 f5 f6 f7 f8 f9 f10 f11 f12 f13 f15 f16 f17 f22 f23 f25 f27) sz)) 0 0 (va_A (mX T o a z0 (nI pn) z3 z14 z18 z19 z20 z21 z24 z26 f1 f4 f5 f6 f7 f8 f9 f10 f11 f12 f13 f15 f16 f17 f22 f23 f25 f27) sz) := by
  refine Met.ofW (cc := b_M_unit) (maxL := 2) (ret := (some .int)) (by decide) rfl ?_
  intro p e s m args below meth c s₁ B hml hv
  obtain ⟨rfl, hsz, hP, hK, hD0⟩ := hv
  have hx := B.exec
  have hb := B.bytes
  have hr := B.returns
  have hw : ∀ w ∈ bg_W, w.before ([.ref o, .int sg] : List Value).toArray s = true := fun w h => atoms_spec (ws := (Cond.code y_M_unit b_M_unit 2 (some .int) :: bg_W)) B.pre w (List.mem_cons_of_mem _ h)
  have hown : s.vm.findClass "TimeWordsModel" = some m.cls := findClass_of_methodNamed B.named
  have hlocks := B.notSynchronized
  subst hsz
  have hD := hD0.self (sz := s.heap.size)
  generalize hAe : va_A (mX T o a z0 (nI pn) z3 z14 z18 z19 z20 z21 z24 z26 f1 f4 f5 f6 f7 f8 f9 f10 f11 f12 f13 f15 f16 f17 f22 f23 f25 f27) s.heap.size = A at hD ⊢
  have hA : ∀ q : Nat, s.heap.size ≤ q → A q := fun q h => by rw [← hAe]; exact Or.inr h
  have hS : va_S A s.heap s.heap [] := va_S.rf
  have hl := lv_entry ([.ref o, .int sg]) (n := 2) (Nat.le_of_ble_eq_true rfl)
  rw [lg_entry_eq]
  generalize (lg_sl ([.ref o, .int sg]) ++ List.replicate (2 - (lg_sl ([.ref o, .int sg])).length) Slot.unset).toArray = ls at hl ⊢
  have hl : lv_has ls 2 [(0, .ref o), (1, .int sg)] := hl
  refine lv_iload_n hx hb d_M_unit_0 rfl (lv_at hl 1 rfl) ?_
  refine vp_callSi (va_Run.run (va_runS (As := [.int sg]) (rest := []) ⟨hx, hb, hml, hown, hw⟩ (k_M_isLetter l sg) (va_cwS 1 hw (bg_S ml_M_82 wt_M_isLetter wz_M wc_M_isLetter) rfl rfl rfl (by decide +kernel) ⟨Nat.le_of_ble_eq_true rfl, Nat.le_of_ble_eq_true rfl⟩) ⟨nP_b, nP_p⟩ rfl rfl hl.1 rfl (lv_room (Nat.le_of_ble_eq_true rfl)) d_M_unit_1 ⟨Nat.le_of_ble_eq_true rfl, Nat.le_of_ble_eq_true rfl⟩)) (fun r1 hr1 => ?_)
  replace hr1 := hr1.symm; subst hr1
  refine lv_if_ne (tgt := 26) hx hb d_M_unit_4 (by decide) (fun c2 => ?_) (fun c2 => ?_)
  · have c2 := b2i_t c2
    refine lv_aload_n hx hb d_M_unit_26 rfl (lv_at hl 0 rfl) ?_
    refine va_get (D := D) (ci := 6) (v := .int (nI pn)) (C := "TimeWordsModel") (T := F_M) (N := 28) hx hb hw in_M hown hK hP 0 rfl rfl 2 (by decide) (hw _ fl_M_93) (fun _ h9 => h9) rfl d_M_unit_27 ?_
    refine lv_bipush (v := 24) hx hb d_M_unit_30 (by decide) ?_
    refine lv_icmp_ne (tgt := 41) hx hb d_M_unit_32 (by decide) (fun c3 => ?_) (fun c3 => ?_)
    · have c3 := nc_ne (a := pn) (b := 24) c3 (by omega) (by omega)
      have hlt : pn < 24 := by omega
      refine lv_aload_n hx hb d_M_unit_41 rfl (lv_at hl 0 rfl) ?_
      refine lv_iconst (v := 0) hx hb d_M_unit_42 (by decide) ?_
      refine va_put (D := D) (ci := 6) (v := .int 0) (ty := .int) (C := "TimeWordsModel") (T := F_M) (N := 28) hx hb hw in_M ty_M ty_M_ok n_M hown hK hP hD hS 0 rfl rfl 0 (by decide) (hw _ fl_M_69) (fun _ h9 => h9) rfl (by decide +kernel) rfl rfl (Nat.le_of_ble_eq_true rfl) d_M_unit_43 (fun H locs hP hD hS => ?_)
      have hP : va_P D gC (mX T o a 0 (nI pn) z3 z14 z18 z19 z20 z21 z24 z26 f1 f4 f5 f6 f7 f8 f9 f10 f11 f12 f13 f15 f16 f17 f22 f23 f25 f27) H := hP
      have hD : va_D A (mX T o a 0 (nI pn) z3 z14 z18 z19 z20 z21 z24 z26 f1 f4 f5 f6 f7 f8 f9 f10 f11 f12 f13 f15 f16 f17 f22 f23 f25 f27) := hD
      refine lv_aload_n hx hb d_M_unit_46 rfl (lv_at hl 0 rfl) ?_
      refine va_get (D := D) (ci := 6) (v := .ref (a 1)) (C := "TimeWordsModel") (T := F_M) (N := 28) hx hb hw in_M hown hK hP 0 rfl rfl 1 (by decide) (hw _ fl_M_7) (fun _ h9 => h9) rfl d_M_unit_47 ?_
      refine lv_aload_n hx hb d_M_unit_50 rfl (lv_at hl 0 rfl) ?_
      refine va_get (D := D) (ci := 6) (v := .int (nI pn)) (C := "TimeWordsModel") (T := F_M) (N := 28) hx hb hw in_M hown hK hP 0 rfl rfl 2 (by decide) (hw _ fl_M_93) (fun _ h9 => h9) rfl d_M_unit_51 ?_
      refine lv_iload_n hx hb d_M_unit_54 rfl (lv_at hl 1 rfl) ?_
      refine va_iast hx hb hK hP hD hS 1 0 rfl rfl (by first | assumption | exact vp_in_nI (by omega) (by omega)) d_M_unit_55 (fun H locs hP hD hS => ?_)
      rw [show (nI pn).toNatClampNeg = pn from nI_clamp (by omega)] at hP hD
      have hP : va_P D gC (mX T o a 0 (nI pn) z3 z14 z18 z19 z20 z21 z24 z26 (upd f1 pn sg) f4 f5 f6 f7 f8 f9 f10 f11 f12 f13 f15 f16 f17 f22 f23 f25 f27) H := hP
      have hD : va_D A (mX T o a 0 (nI pn) z3 z14 z18 z19 z20 z21 z24 z26 (upd f1 pn sg) f4 f5 f6 f7 f8 f9 f10 f11 f12 f13 f15 f16 f17 f22 f23 f25 f27) := hD
      refine lv_aload_n hx hb d_M_unit_56 rfl (lv_at hl 0 rfl) ?_
      refine lv_dup hx hb d_M_unit_57 rfl ?_
      refine va_get (D := D) (ci := 6) (v := .int (nI pn)) (C := "TimeWordsModel") (T := F_M) (N := 28) hx hb hw in_M hown hK hP 0 rfl rfl 2 (by decide) (hw _ fl_M_93) (fun _ h9 => h9) rfl d_M_unit_58 ?_
      refine lv_iconst (v := 1) hx hb d_M_unit_61 (by decide) ?_
      refine lv_iadd hx hb d_M_unit_62 ?_
      rw [nI_1]
      refine va_put (D := D) (ci := 6) (v := .int (nI (pn + 1))) (ty := .int) (C := "TimeWordsModel") (T := F_M) (N := 28) hx hb hw in_M ty_M ty_M_ok n_M hown hK hP hD hS 0 rfl rfl 2 (by decide) (hw _ fl_M_93) (fun _ h9 => h9) rfl (by decide +kernel) rfl rfl (Nat.le_of_ble_eq_true rfl) d_M_unit_63 (fun H locs hP hD hS => ?_)
      have hP : va_P D gC (mX T o a 0 (nI (pn + 1)) z3 z14 z18 z19 z20 z21 z24 z26 (upd f1 pn sg) f4 f5 f6 f7 f8 f9 f10 f11 f12 f13 f15 f16 f17 f22 f23 f25 f27) H := hP
      have hD : va_D A (mX T o a 0 (nI (pn + 1)) z3 z14 z18 z19 z20 z21 z24 z26 (upd f1 pn sg) f4 f5 f6 f7 f8 f9 f10 f11 f12 f13 f15 f16 f17 f22 f23 f25 f27) := hD
      refine lv_aload_n hx hb d_M_unit_66 rfl (lv_at hl 0 rfl) ?_
      refine va_get (D := D) (ci := 6) (v := .int (nI (pn + 1))) (C := "TimeWordsModel") (T := F_M) (N := 28) hx hb hw in_M hown hK hP 0 rfl rfl 2 (by decide) (hw _ fl_M_93) (fun _ h9 => h9) rfl d_M_unit_67 ?_
      exact W.iret (v := nI (pn + 1)) hx hb hr (fun t ht hW => ⟨⟨nI (pn + 1), (0, nI (pn + 1), upd f1 pn sg), rfl, (Or.inr (Or.inr ⟨by simp [j_sg, *], by omega, rfl, rfl, rfl, rfl⟩)), by rw [ht]; exact hP, va_K.moved hW.alike hK, hD⟩, hS.F ht⟩) hS.2.2 d_M_unit_70
    · have c3 := nc_eq (a := pn) (b := 24) c3 (by omega) (by omega)
      refine lv_aload_n hx hb d_M_unit_35 rfl (lv_at hl 0 rfl) ?_
      refine lv_iconst (v := 2) hx hb d_M_unit_36 (by decide) ?_
      refine g_calli (va_runV (As := [.int 2]) (rest := []) ⟨hx, hb, hml, hown, hw⟩ (k_M_fails l D T o a z0 (nI pn) z3 z14 z18 z19 z20 z21 z24 z26 f1 f4 f5 f6 f7 f8 f9 f10 f11 f12 f13 f15 f16 f17 f22 f23 f25 f27 s.heap.size 2) (cwV 1 hw (bg_V ml_M_89 wi_M_fails wv_M_fails wz_M wc_M_fails) rfl rfl rfl (by decide +kernel) ⟨Nat.le_of_ble_eq_true rfl, Nat.le_of_ble_eq_true rfl⟩) ⟨qP_b, va_recv hK hP (ci := 6) (q0 := 0) rfl rfl, qP_p hP hK hD⟩ rfl rfl hl.1 rfl (lv_room (Nat.le_of_ble_eq_true rfl)) d_M_unit_37 ⟨Nat.le_of_ble_eq_true rfl, Nat.le_of_ble_eq_true rfl⟩) hD hS hA (fun r4 u5 H locs hr4 hP hD hS => ?_)
      obtain ⟨q0, q1⟩ := hr4
      replace q0 := q0.symm; subst q0; replace q1 := q1.symm; subst q1
      have hP : va_P D gC (mX T o a 2 (nI pn) z3 z14 z18 z19 z20 z21 z24 z26 f1 f4 f5 f6 f7 f8 f9 f10 f11 f12 f13 f15 f16 f17 f22 f23 f25 f27) H := hP
      have hD : va_D A (mX T o a 2 (nI pn) z3 z14 z18 z19 z20 z21 z24 z26 f1 f4 f5 f6 f7 f8 f9 f10 f11 f12 f13 f15 f16 f17 f22 f23 f25 f27) := hD
      exact W.iret (v := 0) hx hb hr (fun t ht hW => ⟨⟨0, (2, nI pn, f1), rfl, (Or.inr (Or.inl ⟨by simp [j_sg, *], c3, rfl, rfl, rfl, rfl⟩)), by rw [ht]; exact hP, va_K.moved hW.alike hK, hD⟩, hS.F ht⟩) hS.2.2 d_M_unit_40
  · have c2 := b2i_f c2
    refine lv_iload_n hx hb d_M_unit_7 rfl (lv_at hl 1 rfl) ?_
    refine vp_callSi (va_Run.run (va_runS (As := [.int sg]) (rest := []) ⟨hx, hb, hml, hown, hw⟩ (k_M_isDigit l sg) (va_cwS 1 hw (bg_S ml_M_86 wt_M_isDigit wz_M wc_M_isDigit) rfl rfl rfl (by decide +kernel) ⟨Nat.le_of_ble_eq_true rfl, Nat.le_of_ble_eq_true rfl⟩) ⟨nP_b, nP_p⟩ rfl rfl hl.1 rfl (lv_room (Nat.le_of_ble_eq_true rfl)) d_M_unit_8 ⟨Nat.le_of_ble_eq_true rfl, Nat.le_of_ble_eq_true rfl⟩)) (fun r6 hr6 => ?_)
    replace hr6 := hr6.symm; subst hr6
    refine lv_if_ne (tgt := 26) hx hb d_M_unit_11 (by decide) (fun c7 => ?_) (fun c7 => ?_)
    · have c7 := b2i_t c7
      refine lv_aload_n hx hb d_M_unit_26 rfl (lv_at hl 0 rfl) ?_
      refine va_get (D := D) (ci := 6) (v := .int (nI pn)) (C := "TimeWordsModel") (T := F_M) (N := 28) hx hb hw in_M hown hK hP 0 rfl rfl 2 (by decide) (hw _ fl_M_93) (fun _ h9 => h9) rfl d_M_unit_27 ?_
      refine lv_bipush (v := 24) hx hb d_M_unit_30 (by decide) ?_
      refine lv_icmp_ne (tgt := 41) hx hb d_M_unit_32 (by decide) (fun c8 => ?_) (fun c8 => ?_)
      · have c8 := nc_ne (a := pn) (b := 24) c8 (by omega) (by omega)
        have hlt : pn < 24 := by omega
        refine lv_aload_n hx hb d_M_unit_41 rfl (lv_at hl 0 rfl) ?_
        refine lv_iconst (v := 0) hx hb d_M_unit_42 (by decide) ?_
        refine va_put (D := D) (ci := 6) (v := .int 0) (ty := .int) (C := "TimeWordsModel") (T := F_M) (N := 28) hx hb hw in_M ty_M ty_M_ok n_M hown hK hP hD hS 0 rfl rfl 0 (by decide) (hw _ fl_M_69) (fun _ h9 => h9) rfl (by decide +kernel) rfl rfl (Nat.le_of_ble_eq_true rfl) d_M_unit_43 (fun H locs hP hD hS => ?_)
        have hP : va_P D gC (mX T o a 0 (nI pn) z3 z14 z18 z19 z20 z21 z24 z26 f1 f4 f5 f6 f7 f8 f9 f10 f11 f12 f13 f15 f16 f17 f22 f23 f25 f27) H := hP
        have hD : va_D A (mX T o a 0 (nI pn) z3 z14 z18 z19 z20 z21 z24 z26 f1 f4 f5 f6 f7 f8 f9 f10 f11 f12 f13 f15 f16 f17 f22 f23 f25 f27) := hD
        refine lv_aload_n hx hb d_M_unit_46 rfl (lv_at hl 0 rfl) ?_
        refine va_get (D := D) (ci := 6) (v := .ref (a 1)) (C := "TimeWordsModel") (T := F_M) (N := 28) hx hb hw in_M hown hK hP 0 rfl rfl 1 (by decide) (hw _ fl_M_7) (fun _ h9 => h9) rfl d_M_unit_47 ?_
        refine lv_aload_n hx hb d_M_unit_50 rfl (lv_at hl 0 rfl) ?_
        refine va_get (D := D) (ci := 6) (v := .int (nI pn)) (C := "TimeWordsModel") (T := F_M) (N := 28) hx hb hw in_M hown hK hP 0 rfl rfl 2 (by decide) (hw _ fl_M_93) (fun _ h9 => h9) rfl d_M_unit_51 ?_
        refine lv_iload_n hx hb d_M_unit_54 rfl (lv_at hl 1 rfl) ?_
        refine va_iast hx hb hK hP hD hS 1 0 rfl rfl (by first | assumption | exact vp_in_nI (by omega) (by omega)) d_M_unit_55 (fun H locs hP hD hS => ?_)
        rw [show (nI pn).toNatClampNeg = pn from nI_clamp (by omega)] at hP hD
        have hP : va_P D gC (mX T o a 0 (nI pn) z3 z14 z18 z19 z20 z21 z24 z26 (upd f1 pn sg) f4 f5 f6 f7 f8 f9 f10 f11 f12 f13 f15 f16 f17 f22 f23 f25 f27) H := hP
        have hD : va_D A (mX T o a 0 (nI pn) z3 z14 z18 z19 z20 z21 z24 z26 (upd f1 pn sg) f4 f5 f6 f7 f8 f9 f10 f11 f12 f13 f15 f16 f17 f22 f23 f25 f27) := hD
        refine lv_aload_n hx hb d_M_unit_56 rfl (lv_at hl 0 rfl) ?_
        refine lv_dup hx hb d_M_unit_57 rfl ?_
        refine va_get (D := D) (ci := 6) (v := .int (nI pn)) (C := "TimeWordsModel") (T := F_M) (N := 28) hx hb hw in_M hown hK hP 0 rfl rfl 2 (by decide) (hw _ fl_M_93) (fun _ h9 => h9) rfl d_M_unit_58 ?_
        refine lv_iconst (v := 1) hx hb d_M_unit_61 (by decide) ?_
        refine lv_iadd hx hb d_M_unit_62 ?_
        rw [nI_1]
        refine va_put (D := D) (ci := 6) (v := .int (nI (pn + 1))) (ty := .int) (C := "TimeWordsModel") (T := F_M) (N := 28) hx hb hw in_M ty_M ty_M_ok n_M hown hK hP hD hS 0 rfl rfl 2 (by decide) (hw _ fl_M_93) (fun _ h9 => h9) rfl (by decide +kernel) rfl rfl (Nat.le_of_ble_eq_true rfl) d_M_unit_63 (fun H locs hP hD hS => ?_)
        have hP : va_P D gC (mX T o a 0 (nI (pn + 1)) z3 z14 z18 z19 z20 z21 z24 z26 (upd f1 pn sg) f4 f5 f6 f7 f8 f9 f10 f11 f12 f13 f15 f16 f17 f22 f23 f25 f27) H := hP
        have hD : va_D A (mX T o a 0 (nI (pn + 1)) z3 z14 z18 z19 z20 z21 z24 z26 (upd f1 pn sg) f4 f5 f6 f7 f8 f9 f10 f11 f12 f13 f15 f16 f17 f22 f23 f25 f27) := hD
        refine lv_aload_n hx hb d_M_unit_66 rfl (lv_at hl 0 rfl) ?_
        refine va_get (D := D) (ci := 6) (v := .int (nI (pn + 1))) (C := "TimeWordsModel") (T := F_M) (N := 28) hx hb hw in_M hown hK hP 0 rfl rfl 2 (by decide) (hw _ fl_M_93) (fun _ h9 => h9) rfl d_M_unit_67 ?_
        exact W.iret (v := nI (pn + 1)) hx hb hr (fun t ht hW => ⟨⟨nI (pn + 1), (0, nI (pn + 1), upd f1 pn sg), rfl, (Or.inr (Or.inr ⟨by simp [j_sg, *], by omega, rfl, rfl, rfl, rfl⟩)), by rw [ht]; exact hP, va_K.moved hW.alike hK, hD⟩, hS.F ht⟩) hS.2.2 d_M_unit_70
      · have c8 := nc_eq (a := pn) (b := 24) c8 (by omega) (by omega)
        refine lv_aload_n hx hb d_M_unit_35 rfl (lv_at hl 0 rfl) ?_
        refine lv_iconst (v := 2) hx hb d_M_unit_36 (by decide) ?_
        refine g_calli (va_runV (As := [.int 2]) (rest := []) ⟨hx, hb, hml, hown, hw⟩ (k_M_fails l D T o a z0 (nI pn) z3 z14 z18 z19 z20 z21 z24 z26 f1 f4 f5 f6 f7 f8 f9 f10 f11 f12 f13 f15 f16 f17 f22 f23 f25 f27 s.heap.size 2) (cwV 1 hw (bg_V ml_M_89 wi_M_fails wv_M_fails wz_M wc_M_fails) rfl rfl rfl (by decide +kernel) ⟨Nat.le_of_ble_eq_true rfl, Nat.le_of_ble_eq_true rfl⟩) ⟨qP_b, va_recv hK hP (ci := 6) (q0 := 0) rfl rfl, qP_p hP hK hD⟩ rfl rfl hl.1 rfl (lv_room (Nat.le_of_ble_eq_true rfl)) d_M_unit_37 ⟨Nat.le_of_ble_eq_true rfl, Nat.le_of_ble_eq_true rfl⟩) hD hS hA (fun r9 u10 H locs hr9 hP hD hS => ?_)
        obtain ⟨q0, q1⟩ := hr9
        replace q0 := q0.symm; subst q0; replace q1 := q1.symm; subst q1
        have hP : va_P D gC (mX T o a 2 (nI pn) z3 z14 z18 z19 z20 z21 z24 z26 f1 f4 f5 f6 f7 f8 f9 f10 f11 f12 f13 f15 f16 f17 f22 f23 f25 f27) H := hP
        have hD : va_D A (mX T o a 2 (nI pn) z3 z14 z18 z19 z20 z21 z24 z26 f1 f4 f5 f6 f7 f8 f9 f10 f11 f12 f13 f15 f16 f17 f22 f23 f25 f27) := hD
        exact W.iret (v := 0) hx hb hr (fun t ht hW => ⟨⟨0, (2, nI pn, f1), rfl, (Or.inr (Or.inl ⟨by simp [j_sg, *], c8, rfl, rfl, rfl, rfl⟩)), by rw [ht]; exact hP, va_K.moved hW.alike hK, hD⟩, hS.F ht⟩) hS.2.2 d_M_unit_40
    · have c7 := b2i_f c7
      refine lv_iload_n hx hb d_M_unit_14 rfl (lv_at hl 1 rfl) ?_
      refine lv_bipush (v := 32) hx hb d_M_unit_15 (by decide) ?_
      refine lv_icmp_eq (tgt := 26) hx hb d_M_unit_17 (by decide) (fun c11 => ?_) (fun c11 => ?_)
      · refine lv_aload_n hx hb d_M_unit_26 rfl (lv_at hl 0 rfl) ?_
        refine va_get (D := D) (ci := 6) (v := .int (nI pn)) (C := "TimeWordsModel") (T := F_M) (N := 28) hx hb hw in_M hown hK hP 0 rfl rfl 2 (by decide) (hw _ fl_M_93) (fun _ h9 => h9) rfl d_M_unit_27 ?_
        refine lv_bipush (v := 24) hx hb d_M_unit_30 (by decide) ?_
        refine lv_icmp_ne (tgt := 41) hx hb d_M_unit_32 (by decide) (fun c12 => ?_) (fun c12 => ?_)
        · have c12 := nc_ne (a := pn) (b := 24) c12 (by omega) (by omega)
          have hlt : pn < 24 := by omega
          refine lv_aload_n hx hb d_M_unit_41 rfl (lv_at hl 0 rfl) ?_
          refine lv_iconst (v := 0) hx hb d_M_unit_42 (by decide) ?_
          refine va_put (D := D) (ci := 6) (v := .int 0) (ty := .int) (C := "TimeWordsModel") (T := F_M) (N := 28) hx hb hw in_M ty_M ty_M_ok n_M hown hK hP hD hS 0 rfl rfl 0 (by decide) (hw _ fl_M_69) (fun _ h9 => h9) rfl (by decide +kernel) rfl rfl (Nat.le_of_ble_eq_true rfl) d_M_unit_43 (fun H locs hP hD hS => ?_)
          have hP : va_P D gC (mX T o a 0 (nI pn) z3 z14 z18 z19 z20 z21 z24 z26 f1 f4 f5 f6 f7 f8 f9 f10 f11 f12 f13 f15 f16 f17 f22 f23 f25 f27) H := hP
          have hD : va_D A (mX T o a 0 (nI pn) z3 z14 z18 z19 z20 z21 z24 z26 f1 f4 f5 f6 f7 f8 f9 f10 f11 f12 f13 f15 f16 f17 f22 f23 f25 f27) := hD
          refine lv_aload_n hx hb d_M_unit_46 rfl (lv_at hl 0 rfl) ?_
          refine va_get (D := D) (ci := 6) (v := .ref (a 1)) (C := "TimeWordsModel") (T := F_M) (N := 28) hx hb hw in_M hown hK hP 0 rfl rfl 1 (by decide) (hw _ fl_M_7) (fun _ h9 => h9) rfl d_M_unit_47 ?_
          refine lv_aload_n hx hb d_M_unit_50 rfl (lv_at hl 0 rfl) ?_
          refine va_get (D := D) (ci := 6) (v := .int (nI pn)) (C := "TimeWordsModel") (T := F_M) (N := 28) hx hb hw in_M hown hK hP 0 rfl rfl 2 (by decide) (hw _ fl_M_93) (fun _ h9 => h9) rfl d_M_unit_51 ?_
          refine lv_iload_n hx hb d_M_unit_54 rfl (lv_at hl 1 rfl) ?_
          refine va_iast hx hb hK hP hD hS 1 0 rfl rfl (by first | assumption | exact vp_in_nI (by omega) (by omega)) d_M_unit_55 (fun H locs hP hD hS => ?_)
          rw [show (nI pn).toNatClampNeg = pn from nI_clamp (by omega)] at hP hD
          have hP : va_P D gC (mX T o a 0 (nI pn) z3 z14 z18 z19 z20 z21 z24 z26 (upd f1 pn sg) f4 f5 f6 f7 f8 f9 f10 f11 f12 f13 f15 f16 f17 f22 f23 f25 f27) H := hP
          have hD : va_D A (mX T o a 0 (nI pn) z3 z14 z18 z19 z20 z21 z24 z26 (upd f1 pn sg) f4 f5 f6 f7 f8 f9 f10 f11 f12 f13 f15 f16 f17 f22 f23 f25 f27) := hD
          refine lv_aload_n hx hb d_M_unit_56 rfl (lv_at hl 0 rfl) ?_
          refine lv_dup hx hb d_M_unit_57 rfl ?_
          refine va_get (D := D) (ci := 6) (v := .int (nI pn)) (C := "TimeWordsModel") (T := F_M) (N := 28) hx hb hw in_M hown hK hP 0 rfl rfl 2 (by decide) (hw _ fl_M_93) (fun _ h9 => h9) rfl d_M_unit_58 ?_
          refine lv_iconst (v := 1) hx hb d_M_unit_61 (by decide) ?_
          refine lv_iadd hx hb d_M_unit_62 ?_
          rw [nI_1]
          refine va_put (D := D) (ci := 6) (v := .int (nI (pn + 1))) (ty := .int) (C := "TimeWordsModel") (T := F_M) (N := 28) hx hb hw in_M ty_M ty_M_ok n_M hown hK hP hD hS 0 rfl rfl 2 (by decide) (hw _ fl_M_93) (fun _ h9 => h9) rfl (by decide +kernel) rfl rfl (Nat.le_of_ble_eq_true rfl) d_M_unit_63 (fun H locs hP hD hS => ?_)
          have hP : va_P D gC (mX T o a 0 (nI (pn + 1)) z3 z14 z18 z19 z20 z21 z24 z26 (upd f1 pn sg) f4 f5 f6 f7 f8 f9 f10 f11 f12 f13 f15 f16 f17 f22 f23 f25 f27) H := hP
          have hD : va_D A (mX T o a 0 (nI (pn + 1)) z3 z14 z18 z19 z20 z21 z24 z26 (upd f1 pn sg) f4 f5 f6 f7 f8 f9 f10 f11 f12 f13 f15 f16 f17 f22 f23 f25 f27) := hD
          refine lv_aload_n hx hb d_M_unit_66 rfl (lv_at hl 0 rfl) ?_
          refine va_get (D := D) (ci := 6) (v := .int (nI (pn + 1))) (C := "TimeWordsModel") (T := F_M) (N := 28) hx hb hw in_M hown hK hP 0 rfl rfl 2 (by decide) (hw _ fl_M_93) (fun _ h9 => h9) rfl d_M_unit_67 ?_
          exact W.iret (v := nI (pn + 1)) hx hb hr (fun t ht hW => ⟨⟨nI (pn + 1), (0, nI (pn + 1), upd f1 pn sg), rfl, (Or.inr (Or.inr ⟨by simp [j_sg, *], by omega, rfl, rfl, rfl, rfl⟩)), by rw [ht]; exact hP, va_K.moved hW.alike hK, hD⟩, hS.F ht⟩) hS.2.2 d_M_unit_70
        · have c12 := nc_eq (a := pn) (b := 24) c12 (by omega) (by omega)
          refine lv_aload_n hx hb d_M_unit_35 rfl (lv_at hl 0 rfl) ?_
          refine lv_iconst (v := 2) hx hb d_M_unit_36 (by decide) ?_
          refine g_calli (va_runV (As := [.int 2]) (rest := []) ⟨hx, hb, hml, hown, hw⟩ (k_M_fails l D T o a z0 (nI pn) z3 z14 z18 z19 z20 z21 z24 z26 f1 f4 f5 f6 f7 f8 f9 f10 f11 f12 f13 f15 f16 f17 f22 f23 f25 f27 s.heap.size 2) (cwV 1 hw (bg_V ml_M_89 wi_M_fails wv_M_fails wz_M wc_M_fails) rfl rfl rfl (by decide +kernel) ⟨Nat.le_of_ble_eq_true rfl, Nat.le_of_ble_eq_true rfl⟩) ⟨qP_b, va_recv hK hP (ci := 6) (q0 := 0) rfl rfl, qP_p hP hK hD⟩ rfl rfl hl.1 rfl (lv_room (Nat.le_of_ble_eq_true rfl)) d_M_unit_37 ⟨Nat.le_of_ble_eq_true rfl, Nat.le_of_ble_eq_true rfl⟩) hD hS hA (fun r13 u14 H locs hr13 hP hD hS => ?_)
          obtain ⟨q0, q1⟩ := hr13
          replace q0 := q0.symm; subst q0; replace q1 := q1.symm; subst q1
          have hP : va_P D gC (mX T o a 2 (nI pn) z3 z14 z18 z19 z20 z21 z24 z26 f1 f4 f5 f6 f7 f8 f9 f10 f11 f12 f13 f15 f16 f17 f22 f23 f25 f27) H := hP
          have hD : va_D A (mX T o a 2 (nI pn) z3 z14 z18 z19 z20 z21 z24 z26 f1 f4 f5 f6 f7 f8 f9 f10 f11 f12 f13 f15 f16 f17 f22 f23 f25 f27) := hD
          exact W.iret (v := 0) hx hb hr (fun t ht hW => ⟨⟨0, (2, nI pn, f1), rfl, (Or.inr (Or.inl ⟨by simp [j_sg, *], c12, rfl, rfl, rfl, rfl⟩)), by rw [ht]; exact hP, va_K.moved hW.alike hK, hD⟩, hS.F ht⟩) hS.2.2 d_M_unit_40
      · refine lv_aload_n hx hb d_M_unit_20 rfl (lv_at hl 0 rfl) ?_
        refine lv_iconst (v := 1) hx hb d_M_unit_21 (by decide) ?_
        refine g_calli (va_runV (As := [.int 1]) (rest := []) ⟨hx, hb, hml, hown, hw⟩ (k_M_fails l D T o a z0 (nI pn) z3 z14 z18 z19 z20 z21 z24 z26 f1 f4 f5 f6 f7 f8 f9 f10 f11 f12 f13 f15 f16 f17 f22 f23 f25 f27 s.heap.size 1) (cwV 1 hw (bg_V ml_M_89 wi_M_fails wv_M_fails wz_M wc_M_fails) rfl rfl rfl (by decide +kernel) ⟨Nat.le_of_ble_eq_true rfl, Nat.le_of_ble_eq_true rfl⟩) ⟨qP_b, va_recv hK hP (ci := 6) (q0 := 0) rfl rfl, qP_p hP hK hD⟩ rfl rfl hl.1 rfl (lv_room (Nat.le_of_ble_eq_true rfl)) d_M_unit_22 ⟨Nat.le_of_ble_eq_true rfl, Nat.le_of_ble_eq_true rfl⟩) hD hS hA (fun r15 u16 H locs hr15 hP hD hS => ?_)
        obtain ⟨q0, q1⟩ := hr15
        replace q0 := q0.symm; subst q0; replace q1 := q1.symm; subst q1
        have hP : va_P D gC (mX T o a 1 (nI pn) z3 z14 z18 z19 z20 z21 z24 z26 f1 f4 f5 f6 f7 f8 f9 f10 f11 f12 f13 f15 f16 f17 f22 f23 f25 f27) H := hP
        have hD : va_D A (mX T o a 1 (nI pn) z3 z14 z18 z19 z20 z21 z24 z26 f1 f4 f5 f6 f7 f8 f9 f10 f11 f12 f13 f15 f16 f17 f22 f23 f25 f27) := hD
        exact W.iret (v := 0) hx hb hr (fun t ht hW => ⟨⟨0, (1, nI pn, f1), rfl, (Or.inl ⟨by simp [j_sg, *], rfl, rfl, rfl, rfl⟩), by rw [ht]; exact hP, va_K.moved hW.alike hK, hD⟩, hS.F ht⟩) hS.2.2 d_M_unit_25

set_option maxHeartbeats 4000000 in
set_option maxRecDepth 100000 in
theorem k_M_width (l : Launch) (D : va_G) (T : gT) (o : Nat) (a : Nat → Nat) (z0 z2 z3 z14 z18 z19 z20 z21 z24 z26 : Int32) (f1 f4 f5 f6 f7 f8 f9 f10 f11 f12 f13 f15 f16 f17 f22 f23 f25 f27 : Nat → Int32) (sz : Nat) (y : Int32) : Met l y_M_width (Cond.code y_M_width b_M_width 3 (some .int) :: bg_W) ({ frames := 1, cells := 0, slots := 0, locals := 22 }) (qP D T (mX T o a z0 z2 z3 z14 z18 z19 z20 z21 z24 z26 f1 f4 f5 f6 f7 f8 f9 f10 f11 f12 f13 f15 f16 f17 f22 f23 f25 f27) [.ref o, .int y] sz) (va_Qi (fun (r : Int32) (u : Int32 × Int32) => match u with | (w0, w18) => (j_in y 0 1000 = false ∧ r = 0 ∧ w0 = 1 ∧ w18 = z18) ∨ (j_in y 0 1000 = true ∧ r = z18 ∧ w0 = 0 ∧ w18 = y)) (qB D T (va_A (mX T o a z0 z2 z3 z14 z18 z19 z20 z21 z24 z26 f1 f4 f5 f6 f7 f8 f9 f10 f11 f12 f13 f15 f16 f17 f22 f23 f25 f27) sz) (fun u : Int32 × Int32 => match u with | (w0, w18) => mX T o a w0 z2 z3 z14 w18 z19 z20 z21 z24 z26 f1 f4 f5 f6 f7 f8 f9 f10 f11 f12 f13 f15 f16 f17 f22 f23 f25 f27)) (va_A (mX T o a z0 z2 z3 z14 z18 z19 z20 z21 z24 z26 f1 f4 f5 f6 f7 f8 f9 f10 f11 f12 f13 f15 f16 f17 f22 f23 f25 f27) sz)) 0 0 (va_A (mX T o a z0 z2 z3 z14 z18 z19 z20 z21 z24 z26 f1 f4 f5 f6 f7 f8 f9 f10 f11 f12 f13 f15 f16 f17 f22 f23 f25 f27) sz) := by
  refine Met.ofW (cc := b_M_width) (maxL := 3) (ret := (some .int)) (by decide) rfl ?_
  intro p e s m args below meth c s₁ B hml hv
  obtain ⟨rfl, hsz, hP, hK, hD0⟩ := hv
  have hx := B.exec
  have hb := B.bytes
  have hr := B.returns
  have hw : ∀ w ∈ bg_W, w.before ([.ref o, .int y] : List Value).toArray s = true := fun w h => atoms_spec (ws := (Cond.code y_M_width b_M_width 3 (some .int) :: bg_W)) B.pre w (List.mem_cons_of_mem _ h)
  have hown : s.vm.findClass "TimeWordsModel" = some m.cls := findClass_of_methodNamed B.named
  have hlocks := B.notSynchronized
  subst hsz
  have hD := hD0.self (sz := s.heap.size)
  generalize hAe : va_A (mX T o a z0 z2 z3 z14 z18 z19 z20 z21 z24 z26 f1 f4 f5 f6 f7 f8 f9 f10 f11 f12 f13 f15 f16 f17 f22 f23 f25 f27) s.heap.size = A at hD ⊢
  have hA : ∀ q : Nat, s.heap.size ≤ q → A q := fun q h => by rw [← hAe]; exact Or.inr h
  have hS : va_S A s.heap s.heap [] := va_S.rf
  have hl := lv_entry ([.ref o, .int y]) (n := 3) (Nat.le_of_ble_eq_true rfl)
  rw [lg_entry_eq]
  generalize (lg_sl ([.ref o, .int y]) ++ List.replicate (3 - (lg_sl ([.ref o, .int y])).length) Slot.unset).toArray = ls at hl ⊢
  have hl : lv_has ls 3 [(0, .ref o), (1, .int y)] := hl
  refine lv_iload_n hx hb d_M_width_0 rfl (lv_at hl 1 rfl) ?_
  refine lv_iconst (v := 0) hx hb d_M_width_1 (by decide) ?_
  refine lv_sipush (v := 1000) hx hb d_M_width_2 (by decide) ?_
  refine vp_callSi (va_Run.run (va_runS (As := [.int y, .int 0, .int 1000]) (rest := []) ⟨hx, hb, hml, hown, hw⟩ (k_M_in l y 0 1000) (va_cwS 3 hw (bg_S ml_M_72 wt_M_in wz_M wc_M_in) rfl rfl rfl (by decide +kernel) ⟨Nat.le_of_ble_eq_true rfl, Nat.le_of_ble_eq_true rfl⟩) ⟨nP_b, nP_p⟩ rfl rfl hl.1 rfl (lv_room (Nat.le_of_ble_eq_true rfl)) d_M_width_5 ⟨Nat.le_of_ble_eq_true rfl, Nat.le_of_ble_eq_true rfl⟩)) (fun r1 hr1 => ?_)
  replace hr1 := hr1.symm; subst hr1
  refine lv_if_ne (tgt := 17) hx hb d_M_width_8 (by decide) (fun c2 => ?_) (fun c2 => ?_)
  · have c2 := b2i_t c2
    refine lv_aload_n hx hb d_M_width_17 rfl (lv_at hl 0 rfl) ?_
    refine lv_iconst (v := 0) hx hb d_M_width_18 (by decide) ?_
    refine va_put (D := D) (ci := 6) (v := .int 0) (ty := .int) (C := "TimeWordsModel") (T := F_M) (N := 28) hx hb hw in_M ty_M ty_M_ok n_M hown hK hP hD hS 0 rfl rfl 0 (by decide) (hw _ fl_M_69) (fun _ h9 => h9) rfl (by decide +kernel) rfl rfl (Nat.le_of_ble_eq_true rfl) d_M_width_19 (fun H locs hP hD hS => ?_)
    have hP : va_P D gC (mX T o a 0 z2 z3 z14 z18 z19 z20 z21 z24 z26 f1 f4 f5 f6 f7 f8 f9 f10 f11 f12 f13 f15 f16 f17 f22 f23 f25 f27) H := hP
    have hD : va_D A (mX T o a 0 z2 z3 z14 z18 z19 z20 z21 z24 z26 f1 f4 f5 f6 f7 f8 f9 f10 f11 f12 f13 f15 f16 f17 f22 f23 f25 f27) := hD
    refine lv_aload_n hx hb d_M_width_22 rfl (lv_at hl 0 rfl) ?_
    refine va_get (D := D) (ci := 6) (v := .int z18) (C := "TimeWordsModel") (T := F_M) (N := 28) hx hb hw in_M hown hK hP 0 rfl rfl 18 (by decide) (hw _ fl_M_53) (fun _ h9 => h9) rfl d_M_width_23 ?_
    refine lv_istore_n (lv' := [(2, .int z18), (0, .ref o), (1, .int y)]) hx hb d_M_width_26 rfl hl (by decide) rfl (fun ls hl => ?_)
    refine lv_aload_n hx hb d_M_width_27 rfl (lv_at hl 1 rfl) ?_
    refine lv_iload_n hx hb d_M_width_28 rfl (lv_at hl 2 rfl) ?_
    refine va_put (D := D) (ci := 6) (v := .int y) (ty := .int) (C := "TimeWordsModel") (T := F_M) (N := 28) hx hb hw in_M ty_M ty_M_ok n_M hown hK hP hD hS 0 rfl rfl 18 (by decide) (hw _ fl_M_53) (fun _ h9 => h9) rfl (by decide +kernel) rfl rfl (Nat.le_of_ble_eq_true rfl) d_M_width_29 (fun H locs hP hD hS => ?_)
    have hP : va_P D gC (mX T o a 0 z2 z3 z14 y z19 z20 z21 z24 z26 f1 f4 f5 f6 f7 f8 f9 f10 f11 f12 f13 f15 f16 f17 f22 f23 f25 f27) H := hP
    have hD : va_D A (mX T o a 0 z2 z3 z14 y z19 z20 z21 z24 z26 f1 f4 f5 f6 f7 f8 f9 f10 f11 f12 f13 f15 f16 f17 f22 f23 f25 f27) := hD
    refine lv_iload_n hx hb d_M_width_32 rfl (lv_at hl 0 rfl) ?_
    exact W.iret (v := z18) hx hb hr (fun t ht hW => ⟨⟨z18, (0, y), rfl, (Or.inr ⟨by assumption, rfl, rfl, rfl⟩), by rw [ht]; exact hP, va_K.moved hW.alike hK, hD⟩, hS.F ht⟩) hS.2.2 d_M_width_33
  · have c2 := b2i_f c2
    refine lv_aload_n hx hb d_M_width_11 rfl (lv_at hl 0 rfl) ?_
    refine lv_iconst (v := 1) hx hb d_M_width_12 (by decide) ?_
    refine g_calli (va_runV (As := [.int 1]) (rest := []) ⟨hx, hb, hml, hown, hw⟩ (k_M_fails l D T o a z0 z2 z3 z14 z18 z19 z20 z21 z24 z26 f1 f4 f5 f6 f7 f8 f9 f10 f11 f12 f13 f15 f16 f17 f22 f23 f25 f27 s.heap.size 1) (cwV 1 hw (bg_V ml_M_89 wi_M_fails wv_M_fails wz_M wc_M_fails) rfl rfl rfl (by decide +kernel) ⟨Nat.le_of_ble_eq_true rfl, Nat.le_of_ble_eq_true rfl⟩) ⟨qP_b, va_recv hK hP (ci := 6) (q0 := 0) rfl rfl, qP_p hP hK hD⟩ rfl rfl hl.1 rfl (lv_room (Nat.le_of_ble_eq_true rfl)) d_M_width_13 ⟨Nat.le_of_ble_eq_true rfl, Nat.le_of_ble_eq_true rfl⟩) hD hS hA (fun r3 u4 H locs hr3 hP hD hS => ?_)
    obtain ⟨q0, q1⟩ := hr3
    replace q0 := q0.symm; subst q0; replace q1 := q1.symm; subst q1
    have hP : va_P D gC (mX T o a 1 z2 z3 z14 z18 z19 z20 z21 z24 z26 f1 f4 f5 f6 f7 f8 f9 f10 f11 f12 f13 f15 f16 f17 f22 f23 f25 f27) H := hP
    have hD : va_D A (mX T o a 1 z2 z3 z14 z18 z19 z20 z21 z24 z26 f1 f4 f5 f6 f7 f8 f9 f10 f11 f12 f13 f15 f16 f17 f22 f23 f25 f27) := hD
    exact W.iret (v := 0) hx hb hr (fun t ht hW => ⟨⟨0, (1, z18), rfl, (Or.inl ⟨by assumption, rfl, rfl, rfl⟩), by rw [ht]; exact hP, va_K.moved hW.alike hK, hD⟩, hS.F ht⟩) hS.2.2 d_M_width_16

set_option maxHeartbeats 4000000 in
set_option maxRecDepth 100000 in
theorem k_M_set (l : Launch) (D : va_G) (T : gT) (o : Nat) (a : Nat → Nat) (z0 z2 z3 z14 z18 z19 z20 z21 z24 z26 : Int32) (f1 f4 f5 f6 f7 f8 f9 f10 f11 f12 f13 f15 f16 f17 f22 f23 f25 f27 : Nat → Int32) (sz : Nat) (x y : Int32) : Met l y_M_set (Cond.code y_M_set b_M_set 3 none :: bg_W) ({ frames := 0, cells := 0, slots := 0, locals := 0 }) (qP D T (mX T o a z0 z2 z3 z14 z18 z19 z20 z21 z24 z26 f1 f4 f5 f6 f7 f8 f9 f10 f11 f12 f13 f15 f16 f17 f22 f23 f25 f27) [.ref o, .int x, .int y] sz) (va_Qv (fun u : Int32 × Int32 × Int32 => match u with | (w19, w20, w21) => w19 = x ∧ w20 = y ∧ w21 = 0) (qB D T (va_A (mX T o a z0 z2 z3 z14 z18 z19 z20 z21 z24 z26 f1 f4 f5 f6 f7 f8 f9 f10 f11 f12 f13 f15 f16 f17 f22 f23 f25 f27) sz) (fun u : Int32 × Int32 × Int32 => match u with | (w19, w20, w21) => mX T o a z0 z2 z3 z14 z18 w19 w20 w21 z24 z26 f1 f4 f5 f6 f7 f8 f9 f10 f11 f12 f13 f15 f16 f17 f22 f23 f25 f27)) (va_A (mX T o a z0 z2 z3 z14 z18 z19 z20 z21 z24 z26 f1 f4 f5 f6 f7 f8 f9 f10 f11 f12 f13 f15 f16 f17 f22 f23 f25 f27) sz)) 0 0 (va_A (mX T o a z0 z2 z3 z14 z18 z19 z20 z21 z24 z26 f1 f4 f5 f6 f7 f8 f9 f10 f11 f12 f13 f15 f16 f17 f22 f23 f25 f27) sz) := by
  refine Met.ofW (cc := b_M_set) (maxL := 3) (ret := none) (by decide) rfl ?_
  intro p e s m args below meth c s₁ B hml hv
  obtain ⟨rfl, hsz, hP, hK, hD0⟩ := hv
  have hx := B.exec
  have hb := B.bytes
  have hr := B.returns
  have hw : ∀ w ∈ bg_W, w.before ([.ref o, .int x, .int y] : List Value).toArray s = true := fun w h => atoms_spec (ws := (Cond.code y_M_set b_M_set 3 none :: bg_W)) B.pre w (List.mem_cons_of_mem _ h)
  have hown : s.vm.findClass "TimeWordsModel" = some m.cls := findClass_of_methodNamed B.named
  have hlocks := B.notSynchronized
  subst hsz
  have hD := hD0.self (sz := s.heap.size)
  generalize hAe : va_A (mX T o a z0 z2 z3 z14 z18 z19 z20 z21 z24 z26 f1 f4 f5 f6 f7 f8 f9 f10 f11 f12 f13 f15 f16 f17 f22 f23 f25 f27) s.heap.size = A at hD ⊢
  have hA : ∀ q : Nat, s.heap.size ≤ q → A q := fun q h => by rw [← hAe]; exact Or.inr h
  have hS : va_S A s.heap s.heap [] := va_S.rf
  have hl := lv_entry ([.ref o, .int x, .int y]) (n := 3) (Nat.le_of_ble_eq_true rfl)
  rw [lg_entry_eq]
  generalize (lg_sl ([.ref o, .int x, .int y]) ++ List.replicate (3 - (lg_sl ([.ref o, .int x, .int y])).length) Slot.unset).toArray = ls at hl ⊢
  have hl : lv_has ls 3 [(0, .ref o), (1, .int x), (2, .int y)] := hl
  refine lv_aload_n hx hb d_M_set_0 rfl (lv_at hl 0 rfl) ?_
  refine lv_iload_n hx hb d_M_set_1 rfl (lv_at hl 1 rfl) ?_
  refine va_put (D := D) (ci := 6) (v := .int x) (ty := .int) (C := "TimeWordsModel") (T := F_M) (N := 28) hx hb hw in_M ty_M ty_M_ok n_M hown hK hP hD hS 0 rfl rfl 19 (by decide) (hw _ fl_M_132) (fun _ h9 => h9) rfl (by decide +kernel) rfl rfl (Nat.le_of_ble_eq_true rfl) d_M_set_2 (fun H locs hP hD hS => ?_)
  have hP : va_P D gC (mX T o a z0 z2 z3 z14 z18 x z20 z21 z24 z26 f1 f4 f5 f6 f7 f8 f9 f10 f11 f12 f13 f15 f16 f17 f22 f23 f25 f27) H := hP
  have hD : va_D A (mX T o a z0 z2 z3 z14 z18 x z20 z21 z24 z26 f1 f4 f5 f6 f7 f8 f9 f10 f11 f12 f13 f15 f16 f17 f22 f23 f25 f27) := hD
  refine lv_aload_n hx hb d_M_set_5 rfl (lv_at hl 0 rfl) ?_
  refine lv_iload_n hx hb d_M_set_6 rfl (lv_at hl 2 rfl) ?_
  refine va_put (D := D) (ci := 6) (v := .int y) (ty := .int) (C := "TimeWordsModel") (T := F_M) (N := 28) hx hb hw in_M ty_M ty_M_ok n_M hown hK hP hD hS 0 rfl rfl 20 (by decide) (hw _ fl_M_135) (fun _ h9 => h9) rfl (by decide +kernel) rfl rfl (Nat.le_of_ble_eq_true rfl) d_M_set_7 (fun H locs hP hD hS => ?_)
  have hP : va_P D gC (mX T o a z0 z2 z3 z14 z18 x y z21 z24 z26 f1 f4 f5 f6 f7 f8 f9 f10 f11 f12 f13 f15 f16 f17 f22 f23 f25 f27) H := hP
  have hD : va_D A (mX T o a z0 z2 z3 z14 z18 x y z21 z24 z26 f1 f4 f5 f6 f7 f8 f9 f10 f11 f12 f13 f15 f16 f17 f22 f23 f25 f27) := hD
  refine lv_aload_n hx hb d_M_set_10 rfl (lv_at hl 0 rfl) ?_
  refine lv_iconst (v := 0) hx hb d_M_set_11 (by decide) ?_
  refine va_put (D := D) (ci := 6) (v := .int 0) (ty := .int) (C := "TimeWordsModel") (T := F_M) (N := 28) hx hb hw in_M ty_M ty_M_ok n_M hown hK hP hD hS 0 rfl rfl 21 (by decide) (hw _ fl_M_138) (fun _ h9 => h9) rfl (by decide +kernel) rfl rfl (Nat.le_of_ble_eq_true rfl) d_M_set_12 (fun H locs hP hD hS => ?_)
  have hP : va_P D gC (mX T o a z0 z2 z3 z14 z18 x y 0 z24 z26 f1 f4 f5 f6 f7 f8 f9 f10 f11 f12 f13 f15 f16 f17 f22 f23 f25 f27) H := hP
  have hD : va_D A (mX T o a z0 z2 z3 z14 z18 x y 0 z24 z26 f1 f4 f5 f6 f7 f8 f9 f10 f11 f12 f13 f15 f16 f17 f22 f23 f25 f27) := hD
  exact W.vret hx hb hr (fun t ht hW => ⟨⟨(x, y, 0), rfl, ⟨rfl, rfl, rfl⟩, by rw [ht]; exact hP, va_K.moved hW.alike hK, hD⟩, hS.F ht⟩) hS.2.2 d_M_set_15

set_option maxHeartbeats 4000000 in
set_option maxRecDepth 100000 in
theorem k_M_make (l : Launch) (D : va_G) (T : gT) (o : Nat) (a : Nat → Nat) (z0 z2 z3 : Int32) (sn : Nat) (z18 z19 z20 z21 z24 z26 : Int32) (f1 f4 f5 f6 f7 f8 f9 f10 f11 f12 f13 f15 f16 f17 f22 f23 f25 f27 : Nat → Int32) (sz : Nat) (hy0 : sn < 60) : Met l y_M_make (Cond.code y_M_make b_M_make 1 (some .int) :: bg_W) ({ frames := 0, cells := 0, slots := 0, locals := 0 }) (qP D T (mX T o a z0 z2 z3 (nI sn) z18 z19 z20 z21 z24 z26 f1 f4 f5 f6 f7 f8 f9 f10 f11 f12 f13 f15 f16 f17 f22 f23 f25 f27) [.ref o] sz) (va_Qi (fun (r : Int32) (u : (Nat → Int32) × (Nat → Int32) × (Nat → Int32) × Int32) => match u with | (g15, g16, g17, w14) => r = nI sn ∧ g15 = upd f15 sn z19 ∧ g16 = upd f16 sn z20 ∧ g17 = upd f17 sn z21 ∧ w14 = nI (sn + 1)) (qB D T (va_A (mX T o a z0 z2 z3 (nI sn) z18 z19 z20 z21 z24 z26 f1 f4 f5 f6 f7 f8 f9 f10 f11 f12 f13 f15 f16 f17 f22 f23 f25 f27) sz) (fun u : (Nat → Int32) × (Nat → Int32) × (Nat → Int32) × Int32 => match u with | (g15, g16, g17, w14) => mX T o a z0 z2 z3 w14 z18 z19 z20 z21 z24 z26 f1 f4 f5 f6 f7 f8 f9 f10 f11 f12 f13 g15 g16 g17 f22 f23 f25 f27)) (va_A (mX T o a z0 z2 z3 (nI sn) z18 z19 z20 z21 z24 z26 f1 f4 f5 f6 f7 f8 f9 f10 f11 f12 f13 f15 f16 f17 f22 f23 f25 f27) sz)) 0 0 (va_A (mX T o a z0 z2 z3 (nI sn) z18 z19 z20 z21 z24 z26 f1 f4 f5 f6 f7 f8 f9 f10 f11 f12 f13 f15 f16 f17 f22 f23 f25 f27) sz) := by
  refine Met.ofW (cc := b_M_make) (maxL := 1) (ret := (some .int)) (by decide) rfl ?_
  intro p e s m args below meth c s₁ B hml hv
  obtain ⟨rfl, hsz, hP, hK, hD0⟩ := hv
  have hx := B.exec
  have hb := B.bytes
  have hr := B.returns
  have hw : ∀ w ∈ bg_W, w.before ([.ref o] : List Value).toArray s = true := fun w h => atoms_spec (ws := (Cond.code y_M_make b_M_make 1 (some .int) :: bg_W)) B.pre w (List.mem_cons_of_mem _ h)
  have hown : s.vm.findClass "TimeWordsModel" = some m.cls := findClass_of_methodNamed B.named
  have hlocks := B.notSynchronized
  subst hsz
  have hD := hD0.self (sz := s.heap.size)
  generalize hAe : va_A (mX T o a z0 z2 z3 (nI sn) z18 z19 z20 z21 z24 z26 f1 f4 f5 f6 f7 f8 f9 f10 f11 f12 f13 f15 f16 f17 f22 f23 f25 f27) s.heap.size = A at hD ⊢
  have hA : ∀ q : Nat, s.heap.size ≤ q → A q := fun q h => by rw [← hAe]; exact Or.inr h
  have hS : va_S A s.heap s.heap [] := va_S.rf
  have hl := lv_entry ([.ref o]) (n := 1) (Nat.le_of_ble_eq_true rfl)
  rw [lg_entry_eq]
  generalize (lg_sl ([.ref o]) ++ List.replicate (1 - (lg_sl ([.ref o])).length) Slot.unset).toArray = ls at hl ⊢
  have hl : lv_has ls 1 [(0, .ref o)] := hl
  refine lv_aload_n hx hb d_M_make_0 rfl (lv_at hl 0 rfl) ?_
  refine va_get (D := D) (ci := 6) (v := .ref (a 15)) (C := "TimeWordsModel") (T := F_M) (N := 28) hx hb hw in_M hown hK hP 0 rfl rfl 15 (by decide) (hw _ fl_M_44) (fun _ h9 => h9) rfl d_M_make_1 ?_
  refine lv_aload_n hx hb d_M_make_4 rfl (lv_at hl 0 rfl) ?_
  refine va_get (D := D) (ci := 6) (v := .int (nI sn)) (C := "TimeWordsModel") (T := F_M) (N := 28) hx hb hw in_M hown hK hP 0 rfl rfl 14 (by decide) (hw _ fl_M_79) (fun _ h9 => h9) rfl d_M_make_5 ?_
  refine lv_aload_n hx hb d_M_make_8 rfl (lv_at hl 0 rfl) ?_
  refine va_get (D := D) (ci := 6) (v := .int z19) (C := "TimeWordsModel") (T := F_M) (N := 28) hx hb hw in_M hown hK hP 0 rfl rfl 19 (by decide) (hw _ fl_M_132) (fun _ h9 => h9) rfl d_M_make_9 ?_
  refine va_iast hx hb hK hP hD hS 12 0 rfl rfl (by first | assumption | exact vp_in_nI (by omega) (by omega)) d_M_make_12 (fun H locs hP hD hS => ?_)
  rw [show (nI sn).toNatClampNeg = sn from nI_clamp (by omega)] at hP hD
  have hP : va_P D gC (mX T o a z0 z2 z3 (nI sn) z18 z19 z20 z21 z24 z26 f1 f4 f5 f6 f7 f8 f9 f10 f11 f12 f13 (upd f15 sn z19) f16 f17 f22 f23 f25 f27) H := hP
  have hD : va_D A (mX T o a z0 z2 z3 (nI sn) z18 z19 z20 z21 z24 z26 f1 f4 f5 f6 f7 f8 f9 f10 f11 f12 f13 (upd f15 sn z19) f16 f17 f22 f23 f25 f27) := hD
  refine lv_aload_n hx hb d_M_make_13 rfl (lv_at hl 0 rfl) ?_
  refine va_get (D := D) (ci := 6) (v := .ref (a 16)) (C := "TimeWordsModel") (T := F_M) (N := 28) hx hb hw in_M hown hK hP 0 rfl rfl 16 (by decide) (hw _ fl_M_47) (fun _ h9 => h9) rfl d_M_make_14 ?_
  refine lv_aload_n hx hb d_M_make_17 rfl (lv_at hl 0 rfl) ?_
  refine va_get (D := D) (ci := 6) (v := .int (nI sn)) (C := "TimeWordsModel") (T := F_M) (N := 28) hx hb hw in_M hown hK hP 0 rfl rfl 14 (by decide) (hw _ fl_M_79) (fun _ h9 => h9) rfl d_M_make_18 ?_
  refine lv_aload_n hx hb d_M_make_21 rfl (lv_at hl 0 rfl) ?_
  refine va_get (D := D) (ci := 6) (v := .int z20) (C := "TimeWordsModel") (T := F_M) (N := 28) hx hb hw in_M hown hK hP 0 rfl rfl 20 (by decide) (hw _ fl_M_135) (fun _ h9 => h9) rfl d_M_make_22 ?_
  refine va_iast hx hb hK hP hD hS 13 0 rfl rfl (by first | assumption | exact vp_in_nI (by omega) (by omega)) d_M_make_25 (fun H locs hP hD hS => ?_)
  rw [show (nI sn).toNatClampNeg = sn from nI_clamp (by omega)] at hP hD
  have hP : va_P D gC (mX T o a z0 z2 z3 (nI sn) z18 z19 z20 z21 z24 z26 f1 f4 f5 f6 f7 f8 f9 f10 f11 f12 f13 (upd f15 sn z19) (upd f16 sn z20) f17 f22 f23 f25 f27) H := hP
  have hD : va_D A (mX T o a z0 z2 z3 (nI sn) z18 z19 z20 z21 z24 z26 f1 f4 f5 f6 f7 f8 f9 f10 f11 f12 f13 (upd f15 sn z19) (upd f16 sn z20) f17 f22 f23 f25 f27) := hD
  refine lv_aload_n hx hb d_M_make_26 rfl (lv_at hl 0 rfl) ?_
  refine va_get (D := D) (ci := 6) (v := .ref (a 17)) (C := "TimeWordsModel") (T := F_M) (N := 28) hx hb hw in_M hown hK hP 0 rfl rfl 17 (by decide) (hw _ fl_M_50) (fun _ h9 => h9) rfl d_M_make_27 ?_
  refine lv_aload_n hx hb d_M_make_30 rfl (lv_at hl 0 rfl) ?_
  refine va_get (D := D) (ci := 6) (v := .int (nI sn)) (C := "TimeWordsModel") (T := F_M) (N := 28) hx hb hw in_M hown hK hP 0 rfl rfl 14 (by decide) (hw _ fl_M_79) (fun _ h9 => h9) rfl d_M_make_31 ?_
  refine lv_aload_n hx hb d_M_make_34 rfl (lv_at hl 0 rfl) ?_
  refine va_get (D := D) (ci := 6) (v := .int z21) (C := "TimeWordsModel") (T := F_M) (N := 28) hx hb hw in_M hown hK hP 0 rfl rfl 21 (by decide) (hw _ fl_M_138) (fun _ h9 => h9) rfl d_M_make_35 ?_
  refine va_iast hx hb hK hP hD hS 14 0 rfl rfl (by first | assumption | exact vp_in_nI (by omega) (by omega)) d_M_make_38 (fun H locs hP hD hS => ?_)
  rw [show (nI sn).toNatClampNeg = sn from nI_clamp (by omega)] at hP hD
  have hP : va_P D gC (mX T o a z0 z2 z3 (nI sn) z18 z19 z20 z21 z24 z26 f1 f4 f5 f6 f7 f8 f9 f10 f11 f12 f13 (upd f15 sn z19) (upd f16 sn z20) (upd f17 sn z21) f22 f23 f25 f27) H := hP
  have hD : va_D A (mX T o a z0 z2 z3 (nI sn) z18 z19 z20 z21 z24 z26 f1 f4 f5 f6 f7 f8 f9 f10 f11 f12 f13 (upd f15 sn z19) (upd f16 sn z20) (upd f17 sn z21) f22 f23 f25 f27) := hD
  refine lv_aload_n hx hb d_M_make_39 rfl (lv_at hl 0 rfl) ?_
  refine lv_dup hx hb d_M_make_40 rfl ?_
  refine va_get (D := D) (ci := 6) (v := .int (nI sn)) (C := "TimeWordsModel") (T := F_M) (N := 28) hx hb hw in_M hown hK hP 0 rfl rfl 14 (by decide) (hw _ fl_M_79) (fun _ h9 => h9) rfl d_M_make_41 ?_
  refine lv_iconst (v := 1) hx hb d_M_make_44 (by decide) ?_
  refine lv_iadd hx hb d_M_make_45 ?_
  rw [nI_1]
  refine va_put (D := D) (ci := 6) (v := .int (nI (sn + 1))) (ty := .int) (C := "TimeWordsModel") (T := F_M) (N := 28) hx hb hw in_M ty_M ty_M_ok n_M hown hK hP hD hS 0 rfl rfl 14 (by decide) (hw _ fl_M_79) (fun _ h9 => h9) rfl (by decide +kernel) rfl rfl (Nat.le_of_ble_eq_true rfl) d_M_make_46 (fun H locs hP hD hS => ?_)
  have hP : va_P D gC (mX T o a z0 z2 z3 (nI (sn + 1)) z18 z19 z20 z21 z24 z26 f1 f4 f5 f6 f7 f8 f9 f10 f11 f12 f13 (upd f15 sn z19) (upd f16 sn z20) (upd f17 sn z21) f22 f23 f25 f27) H := hP
  have hD : va_D A (mX T o a z0 z2 z3 (nI (sn + 1)) z18 z19 z20 z21 z24 z26 f1 f4 f5 f6 f7 f8 f9 f10 f11 f12 f13 (upd f15 sn z19) (upd f16 sn z20) (upd f17 sn z21) f22 f23 f25 f27) := hD
  refine lv_aload_n hx hb d_M_make_49 rfl (lv_at hl 0 rfl) ?_
  refine va_get (D := D) (ci := 6) (v := .int (nI (sn + 1))) (C := "TimeWordsModel") (T := F_M) (N := 28) hx hb hw in_M hown hK hP 0 rfl rfl 14 (by decide) (hw _ fl_M_79) (fun _ h9 => h9) rfl d_M_make_50 ?_
  refine lv_iconst (v := 1) hx hb d_M_make_53 (by decide) ?_
  refine lv_isub hx hb d_M_make_54 ?_
  rw [nI_pred]
  exact W.iret (v := nI sn) hx hb hr (fun t ht hW => ⟨⟨nI sn, (upd f15 sn z19, upd f16 sn z20, upd f17 sn z21, nI (sn + 1)), rfl, ⟨rfl, rfl, rfl, rfl, rfl⟩, by rw [ht]; exact hP, va_K.moved hW.alike hK, hD⟩, hS.F ht⟩) hS.2.2 d_M_make_55

/-- whether an end is open, of the bits -/
def j_op (b w : Int32) : Bool := decide ((b >>> (w &&& 31)) &&& 1 = 1)
set_option maxHeartbeats 4000000 in
set_option maxRecDepth 100000 in
theorem k_M_isOpen (l : Launch) (D : va_G) (T : gT) (o : Nat) (a : Nat → Nat) (z0 z2 z3 z14 z18 z19 z20 z21 z24 z26 : Int32) (f1 f4 f5 f6 f7 f8 f9 f10 f11 f12 f13 f15 f16 f17 f22 f23 f25 f27 : Nat → Int32) (j : Nat) (k : Int32) (hy0 : j < 60) : Met l y_M_isOpen (Cond.code y_M_isOpen b_M_isOpen 3 (some .boolean) :: bg_W) ({ frames := 0, cells := 0, slots := 0, locals := 0 }) (sP D T (mX T o a z0 z2 z3 z14 z18 z19 z20 z21 z24 z26 f1 f4 f5 f6 f7 f8 f9 f10 f11 f12 f13 f15 f16 f17 f22 f23 f25 f27) [.ref o, .int (nI j), .int k]) (vp_Si (fun r : Int32 => r = b2i (j_op (f17 j) k))) 0 0 (fun _ => False) := by
  refine Met.ofW (cc := b_M_isOpen) (maxL := 3) (ret := (some .boolean)) (by decide) rfl ?_
  intro p e s m args below meth c s₁ B hml hv
  obtain ⟨rfl, hP, hK⟩ := hv
  have hx := B.exec
  have hb := B.bytes
  have hr := B.returns
  have hw : ∀ w ∈ bg_W, w.before ([.ref o, .int (nI j), .int k] : List Value).toArray s = true := fun w h => atoms_spec (ws := (Cond.code y_M_isOpen b_M_isOpen 3 (some .boolean) :: bg_W)) B.pre w (List.mem_cons_of_mem _ h)
  have hown : s.vm.findClass "TimeWordsModel" = some m.cls := findClass_of_methodNamed B.named
  have hlocks := B.notSynchronized
  have hl := lv_entry ([.ref o, .int (nI j), .int k]) (n := 3) (Nat.le_of_ble_eq_true rfl)
  rw [lg_entry_eq]
  generalize (lg_sl ([.ref o, .int (nI j), .int k]) ++ List.replicate (3 - (lg_sl ([.ref o, .int (nI j), .int k])).length) Slot.unset).toArray = ls at hl ⊢
  have hl : lv_has ls 3 [(0, .ref o), (1, .int (nI j)), (2, .int k)] := hl
  refine lv_aload_n hx hb d_M_isOpen_0 rfl (lv_at hl 0 rfl) ?_
  refine va_get (D := D) (ci := 6) (v := .ref (a 17)) (C := "TimeWordsModel") (T := F_M) (N := 28) hx hb hw in_M hown hK hP 0 rfl rfl 17 (by decide) (hw _ fl_M_50) (fun _ h9 => h9) rfl d_M_isOpen_1 ?_
  refine lv_iload_n hx hb d_M_isOpen_4 rfl (lv_at hl 1 rfl) ?_
  refine va_iald hx hb hK hP 14 0 rfl rfl (by first | assumption | exact vp_in_nI (by omega) (by omega)) d_M_isOpen_5 ?_
  rw [show (nI j).toNatClampNeg = j from nI_clamp (by omega)]
  refine lv_iload_n hx hb d_M_isOpen_6 rfl (lv_at hl 2 rfl) ?_
  refine lv_ishr hx hb d_M_isOpen_7 ?_
  refine lv_iconst (v := 1) hx hb d_M_isOpen_8 (by decide) ?_
  refine lv_iand hx hb d_M_isOpen_9 ?_
  refine lv_iconst (v := 1) hx hb d_M_isOpen_10 (by decide) ?_
  refine lv_icmp_ne (tgt := 18) hx hb d_M_isOpen_11 (by decide) (fun c1 => ?_) (fun c1 => ?_)
  · refine lv_iconst (v := 0) hx hb d_M_isOpen_18 (by decide) ?_
    exact W.zret (v := 0) hx hb hr rfl (fun t ht hW => ⟨0, rfl, (by simp [j_op, b2i, *]), ht⟩) (fun _ h => nomatch h) d_M_isOpen_19
  · refine lv_iconst (v := 1) hx hb d_M_isOpen_14 (by decide) ?_
    refine lv_goto (tgt := 19) hx hb d_M_isOpen_15 (by decide) ?_
    exact W.zret (v := 1) hx hb hr rfl (fun t ht hW => ⟨1, rfl, (by simp [j_op, b2i, *]), ht⟩) (fun _ h => nomatch h) d_M_isOpen_19

def j_lo (b v : Int32) : Int32 := if j_op b 0 = true then -9999 else v
def j_hi (b v : Int32) : Int32 := if j_op b 1 = true then 9999 else v
set_option maxHeartbeats 4000000 in
set_option maxRecDepth 100000 in
theorem k_M_lowest (l : Launch) (D : va_G) (T : gT) (o : Nat) (a : Nat → Nat) (z0 z2 z3 z14 z18 z19 z20 z21 z24 z26 : Int32) (f1 f4 f5 f6 f7 f8 f9 f10 f11 f12 f13 f15 f16 f17 f22 f23 f25 f27 : Nat → Int32) (j : Nat) (hy0 : j < 60) : Met l y_M_lowest (Cond.code y_M_lowest b_M_lowest 2 (some .int) :: bg_W) ({ frames := 1, cells := 0, slots := 0, locals := 22 }) (sP D T (mX T o a z0 z2 z3 z14 z18 z19 z20 z21 z24 z26 f1 f4 f5 f6 f7 f8 f9 f10 f11 f12 f13 f15 f16 f17 f22 f23 f25 f27) [.ref o, .int (nI j)]) (vp_Si (fun r : Int32 => r = j_lo (f17 j) (f15 j))) 0 0 (fun _ => False) := by
  refine Met.ofW (cc := b_M_lowest) (maxL := 2) (ret := (some .int)) (by decide) rfl ?_
  intro p e s m args below meth c s₁ B hml hv
  obtain ⟨rfl, hP, hK⟩ := hv
  have hx := B.exec
  have hb := B.bytes
  have hr := B.returns
  have hw : ∀ w ∈ bg_W, w.before ([.ref o, .int (nI j)] : List Value).toArray s = true := fun w h => atoms_spec (ws := (Cond.code y_M_lowest b_M_lowest 2 (some .int) :: bg_W)) B.pre w (List.mem_cons_of_mem _ h)
  have hown : s.vm.findClass "TimeWordsModel" = some m.cls := findClass_of_methodNamed B.named
  have hlocks := B.notSynchronized
  have hl := lv_entry ([.ref o, .int (nI j)]) (n := 2) (Nat.le_of_ble_eq_true rfl)
  rw [lg_entry_eq]
  generalize (lg_sl ([.ref o, .int (nI j)]) ++ List.replicate (2 - (lg_sl ([.ref o, .int (nI j)])).length) Slot.unset).toArray = ls at hl ⊢
  have hl : lv_has ls 2 [(0, .ref o), (1, .int (nI j))] := hl
  refine lv_aload_n hx hb d_M_lowest_0 rfl (lv_at hl 0 rfl) ?_
  refine lv_iload_n hx hb d_M_lowest_1 rfl (lv_at hl 1 rfl) ?_
  refine lv_iconst (v := 0) hx hb d_M_lowest_2 (by decide) ?_
  refine vp_callSi (va_Run.run (va_runV (As := [.int (nI j), .int 0]) (rest := []) ⟨hx, hb, hml, hown, hw⟩ (k_M_isOpen l D T o a z0 z2 z3 z14 z18 z19 z20 z21 z24 z26 f1 f4 f5 f6 f7 f8 f9 f10 f11 f12 f13 f15 f16 f17 f22 f23 f25 f27 j 0 (by assumption)) (cwV 2 hw (bg_V ml_M_167 wi_M_isOpen wv_M_isOpen wz_M wc_M_isOpen) rfl rfl rfl (by decide +kernel) ⟨Nat.le_of_ble_eq_true rfl, Nat.le_of_ble_eq_true rfl⟩) ⟨sP_b, va_recv hK hP (ci := 6) (q0 := 0) rfl rfl, sP_p hP hK⟩ rfl rfl hl.1 rfl (lv_room (Nat.le_of_ble_eq_true rfl)) d_M_lowest_3 ⟨Nat.le_of_ble_eq_true rfl, Nat.le_of_ble_eq_true rfl⟩)) (fun r1 hr1 => ?_)
  replace hr1 := hr1.symm; subst hr1
  refine lv_if_eq (tgt := 15) hx hb d_M_lowest_6 (by decide) (fun c2 => ?_) (fun c2 => ?_)
  · have c2 := b2i_f c2
    refine lv_aload_n hx hb d_M_lowest_15 rfl (lv_at hl 0 rfl) ?_
    refine va_get (D := D) (ci := 6) (v := .ref (a 15)) (C := "TimeWordsModel") (T := F_M) (N := 28) hx hb hw in_M hown hK hP 0 rfl rfl 15 (by decide) (hw _ fl_M_44) (fun _ h9 => h9) rfl d_M_lowest_16 ?_
    refine lv_iload_n hx hb d_M_lowest_19 rfl (lv_at hl 1 rfl) ?_
    refine va_iald hx hb hK hP 12 0 rfl rfl (by first | assumption | exact vp_in_nI (by omega) (by omega)) d_M_lowest_20 ?_
    rw [show (nI j).toNatClampNeg = j from nI_clamp (by omega)]
    exact W.iret (v := f15 j) hx hb hr (fun t ht hW => ⟨f15 j, rfl, (by simp [j_lo, *]), ht⟩) (fun _ h => nomatch h) d_M_lowest_21
  · have c2 := b2i_t c2
    refine lv_sipush (v := (-9999)) hx hb d_M_lowest_9 (by decide) ?_
    refine lv_goto (tgt := 21) hx hb d_M_lowest_12 (by decide) ?_
    exact W.iret (v := (-9999)) hx hb hr (fun t ht hW => ⟨(-9999), rfl, (by simp [j_lo, *]), ht⟩) (fun _ h => nomatch h) d_M_lowest_21

set_option maxHeartbeats 4000000 in
set_option maxRecDepth 100000 in
theorem k_M_highest (l : Launch) (D : va_G) (T : gT) (o : Nat) (a : Nat → Nat) (z0 z2 z3 z14 z18 z19 z20 z21 z24 z26 : Int32) (f1 f4 f5 f6 f7 f8 f9 f10 f11 f12 f13 f15 f16 f17 f22 f23 f25 f27 : Nat → Int32) (j : Nat) (hy0 : j < 60) : Met l y_M_highest (Cond.code y_M_highest b_M_highest 2 (some .int) :: bg_W) ({ frames := 1, cells := 0, slots := 0, locals := 22 }) (sP D T (mX T o a z0 z2 z3 z14 z18 z19 z20 z21 z24 z26 f1 f4 f5 f6 f7 f8 f9 f10 f11 f12 f13 f15 f16 f17 f22 f23 f25 f27) [.ref o, .int (nI j)]) (vp_Si (fun r : Int32 => r = j_hi (f17 j) (f16 j))) 0 0 (fun _ => False) := by
  refine Met.ofW (cc := b_M_highest) (maxL := 2) (ret := (some .int)) (by decide) rfl ?_
  intro p e s m args below meth c s₁ B hml hv
  obtain ⟨rfl, hP, hK⟩ := hv
  have hx := B.exec
  have hb := B.bytes
  have hr := B.returns
  have hw : ∀ w ∈ bg_W, w.before ([.ref o, .int (nI j)] : List Value).toArray s = true := fun w h => atoms_spec (ws := (Cond.code y_M_highest b_M_highest 2 (some .int) :: bg_W)) B.pre w (List.mem_cons_of_mem _ h)
  have hown : s.vm.findClass "TimeWordsModel" = some m.cls := findClass_of_methodNamed B.named
  have hlocks := B.notSynchronized
  have hl := lv_entry ([.ref o, .int (nI j)]) (n := 2) (Nat.le_of_ble_eq_true rfl)
  rw [lg_entry_eq]
  generalize (lg_sl ([.ref o, .int (nI j)]) ++ List.replicate (2 - (lg_sl ([.ref o, .int (nI j)])).length) Slot.unset).toArray = ls at hl ⊢
  have hl : lv_has ls 2 [(0, .ref o), (1, .int (nI j))] := hl
  refine lv_aload_n hx hb d_M_highest_0 rfl (lv_at hl 0 rfl) ?_
  refine lv_iload_n hx hb d_M_highest_1 rfl (lv_at hl 1 rfl) ?_
  refine lv_iconst (v := 1) hx hb d_M_highest_2 (by decide) ?_
  refine vp_callSi (va_Run.run (va_runV (As := [.int (nI j), .int 1]) (rest := []) ⟨hx, hb, hml, hown, hw⟩ (k_M_isOpen l D T o a z0 z2 z3 z14 z18 z19 z20 z21 z24 z26 f1 f4 f5 f6 f7 f8 f9 f10 f11 f12 f13 f15 f16 f17 f22 f23 f25 f27 j 1 (by assumption)) (cwV 2 hw (bg_V ml_M_167 wi_M_isOpen wv_M_isOpen wz_M wc_M_isOpen) rfl rfl rfl (by decide +kernel) ⟨Nat.le_of_ble_eq_true rfl, Nat.le_of_ble_eq_true rfl⟩) ⟨sP_b, va_recv hK hP (ci := 6) (q0 := 0) rfl rfl, sP_p hP hK⟩ rfl rfl hl.1 rfl (lv_room (Nat.le_of_ble_eq_true rfl)) d_M_highest_3 ⟨Nat.le_of_ble_eq_true rfl, Nat.le_of_ble_eq_true rfl⟩)) (fun r1 hr1 => ?_)
  replace hr1 := hr1.symm; subst hr1
  refine lv_if_eq (tgt := 15) hx hb d_M_highest_6 (by decide) (fun c2 => ?_) (fun c2 => ?_)
  · have c2 := b2i_f c2
    refine lv_aload_n hx hb d_M_highest_15 rfl (lv_at hl 0 rfl) ?_
    refine va_get (D := D) (ci := 6) (v := .ref (a 16)) (C := "TimeWordsModel") (T := F_M) (N := 28) hx hb hw in_M hown hK hP 0 rfl rfl 16 (by decide) (hw _ fl_M_47) (fun _ h9 => h9) rfl d_M_highest_16 ?_
    refine lv_iload_n hx hb d_M_highest_19 rfl (lv_at hl 1 rfl) ?_
    refine va_iald hx hb hK hP 13 0 rfl rfl (by first | assumption | exact vp_in_nI (by omega) (by omega)) d_M_highest_20 ?_
    rw [show (nI j).toNatClampNeg = j from nI_clamp (by omega)]
    exact W.iret (v := f16 j) hx hb hr (fun t ht hW => ⟨f16 j, rfl, (by simp [j_hi, *]), ht⟩) (fun _ h => nomatch h) d_M_highest_21
  · have c2 := b2i_t c2
    refine lv_sipush (v := 9999) hx hb d_M_highest_9 (by decide) ?_
    refine lv_goto (tgt := 21) hx hb d_M_highest_12 (by decide) ?_
    exact W.iret (v := 9999) hx hb hr (fun t ht hW => ⟨9999, rfl, (by simp [j_hi, *]), ht⟩) (fun _ h => nomatch h) d_M_highest_21

set_option maxHeartbeats 4000000 in
set_option maxRecDepth 100000 in
theorem k_M_put (l : Launch) (D : va_G) (T : gT) (o : Nat) (a : Nat → Nat) (z0 z2 z3 z14 z18 z19 z20 z21 : Int32) (mn : Nat) (z26 : Int32) (f1 f4 f5 f6 f7 f8 f9 f10 f11 f12 f13 f15 f16 f17 f22 f23 f25 f27 : Nat → Int32) (sz : Nat) (sg : Int32) (hy0 : mn < 40) : Met l y_M_put (Cond.code y_M_put b_M_put 2 none :: bg_W) ({ frames := 0, cells := 0, slots := 0, locals := 0 }) (qP D T (mX T o a z0 z2 z3 z14 z18 z19 z20 z21 (nI mn) z26 f1 f4 f5 f6 f7 f8 f9 f10 f11 f12 f13 f15 f16 f17 f22 f23 f25 f27) [.ref o, .int sg] sz) (va_Qv (fun u : (Nat → Int32) × Int32 => match u with | (g23, w24) => g23 = upd f23 mn sg ∧ w24 = nI (mn + 1)) (qB D T (va_A (mX T o a z0 z2 z3 z14 z18 z19 z20 z21 (nI mn) z26 f1 f4 f5 f6 f7 f8 f9 f10 f11 f12 f13 f15 f16 f17 f22 f23 f25 f27) sz) (fun u : (Nat → Int32) × Int32 => match u with | (g23, w24) => mX T o a z0 z2 z3 z14 z18 z19 z20 z21 w24 z26 f1 f4 f5 f6 f7 f8 f9 f10 f11 f12 f13 f15 f16 f17 f22 g23 f25 f27)) (va_A (mX T o a z0 z2 z3 z14 z18 z19 z20 z21 (nI mn) z26 f1 f4 f5 f6 f7 f8 f9 f10 f11 f12 f13 f15 f16 f17 f22 f23 f25 f27) sz)) 0 0 (va_A (mX T o a z0 z2 z3 z14 z18 z19 z20 z21 (nI mn) z26 f1 f4 f5 f6 f7 f8 f9 f10 f11 f12 f13 f15 f16 f17 f22 f23 f25 f27) sz) := by
  refine Met.ofW (cc := b_M_put) (maxL := 2) (ret := none) (by decide) rfl ?_
  intro p e s m args below meth c s₁ B hml hv
  obtain ⟨rfl, hsz, hP, hK, hD0⟩ := hv
  have hx := B.exec
  have hb := B.bytes
  have hr := B.returns
  have hw : ∀ w ∈ bg_W, w.before ([.ref o, .int sg] : List Value).toArray s = true := fun w h => atoms_spec (ws := (Cond.code y_M_put b_M_put 2 none :: bg_W)) B.pre w (List.mem_cons_of_mem _ h)
  have hown : s.vm.findClass "TimeWordsModel" = some m.cls := findClass_of_methodNamed B.named
  have hlocks := B.notSynchronized
  subst hsz
  have hD := hD0.self (sz := s.heap.size)
  generalize hAe : va_A (mX T o a z0 z2 z3 z14 z18 z19 z20 z21 (nI mn) z26 f1 f4 f5 f6 f7 f8 f9 f10 f11 f12 f13 f15 f16 f17 f22 f23 f25 f27) s.heap.size = A at hD ⊢
  have hA : ∀ q : Nat, s.heap.size ≤ q → A q := fun q h => by rw [← hAe]; exact Or.inr h
  have hS : va_S A s.heap s.heap [] := va_S.rf
  have hl := lv_entry ([.ref o, .int sg]) (n := 2) (Nat.le_of_ble_eq_true rfl)
  rw [lg_entry_eq]
  generalize (lg_sl ([.ref o, .int sg]) ++ List.replicate (2 - (lg_sl ([.ref o, .int sg])).length) Slot.unset).toArray = ls at hl ⊢
  have hl : lv_has ls 2 [(0, .ref o), (1, .int sg)] := hl
  refine lv_aload_n hx hb d_M_put_0 rfl (lv_at hl 0 rfl) ?_
  refine va_get (D := D) (ci := 6) (v := .ref (a 23)) (C := "TimeWordsModel") (T := F_M) (N := 28) hx hb hw in_M hown hK hP 0 rfl rfl 23 (by decide) (hw _ fl_M_60) (fun _ h9 => h9) rfl d_M_put_1 ?_
  refine lv_aload_n hx hb d_M_put_4 rfl (lv_at hl 0 rfl) ?_
  refine va_get (D := D) (ci := 6) (v := .int (nI mn)) (C := "TimeWordsModel") (T := F_M) (N := 28) hx hb hw in_M hown hK hP 0 rfl rfl 24 (by decide) (hw _ fl_M_180) (fun _ h9 => h9) rfl d_M_put_5 ?_
  refine lv_iload_n hx hb d_M_put_8 rfl (lv_at hl 1 rfl) ?_
  refine va_iast hx hb hK hP hD hS 16 0 rfl rfl (by first | assumption | exact vp_in_nI (by omega) (by omega)) d_M_put_9 (fun H locs hP hD hS => ?_)
  rw [show (nI mn).toNatClampNeg = mn from nI_clamp (by omega)] at hP hD
  have hP : va_P D gC (mX T o a z0 z2 z3 z14 z18 z19 z20 z21 (nI mn) z26 f1 f4 f5 f6 f7 f8 f9 f10 f11 f12 f13 f15 f16 f17 f22 (upd f23 mn sg) f25 f27) H := hP
  have hD : va_D A (mX T o a z0 z2 z3 z14 z18 z19 z20 z21 (nI mn) z26 f1 f4 f5 f6 f7 f8 f9 f10 f11 f12 f13 f15 f16 f17 f22 (upd f23 mn sg) f25 f27) := hD
  refine lv_aload_n hx hb d_M_put_10 rfl (lv_at hl 0 rfl) ?_
  refine lv_dup hx hb d_M_put_11 rfl ?_
  refine va_get (D := D) (ci := 6) (v := .int (nI mn)) (C := "TimeWordsModel") (T := F_M) (N := 28) hx hb hw in_M hown hK hP 0 rfl rfl 24 (by decide) (hw _ fl_M_180) (fun _ h9 => h9) rfl d_M_put_12 ?_
  refine lv_iconst (v := 1) hx hb d_M_put_15 (by decide) ?_
  refine lv_iadd hx hb d_M_put_16 ?_
  rw [nI_1]
  refine va_put (D := D) (ci := 6) (v := .int (nI (mn + 1))) (ty := .int) (C := "TimeWordsModel") (T := F_M) (N := 28) hx hb hw in_M ty_M ty_M_ok n_M hown hK hP hD hS 0 rfl rfl 24 (by decide) (hw _ fl_M_180) (fun _ h9 => h9) rfl (by decide +kernel) rfl rfl (Nat.le_of_ble_eq_true rfl) d_M_put_17 (fun H locs hP hD hS => ?_)
  have hP : va_P D gC (mX T o a z0 z2 z3 z14 z18 z19 z20 z21 (nI (mn + 1)) z26 f1 f4 f5 f6 f7 f8 f9 f10 f11 f12 f13 f15 f16 f17 f22 (upd f23 mn sg) f25 f27) H := hP
  have hD : va_D A (mX T o a z0 z2 z3 z14 z18 z19 z20 z21 (nI (mn + 1)) z26 f1 f4 f5 f6 f7 f8 f9 f10 f11 f12 f13 f15 f16 f17 f22 (upd f23 mn sg) f25 f27) := hD
  exact W.vret hx hb hr (fun t ht hW => ⟨⟨(upd f23 mn sg, nI (mn + 1)), rfl, ⟨rfl, rfl⟩, by rw [ht]; exact hP, va_K.moved hW.alike hK, hD⟩, hS.F ht⟩) hS.2.2 d_M_put_20

def j_fl (x y : Int32) : Int32 := if 0 ≤ x then x / y else -((-x + y - 1) / y)
set_option maxHeartbeats 4000000 in
set_option maxRecDepth 100000 in
theorem k_M_floor (l : Launch) (x y : Int32) (hy0 : ¬ y = 0) : Met l y_M_floor (Cond.code y_M_floor b_M_floor 2 (some .int) :: bg_W) ({ frames := 0, cells := 0, slots := 0, locals := 0 }) (nP [.int x, .int y]) (vp_Si (fun r : Int32 => r = j_fl x y)) 0 0 (fun _ => False) := by
  refine Met.ofW (cc := b_M_floor) (maxL := 2) (ret := (some .int)) (by decide) rfl ?_
  intro p e s m args below meth c s₁ B hml hv
  obtain ⟨rfl, -⟩ := hv
  have hx := B.exec
  have hb := B.bytes
  have hr := B.returns
  have hw : ∀ w ∈ bg_W, w.before ([.int x, .int y] : List Value).toArray s = true := fun w h => atoms_spec (ws := (Cond.code y_M_floor b_M_floor 2 (some .int) :: bg_W)) B.pre w (List.mem_cons_of_mem _ h)
  have hown : s.vm.findClass "TimeWordsModel" = some m.cls := findClass_of_methodNamed B.named
  have hlocks := B.notSynchronized
  have hl := lv_entry ([.int x, .int y]) (n := 2) (Nat.le_of_ble_eq_true rfl)
  rw [lg_entry_eq]
  generalize (lg_sl ([.int x, .int y]) ++ List.replicate (2 - (lg_sl ([.int x, .int y])).length) Slot.unset).toArray = ls at hl ⊢
  have hl : lv_has ls 2 [(0, .int x), (1, .int y)] := hl
  refine lv_iload_n hx hb d_M_floor_0 rfl (lv_at hl 0 rfl) ?_
  refine lv_if_ge (tgt := 16) hx hb d_M_floor_1 (by decide) (fun c1 => ?_) (fun c1 => ?_)
  · refine lv_iload_n hx hb d_M_floor_16 rfl (lv_at hl 0 rfl) ?_
    refine lv_iload_n hx hb d_M_floor_17 rfl (lv_at hl 1 rfl) ?_
    refine lv_idiv hx hb d_M_floor_18 hy0 ?_
    exact W.iret (v := x / y) hx hb hr (fun t ht hW => ⟨x / y, rfl, (by simp [j_fl, *]), ht⟩) (fun _ h => nomatch h) d_M_floor_19
  · refine lv_iload_n hx hb d_M_floor_4 rfl (lv_at hl 0 rfl) ?_
    refine lv_ineg hx hb d_M_floor_5 ?_
    refine lv_iload_n hx hb d_M_floor_6 rfl (lv_at hl 1 rfl) ?_
    refine lv_iadd hx hb d_M_floor_7 ?_
    refine lv_iconst (v := 1) hx hb d_M_floor_8 (by decide) ?_
    refine lv_isub hx hb d_M_floor_9 ?_
    refine lv_iload_n hx hb d_M_floor_10 rfl (lv_at hl 1 rfl) ?_
    refine lv_idiv hx hb d_M_floor_11 hy0 ?_
    refine lv_ineg hx hb d_M_floor_12 ?_
    refine lv_goto (tgt := 19) hx hb d_M_floor_13 (by decide) ?_
    exact W.iret (v := -((((-x) + y) - 1) / y)) hx hb hr (fun t ht hW => ⟨-((((-x) + y) - 1) / y), rfl, (by simp [j_fl, *]), ht⟩) (fun _ h => nomatch h) d_M_floor_19

def j_lp (y : Int32) : Bool := decide (y - y / 4 * 4 = 0) && (!decide (y - y / 100 * 100 = 0) || decide (y - y / 400 * 400 = 0))
set_option maxHeartbeats 4000000 in
set_option maxRecDepth 100000 in
theorem k_M_isLeap (l : Launch) (y : Int32) : Met l y_M_isLeap (Cond.code y_M_isLeap b_M_isLeap 1 (some .boolean) :: bg_W) ({ frames := 0, cells := 0, slots := 0, locals := 0 }) (nP [.int y]) (vp_Si (fun r : Int32 => r = b2i (j_lp y))) 0 0 (fun _ => False) := by
  refine Met.ofW (cc := b_M_isLeap) (maxL := 1) (ret := (some .boolean)) (by decide) rfl ?_
  intro p e s m args below meth c s₁ B hml hv
  obtain ⟨rfl, -⟩ := hv
  have hx := B.exec
  have hb := B.bytes
  have hr := B.returns
  have hw : ∀ w ∈ bg_W, w.before ([.int y] : List Value).toArray s = true := fun w h => atoms_spec (ws := (Cond.code y_M_isLeap b_M_isLeap 1 (some .boolean) :: bg_W)) B.pre w (List.mem_cons_of_mem _ h)
  have hown : s.vm.findClass "TimeWordsModel" = some m.cls := findClass_of_methodNamed B.named
  have hlocks := B.notSynchronized
  have hl := lv_entry ([.int y]) (n := 1) (Nat.le_of_ble_eq_true rfl)
  rw [lg_entry_eq]
  generalize (lg_sl ([.int y]) ++ List.replicate (1 - (lg_sl ([.int y])).length) Slot.unset).toArray = ls at hl ⊢
  have hl : lv_has ls 1 [(0, .int y)] := hl
  refine lv_iload_n hx hb d_M_isLeap_0 rfl (lv_at hl 0 rfl) ?_
  refine lv_iconst (v := 4) hx hb d_M_isLeap_1 (by decide) ?_
  refine lv_irem hx hb d_M_isLeap_2 (by decide) ?_
  refine lv_if_ne (tgt := 25) hx hb d_M_isLeap_3 (by decide) (fun c1 => ?_) (fun c1 => ?_)
  · refine lv_iconst (v := 0) hx hb d_M_isLeap_25 (by decide) ?_
    exact W.zret (v := 0) hx hb hr rfl (fun t ht hW => ⟨0, rfl, (by simp [j_lp, b2i, *]), ht⟩) (fun _ h => nomatch h) d_M_isLeap_26
  · refine lv_iload_n hx hb d_M_isLeap_6 rfl (lv_at hl 0 rfl) ?_
    refine lv_bipush (v := 100) hx hb d_M_isLeap_7 (by decide) ?_
    refine lv_irem hx hb d_M_isLeap_9 (by decide) ?_
    refine lv_if_ne (tgt := 21) hx hb d_M_isLeap_10 (by decide) (fun c2 => ?_) (fun c2 => ?_)
    · refine lv_iconst (v := 1) hx hb d_M_isLeap_21 (by decide) ?_
      refine lv_goto (tgt := 26) hx hb d_M_isLeap_22 (by decide) ?_
      exact W.zret (v := 1) hx hb hr rfl (fun t ht hW => ⟨1, rfl, (by simp [j_lp, b2i, *]), ht⟩) (fun _ h => nomatch h) d_M_isLeap_26
    · refine lv_iload_n hx hb d_M_isLeap_13 rfl (lv_at hl 0 rfl) ?_
      refine lv_sipush (v := 400) hx hb d_M_isLeap_14 (by decide) ?_
      refine lv_irem hx hb d_M_isLeap_17 (by decide) ?_
      refine lv_if_ne (tgt := 25) hx hb d_M_isLeap_18 (by decide) (fun c3 => ?_) (fun c3 => ?_)
      · refine lv_iconst (v := 0) hx hb d_M_isLeap_25 (by decide) ?_
        exact W.zret (v := 0) hx hb hr rfl (fun t ht hW => ⟨0, rfl, (by simp [j_lp, b2i, *]), ht⟩) (fun _ h => nomatch h) d_M_isLeap_26
      · refine lv_iconst (v := 1) hx hb d_M_isLeap_21 (by decide) ?_
        refine lv_goto (tgt := 26) hx hb d_M_isLeap_22 (by decide) ?_
        exact W.zret (v := 1) hx hb hr rfl (fun t ht hW => ⟨1, rfl, (by simp [j_lp, b2i, *]), ht⟩) (fun _ h => nomatch h) d_M_isLeap_26

def j_dy (y m : Int32) : Int32 := if m = 2 then (if j_lp y = true then 29 else 28) else if m = 4 ∨ m = 6 ∨ m = 9 ∨ m = 11 then 30 else 31
set_option maxHeartbeats 4000000 in
set_option maxRecDepth 100000 in
theorem k_M_daysOf (l : Launch) (y mo : Int32) : Met l y_M_daysOf (Cond.code y_M_daysOf b_M_daysOf 2 (some .int) :: bg_W) ({ frames := 1, cells := 0, slots := 0, locals := 20 }) (nP [.int y, .int mo]) (vp_Si (fun r : Int32 => r = j_dy y mo)) 0 0 (fun _ => False) := by
  refine Met.ofW (cc := b_M_daysOf) (maxL := 2) (ret := (some .int)) (by decide) rfl ?_
  intro p e s m args below meth c s₁ B hml hv
  obtain ⟨rfl, -⟩ := hv
  have hx := B.exec
  have hb := B.bytes
  have hr := B.returns
  have hw : ∀ w ∈ bg_W, w.before ([.int y, .int mo] : List Value).toArray s = true := fun w h => atoms_spec (ws := (Cond.code y_M_daysOf b_M_daysOf 2 (some .int) :: bg_W)) B.pre w (List.mem_cons_of_mem _ h)
  have hown : s.vm.findClass "TimeWordsModel" = some m.cls := findClass_of_methodNamed B.named
  have hlocks := B.notSynchronized
  have hl := lv_entry ([.int y, .int mo]) (n := 2) (Nat.le_of_ble_eq_true rfl)
  rw [lg_entry_eq]
  generalize (lg_sl ([.int y, .int mo]) ++ List.replicate (2 - (lg_sl ([.int y, .int mo])).length) Slot.unset).toArray = ls at hl ⊢
  have hl : lv_has ls 2 [(0, .int y), (1, .int mo)] := hl
  refine lv_iload_n hx hb d_M_daysOf_0 rfl (lv_at hl 1 rfl) ?_
  refine lv_iconst (v := 2) hx hb d_M_daysOf_1 (by decide) ?_
  refine lv_icmp_ne (tgt := 22) hx hb d_M_daysOf_2 (by decide) (fun c1 => ?_) (fun c1 => ?_)
  · refine lv_iload_n hx hb d_M_daysOf_22 rfl (lv_at hl 1 rfl) ?_
    refine lv_iconst (v := 4) hx hb d_M_daysOf_23 (by decide) ?_
    refine lv_icmp_eq (tgt := 45) hx hb d_M_daysOf_24 (by decide) (fun c2 => ?_) (fun c2 => ?_)
    · refine lv_bipush (v := 30) hx hb d_M_daysOf_45 (by decide) ?_
      refine lv_goto (tgt := 52) hx hb d_M_daysOf_47 (by decide) ?_
      exact W.iret (v := 30) hx hb hr (fun t ht hW => ⟨30, rfl, (by simp [j_dy, *]), ht⟩) (fun _ h => nomatch h) d_M_daysOf_52
    · refine lv_iload_n hx hb d_M_daysOf_27 rfl (lv_at hl 1 rfl) ?_
      refine lv_bipush (v := 6) hx hb d_M_daysOf_28 (by decide) ?_
      refine lv_icmp_eq (tgt := 45) hx hb d_M_daysOf_30 (by decide) (fun c3 => ?_) (fun c3 => ?_)
      · refine lv_bipush (v := 30) hx hb d_M_daysOf_45 (by decide) ?_
        refine lv_goto (tgt := 52) hx hb d_M_daysOf_47 (by decide) ?_
        exact W.iret (v := 30) hx hb hr (fun t ht hW => ⟨30, rfl, (by simp [j_dy, *]), ht⟩) (fun _ h => nomatch h) d_M_daysOf_52
      · refine lv_iload_n hx hb d_M_daysOf_33 rfl (lv_at hl 1 rfl) ?_
        refine lv_bipush (v := 9) hx hb d_M_daysOf_34 (by decide) ?_
        refine lv_icmp_eq (tgt := 45) hx hb d_M_daysOf_36 (by decide) (fun c4 => ?_) (fun c4 => ?_)
        · refine lv_bipush (v := 30) hx hb d_M_daysOf_45 (by decide) ?_
          refine lv_goto (tgt := 52) hx hb d_M_daysOf_47 (by decide) ?_
          exact W.iret (v := 30) hx hb hr (fun t ht hW => ⟨30, rfl, (by simp [j_dy, *]), ht⟩) (fun _ h => nomatch h) d_M_daysOf_52
        · refine lv_iload_n hx hb d_M_daysOf_39 rfl (lv_at hl 1 rfl) ?_
          refine lv_bipush (v := 11) hx hb d_M_daysOf_40 (by decide) ?_
          refine lv_icmp_ne (tgt := 50) hx hb d_M_daysOf_42 (by decide) (fun c5 => ?_) (fun c5 => ?_)
          · refine lv_bipush (v := 31) hx hb d_M_daysOf_50 (by decide) ?_
            exact W.iret (v := 31) hx hb hr (fun t ht hW => ⟨31, rfl, (by simp [j_dy, *]), ht⟩) (fun _ h => nomatch h) d_M_daysOf_52
          · refine lv_bipush (v := 30) hx hb d_M_daysOf_45 (by decide) ?_
            refine lv_goto (tgt := 52) hx hb d_M_daysOf_47 (by decide) ?_
            exact W.iret (v := 30) hx hb hr (fun t ht hW => ⟨30, rfl, (by simp [j_dy, *]), ht⟩) (fun _ h => nomatch h) d_M_daysOf_52
  · refine lv_iload_n hx hb d_M_daysOf_5 rfl (lv_at hl 0 rfl) ?_
    refine vp_callSi (va_Run.run (va_runS (As := [.int y]) (rest := []) ⟨hx, hb, hml, hown, hw⟩ (k_M_isLeap l y) (va_cwS 1 hw (bg_S ml_M_208 wt_M_isLeap wz_M wc_M_isLeap) rfl rfl rfl (by decide +kernel) ⟨Nat.le_of_ble_eq_true rfl, Nat.le_of_ble_eq_true rfl⟩) ⟨nP_b, nP_p⟩ rfl rfl hl.1 rfl (lv_room (Nat.le_of_ble_eq_true rfl)) d_M_daysOf_6 ⟨Nat.le_of_ble_eq_true rfl, Nat.le_of_ble_eq_true rfl⟩)) (fun r6 hr6 => ?_)
    replace hr6 := hr6.symm; subst hr6
    refine lv_if_eq (tgt := 17) hx hb d_M_daysOf_9 (by decide) (fun c7 => ?_) (fun c7 => ?_)
    · have c7 := b2i_f c7
      refine lv_bipush (v := 28) hx hb d_M_daysOf_17 (by decide) ?_
      refine lv_goto (tgt := 52) hx hb d_M_daysOf_19 (by decide) ?_
      exact W.iret (v := 28) hx hb hr (fun t ht hW => ⟨28, rfl, (by simp [j_dy, *]), ht⟩) (fun _ h => nomatch h) d_M_daysOf_52
    · have c7 := b2i_t c7
      refine lv_bipush (v := 29) hx hb d_M_daysOf_12 (by decide) ?_
      refine lv_goto (tgt := 52) hx hb d_M_daysOf_14 (by decide) ?_
      exact W.iret (v := 29) hx hb hr (fun t ht hW => ⟨29, rfl, (by simp [j_dy, *]), ht⟩) (fun _ h => nomatch h) d_M_daysOf_52

def j_mb (r x y c d : Int32) : Bool := if r = 0 then !decide (d < x + 2) else if r = 1 then !decide ((if d - 1 ≤ y then d - 1 else y) < (if x ≤ c - 1 then c - 1 else x)) else !decide ((if d - 1 ≤ y then d - 1 else y) < (if x + 1 ≤ c then c else x + 1))
set_option maxHeartbeats 4000000 in
set_option maxRecDepth 100000 in
theorem k_M_mayBe (l : Launch) (k x y cv dv : Int32) : Met l y_M_mayBe (Cond.code y_M_mayBe b_M_mayBe 7 (some .boolean) :: bg_W) ({ frames := 0, cells := 0, slots := 0, locals := 0 }) (nP [.int k, .int x, .int y, .int cv, .int dv]) (vp_Si (fun r : Int32 => r = b2i (j_mb k x y cv dv))) 0 0 (fun _ => False) := by
  refine Met.ofW (cc := b_M_mayBe) (maxL := 7) (ret := (some .boolean)) (by decide) rfl ?_
  intro p e s m args below meth c s₁ B hml hv
  obtain ⟨rfl, -⟩ := hv
  have hx := B.exec
  have hb := B.bytes
  have hr := B.returns
  have hw : ∀ w ∈ bg_W, w.before ([.int k, .int x, .int y, .int cv, .int dv] : List Value).toArray s = true := fun w h => atoms_spec (ws := (Cond.code y_M_mayBe b_M_mayBe 7 (some .boolean) :: bg_W)) B.pre w (List.mem_cons_of_mem _ h)
  have hown : s.vm.findClass "TimeWordsModel" = some m.cls := findClass_of_methodNamed B.named
  have hlocks := B.notSynchronized
  have hl := lv_entry ([.int k, .int x, .int y, .int cv, .int dv]) (n := 7) (Nat.le_of_ble_eq_true rfl)
  rw [lg_entry_eq]
  generalize (lg_sl ([.int k, .int x, .int y, .int cv, .int dv]) ++ List.replicate (7 - (lg_sl ([.int k, .int x, .int y, .int cv, .int dv])).length) Slot.unset).toArray = ls at hl ⊢
  have hl : lv_has ls 7 [(0, .int k), (1, .int x), (2, .int y), (3, .int cv), (4, .int dv)] := hl
  refine lv_iload_n hx hb d_M_mayBe_0 rfl (lv_at hl 1 rfl) ?_
  refine lv_iconst (v := 1) hx hb d_M_mayBe_1 (by decide) ?_
  refine lv_iadd hx hb d_M_mayBe_2 ?_
  refine lv_iload_n hx hb d_M_mayBe_3 rfl (lv_at hl 3 rfl) ?_
  refine lv_icmp_le (tgt := 13) hx hb d_M_mayBe_4 (by decide) (fun c1 => ?_) (fun c1 => ?_)
  · refine lv_iload_n hx hb d_M_mayBe_13 rfl (lv_at hl 3 rfl) ?_
    refine lv_istore (lv' := [(5, .int cv), (0, .int k), (1, .int x), (2, .int y), (3, .int cv), (4, .int dv)]) hx hb d_M_mayBe_14 hl (by decide) rfl (fun ls hl => ?_)
    refine lv_iload_n hx hb d_M_mayBe_16 rfl (lv_at hl 3 rfl) ?_
    refine lv_iload hx hb d_M_mayBe_17 (lv_at hl 5 rfl) ?_
    refine lv_iconst (v := 1) hx hb d_M_mayBe_19 (by decide) ?_
    refine lv_isub hx hb d_M_mayBe_20 ?_
    refine lv_icmp_ge (tgt := 28) hx hb d_M_mayBe_21 (by decide) (fun c2 => ?_) (fun c2 => ?_)
    · refine lv_iload hx hb d_M_mayBe_28 (lv_at hl 5 rfl) ?_
      refine lv_iconst (v := 1) hx hb d_M_mayBe_30 (by decide) ?_
      refine lv_isub hx hb d_M_mayBe_31 ?_
      refine lv_istore (lv' := [(6, .int (dv - 1)), (5, .int cv), (0, .int k), (1, .int x), (2, .int y), (3, .int cv), (4, .int dv)]) hx hb d_M_mayBe_32 hl (by decide) rfl (fun ls hl => ?_)
      refine lv_iload_n hx hb d_M_mayBe_34 rfl (lv_at hl 2 rfl) ?_
      refine lv_if_ne (tgt := 54) hx hb d_M_mayBe_35 (by decide) (fun c3 => ?_) (fun c3 => ?_)
      · refine lv_iload_n hx hb d_M_mayBe_54 rfl (lv_at hl 2 rfl) ?_
        refine lv_iconst (v := 1) hx hb d_M_mayBe_55 (by decide) ?_
        refine lv_icmp_ne (tgt := 86) hx hb d_M_mayBe_56 (by decide) (fun c4 => ?_) (fun c4 => ?_)
        · refine lv_iload hx hb d_M_mayBe_86 (lv_at hl 1 rfl) ?_
          refine lv_iload hx hb d_M_mayBe_88 (lv_at hl 0 rfl) ?_
          refine lv_icmp_gt (tgt := 97) hx hb d_M_mayBe_90 (by decide) (fun c5 => ?_) (fun c5 => ?_)
          · refine lv_iconst (v := 0) hx hb d_M_mayBe_97 (by decide) ?_
            exact W.zret (v := 0) hx hb hr rfl (fun t ht hW => ⟨0, rfl, (by simp [j_mb, b2i, *]), ht⟩) (fun _ h => nomatch h) d_M_mayBe_98
          · refine lv_iconst (v := 1) hx hb d_M_mayBe_93 (by decide) ?_
            refine lv_goto (tgt := 98) hx hb d_M_mayBe_94 (by decide) ?_
            exact W.zret (v := 1) hx hb hr rfl (fun t ht hW => ⟨1, rfl, (by simp [j_mb, b2i, *]), ht⟩) (fun _ h => nomatch h) d_M_mayBe_98
        · refine lv_iload_n hx hb d_M_mayBe_59 rfl (lv_at hl 3 rfl) ?_
          refine lv_iload_n hx hb d_M_mayBe_60 rfl (lv_at hl 5 rfl) ?_
          refine lv_iconst (v := 1) hx hb d_M_mayBe_61 (by decide) ?_
          refine lv_isub hx hb d_M_mayBe_62 ?_
          refine lv_icmp_le (tgt := 70) hx hb d_M_mayBe_63 (by decide) (fun c6 => ?_) (fun c6 => ?_)
          · refine lv_iload_n hx hb d_M_mayBe_70 rfl (lv_at hl 5 rfl) ?_
            refine lv_iconst (v := 1) hx hb d_M_mayBe_71 (by decide) ?_
            refine lv_isub hx hb d_M_mayBe_72 ?_
            refine lv_iload hx hb d_M_mayBe_73 (lv_at hl 0 rfl) ?_
            refine lv_icmp_gt (tgt := 82) hx hb d_M_mayBe_75 (by decide) (fun c7 => ?_) (fun c7 => ?_)
            · refine lv_iconst (v := 0) hx hb d_M_mayBe_82 (by decide) ?_
              refine lv_goto (tgt := 98) hx hb d_M_mayBe_83 (by decide) ?_
              exact W.zret (v := 0) hx hb hr rfl (fun t ht hW => ⟨0, rfl, (by simp [j_mb, b2i, *]), ht⟩) (fun _ h => nomatch h) d_M_mayBe_98
            · refine lv_iconst (v := 1) hx hb d_M_mayBe_78 (by decide) ?_
              refine lv_goto (tgt := 98) hx hb d_M_mayBe_79 (by decide) ?_
              exact W.zret (v := 1) hx hb hr rfl (fun t ht hW => ⟨1, rfl, (by simp [j_mb, b2i, *]), ht⟩) (fun _ h => nomatch h) d_M_mayBe_98
          · refine lv_iload_n hx hb d_M_mayBe_66 rfl (lv_at hl 3 rfl) ?_
            refine lv_goto (tgt := 73) hx hb d_M_mayBe_67 (by decide) ?_
            refine lv_iload hx hb d_M_mayBe_73 (lv_at hl 0 rfl) ?_
            refine lv_icmp_gt (tgt := 82) hx hb d_M_mayBe_75 (by decide) (fun c8 => ?_) (fun c8 => ?_)
            · refine lv_iconst (v := 0) hx hb d_M_mayBe_82 (by decide) ?_
              refine lv_goto (tgt := 98) hx hb d_M_mayBe_83 (by decide) ?_
              exact W.zret (v := 0) hx hb hr rfl (fun t ht hW => ⟨0, rfl, (by simp [j_mb, b2i, *]), ht⟩) (fun _ h => nomatch h) d_M_mayBe_98
            · refine lv_iconst (v := 1) hx hb d_M_mayBe_78 (by decide) ?_
              refine lv_goto (tgt := 98) hx hb d_M_mayBe_79 (by decide) ?_
              exact W.zret (v := 1) hx hb hr rfl (fun t ht hW => ⟨1, rfl, (by simp [j_mb, b2i, *]), ht⟩) (fun _ h => nomatch h) d_M_mayBe_98
      · refine lv_iload_n hx hb d_M_mayBe_38 rfl (lv_at hl 3 rfl) ?_
        refine lv_iconst (v := 2) hx hb d_M_mayBe_39 (by decide) ?_
        refine lv_iadd hx hb d_M_mayBe_40 ?_
        refine lv_iload hx hb d_M_mayBe_41 (lv_at hl 6 rfl) ?_
        refine lv_icmp_gt (tgt := 50) hx hb d_M_mayBe_43 (by decide) (fun c9 => ?_) (fun c9 => ?_)
        · refine lv_iconst (v := 0) hx hb d_M_mayBe_50 (by decide) ?_
          refine lv_goto (tgt := 98) hx hb d_M_mayBe_51 (by decide) ?_
          exact W.zret (v := 0) hx hb hr rfl (fun t ht hW => ⟨0, rfl, (by simp [j_mb, b2i, *]), ht⟩) (fun _ h => nomatch h) d_M_mayBe_98
        · refine lv_iconst (v := 1) hx hb d_M_mayBe_46 (by decide) ?_
          refine lv_goto (tgt := 98) hx hb d_M_mayBe_47 (by decide) ?_
          exact W.zret (v := 1) hx hb hr rfl (fun t ht hW => ⟨1, rfl, (by simp [j_mb, b2i, *]), ht⟩) (fun _ h => nomatch h) d_M_mayBe_98
    · refine lv_iload_n hx hb d_M_mayBe_24 rfl (lv_at hl 3 rfl) ?_
      refine lv_goto (tgt := 32) hx hb d_M_mayBe_25 (by decide) ?_
      refine lv_istore (lv' := [(6, .int y), (5, .int cv), (0, .int k), (1, .int x), (2, .int y), (3, .int cv), (4, .int dv)]) hx hb d_M_mayBe_32 hl (by decide) rfl (fun ls hl => ?_)
      refine lv_iload_n hx hb d_M_mayBe_34 rfl (lv_at hl 2 rfl) ?_
      refine lv_if_ne (tgt := 54) hx hb d_M_mayBe_35 (by decide) (fun c10 => ?_) (fun c10 => ?_)
      · refine lv_iload_n hx hb d_M_mayBe_54 rfl (lv_at hl 2 rfl) ?_
        refine lv_iconst (v := 1) hx hb d_M_mayBe_55 (by decide) ?_
        refine lv_icmp_ne (tgt := 86) hx hb d_M_mayBe_56 (by decide) (fun c11 => ?_) (fun c11 => ?_)
        · refine lv_iload hx hb d_M_mayBe_86 (lv_at hl 1 rfl) ?_
          refine lv_iload hx hb d_M_mayBe_88 (lv_at hl 0 rfl) ?_
          refine lv_icmp_gt (tgt := 97) hx hb d_M_mayBe_90 (by decide) (fun c12 => ?_) (fun c12 => ?_)
          · refine lv_iconst (v := 0) hx hb d_M_mayBe_97 (by decide) ?_
            exact W.zret (v := 0) hx hb hr rfl (fun t ht hW => ⟨0, rfl, (by simp [j_mb, b2i, *]), ht⟩) (fun _ h => nomatch h) d_M_mayBe_98
          · refine lv_iconst (v := 1) hx hb d_M_mayBe_93 (by decide) ?_
            refine lv_goto (tgt := 98) hx hb d_M_mayBe_94 (by decide) ?_
            exact W.zret (v := 1) hx hb hr rfl (fun t ht hW => ⟨1, rfl, (by simp [j_mb, b2i, *]), ht⟩) (fun _ h => nomatch h) d_M_mayBe_98
        · refine lv_iload_n hx hb d_M_mayBe_59 rfl (lv_at hl 3 rfl) ?_
          refine lv_iload_n hx hb d_M_mayBe_60 rfl (lv_at hl 5 rfl) ?_
          refine lv_iconst (v := 1) hx hb d_M_mayBe_61 (by decide) ?_
          refine lv_isub hx hb d_M_mayBe_62 ?_
          refine lv_icmp_le (tgt := 70) hx hb d_M_mayBe_63 (by decide) (fun c13 => ?_) (fun c13 => ?_)
          · refine lv_iload_n hx hb d_M_mayBe_70 rfl (lv_at hl 5 rfl) ?_
            refine lv_iconst (v := 1) hx hb d_M_mayBe_71 (by decide) ?_
            refine lv_isub hx hb d_M_mayBe_72 ?_
            refine lv_iload hx hb d_M_mayBe_73 (lv_at hl 0 rfl) ?_
            refine lv_icmp_gt (tgt := 82) hx hb d_M_mayBe_75 (by decide) (fun c14 => ?_) (fun c14 => ?_)
            · refine lv_iconst (v := 0) hx hb d_M_mayBe_82 (by decide) ?_
              refine lv_goto (tgt := 98) hx hb d_M_mayBe_83 (by decide) ?_
              exact W.zret (v := 0) hx hb hr rfl (fun t ht hW => ⟨0, rfl, (by simp [j_mb, b2i, *]), ht⟩) (fun _ h => nomatch h) d_M_mayBe_98
            · refine lv_iconst (v := 1) hx hb d_M_mayBe_78 (by decide) ?_
              refine lv_goto (tgt := 98) hx hb d_M_mayBe_79 (by decide) ?_
              exact W.zret (v := 1) hx hb hr rfl (fun t ht hW => ⟨1, rfl, (by simp [j_mb, b2i, *]), ht⟩) (fun _ h => nomatch h) d_M_mayBe_98
          · refine lv_iload_n hx hb d_M_mayBe_66 rfl (lv_at hl 3 rfl) ?_
            refine lv_goto (tgt := 73) hx hb d_M_mayBe_67 (by decide) ?_
            refine lv_iload hx hb d_M_mayBe_73 (lv_at hl 0 rfl) ?_
            refine lv_icmp_gt (tgt := 82) hx hb d_M_mayBe_75 (by decide) (fun c15 => ?_) (fun c15 => ?_)
            · refine lv_iconst (v := 0) hx hb d_M_mayBe_82 (by decide) ?_
              refine lv_goto (tgt := 98) hx hb d_M_mayBe_83 (by decide) ?_
              exact W.zret (v := 0) hx hb hr rfl (fun t ht hW => ⟨0, rfl, (by simp [j_mb, b2i, *]), ht⟩) (fun _ h => nomatch h) d_M_mayBe_98
            · refine lv_iconst (v := 1) hx hb d_M_mayBe_78 (by decide) ?_
              refine lv_goto (tgt := 98) hx hb d_M_mayBe_79 (by decide) ?_
              exact W.zret (v := 1) hx hb hr rfl (fun t ht hW => ⟨1, rfl, (by simp [j_mb, b2i, *]), ht⟩) (fun _ h => nomatch h) d_M_mayBe_98
      · refine lv_iload_n hx hb d_M_mayBe_38 rfl (lv_at hl 3 rfl) ?_
        refine lv_iconst (v := 2) hx hb d_M_mayBe_39 (by decide) ?_
        refine lv_iadd hx hb d_M_mayBe_40 ?_
        refine lv_iload hx hb d_M_mayBe_41 (lv_at hl 6 rfl) ?_
        refine lv_icmp_gt (tgt := 50) hx hb d_M_mayBe_43 (by decide) (fun c16 => ?_) (fun c16 => ?_)
        · refine lv_iconst (v := 0) hx hb d_M_mayBe_50 (by decide) ?_
          refine lv_goto (tgt := 98) hx hb d_M_mayBe_51 (by decide) ?_
          exact W.zret (v := 0) hx hb hr rfl (fun t ht hW => ⟨0, rfl, (by simp [j_mb, b2i, *]), ht⟩) (fun _ h => nomatch h) d_M_mayBe_98
        · refine lv_iconst (v := 1) hx hb d_M_mayBe_46 (by decide) ?_
          refine lv_goto (tgt := 98) hx hb d_M_mayBe_47 (by decide) ?_
          exact W.zret (v := 1) hx hb hr rfl (fun t ht hW => ⟨1, rfl, (by simp [j_mb, b2i, *]), ht⟩) (fun _ h => nomatch h) d_M_mayBe_98
  · refine lv_iload_n hx hb d_M_mayBe_7 rfl (lv_at hl 1 rfl) ?_
    refine lv_iconst (v := 1) hx hb d_M_mayBe_8 (by decide) ?_
    refine lv_iadd hx hb d_M_mayBe_9 ?_
    refine lv_goto (tgt := 14) hx hb d_M_mayBe_10 (by decide) ?_
    refine lv_istore (lv' := [(5, .int (x + 1)), (0, .int k), (1, .int x), (2, .int y), (3, .int cv), (4, .int dv)]) hx hb d_M_mayBe_14 hl (by decide) rfl (fun ls hl => ?_)
    refine lv_iload_n hx hb d_M_mayBe_16 rfl (lv_at hl 3 rfl) ?_
    refine lv_iload hx hb d_M_mayBe_17 (lv_at hl 5 rfl) ?_
    refine lv_iconst (v := 1) hx hb d_M_mayBe_19 (by decide) ?_
    refine lv_isub hx hb d_M_mayBe_20 ?_
    refine lv_icmp_ge (tgt := 28) hx hb d_M_mayBe_21 (by decide) (fun c17 => ?_) (fun c17 => ?_)
    · refine lv_iload hx hb d_M_mayBe_28 (lv_at hl 5 rfl) ?_
      refine lv_iconst (v := 1) hx hb d_M_mayBe_30 (by decide) ?_
      refine lv_isub hx hb d_M_mayBe_31 ?_
      refine lv_istore (lv' := [(6, .int (dv - 1)), (5, .int (x + 1)), (0, .int k), (1, .int x), (2, .int y), (3, .int cv), (4, .int dv)]) hx hb d_M_mayBe_32 hl (by decide) rfl (fun ls hl => ?_)
      refine lv_iload_n hx hb d_M_mayBe_34 rfl (lv_at hl 2 rfl) ?_
      refine lv_if_ne (tgt := 54) hx hb d_M_mayBe_35 (by decide) (fun c18 => ?_) (fun c18 => ?_)
      · refine lv_iload_n hx hb d_M_mayBe_54 rfl (lv_at hl 2 rfl) ?_
        refine lv_iconst (v := 1) hx hb d_M_mayBe_55 (by decide) ?_
        refine lv_icmp_ne (tgt := 86) hx hb d_M_mayBe_56 (by decide) (fun c19 => ?_) (fun c19 => ?_)
        · refine lv_iload hx hb d_M_mayBe_86 (lv_at hl 1 rfl) ?_
          refine lv_iload hx hb d_M_mayBe_88 (lv_at hl 0 rfl) ?_
          refine lv_icmp_gt (tgt := 97) hx hb d_M_mayBe_90 (by decide) (fun c20 => ?_) (fun c20 => ?_)
          · refine lv_iconst (v := 0) hx hb d_M_mayBe_97 (by decide) ?_
            exact W.zret (v := 0) hx hb hr rfl (fun t ht hW => ⟨0, rfl, (by simp [j_mb, b2i, *]), ht⟩) (fun _ h => nomatch h) d_M_mayBe_98
          · refine lv_iconst (v := 1) hx hb d_M_mayBe_93 (by decide) ?_
            refine lv_goto (tgt := 98) hx hb d_M_mayBe_94 (by decide) ?_
            exact W.zret (v := 1) hx hb hr rfl (fun t ht hW => ⟨1, rfl, (by simp [j_mb, b2i, *]), ht⟩) (fun _ h => nomatch h) d_M_mayBe_98
        · refine lv_iload_n hx hb d_M_mayBe_59 rfl (lv_at hl 3 rfl) ?_
          refine lv_iload_n hx hb d_M_mayBe_60 rfl (lv_at hl 5 rfl) ?_
          refine lv_iconst (v := 1) hx hb d_M_mayBe_61 (by decide) ?_
          refine lv_isub hx hb d_M_mayBe_62 ?_
          refine lv_icmp_le (tgt := 70) hx hb d_M_mayBe_63 (by decide) (fun c21 => ?_) (fun c21 => ?_)
          · refine lv_iload_n hx hb d_M_mayBe_70 rfl (lv_at hl 5 rfl) ?_
            refine lv_iconst (v := 1) hx hb d_M_mayBe_71 (by decide) ?_
            refine lv_isub hx hb d_M_mayBe_72 ?_
            refine lv_iload hx hb d_M_mayBe_73 (lv_at hl 0 rfl) ?_
            refine lv_icmp_gt (tgt := 82) hx hb d_M_mayBe_75 (by decide) (fun c22 => ?_) (fun c22 => ?_)
            · refine lv_iconst (v := 0) hx hb d_M_mayBe_82 (by decide) ?_
              refine lv_goto (tgt := 98) hx hb d_M_mayBe_83 (by decide) ?_
              exact W.zret (v := 0) hx hb hr rfl (fun t ht hW => ⟨0, rfl, (by simp [j_mb, b2i, *]), ht⟩) (fun _ h => nomatch h) d_M_mayBe_98
            · refine lv_iconst (v := 1) hx hb d_M_mayBe_78 (by decide) ?_
              refine lv_goto (tgt := 98) hx hb d_M_mayBe_79 (by decide) ?_
              exact W.zret (v := 1) hx hb hr rfl (fun t ht hW => ⟨1, rfl, (by simp [j_mb, b2i, *]), ht⟩) (fun _ h => nomatch h) d_M_mayBe_98
          · refine lv_iload_n hx hb d_M_mayBe_66 rfl (lv_at hl 3 rfl) ?_
            refine lv_goto (tgt := 73) hx hb d_M_mayBe_67 (by decide) ?_
            refine lv_iload hx hb d_M_mayBe_73 (lv_at hl 0 rfl) ?_
            refine lv_icmp_gt (tgt := 82) hx hb d_M_mayBe_75 (by decide) (fun c23 => ?_) (fun c23 => ?_)
            · refine lv_iconst (v := 0) hx hb d_M_mayBe_82 (by decide) ?_
              refine lv_goto (tgt := 98) hx hb d_M_mayBe_83 (by decide) ?_
              exact W.zret (v := 0) hx hb hr rfl (fun t ht hW => ⟨0, rfl, (by simp [j_mb, b2i, *]), ht⟩) (fun _ h => nomatch h) d_M_mayBe_98
            · refine lv_iconst (v := 1) hx hb d_M_mayBe_78 (by decide) ?_
              refine lv_goto (tgt := 98) hx hb d_M_mayBe_79 (by decide) ?_
              exact W.zret (v := 1) hx hb hr rfl (fun t ht hW => ⟨1, rfl, (by simp [j_mb, b2i, *]), ht⟩) (fun _ h => nomatch h) d_M_mayBe_98
      · refine lv_iload_n hx hb d_M_mayBe_38 rfl (lv_at hl 3 rfl) ?_
        refine lv_iconst (v := 2) hx hb d_M_mayBe_39 (by decide) ?_
        refine lv_iadd hx hb d_M_mayBe_40 ?_
        refine lv_iload hx hb d_M_mayBe_41 (lv_at hl 6 rfl) ?_
        refine lv_icmp_gt (tgt := 50) hx hb d_M_mayBe_43 (by decide) (fun c24 => ?_) (fun c24 => ?_)
        · refine lv_iconst (v := 0) hx hb d_M_mayBe_50 (by decide) ?_
          refine lv_goto (tgt := 98) hx hb d_M_mayBe_51 (by decide) ?_
          exact W.zret (v := 0) hx hb hr rfl (fun t ht hW => ⟨0, rfl, (by simp [j_mb, b2i, *]), ht⟩) (fun _ h => nomatch h) d_M_mayBe_98
        · refine lv_iconst (v := 1) hx hb d_M_mayBe_46 (by decide) ?_
          refine lv_goto (tgt := 98) hx hb d_M_mayBe_47 (by decide) ?_
          exact W.zret (v := 1) hx hb hr rfl (fun t ht hW => ⟨1, rfl, (by simp [j_mb, b2i, *]), ht⟩) (fun _ h => nomatch h) d_M_mayBe_98
    · refine lv_iload_n hx hb d_M_mayBe_24 rfl (lv_at hl 3 rfl) ?_
      refine lv_goto (tgt := 32) hx hb d_M_mayBe_25 (by decide) ?_
      refine lv_istore (lv' := [(6, .int y), (5, .int (x + 1)), (0, .int k), (1, .int x), (2, .int y), (3, .int cv), (4, .int dv)]) hx hb d_M_mayBe_32 hl (by decide) rfl (fun ls hl => ?_)
      refine lv_iload_n hx hb d_M_mayBe_34 rfl (lv_at hl 2 rfl) ?_
      refine lv_if_ne (tgt := 54) hx hb d_M_mayBe_35 (by decide) (fun c25 => ?_) (fun c25 => ?_)
      · refine lv_iload_n hx hb d_M_mayBe_54 rfl (lv_at hl 2 rfl) ?_
        refine lv_iconst (v := 1) hx hb d_M_mayBe_55 (by decide) ?_
        refine lv_icmp_ne (tgt := 86) hx hb d_M_mayBe_56 (by decide) (fun c26 => ?_) (fun c26 => ?_)
        · refine lv_iload hx hb d_M_mayBe_86 (lv_at hl 1 rfl) ?_
          refine lv_iload hx hb d_M_mayBe_88 (lv_at hl 0 rfl) ?_
          refine lv_icmp_gt (tgt := 97) hx hb d_M_mayBe_90 (by decide) (fun c27 => ?_) (fun c27 => ?_)
          · refine lv_iconst (v := 0) hx hb d_M_mayBe_97 (by decide) ?_
            exact W.zret (v := 0) hx hb hr rfl (fun t ht hW => ⟨0, rfl, (by simp [j_mb, b2i, *]), ht⟩) (fun _ h => nomatch h) d_M_mayBe_98
          · refine lv_iconst (v := 1) hx hb d_M_mayBe_93 (by decide) ?_
            refine lv_goto (tgt := 98) hx hb d_M_mayBe_94 (by decide) ?_
            exact W.zret (v := 1) hx hb hr rfl (fun t ht hW => ⟨1, rfl, (by simp [j_mb, b2i, *]), ht⟩) (fun _ h => nomatch h) d_M_mayBe_98
        · refine lv_iload_n hx hb d_M_mayBe_59 rfl (lv_at hl 3 rfl) ?_
          refine lv_iload_n hx hb d_M_mayBe_60 rfl (lv_at hl 5 rfl) ?_
          refine lv_iconst (v := 1) hx hb d_M_mayBe_61 (by decide) ?_
          refine lv_isub hx hb d_M_mayBe_62 ?_
          refine lv_icmp_le (tgt := 70) hx hb d_M_mayBe_63 (by decide) (fun c28 => ?_) (fun c28 => ?_)
          · refine lv_iload_n hx hb d_M_mayBe_70 rfl (lv_at hl 5 rfl) ?_
            refine lv_iconst (v := 1) hx hb d_M_mayBe_71 (by decide) ?_
            refine lv_isub hx hb d_M_mayBe_72 ?_
            refine lv_iload hx hb d_M_mayBe_73 (lv_at hl 0 rfl) ?_
            refine lv_icmp_gt (tgt := 82) hx hb d_M_mayBe_75 (by decide) (fun c29 => ?_) (fun c29 => ?_)
            · refine lv_iconst (v := 0) hx hb d_M_mayBe_82 (by decide) ?_
              refine lv_goto (tgt := 98) hx hb d_M_mayBe_83 (by decide) ?_
              exact W.zret (v := 0) hx hb hr rfl (fun t ht hW => ⟨0, rfl, (by simp [j_mb, b2i, *]), ht⟩) (fun _ h => nomatch h) d_M_mayBe_98
            · refine lv_iconst (v := 1) hx hb d_M_mayBe_78 (by decide) ?_
              refine lv_goto (tgt := 98) hx hb d_M_mayBe_79 (by decide) ?_
              exact W.zret (v := 1) hx hb hr rfl (fun t ht hW => ⟨1, rfl, (by simp [j_mb, b2i, *]), ht⟩) (fun _ h => nomatch h) d_M_mayBe_98
          · refine lv_iload_n hx hb d_M_mayBe_66 rfl (lv_at hl 3 rfl) ?_
            refine lv_goto (tgt := 73) hx hb d_M_mayBe_67 (by decide) ?_
            refine lv_iload hx hb d_M_mayBe_73 (lv_at hl 0 rfl) ?_
            refine lv_icmp_gt (tgt := 82) hx hb d_M_mayBe_75 (by decide) (fun c30 => ?_) (fun c30 => ?_)
            · refine lv_iconst (v := 0) hx hb d_M_mayBe_82 (by decide) ?_
              refine lv_goto (tgt := 98) hx hb d_M_mayBe_83 (by decide) ?_
              exact W.zret (v := 0) hx hb hr rfl (fun t ht hW => ⟨0, rfl, (by simp [j_mb, b2i, *]), ht⟩) (fun _ h => nomatch h) d_M_mayBe_98
            · refine lv_iconst (v := 1) hx hb d_M_mayBe_78 (by decide) ?_
              refine lv_goto (tgt := 98) hx hb d_M_mayBe_79 (by decide) ?_
              exact W.zret (v := 1) hx hb hr rfl (fun t ht hW => ⟨1, rfl, (by simp [j_mb, b2i, *]), ht⟩) (fun _ h => nomatch h) d_M_mayBe_98
      · refine lv_iload_n hx hb d_M_mayBe_38 rfl (lv_at hl 3 rfl) ?_
        refine lv_iconst (v := 2) hx hb d_M_mayBe_39 (by decide) ?_
        refine lv_iadd hx hb d_M_mayBe_40 ?_
        refine lv_iload hx hb d_M_mayBe_41 (lv_at hl 6 rfl) ?_
        refine lv_icmp_gt (tgt := 50) hx hb d_M_mayBe_43 (by decide) (fun c31 => ?_) (fun c31 => ?_)
        · refine lv_iconst (v := 0) hx hb d_M_mayBe_50 (by decide) ?_
          refine lv_goto (tgt := 98) hx hb d_M_mayBe_51 (by decide) ?_
          exact W.zret (v := 0) hx hb hr rfl (fun t ht hW => ⟨0, rfl, (by simp [j_mb, b2i, *]), ht⟩) (fun _ h => nomatch h) d_M_mayBe_98
        · refine lv_iconst (v := 1) hx hb d_M_mayBe_46 (by decide) ?_
          refine lv_goto (tgt := 98) hx hb d_M_mayBe_47 (by decide) ?_
          exact W.zret (v := 1) hx hb hr rfl (fun t ht hW => ⟨1, rfl, (by simp [j_mb, b2i, *]), ht⟩) (fun _ h => nomatch h) d_M_mayBe_98

set_option maxHeartbeats 4000000 in
set_option maxRecDepth 100000 in
theorem k_M_count (l : Launch) (D : va_G) (T : gT) (o : Nat) (a : Nat → Nat) (z0 z2 z3 z14 z18 z19 z20 z21 z24 z26 : Int32) (f1 f4 f5 f6 f7 f8 f9 f10 f11 f12 f13 f15 f16 f17 f22 f23 f25 f27 : Nat → Int32) (sz : Nat) (k : Int32) : Met l y_M_count (Cond.code y_M_count b_M_count 2 (some .int) :: bg_W) ({ frames := 1, cells := 0, slots := 0, locals := 22 }) (qP D T (mX T o a z0 z2 z3 z14 z18 z19 z20 z21 z24 z26 f1 f4 f5 f6 f7 f8 f9 f10 f11 f12 f13 f15 f16 f17 f22 f23 f25 f27) [.ref o, .int k] sz) (va_Qi (fun (r : Int32) (w0 : Int32) => (j_in k 0 2 = false ∧ r = 0 ∧ w0 = 1) ∨ (j_in k 0 2 = true ∧ r = (if k = 0 then z2 else if k = 1 then z3 else z14) ∧ w0 = 0)) (qB D T (va_A (mX T o a z0 z2 z3 z14 z18 z19 z20 z21 z24 z26 f1 f4 f5 f6 f7 f8 f9 f10 f11 f12 f13 f15 f16 f17 f22 f23 f25 f27) sz) (fun w0 : Int32 => mX T o a w0 z2 z3 z14 z18 z19 z20 z21 z24 z26 f1 f4 f5 f6 f7 f8 f9 f10 f11 f12 f13 f15 f16 f17 f22 f23 f25 f27)) (va_A (mX T o a z0 z2 z3 z14 z18 z19 z20 z21 z24 z26 f1 f4 f5 f6 f7 f8 f9 f10 f11 f12 f13 f15 f16 f17 f22 f23 f25 f27) sz)) 0 0 (va_A (mX T o a z0 z2 z3 z14 z18 z19 z20 z21 z24 z26 f1 f4 f5 f6 f7 f8 f9 f10 f11 f12 f13 f15 f16 f17 f22 f23 f25 f27) sz) := by
  refine Met.ofW (cc := b_M_count) (maxL := 2) (ret := (some .int)) (by decide) rfl ?_
  intro p e s m args below meth c s₁ B hml hv
  obtain ⟨rfl, hsz, hP, hK, hD0⟩ := hv
  have hx := B.exec
  have hb := B.bytes
  have hr := B.returns
  have hw : ∀ w ∈ bg_W, w.before ([.ref o, .int k] : List Value).toArray s = true := fun w h => atoms_spec (ws := (Cond.code y_M_count b_M_count 2 (some .int) :: bg_W)) B.pre w (List.mem_cons_of_mem _ h)
  have hown : s.vm.findClass "TimeWordsModel" = some m.cls := findClass_of_methodNamed B.named
  have hlocks := B.notSynchronized
  subst hsz
  have hD := hD0.self (sz := s.heap.size)
  generalize hAe : va_A (mX T o a z0 z2 z3 z14 z18 z19 z20 z21 z24 z26 f1 f4 f5 f6 f7 f8 f9 f10 f11 f12 f13 f15 f16 f17 f22 f23 f25 f27) s.heap.size = A at hD ⊢
  have hA : ∀ q : Nat, s.heap.size ≤ q → A q := fun q h => by rw [← hAe]; exact Or.inr h
  have hS : va_S A s.heap s.heap [] := va_S.rf
  have hl := lv_entry ([.ref o, .int k]) (n := 2) (Nat.le_of_ble_eq_true rfl)
  rw [lg_entry_eq]
  generalize (lg_sl ([.ref o, .int k]) ++ List.replicate (2 - (lg_sl ([.ref o, .int k])).length) Slot.unset).toArray = ls at hl ⊢
  have hl : lv_has ls 2 [(0, .ref o), (1, .int k)] := hl
  refine lv_aload_n hx hb d_M_count_0 rfl (lv_at hl 0 rfl) ?_
  refine lv_iload_n hx hb d_M_count_1 rfl (lv_at hl 1 rfl) ?_
  refine lv_iconst (v := 0) hx hb d_M_count_2 (by decide) ?_
  refine lv_iconst (v := 2) hx hb d_M_count_3 (by decide) ?_
  refine vp_callSi (va_Run.run (va_runS (As := [.int k, .int 0, .int 2]) (rest := [.ref o]) ⟨hx, hb, hml, hown, hw⟩ (k_M_in l k 0 2) (va_cwS 3 hw (bg_S ml_M_72 wt_M_in wz_M wc_M_in) rfl rfl rfl (by decide +kernel) ⟨Nat.le_of_ble_eq_true rfl, Nat.le_of_ble_eq_true rfl⟩) ⟨nP_b, nP_p⟩ rfl rfl hl.1 rfl (lv_room (Nat.le_of_ble_eq_true rfl)) d_M_count_4 ⟨Nat.le_of_ble_eq_true rfl, Nat.le_of_ble_eq_true rfl⟩)) (fun r1 hr1 => ?_)
  replace hr1 := hr1.symm; subst hr1
  refine lv_if_eq (tgt := 14) hx hb d_M_count_7 (by decide) (fun c2 => ?_) (fun c2 => ?_)
  · have c2 := b2i_f c2
    refine lv_iconst (v := 1) hx hb d_M_count_14 (by decide) ?_
    refine va_put (D := D) (ci := 6) (v := .int 1) (ty := .int) (C := "TimeWordsModel") (T := F_M) (N := 28) hx hb hw in_M ty_M ty_M_ok n_M hown hK hP hD hS 0 rfl rfl 0 (by decide) (hw _ fl_M_69) (fun _ h9 => h9) rfl (by decide +kernel) rfl rfl (Nat.le_of_ble_eq_true rfl) d_M_count_15 (fun H locs hP hD hS => ?_)
    have hP : va_P D gC (mX T o a 1 z2 z3 z14 z18 z19 z20 z21 z24 z26 f1 f4 f5 f6 f7 f8 f9 f10 f11 f12 f13 f15 f16 f17 f22 f23 f25 f27) H := hP
    have hD : va_D A (mX T o a 1 z2 z3 z14 z18 z19 z20 z21 z24 z26 f1 f4 f5 f6 f7 f8 f9 f10 f11 f12 f13 f15 f16 f17 f22 f23 f25 f27) := hD
    refine lv_aload_n hx hb d_M_count_18 rfl (lv_at hl 0 rfl) ?_
    refine va_get (D := D) (ci := 6) (v := .int 1) (C := "TimeWordsModel") (T := F_M) (N := 28) hx hb hw in_M hown hK hP 0 rfl rfl 0 (by decide) (hw _ fl_M_69) (fun _ h9 => h9) rfl d_M_count_19 ?_
    refine lv_if_le (tgt := 29) hx hb d_M_count_22 (by decide) (fun c3 => absurd c3 (by decide)) (fun c3 => ?_)
    refine lv_iconst (v := 0) hx hb d_M_count_25 (by decide) ?_
    refine lv_goto (tgt := 56) hx hb d_M_count_26 (by decide) ?_
    exact W.iret (v := 0) hx hb hr (fun t ht hW => ⟨⟨0, 1, rfl, (by simp_all), by rw [ht]; exact hP, va_K.moved hW.alike hK, hD⟩, hS.F ht⟩) hS.2.2 d_M_count_56
  · have c2 := b2i_t c2
    refine lv_iconst (v := 0) hx hb d_M_count_10 (by decide) ?_
    refine lv_goto (tgt := 15) hx hb d_M_count_11 (by decide) ?_
    refine va_put (D := D) (ci := 6) (v := .int 0) (ty := .int) (C := "TimeWordsModel") (T := F_M) (N := 28) hx hb hw in_M ty_M ty_M_ok n_M hown hK hP hD hS 0 rfl rfl 0 (by decide) (hw _ fl_M_69) (fun _ h9 => h9) rfl (by decide +kernel) rfl rfl (Nat.le_of_ble_eq_true rfl) d_M_count_15 (fun H locs hP hD hS => ?_)
    have hP : va_P D gC (mX T o a 0 z2 z3 z14 z18 z19 z20 z21 z24 z26 f1 f4 f5 f6 f7 f8 f9 f10 f11 f12 f13 f15 f16 f17 f22 f23 f25 f27) H := hP
    have hD : va_D A (mX T o a 0 z2 z3 z14 z18 z19 z20 z21 z24 z26 f1 f4 f5 f6 f7 f8 f9 f10 f11 f12 f13 f15 f16 f17 f22 f23 f25 f27) := hD
    refine lv_aload_n hx hb d_M_count_18 rfl (lv_at hl 0 rfl) ?_
    refine va_get (D := D) (ci := 6) (v := .int 0) (C := "TimeWordsModel") (T := F_M) (N := 28) hx hb hw in_M hown hK hP 0 rfl rfl 0 (by decide) (hw _ fl_M_69) (fun _ h9 => h9) rfl d_M_count_19 ?_
    refine lv_if_le (tgt := 29) hx hb d_M_count_22 (by decide) (fun c4 => ?_) (fun c4 => absurd c4 (by decide))
    refine lv_iload_n hx hb d_M_count_29 rfl (lv_at hl 1 rfl) ?_
    refine lv_if_ne (tgt := 40) hx hb d_M_count_30 (by decide) (fun c5 => ?_) (fun c5 => ?_)
    · refine lv_iload_n hx hb d_M_count_40 rfl (lv_at hl 1 rfl) ?_
      refine lv_iconst (v := 1) hx hb d_M_count_41 (by decide) ?_
      refine lv_icmp_ne (tgt := 52) hx hb d_M_count_42 (by decide) (fun c6 => ?_) (fun c6 => ?_)
      · refine lv_aload_n hx hb d_M_count_52 rfl (lv_at hl 0 rfl) ?_
        refine va_get (D := D) (ci := 6) (v := .int z14) (C := "TimeWordsModel") (T := F_M) (N := 28) hx hb hw in_M hown hK hP 0 rfl rfl 14 (by decide) (hw _ fl_M_79) (fun _ h9 => h9) rfl d_M_count_53 ?_
        exact W.iret (v := z14) hx hb hr (fun t ht hW => ⟨⟨z14, 0, rfl, (by simp_all), by rw [ht]; exact hP, va_K.moved hW.alike hK, hD⟩, hS.F ht⟩) hS.2.2 d_M_count_56
      · refine lv_aload_n hx hb d_M_count_45 rfl (lv_at hl 0 rfl) ?_
        refine va_get (D := D) (ci := 6) (v := .int z3) (C := "TimeWordsModel") (T := F_M) (N := 28) hx hb hw in_M hown hK hP 0 rfl rfl 3 (by decide) (hw _ fl_M_76) (fun _ h9 => h9) rfl d_M_count_46 ?_
        refine lv_goto (tgt := 56) hx hb d_M_count_49 (by decide) ?_
        exact W.iret (v := z3) hx hb hr (fun t ht hW => ⟨⟨z3, 0, rfl, (by simp_all), by rw [ht]; exact hP, va_K.moved hW.alike hK, hD⟩, hS.F ht⟩) hS.2.2 d_M_count_56
    · refine lv_aload_n hx hb d_M_count_33 rfl (lv_at hl 0 rfl) ?_
      refine va_get (D := D) (ci := 6) (v := .int z2) (C := "TimeWordsModel") (T := F_M) (N := 28) hx hb hw in_M hown hK hP 0 rfl rfl 2 (by decide) (hw _ fl_M_93) (fun _ h9 => h9) rfl d_M_count_34 ?_
      refine lv_goto (tgt := 56) hx hb d_M_count_37 (by decide) ?_
      exact W.iret (v := z2) hx hb hr (fun t ht hW => ⟨⟨z2, 0, rfl, (by simp_all), by rw [ht]; exact hP, va_K.moved hW.alike hK, hD⟩, hS.F ht⟩) hS.2.2 d_M_count_56

set_option maxHeartbeats 4000000 in
set_option maxRecDepth 100000 in
theorem k_M_span (l : Launch) (D : va_G) (T : gT) (o : Nat) (a : Nat → Nat) (z0 z2 z3 : Int32) (sn : Nat) (z18 z19 z20 z21 z24 z26 : Int32) (f1 f4 f5 f6 f7 f8 f9 f10 f11 f12 f13 f15 f16 f17 f22 f23 f25 f27 : Nat → Int32) (sz : Nat) (x y : Int32) (hy0 : sn ≤ 60) : Met l y_M_span (Cond.code y_M_span b_M_span 3 (some .int) :: bg_W) ({ frames := 2, cells := 0, slots := 0, locals := 42 }) (qP D T (mX T o a z0 z2 z3 (nI sn) z18 z19 z20 z21 z24 z26 f1 f4 f5 f6 f7 f8 f9 f10 f11 f12 f13 f15 f16 f17 f22 f23 f25 f27) [.ref o, .int x, .int y] sz) (va_Qi (fun (r : Int32) (u : Int32 × Int32 × Int32 × Int32 × (Nat → Int32) × (Nat → Int32) × (Nat → Int32) × Int32) => match u with | (w0, w19, w20, w21, g15, g16, g17, w14) => (j_yy x y = false ∧ r = 0 ∧ w0 = 1 ∧ w19 = z19 ∧ w20 = z20 ∧ w21 = z21 ∧ g15 = f15 ∧ g16 = f16 ∧ g17 = f17 ∧ w14 = nI sn) ∨ (j_yy x y = true ∧ sn = 60 ∧ r = 0 ∧ w0 = 2 ∧ w19 = z19 ∧ w20 = z20 ∧ w21 = z21 ∧ g15 = f15 ∧ g16 = f16 ∧ g17 = f17 ∧ w14 = nI sn) ∨ (j_yy x y = true ∧ sn < 60 ∧ r = nI sn ∧ w0 = 0 ∧ w19 = x ∧ w20 = y ∧ w21 = 0 ∧ g15 = upd f15 sn x ∧ g16 = upd f16 sn y ∧ g17 = upd f17 sn 0 ∧ w14 = nI (sn + 1))) (qB D T (va_A (mX T o a z0 z2 z3 (nI sn) z18 z19 z20 z21 z24 z26 f1 f4 f5 f6 f7 f8 f9 f10 f11 f12 f13 f15 f16 f17 f22 f23 f25 f27) sz) (fun u : Int32 × Int32 × Int32 × Int32 × (Nat → Int32) × (Nat → Int32) × (Nat → Int32) × Int32 => match u with | (w0, w19, w20, w21, g15, g16, g17, w14) => mX T o a w0 z2 z3 w14 z18 w19 w20 w21 z24 z26 f1 f4 f5 f6 f7 f8 f9 f10 f11 f12 f13 g15 g16 g17 f22 f23 f25 f27)) (va_A (mX T o a z0 z2 z3 (nI sn) z18 z19 z20 z21 z24 z26 f1 f4 f5 f6 f7 f8 f9 f10 f11 f12 f13 f15 f16 f17 f22 f23 f25 f27) sz)) 0 0 (va_A (mX T o a z0 z2 z3 (nI sn) z18 z19 z20 z21 z24 z26 f1 f4 f5 f6 f7 f8 f9 f10 f11 f12 f13 f15 f16 f17 f22 f23 f25 f27) sz) := by
  refine Met.ofW (cc := b_M_span) (maxL := 3) (ret := (some .int)) (by decide) rfl ?_
  intro p e s m args below meth c s₁ B hml hv
  obtain ⟨rfl, hsz, hP, hK, hD0⟩ := hv
  have hx := B.exec
  have hb := B.bytes
  have hr := B.returns
  have hw : ∀ w ∈ bg_W, w.before ([.ref o, .int x, .int y] : List Value).toArray s = true := fun w h => atoms_spec (ws := (Cond.code y_M_span b_M_span 3 (some .int) :: bg_W)) B.pre w (List.mem_cons_of_mem _ h)
  have hown : s.vm.findClass "TimeWordsModel" = some m.cls := findClass_of_methodNamed B.named
  have hlocks := B.notSynchronized
  subst hsz
  have hD := hD0.self (sz := s.heap.size)
  generalize hAe : va_A (mX T o a z0 z2 z3 (nI sn) z18 z19 z20 z21 z24 z26 f1 f4 f5 f6 f7 f8 f9 f10 f11 f12 f13 f15 f16 f17 f22 f23 f25 f27) s.heap.size = A at hD ⊢
  have hA : ∀ q : Nat, s.heap.size ≤ q → A q := fun q h => by rw [← hAe]; exact Or.inr h
  have hS : va_S A s.heap s.heap [] := va_S.rf
  have hl := lv_entry ([.ref o, .int x, .int y]) (n := 3) (Nat.le_of_ble_eq_true rfl)
  rw [lg_entry_eq]
  generalize (lg_sl ([.ref o, .int x, .int y]) ++ List.replicate (3 - (lg_sl ([.ref o, .int x, .int y])).length) Slot.unset).toArray = ls at hl ⊢
  have hl : lv_has ls 3 [(0, .ref o), (1, .int x), (2, .int y)] := hl
  refine lv_iload_n hx hb d_M_span_0 rfl (lv_at hl 1 rfl) ?_
  refine vp_callSi (va_Run.run (va_runS (As := [.int x]) (rest := []) ⟨hx, hb, hml, hown, hw⟩ (k_M_isYear l x) (va_cwS 1 hw (bg_S ml_M_102 wt_M_isYear wz_M wc_M_isYear) rfl rfl rfl (by decide +kernel) ⟨Nat.le_of_ble_eq_true rfl, Nat.le_of_ble_eq_true rfl⟩) ⟨nP_b, nP_p⟩ rfl rfl hl.1 rfl (lv_room (Nat.le_of_ble_eq_true rfl)) d_M_span_1 ⟨Nat.le_of_ble_eq_true rfl, Nat.le_of_ble_eq_true rfl⟩)) (fun r1 hr1 => ?_)
  replace hr1 := hr1.symm; subst hr1
  refine lv_if_eq (tgt := 19) hx hb d_M_span_4 (by decide) (fun c2 => ?_) (fun c2 => ?_)
  · have c2 := b2i_f c2
    refine lv_aload_n hx hb d_M_span_19 rfl (lv_at hl 0 rfl) ?_
    refine lv_iconst (v := 1) hx hb d_M_span_20 (by decide) ?_
    refine g_calli (va_runV (As := [.int 1]) (rest := []) ⟨hx, hb, hml, hown, hw⟩ (k_M_fails l D T o a z0 z2 z3 (nI sn) z18 z19 z20 z21 z24 z26 f1 f4 f5 f6 f7 f8 f9 f10 f11 f12 f13 f15 f16 f17 f22 f23 f25 f27 s.heap.size 1) (cwV 1 hw (bg_V ml_M_89 wi_M_fails wv_M_fails wz_M wc_M_fails) rfl rfl rfl (by decide +kernel) ⟨Nat.le_of_ble_eq_true rfl, Nat.le_of_ble_eq_true rfl⟩) ⟨qP_b, va_recv hK hP (ci := 6) (q0 := 0) rfl rfl, qP_p hP hK hD⟩ rfl rfl hl.1 rfl (lv_room (Nat.le_of_ble_eq_true rfl)) d_M_span_21 ⟨Nat.le_of_ble_eq_true rfl, Nat.le_of_ble_eq_true rfl⟩) hD hS hA (fun r3 u4 H locs hr3 hP hD hS => ?_)
    obtain ⟨q0, q1⟩ := hr3
    replace q0 := q0.symm; subst q0; replace q1 := q1.symm; subst q1
    have hP : va_P D gC (mX T o a 1 z2 z3 (nI sn) z18 z19 z20 z21 z24 z26 f1 f4 f5 f6 f7 f8 f9 f10 f11 f12 f13 f15 f16 f17 f22 f23 f25 f27) H := hP
    have hD : va_D A (mX T o a 1 z2 z3 (nI sn) z18 z19 z20 z21 z24 z26 f1 f4 f5 f6 f7 f8 f9 f10 f11 f12 f13 f15 f16 f17 f22 f23 f25 f27) := hD
    exact W.iret (v := 0) hx hb hr (fun t ht hW => ⟨⟨0, (1, z19, z20, z21, f15, f16, f17, nI sn), rfl, (Or.inl ⟨by simp [j_yy, *], rfl, rfl, rfl, rfl, rfl, rfl, rfl, rfl, rfl⟩), by rw [ht]; exact hP, va_K.moved hW.alike hK, hD⟩, hS.F ht⟩) hS.2.2 d_M_span_24
  · have c2 := b2i_t c2
    refine lv_iload_n hx hb d_M_span_7 rfl (lv_at hl 2 rfl) ?_
    refine vp_callSi (va_Run.run (va_runS (As := [.int y]) (rest := []) ⟨hx, hb, hml, hown, hw⟩ (k_M_isYear l y) (va_cwS 1 hw (bg_S ml_M_102 wt_M_isYear wz_M wc_M_isYear) rfl rfl rfl (by decide +kernel) ⟨Nat.le_of_ble_eq_true rfl, Nat.le_of_ble_eq_true rfl⟩) ⟨nP_b, nP_p⟩ rfl rfl hl.1 rfl (lv_room (Nat.le_of_ble_eq_true rfl)) d_M_span_8 ⟨Nat.le_of_ble_eq_true rfl, Nat.le_of_ble_eq_true rfl⟩)) (fun r5 hr5 => ?_)
    replace hr5 := hr5.symm; subst hr5
    refine lv_if_eq (tgt := 19) hx hb d_M_span_11 (by decide) (fun c6 => ?_) (fun c6 => ?_)
    · have c6 := b2i_f c6
      refine lv_aload_n hx hb d_M_span_19 rfl (lv_at hl 0 rfl) ?_
      refine lv_iconst (v := 1) hx hb d_M_span_20 (by decide) ?_
      refine g_calli (va_runV (As := [.int 1]) (rest := []) ⟨hx, hb, hml, hown, hw⟩ (k_M_fails l D T o a z0 z2 z3 (nI sn) z18 z19 z20 z21 z24 z26 f1 f4 f5 f6 f7 f8 f9 f10 f11 f12 f13 f15 f16 f17 f22 f23 f25 f27 s.heap.size 1) (cwV 1 hw (bg_V ml_M_89 wi_M_fails wv_M_fails wz_M wc_M_fails) rfl rfl rfl (by decide +kernel) ⟨Nat.le_of_ble_eq_true rfl, Nat.le_of_ble_eq_true rfl⟩) ⟨qP_b, va_recv hK hP (ci := 6) (q0 := 0) rfl rfl, qP_p hP hK hD⟩ rfl rfl hl.1 rfl (lv_room (Nat.le_of_ble_eq_true rfl)) d_M_span_21 ⟨Nat.le_of_ble_eq_true rfl, Nat.le_of_ble_eq_true rfl⟩) hD hS hA (fun r7 u8 H locs hr7 hP hD hS => ?_)
      obtain ⟨q0, q1⟩ := hr7
      replace q0 := q0.symm; subst q0; replace q1 := q1.symm; subst q1
      have hP : va_P D gC (mX T o a 1 z2 z3 (nI sn) z18 z19 z20 z21 z24 z26 f1 f4 f5 f6 f7 f8 f9 f10 f11 f12 f13 f15 f16 f17 f22 f23 f25 f27) H := hP
      have hD : va_D A (mX T o a 1 z2 z3 (nI sn) z18 z19 z20 z21 z24 z26 f1 f4 f5 f6 f7 f8 f9 f10 f11 f12 f13 f15 f16 f17 f22 f23 f25 f27) := hD
      exact W.iret (v := 0) hx hb hr (fun t ht hW => ⟨⟨0, (1, z19, z20, z21, f15, f16, f17, nI sn), rfl, (Or.inl ⟨by simp [j_yy, *], rfl, rfl, rfl, rfl, rfl, rfl, rfl, rfl, rfl⟩), by rw [ht]; exact hP, va_K.moved hW.alike hK, hD⟩, hS.F ht⟩) hS.2.2 d_M_span_24
    · have c6 := b2i_t c6
      refine lv_iload_n hx hb d_M_span_14 rfl (lv_at hl 1 rfl) ?_
      refine lv_iload_n hx hb d_M_span_15 rfl (lv_at hl 2 rfl) ?_
      refine lv_icmp_le (tgt := 25) hx hb d_M_span_16 (by decide) (fun c9 => ?_) (fun c9 => ?_)
      · refine lv_aload_n hx hb d_M_span_25 rfl (lv_at hl 0 rfl) ?_
        refine va_get (D := D) (ci := 6) (v := .int (nI sn)) (C := "TimeWordsModel") (T := F_M) (N := 28) hx hb hw in_M hown hK hP 0 rfl rfl 14 (by decide) (hw _ fl_M_79) (fun _ h9 => h9) rfl d_M_span_26 ?_
        refine lv_bipush (v := 60) hx hb d_M_span_29 (by decide) ?_
        refine lv_icmp_ne (tgt := 40) hx hb d_M_span_31 (by decide) (fun c10 => ?_) (fun c10 => ?_)
        · have c10 := nc_ne (a := sn) (b := 60) c10 (by omega) (by omega)
          have hlt : sn < 60 := by omega
          refine lv_aload_n hx hb d_M_span_40 rfl (lv_at hl 0 rfl) ?_
          refine lv_iconst (v := 0) hx hb d_M_span_41 (by decide) ?_
          refine va_put (D := D) (ci := 6) (v := .int 0) (ty := .int) (C := "TimeWordsModel") (T := F_M) (N := 28) hx hb hw in_M ty_M ty_M_ok n_M hown hK hP hD hS 0 rfl rfl 0 (by decide) (hw _ fl_M_69) (fun _ h9 => h9) rfl (by decide +kernel) rfl rfl (Nat.le_of_ble_eq_true rfl) d_M_span_42 (fun H locs hP hD hS => ?_)
          have hP : va_P D gC (mX T o a 0 z2 z3 (nI sn) z18 z19 z20 z21 z24 z26 f1 f4 f5 f6 f7 f8 f9 f10 f11 f12 f13 f15 f16 f17 f22 f23 f25 f27) H := hP
          have hD : va_D A (mX T o a 0 z2 z3 (nI sn) z18 z19 z20 z21 z24 z26 f1 f4 f5 f6 f7 f8 f9 f10 f11 f12 f13 f15 f16 f17 f22 f23 f25 f27) := hD
          refine lv_aload_n hx hb d_M_span_45 rfl (lv_at hl 0 rfl) ?_
          refine lv_iload_n hx hb d_M_span_46 rfl (lv_at hl 1 rfl) ?_
          refine lv_iload_n hx hb d_M_span_47 rfl (lv_at hl 2 rfl) ?_
          refine g_callv (va_runV (As := [.int x, .int y]) (rest := []) ⟨hx, hb, hml, hown, hw⟩ (k_M_set l D T o a 0 z2 z3 (nI sn) z18 z19 z20 z21 z24 z26 f1 f4 f5 f6 f7 f8 f9 f10 f11 f12 f13 f15 f16 f17 f22 f23 f25 f27 H.size x y) (cwV 2 hw (bg_V ml_M_141 wi_M_set wv_M_set wz_M wc_M_set) rfl rfl rfl (by decide +kernel) ⟨Nat.le_of_ble_eq_true rfl, Nat.le_of_ble_eq_true rfl⟩) ⟨qP_b, va_recv hK hP (ci := 6) (q0 := 0) rfl rfl, qP_p hP hK hD⟩ rfl rfl hl.1 rfl (lv_room (Nat.le_of_ble_eq_true rfl)) d_M_span_48 ⟨Nat.le_of_ble_eq_true rfl, Nat.le_of_ble_eq_true rfl⟩) hD hS hA (fun u9 H locs hr11 hP hD hS => ?_)
          obtain ⟨u12, u13, u14⟩ := u9
          dsimp only at hr11 hP hD
          obtain ⟨q0, q1, q2⟩ := hr11
          replace q0 := q0.symm; subst q0; replace q1 := q1.symm; subst q1; replace q2 := q2.symm; subst q2
          have hP : va_P D gC (mX T o a 0 z2 z3 (nI sn) z18 x y 0 z24 z26 f1 f4 f5 f6 f7 f8 f9 f10 f11 f12 f13 f15 f16 f17 f22 f23 f25 f27) H := hP
          have hD : va_D A (mX T o a 0 z2 z3 (nI sn) z18 x y 0 z24 z26 f1 f4 f5 f6 f7 f8 f9 f10 f11 f12 f13 f15 f16 f17 f22 f23 f25 f27) := hD
          refine lv_aload_n hx hb d_M_span_51 rfl (lv_at hl 0 rfl) ?_
          refine g_calli (va_runV (As := []) (rest := []) ⟨hx, hb, hml, hown, hw⟩ (k_M_make l D T o a 0 z2 z3 sn z18 x y 0 z24 z26 f1 f4 f5 f6 f7 f8 f9 f10 f11 f12 f13 f15 f16 f17 f22 f23 f25 f27 H.size (by assumption)) (cwV 0 hw (bg_V ml_M_160 wi_M_make wv_M_make wz_M wc_M_make) rfl rfl rfl (by decide +kernel) ⟨Nat.le_of_ble_eq_true rfl, Nat.le_of_ble_eq_true rfl⟩) ⟨qP_b, va_recv hK hP (ci := 6) (q0 := 0) rfl rfl, qP_p hP hK hD⟩ rfl rfl hl.1 rfl (lv_room (Nat.le_of_ble_eq_true rfl)) d_M_span_52 ⟨Nat.le_of_ble_eq_true rfl, Nat.le_of_ble_eq_true rfl⟩) hD hS hA (fun r15 u9 H locs hr15 hP hD hS => ?_)
          obtain ⟨u16, u17, u18, u19⟩ := u9
          dsimp only at hr15 hP hD
          obtain ⟨q0, q1, q2, q3, q4⟩ := hr15
          replace q0 := q0.symm; subst q0; replace q1 := q1.symm; subst q1; replace q2 := q2.symm; subst q2; replace q3 := q3.symm; subst q3; replace q4 := q4.symm; subst q4
          have hP : va_P D gC (mX T o a 0 z2 z3 (nI (sn + 1)) z18 x y 0 z24 z26 f1 f4 f5 f6 f7 f8 f9 f10 f11 f12 f13 (upd f15 sn x) (upd f16 sn y) (upd f17 sn 0) f22 f23 f25 f27) H := hP
          have hD : va_D A (mX T o a 0 z2 z3 (nI (sn + 1)) z18 x y 0 z24 z26 f1 f4 f5 f6 f7 f8 f9 f10 f11 f12 f13 (upd f15 sn x) (upd f16 sn y) (upd f17 sn 0) f22 f23 f25 f27) := hD
          exact W.iret (v := nI sn) hx hb hr (fun t ht hW => ⟨⟨nI sn, (0, x, y, 0, upd f15 sn x, upd f16 sn y, upd f17 sn 0, nI (sn + 1)), rfl, (Or.inr (Or.inr ⟨by simp [j_yy, *], hlt, rfl, rfl, rfl, rfl, rfl, rfl, rfl, rfl, rfl⟩)), by rw [ht]; exact hP, va_K.moved hW.alike hK, hD⟩, hS.F ht⟩) hS.2.2 d_M_span_55
        · have c10 := nc_eq (a := sn) (b := 60) c10 (by omega) (by omega)
          refine lv_aload_n hx hb d_M_span_34 rfl (lv_at hl 0 rfl) ?_
          refine lv_iconst (v := 2) hx hb d_M_span_35 (by decide) ?_
          refine g_calli (va_runV (As := [.int 2]) (rest := []) ⟨hx, hb, hml, hown, hw⟩ (k_M_fails l D T o a z0 z2 z3 (nI sn) z18 z19 z20 z21 z24 z26 f1 f4 f5 f6 f7 f8 f9 f10 f11 f12 f13 f15 f16 f17 f22 f23 f25 f27 s.heap.size 2) (cwV 1 hw (bg_V ml_M_89 wi_M_fails wv_M_fails wz_M wc_M_fails) rfl rfl rfl (by decide +kernel) ⟨Nat.le_of_ble_eq_true rfl, Nat.le_of_ble_eq_true rfl⟩) ⟨qP_b, va_recv hK hP (ci := 6) (q0 := 0) rfl rfl, qP_p hP hK hD⟩ rfl rfl hl.1 rfl (lv_room (Nat.le_of_ble_eq_true rfl)) d_M_span_36 ⟨Nat.le_of_ble_eq_true rfl, Nat.le_of_ble_eq_true rfl⟩) hD hS hA (fun r20 u21 H locs hr20 hP hD hS => ?_)
          obtain ⟨q0, q1⟩ := hr20
          replace q0 := q0.symm; subst q0; replace q1 := q1.symm; subst q1
          have hP : va_P D gC (mX T o a 2 z2 z3 (nI sn) z18 z19 z20 z21 z24 z26 f1 f4 f5 f6 f7 f8 f9 f10 f11 f12 f13 f15 f16 f17 f22 f23 f25 f27) H := hP
          have hD : va_D A (mX T o a 2 z2 z3 (nI sn) z18 z19 z20 z21 z24 z26 f1 f4 f5 f6 f7 f8 f9 f10 f11 f12 f13 f15 f16 f17 f22 f23 f25 f27) := hD
          exact W.iret (v := 0) hx hb hr (fun t ht hW => ⟨⟨0, (2, z19, z20, z21, f15, f16, f17, nI sn), rfl, (Or.inr (Or.inl ⟨by simp [j_yy, *], c10, rfl, rfl, rfl, rfl, rfl, rfl, rfl, rfl, rfl⟩)), by rw [ht]; exact hP, va_K.moved hW.alike hK, hD⟩, hS.F ht⟩) hS.2.2 d_M_span_39
      · refine lv_aload_n hx hb d_M_span_19 rfl (lv_at hl 0 rfl) ?_
        refine lv_iconst (v := 1) hx hb d_M_span_20 (by decide) ?_
        refine g_calli (va_runV (As := [.int 1]) (rest := []) ⟨hx, hb, hml, hown, hw⟩ (k_M_fails l D T o a z0 z2 z3 (nI sn) z18 z19 z20 z21 z24 z26 f1 f4 f5 f6 f7 f8 f9 f10 f11 f12 f13 f15 f16 f17 f22 f23 f25 f27 s.heap.size 1) (cwV 1 hw (bg_V ml_M_89 wi_M_fails wv_M_fails wz_M wc_M_fails) rfl rfl rfl (by decide +kernel) ⟨Nat.le_of_ble_eq_true rfl, Nat.le_of_ble_eq_true rfl⟩) ⟨qP_b, va_recv hK hP (ci := 6) (q0 := 0) rfl rfl, qP_p hP hK hD⟩ rfl rfl hl.1 rfl (lv_room (Nat.le_of_ble_eq_true rfl)) d_M_span_21 ⟨Nat.le_of_ble_eq_true rfl, Nat.le_of_ble_eq_true rfl⟩) hD hS hA (fun r22 u23 H locs hr22 hP hD hS => ?_)
        obtain ⟨q0, q1⟩ := hr22
        replace q0 := q0.symm; subst q0; replace q1 := q1.symm; subst q1
        have hP : va_P D gC (mX T o a 1 z2 z3 (nI sn) z18 z19 z20 z21 z24 z26 f1 f4 f5 f6 f7 f8 f9 f10 f11 f12 f13 f15 f16 f17 f22 f23 f25 f27) H := hP
        have hD : va_D A (mX T o a 1 z2 z3 (nI sn) z18 z19 z20 z21 z24 z26 f1 f4 f5 f6 f7 f8 f9 f10 f11 f12 f13 f15 f16 f17 f22 f23 f25 f27) := hD
        exact W.iret (v := 0) hx hb hr (fun t ht hW => ⟨⟨0, (1, z19, z20, z21, f15, f16, f17, nI sn), rfl, (Or.inl ⟨by simp [j_yy, *], rfl, rfl, rfl, rfl, rfl, rfl, rfl, rfl, rfl⟩), by rw [ht]; exact hP, va_K.moved hW.alike hK, hD⟩, hS.F ht⟩) hS.2.2 d_M_span_24
