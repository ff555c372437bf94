set_option maxHeartbeats 4000000 in
set_option maxRecDepth 100000 in
theorem k_M_named (l : Launch) (D : va_G) (T : gT) (o : Nat) (a : Nat → Nat) (z0 z2 z3 z14 z18 z19 z20 z21 z24 z26 : Int32) (f1 f4 f5 f6 f7 f8 f9 f10 f11 f12 f13 f15 f16 f17 f22 f23 f25 f27 : Nat → Int32) (sz : Nat) (j : Nat) (pl dy : Int32) (ck : Nat → Nat) (hy0 : j < 24) (hy1 : ∀ i, f9 i = nI (ck i)) (hy2 : ∀ i, ck i ≤ 6) : Met l y_M_named (Cond.code y_M_named b_M_named 7 (some .boolean) :: bg_W) ({ frames := 1, cells := 0, slots := 0, locals := 22 }) (qP D T (mX T o a z0 z2 z3 z14 z18 z19 z20 z21 z24 z26 f1 f4 f5 f6 f7 f8 f9 f10 f11 f12 f13 f15 f16 f17 f22 f23 f25 f27) [.ref o, .int (nI j), .int pl, .int dy] sz) (va_Qi (fun (r : Int32) (u : Int32 × Int32 × Int32) => match u with | (w19, w20, w21) => (r = 1 ∧ j_nv f6 f7 f8 f10 f11 f12 f13 ck pl dy j = some (w19, w20, w21)) ∨ (r = 0 ∧ j_nv f6 f7 f8 f10 f11 f12 f13 ck pl dy j = none ∧ w19 = z19 ∧ w20 = z20 ∧ w21 = z21)) (qB D T (va_A (mX T o a z0 z2 z3 z14 z18 z19 z20 z21 z24 z26 f1 f4 f5 f6 f7 f8 f9 f10 f11 f12 f13 f15 f16 f17 f22 f23 f25 f27) sz) (fun u : Int32 × Int32 × Int32 => match u with | (w19, w20, w21) => mX T o a z0 z2 z3 z14 z18 w19 w20 w21 z24 z26 f1 f4 f5 f6 f7 f8 f9 f10 f11 f12 f13 f15 f16 f17 f22 f23 f25 f27)) (va_A (mX T o a z0 z2 z3 z14 z18 z19 z20 z21 z24 z26 f1 f4 f5 f6 f7 f8 f9 f10 f11 f12 f13 f15 f16 f17 f22 f23 f25 f27) sz)) 0 0 (va_A (mX T o a z0 z2 z3 z14 z18 z19 z20 z21 z24 z26 f1 f4 f5 f6 f7 f8 f9 f10 f11 f12 f13 f15 f16 f17 f22 f23 f25 f27) sz) := by
  refine Met.ofW (cc := b_M_named) (maxL := 7) (ret := (some .boolean)) (by decide) rfl ?_
  intro p e s m args below meth c s₁ B hml hv
  obtain ⟨rfl, hsz, hP, hK, hD0⟩ := hv
  have hx := B.exec
  have hb := B.bytes
  have hr := B.returns
  have hw : ∀ w ∈ bg_W, w.before ([.ref o, .int (nI j), .int pl, .int dy] : List Value).toArray s = true := fun w h => atoms_spec (ws := (Cond.code y_M_named b_M_named 7 (some .boolean) :: bg_W)) B.pre w (List.mem_cons_of_mem _ h)
  have hown : s.vm.findClass "TimeWordsModel" = some m.cls := findClass_of_methodNamed B.named
  have hlocks := B.notSynchronized
  subst hsz
  have hD := hD0.self (sz := s.heap.size)
  generalize hAe : va_A (mX T o a z0 z2 z3 z14 z18 z19 z20 z21 z24 z26 f1 f4 f5 f6 f7 f8 f9 f10 f11 f12 f13 f15 f16 f17 f22 f23 f25 f27) s.heap.size = A at hD ⊢
  have hA : ∀ q : Nat, s.heap.size ≤ q → A q := fun q h => by rw [← hAe]; exact Or.inr h
  have hS : va_S A s.heap s.heap [] := va_S.rf
  have hl := lv_entry ([.ref o, .int (nI j), .int pl, .int dy]) (n := 7) (Nat.le_of_ble_eq_true rfl)
  rw [lg_entry_eq]
  generalize (lg_sl ([.ref o, .int (nI j), .int pl, .int dy]) ++ List.replicate (7 - (lg_sl ([.ref o, .int (nI j), .int pl, .int dy])).length) Slot.unset).toArray = ls at hl ⊢
  have hl : lv_has ls 7 [(0, .ref o), (1, .int (nI j)), (2, .int pl), (3, .int dy)] := hl
  have h6 := hy2 j
  refine lv_iconst (v := (-1)) hx hb d_M_named_0 (by decide) ?_
  refine lv_istore (lv' := [(4, .int (-1)), (0, .ref o), (1, .int (nI j)), (2, .int pl), (3, .int dy)]) hx hb d_M_named_1 hl (by decide) rfl (fun ls hl => ?_)
  refine lv_bipush (v := 6) hx hb d_M_named_3 (by decide) ?_
  refine lv_iload_n hx hb d_M_named_5 rfl (lv_at hl 2 rfl) ?_
  refine lv_imul hx hb d_M_named_6 ?_
  rw [show 6 * (nI j) = nI (6 * j) from pk_mul 6 j]
  refine lv_istore (lv' := [(5, .int (nI (6 * j))), (4, .int (-1)), (0, .ref o), (1, .int (nI j)), (2, .int pl), (3, .int dy)]) hx hb d_M_named_7 hl (by decide) rfl (fun ls hl => ?_)
  have loop : ∀ (n : Nat) (q : Nat) (kk : Int32), (q ≤ ck j) → ((j_nk f10 f13 j pl dy q = none ∧ kk = -1) ∨ ∃ k, k < q ∧ j_nk f10 f13 j pl dy q = some k ∧ kk = nI (6 * j + k)) → ∀ (H : Heap) (locs : List Loc), va_P D gC (mX T o a z0 z2 z3 z14 z18 z19 z20 z21 z24 z26 f1 f4 f5 f6 f7 f8 f9 f10 f11 f12 f13 f15 f16 f17 f22 f23 f25 f27) H → va_D A (mX T o a z0 z2 z3 z14 z18 z19 z20 z21 z24 z26 f1 f4 f5 f6 f7 f8 f9 f10 f11 f12 f13 f15 f16 f17 f22 f23 f25 f27) → va_S A s.heap H locs → ∀ (ls : Array Slot), lv_has ls 7 [(0, .ref o), (1, .int (nI j)), (2, .int pl), (3, .int dy), (4, .int kk), (5, .int (nI (6 * j + q)))] → ck j - q < n → W p l e (headSpec (Cond.code y_M_named b_M_named 7 (some .boolean) :: bg_W) ({ frames := 1, cells := 0, slots := 0, locals := 22 })).room s m ([.ref o, .int (nI j), .int pl, .int dy] : List Value).toArray below meth c H locs 0 0 (MQ below (va_Qi (fun (r : Int32) (u : Int32 × Int32 × Int32) => match u with | (w19, w20, w21) => (r = 1 ∧ j_nv f6 f7 f8 f10 f11 f12 f13 ck pl dy j = some (w19, w20, w21)) ∨ (r = 0 ∧ j_nv f6 f7 f8 f10 f11 f12 f13 ck pl dy j = none ∧ w19 = z19 ∧ w20 = z20 ∧ w21 = z21)) (qB D T A (fun u : Int32 × Int32 × Int32 => match u with | (w19, w20, w21) => mX T o a z0 z2 z3 z14 z18 w19 w20 w21 z24 z26 f1 f4 f5 f6 f7 f8 f9 f10 f11 f12 f13 f15 f16 f17 f22 f23 f25 f27)) A) ([.ref o, .int (nI j), .int pl, .int dy] : List Value).toArray s 0 0 A) (F0 m 9 ls []) := by
    intro n
    induction n with
    | zero => intro q kk hq hI H locs hP hD hS ls hl hm; exact absurd hm (Nat.not_lt_zero _)
    | succ n ih =>
      intro q kk hq hI H locs hP hD hS ls hl hm
      rcases hI with hK9 | hK9
      · obtain ⟨hn, h1⟩ := hK9
        subst h1
        refine lv_iload hx hb d_M_named_9 (lv_at hl 5 rfl) ?_
        refine lv_bipush (v := 6) hx hb d_M_named_11 (by decide) ?_
        refine lv_iload_n hx hb d_M_named_13 rfl (lv_at hl 1 rfl) ?_
        refine lv_imul hx hb d_M_named_14 ?_
        rw [show 6 * (nI j) = nI (6 * j) from pk_mul 6 j]
        refine lv_aload_n hx hb d_M_named_15 rfl (lv_at hl 0 rfl) ?_
        refine va_get (D := D) (ci := 6) (v := .ref (a 9)) (C := "TimeWordsModel") (T := F_M) (N := 28) hx hb hw in_M hown hK hP 0 rfl rfl 9 (by decide) (hw _ fl_M_29) (fun _ h9 => h9) rfl d_M_named_16 ?_
        refine lv_iload_n hx hb d_M_named_19 rfl (lv_at hl 1 rfl) ?_
        refine va_iald hx hb hK hP 7 0 rfl rfl (by first | assumption | exact vp_in_nI (by omega) (by omega)) d_M_named_20 ?_
        rw [show (nI j).toNatClampNeg = j from nI_clamp (by omega)]
        rw [hy1 j]
        refine lv_iadd hx hb d_M_named_21 ?_
        rw [show (nI (6 * j)) + (nI (ck j)) = nI (6 * j + (ck j)) from nI_add (6 * j) (ck j)]
        refine lv_icmp_ge (tgt := 106) hx hb d_M_named_22 (by decide) (fun c1 => ?_) (fun c1 => ?_)
        · have c1 := nc_le (a := 6 * j + (ck j)) (b := 6 * j + q) c1 (by omega) (by omega)
          have heq : ck j = q := by omega
          refine lv_iload hx hb d_M_named_106 (lv_at hl 4 rfl) ?_
          refine lv_if_lt (tgt := 132) hx hb d_M_named_108 (by decide) (fun c2 => ?_) (fun c2 => absurd c2 (by decide))
          refine lv_aload_n hx hb d_M_named_132 rfl (lv_at hl 0 rfl) ?_
          refine va_get (D := D) (ci := 6) (v := .ref (a 6)) (C := "TimeWordsModel") (T := F_M) (N := 28) hx hb hw in_M hown hK hP 0 rfl rfl 6 (by decide) (hw _ fl_M_19) (fun _ h9 => h9) rfl d_M_named_133 ?_
          refine lv_iload_n hx hb d_M_named_136 rfl (lv_at hl 1 rfl) ?_
          refine va_zald hx hb hK hP 4 1 rfl rfl (by first | assumption | exact vp_in_nI (by omega) (by omega)) d_M_named_137 ?_
          rw [show (nI j).toNatClampNeg = j from nI_clamp (by omega)]
          refine lv_if_eq (tgt := 157) hx hb d_M_named_138 (by decide) (fun c3 => ?_) (fun c3 => ?_)
          · refine lv_iload hx hb d_M_named_157 (lv_at hl 4 rfl) ?_
            refine lv_if_ge (tgt := 171) hx hb d_M_named_159 (by decide) (fun c4 => absurd c4 (by decide)) (fun c4 => ?_)
            refine lv_aload_n hx hb d_M_named_162 rfl (lv_at hl 0 rfl) ?_
            refine va_get (D := D) (ci := 6) (v := .ref (a 6)) (C := "TimeWordsModel") (T := F_M) (N := 28) hx hb hw in_M hown hK hP 0 rfl rfl 6 (by decide) (hw _ fl_M_19) (fun _ h9 => h9) rfl d_M_named_163 ?_
            refine lv_iload_n hx hb d_M_named_166 rfl (lv_at hl 1 rfl) ?_
            refine va_zald hx hb hK hP 4 1 rfl rfl (by first | assumption | exact vp_in_nI (by omega) (by omega)) d_M_named_167 ?_
            rw [show (nI j).toNatClampNeg = j from nI_clamp (by omega)]
            refine lv_if_eq (tgt := 175) hx hb d_M_named_168 (by decide) (fun c5 => ?_) (fun c5 => absurd (c3) c5)
            refine lv_iconst (v := 0) hx hb d_M_named_175 (by decide) ?_
            exact W.zret (v := 0) hx hb hr rfl (fun t ht hW => ⟨⟨0, (z19, z20, z21), rfl, (Or.inr ⟨rfl, by simp only [j_nv, heq, hn, if_pos c3], rfl, rfl, rfl⟩), by rw [ht]; exact hP, va_K.moved hW.alike hK, hD⟩, hS.F ht⟩) hS.2.2 d_M_named_176
          · refine lv_aload_n hx hb d_M_named_141 rfl (lv_at hl 0 rfl) ?_
            refine lv_aload_n hx hb d_M_named_142 rfl (lv_at hl 0 rfl) ?_
            refine va_get (D := D) (ci := 6) (v := .ref (a 7)) (C := "TimeWordsModel") (T := F_M) (N := 28) hx hb hw in_M hown hK hP 0 rfl rfl 7 (by decide) (hw _ fl_M_23) (fun _ h9 => h9) rfl d_M_named_143 ?_
            refine lv_iload_n hx hb d_M_named_146 rfl (lv_at hl 1 rfl) ?_
            refine va_iald hx hb hK hP 5 0 rfl rfl (by first | assumption | exact vp_in_nI (by omega) (by omega)) d_M_named_147 ?_
            rw [show (nI j).toNatClampNeg = j from nI_clamp (by omega)]
            refine lv_aload_n hx hb d_M_named_148 rfl (lv_at hl 0 rfl) ?_
            refine va_get (D := D) (ci := 6) (v := .ref (a 8)) (C := "TimeWordsModel") (T := F_M) (N := 28) hx hb hw in_M hown hK hP 0 rfl rfl 8 (by decide) (hw _ fl_M_26) (fun _ h9 => h9) rfl d_M_named_149 ?_
            refine lv_iload_n hx hb d_M_named_152 rfl (lv_at hl 1 rfl) ?_
            refine va_iald hx hb hK hP 6 0 rfl rfl (by first | assumption | exact vp_in_nI (by omega) (by omega)) d_M_named_153 ?_
            rw [show (nI j).toNatClampNeg = j from nI_clamp (by omega)]
            refine g_callv (va_runV (As := [.int (f7 j), .int (f8 j)]) (rest := []) ⟨hx, hb, hml, hown, hw⟩ (k_M_set l D T o a z0 z2 z3 z14 z18 z19 z20 z21 z24 z26 f1 f4 f5 f6 f7 f8 f9 f10 f11 f12 f13 f15 f16 f17 f22 f23 f25 f27 H.size (f7 j) (f8 j)) (cwV 2 hw (bg_V ml_M_141 wi_M_set wv_M_set wz_M wc_M_set) rfl rfl rfl (by decide +kernel) ⟨Nat.le_of_ble_eq_true rfl, Nat.le_of_ble_eq_true rfl⟩) ⟨qP_b, va_recv hK hP (ci := 6) (q0 := 0) rfl rfl, qP_p hP hK hD⟩ rfl rfl hl.1 rfl (lv_room (Nat.le_of_ble_eq_true rfl)) d_M_named_154 ⟨Nat.le_of_ble_eq_true rfl, Nat.le_of_ble_eq_true rfl⟩) hD hS hA (fun u9 H locs hr6 hP hD hS => ?_)
            obtain ⟨u7, u8, u9⟩ := u9
            dsimp only at hr6 hP hD
            obtain ⟨q0, q1, q2⟩ := hr6
            replace q0 := q0.symm; subst q0; replace q1 := q1.symm; subst q1; replace q2 := q2.symm; subst q2
            have hP : va_P D gC (mX T o a z0 z2 z3 z14 z18 (f7 j) (f8 j) 0 z24 z26 f1 f4 f5 f6 f7 f8 f9 f10 f11 f12 f13 f15 f16 f17 f22 f23 f25 f27) H := hP
            have hD : va_D A (mX T o a z0 z2 z3 z14 z18 (f7 j) (f8 j) 0 z24 z26 f1 f4 f5 f6 f7 f8 f9 f10 f11 f12 f13 f15 f16 f17 f22 f23 f25 f27) := hD
            refine lv_iload hx hb d_M_named_157 (lv_at hl 4 rfl) ?_
            refine lv_if_ge (tgt := 171) hx hb d_M_named_159 (by decide) (fun c10 => absurd c10 (by decide)) (fun c10 => ?_)
            refine lv_aload_n hx hb d_M_named_162 rfl (lv_at hl 0 rfl) ?_
            refine va_get (D := D) (ci := 6) (v := .ref (a 6)) (C := "TimeWordsModel") (T := F_M) (N := 28) hx hb hw in_M hown hK hP 0 rfl rfl 6 (by decide) (hw _ fl_M_19) (fun _ h9 => h9) rfl d_M_named_163 ?_
            refine lv_iload_n hx hb d_M_named_166 rfl (lv_at hl 1 rfl) ?_
            refine va_zald hx hb hK hP 4 1 rfl rfl (by first | assumption | exact vp_in_nI (by omega) (by omega)) d_M_named_167 ?_
            rw [show (nI j).toNatClampNeg = j from nI_clamp (by omega)]
            refine lv_if_eq (tgt := 175) hx hb d_M_named_168 (by decide) (fun c11 => absurd c11 (c3)) (fun c11 => ?_)
            refine lv_iconst (v := 1) hx hb d_M_named_171 (by decide) ?_
            refine lv_goto (tgt := 176) hx hb d_M_named_172 (by decide) ?_
            exact W.zret (v := 1) hx hb hr rfl (fun t ht hW => ⟨⟨1, (f7 j, f8 j, 0), rfl, (Or.inl ⟨rfl, by simp only [j_nv, heq, hn, if_neg c3]⟩), by rw [ht]; exact hP, va_K.moved hW.alike hK, hD⟩, hS.F ht⟩) hS.2.2 d_M_named_176
        · have c1 := nc_nle (a := 6 * j + (ck j)) (b := 6 * j + q) c1 (by omega) (by omega)
          refine lv_aload_n hx hb d_M_named_25 rfl (lv_at hl 0 rfl) ?_
          refine va_get (D := D) (ci := 6) (v := .ref (a 10)) (C := "TimeWordsModel") (T := F_M) (N := 28) hx hb hw in_M hown hK hP 0 rfl rfl 10 (by decide) (hw _ fl_M_32) (fun _ h9 => h9) rfl d_M_named_26 ?_
          refine lv_iload hx hb d_M_named_29 (lv_at hl 5 rfl) ?_
          refine va_iald hx hb hK hP 8 0 rfl rfl (by first | assumption | exact vp_in_nI (by omega) (by omega)) d_M_named_31 ?_
          rw [show (nI (6 * j + q)).toNatClampNeg = (6 * j + q) from nI_clamp (by omega)]
          refine lv_iload_n hx hb d_M_named_32 rfl (lv_at hl 2 rfl) ?_
          refine lv_icmp_ne (tgt := 51) hx hb d_M_named_33 (by decide) (fun c12 => ?_) (fun c12 => ?_)
          · refine lv_iconst (v := 0) hx hb d_M_named_51 (by decide) ?_
            refine lv_istore (lv' := [(6, .int 0), (0, .ref o), (1, .int (nI j)), (2, .int pl), (3, .int dy), (4, .int (-1)), (5, .int (nI (6 * j + q)))]) hx hb d_M_named_52 hl (by decide) rfl (fun ls hl => ?_)
            refine lv_iload hx hb d_M_named_54 (lv_at hl 0 rfl) ?_
            refine lv_if_eq (tgt := 96) hx hb d_M_named_56 (by decide) (fun c13 => ?_) (fun c13 => absurd c13 (by decide))
            refine lv_iload hx hb d_M_named_96 (lv_at hl 5 rfl) ?_
            refine lv_istore (lv' := [(4, .int (-1)), (6, .int 0), (0, .ref o), (1, .int (nI j)), (2, .int pl), (3, .int dy), (5, .int (nI (6 * j + q)))]) hx hb d_M_named_98 hl (by decide) rfl (fun ls hl => ?_)
            refine lv_iinc (v := nI (6 * j + q + 1)) (lv' := [(5, .int (nI (6 * j + q + 1))), (4, .int (-1)), (6, .int 0), (0, .ref o), (1, .int (nI j)), (2, .int pl), (3, .int dy)]) hx hb d_M_named_100 hl (k := 6) rfl (nI_add (6 * j + q) 1) (by decide) rfl (fun ls hl => ?_)
            refine lv_goto (tgt := 9) hx hb d_M_named_103 (by decide) ?_
            exact ih (q + 1) (-1) (by omega) (Or.inl ⟨(nk_no1 c12).trans hn, rfl⟩) _ _ hP hD hS ls (lv_sub hl [3, 4, 5, 6, 1, 0] rfl) (by omega)
          · refine lv_aload_n hx hb d_M_named_36 rfl (lv_at hl 0 rfl) ?_
            refine va_get (D := D) (ci := 6) (v := .ref (a 13)) (C := "TimeWordsModel") (T := F_M) (N := 28) hx hb hw in_M hown hK hP 0 rfl rfl 13 (by decide) (hw _ fl_M_41) (fun _ h9 => h9) rfl d_M_named_37 ?_
            refine lv_iload hx hb d_M_named_40 (lv_at hl 5 rfl) ?_
            refine va_iald hx hb hK hP 11 0 rfl rfl (by first | assumption | exact vp_in_nI (by omega) (by omega)) d_M_named_42 ?_
            rw [show (nI (6 * j + q)).toNatClampNeg = (6 * j + q) from nI_clamp (by omega)]
            refine lv_iload_n hx hb d_M_named_43 rfl (lv_at hl 3 rfl) ?_
            refine lv_icmp_gt (tgt := 51) hx hb d_M_named_44 (by decide) (fun c14 => ?_) (fun c14 => ?_)
            · refine lv_iconst (v := 0) hx hb d_M_named_51 (by decide) ?_
              refine lv_istore (lv' := [(6, .int 0), (0, .ref o), (1, .int (nI j)), (2, .int pl), (3, .int dy), (4, .int (-1)), (5, .int (nI (6 * j + q)))]) hx hb d_M_named_52 hl (by decide) rfl (fun ls hl => ?_)
              refine lv_iload hx hb d_M_named_54 (lv_at hl 0 rfl) ?_
              refine lv_if_eq (tgt := 96) hx hb d_M_named_56 (by decide) (fun c15 => ?_) (fun c15 => absurd c15 (by decide))
              refine lv_iload hx hb d_M_named_96 (lv_at hl 5 rfl) ?_
              refine lv_istore (lv' := [(4, .int (-1)), (6, .int 0), (0, .ref o), (1, .int (nI j)), (2, .int pl), (3, .int dy), (5, .int (nI (6 * j + q)))]) hx hb d_M_named_98 hl (by decide) rfl (fun ls hl => ?_)
              refine lv_iinc (v := nI (6 * j + q + 1)) (lv' := [(5, .int (nI (6 * j + q + 1))), (4, .int (-1)), (6, .int 0), (0, .ref o), (1, .int (nI j)), (2, .int pl), (3, .int dy)]) hx hb d_M_named_100 hl (k := 6) rfl (nI_add (6 * j + q) 1) (by decide) rfl (fun ls hl => ?_)
              refine lv_goto (tgt := 9) hx hb d_M_named_103 (by decide) ?_
              exact ih (q + 1) (-1) (by omega) (Or.inl ⟨(nk_no2 c14).trans hn, rfl⟩) _ _ hP hD hS ls (lv_sub hl [3, 4, 5, 6, 1, 0] rfl) (by omega)
            · refine lv_iconst (v := 1) hx hb d_M_named_47 (by decide) ?_
              refine lv_goto (tgt := 52) hx hb d_M_named_48 (by decide) ?_
              refine lv_istore (lv' := [(6, .int 1), (0, .ref o), (1, .int (nI j)), (2, .int pl), (3, .int dy), (4, .int (-1)), (5, .int (nI (6 * j + q)))]) hx hb d_M_named_52 hl (by decide) rfl (fun ls hl => ?_)
              refine lv_iload hx hb d_M_named_54 (lv_at hl 0 rfl) ?_
              refine lv_if_eq (tgt := 96) hx hb d_M_named_56 (by decide) (fun c16 => absurd c16 (by decide)) (fun c16 => ?_)
              refine lv_iload hx hb d_M_named_59 (lv_at hl 5 rfl) ?_
              refine lv_if_lt (tgt := 91) hx hb d_M_named_61 (by decide) (fun c17 => ?_) (fun c17 => absurd c17 (by decide))
              refine lv_iload hx hb d_M_named_91 (lv_at hl 6 rfl) ?_
              refine lv_goto (tgt := 98) hx hb d_M_named_93 (by decide) ?_
              refine lv_istore (lv' := [(4, .int (nI (6 * j + q))), (6, .int 1), (0, .ref o), (1, .int (nI j)), (2, .int pl), (3, .int dy), (5, .int (nI (6 * j + q)))]) hx hb d_M_named_98 hl (by decide) rfl (fun ls hl => ?_)
              refine lv_iinc (v := nI (6 * j + q + 1)) (lv' := [(5, .int (nI (6 * j + q + 1))), (4, .int (nI (6 * j + q))), (6, .int 1), (0, .ref o), (1, .int (nI j)), (2, .int pl), (3, .int dy)]) hx hb d_M_named_100 hl (k := 6) rfl (nI_add (6 * j + q) 1) (by decide) rfl (fun ls hl => ?_)
              refine lv_goto (tgt := 9) hx hb d_M_named_103 (by decide) ?_
              exact ih (q + 1) (nI (6 * j + q)) (by omega) (Or.inr ⟨q, by omega, nk_yes0 c12 c14 hn, rfl⟩) _ _ hP hD hS ls (lv_sub hl [3, 4, 5, 6, 1, 0] rfl) (by omega)
      · obtain ⟨k, hkq, hs, h1⟩ := hK9
        subst h1
        refine lv_iload hx hb d_M_named_9 (lv_at hl 5 rfl) ?_
        refine lv_bipush (v := 6) hx hb d_M_named_11 (by decide) ?_
        refine lv_iload_n hx hb d_M_named_13 rfl (lv_at hl 1 rfl) ?_
        refine lv_imul hx hb d_M_named_14 ?_
        rw [show 6 * (nI j) = nI (6 * j) from pk_mul 6 j]
        refine lv_aload_n hx hb d_M_named_15 rfl (lv_at hl 0 rfl) ?_
        refine va_get (D := D) (ci := 6) (v := .ref (a 9)) (C := "TimeWordsModel") (T := F_M) (N := 28) hx hb hw in_M hown hK hP 0 rfl rfl 9 (by decide) (hw _ fl_M_29) (fun _ h9 => h9) rfl d_M_named_16 ?_
        refine lv_iload_n hx hb d_M_named_19 rfl (lv_at hl 1 rfl) ?_
        refine va_iald hx hb hK hP 7 0 rfl rfl (by first | assumption | exact vp_in_nI (by omega) (by omega)) d_M_named_20 ?_
        rw [show (nI j).toNatClampNeg = j from nI_clamp (by omega)]
        rw [hy1 j]
        refine lv_iadd hx hb d_M_named_21 ?_
        rw [show (nI (6 * j)) + (nI (ck j)) = nI (6 * j + (ck j)) from nI_add (6 * j) (ck j)]
        refine lv_icmp_ge (tgt := 106) hx hb d_M_named_22 (by decide) (fun c18 => ?_) (fun c18 => ?_)
        · have c18 := nc_le (a := 6 * j + (ck j)) (b := 6 * j + q) c18 (by omega) (by omega)
          have heq : ck j = q := by omega
          refine lv_iload hx hb d_M_named_106 (lv_at hl 4 rfl) ?_
          refine lv_if_lt (tgt := 132) hx hb d_M_named_108 (by decide) (fun c19 => absurd c19 (nI_pos (by omega))) (fun c19 => ?_)
          refine lv_aload_n hx hb d_M_named_111 rfl (lv_at hl 0 rfl) ?_
          refine lv_aload_n hx hb d_M_named_112 rfl (lv_at hl 0 rfl) ?_
          refine va_get (D := D) (ci := 6) (v := .ref (a 11)) (C := "TimeWordsModel") (T := F_M) (N := 28) hx hb hw in_M hown hK hP 0 rfl rfl 11 (by decide) (hw _ fl_M_35) (fun _ h9 => h9) rfl d_M_named_113 ?_
          refine lv_iload hx hb d_M_named_116 (lv_at hl 4 rfl) ?_
          refine va_iald hx hb hK hP 9 0 rfl rfl (by first | assumption | exact vp_in_nI (by omega) (by omega)) d_M_named_118 ?_
          rw [show (nI (6 * j + k)).toNatClampNeg = (6 * j + k) from nI_clamp (by omega)]
          refine lv_aload_n hx hb d_M_named_119 rfl (lv_at hl 0 rfl) ?_
          refine va_get (D := D) (ci := 6) (v := .ref (a 12)) (C := "TimeWordsModel") (T := F_M) (N := 28) hx hb hw in_M hown hK hP 0 rfl rfl 12 (by decide) (hw _ fl_M_38) (fun _ h9 => h9) rfl d_M_named_120 ?_
          refine lv_iload hx hb d_M_named_123 (lv_at hl 4 rfl) ?_
          refine va_iald hx hb hK hP 10 0 rfl rfl (by first | assumption | exact vp_in_nI (by omega) (by omega)) d_M_named_125 ?_
          rw [show (nI (6 * j + k)).toNatClampNeg = (6 * j + k) from nI_clamp (by omega)]
          refine g_callv (va_runV (As := [.int (f11 (6 * j + k)), .int (f12 (6 * j + k))]) (rest := []) ⟨hx, hb, hml, hown, hw⟩ (k_M_set l D T o a z0 z2 z3 z14 z18 z19 z20 z21 z24 z26 f1 f4 f5 f6 f7 f8 f9 f10 f11 f12 f13 f15 f16 f17 f22 f23 f25 f27 H.size (f11 (6 * j + k)) (f12 (6 * j + k))) (cwV 2 hw (bg_V ml_M_141 wi_M_set wv_M_set wz_M wc_M_set) rfl rfl rfl (by decide +kernel) ⟨Nat.le_of_ble_eq_true rfl, Nat.le_of_ble_eq_true rfl⟩) ⟨qP_b, va_recv hK hP (ci := 6) (q0 := 0) rfl rfl, qP_p hP hK hD⟩ rfl rfl hl.1 rfl (lv_room (Nat.le_of_ble_eq_true rfl)) d_M_named_126 ⟨Nat.le_of_ble_eq_true rfl, Nat.le_of_ble_eq_true rfl⟩) hD hS hA (fun u9 H locs hr20 hP hD hS => ?_)
          obtain ⟨u21, u22, u23⟩ := u9
          dsimp only at hr20 hP hD
          obtain ⟨q0, q1, q2⟩ := hr20
          replace q0 := q0.symm; subst q0; replace q1 := q1.symm; subst q1; replace q2 := q2.symm; subst q2
          have hP : va_P D gC (mX T o a z0 z2 z3 z14 z18 (f11 (6 * j + k)) (f12 (6 * j + k)) 0 z24 z26 f1 f4 f5 f6 f7 f8 f9 f10 f11 f12 f13 f15 f16 f17 f22 f23 f25 f27) H := hP
          have hD : va_D A (mX T o a z0 z2 z3 z14 z18 (f11 (6 * j + k)) (f12 (6 * j + k)) 0 z24 z26 f1 f4 f5 f6 f7 f8 f9 f10 f11 f12 f13 f15 f16 f17 f22 f23 f25 f27) := hD
          refine lv_goto (tgt := 157) hx hb d_M_named_129 (by decide) ?_
          refine lv_iload hx hb d_M_named_157 (lv_at hl 4 rfl) ?_
          refine lv_if_ge (tgt := 171) hx hb d_M_named_159 (by decide) (fun c24 => ?_) (fun c24 => absurd (nI_pos' (by omega)) c24)
          refine lv_iconst (v := 1) hx hb d_M_named_171 (by decide) ?_
          refine lv_goto (tgt := 176) hx hb d_M_named_172 (by decide) ?_
          exact W.zret (v := 1) hx hb hr rfl (fun t ht hW => ⟨⟨1, (f11 (6 * j + k), f12 (6 * j + k), 0), rfl, (Or.inl ⟨rfl, by simp only [j_nv, heq, hs]⟩), by rw [ht]; exact hP, va_K.moved hW.alike hK, hD⟩, hS.F ht⟩) hS.2.2 d_M_named_176
        · have c18 := nc_nle (a := 6 * j + (ck j)) (b := 6 * j + q) c18 (by omega) (by omega)
          refine lv_aload_n hx hb d_M_named_25 rfl (lv_at hl 0 rfl) ?_
          refine va_get (D := D) (ci := 6) (v := .ref (a 10)) (C := "TimeWordsModel") (T := F_M) (N := 28) hx hb hw in_M hown hK hP 0 rfl rfl 10 (by decide) (hw _ fl_M_32) (fun _ h9 => h9) rfl d_M_named_26 ?_
          refine lv_iload hx hb d_M_named_29 (lv_at hl 5 rfl) ?_
          refine va_iald hx hb hK hP 8 0 rfl rfl (by first | assumption | exact vp_in_nI (by omega) (by omega)) d_M_named_31 ?_
          rw [show (nI (6 * j + q)).toNatClampNeg = (6 * j + q) from nI_clamp (by omega)]
          refine lv_iload_n hx hb d_M_named_32 rfl (lv_at hl 2 rfl) ?_
          refine lv_icmp_ne (tgt := 51) hx hb d_M_named_33 (by decide) (fun c25 => ?_) (fun c25 => ?_)
          · refine lv_iconst (v := 0) hx hb d_M_named_51 (by decide) ?_
            refine lv_istore (lv' := [(6, .int 0), (0, .ref o), (1, .int (nI j)), (2, .int pl), (3, .int dy), (4, .int (nI (6 * j + k))), (5, .int (nI (6 * j + q)))]) hx hb d_M_named_52 hl (by decide) rfl (fun ls hl => ?_)
            refine lv_iload hx hb d_M_named_54 (lv_at hl 0 rfl) ?_
            refine lv_if_eq (tgt := 96) hx hb d_M_named_56 (by decide) (fun c26 => ?_) (fun c26 => absurd c26 (by decide))
            refine lv_iload hx hb d_M_named_96 (lv_at hl 5 rfl) ?_
            refine lv_istore (lv' := [(4, .int (nI (6 * j + k))), (6, .int 0), (0, .ref o), (1, .int (nI j)), (2, .int pl), (3, .int dy), (5, .int (nI (6 * j + q)))]) hx hb d_M_named_98 hl (by decide) rfl (fun ls hl => ?_)
            refine lv_iinc (v := nI (6 * j + q + 1)) (lv' := [(5, .int (nI (6 * j + q + 1))), (4, .int (nI (6 * j + k))), (6, .int 0), (0, .ref o), (1, .int (nI j)), (2, .int pl), (3, .int dy)]) hx hb d_M_named_100 hl (k := 6) rfl (nI_add (6 * j + q) 1) (by decide) rfl (fun ls hl => ?_)
            refine lv_goto (tgt := 9) hx hb d_M_named_103 (by decide) ?_
            exact ih (q + 1) (nI (6 * j + k)) (by omega) (Or.inr ⟨k, by omega, (nk_no1 c25).trans hs, rfl⟩) _ _ hP hD hS ls (lv_sub hl [3, 4, 5, 6, 1, 0] rfl) (by omega)
          · refine lv_aload_n hx hb d_M_named_36 rfl (lv_at hl 0 rfl) ?_
            refine va_get (D := D) (ci := 6) (v := .ref (a 13)) (C := "TimeWordsModel") (T := F_M) (N := 28) hx hb hw in_M hown hK hP 0 rfl rfl 13 (by decide) (hw _ fl_M_41) (fun _ h9 => h9) rfl d_M_named_37 ?_
            refine lv_iload hx hb d_M_named_40 (lv_at hl 5 rfl) ?_
            refine va_iald hx hb hK hP 11 0 rfl rfl (by first | assumption | exact vp_in_nI (by omega) (by omega)) d_M_named_42 ?_
            rw [show (nI (6 * j + q)).toNatClampNeg = (6 * j + q) from nI_clamp (by omega)]
            refine lv_iload_n hx hb d_M_named_43 rfl (lv_at hl 3 rfl) ?_
            refine lv_icmp_gt (tgt := 51) hx hb d_M_named_44 (by decide) (fun c27 => ?_) (fun c27 => ?_)
            · refine lv_iconst (v := 0) hx hb d_M_named_51 (by decide) ?_
              refine lv_istore (lv' := [(6, .int 0), (0, .ref o), (1, .int (nI j)), (2, .int pl), (3, .int dy), (4, .int (nI (6 * j + k))), (5, .int (nI (6 * j + q)))]) hx hb d_M_named_52 hl (by decide) rfl (fun ls hl => ?_)
              refine lv_iload hx hb d_M_named_54 (lv_at hl 0 rfl) ?_
              refine lv_if_eq (tgt := 96) hx hb d_M_named_56 (by decide) (fun c28 => ?_) (fun c28 => absurd c28 (by decide))
              refine lv_iload hx hb d_M_named_96 (lv_at hl 5 rfl) ?_
              refine lv_istore (lv' := [(4, .int (nI (6 * j + k))), (6, .int 0), (0, .ref o), (1, .int (nI j)), (2, .int pl), (3, .int dy), (5, .int (nI (6 * j + q)))]) hx hb d_M_named_98 hl (by decide) rfl (fun ls hl => ?_)
              refine lv_iinc (v := nI (6 * j + q + 1)) (lv' := [(5, .int (nI (6 * j + q + 1))), (4, .int (nI (6 * j + k))), (6, .int 0), (0, .ref o), (1, .int (nI j)), (2, .int pl), (3, .int dy)]) hx hb d_M_named_100 hl (k := 6) rfl (nI_add (6 * j + q) 1) (by decide) rfl (fun ls hl => ?_)
              refine lv_goto (tgt := 9) hx hb d_M_named_103 (by decide) ?_
              exact ih (q + 1) (nI (6 * j + k)) (by omega) (Or.inr ⟨k, by omega, (nk_no2 c27).trans hs, rfl⟩) _ _ hP hD hS ls (lv_sub hl [3, 4, 5, 6, 1, 0] rfl) (by omega)
            · refine lv_iconst (v := 1) hx hb d_M_named_47 (by decide) ?_
              refine lv_goto (tgt := 52) hx hb d_M_named_48 (by decide) ?_
              refine lv_istore (lv' := [(6, .int 1), (0, .ref o), (1, .int (nI j)), (2, .int pl), (3, .int dy), (4, .int (nI (6 * j + k))), (5, .int (nI (6 * j + q)))]) hx hb d_M_named_52 hl (by decide) rfl (fun ls hl => ?_)
              refine lv_iload hx hb d_M_named_54 (lv_at hl 0 rfl) ?_
              refine lv_if_eq (tgt := 96) hx hb d_M_named_56 (by decide) (fun c29 => absurd c29 (by decide)) (fun c29 => ?_)
              refine lv_iload hx hb d_M_named_59 (lv_at hl 5 rfl) ?_
              refine lv_if_lt (tgt := 91) hx hb d_M_named_61 (by decide) (fun c30 => absurd c30 (nI_pos (by omega))) (fun c30 => ?_)
              refine lv_aload_n hx hb d_M_named_64 rfl (lv_at hl 1 rfl) ?_
              refine va_get (D := D) (ci := 6) (v := .ref (a 13)) (C := "TimeWordsModel") (T := F_M) (N := 28) hx hb hw in_M hown hK hP 0 rfl rfl 13 (by decide) (hw _ fl_M_41) (fun _ h9 => h9) rfl d_M_named_65 ?_
              refine lv_iload hx hb d_M_named_68 (lv_at hl 6 rfl) ?_
              refine va_iald hx hb hK hP 11 0 rfl rfl (by first | assumption | exact vp_in_nI (by omega) (by omega)) d_M_named_70 ?_
              rw [show (nI (6 * j + q)).toNatClampNeg = (6 * j + q) from nI_clamp (by omega)]
              refine lv_aload_n hx hb d_M_named_71 rfl (lv_at hl 1 rfl) ?_
              refine va_get (D := D) (ci := 6) (v := .ref (a 13)) (C := "TimeWordsModel") (T := F_M) (N := 28) hx hb hw in_M hown hK hP 0 rfl rfl 13 (by decide) (hw _ fl_M_41) (fun _ h9 => h9) rfl d_M_named_72 ?_
              refine lv_iload hx hb d_M_named_75 (lv_at hl 5 rfl) ?_
              refine lv_if_lt (tgt := 85) hx hb d_M_named_77 (by decide) (fun c31 => absurd c31 (nI_pos (by omega))) (fun c31 => ?_)
              refine lv_iload hx hb d_M_named_80 (lv_at hl 5 rfl) ?_
              refine lv_goto (tgt := 87) hx hb d_M_named_82 (by decide) ?_
              refine va_iald hx hb hK hP 11 0 rfl rfl (by first | assumption | exact vp_in_nI (by omega) (by omega)) d_M_named_87 ?_
              rw [show (nI (6 * j + k)).toNatClampNeg = (6 * j + k) from nI_clamp (by omega)]
              refine lv_icmp_lt (tgt := 96) hx hb d_M_named_88 (by decide) (fun c32 => ?_) (fun c32 => ?_)
              · refine lv_iload hx hb d_M_named_96 (lv_at hl 5 rfl) ?_
                refine lv_istore (lv' := [(4, .int (nI (6 * j + k))), (6, .int 1), (0, .ref o), (1, .int (nI j)), (2, .int pl), (3, .int dy), (5, .int (nI (6 * j + q)))]) hx hb d_M_named_98 hl (by decide) rfl (fun ls hl => ?_)
                refine lv_iinc (v := nI (6 * j + q + 1)) (lv' := [(5, .int (nI (6 * j + q + 1))), (4, .int (nI (6 * j + k))), (6, .int 1), (0, .ref o), (1, .int (nI j)), (2, .int pl), (3, .int dy)]) hx hb d_M_named_100 hl (k := 6) rfl (nI_add (6 * j + q) 1) (by decide) rfl (fun ls hl => ?_)
                refine lv_goto (tgt := 9) hx hb d_M_named_103 (by decide) ?_
                exact ih (q + 1) (nI (6 * j + k)) (by omega) (Or.inr ⟨k, by omega, (nk_no3 hs c32).trans hs, rfl⟩) _ _ hP hD hS ls (lv_sub hl [3, 4, 5, 6, 1, 0] rfl) (by omega)
              · refine lv_iload hx hb d_M_named_91 (lv_at hl 6 rfl) ?_
                refine lv_goto (tgt := 98) hx hb d_M_named_93 (by decide) ?_
                refine lv_istore (lv' := [(4, .int (nI (6 * j + q))), (6, .int 1), (0, .ref o), (1, .int (nI j)), (2, .int pl), (3, .int dy), (5, .int (nI (6 * j + q)))]) hx hb d_M_named_98 hl (by decide) rfl (fun ls hl => ?_)
                refine lv_iinc (v := nI (6 * j + q + 1)) (lv' := [(5, .int (nI (6 * j + q + 1))), (4, .int (nI (6 * j + q))), (6, .int 1), (0, .ref o), (1, .int (nI j)), (2, .int pl), (3, .int dy)]) hx hb d_M_named_100 hl (k := 6) rfl (nI_add (6 * j + q) 1) (by decide) rfl (fun ls hl => ?_)
                refine lv_goto (tgt := 9) hx hb d_M_named_103 (by decide) ?_
                exact ih (q + 1) (nI (6 * j + q)) (by omega) (Or.inr ⟨q, by omega, nk_yes1 c25 c27 hs c32, rfl⟩) _ _ hP hD hS ls (lv_sub hl [3, 4, 5, 6, 1, 0] rfl) (by omega)
  exact loop ((ck j - 0) + 1) 0 (-1) (Nat.zero_le _) (Or.inl ⟨rfl, rfl⟩) _ _ hP hD hS ls (lv_sub hl [2, 3, 4, 5, 1, 0] rfl) (Nat.lt_succ_self _)

set_option maxHeartbeats 4000000 in
set_option maxRecDepth 100000 in
theorem k_M_core (l : Launch) (D : va_G) (T : gT) (o : Nat) (a : Nat → Nat) (z0 : Int32) (pn nn : Nat) (z14 z18 z19 z20 z21 z24 z26 : Int32) (f1 f4 f5 f6 f7 f8 f9 f10 f11 f12 f13 f15 f16 f17 f22 f23 f25 f27 : Nat → Int32) (sz : Nat) (at9 : Nat) (pl dy : Int32) (ln ck : Nat → Nat) (hy0 : pn ≤ 24) (hy1 : at9 ≤ pn) (hy2 : nn ≤ 24) (hy3 : ∀ i, f5 i = nI (ln i)) (hy4 : ∀ i, ln i ≤ 8) (hy5 : ∀ i, f9 i = nI (ck i)) (hy6 : ∀ i, ck i ≤ 6) : Met l y_M_core (Cond.code y_M_core b_M_core 6 (some .boolean) :: bg_W) ({ frames := 2, cells := 0, slots := 0, locals := 48 }) (qP D T (mX T o a z0 (nI pn) (nI nn) z14 z18 z19 z20 z21 z24 z26 f1 f4 f5 f6 f7 f8 f9 f10 f11 f12 f13 f15 f16 f17 f22 f23 f25 f27) [.ref o, .int (nI at9), .int pl, .int dy] sz) (va_Qi (fun (r : Int32) (u : Int32 × Int32 × Int32) => match u with | (w19, w20, w21) => (j_ce f1 pn at9 = true ∧ r = b2i (!decide (j_cv f1 pn at9 ≤ 0)) ∧ w19 = 100 * (j_cv f1 pn at9 - 1) + 1 ∧ w20 = 100 * j_cv f1 pn at9 ∧ w21 = 0) ∨ (j_ce f1 pn at9 = false ∧ (∀ i, i < nn → ¬ j_mt f1 f4 ln pn at9 i) ∧ r = 0 ∧ w19 = z19 ∧ w20 = z20 ∧ w21 = z21) ∨ (j_ce f1 pn at9 = false ∧ ∃ i, i < nn ∧ j_mt f1 f4 ln pn at9 i ∧ ((r = 1 ∧ j_nv f6 f7 f8 f10 f11 f12 f13 ck pl dy i = some (w19, w20, w21)) ∨ (r = 0 ∧ j_nv f6 f7 f8 f10 f11 f12 f13 ck pl dy i = none ∧ w19 = z19 ∧ w20 = z20 ∧ w21 = z21)))) (qB D T (va_A (mX T o a z0 (nI pn) (nI nn) z14 z18 z19 z20 z21 z24 z26 f1 f4 f5 f6 f7 f8 f9 f10 f11 f12 f13 f15 f16 f17 f22 f23 f25 f27) sz) (fun u : Int32 × Int32 × Int32 => match u with | (w19, w20, w21) => mX T o a z0 (nI pn) (nI nn) z14 z18 w19 w20 w21 z24 z26 f1 f4 f5 f6 f7 f8 f9 f10 f11 f12 f13 f15 f16 f17 f22 f23 f25 f27)) (va_A (mX T o a z0 (nI pn) (nI nn) z14 z18 z19 z20 z21 z24 z26 f1 f4 f5 f6 f7 f8 f9 f10 f11 f12 f13 f15 f16 f17 f22 f23 f25 f27) sz)) 0 0 (va_A (mX T o a z0 (nI pn) (nI nn) z14 z18 z19 z20 z21 z24 z26 f1 f4 f5 f6 f7 f8 f9 f10 f11 f12 f13 f15 f16 f17 f22 f23 f25 f27) sz) := by
  refine Met.ofW (cc := b_M_core) (maxL := 6) (ret := (some .boolean)) (by decide) rfl ?_
  intro p e s m args below meth c s₁ B hml hv
  obtain ⟨rfl, hsz, hP, hK, hD0⟩ := hv
  have hx := B.exec
  have hb := B.bytes
  have hr := B.returns
  have hw : ∀ w ∈ bg_W, w.before ([.ref o, .int (nI at9), .int pl, .int dy] : List Value).toArray s = true := fun w h => atoms_spec (ws := (Cond.code y_M_core b_M_core 6 (some .boolean) :: bg_W)) B.pre w (List.mem_cons_of_mem _ h)
  have hown : s.vm.findClass "TimeWordsModel" = some m.cls := findClass_of_methodNamed B.named
  have hlocks := B.notSynchronized
  subst hsz
  have hD := hD0.self (sz := s.heap.size)
  generalize hAe : va_A (mX T o a z0 (nI pn) (nI nn) z14 z18 z19 z20 z21 z24 z26 f1 f4 f5 f6 f7 f8 f9 f10 f11 f12 f13 f15 f16 f17 f22 f23 f25 f27) s.heap.size = A at hD ⊢
  have hA : ∀ q : Nat, s.heap.size ≤ q → A q := fun q h => by rw [← hAe]; exact Or.inr h
  have hS : va_S A s.heap s.heap [] := va_S.rf
  have hl := lv_entry ([.ref o, .int (nI at9), .int pl, .int dy]) (n := 6) (Nat.le_of_ble_eq_true rfl)
  rw [lg_entry_eq]
  generalize (lg_sl ([.ref o, .int (nI at9), .int pl, .int dy]) ++ List.replicate (6 - (lg_sl ([.ref o, .int (nI at9), .int pl, .int dy])).length) Slot.unset).toArray = ls at hl ⊢
  have hl : lv_has ls 6 [(0, .ref o), (1, .int (nI at9)), (2, .int pl), (3, .int dy)] := hl
  refine lv_aload_n hx hb d_M_core_0 rfl (lv_at hl 0 rfl) ?_
  refine va_get (D := D) (ci := 6) (v := .int (nI pn)) (C := "TimeWordsModel") (T := F_M) (N := 28) hx hb hw in_M hown hK hP 0 rfl rfl 2 (by decide) (hw _ fl_M_93) (fun _ h9 => h9) rfl d_M_core_1 ?_
  refine lv_iload_n hx hb d_M_core_4 rfl (lv_at hl 1 rfl) ?_
  refine lv_isub hx hb d_M_core_5 ?_
  rw [show (nI pn) - (nI at9) = nI (pn - at9) from pk_sub (a := pn) (b := at9) (by omega)]
  refine lv_istore (lv' := [(4, .int (nI (pn - at9))), (0, .ref o), (1, .int (nI at9)), (2, .int pl), (3, .int dy)]) hx hb d_M_core_6 hl (by decide) rfl (fun ls hl => ?_)
  refine lv_iload hx hb d_M_core_8 (lv_at hl 0 rfl) ?_
  refine lv_iconst (v := 2) hx hb d_M_core_10 (by decide) ?_
  refine lv_iconst (v := 3) hx hb d_M_core_11 (by decide) ?_
  refine vp_callSi (va_Run.run (va_runS (As := [.int (nI (pn - at9)), .int 2, .int 3]) (rest := []) ⟨hx, hb, hml, hown, hw⟩ (k_M_in l (nI (pn - at9)) 2 3) (va_cwS 3 hw (bg_S ml_M_72 wt_M_in wz_M wc_M_in) rfl rfl rfl (by decide +kernel) ⟨Nat.le_of_ble_eq_true rfl, Nat.le_of_ble_eq_true rfl⟩) ⟨nP_b, nP_p⟩ rfl rfl hl.1 rfl (lv_room (Nat.le_of_ble_eq_true rfl)) d_M_core_12 ⟨Nat.le_of_ble_eq_true rfl, Nat.le_of_ble_eq_true rfl⟩)) (fun r1 hr1 => ?_)
  replace hr1 := hr1.symm; subst hr1
  refine lv_if_eq (tgt := 136) hx hb d_M_core_15 (by decide) (fun c2 => ?_) (fun c2 => ?_)
  · have c2 := b2i_f c2
    have hce : j_ce f1 pn at9 = false := by
      cases hq9 : j_ce f1 pn at9 with
      | false => rfl
      | true =>
        simp only [j_ce, Bool.and_eq_true, Bool.or_eq_true, decide_eq_true_eq] at hq9
        rw [(in_2_3 (n := pn - at9) (by omega)).mpr (by omega)] at c2
        cases c2
    refine lv_aload_n hx hb d_M_core_136 rfl (lv_at hl 1 rfl) ?_
    refine lv_iload_n hx hb d_M_core_137 rfl (lv_at hl 2 rfl) ?_
    refine vp_callSi (va_Run.run (va_runV (As := [.int (nI at9)]) (rest := []) ⟨hx, hb, hml, hown, hw⟩ (k_M_nameAt l D T o a z0 pn nn z14 z18 z19 z20 z21 z24 z26 f1 f4 f5 f6 f7 f8 f9 f10 f11 f12 f13 f15 f16 f17 f22 f23 f25 f27 at9 ln hy0 hy1 hy2 hy3 hy4) (cwV 1 hw (bg_V ml_M_96 wi_M_nameAt wv_M_nameAt wz_M wc_M_nameAt) rfl rfl rfl (by decide +kernel) ⟨Nat.le_of_ble_eq_true rfl, Nat.le_of_ble_eq_true rfl⟩) ⟨sP_b, va_recv hK hP (ci := 6) (q0 := 0) rfl rfl, sP_p hP hK⟩ rfl rfl hl.1 rfl (lv_room (Nat.le_of_ble_eq_true rfl)) d_M_core_138 ⟨Nat.le_of_ble_eq_true rfl, Nat.le_of_ble_eq_true rfl⟩)) (fun r3 hr3 => ?_)
    rcases hr3 with hm9 | hm9
    · obtain ⟨hm1, hno⟩ := hm9
      subst hm1
      refine lv_istore (lv' := [(5, .int (-1)), (4, .int (nI (pn - at9))), (0, .ref o), (1, .int (nI at9)), (2, .int pl), (3, .int dy)]) hx hb d_M_core_141 hl (by decide) rfl (fun ls hl => ?_)
      refine lv_iload hx hb d_M_core_143 (lv_at hl 0 rfl) ?_
      refine lv_if_lt (tgt := 163) hx hb d_M_core_145 (by decide) (fun c4 => ?_) (fun c4 => absurd c4 (by decide))
      refine lv_iconst (v := 0) hx hb d_M_core_163 (by decide) ?_
      exact W.zret (v := 0) hx hb hr rfl (fun t ht hW => ⟨⟨0, (z19, z20, z21), rfl, (Or.inr (Or.inl ⟨hce, hno, rfl, rfl, rfl, rfl⟩)), by rw [ht]; exact hP, va_K.moved hW.alike hK, hD⟩, hS.F ht⟩) hS.2.2 d_M_core_164
    · obtain ⟨i9, hi9, hm1, hyes⟩ := hm9
      subst hm1
      refine lv_istore (lv' := [(5, .int (nI i9)), (4, .int (nI (pn - at9))), (0, .ref o), (1, .int (nI at9)), (2, .int pl), (3, .int dy)]) hx hb d_M_core_141 hl (by decide) rfl (fun ls hl => ?_)
      refine lv_iload hx hb d_M_core_143 (lv_at hl 0 rfl) ?_
      refine lv_if_lt (tgt := 163) hx hb d_M_core_145 (by decide) (fun c5 => absurd c5 (nI_pos (by omega))) (fun c5 => ?_)
      refine lv_aload_n hx hb d_M_core_148 rfl (lv_at hl 2 rfl) ?_
      refine lv_iload hx hb d_M_core_149 (lv_at hl 0 rfl) ?_
      refine lv_iload_n hx hb d_M_core_151 rfl (lv_at hl 4 rfl) ?_
      refine lv_iload_n hx hb d_M_core_152 rfl (lv_at hl 5 rfl) ?_
      refine g_calli (va_runV (As := [.int (nI i9), .int pl, .int dy]) (rest := []) ⟨hx, hb, hml, hown, hw⟩ (k_M_named l D T o a z0 (nI pn) (nI nn) z14 z18 z19 z20 z21 z24 z26 f1 f4 f5 f6 f7 f8 f9 f10 f11 f12 f13 f15 f16 f17 f22 f23 f25 f27 s.heap.size i9 pl dy ck (by omega) hy5 hy6) (cwV 3 hw (bg_V ml_M_145 wi_M_named wv_M_named wz_M wc_M_named) rfl rfl rfl (by decide +kernel) ⟨Nat.le_of_ble_eq_true rfl, Nat.le_of_ble_eq_true rfl⟩) ⟨qP_b, va_recv hK hP (ci := 6) (q0 := 0) rfl rfl, qP_p hP hK hD⟩ rfl rfl hl.1 rfl (lv_room (Nat.le_of_ble_eq_true rfl)) d_M_core_153 ⟨Nat.le_of_ble_eq_true rfl, Nat.le_of_ble_eq_true rfl⟩) hD hS hA (fun r6 u9 H locs hr6 hP hD hS => ?_)
      obtain ⟨u7, u8, u9⟩ := u9
      dsimp only at hr6 hP hD
      have hP : va_P D gC (mX T o a z0 (nI pn) (nI nn) z14 z18 u7 u8 u9 z24 z26 f1 f4 f5 f6 f7 f8 f9 f10 f11 f12 f13 f15 f16 f17 f22 f23 f25 f27) H := hP
      have hD : va_D A (mX T o a z0 (nI pn) (nI nn) z14 z18 u7 u8 u9 z24 z26 f1 f4 f5 f6 f7 f8 f9 f10 f11 f12 f13 f15 f16 f17 f22 f23 f25 f27) := hD
      rcases hr6 with hn9 | hn9
      · have hr9 := hn9.1
        subst hr9
        refine lv_if_eq (tgt := 163) hx hb d_M_core_156 (by decide) (fun c10 => absurd c10 (by decide)) (fun c10 => ?_)
        refine lv_iconst (v := 1) hx hb d_M_core_159 (by decide) ?_
        refine lv_goto (tgt := 164) hx hb d_M_core_160 (by decide) ?_
        exact W.zret (v := 1) hx hb hr rfl (fun t ht hW => ⟨⟨1, (u7, u8, u9), rfl, (Or.inr (Or.inr ⟨hce, i9, hi9, hyes, Or.inl hn9⟩)), by rw [ht]; exact hP, va_K.moved hW.alike hK, hD⟩, hS.F ht⟩) hS.2.2 d_M_core_164
      · have hr9 := hn9.1
        subst hr9
        refine lv_if_eq (tgt := 163) hx hb d_M_core_156 (by decide) (fun c11 => ?_) (fun c11 => absurd c11 (by decide))
        refine lv_iconst (v := 0) hx hb d_M_core_163 (by decide) ?_
        exact W.zret (v := 0) hx hb hr rfl (fun t ht hW => ⟨⟨0, (u7, u8, u9), rfl, (Or.inr (Or.inr ⟨hce, i9, hi9, hyes, Or.inr hn9⟩)), by rw [ht]; exact hP, va_K.moved hW.alike hK, hD⟩, hS.F ht⟩) hS.2.2 d_M_core_164
  · have c2 := b2i_t c2
    have h23 := (in_2_3 (n := pn - at9) (by omega)).mp c2
    refine lv_aload_n hx hb d_M_core_18 rfl (lv_at hl 1 rfl) ?_
    refine va_get (D := D) (ci := 6) (v := .ref (a 1)) (C := "TimeWordsModel") (T := F_M) (N := 28) hx hb hw in_M hown hK hP 0 rfl rfl 1 (by decide) (hw _ fl_M_7) (fun _ h9 => h9) rfl d_M_core_19 ?_
    refine lv_aload_n hx hb d_M_core_22 rfl (lv_at hl 1 rfl) ?_
    refine va_get (D := D) (ci := 6) (v := .int (nI pn)) (C := "TimeWordsModel") (T := F_M) (N := 28) hx hb hw in_M hown hK hP 0 rfl rfl 2 (by decide) (hw _ fl_M_93) (fun _ h9 => h9) rfl d_M_core_23 ?_
    refine lv_iconst (v := 1) hx hb d_M_core_26 (by decide) ?_
    refine lv_isub hx hb d_M_core_27 ?_
    rw [show (nI pn) - 1 = nI (pn - 1) from pk_sub (a := pn) (b := 1) (by omega)]
    refine va_iald hx hb hK hP 1 0 rfl rfl (by first | assumption | exact vp_in_nI (by omega) (by omega)) d_M_core_28 ?_
    rw [show (nI (pn - 1)).toNatClampNeg = (pn - 1) from nI_clamp (by omega)]
    refine lv_bipush (v := 99) hx hb d_M_core_29 (by decide) ?_
    refine lv_icmp_ne (tgt := 136) hx hb d_M_core_31 (by decide) (fun c12 => ?_) (fun c12 => ?_)
    · have hce : j_ce f1 pn at9 = false := by simp [j_ce, c12]
      refine lv_aload_n hx hb d_M_core_136 rfl (lv_at hl 1 rfl) ?_
      refine lv_iload_n hx hb d_M_core_137 rfl (lv_at hl 2 rfl) ?_
      refine vp_callSi (va_Run.run (va_runV (As := [.int (nI at9)]) (rest := []) ⟨hx, hb, hml, hown, hw⟩ (k_M_nameAt l D T o a z0 pn nn z14 z18 z19 z20 z21 z24 z26 f1 f4 f5 f6 f7 f8 f9 f10 f11 f12 f13 f15 f16 f17 f22 f23 f25 f27 at9 ln hy0 hy1 hy2 hy3 hy4) (cwV 1 hw (bg_V ml_M_96 wi_M_nameAt wv_M_nameAt wz_M wc_M_nameAt) rfl rfl rfl (by decide +kernel) ⟨Nat.le_of_ble_eq_true rfl, Nat.le_of_ble_eq_true rfl⟩) ⟨sP_b, va_recv hK hP (ci := 6) (q0 := 0) rfl rfl, sP_p hP hK⟩ rfl rfl hl.1 rfl (lv_room (Nat.le_of_ble_eq_true rfl)) d_M_core_138 ⟨Nat.le_of_ble_eq_true rfl, Nat.le_of_ble_eq_true rfl⟩)) (fun r13 hr13 => ?_)
      rcases hr13 with hm9 | hm9
      · obtain ⟨hm1, hno⟩ := hm9
        subst hm1
        refine lv_istore (lv' := [(5, .int (-1)), (4, .int (nI (pn - at9))), (0, .ref o), (1, .int (nI at9)), (2, .int pl), (3, .int dy)]) hx hb d_M_core_141 hl (by decide) rfl (fun ls hl => ?_)
        refine lv_iload hx hb d_M_core_143 (lv_at hl 0 rfl) ?_
        refine lv_if_lt (tgt := 163) hx hb d_M_core_145 (by decide) (fun c14 => ?_) (fun c14 => absurd c14 (by decide))
        refine lv_iconst (v := 0) hx hb d_M_core_163 (by decide) ?_
        exact W.zret (v := 0) hx hb hr rfl (fun t ht hW => ⟨⟨0, (z19, z20, z21), rfl, (Or.inr (Or.inl ⟨hce, hno, rfl, rfl, rfl, rfl⟩)), by rw [ht]; exact hP, va_K.moved hW.alike hK, hD⟩, hS.F ht⟩) hS.2.2 d_M_core_164
      · obtain ⟨i9, hi9, hm1, hyes⟩ := hm9
        subst hm1
        refine lv_istore (lv' := [(5, .int (nI i9)), (4, .int (nI (pn - at9))), (0, .ref o), (1, .int (nI at9)), (2, .int pl), (3, .int dy)]) hx hb d_M_core_141 hl (by decide) rfl (fun ls hl => ?_)
        refine lv_iload hx hb d_M_core_143 (lv_at hl 0 rfl) ?_
        refine lv_if_lt (tgt := 163) hx hb d_M_core_145 (by decide) (fun c15 => absurd c15 (nI_pos (by omega))) (fun c15 => ?_)
        refine lv_aload_n hx hb d_M_core_148 rfl (lv_at hl 2 rfl) ?_
        refine lv_iload hx hb d_M_core_149 (lv_at hl 0 rfl) ?_
        refine lv_iload_n hx hb d_M_core_151 rfl (lv_at hl 4 rfl) ?_
        refine lv_iload_n hx hb d_M_core_152 rfl (lv_at hl 5 rfl) ?_
        refine g_calli (va_runV (As := [.int (nI i9), .int pl, .int dy]) (rest := []) ⟨hx, hb, hml, hown, hw⟩ (k_M_named l D T o a z0 (nI pn) (nI nn) z14 z18 z19 z20 z21 z24 z26 f1 f4 f5 f6 f7 f8 f9 f10 f11 f12 f13 f15 f16 f17 f22 f23 f25 f27 s.heap.size i9 pl dy ck (by omega) hy5 hy6) (cwV 3 hw (bg_V ml_M_145 wi_M_named wv_M_named wz_M wc_M_named) rfl rfl rfl (by decide +kernel) ⟨Nat.le_of_ble_eq_true rfl, Nat.le_of_ble_eq_true rfl⟩) ⟨qP_b, va_recv hK hP (ci := 6) (q0 := 0) rfl rfl, qP_p hP hK hD⟩ rfl rfl hl.1 rfl (lv_room (Nat.le_of_ble_eq_true rfl)) d_M_core_153 ⟨Nat.le_of_ble_eq_true rfl, Nat.le_of_ble_eq_true rfl⟩) hD hS hA (fun r16 u9 H locs hr16 hP hD hS => ?_)
        obtain ⟨u17, u18, u19⟩ := u9
        dsimp only at hr16 hP hD
        have hP : va_P D gC (mX T o a z0 (nI pn) (nI nn) z14 z18 u17 u18 u19 z24 z26 f1 f4 f5 f6 f7 f8 f9 f10 f11 f12 f13 f15 f16 f17 f22 f23 f25 f27) H := hP
        have hD : va_D A (mX T o a z0 (nI pn) (nI nn) z14 z18 u17 u18 u19 z24 z26 f1 f4 f5 f6 f7 f8 f9 f10 f11 f12 f13 f15 f16 f17 f22 f23 f25 f27) := hD
        rcases hr16 with hn9 | hn9
        · have hr9 := hn9.1
          subst hr9
          refine lv_if_eq (tgt := 163) hx hb d_M_core_156 (by decide) (fun c20 => absurd c20 (by decide)) (fun c20 => ?_)
          refine lv_iconst (v := 1) hx hb d_M_core_159 (by decide) ?_
          refine lv_goto (tgt := 164) hx hb d_M_core_160 (by decide) ?_
          exact W.zret (v := 1) hx hb hr rfl (fun t ht hW => ⟨⟨1, (u17, u18, u19), rfl, (Or.inr (Or.inr ⟨hce, i9, hi9, hyes, Or.inl hn9⟩)), by rw [ht]; exact hP, va_K.moved hW.alike hK, hD⟩, hS.F ht⟩) hS.2.2 d_M_core_164
        · have hr9 := hn9.1
          subst hr9
          refine lv_if_eq (tgt := 163) hx hb d_M_core_156 (by decide) (fun c21 => ?_) (fun c21 => absurd c21 (by decide))
          refine lv_iconst (v := 0) hx hb d_M_core_163 (by decide) ?_
          exact W.zret (v := 0) hx hb hr rfl (fun t ht hW => ⟨⟨0, (u17, u18, u19), rfl, (Or.inr (Or.inr ⟨hce, i9, hi9, hyes, Or.inr hn9⟩)), by rw [ht]; exact hP, va_K.moved hW.alike hK, hD⟩, hS.F ht⟩) hS.2.2 d_M_core_164
    · refine lv_aload_n hx hb d_M_core_34 rfl (lv_at hl 1 rfl) ?_
      refine va_get (D := D) (ci := 6) (v := .ref (a 1)) (C := "TimeWordsModel") (T := F_M) (N := 28) hx hb hw in_M hown hK hP 0 rfl rfl 1 (by decide) (hw _ fl_M_7) (fun _ h9 => h9) rfl d_M_core_35 ?_
      refine lv_iload_n hx hb d_M_core_38 rfl (lv_at hl 2 rfl) ?_
      refine va_iald hx hb hK hP 1 0 rfl rfl (by first | assumption | exact vp_in_nI (by omega) (by omega)) d_M_core_39 ?_
      rw [show (nI at9).toNatClampNeg = at9 from nI_clamp (by omega)]
      refine vp_callSi (va_Run.run (va_runS (As := [.int (f1 at9)]) (rest := []) ⟨hx, hb, hml, hown, hw⟩ (k_M_isDigit l (f1 at9)) (va_cwS 1 hw (bg_S ml_M_86 wt_M_isDigit wz_M wc_M_isDigit) rfl rfl rfl (by decide +kernel) ⟨Nat.le_of_ble_eq_true rfl, Nat.le_of_ble_eq_true rfl⟩) ⟨nP_b, nP_p⟩ rfl rfl hl.1 rfl (lv_room (Nat.le_of_ble_eq_true rfl)) d_M_core_40 ⟨Nat.le_of_ble_eq_true rfl, Nat.le_of_ble_eq_true rfl⟩)) (fun r22 hr22 => ?_)
      replace hr22 := hr22.symm; subst hr22
      refine lv_if_eq (tgt := 136) hx hb d_M_core_43 (by decide) (fun c23 => ?_) (fun c23 => ?_)
      · have c23 := b2i_f c23
        have hce : j_ce f1 pn at9 = false := by simp [j_ce, c23]
        refine lv_aload_n hx hb d_M_core_136 rfl (lv_at hl 1 rfl) ?_
        refine lv_iload_n hx hb d_M_core_137 rfl (lv_at hl 2 rfl) ?_
        refine vp_callSi (va_Run.run (va_runV (As := [.int (nI at9)]) (rest := []) ⟨hx, hb, hml, hown, hw⟩ (k_M_nameAt l D T o a z0 pn nn z14 z18 z19 z20 z21 z24 z26 f1 f4 f5 f6 f7 f8 f9 f10 f11 f12 f13 f15 f16 f17 f22 f23 f25 f27 at9 ln hy0 hy1 hy2 hy3 hy4) (cwV 1 hw (bg_V ml_M_96 wi_M_nameAt wv_M_nameAt wz_M wc_M_nameAt) rfl rfl rfl (by decide +kernel) ⟨Nat.le_of_ble_eq_true rfl, Nat.le_of_ble_eq_true rfl⟩) ⟨sP_b, va_recv hK hP (ci := 6) (q0 := 0) rfl rfl, sP_p hP hK⟩ rfl rfl hl.1 rfl (lv_room (Nat.le_of_ble_eq_true rfl)) d_M_core_138 ⟨Nat.le_of_ble_eq_true rfl, Nat.le_of_ble_eq_true rfl⟩)) (fun r24 hr24 => ?_)
        rcases hr24 with hm9 | hm9
        · obtain ⟨hm1, hno⟩ := hm9
          subst hm1
          refine lv_istore (lv' := [(5, .int (-1)), (4, .int (nI (pn - at9))), (0, .ref o), (1, .int (nI at9)), (2, .int pl), (3, .int dy)]) hx hb d_M_core_141 hl (by decide) rfl (fun ls hl => ?_)
          refine lv_iload hx hb d_M_core_143 (lv_at hl 0 rfl) ?_
          refine lv_if_lt (tgt := 163) hx hb d_M_core_145 (by decide) (fun c25 => ?_) (fun c25 => absurd c25 (by decide))
          refine lv_iconst (v := 0) hx hb d_M_core_163 (by decide) ?_
          exact W.zret (v := 0) hx hb hr rfl (fun t ht hW => ⟨⟨0, (z19, z20, z21), rfl, (Or.inr (Or.inl ⟨hce, hno, rfl, rfl, rfl, rfl⟩)), by rw [ht]; exact hP, va_K.moved hW.alike hK, hD⟩, hS.F ht⟩) hS.2.2 d_M_core_164
        · obtain ⟨i9, hi9, hm1, hyes⟩ := hm9
          subst hm1
          refine lv_istore (lv' := [(5, .int (nI i9)), (4, .int (nI (pn - at9))), (0, .ref o), (1, .int (nI at9)), (2, .int pl), (3, .int dy)]) hx hb d_M_core_141 hl (by decide) rfl (fun ls hl => ?_)
          refine lv_iload hx hb d_M_core_143 (lv_at hl 0 rfl) ?_
          refine lv_if_lt (tgt := 163) hx hb d_M_core_145 (by decide) (fun c26 => absurd c26 (nI_pos (by omega))) (fun c26 => ?_)
          refine lv_aload_n hx hb d_M_core_148 rfl (lv_at hl 2 rfl) ?_
          refine lv_iload hx hb d_M_core_149 (lv_at hl 0 rfl) ?_
          refine lv_iload_n hx hb d_M_core_151 rfl (lv_at hl 4 rfl) ?_
          refine lv_iload_n hx hb d_M_core_152 rfl (lv_at hl 5 rfl) ?_
          refine g_calli (va_runV (As := [.int (nI i9), .int pl, .int dy]) (rest := []) ⟨hx, hb, hml, hown, hw⟩ (k_M_named l D T o a z0 (nI pn) (nI nn) z14 z18 z19 z20 z21 z24 z26 f1 f4 f5 f6 f7 f8 f9 f10 f11 f12 f13 f15 f16 f17 f22 f23 f25 f27 s.heap.size i9 pl dy ck (by omega) hy5 hy6) (cwV 3 hw (bg_V ml_M_145 wi_M_named wv_M_named wz_M wc_M_named) rfl rfl rfl (by decide +kernel) ⟨Nat.le_of_ble_eq_true rfl, Nat.le_of_ble_eq_true rfl⟩) ⟨qP_b, va_recv hK hP (ci := 6) (q0 := 0) rfl rfl, qP_p hP hK hD⟩ rfl rfl hl.1 rfl (lv_room (Nat.le_of_ble_eq_true rfl)) d_M_core_153 ⟨Nat.le_of_ble_eq_true rfl, Nat.le_of_ble_eq_true rfl⟩) hD hS hA (fun r27 u9 H locs hr27 hP hD hS => ?_)
          obtain ⟨u28, u29, u30⟩ := u9
          dsimp only at hr27 hP hD
          have hP : va_P D gC (mX T o a z0 (nI pn) (nI nn) z14 z18 u28 u29 u30 z24 z26 f1 f4 f5 f6 f7 f8 f9 f10 f11 f12 f13 f15 f16 f17 f22 f23 f25 f27) H := hP
          have hD : va_D A (mX T o a z0 (nI pn) (nI nn) z14 z18 u28 u29 u30 z24 z26 f1 f4 f5 f6 f7 f8 f9 f10 f11 f12 f13 f15 f16 f17 f22 f23 f25 f27) := hD
          rcases hr27 with hn9 | hn9
          · have hr9 := hn9.1
            subst hr9
            refine lv_if_eq (tgt := 163) hx hb d_M_core_156 (by decide) (fun c31 => absurd c31 (by decide)) (fun c31 => ?_)
            refine lv_iconst (v := 1) hx hb d_M_core_159 (by decide) ?_
            refine lv_goto (tgt := 164) hx hb d_M_core_160 (by decide) ?_
            exact W.zret (v := 1) hx hb hr rfl (fun t ht hW => ⟨⟨1, (u28, u29, u30), rfl, (Or.inr (Or.inr ⟨hce, i9, hi9, hyes, Or.inl hn9⟩)), by rw [ht]; exact hP, va_K.moved hW.alike hK, hD⟩, hS.F ht⟩) hS.2.2 d_M_core_164
          · have hr9 := hn9.1
            subst hr9
            refine lv_if_eq (tgt := 163) hx hb d_M_core_156 (by decide) (fun c32 => ?_) (fun c32 => absurd c32 (by decide))
            refine lv_iconst (v := 0) hx hb d_M_core_163 (by decide) ?_
            exact W.zret (v := 0) hx hb hr rfl (fun t ht hW => ⟨⟨0, (u28, u29, u30), rfl, (Or.inr (Or.inr ⟨hce, i9, hi9, hyes, Or.inr hn9⟩)), by rw [ht]; exact hP, va_K.moved hW.alike hK, hD⟩, hS.F ht⟩) hS.2.2 d_M_core_164
      · have c23 := b2i_t c23
        refine lv_aload_n hx hb d_M_core_46 rfl (lv_at hl 1 rfl) ?_
        refine va_get (D := D) (ci := 6) (v := .ref (a 1)) (C := "TimeWordsModel") (T := F_M) (N := 28) hx hb hw in_M hown hK hP 0 rfl rfl 1 (by decide) (hw _ fl_M_7) (fun _ h9 => h9) rfl d_M_core_47 ?_
        refine lv_iload_n hx hb d_M_core_50 rfl (lv_at hl 2 rfl) ?_
        refine lv_iload hx hb d_M_core_51 (lv_at hl 0 rfl) ?_
        refine lv_iadd hx hb d_M_core_53 ?_
        rw [show (nI at9) + (nI (pn - at9)) = nI (at9 + (pn - at9)) from nI_add at9 (pn - at9)]
        refine lv_iconst (v := 2) hx hb d_M_core_54 (by decide) ?_
        refine lv_isub hx hb d_M_core_55 ?_
        rw [show (nI (at9 + (pn - at9))) - 2 = nI ((at9 + (pn - at9)) - 2) from pk_sub (a := at9 + (pn - at9)) (b := 2) (by omega)]
        rw [show at9 + (pn - at9) - 2 = pn - 2 from by omega]
        refine va_iald hx hb hK hP 1 0 rfl rfl (by first | assumption | exact vp_in_nI (by omega) (by omega)) d_M_core_56 ?_
        rw [show (nI (pn - 2)).toNatClampNeg = (pn - 2) from nI_clamp (by omega)]
        refine vp_callSi (va_Run.run (va_runS (As := [.int (f1 (pn - 2))]) (rest := []) ⟨hx, hb, hml, hown, hw⟩ (k_M_isDigit l (f1 (pn - 2))) (va_cwS 1 hw (bg_S ml_M_86 wt_M_isDigit wz_M wc_M_isDigit) rfl rfl rfl (by decide +kernel) ⟨Nat.le_of_ble_eq_true rfl, Nat.le_of_ble_eq_true rfl⟩) ⟨nP_b, nP_p⟩ rfl rfl hl.1 rfl (lv_room (Nat.le_of_ble_eq_true rfl)) d_M_core_57 ⟨Nat.le_of_ble_eq_true rfl, Nat.le_of_ble_eq_true rfl⟩)) (fun r33 hr33 => ?_)
        replace hr33 := hr33.symm; subst hr33
        refine lv_if_eq (tgt := 136) hx hb d_M_core_60 (by decide) (fun c34 => ?_) (fun c34 => ?_)
        · have c34 := b2i_f c34
          have hce : j_ce f1 pn at9 = false := by simp [j_ce, c34]
          refine lv_aload_n hx hb d_M_core_136 rfl (lv_at hl 1 rfl) ?_
          refine lv_iload_n hx hb d_M_core_137 rfl (lv_at hl 2 rfl) ?_
          refine vp_callSi (va_Run.run (va_runV (As := [.int (nI at9)]) (rest := []) ⟨hx, hb, hml, hown, hw⟩ (k_M_nameAt l D T o a z0 pn nn z14 z18 z19 z20 z21 z24 z26 f1 f4 f5 f6 f7 f8 f9 f10 f11 f12 f13 f15 f16 f17 f22 f23 f25 f27 at9 ln hy0 hy1 hy2 hy3 hy4) (cwV 1 hw (bg_V ml_M_96 wi_M_nameAt wv_M_nameAt wz_M wc_M_nameAt) rfl rfl rfl (by decide +kernel) ⟨Nat.le_of_ble_eq_true rfl, Nat.le_of_ble_eq_true rfl⟩) ⟨sP_b, va_recv hK hP (ci := 6) (q0 := 0) rfl rfl, sP_p hP hK⟩ rfl rfl hl.1 rfl (lv_room (Nat.le_of_ble_eq_true rfl)) d_M_core_138 ⟨Nat.le_of_ble_eq_true rfl, Nat.le_of_ble_eq_true rfl⟩)) (fun r35 hr35 => ?_)
          rcases hr35 with hm9 | hm9
          · obtain ⟨hm1, hno⟩ := hm9
            subst hm1
            refine lv_istore (lv' := [(5, .int (-1)), (4, .int (nI (pn - at9))), (0, .ref o), (1, .int (nI at9)), (2, .int pl), (3, .int dy)]) hx hb d_M_core_141 hl (by decide) rfl (fun ls hl => ?_)
            refine lv_iload hx hb d_M_core_143 (lv_at hl 0 rfl) ?_
            refine lv_if_lt (tgt := 163) hx hb d_M_core_145 (by decide) (fun c36 => ?_) (fun c36 => absurd c36 (by decide))
            refine lv_iconst (v := 0) hx hb d_M_core_163 (by decide) ?_
            exact W.zret (v := 0) hx hb hr rfl (fun t ht hW => ⟨⟨0, (z19, z20, z21), rfl, (Or.inr (Or.inl ⟨hce, hno, rfl, rfl, rfl, rfl⟩)), by rw [ht]; exact hP, va_K.moved hW.alike hK, hD⟩, hS.F ht⟩) hS.2.2 d_M_core_164
          · obtain ⟨i9, hi9, hm1, hyes⟩ := hm9
            subst hm1
            refine lv_istore (lv' := [(5, .int (nI i9)), (4, .int (nI (pn - at9))), (0, .ref o), (1, .int (nI at9)), (2, .int pl), (3, .int dy)]) hx hb d_M_core_141 hl (by decide) rfl (fun ls hl => ?_)
            refine lv_iload hx hb d_M_core_143 (lv_at hl 0 rfl) ?_
            refine lv_if_lt (tgt := 163) hx hb d_M_core_145 (by decide) (fun c37 => absurd c37 (nI_pos (by omega))) (fun c37 => ?_)
            refine lv_aload_n hx hb d_M_core_148 rfl (lv_at hl 2 rfl) ?_
            refine lv_iload hx hb d_M_core_149 (lv_at hl 0 rfl) ?_
            refine lv_iload_n hx hb d_M_core_151 rfl (lv_at hl 4 rfl) ?_
            refine lv_iload_n hx hb d_M_core_152 rfl (lv_at hl 5 rfl) ?_
            refine g_calli (va_runV (As := [.int (nI i9), .int pl, .int dy]) (rest := []) ⟨hx, hb, hml, hown, hw⟩ (k_M_named l D T o a z0 (nI pn) (nI nn) z14 z18 z19 z20 z21 z24 z26 f1 f4 f5 f6 f7 f8 f9 f10 f11 f12 f13 f15 f16 f17 f22 f23 f25 f27 s.heap.size i9 pl dy ck (by omega) hy5 hy6) (cwV 3 hw (bg_V ml_M_145 wi_M_named wv_M_named wz_M wc_M_named) rfl rfl rfl (by decide +kernel) ⟨Nat.le_of_ble_eq_true rfl, Nat.le_of_ble_eq_true rfl⟩) ⟨qP_b, va_recv hK hP (ci := 6) (q0 := 0) rfl rfl, qP_p hP hK hD⟩ rfl rfl hl.1 rfl (lv_room (Nat.le_of_ble_eq_true rfl)) d_M_core_153 ⟨Nat.le_of_ble_eq_true rfl, Nat.le_of_ble_eq_true rfl⟩) hD hS hA (fun r38 u9 H locs hr38 hP hD hS => ?_)
            obtain ⟨u39, u40, u41⟩ := u9
            dsimp only at hr38 hP hD
            have hP : va_P D gC (mX T o a z0 (nI pn) (nI nn) z14 z18 u39 u40 u41 z24 z26 f1 f4 f5 f6 f7 f8 f9 f10 f11 f12 f13 f15 f16 f17 f22 f23 f25 f27) H := hP
            have hD : va_D A (mX T o a z0 (nI pn) (nI nn) z14 z18 u39 u40 u41 z24 z26 f1 f4 f5 f6 f7 f8 f9 f10 f11 f12 f13 f15 f16 f17 f22 f23 f25 f27) := hD
            rcases hr38 with hn9 | hn9
            · have hr9 := hn9.1
              subst hr9
              refine lv_if_eq (tgt := 163) hx hb d_M_core_156 (by decide) (fun c42 => absurd c42 (by decide)) (fun c42 => ?_)
              refine lv_iconst (v := 1) hx hb d_M_core_159 (by decide) ?_
              refine lv_goto (tgt := 164) hx hb d_M_core_160 (by decide) ?_
              exact W.zret (v := 1) hx hb hr rfl (fun t ht hW => ⟨⟨1, (u39, u40, u41), rfl, (Or.inr (Or.inr ⟨hce, i9, hi9, hyes, Or.inl hn9⟩)), by rw [ht]; exact hP, va_K.moved hW.alike hK, hD⟩, hS.F ht⟩) hS.2.2 d_M_core_164
            · have hr9 := hn9.1
              subst hr9
              refine lv_if_eq (tgt := 163) hx hb d_M_core_156 (by decide) (fun c43 => ?_) (fun c43 => absurd c43 (by decide))
              refine lv_iconst (v := 0) hx hb d_M_core_163 (by decide) ?_
              exact W.zret (v := 0) hx hb hr rfl (fun t ht hW => ⟨⟨0, (u39, u40, u41), rfl, (Or.inr (Or.inr ⟨hce, i9, hi9, hyes, Or.inr hn9⟩)), by rw [ht]; exact hP, va_K.moved hW.alike hK, hD⟩, hS.F ht⟩) hS.2.2 d_M_core_164
        · have c34 := b2i_t c34
          have hce : j_ce f1 pn at9 = true := by
            simp only [j_ce, c12, c23, c34, decide_true, Bool.and_true, Bool.or_eq_true, decide_eq_true_eq]
            omega
          refine lv_iload hx hb d_M_core_63 (lv_at hl 0 rfl) ?_
          refine lv_iconst (v := 2) hx hb d_M_core_65 (by decide) ?_
          refine lv_icmp_ne (tgt := 81) hx hb d_M_core_66 (by decide) (fun c44 => ?_) (fun c44 => ?_)
          · have c44 := nc_ne (a := pn - at9) (b := 2) c44 (by omega) (by omega)
            refine lv_bipush (v := 10) hx hb d_M_core_81 (by decide) ?_
            refine lv_aload_n hx hb d_M_core_83 rfl (lv_at hl 1 rfl) ?_
            refine va_get (D := D) (ci := 6) (v := .ref (a 1)) (C := "TimeWordsModel") (T := F_M) (N := 28) hx hb hw in_M hown hK hP 0 rfl rfl 1 (by decide) (hw _ fl_M_7) (fun _ h9 => h9) rfl d_M_core_84 ?_
            refine lv_iload_n hx hb d_M_core_87 rfl (lv_at hl 2 rfl) ?_
            refine va_iald hx hb hK hP 1 0 rfl rfl (by first | assumption | exact vp_in_nI (by omega) (by omega)) d_M_core_88 ?_
            rw [show (nI at9).toNatClampNeg = at9 from nI_clamp (by omega)]
            refine lv_bipush (v := 48) hx hb d_M_core_89 (by decide) ?_
            refine lv_isub hx hb d_M_core_91 ?_
            refine lv_imul hx hb d_M_core_92 ?_
            refine lv_aload_n hx hb d_M_core_93 rfl (lv_at hl 1 rfl) ?_
            refine va_get (D := D) (ci := 6) (v := .ref (a 1)) (C := "TimeWordsModel") (T := F_M) (N := 28) hx hb hw in_M hown hK hP 0 rfl rfl 1 (by decide) (hw _ fl_M_7) (fun _ h9 => h9) rfl d_M_core_94 ?_
            refine lv_iload_n hx hb d_M_core_97 rfl (lv_at hl 2 rfl) ?_
            refine lv_iconst (v := 1) hx hb d_M_core_98 (by decide) ?_
            refine lv_iadd hx hb d_M_core_99 ?_
            rw [nI_1]
            refine va_iald hx hb hK hP 1 0 rfl rfl (by first | assumption | exact vp_in_nI (by omega) (by omega)) d_M_core_100 ?_
            rw [show (nI (at9 + 1)).toNatClampNeg = (at9 + 1) from nI_clamp (by omega)]
            refine lv_iadd hx hb d_M_core_101 ?_
            refine lv_bipush (v := 48) hx hb d_M_core_102 (by decide) ?_
            refine lv_isub hx hb d_M_core_104 ?_
            refine lv_istore (lv' := [(5, .int (((10 * ((f1 at9) - 48)) + (f1 (at9 + 1))) - 48)), (4, .int (nI (pn - at9))), (0, .ref o), (1, .int (nI at9)), (2, .int pl), (3, .int dy)]) hx hb d_M_core_105 hl (by decide) rfl (fun ls hl => ?_)
            have hcv : ((10 * ((f1 at9) - 48)) + (f1 (at9 + 1))) - 48 = j_cv f1 pn at9 := by simp only [j_cv]; rw [if_neg (by omega)]
            rw [hcv] at hl
            change lv_has ls 6 [(5, .int (j_cv f1 pn at9)), (4, .int (nI (pn - at9))), (0, .ref o), (1, .int (nI at9)), (2, .int pl), (3, .int dy)] at hl
            refine lv_aload_n hx hb d_M_core_107 rfl (lv_at hl 2 rfl) ?_
            refine lv_bipush (v := 100) hx hb d_M_core_108 (by decide) ?_
            refine lv_iload hx hb d_M_core_110 (lv_at hl 0 rfl) ?_
            refine lv_iconst (v := 1) hx hb d_M_core_112 (by decide) ?_
            refine lv_isub hx hb d_M_core_113 ?_
            refine lv_imul hx hb d_M_core_114 ?_
            refine lv_iconst (v := 1) hx hb d_M_core_115 (by decide) ?_
            refine lv_iadd hx hb d_M_core_116 ?_
            refine lv_bipush (v := 100) hx hb d_M_core_117 (by decide) ?_
            refine lv_iload hx hb d_M_core_119 (lv_at hl 0 rfl) ?_
            refine lv_imul hx hb d_M_core_121 ?_
            refine g_callv (va_runV (As := [.int ((100 * ((j_cv f1 pn at9) - 1)) + 1), .int (100 * (j_cv f1 pn at9))]) (rest := []) ⟨hx, hb, hml, hown, hw⟩ (k_M_set l D T o a z0 (nI pn) (nI nn) z14 z18 z19 z20 z21 z24 z26 f1 f4 f5 f6 f7 f8 f9 f10 f11 f12 f13 f15 f16 f17 f22 f23 f25 f27 s.heap.size ((100 * ((j_cv f1 pn at9) - 1)) + 1) (100 * (j_cv f1 pn at9))) (cwV 2 hw (bg_V ml_M_141 wi_M_set wv_M_set wz_M wc_M_set) rfl rfl rfl (by decide +kernel) ⟨Nat.le_of_ble_eq_true rfl, Nat.le_of_ble_eq_true rfl⟩) ⟨qP_b, va_recv hK hP (ci := 6) (q0 := 0) rfl rfl, qP_p hP hK hD⟩ rfl rfl hl.1 rfl (lv_room (Nat.le_of_ble_eq_true rfl)) d_M_core_122 ⟨Nat.le_of_ble_eq_true rfl, Nat.le_of_ble_eq_true rfl⟩) hD hS hA (fun u9 H locs hr45 hP hD hS => ?_)
            obtain ⟨u46, u47, u48⟩ := u9
            dsimp only at hr45 hP hD
            obtain ⟨q0, q1, q2⟩ := hr45
            replace q0 := q0.symm; subst q0; replace q1 := q1.symm; subst q1; replace q2 := q2.symm; subst q2
            have hP : va_P D gC (mX T o a z0 (nI pn) (nI nn) z14 z18 ((100 * ((j_cv f1 pn at9) - 1)) + 1) (100 * (j_cv f1 pn at9)) 0 z24 z26 f1 f4 f5 f6 f7 f8 f9 f10 f11 f12 f13 f15 f16 f17 f22 f23 f25 f27) H := hP
            have hD : va_D A (mX T o a z0 (nI pn) (nI nn) z14 z18 ((100 * ((j_cv f1 pn at9) - 1)) + 1) (100 * (j_cv f1 pn at9)) 0 z24 z26 f1 f4 f5 f6 f7 f8 f9 f10 f11 f12 f13 f15 f16 f17 f22 f23 f25 f27) := hD
            refine lv_iload hx hb d_M_core_125 (lv_at hl 0 rfl) ?_
            refine lv_if_le (tgt := 134) hx hb d_M_core_127 (by decide) (fun c49 => ?_) (fun c49 => ?_)
            · refine lv_iconst (v := 0) hx hb d_M_core_134 (by decide) ?_
              exact W.zret (v := 0) hx hb hr rfl (fun t ht hW => ⟨⟨0, ((100 * ((j_cv f1 pn at9) - 1)) + 1, 100 * (j_cv f1 pn at9), 0), rfl, (Or.inl ⟨hce, by simp only [decide_eq_true c49]; rfl, rfl, rfl, rfl⟩), by rw [ht]; exact hP, va_K.moved hW.alike hK, hD⟩, hS.F ht⟩) hS.2.2 d_M_core_135
            · refine lv_iconst (v := 1) hx hb d_M_core_130 (by decide) ?_
              refine lv_goto (tgt := 135) hx hb d_M_core_131 (by decide) ?_
              exact W.zret (v := 1) hx hb hr rfl (fun t ht hW => ⟨⟨1, ((100 * ((j_cv f1 pn at9) - 1)) + 1, 100 * (j_cv f1 pn at9), 0), rfl, (Or.inl ⟨hce, by simp only [decide_eq_false c49]; rfl, rfl, rfl, rfl⟩), by rw [ht]; exact hP, va_K.moved hW.alike hK, hD⟩, hS.F ht⟩) hS.2.2 d_M_core_135
          · have c44 := nc_eq (a := pn - at9) (b := 2) c44 (by omega) (by omega)
            refine lv_aload_n hx hb d_M_core_69 rfl (lv_at hl 1 rfl) ?_
            refine va_get (D := D) (ci := 6) (v := .ref (a 1)) (C := "TimeWordsModel") (T := F_M) (N := 28) hx hb hw in_M hown hK hP 0 rfl rfl 1 (by decide) (hw _ fl_M_7) (fun _ h9 => h9) rfl d_M_core_70 ?_
            refine lv_iload_n hx hb d_M_core_73 rfl (lv_at hl 2 rfl) ?_
            refine va_iald hx hb hK hP 1 0 rfl rfl (by first | assumption | exact vp_in_nI (by omega) (by omega)) d_M_core_74 ?_
            rw [show (nI at9).toNatClampNeg = at9 from nI_clamp (by omega)]
            refine lv_bipush (v := 48) hx hb d_M_core_75 (by decide) ?_
            refine lv_isub hx hb d_M_core_77 ?_
            refine lv_goto (tgt := 105) hx hb d_M_core_78 (by decide) ?_
            refine lv_istore (lv' := [(5, .int ((f1 at9) - 48)), (4, .int (nI (pn - at9))), (0, .ref o), (1, .int (nI at9)), (2, .int pl), (3, .int dy)]) hx hb d_M_core_105 hl (by decide) rfl (fun ls hl => ?_)
            have hcv : (f1 at9) - 48 = j_cv f1 pn at9 := by simp only [j_cv]; rw [if_pos (by omega)]
            rw [hcv] at hl
            change lv_has ls 6 [(5, .int (j_cv f1 pn at9)), (4, .int (nI (pn - at9))), (0, .ref o), (1, .int (nI at9)), (2, .int pl), (3, .int dy)] at hl
            refine lv_aload_n hx hb d_M_core_107 rfl (lv_at hl 2 rfl) ?_
            refine lv_bipush (v := 100) hx hb d_M_core_108 (by decide) ?_
            refine lv_iload hx hb d_M_core_110 (lv_at hl 0 rfl) ?_
            refine lv_iconst (v := 1) hx hb d_M_core_112 (by decide) ?_
            refine lv_isub hx hb d_M_core_113 ?_
            refine lv_imul hx hb d_M_core_114 ?_
            refine lv_iconst (v := 1) hx hb d_M_core_115 (by decide) ?_
            refine lv_iadd hx hb d_M_core_116 ?_
            refine lv_bipush (v := 100) hx hb d_M_core_117 (by decide) ?_
            refine lv_iload hx hb d_M_core_119 (lv_at hl 0 rfl) ?_
            refine lv_imul hx hb d_M_core_121 ?_
            refine g_callv (va_runV (As := [.int ((100 * ((j_cv f1 pn at9) - 1)) + 1), .int (100 * (j_cv f1 pn at9))]) (rest := []) ⟨hx, hb, hml, hown, hw⟩ (k_M_set l D T o a z0 (nI pn) (nI nn) z14 z18 z19 z20 z21 z24 z26 f1 f4 f5 f6 f7 f8 f9 f10 f11 f12 f13 f15 f16 f17 f22 f23 f25 f27 s.heap.size ((100 * ((j_cv f1 pn at9) - 1)) + 1) (100 * (j_cv f1 pn at9))) (cwV 2 hw (bg_V ml_M_141 wi_M_set wv_M_set wz_M wc_M_set) rfl rfl rfl (by decide +kernel) ⟨Nat.le_of_ble_eq_true rfl, Nat.le_of_ble_eq_true rfl⟩) ⟨qP_b, va_recv hK hP (ci := 6) (q0 := 0) rfl rfl, qP_p hP hK hD⟩ rfl rfl hl.1 rfl (lv_room (Nat.le_of_ble_eq_true rfl)) d_M_core_122 ⟨Nat.le_of_ble_eq_true rfl, Nat.le_of_ble_eq_true rfl⟩) hD hS hA (fun u9 H locs hr50 hP hD hS => ?_)
            obtain ⟨u51, u52, u53⟩ := u9
            dsimp only at hr50 hP hD
            obtain ⟨q0, q1, q2⟩ := hr50
            replace q0 := q0.symm; subst q0; replace q1 := q1.symm; subst q1; replace q2 := q2.symm; subst q2
            have hP : va_P D gC (mX T o a z0 (nI pn) (nI nn) z14 z18 ((100 * ((j_cv f1 pn at9) - 1)) + 1) (100 * (j_cv f1 pn at9)) 0 z24 z26 f1 f4 f5 f6 f7 f8 f9 f10 f11 f12 f13 f15 f16 f17 f22 f23 f25 f27) H := hP
            have hD : va_D A (mX T o a z0 (nI pn) (nI nn) z14 z18 ((100 * ((j_cv f1 pn at9) - 1)) + 1) (100 * (j_cv f1 pn at9)) 0 z24 z26 f1 f4 f5 f6 f7 f8 f9 f10 f11 f12 f13 f15 f16 f17 f22 f23 f25 f27) := hD
            refine lv_iload hx hb d_M_core_125 (lv_at hl 0 rfl) ?_
            refine lv_if_le (tgt := 134) hx hb d_M_core_127 (by decide) (fun c54 => ?_) (fun c54 => ?_)
            · refine lv_iconst (v := 0) hx hb d_M_core_134 (by decide) ?_
              exact W.zret (v := 0) hx hb hr rfl (fun t ht hW => ⟨⟨0, ((100 * ((j_cv f1 pn at9) - 1)) + 1, 100 * (j_cv f1 pn at9), 0), rfl, (Or.inl ⟨hce, by simp only [decide_eq_true c54]; rfl, rfl, rfl, rfl⟩), by rw [ht]; exact hP, va_K.moved hW.alike hK, hD⟩, hS.F ht⟩) hS.2.2 d_M_core_135
            · refine lv_iconst (v := 1) hx hb d_M_core_130 (by decide) ?_
              refine lv_goto (tgt := 135) hx hb d_M_core_131 (by decide) ?_
              exact W.zret (v := 1) hx hb hr rfl (fun t ht hW => ⟨⟨1, ((100 * ((j_cv f1 pn at9) - 1)) + 1, 100 * (j_cv f1 pn at9), 0), rfl, (Or.inl ⟨hce, by simp only [decide_eq_false c54]; rfl, rfl, rfl, rfl⟩), by rw [ht]; exact hP, va_K.moved hW.alike hK, hD⟩, hS.F ht⟩) hS.2.2 d_M_core_135
