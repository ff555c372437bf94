set_option maxHeartbeats 4000000 in
set_option maxRecDepth 100000 in
theorem k_M_word (l : Launch) (D : va_G) (T : gT) (o : Nat) (a : Nat → Nat) (z0 z2 : Int32) (nn sn : Nat) (z18 z19 z20 z21 z24 z26 : Int32) (f1 f4 f5 f6 f7 f8 f9 f10 f11 f12 f13 f15 f16 f17 f22 f23 f25 f27 : Nat → Int32) (sz : Nat) (si ii : Int32) (ln ck : Nat → Nat) (hy0 : sn ≤ 60) (hy1 : nn ≤ 24) (hy2 : ∀ i, f5 i = nI (ln i)) (hy3 : ∀ i, ln i ≤ 8) (hy4 : ∀ i, i < nn → 1 ≤ ln i) (hy5 : ∀ i, f9 i = nI (ck i)) (hy6 : ∀ i, ck i ≤ 6) : Met l y_M_word (Cond.code y_M_word b_M_word 6 (some .int) :: bg_W) ({ frames := 4, cells := 0, slots := 0, locals := 93 }) (qP D T (mX T o a z0 z2 (nI nn) (nI sn) z18 z19 z20 z21 z24 z26 f1 f4 f5 f6 f7 f8 f9 f10 f11 f12 f13 f15 f16 f17 f22 f23 f25 f27) [.ref o, .int si, .int ii] sz) (va_Qi (fun (r : Int32) (u : Int32 × Int32 × Int32 × Int32 × (Nat → Int32) × Int32 × (Nat → Int32) × Int32) => match u with | (w0, w19, w20, w21, g23, w24, g25, w26) => (j_ix si (nI sn) = false ∧ r = 0 ∧ w0 = 1) ∨ (j_ix si (nI sn) = true ∧ ∃ j, j < sn ∧ si = nI j ∧ ((ii = -1 ∧ w0 = 0 ∧ r = (if (if f17 j = 3 then [] else j_wf (fun th c9 bl => j_try (j_ss z18 (j_kbo (f17 j)) (j_src z18 th (j_nv f6 f7 f8 f10 f11 f12 f13 ck 0 100000) c9) (f17 j) (f15 j) (f16 j)) (j_tx (j_kbo (f17 j)) th f4 ln c9) bl) (99 + nn)).length = 0 then -1 else nI (if f17 j = 3 then [] else j_wf (fun th c9 bl => j_try (j_ss z18 (j_kbo (f17 j)) (j_src z18 th (j_nv f6 f7 f8 f10 f11 f12 f13 ck 0 100000) c9) (f17 j) (f15 j) (f16 j)) (j_tx (j_kbo (f17 j)) th f4 ln c9) bl) (99 + nn)).length)) ∨ (¬ ii = -1 ∧ w0 = 0 ∧ ∃ k, ii = nI k ∧ (if f17 j = 3 then [] else j_wf (fun th c9 bl => j_try (j_ss z18 (j_kbo (f17 j)) (j_src z18 th (j_nv f6 f7 f8 f10 f11 f12 f13 ck 0 100000) c9) (f17 j) (f15 j) (f16 j)) (j_tx (j_kbo (f17 j)) th f4 ln c9) bl) (99 + nn))[k]? = some r) ∨ (¬ ii = -1 ∧ w0 = 1 ∧ r = 0 ∧ (∀ k, k < (if f17 j = 3 then [] else j_wf (fun th c9 bl => j_try (j_ss z18 (j_kbo (f17 j)) (j_src z18 th (j_nv f6 f7 f8 f10 f11 f12 f13 ck 0 100000) c9) (f17 j) (f15 j) (f16 j)) (j_tx (j_kbo (f17 j)) th f4 ln c9) bl) (99 + nn)).length → ¬ ii = nI k))))) (qB D T (va_A (mX T o a z0 z2 (nI nn) (nI sn) z18 z19 z20 z21 z24 z26 f1 f4 f5 f6 f7 f8 f9 f10 f11 f12 f13 f15 f16 f17 f22 f23 f25 f27) sz) (fun u : Int32 × Int32 × Int32 × Int32 × (Nat → Int32) × Int32 × (Nat → Int32) × Int32 => match u with | (w0, w19, w20, w21, g23, w24, g25, w26) => mX T o a w0 z2 (nI nn) (nI sn) z18 w19 w20 w21 w24 w26 f1 f4 f5 f6 f7 f8 f9 f10 f11 f12 f13 f15 f16 f17 f22 g23 g25 f27)) (va_A (mX T o a z0 z2 (nI nn) (nI sn) z18 z19 z20 z21 z24 z26 f1 f4 f5 f6 f7 f8 f9 f10 f11 f12 f13 f15 f16 f17 f22 f23 f25 f27) sz)) 0 0 (va_A (mX T o a z0 z2 (nI nn) (nI sn) z18 z19 z20 z21 z24 z26 f1 f4 f5 f6 f7 f8 f9 f10 f11 f12 f13 f15 f16 f17 f22 f23 f25 f27) sz) := by
  refine Met.ofW (cc := b_M_word) (maxL := 6) (ret := (some .int)) (by decide) rfl ?_
  intro p e s m args below meth c s₁ B hml hv
  obtain ⟨rfl, hsz, hP, hK, hD0⟩ := hv
  have hx := B.exec
  have hb := B.bytes
  have hr := B.returns
  have hw : ∀ w ∈ bg_W, w.before ([.ref o, .int si, .int ii] : List Value).toArray s = true := fun w h => atoms_spec (ws := (Cond.code y_M_word b_M_word 6 (some .int) :: bg_W)) B.pre w (List.mem_cons_of_mem _ h)
  have hown : s.vm.findClass "TimeWordsModel" = some m.cls := findClass_of_methodNamed B.named
  have hlocks := B.notSynchronized
  subst hsz
  have hD := hD0.self (sz := s.heap.size)
  generalize hAe : va_A (mX T o a z0 z2 (nI nn) (nI sn) z18 z19 z20 z21 z24 z26 f1 f4 f5 f6 f7 f8 f9 f10 f11 f12 f13 f15 f16 f17 f22 f23 f25 f27) s.heap.size = A at hD ⊢
  have hA : ∀ q : Nat, s.heap.size ≤ q → A q := fun q h => by rw [← hAe]; exact Or.inr h
  have hS : va_S A s.heap s.heap [] := va_S.rf
  have hl := lv_entry ([.ref o, .int si, .int ii]) (n := 6) (Nat.le_of_ble_eq_true rfl)
  rw [lg_entry_eq]
  generalize (lg_sl ([.ref o, .int si, .int ii]) ++ List.replicate (6 - (lg_sl ([.ref o, .int si, .int ii])).length) Slot.unset).toArray = ls at hl ⊢
  have hl : lv_has ls 6 [(0, .ref o), (1, .int si), (2, .int ii)] := hl
  refine lv_aload_n hx hb d_M_word_0 rfl (lv_at hl 0 rfl) ?_
  refine lv_iload_n hx hb d_M_word_1 rfl (lv_at hl 1 rfl) ?_
  refine vp_callSi (va_Run.run (va_runV (As := [.int si]) (rest := []) ⟨hx, hb, hml, hown, hw⟩ (k_M_isSpan l D T o a z0 z2 (nI nn) (nI sn) z18 z19 z20 z21 z24 z26 f1 f4 f5 f6 f7 f8 f9 f10 f11 f12 f13 f15 f16 f17 f22 f23 f25 f27 si) (cwV 1 hw (bg_V ml_M_164 wi_M_isSpan wv_M_isSpan wz_M wc_M_isSpan) rfl rfl rfl (by decide +kernel) ⟨Nat.le_of_ble_eq_true rfl, Nat.le_of_ble_eq_true rfl⟩) ⟨sP_b, va_recv hK hP (ci := 6) (q0 := 0) rfl rfl, sP_p hP hK⟩ rfl rfl hl.1 rfl (lv_room (Nat.le_of_ble_eq_true rfl)) d_M_word_2 ⟨Nat.le_of_ble_eq_true rfl, Nat.le_of_ble_eq_true rfl⟩)) (fun r1 hr1 => ?_)
  replace hr1 := hr1.symm; subst hr1
  refine lv_if_ne (tgt := 14) hx hb d_M_word_5 (by decide) (fun c2 => ?_) (fun c2 => ?_)
  · have c2 := b2i_t c2
    have hix := c2
    obtain ⟨jj, hjj, rfl⟩ := ix_of c2 (by omega)
    refine lv_aload_n hx hb d_M_word_14 rfl (lv_at hl 0 rfl) ?_
    refine lv_iconst (v := 0) hx hb d_M_word_15 (by decide) ?_
    refine va_put (D := D) (ci := 6) (v := .int 0) (ty := .int) (C := "TimeWordsModel") (T := F_M) (N := 28) hx hb hw in_M ty_M ty_M_ok n_M hown hK hP hD hS 0 rfl rfl 26 (by decide) (hw _ fl_M_187) (fun _ h9 => h9) rfl (by decide +kernel) rfl rfl (Nat.le_of_ble_eq_true rfl) d_M_word_16 (fun H locs hP hD hS => ?_)
    have hP : va_P D gC (mX T o a z0 z2 (nI nn) (nI sn) z18 z19 z20 z21 z24 0 f1 f4 f5 f6 f7 f8 f9 f10 f11 f12 f13 f15 f16 f17 f22 f23 f25 f27) H := hP
    have hD : va_D A (mX T o a z0 z2 (nI nn) (nI sn) z18 z19 z20 z21 z24 0 f1 f4 f5 f6 f7 f8 f9 f10 f11 f12 f13 f15 f16 f17 f22 f23 f25 f27) := hD
    refine lv_aload_n hx hb d_M_word_19 rfl (lv_at hl 0 rfl) ?_
    refine va_get (D := D) (ci := 6) (v := .ref (a 17)) (C := "TimeWordsModel") (T := F_M) (N := 28) hx hb hw in_M hown hK hP 0 rfl rfl 17 (by decide) (hw _ fl_M_50) (fun _ h9 => h9) rfl d_M_word_20 ?_
    refine lv_iload_n hx hb d_M_word_23 rfl (lv_at hl 1 rfl) ?_
    refine va_iald hx hb hK hP 14 0 rfl rfl (by first | assumption | exact vp_in_nI (by omega) (by omega)) d_M_word_24 ?_
    rw [show (nI jj).toNatClampNeg = jj from nI_clamp (by omega)]
    refine lv_iconst (v := 1) hx hb d_M_word_25 (by decide) ?_
    refine lv_icmp_ne (tgt := 33) hx hb d_M_word_26 (by decide) (fun c3 => ?_) (fun c3 => ?_)
    · refine lv_aload_n hx hb d_M_word_33 rfl (lv_at hl 0 rfl) ?_
      refine va_get (D := D) (ci := 6) (v := .ref (a 17)) (C := "TimeWordsModel") (T := F_M) (N := 28) hx hb hw in_M hown hK hP 0 rfl rfl 17 (by decide) (hw _ fl_M_50) (fun _ h9 => h9) rfl d_M_word_34 ?_
      refine lv_iload_n hx hb d_M_word_37 rfl (lv_at hl 1 rfl) ?_
      refine va_iald hx hb hK hP 14 0 rfl rfl (by first | assumption | exact vp_in_nI (by omega) (by omega)) d_M_word_38 ?_
      rw [show (nI jj).toNatClampNeg = jj from nI_clamp (by omega)]
      refine lv_iconst (v := 2) hx hb d_M_word_39 (by decide) ?_
      refine lv_icmp_ne (tgt := 47) hx hb d_M_word_40 (by decide) (fun c4 => ?_) (fun c4 => ?_)
      · refine lv_iconst (v := (-1)) hx hb d_M_word_47 (by decide) ?_
        refine lv_istore_n (lv' := [(3, .int (-1)), (0, .ref o), (1, .int (nI jj)), (2, .int ii)]) hx hb d_M_word_48 rfl hl (by decide) rfl (fun ls hl => ?_)
        refine lv_iconst (v := 1) hx hb d_M_word_49 (by decide) ?_
        refine lv_istore (lv' := [(4, .int 1), (3, .int (-1)), (0, .ref o), (1, .int (nI jj)), (2, .int ii)]) hx hb d_M_word_50 hl (by decide) rfl (fun ls hl => ?_)
        have hkb : j_kbo (f17 jj) = none := (by simp only [j_kbo, c2, if_neg c3, decide_eq_false c3, if_neg c4, decide_eq_false c4])
        obtain ⟨bl9, hblE⟩ : ∃ q9, (if f17 jj = 3 then [] else j_wf (fun th c9 bl => j_try (j_ss z18 (j_kbo (f17 jj)) (j_src z18 th (j_nv f6 f7 f8 f10 f11 f12 f13 ck 0 100000) c9) (f17 jj) (f15 jj) (f16 jj)) (j_tx (j_kbo (f17 jj)) th f4 ln c9) bl) (99 + nn)) = q9 := ⟨_, rfl⟩
        have hbl9 := hblE.symm
        rw [hkb] at hbl9
        rcases Classical.em (f17 jj = 3) with h39 | h39
        · rw [if_pos h39] at hbl9
          have hL9 : j_ls f25 0 = bl9 := by rw [hbl9]; rfl
          have hP : va_P D gC (mX T o a z0 z2 (nI nn) (nI sn) z18 z19 z20 z21 z24 (nI 0) f1 f4 f5 f6 f7 f8 f9 f10 f11 f12 f13 f15 f16 f17 f22 f23 f25 f27) H := hP
          have hD : va_D A (mX T o a z0 z2 (nI nn) (nI sn) z18 z19 z20 z21 z24 (nI 0) f1 f4 f5 f6 f7 f8 f9 f10 f11 f12 f13 f15 f16 f17 f22 f23 f25 f27) := hD
          refine lv_iload hx hb d_M_word_52 (lv_at hl 0 rfl) ?_
          refine lv_bipush (v := 100) hx hb d_M_word_54 (by decide) ?_
          refine lv_aload_n hx hb d_M_word_56 rfl (lv_at hl 2 rfl) ?_
          refine va_get (D := D) (ci := 6) (v := .int (nI nn)) (C := "TimeWordsModel") (T := F_M) (N := 28) hx hb hw in_M hown hK hP 0 rfl rfl 3 (by decide) (hw _ fl_M_76) (fun _ h9 => h9) rfl d_M_word_57 ?_
          refine lv_iadd hx hb d_M_word_60 ?_
          rw [show 100 + (nI nn) = nI (100 + nn) from nI_add 100 nn]
          refine lv_icmp_ge (tgt := 121) hx hb d_M_word_61 (by decide) (fun c5 => ?_) (fun c5 => ?_)
          · have c5 := nc_le (a := 100 + nn) (b := 1) c5 (by omega) (by omega)
            refine lv_aload_n hx hb d_M_word_121 rfl (lv_at hl 2 rfl) ?_
            refine lv_iload_n hx hb d_M_word_122 rfl (lv_at hl 4 rfl) ?_
            refine lv_iconst (v := (-1)) hx hb d_M_word_123 (by decide) ?_
            refine lv_icmp_eq (tgt := 141) hx hb d_M_word_124 (by decide) (fun c6 => ?_) (fun c6 => ?_)
            · subst c6
              refine lv_iconst (v := 0) hx hb d_M_word_141 (by decide) ?_
              refine lv_goto (tgt := 146) hx hb d_M_word_142 (by decide) ?_
              refine va_put (D := D) (ci := 6) (v := .int 0) (ty := .int) (C := "TimeWordsModel") (T := F_M) (N := 28) hx hb hw in_M ty_M ty_M_ok n_M hown hK hP hD hS 0 rfl rfl 0 (by decide) (hw _ fl_M_69) (fun _ h9 => h9) rfl (by decide +kernel) rfl rfl (Nat.le_of_ble_eq_true rfl) d_M_word_146 (fun H locs hP hD hS => ?_)
              have hP : va_P D gC (mX T o a 0 z2 (nI nn) (nI sn) z18 z19 z20 z21 z24 (nI 0) f1 f4 f5 f6 f7 f8 f9 f10 f11 f12 f13 f15 f16 f17 f22 f23 f25 f27) H := hP
              have hD : va_D A (mX T o a 0 z2 (nI nn) (nI sn) z18 z19 z20 z21 z24 (nI 0) f1 f4 f5 f6 f7 f8 f9 f10 f11 f12 f13 f15 f16 f17 f22 f23 f25 f27) := hD
              refine lv_aload_n hx hb d_M_word_149 rfl (lv_at hl 2 rfl) ?_
              refine va_get (D := D) (ci := 6) (v := .int 0) (C := "TimeWordsModel") (T := F_M) (N := 28) hx hb hw in_M hown hK hP 0 rfl rfl 0 (by decide) (hw _ fl_M_69) (fun _ h9 => h9) rfl d_M_word_150 ?_
              refine lv_if_le (tgt := 160) hx hb d_M_word_153 (by decide) (fun c7 => ?_) (fun c7 => absurd c7 (by decide))
              refine lv_iload_n hx hb d_M_word_160 rfl (lv_at hl 4 rfl) ?_
              refine lv_if_lt (tgt := 173) hx hb d_M_word_161 (by decide) (fun c8 => ?_) (fun c8 => absurd c8 (by decide))
              refine lv_aload_n hx hb d_M_word_173 rfl (lv_at hl 2 rfl) ?_
              refine va_get (D := D) (ci := 6) (v := .int (nI 0)) (C := "TimeWordsModel") (T := F_M) (N := 28) hx hb hw in_M hown hK hP 0 rfl rfl 26 (by decide) (hw _ fl_M_187) (fun _ h9 => h9) rfl d_M_word_174 ?_
              refine lv_if_ne (tgt := 184) hx hb d_M_word_177 (by decide) (fun c9 => absurd c9 (by decide)) (fun c9 => ?_)
              refine lv_iconst (v := (-1)) hx hb d_M_word_180 (by decide) ?_
              refine lv_goto (tgt := 188) hx hb d_M_word_181 (by decide) ?_
              exact W.iret (v := (-1)) hx hb hr (fun t ht hW => ⟨⟨(-1), (0, z19, z20, z21, f23, z24, f25, nI 0), rfl, (Or.inr ⟨hix, jj, hjj, rfl, Or.inl ⟨rfl, rfl, by rw [hblE, ← hL9, ls_len, if_pos (by omega)]⟩⟩), by rw [ht]; exact hP, va_K.moved hW.alike hK, hD⟩, hS.F ht⟩) hS.2.2 d_M_word_188
            · refine lv_iload_n hx hb d_M_word_127 rfl (lv_at hl 4 rfl) ?_
              refine lv_iconst (v := 0) hx hb d_M_word_128 (by decide) ?_
              refine lv_aload_n hx hb d_M_word_129 rfl (lv_at hl 2 rfl) ?_
              refine va_get (D := D) (ci := 6) (v := .int (nI 0)) (C := "TimeWordsModel") (T := F_M) (N := 28) hx hb hw in_M hown hK hP 0 rfl rfl 26 (by decide) (hw _ fl_M_187) (fun _ h9 => h9) rfl d_M_word_130 ?_
              refine lv_iconst (v := 1) hx hb d_M_word_133 (by decide) ?_
              refine lv_isub hx hb d_M_word_134 ?_
              refine vp_callSi (va_Run.run (va_runS (As := [.int ii, .int 0, .int ((nI 0) - 1)]) (rest := [.ref o]) ⟨hx, hb, hml, hown, hw⟩ (k_M_in l ii 0 ((nI 0) - 1)) (va_cwS 3 hw (bg_S ml_M_72 wt_M_in wz_M wc_M_in) rfl rfl rfl (by decide +kernel) ⟨Nat.le_of_ble_eq_true rfl, Nat.le_of_ble_eq_true rfl⟩) ⟨nP_b, nP_p⟩ rfl rfl hl.1 rfl (lv_room (Nat.le_of_ble_eq_true rfl)) d_M_word_135 ⟨Nat.le_of_ble_eq_true rfl, Nat.le_of_ble_eq_true rfl⟩)) (fun r10 hr10 => ?_)
              replace hr10 := hr10.symm; subst hr10
              refine lv_if_eq (tgt := 145) hx hb d_M_word_138 (by decide) (fun c11 => ?_) (fun c11 => ?_)
              · have c11 := b2i_f c11
                refine lv_iconst (v := 1) hx hb d_M_word_145 (by decide) ?_
                refine va_put (D := D) (ci := 6) (v := .int 1) (ty := .int) (C := "TimeWordsModel") (T := F_M) (N := 28) hx hb hw in_M ty_M ty_M_ok n_M hown hK hP hD hS 0 rfl rfl 0 (by decide) (hw _ fl_M_69) (fun _ h9 => h9) rfl (by decide +kernel) rfl rfl (Nat.le_of_ble_eq_true rfl) d_M_word_146 (fun H locs hP hD hS => ?_)
                have hP : va_P D gC (mX T o a 1 z2 (nI nn) (nI sn) z18 z19 z20 z21 z24 (nI 0) f1 f4 f5 f6 f7 f8 f9 f10 f11 f12 f13 f15 f16 f17 f22 f23 f25 f27) H := hP
                have hD : va_D A (mX T o a 1 z2 (nI nn) (nI sn) z18 z19 z20 z21 z24 (nI 0) f1 f4 f5 f6 f7 f8 f9 f10 f11 f12 f13 f15 f16 f17 f22 f23 f25 f27) := hD
                refine lv_aload_n hx hb d_M_word_149 rfl (lv_at hl 2 rfl) ?_
                refine va_get (D := D) (ci := 6) (v := .int 1) (C := "TimeWordsModel") (T := F_M) (N := 28) hx hb hw in_M hown hK hP 0 rfl rfl 0 (by decide) (hw _ fl_M_69) (fun _ h9 => h9) rfl d_M_word_150 ?_
                refine lv_if_le (tgt := 160) hx hb d_M_word_153 (by decide) (fun c12 => absurd c12 (by decide)) (fun c12 => ?_)
                refine lv_iconst (v := 0) hx hb d_M_word_156 (by decide) ?_
                refine lv_goto (tgt := 188) hx hb d_M_word_157 (by decide) ?_
                exact W.iret (v := 0) hx hb hr (fun t ht hW => ⟨⟨0, (1, z19, z20, z21, f23, z24, f25, nI 0), rfl, (Or.inr ⟨hix, jj, hjj, rfl, Or.inr (Or.inr ⟨by assumption, rfl, rfl, fun k hk hk2 => by rw [hblE, ← hL9, ls_len] at hk; rw [hk2, in_bin hk (by omega)] at c11; cases c11⟩)⟩), by rw [ht]; exact hP, va_K.moved hW.alike hK, hD⟩, hS.F ht⟩) hS.2.2 d_M_word_188
              · have c11 := b2i_t c11
                obtain ⟨kk, hkk, rfl⟩ := in_best (by omega) c11
                refine lv_iconst (v := 0) hx hb d_M_word_141 (by decide) ?_
                refine lv_goto (tgt := 146) hx hb d_M_word_142 (by decide) ?_
                refine va_put (D := D) (ci := 6) (v := .int 0) (ty := .int) (C := "TimeWordsModel") (T := F_M) (N := 28) hx hb hw in_M ty_M ty_M_ok n_M hown hK hP hD hS 0 rfl rfl 0 (by decide) (hw _ fl_M_69) (fun _ h9 => h9) rfl (by decide +kernel) rfl rfl (Nat.le_of_ble_eq_true rfl) d_M_word_146 (fun H locs hP hD hS => ?_)
                have hP : va_P D gC (mX T o a 0 z2 (nI nn) (nI sn) z18 z19 z20 z21 z24 (nI 0) f1 f4 f5 f6 f7 f8 f9 f10 f11 f12 f13 f15 f16 f17 f22 f23 f25 f27) H := hP
                have hD : va_D A (mX T o a 0 z2 (nI nn) (nI sn) z18 z19 z20 z21 z24 (nI 0) f1 f4 f5 f6 f7 f8 f9 f10 f11 f12 f13 f15 f16 f17 f22 f23 f25 f27) := hD
                refine lv_aload_n hx hb d_M_word_149 rfl (lv_at hl 2 rfl) ?_
                refine va_get (D := D) (ci := 6) (v := .int 0) (C := "TimeWordsModel") (T := F_M) (N := 28) hx hb hw in_M hown hK hP 0 rfl rfl 0 (by decide) (hw _ fl_M_69) (fun _ h9 => h9) rfl d_M_word_150 ?_
                refine lv_if_le (tgt := 160) hx hb d_M_word_153 (by decide) (fun c13 => ?_) (fun c13 => absurd c13 (by decide))
                refine lv_iload_n hx hb d_M_word_160 rfl (lv_at hl 4 rfl) ?_
                refine lv_if_lt (tgt := 173) hx hb d_M_word_161 (by decide) (fun c14 => absurd c14 (nI_pos (by omega))) (fun c14 => ?_)
                refine lv_aload_n hx hb d_M_word_164 rfl (lv_at hl 2 rfl) ?_
                refine va_get (D := D) (ci := 6) (v := .ref (a 25)) (C := "TimeWordsModel") (T := F_M) (N := 28) hx hb hw in_M hown hK hP 0 rfl rfl 25 (by decide) (hw _ fl_M_63) (fun _ h9 => h9) rfl d_M_word_165 ?_
                refine lv_iload_n hx hb d_M_word_168 rfl (lv_at hl 4 rfl) ?_
                refine va_iald hx hb hK hP 17 0 rfl rfl (by first | assumption | exact vp_in_nI (by omega) (by omega)) d_M_word_169 ?_
                rw [show (nI kk).toNatClampNeg = kk from nI_clamp (by omega)]
                refine lv_goto (tgt := 188) hx hb d_M_word_170 (by decide) ?_
                exact W.iret (v := f25 kk) hx hb hr (fun t ht hW => ⟨⟨f25 kk, (0, z19, z20, z21, f23, z24, f25, nI 0), rfl, (Or.inr ⟨hix, jj, hjj, rfl, Or.inr (Or.inl ⟨(fun e9 : nI kk = -1 => absurd (e9 ▸ nI_pos' (n := kk) (by omega)) (by decide)), rfl, kk, rfl, by rw [hblE, ← hL9]; exact ls_get hkk⟩)⟩), by rw [ht]; exact hP, va_K.moved hW.alike hK, hD⟩, hS.F ht⟩) hS.2.2 d_M_word_188
          · have c5 := nc_nle (a := 100 + nn) (b := 1) c5 (by omega) (by omega)
            refine lv_aload_n hx hb d_M_word_64 rfl (lv_at hl 2 rfl) ?_
            refine va_get (D := D) (ci := 6) (v := .ref (a 17)) (C := "TimeWordsModel") (T := F_M) (N := 28) hx hb hw in_M hown hK hP 0 rfl rfl 17 (by decide) (hw _ fl_M_50) (fun _ h9 => h9) rfl d_M_word_65 ?_
            refine lv_iload_n hx hb d_M_word_68 rfl (lv_at hl 3 rfl) ?_
            refine va_iald hx hb hK hP 14 0 rfl rfl (by first | assumption | exact vp_in_nI (by omega) (by omega)) d_M_word_69 ?_
            rw [show (nI jj).toNatClampNeg = jj from nI_clamp (by omega)]
            refine lv_iconst (v := 3) hx hb d_M_word_70 (by decide) ?_
            refine lv_icmp_eq (tgt := 121) hx hb d_M_word_71 (by decide) (fun c15 => ?_) (fun c15 => absurd (h39) c15)
            refine lv_aload_n hx hb d_M_word_121 rfl (lv_at hl 2 rfl) ?_
            refine lv_iload_n hx hb d_M_word_122 rfl (lv_at hl 4 rfl) ?_
            refine lv_iconst (v := (-1)) hx hb d_M_word_123 (by decide) ?_
            refine lv_icmp_eq (tgt := 141) hx hb d_M_word_124 (by decide) (fun c16 => ?_) (fun c16 => ?_)
            · subst c16
              refine lv_iconst (v := 0) hx hb d_M_word_141 (by decide) ?_
              refine lv_goto (tgt := 146) hx hb d_M_word_142 (by decide) ?_
              refine va_put (D := D) (ci := 6) (v := .int 0) (ty := .int) (C := "TimeWordsModel") (T := F_M) (N := 28) hx hb hw in_M ty_M ty_M_ok n_M hown hK hP hD hS 0 rfl rfl 0 (by decide) (hw _ fl_M_69) (fun _ h9 => h9) rfl (by decide +kernel) rfl rfl (Nat.le_of_ble_eq_true rfl) d_M_word_146 (fun H locs hP hD hS => ?_)
              have hP : va_P D gC (mX T o a 0 z2 (nI nn) (nI sn) z18 z19 z20 z21 z24 (nI 0) f1 f4 f5 f6 f7 f8 f9 f10 f11 f12 f13 f15 f16 f17 f22 f23 f25 f27) H := hP
              have hD : va_D A (mX T o a 0 z2 (nI nn) (nI sn) z18 z19 z20 z21 z24 (nI 0) f1 f4 f5 f6 f7 f8 f9 f10 f11 f12 f13 f15 f16 f17 f22 f23 f25 f27) := hD
              refine lv_aload_n hx hb d_M_word_149 rfl (lv_at hl 2 rfl) ?_
              refine va_get (D := D) (ci := 6) (v := .int 0) (C := "TimeWordsModel") (T := F_M) (N := 28) hx hb hw in_M hown hK hP 0 rfl rfl 0 (by decide) (hw _ fl_M_69) (fun _ h9 => h9) rfl d_M_word_150 ?_
              refine lv_if_le (tgt := 160) hx hb d_M_word_153 (by decide) (fun c17 => ?_) (fun c17 => absurd c17 (by decide))
              refine lv_iload_n hx hb d_M_word_160 rfl (lv_at hl 4 rfl) ?_
              refine lv_if_lt (tgt := 173) hx hb d_M_word_161 (by decide) (fun c18 => ?_) (fun c18 => absurd c18 (by decide))
              refine lv_aload_n hx hb d_M_word_173 rfl (lv_at hl 2 rfl) ?_
              refine va_get (D := D) (ci := 6) (v := .int (nI 0)) (C := "TimeWordsModel") (T := F_M) (N := 28) hx hb hw in_M hown hK hP 0 rfl rfl 26 (by decide) (hw _ fl_M_187) (fun _ h9 => h9) rfl d_M_word_174 ?_
              refine lv_if_ne (tgt := 184) hx hb d_M_word_177 (by decide) (fun c19 => absurd c19 (by decide)) (fun c19 => ?_)
              refine lv_iconst (v := (-1)) hx hb d_M_word_180 (by decide) ?_
              refine lv_goto (tgt := 188) hx hb d_M_word_181 (by decide) ?_
              exact W.iret (v := (-1)) hx hb hr (fun t ht hW => ⟨⟨(-1), (0, z19, z20, z21, f23, z24, f25, nI 0), rfl, (Or.inr ⟨hix, jj, hjj, rfl, Or.inl ⟨rfl, rfl, by rw [hblE, ← hL9, ls_len, if_pos (by omega)]⟩⟩), by rw [ht]; exact hP, va_K.moved hW.alike hK, hD⟩, hS.F ht⟩) hS.2.2 d_M_word_188
            · refine lv_iload_n hx hb d_M_word_127 rfl (lv_at hl 4 rfl) ?_
              refine lv_iconst (v := 0) hx hb d_M_word_128 (by decide) ?_
              refine lv_aload_n hx hb d_M_word_129 rfl (lv_at hl 2 rfl) ?_
              refine va_get (D := D) (ci := 6) (v := .int (nI 0)) (C := "TimeWordsModel") (T := F_M) (N := 28) hx hb hw in_M hown hK hP 0 rfl rfl 26 (by decide) (hw _ fl_M_187) (fun _ h9 => h9) rfl d_M_word_130 ?_
              refine lv_iconst (v := 1) hx hb d_M_word_133 (by decide) ?_
              refine lv_isub hx hb d_M_word_134 ?_
              refine vp_callSi (va_Run.run (va_runS (As := [.int ii, .int 0, .int ((nI 0) - 1)]) (rest := [.ref o]) ⟨hx, hb, hml, hown, hw⟩ (k_M_in l ii 0 ((nI 0) - 1)) (va_cwS 3 hw (bg_S ml_M_72 wt_M_in wz_M wc_M_in) rfl rfl rfl (by decide +kernel) ⟨Nat.le_of_ble_eq_true rfl, Nat.le_of_ble_eq_true rfl⟩) ⟨nP_b, nP_p⟩ rfl rfl hl.1 rfl (lv_room (Nat.le_of_ble_eq_true rfl)) d_M_word_135 ⟨Nat.le_of_ble_eq_true rfl, Nat.le_of_ble_eq_true rfl⟩)) (fun r20 hr20 => ?_)
              replace hr20 := hr20.symm; subst hr20
              refine lv_if_eq (tgt := 145) hx hb d_M_word_138 (by decide) (fun c21 => ?_) (fun c21 => ?_)
              · have c21 := b2i_f c21
                refine lv_iconst (v := 1) hx hb d_M_word_145 (by decide) ?_
                refine va_put (D := D) (ci := 6) (v := .int 1) (ty := .int) (C := "TimeWordsModel") (T := F_M) (N := 28) hx hb hw in_M ty_M ty_M_ok n_M hown hK hP hD hS 0 rfl rfl 0 (by decide) (hw _ fl_M_69) (fun _ h9 => h9) rfl (by decide +kernel) rfl rfl (Nat.le_of_ble_eq_true rfl) d_M_word_146 (fun H locs hP hD hS => ?_)
                have hP : va_P D gC (mX T o a 1 z2 (nI nn) (nI sn) z18 z19 z20 z21 z24 (nI 0) f1 f4 f5 f6 f7 f8 f9 f10 f11 f12 f13 f15 f16 f17 f22 f23 f25 f27) H := hP
                have hD : va_D A (mX T o a 1 z2 (nI nn) (nI sn) z18 z19 z20 z21 z24 (nI 0) f1 f4 f5 f6 f7 f8 f9 f10 f11 f12 f13 f15 f16 f17 f22 f23 f25 f27) := hD
                refine lv_aload_n hx hb d_M_word_149 rfl (lv_at hl 2 rfl) ?_
                refine va_get (D := D) (ci := 6) (v := .int 1) (C := "TimeWordsModel") (T := F_M) (N := 28) hx hb hw in_M hown hK hP 0 rfl rfl 0 (by decide) (hw _ fl_M_69) (fun _ h9 => h9) rfl d_M_word_150 ?_
                refine lv_if_le (tgt := 160) hx hb d_M_word_153 (by decide) (fun c22 => absurd c22 (by decide)) (fun c22 => ?_)
                refine lv_iconst (v := 0) hx hb d_M_word_156 (by decide) ?_
                refine lv_goto (tgt := 188) hx hb d_M_word_157 (by decide) ?_
                exact W.iret (v := 0) hx hb hr (fun t ht hW => ⟨⟨0, (1, z19, z20, z21, f23, z24, f25, nI 0), rfl, (Or.inr ⟨hix, jj, hjj, rfl, Or.inr (Or.inr ⟨by assumption, rfl, rfl, fun k hk hk2 => by rw [hblE, ← hL9, ls_len] at hk; rw [hk2, in_bin hk (by omega)] at c21; cases c21⟩)⟩), by rw [ht]; exact hP, va_K.moved hW.alike hK, hD⟩, hS.F ht⟩) hS.2.2 d_M_word_188
              · have c21 := b2i_t c21
                obtain ⟨kk, hkk, rfl⟩ := in_best (by omega) c21
                refine lv_iconst (v := 0) hx hb d_M_word_141 (by decide) ?_
                refine lv_goto (tgt := 146) hx hb d_M_word_142 (by decide) ?_
                refine va_put (D := D) (ci := 6) (v := .int 0) (ty := .int) (C := "TimeWordsModel") (T := F_M) (N := 28) hx hb hw in_M ty_M ty_M_ok n_M hown hK hP hD hS 0 rfl rfl 0 (by decide) (hw _ fl_M_69) (fun _ h9 => h9) rfl (by decide +kernel) rfl rfl (Nat.le_of_ble_eq_true rfl) d_M_word_146 (fun H locs hP hD hS => ?_)
                have hP : va_P D gC (mX T o a 0 z2 (nI nn) (nI sn) z18 z19 z20 z21 z24 (nI 0) f1 f4 f5 f6 f7 f8 f9 f10 f11 f12 f13 f15 f16 f17 f22 f23 f25 f27) H := hP
                have hD : va_D A (mX T o a 0 z2 (nI nn) (nI sn) z18 z19 z20 z21 z24 (nI 0) f1 f4 f5 f6 f7 f8 f9 f10 f11 f12 f13 f15 f16 f17 f22 f23 f25 f27) := hD
                refine lv_aload_n hx hb d_M_word_149 rfl (lv_at hl 2 rfl) ?_
                refine va_get (D := D) (ci := 6) (v := .int 0) (C := "TimeWordsModel") (T := F_M) (N := 28) hx hb hw in_M hown hK hP 0 rfl rfl 0 (by decide) (hw _ fl_M_69) (fun _ h9 => h9) rfl d_M_word_150 ?_
                refine lv_if_le (tgt := 160) hx hb d_M_word_153 (by decide) (fun c23 => ?_) (fun c23 => absurd c23 (by decide))
                refine lv_iload_n hx hb d_M_word_160 rfl (lv_at hl 4 rfl) ?_
                refine lv_if_lt (tgt := 173) hx hb d_M_word_161 (by decide) (fun c24 => absurd c24 (nI_pos (by omega))) (fun c24 => ?_)
                refine lv_aload_n hx hb d_M_word_164 rfl (lv_at hl 2 rfl) ?_
                refine va_get (D := D) (ci := 6) (v := .ref (a 25)) (C := "TimeWordsModel") (T := F_M) (N := 28) hx hb hw in_M hown hK hP 0 rfl rfl 25 (by decide) (hw _ fl_M_63) (fun _ h9 => h9) rfl d_M_word_165 ?_
                refine lv_iload_n hx hb d_M_word_168 rfl (lv_at hl 4 rfl) ?_
                refine va_iald hx hb hK hP 17 0 rfl rfl (by first | assumption | exact vp_in_nI (by omega) (by omega)) d_M_word_169 ?_
                rw [show (nI kk).toNatClampNeg = kk from nI_clamp (by omega)]
                refine lv_goto (tgt := 188) hx hb d_M_word_170 (by decide) ?_
                exact W.iret (v := f25 kk) hx hb hr (fun t ht hW => ⟨⟨f25 kk, (0, z19, z20, z21, f23, z24, f25, nI 0), rfl, (Or.inr ⟨hix, jj, hjj, rfl, Or.inr (Or.inl ⟨(fun e9 : nI kk = -1 => absurd (e9 ▸ nI_pos' (n := kk) (by omega)) (by decide)), rfl, kk, rfl, by rw [hblE, ← hL9]; exact ls_get hkk⟩)⟩), by rw [ht]; exact hP, va_K.moved hW.alike hK, hD⟩, hS.F ht⟩) hS.2.2 d_M_word_188
        · rw [if_neg h39] at hbl9
          obtain ⟨tr, htr⟩ : ∃ q9, q9 = (fun th c9 bl => j_try (j_ss z18 none (j_src z18 th (j_nv f6 f7 f8 f10 f11 f12 f13 ck 0 100000) c9) (f17 jj) (f15 jj) (f16 jj)) (j_tx none th f4 ln c9) bl) := ⟨_, rfl⟩
          rw [← htr] at hbl9
          have loop : ∀ (n : Nat) (cq bn9 : Nat) (y19 y20 y21 y24 : Int32) (g23 g25 : Nat → Int32), (cq ≤ 99 + nn) → (bn9 ≤ 24) → (j_ls g25 bn9 = j_wf tr cq) → ∀ (H : Heap) (locs : List Loc), va_P D gC (mX T o a z0 z2 (nI nn) (nI sn) z18 y19 y20 y21 y24 (nI bn9) f1 f4 f5 f6 f7 f8 f9 f10 f11 f12 f13 f15 f16 f17 f22 g23 g25 f27) H → va_D A (mX T o a z0 z2 (nI nn) (nI sn) z18 y19 y20 y21 y24 (nI bn9) f1 f4 f5 f6 f7 f8 f9 f10 f11 f12 f13 f15 f16 f17 f22 g23 g25 f27) → va_S A s.heap H locs → ∀ (ls : Array Slot), lv_has ls 6 [(0, .ref o), (1, .int (nI jj)), (2, .int ii), (3, .int (-1)), (4, .int (nI (cq + 1)))] → 99 + nn - cq < n → W p l e (headSpec (Cond.code y_M_word b_M_word 6 (some .int) :: bg_W) ({ frames := 4, cells := 0, slots := 0, locals := 93 })).room s m ([.ref o, .int (nI jj), .int ii] : List Value).toArray below meth c H locs 0 0 (MQ below (va_Qi (fun (r : Int32) (u : Int32 × Int32 × Int32 × Int32 × (Nat → Int32) × Int32 × (Nat → Int32) × Int32) => match u with | (w0, w19, w20, w21, g23, w24, g25, w26) => (j_ix (nI jj) (nI sn) = false ∧ r = 0 ∧ w0 = 1) ∨ (j_ix (nI jj) (nI sn) = true ∧ ∃ j, j < sn ∧ (nI jj) = nI j ∧ ((ii = -1 ∧ w0 = 0 ∧ r = (if (if f17 j = 3 then [] else j_wf (fun th c9 bl => j_try (j_ss z18 (j_kbo (f17 j)) (j_src z18 th (j_nv f6 f7 f8 f10 f11 f12 f13 ck 0 100000) c9) (f17 j) (f15 j) (f16 j)) (j_tx (j_kbo (f17 j)) th f4 ln c9) bl) (99 + nn)).length = 0 then -1 else nI (if f17 j = 3 then [] else j_wf (fun th c9 bl => j_try (j_ss z18 (j_kbo (f17 j)) (j_src z18 th (j_nv f6 f7 f8 f10 f11 f12 f13 ck 0 100000) c9) (f17 j) (f15 j) (f16 j)) (j_tx (j_kbo (f17 j)) th f4 ln c9) bl) (99 + nn)).length)) ∨ (¬ ii = -1 ∧ w0 = 0 ∧ ∃ k, ii = nI k ∧ (if f17 j = 3 then [] else j_wf (fun th c9 bl => j_try (j_ss z18 (j_kbo (f17 j)) (j_src z18 th (j_nv f6 f7 f8 f10 f11 f12 f13 ck 0 100000) c9) (f17 j) (f15 j) (f16 j)) (j_tx (j_kbo (f17 j)) th f4 ln c9) bl) (99 + nn))[k]? = some r) ∨ (¬ ii = -1 ∧ w0 = 1 ∧ r = 0 ∧ (∀ k, k < (if f17 j = 3 then [] else j_wf (fun th c9 bl => j_try (j_ss z18 (j_kbo (f17 j)) (j_src z18 th (j_nv f6 f7 f8 f10 f11 f12 f13 ck 0 100000) c9) (f17 j) (f15 j) (f16 j)) (j_tx (j_kbo (f17 j)) th f4 ln c9) bl) (99 + nn)).length → ¬ ii = nI k))))) (qB D T A (fun u : Int32 × Int32 × Int32 × Int32 × (Nat → Int32) × Int32 × (Nat → Int32) × Int32 => match u with | (w0, w19, w20, w21, g23, w24, g25, w26) => mX T o a w0 z2 (nI nn) (nI sn) z18 w19 w20 w21 w24 w26 f1 f4 f5 f6 f7 f8 f9 f10 f11 f12 f13 f15 f16 f17 f22 g23 g25 f27)) A) ([.ref o, .int (nI jj), .int ii] : List Value).toArray s 0 0 A) (F0 m 52 ls []) := by
            intro n
            induction n with
            | zero => intro cq bn9 y19 y20 y21 y24 g23 g25 hc hbn9 hL H locs hP hD hS ls hl hm; exact absurd hm (Nat.not_lt_zero _)
            | succ n ih =>
              intro cq bn9 y19 y20 y21 y24 g23 g25 hc hbn9 hL H locs hP hD hS ls hl hm
              refine lv_iload hx hb d_M_word_52 (lv_at hl 4 rfl) ?_
              refine lv_bipush (v := 100) hx hb d_M_word_54 (by decide) ?_
              refine lv_aload_n hx hb d_M_word_56 rfl (lv_at hl 0 rfl) ?_
              refine va_get (D := D) (ci := 6) (v := .int (nI nn)) (C := "TimeWordsModel") (T := F_M) (N := 28) hx hb hw in_M hown hK hP 0 rfl rfl 3 (by decide) (hw _ fl_M_76) (fun _ h9 => h9) rfl d_M_word_57 ?_
              refine lv_iadd hx hb d_M_word_60 ?_
              rw [show 100 + (nI nn) = nI (100 + nn) from nI_add 100 nn]
              refine lv_icmp_ge (tgt := 121) hx hb d_M_word_61 (by decide) (fun c25 => ?_) (fun c25 => ?_)
              · have c25 := nc_le (a := 100 + nn) (b := cq + 1) c25 (by omega) (by omega)
                have hc9 : cq = 99 + nn := by omega
                have hL9 : j_ls g25 bn9 = bl9 := by rw [hbl9, ← hc9]; exact hL
                refine lv_aload_n hx hb d_M_word_121 rfl (lv_at hl 0 rfl) ?_
                refine lv_iload_n hx hb d_M_word_122 rfl (lv_at hl 2 rfl) ?_
                refine lv_iconst (v := (-1)) hx hb d_M_word_123 (by decide) ?_
                refine lv_icmp_eq (tgt := 141) hx hb d_M_word_124 (by decide) (fun c26 => ?_) (fun c26 => ?_)
                · subst c26
                  refine lv_iconst (v := 0) hx hb d_M_word_141 (by decide) ?_
                  refine lv_goto (tgt := 146) hx hb d_M_word_142 (by decide) ?_
                  refine va_put (D := D) (ci := 6) (v := .int 0) (ty := .int) (C := "TimeWordsModel") (T := F_M) (N := 28) hx hb hw in_M ty_M ty_M_ok n_M hown hK hP hD hS 0 rfl rfl 0 (by decide) (hw _ fl_M_69) (fun _ h9 => h9) rfl (by decide +kernel) rfl rfl (Nat.le_of_ble_eq_true rfl) d_M_word_146 (fun H locs hP hD hS => ?_)
                  have hP : va_P D gC (mX T o a 0 z2 (nI nn) (nI sn) z18 y19 y20 y21 y24 (nI bn9) f1 f4 f5 f6 f7 f8 f9 f10 f11 f12 f13 f15 f16 f17 f22 g23 g25 f27) H := hP
                  have hD : va_D A (mX T o a 0 z2 (nI nn) (nI sn) z18 y19 y20 y21 y24 (nI bn9) f1 f4 f5 f6 f7 f8 f9 f10 f11 f12 f13 f15 f16 f17 f22 g23 g25 f27) := hD
                  refine lv_aload_n hx hb d_M_word_149 rfl (lv_at hl 0 rfl) ?_
                  refine va_get (D := D) (ci := 6) (v := .int 0) (C := "TimeWordsModel") (T := F_M) (N := 28) hx hb hw in_M hown hK hP 0 rfl rfl 0 (by decide) (hw _ fl_M_69) (fun _ h9 => h9) rfl d_M_word_150 ?_
                  refine lv_if_le (tgt := 160) hx hb d_M_word_153 (by decide) (fun c27 => ?_) (fun c27 => absurd c27 (by decide))
                  refine lv_iload_n hx hb d_M_word_160 rfl (lv_at hl 2 rfl) ?_
                  refine lv_if_lt (tgt := 173) hx hb d_M_word_161 (by decide) (fun c28 => ?_) (fun c28 => absurd c28 (by decide))
                  refine lv_aload_n hx hb d_M_word_173 rfl (lv_at hl 0 rfl) ?_
                  refine va_get (D := D) (ci := 6) (v := .int (nI bn9)) (C := "TimeWordsModel") (T := F_M) (N := 28) hx hb hw in_M hown hK hP 0 rfl rfl 26 (by decide) (hw _ fl_M_187) (fun _ h9 => h9) rfl d_M_word_174 ?_
                  refine lv_if_ne (tgt := 184) hx hb d_M_word_177 (by decide) (fun c29 => ?_) (fun c29 => ?_)
                  · have c29 := nc_ne (a := bn9) (b := 0) c29 (by omega) (by omega)
                    refine lv_aload_n hx hb d_M_word_184 rfl (lv_at hl 0 rfl) ?_
                    refine va_get (D := D) (ci := 6) (v := .int (nI bn9)) (C := "TimeWordsModel") (T := F_M) (N := 28) hx hb hw in_M hown hK hP 0 rfl rfl 26 (by decide) (hw _ fl_M_187) (fun _ h9 => h9) rfl d_M_word_185 ?_
                    exact W.iret (v := nI bn9) hx hb hr (fun t ht hW => ⟨⟨nI bn9, (0, y19, y20, y21, g23, y24, g25, nI bn9), rfl, (Or.inr ⟨hix, jj, hjj, rfl, Or.inl ⟨rfl, rfl, by rw [hblE, ← hL9, ls_len, if_neg (by omega)]⟩⟩), by rw [ht]; exact hP, va_K.moved hW.alike hK, hD⟩, hS.F ht⟩) hS.2.2 d_M_word_188
                  · have c29 := nc_eq (a := bn9) (b := 0) c29 (by omega) (by omega)
                    refine lv_iconst (v := (-1)) hx hb d_M_word_180 (by decide) ?_
                    refine lv_goto (tgt := 188) hx hb d_M_word_181 (by decide) ?_
                    exact W.iret (v := (-1)) hx hb hr (fun t ht hW => ⟨⟨(-1), (0, y19, y20, y21, g23, y24, g25, nI bn9), rfl, (Or.inr ⟨hix, jj, hjj, rfl, Or.inl ⟨rfl, rfl, by rw [hblE, ← hL9, ls_len, if_pos (by omega)]⟩⟩), by rw [ht]; exact hP, va_K.moved hW.alike hK, hD⟩, hS.F ht⟩) hS.2.2 d_M_word_188
                · refine lv_iload_n hx hb d_M_word_127 rfl (lv_at hl 2 rfl) ?_
                  refine lv_iconst (v := 0) hx hb d_M_word_128 (by decide) ?_
                  refine lv_aload_n hx hb d_M_word_129 rfl (lv_at hl 0 rfl) ?_
                  refine va_get (D := D) (ci := 6) (v := .int (nI bn9)) (C := "TimeWordsModel") (T := F_M) (N := 28) hx hb hw in_M hown hK hP 0 rfl rfl 26 (by decide) (hw _ fl_M_187) (fun _ h9 => h9) rfl d_M_word_130 ?_
                  refine lv_iconst (v := 1) hx hb d_M_word_133 (by decide) ?_
                  refine lv_isub hx hb d_M_word_134 ?_
                  refine vp_callSi (va_Run.run (va_runS (As := [.int ii, .int 0, .int ((nI bn9) - 1)]) (rest := [.ref o]) ⟨hx, hb, hml, hown, hw⟩ (k_M_in l ii 0 ((nI bn9) - 1)) (va_cwS 3 hw (bg_S ml_M_72 wt_M_in wz_M wc_M_in) rfl rfl rfl (by decide +kernel) ⟨Nat.le_of_ble_eq_true rfl, Nat.le_of_ble_eq_true rfl⟩) ⟨nP_b, nP_p⟩ rfl rfl hl.1 rfl (lv_room (Nat.le_of_ble_eq_true rfl)) d_M_word_135 ⟨Nat.le_of_ble_eq_true rfl, Nat.le_of_ble_eq_true rfl⟩)) (fun r30 hr30 => ?_)
                  replace hr30 := hr30.symm; subst hr30
                  refine lv_if_eq (tgt := 145) hx hb d_M_word_138 (by decide) (fun c31 => ?_) (fun c31 => ?_)
                  · have c31 := b2i_f c31
                    refine lv_iconst (v := 1) hx hb d_M_word_145 (by decide) ?_
                    refine va_put (D := D) (ci := 6) (v := .int 1) (ty := .int) (C := "TimeWordsModel") (T := F_M) (N := 28) hx hb hw in_M ty_M ty_M_ok n_M hown hK hP hD hS 0 rfl rfl 0 (by decide) (hw _ fl_M_69) (fun _ h9 => h9) rfl (by decide +kernel) rfl rfl (Nat.le_of_ble_eq_true rfl) d_M_word_146 (fun H locs hP hD hS => ?_)
                    have hP : va_P D gC (mX T o a 1 z2 (nI nn) (nI sn) z18 y19 y20 y21 y24 (nI bn9) f1 f4 f5 f6 f7 f8 f9 f10 f11 f12 f13 f15 f16 f17 f22 g23 g25 f27) H := hP
                    have hD : va_D A (mX T o a 1 z2 (nI nn) (nI sn) z18 y19 y20 y21 y24 (nI bn9) f1 f4 f5 f6 f7 f8 f9 f10 f11 f12 f13 f15 f16 f17 f22 g23 g25 f27) := hD
                    refine lv_aload_n hx hb d_M_word_149 rfl (lv_at hl 0 rfl) ?_
                    refine va_get (D := D) (ci := 6) (v := .int 1) (C := "TimeWordsModel") (T := F_M) (N := 28) hx hb hw in_M hown hK hP 0 rfl rfl 0 (by decide) (hw _ fl_M_69) (fun _ h9 => h9) rfl d_M_word_150 ?_
                    refine lv_if_le (tgt := 160) hx hb d_M_word_153 (by decide) (fun c32 => absurd c32 (by decide)) (fun c32 => ?_)
                    refine lv_iconst (v := 0) hx hb d_M_word_156 (by decide) ?_
                    refine lv_goto (tgt := 188) hx hb d_M_word_157 (by decide) ?_
                    exact W.iret (v := 0) hx hb hr (fun t ht hW => ⟨⟨0, (1, y19, y20, y21, g23, y24, g25, nI bn9), rfl, (Or.inr ⟨hix, jj, hjj, rfl, Or.inr (Or.inr ⟨by assumption, rfl, rfl, fun k hk hk2 => by rw [hblE, ← hL9, ls_len] at hk; rw [hk2, in_bin hk (by omega)] at c31; cases c31⟩)⟩), by rw [ht]; exact hP, va_K.moved hW.alike hK, hD⟩, hS.F ht⟩) hS.2.2 d_M_word_188
                  · have c31 := b2i_t c31
                    obtain ⟨kk, hkk, rfl⟩ := in_best (by omega) c31
                    refine lv_iconst (v := 0) hx hb d_M_word_141 (by decide) ?_
                    refine lv_goto (tgt := 146) hx hb d_M_word_142 (by decide) ?_
                    refine va_put (D := D) (ci := 6) (v := .int 0) (ty := .int) (C := "TimeWordsModel") (T := F_M) (N := 28) hx hb hw in_M ty_M ty_M_ok n_M hown hK hP hD hS 0 rfl rfl 0 (by decide) (hw _ fl_M_69) (fun _ h9 => h9) rfl (by decide +kernel) rfl rfl (Nat.le_of_ble_eq_true rfl) d_M_word_146 (fun H locs hP hD hS => ?_)
                    have hP : va_P D gC (mX T o a 0 z2 (nI nn) (nI sn) z18 y19 y20 y21 y24 (nI bn9) f1 f4 f5 f6 f7 f8 f9 f10 f11 f12 f13 f15 f16 f17 f22 g23 g25 f27) H := hP
                    have hD : va_D A (mX T o a 0 z2 (nI nn) (nI sn) z18 y19 y20 y21 y24 (nI bn9) f1 f4 f5 f6 f7 f8 f9 f10 f11 f12 f13 f15 f16 f17 f22 g23 g25 f27) := hD
                    refine lv_aload_n hx hb d_M_word_149 rfl (lv_at hl 0 rfl) ?_
                    refine va_get (D := D) (ci := 6) (v := .int 0) (C := "TimeWordsModel") (T := F_M) (N := 28) hx hb hw in_M hown hK hP 0 rfl rfl 0 (by decide) (hw _ fl_M_69) (fun _ h9 => h9) rfl d_M_word_150 ?_
                    refine lv_if_le (tgt := 160) hx hb d_M_word_153 (by decide) (fun c33 => ?_) (fun c33 => absurd c33 (by decide))
                    refine lv_iload_n hx hb d_M_word_160 rfl (lv_at hl 2 rfl) ?_
                    refine lv_if_lt (tgt := 173) hx hb d_M_word_161 (by decide) (fun c34 => absurd c34 (nI_pos (by omega))) (fun c34 => ?_)
                    refine lv_aload_n hx hb d_M_word_164 rfl (lv_at hl 0 rfl) ?_
                    refine va_get (D := D) (ci := 6) (v := .ref (a 25)) (C := "TimeWordsModel") (T := F_M) (N := 28) hx hb hw in_M hown hK hP 0 rfl rfl 25 (by decide) (hw _ fl_M_63) (fun _ h9 => h9) rfl d_M_word_165 ?_
                    refine lv_iload_n hx hb d_M_word_168 rfl (lv_at hl 2 rfl) ?_
                    refine va_iald hx hb hK hP 17 0 rfl rfl (by first | assumption | exact vp_in_nI (by omega) (by omega)) d_M_word_169 ?_
                    rw [show (nI kk).toNatClampNeg = kk from nI_clamp (by omega)]
                    refine lv_goto (tgt := 188) hx hb d_M_word_170 (by decide) ?_
                    exact W.iret (v := g25 kk) hx hb hr (fun t ht hW => ⟨⟨g25 kk, (0, y19, y20, y21, g23, y24, g25, nI bn9), rfl, (Or.inr ⟨hix, jj, hjj, rfl, Or.inr (Or.inl ⟨(fun e9 : nI kk = -1 => absurd (e9 ▸ nI_pos' (n := kk) (by omega)) (by decide)), rfl, kk, rfl, by rw [hblE, ← hL9]; exact ls_get hkk⟩)⟩), by rw [ht]; exact hP, va_K.moved hW.alike hK, hD⟩, hS.F ht⟩) hS.2.2 d_M_word_188
              · have c25 := nc_nle (a := 100 + nn) (b := cq + 1) c25 (by omega) (by omega)
                refine lv_aload_n hx hb d_M_word_64 rfl (lv_at hl 0 rfl) ?_
                refine va_get (D := D) (ci := 6) (v := .ref (a 17)) (C := "TimeWordsModel") (T := F_M) (N := 28) hx hb hw in_M hown hK hP 0 rfl rfl 17 (by decide) (hw _ fl_M_50) (fun _ h9 => h9) rfl d_M_word_65 ?_
                refine lv_iload_n hx hb d_M_word_68 rfl (lv_at hl 1 rfl) ?_
                refine va_iald hx hb hK hP 14 0 rfl rfl (by first | assumption | exact vp_in_nI (by omega) (by omega)) d_M_word_69 ?_
                rw [show (nI jj).toNatClampNeg = jj from nI_clamp (by omega)]
                refine lv_iconst (v := 3) hx hb d_M_word_70 (by decide) ?_
                refine lv_icmp_eq (tgt := 121) hx hb d_M_word_71 (by decide) (fun c35 => absurd c35 (h39)) (fun c35 => ?_)
                refine lv_aload_n hx hb d_M_word_74 rfl (lv_at hl 0 rfl) ?_
                refine lv_iload_n hx hb d_M_word_75 rfl (lv_at hl 1 rfl) ?_
                refine lv_iload_n hx hb d_M_word_76 rfl (lv_at hl 3 rfl) ?_
                refine lv_iconst (v := (-1)) hx hb d_M_word_77 (by decide) ?_
                refine lv_iload hx hb d_M_word_78 (lv_at hl 4 rfl) ?_
                refine g_callv (va_runV (As := [.int (nI jj), .int (-1), .int (-1), .int (nI (cq + 1))]) (rest := []) ⟨hx, hb, hml, hown, hw⟩ (k_M_tries l D T o a z0 z2 nn (nI sn) z18 y19 y20 y21 y24 bn9 f1 f4 f5 f6 f7 f8 f9 f10 f11 f12 f13 f15 f16 f17 f22 g23 g25 f27 H.size jj none none (cq + 1) ln ck _ (by omega) (fun b h => by cases h) (fun b h => by cases h) (by omega) (by omega) hy1 hy2 hy3 hy4 hy5 hy6 hbn9 hL) (cwV 4 hw (bg_V ml_M_201 wi_M_tries wv_M_tries wz_M wc_M_tries) rfl rfl rfl (by decide +kernel) ⟨Nat.le_of_ble_eq_true rfl, Nat.le_of_ble_eq_true rfl⟩) ⟨qP_b, va_recv hK hP (ci := 6) (q0 := 0) rfl rfl, qP_p hP hK hD⟩ rfl rfl hl.1 rfl (lv_room (Nat.le_of_ble_eq_true rfl)) d_M_word_80 ⟨Nat.le_of_ble_eq_true rfl, Nat.le_of_ble_eq_true rfl⟩) hD hS hA (fun u9 H locs hr36 hP hD hS => ?_)
                obtain ⟨u37, u38, u39, u40, u41, u42, u43⟩ := u9
                dsimp only at hr36 hP hD
                have hP : va_P D gC (mX T o a z0 z2 (nI nn) (nI sn) z18 u37 u38 u39 u41 u43 f1 f4 f5 f6 f7 f8 f9 f10 f11 f12 f13 f15 f16 f17 f22 u40 u42 f27) H := hP
                have hD : va_D A (mX T o a z0 z2 (nI nn) (nI sn) z18 u37 u38 u39 u41 u43 f1 f4 f5 f6 f7 f8 f9 f10 f11 f12 f13 f15 f16 f17 f22 u40 u42 f27) := hD
                obtain ⟨m44, hm1, hmm44, hLm44⟩ := hr36
                subst hm1
                have hLm44 : j_ls u42 m44 = tr none (cq + 1) (j_wf tr cq) := by rw [htr] at hLm44 ⊢; exact hLm44
                refine lv_iconst (v := 0) hx hb d_M_word_83 (by decide) ?_
                refine lv_istore (lv' := [(5, .int 0), (0, .ref o), (1, .int (nI jj)), (2, .int ii), (3, .int (-1)), (4, .int (nI (cq + 1)))]) hx hb d_M_word_84 hl (by decide) rfl (fun ls hl => ?_)
                refine lv_iload hx hb d_M_word_86 (lv_at hl 0 rfl) ?_
                refine lv_iconst (v := 3) hx hb d_M_word_88 (by decide) ?_
                refine lv_icmp_ge (tgt := 115) hx hb d_M_word_89 (by decide) (fun c45 => absurd c45 (by decide)) (fun c45 => ?_)
                refine lv_iload hx hb d_M_word_92 (lv_at hl 5 rfl) ?_
                refine lv_bipush (v := 100) hx hb d_M_word_94 (by decide) ?_
                refine lv_icmp_ge (tgt := 115) hx hb d_M_word_96 (by decide) (fun c46 => ?_) (fun c46 => ?_)
                · have c46 := nc_le (a := 100) (b := cq + 1) c46 (by omega) (by omega)
                  refine lv_iinc (v := nI (cq + 1 + 1)) (lv' := [(4, .int (nI (cq + 1 + 1))), (5, .int 0), (0, .ref o), (1, .int (nI jj)), (2, .int ii), (3, .int (-1))]) hx hb d_M_word_115 hl (k := 5) rfl (nI_add (cq + 1) 1) (by decide) rfl (fun ls hl => ?_)
                  refine lv_goto (tgt := 52) hx hb d_M_word_118 (by decide) ?_
                  exact ih (cq + 1) m44 u37 u38 u39 u41 u40 u42 (by omega) hmm44 (by rw [j_wf, if_neg (by omega)]; exact hLm44) _ _ hP hD hS ls (lv_sub hl [2, 3, 4, 5, 0] rfl) (by omega)
                · have c46 := nc_nle (a := 100) (b := cq + 1) c46 (by omega) (by omega)
                  refine lv_aload_n hx hb d_M_word_99 rfl (lv_at hl 1 rfl) ?_
                  refine lv_iload_n hx hb d_M_word_100 rfl (lv_at hl 2 rfl) ?_
                  refine lv_iload_n hx hb d_M_word_101 rfl (lv_at hl 4 rfl) ?_
                  refine lv_iload hx hb d_M_word_102 (lv_at hl 0 rfl) ?_
                  refine lv_iload hx hb d_M_word_104 (lv_at hl 5 rfl) ?_
                  refine g_callv (va_runV (As := [.int (nI jj), .int (-1), .int 0, .int (nI (cq + 1))]) (rest := []) ⟨hx, hb, hml, hown, hw⟩ (k_M_tries l D T o a z0 z2 nn (nI sn) z18 u37 u38 u39 u41 m44 f1 f4 f5 f6 f7 f8 f9 f10 f11 f12 f13 f15 f16 f17 f22 u40 u42 f27 H.size jj none (some 0) (cq + 1) ln ck _ (by omega) (fun b h => by cases h) (fun b h => by cases h; exact ⟨by decide, by omega⟩) (by omega) (by omega) hy1 hy2 hy3 hy4 hy5 hy6 hmm44 hLm44) (cwV 4 hw (bg_V ml_M_201 wi_M_tries wv_M_tries wz_M wc_M_tries) rfl rfl rfl (by decide +kernel) ⟨Nat.le_of_ble_eq_true rfl, Nat.le_of_ble_eq_true rfl⟩) ⟨qP_b, va_recv hK hP (ci := 6) (q0 := 0) rfl rfl, qP_p hP hK hD⟩ rfl rfl hl.1 rfl (lv_room (Nat.le_of_ble_eq_true rfl)) d_M_word_106 ⟨Nat.le_of_ble_eq_true rfl, Nat.le_of_ble_eq_true rfl⟩) hD hS hA (fun u9 H locs hr47 hP hD hS => ?_)
                  obtain ⟨u48, u49, u50, u51, u52, u53, u54⟩ := u9
                  dsimp only at hr47 hP hD
                  have hP : va_P D gC (mX T o a z0 z2 (nI nn) (nI sn) z18 u48 u49 u50 u52 u54 f1 f4 f5 f6 f7 f8 f9 f10 f11 f12 f13 f15 f16 f17 f22 u51 u53 f27) H := hP
                  have hD : va_D A (mX T o a z0 z2 (nI nn) (nI sn) z18 u48 u49 u50 u52 u54 f1 f4 f5 f6 f7 f8 f9 f10 f11 f12 f13 f15 f16 f17 f22 u51 u53 f27) := hD
                  obtain ⟨m55, hm1, hmm55, hLm55⟩ := hr47
                  subst hm1
                  have hLm55 : j_ls u53 m55 = tr (some 0) (cq + 1) (tr none (cq + 1) (j_wf tr cq)) := by rw [htr] at hLm55 ⊢; exact hLm55
                  refine lv_iinc (v := 1) (lv' := [(5, .int 1), (0, .ref o), (1, .int (nI jj)), (2, .int ii), (3, .int (-1)), (4, .int (nI (cq + 1)))]) hx hb d_M_word_109 hl (k := 0) rfl (by decide) (by decide) rfl (fun ls hl => ?_)
                  refine lv_goto (tgt := 86) hx hb d_M_word_112 (by decide) ?_
                  refine lv_iload hx hb d_M_word_86 (lv_at hl 0 rfl) ?_
                  refine lv_iconst (v := 3) hx hb d_M_word_88 (by decide) ?_
                  refine lv_icmp_ge (tgt := 115) hx hb d_M_word_89 (by decide) (fun c56 => absurd c56 (by decide)) (fun c56 => ?_)
                  refine lv_iload hx hb d_M_word_92 (lv_at hl 5 rfl) ?_
                  refine lv_bipush (v := 100) hx hb d_M_word_94 (by decide) ?_
                  refine lv_icmp_ge (tgt := 115) hx hb d_M_word_96 (by decide) (fun c57 => absurd c57 (nI_ge (a := cq + 1) (b := 100) (by omega) (by decide))) (fun c57 => ?_)
                  refine lv_aload_n hx hb d_M_word_99 rfl (lv_at hl 1 rfl) ?_
                  refine lv_iload_n hx hb d_M_word_100 rfl (lv_at hl 2 rfl) ?_
                  refine lv_iload_n hx hb d_M_word_101 rfl (lv_at hl 4 rfl) ?_
                  refine lv_iload hx hb d_M_word_102 (lv_at hl 0 rfl) ?_
                  refine lv_iload hx hb d_M_word_104 (lv_at hl 5 rfl) ?_
                  refine g_callv (va_runV (As := [.int (nI jj), .int (-1), .int 1, .int (nI (cq + 1))]) (rest := []) ⟨hx, hb, hml, hown, hw⟩ (k_M_tries l D T o a z0 z2 nn (nI sn) z18 u48 u49 u50 u52 m55 f1 f4 f5 f6 f7 f8 f9 f10 f11 f12 f13 f15 f16 f17 f22 u51 u53 f27 H.size jj none (some 1) (cq + 1) ln ck _ (by omega) (fun b h => by cases h) (fun b h => by cases h; exact ⟨by decide, by omega⟩) (by omega) (by omega) hy1 hy2 hy3 hy4 hy5 hy6 hmm55 hLm55) (cwV 4 hw (bg_V ml_M_201 wi_M_tries wv_M_tries wz_M wc_M_tries) rfl rfl rfl (by decide +kernel) ⟨Nat.le_of_ble_eq_true rfl, Nat.le_of_ble_eq_true rfl⟩) ⟨qP_b, va_recv hK hP (ci := 6) (q0 := 0) rfl rfl, qP_p hP hK hD⟩ rfl rfl hl.1 rfl (lv_room (Nat.le_of_ble_eq_true rfl)) d_M_word_106 ⟨Nat.le_of_ble_eq_true rfl, Nat.le_of_ble_eq_true rfl⟩) hD hS hA (fun u9 H locs hr58 hP hD hS => ?_)
                  obtain ⟨u59, u60, u61, u62, u63, u64, u65⟩ := u9
                  dsimp only at hr58 hP hD
                  have hP : va_P D gC (mX T o a z0 z2 (nI nn) (nI sn) z18 u59 u60 u61 u63 u65 f1 f4 f5 f6 f7 f8 f9 f10 f11 f12 f13 f15 f16 f17 f22 u62 u64 f27) H := hP
                  have hD : va_D A (mX T o a z0 z2 (nI nn) (nI sn) z18 u59 u60 u61 u63 u65 f1 f4 f5 f6 f7 f8 f9 f10 f11 f12 f13 f15 f16 f17 f22 u62 u64 f27) := hD
                  obtain ⟨m66, hm1, hmm66, hLm66⟩ := hr58
                  subst hm1
                  have hLm66 : j_ls u64 m66 = tr (some 1) (cq + 1) (tr (some 0) (cq + 1) (tr none (cq + 1) (j_wf tr cq))) := by rw [htr] at hLm66 ⊢; exact hLm66
                  refine lv_iinc (v := 2) (lv' := [(5, .int 2), (0, .ref o), (1, .int (nI jj)), (2, .int ii), (3, .int (-1)), (4, .int (nI (cq + 1)))]) hx hb d_M_word_109 hl (k := 0) rfl (by decide) (by decide) rfl (fun ls hl => ?_)
                  refine lv_goto (tgt := 86) hx hb d_M_word_112 (by decide) ?_
                  refine lv_iload hx hb d_M_word_86 (lv_at hl 0 rfl) ?_
                  refine lv_iconst (v := 3) hx hb d_M_word_88 (by decide) ?_
                  refine lv_icmp_ge (tgt := 115) hx hb d_M_word_89 (by decide) (fun c67 => absurd c67 (by decide)) (fun c67 => ?_)
                  refine lv_iload hx hb d_M_word_92 (lv_at hl 5 rfl) ?_
                  refine lv_bipush (v := 100) hx hb d_M_word_94 (by decide) ?_
                  refine lv_icmp_ge (tgt := 115) hx hb d_M_word_96 (by decide) (fun c68 => absurd c68 (nI_ge (a := cq + 1) (b := 100) (by omega) (by decide))) (fun c68 => ?_)
                  refine lv_aload_n hx hb d_M_word_99 rfl (lv_at hl 1 rfl) ?_
                  refine lv_iload_n hx hb d_M_word_100 rfl (lv_at hl 2 rfl) ?_
                  refine lv_iload_n hx hb d_M_word_101 rfl (lv_at hl 4 rfl) ?_
                  refine lv_iload hx hb d_M_word_102 (lv_at hl 0 rfl) ?_
                  refine lv_iload hx hb d_M_word_104 (lv_at hl 5 rfl) ?_
                  refine g_callv (va_runV (As := [.int (nI jj), .int (-1), .int 2, .int (nI (cq + 1))]) (rest := []) ⟨hx, hb, hml, hown, hw⟩ (k_M_tries l D T o a z0 z2 nn (nI sn) z18 u59 u60 u61 u63 m66 f1 f4 f5 f6 f7 f8 f9 f10 f11 f12 f13 f15 f16 f17 f22 u62 u64 f27 H.size jj none (some 2) (cq + 1) ln ck _ (by omega) (fun b h => by cases h) (fun b h => by cases h; exact ⟨by decide, by omega⟩) (by omega) (by omega) hy1 hy2 hy3 hy4 hy5 hy6 hmm66 hLm66) (cwV 4 hw (bg_V ml_M_201 wi_M_tries wv_M_tries wz_M wc_M_tries) rfl rfl rfl (by decide +kernel) ⟨Nat.le_of_ble_eq_true rfl, Nat.le_of_ble_eq_true rfl⟩) ⟨qP_b, va_recv hK hP (ci := 6) (q0 := 0) rfl rfl, qP_p hP hK hD⟩ rfl rfl hl.1 rfl (lv_room (Nat.le_of_ble_eq_true rfl)) d_M_word_106 ⟨Nat.le_of_ble_eq_true rfl, Nat.le_of_ble_eq_true rfl⟩) hD hS hA (fun u9 H locs hr69 hP hD hS => ?_)
                  obtain ⟨u70, u71, u72, u73, u74, u75, u76⟩ := u9
                  dsimp only at hr69 hP hD
                  have hP : va_P D gC (mX T o a z0 z2 (nI nn) (nI sn) z18 u70 u71 u72 u74 u76 f1 f4 f5 f6 f7 f8 f9 f10 f11 f12 f13 f15 f16 f17 f22 u73 u75 f27) H := hP
                  have hD : va_D A (mX T o a z0 z2 (nI nn) (nI sn) z18 u70 u71 u72 u74 u76 f1 f4 f5 f6 f7 f8 f9 f10 f11 f12 f13 f15 f16 f17 f22 u73 u75 f27) := hD
                  obtain ⟨m77, hm1, hmm77, hLm77⟩ := hr69
                  subst hm1
                  have hLm77 : j_ls u75 m77 = tr (some 2) (cq + 1) (tr (some 1) (cq + 1) (tr (some 0) (cq + 1) (tr none (cq + 1) (j_wf tr cq)))) := by rw [htr] at hLm77 ⊢; exact hLm77
                  refine lv_iinc (v := 3) (lv' := [(5, .int 3), (0, .ref o), (1, .int (nI jj)), (2, .int ii), (3, .int (-1)), (4, .int (nI (cq + 1)))]) hx hb d_M_word_109 hl (k := 0) rfl (by decide) (by decide) rfl (fun ls hl => ?_)
                  refine lv_goto (tgt := 86) hx hb d_M_word_112 (by decide) ?_
                  refine lv_iload hx hb d_M_word_86 (lv_at hl 0 rfl) ?_
                  refine lv_iconst (v := 3) hx hb d_M_word_88 (by decide) ?_
                  refine lv_icmp_ge (tgt := 115) hx hb d_M_word_89 (by decide) (fun c78 => ?_) (fun c78 => absurd c78 (by decide))
                  refine lv_iinc (v := nI (cq + 1 + 1)) (lv' := [(4, .int (nI (cq + 1 + 1))), (5, .int 3), (0, .ref o), (1, .int (nI jj)), (2, .int ii), (3, .int (-1))]) hx hb d_M_word_115 hl (k := 5) rfl (nI_add (cq + 1) 1) (by decide) rfl (fun ls hl => ?_)
                  refine lv_goto (tgt := 52) hx hb d_M_word_118 (by decide) ?_
                  exact ih (cq + 1) m77 u70 u71 u72 u74 u73 u75 (by omega) hmm77 (by rw [j_wf, if_pos (by omega)]; exact hLm77) _ _ hP hD hS ls (lv_sub hl [2, 3, 4, 5, 0] rfl) (by omega)
          exact loop ((99 + nn - 0) + 1) 0 0 z19 z20 z21 z24 f23 f25 (Nat.zero_le _) (Nat.zero_le _) rfl _ _ hP hD hS ls (lv_sub hl [2, 3, 4, 1, 0] rfl) (Nat.lt_succ_self _)
      · refine lv_iconst (v := 5) hx hb d_M_word_43 (by decide) ?_
        refine lv_goto (tgt := 48) hx hb d_M_word_44 (by decide) ?_
        refine lv_istore_n (lv' := [(3, .int 5), (0, .ref o), (1, .int (nI jj)), (2, .int ii)]) hx hb d_M_word_48 rfl hl (by decide) rfl (fun ls hl => ?_)
        refine lv_iconst (v := 1) hx hb d_M_word_49 (by decide) ?_
        refine lv_istore (lv' := [(4, .int 1), (3, .int 5), (0, .ref o), (1, .int (nI jj)), (2, .int ii)]) hx hb d_M_word_50 hl (by decide) rfl (fun ls hl => ?_)
        have hkb : j_kbo (f17 jj) = some 5 := (by simp only [j_kbo, c2, if_neg c3, decide_eq_false c3, if_pos c4, decide_eq_true c4])
        obtain ⟨bl9, hblE⟩ : ∃ q9, (if f17 jj = 3 then [] else j_wf (fun th c9 bl => j_try (j_ss z18 (j_kbo (f17 jj)) (j_src z18 th (j_nv f6 f7 f8 f10 f11 f12 f13 ck 0 100000) c9) (f17 jj) (f15 jj) (f16 jj)) (j_tx (j_kbo (f17 jj)) th f4 ln c9) bl) (99 + nn)) = q9 := ⟨_, rfl⟩
        have hbl9 := hblE.symm
        rw [hkb] at hbl9
        rcases Classical.em (f17 jj = 3) with h39 | h39
        · rw [if_pos h39] at hbl9
          have hL9 : j_ls f25 0 = bl9 := by rw [hbl9]; rfl
          have hP : va_P D gC (mX T o a z0 z2 (nI nn) (nI sn) z18 z19 z20 z21 z24 (nI 0) f1 f4 f5 f6 f7 f8 f9 f10 f11 f12 f13 f15 f16 f17 f22 f23 f25 f27) H := hP
          have hD : va_D A (mX T o a z0 z2 (nI nn) (nI sn) z18 z19 z20 z21 z24 (nI 0) f1 f4 f5 f6 f7 f8 f9 f10 f11 f12 f13 f15 f16 f17 f22 f23 f25 f27) := hD
          refine lv_iload hx hb d_M_word_52 (lv_at hl 0 rfl) ?_
          refine lv_bipush (v := 100) hx hb d_M_word_54 (by decide) ?_
          refine lv_aload_n hx hb d_M_word_56 rfl (lv_at hl 2 rfl) ?_
          refine va_get (D := D) (ci := 6) (v := .int (nI nn)) (C := "TimeWordsModel") (T := F_M) (N := 28) hx hb hw in_M hown hK hP 0 rfl rfl 3 (by decide) (hw _ fl_M_76) (fun _ h9 => h9) rfl d_M_word_57 ?_
          refine lv_iadd hx hb d_M_word_60 ?_
          rw [show 100 + (nI nn) = nI (100 + nn) from nI_add 100 nn]
          refine lv_icmp_ge (tgt := 121) hx hb d_M_word_61 (by decide) (fun c79 => ?_) (fun c79 => ?_)
          · have c79 := nc_le (a := 100 + nn) (b := 1) c79 (by omega) (by omega)
            refine lv_aload_n hx hb d_M_word_121 rfl (lv_at hl 2 rfl) ?_
            refine lv_iload_n hx hb d_M_word_122 rfl (lv_at hl 4 rfl) ?_
            refine lv_iconst (v := (-1)) hx hb d_M_word_123 (by decide) ?_
            refine lv_icmp_eq (tgt := 141) hx hb d_M_word_124 (by decide) (fun c80 => ?_) (fun c80 => ?_)
            · subst c80
              refine lv_iconst (v := 0) hx hb d_M_word_141 (by decide) ?_
              refine lv_goto (tgt := 146) hx hb d_M_word_142 (by decide) ?_
              refine va_put (D := D) (ci := 6) (v := .int 0) (ty := .int) (C := "TimeWordsModel") (T := F_M) (N := 28) hx hb hw in_M ty_M ty_M_ok n_M hown hK hP hD hS 0 rfl rfl 0 (by decide) (hw _ fl_M_69) (fun _ h9 => h9) rfl (by decide +kernel) rfl rfl (Nat.le_of_ble_eq_true rfl) d_M_word_146 (fun H locs hP hD hS => ?_)
              have hP : va_P D gC (mX T o a 0 z2 (nI nn) (nI sn) z18 z19 z20 z21 z24 (nI 0) f1 f4 f5 f6 f7 f8 f9 f10 f11 f12 f13 f15 f16 f17 f22 f23 f25 f27) H := hP
              have hD : va_D A (mX T o a 0 z2 (nI nn) (nI sn) z18 z19 z20 z21 z24 (nI 0) f1 f4 f5 f6 f7 f8 f9 f10 f11 f12 f13 f15 f16 f17 f22 f23 f25 f27) := hD
              refine lv_aload_n hx hb d_M_word_149 rfl (lv_at hl 2 rfl) ?_
              refine va_get (D := D) (ci := 6) (v := .int 0) (C := "TimeWordsModel") (T := F_M) (N := 28) hx hb hw in_M hown hK hP 0 rfl rfl 0 (by decide) (hw _ fl_M_69) (fun _ h9 => h9) rfl d_M_word_150 ?_
              refine lv_if_le (tgt := 160) hx hb d_M_word_153 (by decide) (fun c81 => ?_) (fun c81 => absurd c81 (by decide))
              refine lv_iload_n hx hb d_M_word_160 rfl (lv_at hl 4 rfl) ?_
              refine lv_if_lt (tgt := 173) hx hb d_M_word_161 (by decide) (fun c82 => ?_) (fun c82 => absurd c82 (by decide))
              refine lv_aload_n hx hb d_M_word_173 rfl (lv_at hl 2 rfl) ?_
              refine va_get (D := D) (ci := 6) (v := .int (nI 0)) (C := "TimeWordsModel") (T := F_M) (N := 28) hx hb hw in_M hown hK hP 0 rfl rfl 26 (by decide) (hw _ fl_M_187) (fun _ h9 => h9) rfl d_M_word_174 ?_
              refine lv_if_ne (tgt := 184) hx hb d_M_word_177 (by decide) (fun c83 => absurd c83 (by decide)) (fun c83 => ?_)
              refine lv_iconst (v := (-1)) hx hb d_M_word_180 (by decide) ?_
              refine lv_goto (tgt := 188) hx hb d_M_word_181 (by decide) ?_
              exact W.iret (v := (-1)) hx hb hr (fun t ht hW => ⟨⟨(-1), (0, z19, z20, z21, f23, z24, f25, nI 0), rfl, (Or.inr ⟨hix, jj, hjj, rfl, Or.inl ⟨rfl, rfl, by rw [hblE, ← hL9, ls_len, if_pos (by omega)]⟩⟩), by rw [ht]; exact hP, va_K.moved hW.alike hK, hD⟩, hS.F ht⟩) hS.2.2 d_M_word_188
            · refine lv_iload_n hx hb d_M_word_127 rfl (lv_at hl 4 rfl) ?_
              refine lv_iconst (v := 0) hx hb d_M_word_128 (by decide) ?_
              refine lv_aload_n hx hb d_M_word_129 rfl (lv_at hl 2 rfl) ?_
              refine va_get (D := D) (ci := 6) (v := .int (nI 0)) (C := "TimeWordsModel") (T := F_M) (N := 28) hx hb hw in_M hown hK hP 0 rfl rfl 26 (by decide) (hw _ fl_M_187) (fun _ h9 => h9) rfl d_M_word_130 ?_
              refine lv_iconst (v := 1) hx hb d_M_word_133 (by decide) ?_
              refine lv_isub hx hb d_M_word_134 ?_
              refine vp_callSi (va_Run.run (va_runS (As := [.int ii, .int 0, .int ((nI 0) - 1)]) (rest := [.ref o]) ⟨hx, hb, hml, hown, hw⟩ (k_M_in l ii 0 ((nI 0) - 1)) (va_cwS 3 hw (bg_S ml_M_72 wt_M_in wz_M wc_M_in) rfl rfl rfl (by decide +kernel) ⟨Nat.le_of_ble_eq_true rfl, Nat.le_of_ble_eq_true rfl⟩) ⟨nP_b, nP_p⟩ rfl rfl hl.1 rfl (lv_room (Nat.le_of_ble_eq_true rfl)) d_M_word_135 ⟨Nat.le_of_ble_eq_true rfl, Nat.le_of_ble_eq_true rfl⟩)) (fun r84 hr84 => ?_)
              replace hr84 := hr84.symm; subst hr84
              refine lv_if_eq (tgt := 145) hx hb d_M_word_138 (by decide) (fun c85 => ?_) (fun c85 => ?_)
              · have c85 := b2i_f c85
                refine lv_iconst (v := 1) hx hb d_M_word_145 (by decide) ?_
                refine va_put (D := D) (ci := 6) (v := .int 1) (ty := .int) (C := "TimeWordsModel") (T := F_M) (N := 28) hx hb hw in_M ty_M ty_M_ok n_M hown hK hP hD hS 0 rfl rfl 0 (by decide) (hw _ fl_M_69) (fun _ h9 => h9) rfl (by decide +kernel) rfl rfl (Nat.le_of_ble_eq_true rfl) d_M_word_146 (fun H locs hP hD hS => ?_)
                have hP : va_P D gC (mX T o a 1 z2 (nI nn) (nI sn) z18 z19 z20 z21 z24 (nI 0) f1 f4 f5 f6 f7 f8 f9 f10 f11 f12 f13 f15 f16 f17 f22 f23 f25 f27) H := hP
                have hD : va_D A (mX T o a 1 z2 (nI nn) (nI sn) z18 z19 z20 z21 z24 (nI 0) f1 f4 f5 f6 f7 f8 f9 f10 f11 f12 f13 f15 f16 f17 f22 f23 f25 f27) := hD
                refine lv_aload_n hx hb d_M_word_149 rfl (lv_at hl 2 rfl) ?_
                refine va_get (D := D) (ci := 6) (v := .int 1) (C := "TimeWordsModel") (T := F_M) (N := 28) hx hb hw in_M hown hK hP 0 rfl rfl 0 (by decide) (hw _ fl_M_69) (fun _ h9 => h9) rfl d_M_word_150 ?_
                refine lv_if_le (tgt := 160) hx hb d_M_word_153 (by decide) (fun c86 => absurd c86 (by decide)) (fun c86 => ?_)
                refine lv_iconst (v := 0) hx hb d_M_word_156 (by decide) ?_
                refine lv_goto (tgt := 188) hx hb d_M_word_157 (by decide) ?_
                exact W.iret (v := 0) hx hb hr (fun t ht hW => ⟨⟨0, (1, z19, z20, z21, f23, z24, f25, nI 0), rfl, (Or.inr ⟨hix, jj, hjj, rfl, Or.inr (Or.inr ⟨by assumption, rfl, rfl, fun k hk hk2 => by rw [hblE, ← hL9, ls_len] at hk; rw [hk2, in_bin hk (by omega)] at c85; cases c85⟩)⟩), by rw [ht]; exact hP, va_K.moved hW.alike hK, hD⟩, hS.F ht⟩) hS.2.2 d_M_word_188
              · have c85 := b2i_t c85
                obtain ⟨kk, hkk, rfl⟩ := in_best (by omega) c85
                refine lv_iconst (v := 0) hx hb d_M_word_141 (by decide) ?_
                refine lv_goto (tgt := 146) hx hb d_M_word_142 (by decide) ?_
                refine va_put (D := D) (ci := 6) (v := .int 0) (ty := .int) (C := "TimeWordsModel") (T := F_M) (N := 28) hx hb hw in_M ty_M ty_M_ok n_M hown hK hP hD hS 0 rfl rfl 0 (by decide) (hw _ fl_M_69) (fun _ h9 => h9) rfl (by decide +kernel) rfl rfl (Nat.le_of_ble_eq_true rfl) d_M_word_146 (fun H locs hP hD hS => ?_)
                have hP : va_P D gC (mX T o a 0 z2 (nI nn) (nI sn) z18 z19 z20 z21 z24 (nI 0) f1 f4 f5 f6 f7 f8 f9 f10 f11 f12 f13 f15 f16 f17 f22 f23 f25 f27) H := hP
                have hD : va_D A (mX T o a 0 z2 (nI nn) (nI sn) z18 z19 z20 z21 z24 (nI 0) f1 f4 f5 f6 f7 f8 f9 f10 f11 f12 f13 f15 f16 f17 f22 f23 f25 f27) := hD
                refine lv_aload_n hx hb d_M_word_149 rfl (lv_at hl 2 rfl) ?_
                refine va_get (D := D) (ci := 6) (v := .int 0) (C := "TimeWordsModel") (T := F_M) (N := 28) hx hb hw in_M hown hK hP 0 rfl rfl 0 (by decide) (hw _ fl_M_69) (fun _ h9 => h9) rfl d_M_word_150 ?_
                refine lv_if_le (tgt := 160) hx hb d_M_word_153 (by decide) (fun c87 => ?_) (fun c87 => absurd c87 (by decide))
                refine lv_iload_n hx hb d_M_word_160 rfl (lv_at hl 4 rfl) ?_
                refine lv_if_lt (tgt := 173) hx hb d_M_word_161 (by decide) (fun c88 => absurd c88 (nI_pos (by omega))) (fun c88 => ?_)
                refine lv_aload_n hx hb d_M_word_164 rfl (lv_at hl 2 rfl) ?_
                refine va_get (D := D) (ci := 6) (v := .ref (a 25)) (C := "TimeWordsModel") (T := F_M) (N := 28) hx hb hw in_M hown hK hP 0 rfl rfl 25 (by decide) (hw _ fl_M_63) (fun _ h9 => h9) rfl d_M_word_165 ?_
                refine lv_iload_n hx hb d_M_word_168 rfl (lv_at hl 4 rfl) ?_
                refine va_iald hx hb hK hP 17 0 rfl rfl (by first | assumption | exact vp_in_nI (by omega) (by omega)) d_M_word_169 ?_
                rw [show (nI kk).toNatClampNeg = kk from nI_clamp (by omega)]
                refine lv_goto (tgt := 188) hx hb d_M_word_170 (by decide) ?_
                exact W.iret (v := f25 kk) hx hb hr (fun t ht hW => ⟨⟨f25 kk, (0, z19, z20, z21, f23, z24, f25, nI 0), rfl, (Or.inr ⟨hix, jj, hjj, rfl, Or.inr (Or.inl ⟨(fun e9 : nI kk = -1 => absurd (e9 ▸ nI_pos' (n := kk) (by omega)) (by decide)), rfl, kk, rfl, by rw [hblE, ← hL9]; exact ls_get hkk⟩)⟩), by rw [ht]; exact hP, va_K.moved hW.alike hK, hD⟩, hS.F ht⟩) hS.2.2 d_M_word_188
          · have c79 := nc_nle (a := 100 + nn) (b := 1) c79 (by omega) (by omega)
            refine lv_aload_n hx hb d_M_word_64 rfl (lv_at hl 2 rfl) ?_
            refine va_get (D := D) (ci := 6) (v := .ref (a 17)) (C := "TimeWordsModel") (T := F_M) (N := 28) hx hb hw in_M hown hK hP 0 rfl rfl 17 (by decide) (hw _ fl_M_50) (fun _ h9 => h9) rfl d_M_word_65 ?_
            refine lv_iload_n hx hb d_M_word_68 rfl (lv_at hl 3 rfl) ?_
            refine va_iald hx hb hK hP 14 0 rfl rfl (by first | assumption | exact vp_in_nI (by omega) (by omega)) d_M_word_69 ?_
            rw [show (nI jj).toNatClampNeg = jj from nI_clamp (by omega)]
            refine lv_iconst (v := 3) hx hb d_M_word_70 (by decide) ?_
            refine lv_icmp_eq (tgt := 121) hx hb d_M_word_71 (by decide) (fun c89 => ?_) (fun c89 => absurd (h39) c89)
            refine lv_aload_n hx hb d_M_word_121 rfl (lv_at hl 2 rfl) ?_
            refine lv_iload_n hx hb d_M_word_122 rfl (lv_at hl 4 rfl) ?_
            refine lv_iconst (v := (-1)) hx hb d_M_word_123 (by decide) ?_
            refine lv_icmp_eq (tgt := 141) hx hb d_M_word_124 (by decide) (fun c90 => ?_) (fun c90 => ?_)
            · subst c90
              refine lv_iconst (v := 0) hx hb d_M_word_141 (by decide) ?_
              refine lv_goto (tgt := 146) hx hb d_M_word_142 (by decide) ?_
              refine va_put (D := D) (ci := 6) (v := .int 0) (ty := .int) (C := "TimeWordsModel") (T := F_M) (N := 28) hx hb hw in_M ty_M ty_M_ok n_M hown hK hP hD hS 0 rfl rfl 0 (by decide) (hw _ fl_M_69) (fun _ h9 => h9) rfl (by decide +kernel) rfl rfl (Nat.le_of_ble_eq_true rfl) d_M_word_146 (fun H locs hP hD hS => ?_)
              have hP : va_P D gC (mX T o a 0 z2 (nI nn) (nI sn) z18 z19 z20 z21 z24 (nI 0) f1 f4 f5 f6 f7 f8 f9 f10 f11 f12 f13 f15 f16 f17 f22 f23 f25 f27) H := hP
              have hD : va_D A (mX T o a 0 z2 (nI nn) (nI sn) z18 z19 z20 z21 z24 (nI 0) f1 f4 f5 f6 f7 f8 f9 f10 f11 f12 f13 f15 f16 f17 f22 f23 f25 f27) := hD
              refine lv_aload_n hx hb d_M_word_149 rfl (lv_at hl 2 rfl) ?_
              refine va_get (D := D) (ci := 6) (v := .int 0) (C := "TimeWordsModel") (T := F_M) (N := 28) hx hb hw in_M hown hK hP 0 rfl rfl 0 (by decide) (hw _ fl_M_69) (fun _ h9 => h9) rfl d_M_word_150 ?_
              refine lv_if_le (tgt := 160) hx hb d_M_word_153 (by decide) (fun c91 => ?_) (fun c91 => absurd c91 (by decide))
              refine lv_iload_n hx hb d_M_word_160 rfl (lv_at hl 4 rfl) ?_
              refine lv_if_lt (tgt := 173) hx hb d_M_word_161 (by decide) (fun c92 => ?_) (fun c92 => absurd c92 (by decide))
              refine lv_aload_n hx hb d_M_word_173 rfl (lv_at hl 2 rfl) ?_
              refine va_get (D := D) (ci := 6) (v := .int (nI 0)) (C := "TimeWordsModel") (T := F_M) (N := 28) hx hb hw in_M hown hK hP 0 rfl rfl 26 (by decide) (hw _ fl_M_187) (fun _ h9 => h9) rfl d_M_word_174 ?_
              refine lv_if_ne (tgt := 184) hx hb d_M_word_177 (by decide) (fun c93 => absurd c93 (by decide)) (fun c93 => ?_)
              refine lv_iconst (v := (-1)) hx hb d_M_word_180 (by decide) ?_
              refine lv_goto (tgt := 188) hx hb d_M_word_181 (by decide) ?_
              exact W.iret (v := (-1)) hx hb hr (fun t ht hW => ⟨⟨(-1), (0, z19, z20, z21, f23, z24, f25, nI 0), rfl, (Or.inr ⟨hix, jj, hjj, rfl, Or.inl ⟨rfl, rfl, by rw [hblE, ← hL9, ls_len, if_pos (by omega)]⟩⟩), by rw [ht]; exact hP, va_K.moved hW.alike hK, hD⟩, hS.F ht⟩) hS.2.2 d_M_word_188
            · refine lv_iload_n hx hb d_M_word_127 rfl (lv_at hl 4 rfl) ?_
              refine lv_iconst (v := 0) hx hb d_M_word_128 (by decide) ?_
              refine lv_aload_n hx hb d_M_word_129 rfl (lv_at hl 2 rfl) ?_
              refine va_get (D := D) (ci := 6) (v := .int (nI 0)) (C := "TimeWordsModel") (T := F_M) (N := 28) hx hb hw in_M hown hK hP 0 rfl rfl 26 (by decide) (hw _ fl_M_187) (fun _ h9 => h9) rfl d_M_word_130 ?_
              refine lv_iconst (v := 1) hx hb d_M_word_133 (by decide) ?_
              refine lv_isub hx hb d_M_word_134 ?_
              refine vp_callSi (va_Run.run (va_runS (As := [.int ii, .int 0, .int ((nI 0) - 1)]) (rest := [.ref o]) ⟨hx, hb, hml, hown, hw⟩ (k_M_in l ii 0 ((nI 0) - 1)) (va_cwS 3 hw (bg_S ml_M_72 wt_M_in wz_M wc_M_in) rfl rfl rfl (by decide +kernel) ⟨Nat.le_of_ble_eq_true rfl, Nat.le_of_ble_eq_true rfl⟩) ⟨nP_b, nP_p⟩ rfl rfl hl.1 rfl (lv_room (Nat.le_of_ble_eq_true rfl)) d_M_word_135 ⟨Nat.le_of_ble_eq_true rfl, Nat.le_of_ble_eq_true rfl⟩)) (fun r94 hr94 => ?_)
              replace hr94 := hr94.symm; subst hr94
              refine lv_if_eq (tgt := 145) hx hb d_M_word_138 (by decide) (fun c95 => ?_) (fun c95 => ?_)
              · have c95 := b2i_f c95
                refine lv_iconst (v := 1) hx hb d_M_word_145 (by decide) ?_
                refine va_put (D := D) (ci := 6) (v := .int 1) (ty := .int) (C := "TimeWordsModel") (T := F_M) (N := 28) hx hb hw in_M ty_M ty_M_ok n_M hown hK hP hD hS 0 rfl rfl 0 (by decide) (hw _ fl_M_69) (fun _ h9 => h9) rfl (by decide +kernel) rfl rfl (Nat.le_of_ble_eq_true rfl) d_M_word_146 (fun H locs hP hD hS => ?_)
                have hP : va_P D gC (mX T o a 1 z2 (nI nn) (nI sn) z18 z19 z20 z21 z24 (nI 0) f1 f4 f5 f6 f7 f8 f9 f10 f11 f12 f13 f15 f16 f17 f22 f23 f25 f27) H := hP
                have hD : va_D A (mX T o a 1 z2 (nI nn) (nI sn) z18 z19 z20 z21 z24 (nI 0) f1 f4 f5 f6 f7 f8 f9 f10 f11 f12 f13 f15 f16 f17 f22 f23 f25 f27) := hD
                refine lv_aload_n hx hb d_M_word_149 rfl (lv_at hl 2 rfl) ?_
                refine va_get (D := D) (ci := 6) (v := .int 1) (C := "TimeWordsModel") (T := F_M) (N := 28) hx hb hw in_M hown hK hP 0 rfl rfl 0 (by decide) (hw _ fl_M_69) (fun _ h9 => h9) rfl d_M_word_150 ?_
                refine lv_if_le (tgt := 160) hx hb d_M_word_153 (by decide) (fun c96 => absurd c96 (by decide)) (fun c96 => ?_)
                refine lv_iconst (v := 0) hx hb d_M_word_156 (by decide) ?_
                refine lv_goto (tgt := 188) hx hb d_M_word_157 (by decide) ?_
                exact W.iret (v := 0) hx hb hr (fun t ht hW => ⟨⟨0, (1, z19, z20, z21, f23, z24, f25, nI 0), rfl, (Or.inr ⟨hix, jj, hjj, rfl, Or.inr (Or.inr ⟨by assumption, rfl, rfl, fun k hk hk2 => by rw [hblE, ← hL9, ls_len] at hk; rw [hk2, in_bin hk (by omega)] at c95; cases c95⟩)⟩), by rw [ht]; exact hP, va_K.moved hW.alike hK, hD⟩, hS.F ht⟩) hS.2.2 d_M_word_188
              · have c95 := b2i_t c95
                obtain ⟨kk, hkk, rfl⟩ := in_best (by omega) c95
                refine lv_iconst (v := 0) hx hb d_M_word_141 (by decide) ?_
                refine lv_goto (tgt := 146) hx hb d_M_word_142 (by decide) ?_
                refine va_put (D := D) (ci := 6) (v := .int 0) (ty := .int) (C := "TimeWordsModel") (T := F_M) (N := 28) hx hb hw in_M ty_M ty_M_ok n_M hown hK hP hD hS 0 rfl rfl 0 (by decide) (hw _ fl_M_69) (fun _ h9 => h9) rfl (by decide +kernel) rfl rfl (Nat.le_of_ble_eq_true rfl) d_M_word_146 (fun H locs hP hD hS => ?_)
                have hP : va_P D gC (mX T o a 0 z2 (nI nn) (nI sn) z18 z19 z20 z21 z24 (nI 0) f1 f4 f5 f6 f7 f8 f9 f10 f11 f12 f13 f15 f16 f17 f22 f23 f25 f27) H := hP
                have hD : va_D A (mX T o a 0 z2 (nI nn) (nI sn) z18 z19 z20 z21 z24 (nI 0) f1 f4 f5 f6 f7 f8 f9 f10 f11 f12 f13 f15 f16 f17 f22 f23 f25 f27) := hD
                refine lv_aload_n hx hb d_M_word_149 rfl (lv_at hl 2 rfl) ?_
                refine va_get (D := D) (ci := 6) (v := .int 0) (C := "TimeWordsModel") (T := F_M) (N := 28) hx hb hw in_M hown hK hP 0 rfl rfl 0 (by decide) (hw _ fl_M_69) (fun _ h9 => h9) rfl d_M_word_150 ?_
                refine lv_if_le (tgt := 160) hx hb d_M_word_153 (by decide) (fun c97 => ?_) (fun c97 => absurd c97 (by decide))
                refine lv_iload_n hx hb d_M_word_160 rfl (lv_at hl 4 rfl) ?_
                refine lv_if_lt (tgt := 173) hx hb d_M_word_161 (by decide) (fun c98 => absurd c98 (nI_pos (by omega))) (fun c98 => ?_)
                refine lv_aload_n hx hb d_M_word_164 rfl (lv_at hl 2 rfl) ?_
                refine va_get (D := D) (ci := 6) (v := .ref (a 25)) (C := "TimeWordsModel") (T := F_M) (N := 28) hx hb hw in_M hown hK hP 0 rfl rfl 25 (by decide) (hw _ fl_M_63) (fun _ h9 => h9) rfl d_M_word_165 ?_
                refine lv_iload_n hx hb d_M_word_168 rfl (lv_at hl 4 rfl) ?_
                refine va_iald hx hb hK hP 17 0 rfl rfl (by first | assumption | exact vp_in_nI (by omega) (by omega)) d_M_word_169 ?_
                rw [show (nI kk).toNatClampNeg = kk from nI_clamp (by omega)]
                refine lv_goto (tgt := 188) hx hb d_M_word_170 (by decide) ?_
                exact W.iret (v := f25 kk) hx hb hr (fun t ht hW => ⟨⟨f25 kk, (0, z19, z20, z21, f23, z24, f25, nI 0), rfl, (Or.inr ⟨hix, jj, hjj, rfl, Or.inr (Or.inl ⟨(fun e9 : nI kk = -1 => absurd (e9 ▸ nI_pos' (n := kk) (by omega)) (by decide)), rfl, kk, rfl, by rw [hblE, ← hL9]; exact ls_get hkk⟩)⟩), by rw [ht]; exact hP, va_K.moved hW.alike hK, hD⟩, hS.F ht⟩) hS.2.2 d_M_word_188
        · rw [if_neg h39] at hbl9
          obtain ⟨tr, htr⟩ : ∃ q9, q9 = (fun th c9 bl => j_try (j_ss z18 (some 5) (j_src z18 th (j_nv f6 f7 f8 f10 f11 f12 f13 ck 0 100000) c9) (f17 jj) (f15 jj) (f16 jj)) (j_tx (some 5) th f4 ln c9) bl) := ⟨_, rfl⟩
          rw [← htr] at hbl9
          have loop : ∀ (n : Nat) (cq bn9 : Nat) (y19 y20 y21 y24 : Int32) (g23 g25 : Nat → Int32), (cq ≤ 99 + nn) → (bn9 ≤ 24) → (j_ls g25 bn9 = j_wf tr cq) → ∀ (H : Heap) (locs : List Loc), va_P D gC (mX T o a z0 z2 (nI nn) (nI sn) z18 y19 y20 y21 y24 (nI bn9) f1 f4 f5 f6 f7 f8 f9 f10 f11 f12 f13 f15 f16 f17 f22 g23 g25 f27) H → va_D A (mX T o a z0 z2 (nI nn) (nI sn) z18 y19 y20 y21 y24 (nI bn9) f1 f4 f5 f6 f7 f8 f9 f10 f11 f12 f13 f15 f16 f17 f22 g23 g25 f27) → va_S A s.heap H locs → ∀ (ls : Array Slot), lv_has ls 6 [(0, .ref o), (1, .int (nI jj)), (2, .int ii), (3, .int 5), (4, .int (nI (cq + 1)))] → 99 + nn - cq < n → W p l e (headSpec (Cond.code y_M_word b_M_word 6 (some .int) :: bg_W) ({ frames := 4, cells := 0, slots := 0, locals := 93 })).room s m ([.ref o, .int (nI jj), .int ii] : List Value).toArray below meth c H locs 0 0 (MQ below (va_Qi (fun (r : Int32) (u : Int32 × Int32 × Int32 × Int32 × (Nat → Int32) × Int32 × (Nat → Int32) × Int32) => match u with | (w0, w19, w20, w21, g23, w24, g25, w26) => (j_ix (nI jj) (nI sn) = false ∧ r = 0 ∧ w0 = 1) ∨ (j_ix (nI jj) (nI sn) = true ∧ ∃ j, j < sn ∧ (nI jj) = nI j ∧ ((ii = -1 ∧ w0 = 0 ∧ r = (if (if f17 j = 3 then [] else j_wf (fun th c9 bl => j_try (j_ss z18 (j_kbo (f17 j)) (j_src z18 th (j_nv f6 f7 f8 f10 f11 f12 f13 ck 0 100000) c9) (f17 j) (f15 j) (f16 j)) (j_tx (j_kbo (f17 j)) th f4 ln c9) bl) (99 + nn)).length = 0 then -1 else nI (if f17 j = 3 then [] else j_wf (fun th c9 bl => j_try (j_ss z18 (j_kbo (f17 j)) (j_src z18 th (j_nv f6 f7 f8 f10 f11 f12 f13 ck 0 100000) c9) (f17 j) (f15 j) (f16 j)) (j_tx (j_kbo (f17 j)) th f4 ln c9) bl) (99 + nn)).length)) ∨ (¬ ii = -1 ∧ w0 = 0 ∧ ∃ k, ii = nI k ∧ (if f17 j = 3 then [] else j_wf (fun th c9 bl => j_try (j_ss z18 (j_kbo (f17 j)) (j_src z18 th (j_nv f6 f7 f8 f10 f11 f12 f13 ck 0 100000) c9) (f17 j) (f15 j) (f16 j)) (j_tx (j_kbo (f17 j)) th f4 ln c9) bl) (99 + nn))[k]? = some r) ∨ (¬ ii = -1 ∧ w0 = 1 ∧ r = 0 ∧ (∀ k, k < (if f17 j = 3 then [] else j_wf (fun th c9 bl => j_try (j_ss z18 (j_kbo (f17 j)) (j_src z18 th (j_nv f6 f7 f8 f10 f11 f12 f13 ck 0 100000) c9) (f17 j) (f15 j) (f16 j)) (j_tx (j_kbo (f17 j)) th f4 ln c9) bl) (99 + nn)).length → ¬ ii = nI k))))) (qB D T A (fun u : Int32 × Int32 × Int32 × Int32 × (Nat → Int32) × Int32 × (Nat → Int32) × Int32 => match u with | (w0, w19, w20, w21, g23, w24, g25, w26) => mX T o a w0 z2 (nI nn) (nI sn) z18 w19 w20 w21 w24 w26 f1 f4 f5 f6 f7 f8 f9 f10 f11 f12 f13 f15 f16 f17 f22 g23 g25 f27)) A) ([.ref o, .int (nI jj), .int ii] : List Value).toArray s 0 0 A) (F0 m 52 ls []) := by
            intro n
            induction n with
            | zero => intro cq bn9 y19 y20 y21 y24 g23 g25 hc hbn9 hL H locs hP hD hS ls hl hm; exact absurd hm (Nat.not_lt_zero _)
            | succ n ih =>
              intro cq bn9 y19 y20 y21 y24 g23 g25 hc hbn9 hL H locs hP hD hS ls hl hm
              refine lv_iload hx hb d_M_word_52 (lv_at hl 4 rfl) ?_
              refine lv_bipush (v := 100) hx hb d_M_word_54 (by decide) ?_
              refine lv_aload_n hx hb d_M_word_56 rfl (lv_at hl 0 rfl) ?_
              refine va_get (D := D) (ci := 6) (v := .int (nI nn)) (C := "TimeWordsModel") (T := F_M) (N := 28) hx hb hw in_M hown hK hP 0 rfl rfl 3 (by decide) (hw _ fl_M_76) (fun _ h9 => h9) rfl d_M_word_57 ?_
              refine lv_iadd hx hb d_M_word_60 ?_
              rw [show 100 + (nI nn) = nI (100 + nn) from nI_add 100 nn]
              refine lv_icmp_ge (tgt := 121) hx hb d_M_word_61 (by decide) (fun c99 => ?_) (fun c99 => ?_)
              · have c99 := nc_le (a := 100 + nn) (b := cq + 1) c99 (by omega) (by omega)
                have hc9 : cq = 99 + nn := by omega
                have hL9 : j_ls g25 bn9 = bl9 := by rw [hbl9, ← hc9]; exact hL
                refine lv_aload_n hx hb d_M_word_121 rfl (lv_at hl 0 rfl) ?_
                refine lv_iload_n hx hb d_M_word_122 rfl (lv_at hl 2 rfl) ?_
                refine lv_iconst (v := (-1)) hx hb d_M_word_123 (by decide) ?_
                refine lv_icmp_eq (tgt := 141) hx hb d_M_word_124 (by decide) (fun c100 => ?_) (fun c100 => ?_)
                · subst c100
                  refine lv_iconst (v := 0) hx hb d_M_word_141 (by decide) ?_
                  refine lv_goto (tgt := 146) hx hb d_M_word_142 (by decide) ?_
                  refine va_put (D := D) (ci := 6) (v := .int 0) (ty := .int) (C := "TimeWordsModel") (T := F_M) (N := 28) hx hb hw in_M ty_M ty_M_ok n_M hown hK hP hD hS 0 rfl rfl 0 (by decide) (hw _ fl_M_69) (fun _ h9 => h9) rfl (by decide +kernel) rfl rfl (Nat.le_of_ble_eq_true rfl) d_M_word_146 (fun H locs hP hD hS => ?_)
                  have hP : va_P D gC (mX T o a 0 z2 (nI nn) (nI sn) z18 y19 y20 y21 y24 (nI bn9) f1 f4 f5 f6 f7 f8 f9 f10 f11 f12 f13 f15 f16 f17 f22 g23 g25 f27) H := hP
                  have hD : va_D A (mX T o a 0 z2 (nI nn) (nI sn) z18 y19 y20 y21 y24 (nI bn9) f1 f4 f5 f6 f7 f8 f9 f10 f11 f12 f13 f15 f16 f17 f22 g23 g25 f27) := hD
                  refine lv_aload_n hx hb d_M_word_149 rfl (lv_at hl 0 rfl) ?_
                  refine va_get (D := D) (ci := 6) (v := .int 0) (C := "TimeWordsModel") (T := F_M) (N := 28) hx hb hw in_M hown hK hP 0 rfl rfl 0 (by decide) (hw _ fl_M_69) (fun _ h9 => h9) rfl d_M_word_150 ?_
                  refine lv_if_le (tgt := 160) hx hb d_M_word_153 (by decide) (fun c101 => ?_) (fun c101 => absurd c101 (by decide))
                  refine lv_iload_n hx hb d_M_word_160 rfl (lv_at hl 2 rfl) ?_
                  refine lv_if_lt (tgt := 173) hx hb d_M_word_161 (by decide) (fun c102 => ?_) (fun c102 => absurd c102 (by decide))
                  refine lv_aload_n hx hb d_M_word_173 rfl (lv_at hl 0 rfl) ?_
                  refine va_get (D := D) (ci := 6) (v := .int (nI bn9)) (C := "TimeWordsModel") (T := F_M) (N := 28) hx hb hw in_M hown hK hP 0 rfl rfl 26 (by decide) (hw _ fl_M_187) (fun _ h9 => h9) rfl d_M_word_174 ?_
                  refine lv_if_ne (tgt := 184) hx hb d_M_word_177 (by decide) (fun c103 => ?_) (fun c103 => ?_)
                  · have c103 := nc_ne (a := bn9) (b := 0) c103 (by omega) (by omega)
                    refine lv_aload_n hx hb d_M_word_184 rfl (lv_at hl 0 rfl) ?_
                    refine va_get (D := D) (ci := 6) (v := .int (nI bn9)) (C := "TimeWordsModel") (T := F_M) (N := 28) hx hb hw in_M hown hK hP 0 rfl rfl 26 (by decide) (hw _ fl_M_187) (fun _ h9 => h9) rfl d_M_word_185 ?_
                    exact W.iret (v := nI bn9) hx hb hr (fun t ht hW => ⟨⟨nI bn9, (0, y19, y20, y21, g23, y24, g25, nI bn9), rfl, (Or.inr ⟨hix, jj, hjj, rfl, Or.inl ⟨rfl, rfl, by rw [hblE, ← hL9, ls_len, if_neg (by omega)]⟩⟩), by rw [ht]; exact hP, va_K.moved hW.alike hK, hD⟩, hS.F ht⟩) hS.2.2 d_M_word_188
                  · have c103 := nc_eq (a := bn9) (b := 0) c103 (by omega) (by omega)
                    refine lv_iconst (v := (-1)) hx hb d_M_word_180 (by decide) ?_
                    refine lv_goto (tgt := 188) hx hb d_M_word_181 (by decide) ?_
                    exact W.iret (v := (-1)) hx hb hr (fun t ht hW => ⟨⟨(-1), (0, y19, y20, y21, g23, y24, g25, nI bn9), rfl, (Or.inr ⟨hix, jj, hjj, rfl, Or.inl ⟨rfl, rfl, by rw [hblE, ← hL9, ls_len, if_pos (by omega)]⟩⟩), by rw [ht]; exact hP, va_K.moved hW.alike hK, hD⟩, hS.F ht⟩) hS.2.2 d_M_word_188
                · refine lv_iload_n hx hb d_M_word_127 rfl (lv_at hl 2 rfl) ?_
                  refine lv_iconst (v := 0) hx hb d_M_word_128 (by decide) ?_
                  refine lv_aload_n hx hb d_M_word_129 rfl (lv_at hl 0 rfl) ?_
                  refine va_get (D := D) (ci := 6) (v := .int (nI bn9)) (C := "TimeWordsModel") (T := F_M) (N := 28) hx hb hw in_M hown hK hP 0 rfl rfl 26 (by decide) (hw _ fl_M_187) (fun _ h9 => h9) rfl d_M_word_130 ?_
                  refine lv_iconst (v := 1) hx hb d_M_word_133 (by decide) ?_
                  refine lv_isub hx hb d_M_word_134 ?_
                  refine vp_callSi (va_Run.run (va_runS (As := [.int ii, .int 0, .int ((nI bn9) - 1)]) (rest := [.ref o]) ⟨hx, hb, hml, hown, hw⟩ (k_M_in l ii 0 ((nI bn9) - 1)) (va_cwS 3 hw (bg_S ml_M_72 wt_M_in wz_M wc_M_in) rfl rfl rfl (by decide +kernel) ⟨Nat.le_of_ble_eq_true rfl, Nat.le_of_ble_eq_true rfl⟩) ⟨nP_b, nP_p⟩ rfl rfl hl.1 rfl (lv_room (Nat.le_of_ble_eq_true rfl)) d_M_word_135 ⟨Nat.le_of_ble_eq_true rfl, Nat.le_of_ble_eq_true rfl⟩)) (fun r104 hr104 => ?_)
                  replace hr104 := hr104.symm; subst hr104
                  refine lv_if_eq (tgt := 145) hx hb d_M_word_138 (by decide) (fun c105 => ?_) (fun c105 => ?_)
                  · have c105 := b2i_f c105
                    refine lv_iconst (v := 1) hx hb d_M_word_145 (by decide) ?_
                    refine va_put (D := D) (ci := 6) (v := .int 1) (ty := .int) (C := "TimeWordsModel") (T := F_M) (N := 28) hx hb hw in_M ty_M ty_M_ok n_M hown hK hP hD hS 0 rfl rfl 0 (by decide) (hw _ fl_M_69) (fun _ h9 => h9) rfl (by decide +kernel) rfl rfl (Nat.le_of_ble_eq_true rfl) d_M_word_146 (fun H locs hP hD hS => ?_)
                    have hP : va_P D gC (mX T o a 1 z2 (nI nn) (nI sn) z18 y19 y20 y21 y24 (nI bn9) f1 f4 f5 f6 f7 f8 f9 f10 f11 f12 f13 f15 f16 f17 f22 g23 g25 f27) H := hP
                    have hD : va_D A (mX T o a 1 z2 (nI nn) (nI sn) z18 y19 y20 y21 y24 (nI bn9) f1 f4 f5 f6 f7 f8 f9 f10 f11 f12 f13 f15 f16 f17 f22 g23 g25 f27) := hD
                    refine lv_aload_n hx hb d_M_word_149 rfl (lv_at hl 0 rfl) ?_
                    refine va_get (D := D) (ci := 6) (v := .int 1) (C := "TimeWordsModel") (T := F_M) (N := 28) hx hb hw in_M hown hK hP 0 rfl rfl 0 (by decide) (hw _ fl_M_69) (fun _ h9 => h9) rfl d_M_word_150 ?_
                    refine lv_if_le (tgt := 160) hx hb d_M_word_153 (by decide) (fun c106 => absurd c106 (by decide)) (fun c106 => ?_)
                    refine lv_iconst (v := 0) hx hb d_M_word_156 (by decide) ?_
                    refine lv_goto (tgt := 188) hx hb d_M_word_157 (by decide) ?_
                    exact W.iret (v := 0) hx hb hr (fun t ht hW => ⟨⟨0, (1, y19, y20, y21, g23, y24, g25, nI bn9), rfl, (Or.inr ⟨hix, jj, hjj, rfl, Or.inr (Or.inr ⟨by assumption, rfl, rfl, fun k hk hk2 => by rw [hblE, ← hL9, ls_len] at hk; rw [hk2, in_bin hk (by omega)] at c105; cases c105⟩)⟩), by rw [ht]; exact hP, va_K.moved hW.alike hK, hD⟩, hS.F ht⟩) hS.2.2 d_M_word_188
                  · have c105 := b2i_t c105
                    obtain ⟨kk, hkk, rfl⟩ := in_best (by omega) c105
                    refine lv_iconst (v := 0) hx hb d_M_word_141 (by decide) ?_
                    refine lv_goto (tgt := 146) hx hb d_M_word_142 (by decide) ?_
                    refine va_put (D := D) (ci := 6) (v := .int 0) (ty := .int) (C := "TimeWordsModel") (T := F_M) (N := 28) hx hb hw in_M ty_M ty_M_ok n_M hown hK hP hD hS 0 rfl rfl 0 (by decide) (hw _ fl_M_69) (fun _ h9 => h9) rfl (by decide +kernel) rfl rfl (Nat.le_of_ble_eq_true rfl) d_M_word_146 (fun H locs hP hD hS => ?_)
                    have hP : va_P D gC (mX T o a 0 z2 (nI nn) (nI sn) z18 y19 y20 y21 y24 (nI bn9) f1 f4 f5 f6 f7 f8 f9 f10 f11 f12 f13 f15 f16 f17 f22 g23 g25 f27) H := hP
                    have hD : va_D A (mX T o a 0 z2 (nI nn) (nI sn) z18 y19 y20 y21 y24 (nI bn9) f1 f4 f5 f6 f7 f8 f9 f10 f11 f12 f13 f15 f16 f17 f22 g23 g25 f27) := hD
                    refine lv_aload_n hx hb d_M_word_149 rfl (lv_at hl 0 rfl) ?_
                    refine va_get (D := D) (ci := 6) (v := .int 0) (C := "TimeWordsModel") (T := F_M) (N := 28) hx hb hw in_M hown hK hP 0 rfl rfl 0 (by decide) (hw _ fl_M_69) (fun _ h9 => h9) rfl d_M_word_150 ?_
                    refine lv_if_le (tgt := 160) hx hb d_M_word_153 (by decide) (fun c107 => ?_) (fun c107 => absurd c107 (by decide))
                    refine lv_iload_n hx hb d_M_word_160 rfl (lv_at hl 2 rfl) ?_
                    refine lv_if_lt (tgt := 173) hx hb d_M_word_161 (by decide) (fun c108 => absurd c108 (nI_pos (by omega))) (fun c108 => ?_)
                    refine lv_aload_n hx hb d_M_word_164 rfl (lv_at hl 0 rfl) ?_
                    refine va_get (D := D) (ci := 6) (v := .ref (a 25)) (C := "TimeWordsModel") (T := F_M) (N := 28) hx hb hw in_M hown hK hP 0 rfl rfl 25 (by decide) (hw _ fl_M_63) (fun _ h9 => h9) rfl d_M_word_165 ?_
                    refine lv_iload_n hx hb d_M_word_168 rfl (lv_at hl 2 rfl) ?_
                    refine va_iald hx hb hK hP 17 0 rfl rfl (by first | assumption | exact vp_in_nI (by omega) (by omega)) d_M_word_169 ?_
                    rw [show (nI kk).toNatClampNeg = kk from nI_clamp (by omega)]
                    refine lv_goto (tgt := 188) hx hb d_M_word_170 (by decide) ?_
                    exact W.iret (v := g25 kk) hx hb hr (fun t ht hW => ⟨⟨g25 kk, (0, y19, y20, y21, g23, y24, g25, nI bn9), rfl, (Or.inr ⟨hix, jj, hjj, rfl, Or.inr (Or.inl ⟨(fun e9 : nI kk = -1 => absurd (e9 ▸ nI_pos' (n := kk) (by omega)) (by decide)), rfl, kk, rfl, by rw [hblE, ← hL9]; exact ls_get hkk⟩)⟩), by rw [ht]; exact hP, va_K.moved hW.alike hK, hD⟩, hS.F ht⟩) hS.2.2 d_M_word_188
              · have c99 := nc_nle (a := 100 + nn) (b := cq + 1) c99 (by omega) (by omega)
                refine lv_aload_n hx hb d_M_word_64 rfl (lv_at hl 0 rfl) ?_
                refine va_get (D := D) (ci := 6) (v := .ref (a 17)) (C := "TimeWordsModel") (T := F_M) (N := 28) hx hb hw in_M hown hK hP 0 rfl rfl 17 (by decide) (hw _ fl_M_50) (fun _ h9 => h9) rfl d_M_word_65 ?_
                refine lv_iload_n hx hb d_M_word_68 rfl (lv_at hl 1 rfl) ?_
                refine va_iald hx hb hK hP 14 0 rfl rfl (by first | assumption | exact vp_in_nI (by omega) (by omega)) d_M_word_69 ?_
                rw [show (nI jj).toNatClampNeg = jj from nI_clamp (by omega)]
                refine lv_iconst (v := 3) hx hb d_M_word_70 (by decide) ?_
                refine lv_icmp_eq (tgt := 121) hx hb d_M_word_71 (by decide) (fun c109 => absurd c109 (h39)) (fun c109 => ?_)
                refine lv_aload_n hx hb d_M_word_74 rfl (lv_at hl 0 rfl) ?_
                refine lv_iload_n hx hb d_M_word_75 rfl (lv_at hl 1 rfl) ?_
                refine lv_iload_n hx hb d_M_word_76 rfl (lv_at hl 3 rfl) ?_
                refine lv_iconst (v := (-1)) hx hb d_M_word_77 (by decide) ?_
                refine lv_iload hx hb d_M_word_78 (lv_at hl 4 rfl) ?_
                refine g_callv (va_runV (As := [.int (nI jj), .int 5, .int (-1), .int (nI (cq + 1))]) (rest := []) ⟨hx, hb, hml, hown, hw⟩ (k_M_tries l D T o a z0 z2 nn (nI sn) z18 y19 y20 y21 y24 bn9 f1 f4 f5 f6 f7 f8 f9 f10 f11 f12 f13 f15 f16 f17 f22 g23 g25 f27 H.size jj (some 5) none (cq + 1) ln ck _ (by omega) (fun b h => by cases h; decide) (fun b h => by cases h) (by omega) (by omega) hy1 hy2 hy3 hy4 hy5 hy6 hbn9 hL) (cwV 4 hw (bg_V ml_M_201 wi_M_tries wv_M_tries wz_M wc_M_tries) rfl rfl rfl (by decide +kernel) ⟨Nat.le_of_ble_eq_true rfl, Nat.le_of_ble_eq_true rfl⟩) ⟨qP_b, va_recv hK hP (ci := 6) (q0 := 0) rfl rfl, qP_p hP hK hD⟩ rfl rfl hl.1 rfl (lv_room (Nat.le_of_ble_eq_true rfl)) d_M_word_80 ⟨Nat.le_of_ble_eq_true rfl, Nat.le_of_ble_eq_true rfl⟩) hD hS hA (fun u9 H locs hr110 hP hD hS => ?_)
                obtain ⟨u111, u112, u113, u114, u115, u116, u117⟩ := u9
                dsimp only at hr110 hP hD
                have hP : va_P D gC (mX T o a z0 z2 (nI nn) (nI sn) z18 u111 u112 u113 u115 u117 f1 f4 f5 f6 f7 f8 f9 f10 f11 f12 f13 f15 f16 f17 f22 u114 u116 f27) H := hP
                have hD : va_D A (mX T o a z0 z2 (nI nn) (nI sn) z18 u111 u112 u113 u115 u117 f1 f4 f5 f6 f7 f8 f9 f10 f11 f12 f13 f15 f16 f17 f22 u114 u116 f27) := hD
                obtain ⟨m118, hm1, hmm118, hLm118⟩ := hr110
                subst hm1
                have hLm118 : j_ls u116 m118 = tr none (cq + 1) (j_wf tr cq) := by rw [htr] at hLm118 ⊢; exact hLm118
                refine lv_iconst (v := 0) hx hb d_M_word_83 (by decide) ?_
                refine lv_istore (lv' := [(5, .int 0), (0, .ref o), (1, .int (nI jj)), (2, .int ii), (3, .int 5), (4, .int (nI (cq + 1)))]) hx hb d_M_word_84 hl (by decide) rfl (fun ls hl => ?_)
                refine lv_iload hx hb d_M_word_86 (lv_at hl 0 rfl) ?_
                refine lv_iconst (v := 3) hx hb d_M_word_88 (by decide) ?_
                refine lv_icmp_ge (tgt := 115) hx hb d_M_word_89 (by decide) (fun c119 => absurd c119 (by decide)) (fun c119 => ?_)
                refine lv_iload hx hb d_M_word_92 (lv_at hl 5 rfl) ?_
                refine lv_bipush (v := 100) hx hb d_M_word_94 (by decide) ?_
                refine lv_icmp_ge (tgt := 115) hx hb d_M_word_96 (by decide) (fun c120 => ?_) (fun c120 => ?_)
                · have c120 := nc_le (a := 100) (b := cq + 1) c120 (by omega) (by omega)
                  refine lv_iinc (v := nI (cq + 1 + 1)) (lv' := [(4, .int (nI (cq + 1 + 1))), (5, .int 0), (0, .ref o), (1, .int (nI jj)), (2, .int ii), (3, .int 5)]) hx hb d_M_word_115 hl (k := 5) rfl (nI_add (cq + 1) 1) (by decide) rfl (fun ls hl => ?_)
                  refine lv_goto (tgt := 52) hx hb d_M_word_118 (by decide) ?_
                  exact ih (cq + 1) m118 u111 u112 u113 u115 u114 u116 (by omega) hmm118 (by rw [j_wf, if_neg (by omega)]; exact hLm118) _ _ hP hD hS ls (lv_sub hl [2, 3, 4, 5, 0] rfl) (by omega)
                · have c120 := nc_nle (a := 100) (b := cq + 1) c120 (by omega) (by omega)
                  refine lv_aload_n hx hb d_M_word_99 rfl (lv_at hl 1 rfl) ?_
                  refine lv_iload_n hx hb d_M_word_100 rfl (lv_at hl 2 rfl) ?_
                  refine lv_iload_n hx hb d_M_word_101 rfl (lv_at hl 4 rfl) ?_
                  refine lv_iload hx hb d_M_word_102 (lv_at hl 0 rfl) ?_
                  refine lv_iload hx hb d_M_word_104 (lv_at hl 5 rfl) ?_
                  refine g_callv (va_runV (As := [.int (nI jj), .int 5, .int 0, .int (nI (cq + 1))]) (rest := []) ⟨hx, hb, hml, hown, hw⟩ (k_M_tries l D T o a z0 z2 nn (nI sn) z18 u111 u112 u113 u115 m118 f1 f4 f5 f6 f7 f8 f9 f10 f11 f12 f13 f15 f16 f17 f22 u114 u116 f27 H.size jj (some 5) (some 0) (cq + 1) ln ck _ (by omega) (fun b h => by cases h; decide) (fun b h => by cases h; exact ⟨by decide, by omega⟩) (by omega) (by omega) hy1 hy2 hy3 hy4 hy5 hy6 hmm118 hLm118) (cwV 4 hw (bg_V ml_M_201 wi_M_tries wv_M_tries wz_M wc_M_tries) rfl rfl rfl (by decide +kernel) ⟨Nat.le_of_ble_eq_true rfl, Nat.le_of_ble_eq_true rfl⟩) ⟨qP_b, va_recv hK hP (ci := 6) (q0 := 0) rfl rfl, qP_p hP hK hD⟩ rfl rfl hl.1 rfl (lv_room (Nat.le_of_ble_eq_true rfl)) d_M_word_106 ⟨Nat.le_of_ble_eq_true rfl, Nat.le_of_ble_eq_true rfl⟩) hD hS hA (fun u9 H locs hr121 hP hD hS => ?_)
                  obtain ⟨u122, u123, u124, u125, u126, u127, u128⟩ := u9
                  dsimp only at hr121 hP hD
                  have hP : va_P D gC (mX T o a z0 z2 (nI nn) (nI sn) z18 u122 u123 u124 u126 u128 f1 f4 f5 f6 f7 f8 f9 f10 f11 f12 f13 f15 f16 f17 f22 u125 u127 f27) H := hP
                  have hD : va_D A (mX T o a z0 z2 (nI nn) (nI sn) z18 u122 u123 u124 u126 u128 f1 f4 f5 f6 f7 f8 f9 f10 f11 f12 f13 f15 f16 f17 f22 u125 u127 f27) := hD
                  obtain ⟨m129, hm1, hmm129, hLm129⟩ := hr121
                  subst hm1
                  have hLm129 : j_ls u127 m129 = tr (some 0) (cq + 1) (tr none (cq + 1) (j_wf tr cq)) := by rw [htr] at hLm129 ⊢; exact hLm129
                  refine lv_iinc (v := 1) (lv' := [(5, .int 1), (0, .ref o), (1, .int (nI jj)), (2, .int ii), (3, .int 5), (4, .int (nI (cq + 1)))]) hx hb d_M_word_109 hl (k := 0) rfl (by decide) (by decide) rfl (fun ls hl => ?_)
                  refine lv_goto (tgt := 86) hx hb d_M_word_112 (by decide) ?_
                  refine lv_iload hx hb d_M_word_86 (lv_at hl 0 rfl) ?_
                  refine lv_iconst (v := 3) hx hb d_M_word_88 (by decide) ?_
                  refine lv_icmp_ge (tgt := 115) hx hb d_M_word_89 (by decide) (fun c130 => absurd c130 (by decide)) (fun c130 => ?_)
                  refine lv_iload hx hb d_M_word_92 (lv_at hl 5 rfl) ?_
                  refine lv_bipush (v := 100) hx hb d_M_word_94 (by decide) ?_
                  refine lv_icmp_ge (tgt := 115) hx hb d_M_word_96 (by decide) (fun c131 => absurd c131 (nI_ge (a := cq + 1) (b := 100) (by omega) (by decide))) (fun c131 => ?_)
                  refine lv_aload_n hx hb d_M_word_99 rfl (lv_at hl 1 rfl) ?_
                  refine lv_iload_n hx hb d_M_word_100 rfl (lv_at hl 2 rfl) ?_
                  refine lv_iload_n hx hb d_M_word_101 rfl (lv_at hl 4 rfl) ?_
                  refine lv_iload hx hb d_M_word_102 (lv_at hl 0 rfl) ?_
                  refine lv_iload hx hb d_M_word_104 (lv_at hl 5 rfl) ?_
                  refine g_callv (va_runV (As := [.int (nI jj), .int 5, .int 1, .int (nI (cq + 1))]) (rest := []) ⟨hx, hb, hml, hown, hw⟩ (k_M_tries l D T o a z0 z2 nn (nI sn) z18 u122 u123 u124 u126 m129 f1 f4 f5 f6 f7 f8 f9 f10 f11 f12 f13 f15 f16 f17 f22 u125 u127 f27 H.size jj (some 5) (some 1) (cq + 1) ln ck _ (by omega) (fun b h => by cases h; decide) (fun b h => by cases h; exact ⟨by decide, by omega⟩) (by omega) (by omega) hy1 hy2 hy3 hy4 hy5 hy6 hmm129 hLm129) (cwV 4 hw (bg_V ml_M_201 wi_M_tries wv_M_tries wz_M wc_M_tries) rfl rfl rfl (by decide +kernel) ⟨Nat.le_of_ble_eq_true rfl, Nat.le_of_ble_eq_true rfl⟩) ⟨qP_b, va_recv hK hP (ci := 6) (q0 := 0) rfl rfl, qP_p hP hK hD⟩ rfl rfl hl.1 rfl (lv_room (Nat.le_of_ble_eq_true rfl)) d_M_word_106 ⟨Nat.le_of_ble_eq_true rfl, Nat.le_of_ble_eq_true rfl⟩) hD hS hA (fun u9 H locs hr132 hP hD hS => ?_)
                  obtain ⟨u133, u134, u135, u136, u137, u138, u139⟩ := u9
                  dsimp only at hr132 hP hD
                  have hP : va_P D gC (mX T o a z0 z2 (nI nn) (nI sn) z18 u133 u134 u135 u137 u139 f1 f4 f5 f6 f7 f8 f9 f10 f11 f12 f13 f15 f16 f17 f22 u136 u138 f27) H := hP
                  have hD : va_D A (mX T o a z0 z2 (nI nn) (nI sn) z18 u133 u134 u135 u137 u139 f1 f4 f5 f6 f7 f8 f9 f10 f11 f12 f13 f15 f16 f17 f22 u136 u138 f27) := hD
                  obtain ⟨m140, hm1, hmm140, hLm140⟩ := hr132
                  subst hm1
                  have hLm140 : j_ls u138 m140 = tr (some 1) (cq + 1) (tr (some 0) (cq + 1) (tr none (cq + 1) (j_wf tr cq))) := by rw [htr] at hLm140 ⊢; exact hLm140
                  refine lv_iinc (v := 2) (lv' := [(5, .int 2), (0, .ref o), (1, .int (nI jj)), (2, .int ii), (3, .int 5), (4, .int (nI (cq + 1)))]) hx hb d_M_word_109 hl (k := 0) rfl (by decide) (by decide) rfl (fun ls hl => ?_)
                  refine lv_goto (tgt := 86) hx hb d_M_word_112 (by decide) ?_
                  refine lv_iload hx hb d_M_word_86 (lv_at hl 0 rfl) ?_
                  refine lv_iconst (v := 3) hx hb d_M_word_88 (by decide) ?_
                  refine lv_icmp_ge (tgt := 115) hx hb d_M_word_89 (by decide) (fun c141 => absurd c141 (by decide)) (fun c141 => ?_)
                  refine lv_iload hx hb d_M_word_92 (lv_at hl 5 rfl) ?_
                  refine lv_bipush (v := 100) hx hb d_M_word_94 (by decide) ?_
                  refine lv_icmp_ge (tgt := 115) hx hb d_M_word_96 (by decide) (fun c142 => absurd c142 (nI_ge (a := cq + 1) (b := 100) (by omega) (by decide))) (fun c142 => ?_)
                  refine lv_aload_n hx hb d_M_word_99 rfl (lv_at hl 1 rfl) ?_
                  refine lv_iload_n hx hb d_M_word_100 rfl (lv_at hl 2 rfl) ?_
                  refine lv_iload_n hx hb d_M_word_101 rfl (lv_at hl 4 rfl) ?_
                  refine lv_iload hx hb d_M_word_102 (lv_at hl 0 rfl) ?_
                  refine lv_iload hx hb d_M_word_104 (lv_at hl 5 rfl) ?_
                  refine g_callv (va_runV (As := [.int (nI jj), .int 5, .int 2, .int (nI (cq + 1))]) (rest := []) ⟨hx, hb, hml, hown, hw⟩ (k_M_tries l D T o a z0 z2 nn (nI sn) z18 u133 u134 u135 u137 m140 f1 f4 f5 f6 f7 f8 f9 f10 f11 f12 f13 f15 f16 f17 f22 u136 u138 f27 H.size jj (some 5) (some 2) (cq + 1) ln ck _ (by omega) (fun b h => by cases h; decide) (fun b h => by cases h; exact ⟨by decide, by omega⟩) (by omega) (by omega) hy1 hy2 hy3 hy4 hy5 hy6 hmm140 hLm140) (cwV 4 hw (bg_V ml_M_201 wi_M_tries wv_M_tries wz_M wc_M_tries) rfl rfl rfl (by decide +kernel) ⟨Nat.le_of_ble_eq_true rfl, Nat.le_of_ble_eq_true rfl⟩) ⟨qP_b, va_recv hK hP (ci := 6) (q0 := 0) rfl rfl, qP_p hP hK hD⟩ rfl rfl hl.1 rfl (lv_room (Nat.le_of_ble_eq_true rfl)) d_M_word_106 ⟨Nat.le_of_ble_eq_true rfl, Nat.le_of_ble_eq_true rfl⟩) hD hS hA (fun u9 H locs hr143 hP hD hS => ?_)
                  obtain ⟨u144, u145, u146, u147, u148, u149, u150⟩ := u9
                  dsimp only at hr143 hP hD
                  have hP : va_P D gC (mX T o a z0 z2 (nI nn) (nI sn) z18 u144 u145 u146 u148 u150 f1 f4 f5 f6 f7 f8 f9 f10 f11 f12 f13 f15 f16 f17 f22 u147 u149 f27) H := hP
                  have hD : va_D A (mX T o a z0 z2 (nI nn) (nI sn) z18 u144 u145 u146 u148 u150 f1 f4 f5 f6 f7 f8 f9 f10 f11 f12 f13 f15 f16 f17 f22 u147 u149 f27) := hD
                  obtain ⟨m151, hm1, hmm151, hLm151⟩ := hr143
                  subst hm1
                  have hLm151 : j_ls u149 m151 = tr (some 2) (cq + 1) (tr (some 1) (cq + 1) (tr (some 0) (cq + 1) (tr none (cq + 1) (j_wf tr cq)))) := by rw [htr] at hLm151 ⊢; exact hLm151
                  refine lv_iinc (v := 3) (lv' := [(5, .int 3), (0, .ref o), (1, .int (nI jj)), (2, .int ii), (3, .int 5), (4, .int (nI (cq + 1)))]) hx hb d_M_word_109 hl (k := 0) rfl (by decide) (by decide) rfl (fun ls hl => ?_)
                  refine lv_goto (tgt := 86) hx hb d_M_word_112 (by decide) ?_
                  refine lv_iload hx hb d_M_word_86 (lv_at hl 0 rfl) ?_
                  refine lv_iconst (v := 3) hx hb d_M_word_88 (by decide) ?_
                  refine lv_icmp_ge (tgt := 115) hx hb d_M_word_89 (by decide) (fun c152 => ?_) (fun c152 => absurd c152 (by decide))
                  refine lv_iinc (v := nI (cq + 1 + 1)) (lv' := [(4, .int (nI (cq + 1 + 1))), (5, .int 3), (0, .ref o), (1, .int (nI jj)), (2, .int ii), (3, .int 5)]) hx hb d_M_word_115 hl (k := 5) rfl (nI_add (cq + 1) 1) (by decide) rfl (fun ls hl => ?_)
                  refine lv_goto (tgt := 52) hx hb d_M_word_118 (by decide) ?_
                  exact ih (cq + 1) m151 u144 u145 u146 u148 u147 u149 (by omega) hmm151 (by rw [j_wf, if_pos (by omega)]; exact hLm151) _ _ hP hD hS ls (lv_sub hl [2, 3, 4, 5, 0] rfl) (by omega)
          exact loop ((99 + nn - 0) + 1) 0 0 z19 z20 z21 z24 f23 f25 (Nat.zero_le _) (Nat.zero_le _) rfl _ _ hP hD hS ls (lv_sub hl [2, 3, 4, 1, 0] rfl) (Nat.lt_succ_self _)
    · refine lv_iconst (v := 4) hx hb d_M_word_29 (by decide) ?_
      refine lv_goto (tgt := 48) hx hb d_M_word_30 (by decide) ?_
      refine lv_istore_n (lv' := [(3, .int 4), (0, .ref o), (1, .int (nI jj)), (2, .int ii)]) hx hb d_M_word_48 rfl hl (by decide) rfl (fun ls hl => ?_)
      refine lv_iconst (v := 1) hx hb d_M_word_49 (by decide) ?_
      refine lv_istore (lv' := [(4, .int 1), (3, .int 4), (0, .ref o), (1, .int (nI jj)), (2, .int ii)]) hx hb d_M_word_50 hl (by decide) rfl (fun ls hl => ?_)
      have hkb : j_kbo (f17 jj) = some 4 := (by simp only [j_kbo, c2, if_pos c3, decide_eq_true c3])
      obtain ⟨bl9, hblE⟩ : ∃ q9, (if f17 jj = 3 then [] else j_wf (fun th c9 bl => j_try (j_ss z18 (j_kbo (f17 jj)) (j_src z18 th (j_nv f6 f7 f8 f10 f11 f12 f13 ck 0 100000) c9) (f17 jj) (f15 jj) (f16 jj)) (j_tx (j_kbo (f17 jj)) th f4 ln c9) bl) (99 + nn)) = q9 := ⟨_, rfl⟩
      have hbl9 := hblE.symm
      rw [hkb] at hbl9
      rcases Classical.em (f17 jj = 3) with h39 | h39
      · rw [if_pos h39] at hbl9
        have hL9 : j_ls f25 0 = bl9 := by rw [hbl9]; rfl
        have hP : va_P D gC (mX T o a z0 z2 (nI nn) (nI sn) z18 z19 z20 z21 z24 (nI 0) f1 f4 f5 f6 f7 f8 f9 f10 f11 f12 f13 f15 f16 f17 f22 f23 f25 f27) H := hP
        have hD : va_D A (mX T o a z0 z2 (nI nn) (nI sn) z18 z19 z20 z21 z24 (nI 0) f1 f4 f5 f6 f7 f8 f9 f10 f11 f12 f13 f15 f16 f17 f22 f23 f25 f27) := hD
        refine lv_iload hx hb d_M_word_52 (lv_at hl 0 rfl) ?_
        refine lv_bipush (v := 100) hx hb d_M_word_54 (by decide) ?_
        refine lv_aload_n hx hb d_M_word_56 rfl (lv_at hl 2 rfl) ?_
        refine va_get (D := D) (ci := 6) (v := .int (nI nn)) (C := "TimeWordsModel") (T := F_M) (N := 28) hx hb hw in_M hown hK hP 0 rfl rfl 3 (by decide) (hw _ fl_M_76) (fun _ h9 => h9) rfl d_M_word_57 ?_
        refine lv_iadd hx hb d_M_word_60 ?_
        rw [show 100 + (nI nn) = nI (100 + nn) from nI_add 100 nn]
        refine lv_icmp_ge (tgt := 121) hx hb d_M_word_61 (by decide) (fun c153 => ?_) (fun c153 => ?_)
        · have c153 := nc_le (a := 100 + nn) (b := 1) c153 (by omega) (by omega)
          refine lv_aload_n hx hb d_M_word_121 rfl (lv_at hl 2 rfl) ?_
          refine lv_iload_n hx hb d_M_word_122 rfl (lv_at hl 4 rfl) ?_
          refine lv_iconst (v := (-1)) hx hb d_M_word_123 (by decide) ?_
          refine lv_icmp_eq (tgt := 141) hx hb d_M_word_124 (by decide) (fun c154 => ?_) (fun c154 => ?_)
          · subst c154
            refine lv_iconst (v := 0) hx hb d_M_word_141 (by decide) ?_
            refine lv_goto (tgt := 146) hx hb d_M_word_142 (by decide) ?_
            refine va_put (D := D) (ci := 6) (v := .int 0) (ty := .int) (C := "TimeWordsModel") (T := F_M) (N := 28) hx hb hw in_M ty_M ty_M_ok n_M hown hK hP hD hS 0 rfl rfl 0 (by decide) (hw _ fl_M_69) (fun _ h9 => h9) rfl (by decide +kernel) rfl rfl (Nat.le_of_ble_eq_true rfl) d_M_word_146 (fun H locs hP hD hS => ?_)
            have hP : va_P D gC (mX T o a 0 z2 (nI nn) (nI sn) z18 z19 z20 z21 z24 (nI 0) f1 f4 f5 f6 f7 f8 f9 f10 f11 f12 f13 f15 f16 f17 f22 f23 f25 f27) H := hP
            have hD : va_D A (mX T o a 0 z2 (nI nn) (nI sn) z18 z19 z20 z21 z24 (nI 0) f1 f4 f5 f6 f7 f8 f9 f10 f11 f12 f13 f15 f16 f17 f22 f23 f25 f27) := hD
            refine lv_aload_n hx hb d_M_word_149 rfl (lv_at hl 2 rfl) ?_
            refine va_get (D := D) (ci := 6) (v := .int 0) (C := "TimeWordsModel") (T := F_M) (N := 28) hx hb hw in_M hown hK hP 0 rfl rfl 0 (by decide) (hw _ fl_M_69) (fun _ h9 => h9) rfl d_M_word_150 ?_
            refine lv_if_le (tgt := 160) hx hb d_M_word_153 (by decide) (fun c155 => ?_) (fun c155 => absurd c155 (by decide))
            refine lv_iload_n hx hb d_M_word_160 rfl (lv_at hl 4 rfl) ?_
            refine lv_if_lt (tgt := 173) hx hb d_M_word_161 (by decide) (fun c156 => ?_) (fun c156 => absurd c156 (by decide))
            refine lv_aload_n hx hb d_M_word_173 rfl (lv_at hl 2 rfl) ?_
            refine va_get (D := D) (ci := 6) (v := .int (nI 0)) (C := "TimeWordsModel") (T := F_M) (N := 28) hx hb hw in_M hown hK hP 0 rfl rfl 26 (by decide) (hw _ fl_M_187) (fun _ h9 => h9) rfl d_M_word_174 ?_
            refine lv_if_ne (tgt := 184) hx hb d_M_word_177 (by decide) (fun c157 => absurd c157 (by decide)) (fun c157 => ?_)
            refine lv_iconst (v := (-1)) hx hb d_M_word_180 (by decide) ?_
            refine lv_goto (tgt := 188) hx hb d_M_word_181 (by decide) ?_
            exact W.iret (v := (-1)) hx hb hr (fun t ht hW => ⟨⟨(-1), (0, z19, z20, z21, f23, z24, f25, nI 0), rfl, (Or.inr ⟨hix, jj, hjj, rfl, Or.inl ⟨rfl, rfl, by rw [hblE, ← hL9, ls_len, if_pos (by omega)]⟩⟩), by rw [ht]; exact hP, va_K.moved hW.alike hK, hD⟩, hS.F ht⟩) hS.2.2 d_M_word_188
          · refine lv_iload_n hx hb d_M_word_127 rfl (lv_at hl 4 rfl) ?_
            refine lv_iconst (v := 0) hx hb d_M_word_128 (by decide) ?_
            refine lv_aload_n hx hb d_M_word_129 rfl (lv_at hl 2 rfl) ?_
            refine va_get (D := D) (ci := 6) (v := .int (nI 0)) (C := "TimeWordsModel") (T := F_M) (N := 28) hx hb hw in_M hown hK hP 0 rfl rfl 26 (by decide) (hw _ fl_M_187) (fun _ h9 => h9) rfl d_M_word_130 ?_
            refine lv_iconst (v := 1) hx hb d_M_word_133 (by decide) ?_
            refine lv_isub hx hb d_M_word_134 ?_
            refine vp_callSi (va_Run.run (va_runS (As := [.int ii, .int 0, .int ((nI 0) - 1)]) (rest := [.ref o]) ⟨hx, hb, hml, hown, hw⟩ (k_M_in l ii 0 ((nI 0) - 1)) (va_cwS 3 hw (bg_S ml_M_72 wt_M_in wz_M wc_M_in) rfl rfl rfl (by decide +kernel) ⟨Nat.le_of_ble_eq_true rfl, Nat.le_of_ble_eq_true rfl⟩) ⟨nP_b, nP_p⟩ rfl rfl hl.1 rfl (lv_room (Nat.le_of_ble_eq_true rfl)) d_M_word_135 ⟨Nat.le_of_ble_eq_true rfl, Nat.le_of_ble_eq_true rfl⟩)) (fun r158 hr158 => ?_)
            replace hr158 := hr158.symm; subst hr158
            refine lv_if_eq (tgt := 145) hx hb d_M_word_138 (by decide) (fun c159 => ?_) (fun c159 => ?_)
            · have c159 := b2i_f c159
              refine lv_iconst (v := 1) hx hb d_M_word_145 (by decide) ?_
              refine va_put (D := D) (ci := 6) (v := .int 1) (ty := .int) (C := "TimeWordsModel") (T := F_M) (N := 28) hx hb hw in_M ty_M ty_M_ok n_M hown hK hP hD hS 0 rfl rfl 0 (by decide) (hw _ fl_M_69) (fun _ h9 => h9) rfl (by decide +kernel) rfl rfl (Nat.le_of_ble_eq_true rfl) d_M_word_146 (fun H locs hP hD hS => ?_)
              have hP : va_P D gC (mX T o a 1 z2 (nI nn) (nI sn) z18 z19 z20 z21 z24 (nI 0) f1 f4 f5 f6 f7 f8 f9 f10 f11 f12 f13 f15 f16 f17 f22 f23 f25 f27) H := hP
              have hD : va_D A (mX T o a 1 z2 (nI nn) (nI sn) z18 z19 z20 z21 z24 (nI 0) f1 f4 f5 f6 f7 f8 f9 f10 f11 f12 f13 f15 f16 f17 f22 f23 f25 f27) := hD
              refine lv_aload_n hx hb d_M_word_149 rfl (lv_at hl 2 rfl) ?_
              refine va_get (D := D) (ci := 6) (v := .int 1) (C := "TimeWordsModel") (T := F_M) (N := 28) hx hb hw in_M hown hK hP 0 rfl rfl 0 (by decide) (hw _ fl_M_69) (fun _ h9 => h9) rfl d_M_word_150 ?_
              refine lv_if_le (tgt := 160) hx hb d_M_word_153 (by decide) (fun c160 => absurd c160 (by decide)) (fun c160 => ?_)
              refine lv_iconst (v := 0) hx hb d_M_word_156 (by decide) ?_
              refine lv_goto (tgt := 188) hx hb d_M_word_157 (by decide) ?_
              exact W.iret (v := 0) hx hb hr (fun t ht hW => ⟨⟨0, (1, z19, z20, z21, f23, z24, f25, nI 0), rfl, (Or.inr ⟨hix, jj, hjj, rfl, Or.inr (Or.inr ⟨by assumption, rfl, rfl, fun k hk hk2 => by rw [hblE, ← hL9, ls_len] at hk; rw [hk2, in_bin hk (by omega)] at c159; cases c159⟩)⟩), by rw [ht]; exact hP, va_K.moved hW.alike hK, hD⟩, hS.F ht⟩) hS.2.2 d_M_word_188
            · have c159 := b2i_t c159
              obtain ⟨kk, hkk, rfl⟩ := in_best (by omega) c159
              refine lv_iconst (v := 0) hx hb d_M_word_141 (by decide) ?_
              refine lv_goto (tgt := 146) hx hb d_M_word_142 (by decide) ?_
              refine va_put (D := D) (ci := 6) (v := .int 0) (ty := .int) (C := "TimeWordsModel") (T := F_M) (N := 28) hx hb hw in_M ty_M ty_M_ok n_M hown hK hP hD hS 0 rfl rfl 0 (by decide) (hw _ fl_M_69) (fun _ h9 => h9) rfl (by decide +kernel) rfl rfl (Nat.le_of_ble_eq_true rfl) d_M_word_146 (fun H locs hP hD hS => ?_)
              have hP : va_P D gC (mX T o a 0 z2 (nI nn) (nI sn) z18 z19 z20 z21 z24 (nI 0) f1 f4 f5 f6 f7 f8 f9 f10 f11 f12 f13 f15 f16 f17 f22 f23 f25 f27) H := hP
              have hD : va_D A (mX T o a 0 z2 (nI nn) (nI sn) z18 z19 z20 z21 z24 (nI 0) f1 f4 f5 f6 f7 f8 f9 f10 f11 f12 f13 f15 f16 f17 f22 f23 f25 f27) := hD
              refine lv_aload_n hx hb d_M_word_149 rfl (lv_at hl 2 rfl) ?_
              refine va_get (D := D) (ci := 6) (v := .int 0) (C := "TimeWordsModel") (T := F_M) (N := 28) hx hb hw in_M hown hK hP 0 rfl rfl 0 (by decide) (hw _ fl_M_69) (fun _ h9 => h9) rfl d_M_word_150 ?_
              refine lv_if_le (tgt := 160) hx hb d_M_word_153 (by decide) (fun c161 => ?_) (fun c161 => absurd c161 (by decide))
              refine lv_iload_n hx hb d_M_word_160 rfl (lv_at hl 4 rfl) ?_
              refine lv_if_lt (tgt := 173) hx hb d_M_word_161 (by decide) (fun c162 => absurd c162 (nI_pos (by omega))) (fun c162 => ?_)
              refine lv_aload_n hx hb d_M_word_164 rfl (lv_at hl 2 rfl) ?_
              refine va_get (D := D) (ci := 6) (v := .ref (a 25)) (C := "TimeWordsModel") (T := F_M) (N := 28) hx hb hw in_M hown hK hP 0 rfl rfl 25 (by decide) (hw _ fl_M_63) (fun _ h9 => h9) rfl d_M_word_165 ?_
              refine lv_iload_n hx hb d_M_word_168 rfl (lv_at hl 4 rfl) ?_
              refine va_iald hx hb hK hP 17 0 rfl rfl (by first | assumption | exact vp_in_nI (by omega) (by omega)) d_M_word_169 ?_
              rw [show (nI kk).toNatClampNeg = kk from nI_clamp (by omega)]
              refine lv_goto (tgt := 188) hx hb d_M_word_170 (by decide) ?_
              exact W.iret (v := f25 kk) hx hb hr (fun t ht hW => ⟨⟨f25 kk, (0, z19, z20, z21, f23, z24, f25, nI 0), rfl, (Or.inr ⟨hix, jj, hjj, rfl, Or.inr (Or.inl ⟨(fun e9 : nI kk = -1 => absurd (e9 ▸ nI_pos' (n := kk) (by omega)) (by decide)), rfl, kk, rfl, by rw [hblE, ← hL9]; exact ls_get hkk⟩)⟩), by rw [ht]; exact hP, va_K.moved hW.alike hK, hD⟩, hS.F ht⟩) hS.2.2 d_M_word_188
        · have c153 := nc_nle (a := 100 + nn) (b := 1) c153 (by omega) (by omega)
          refine lv_aload_n hx hb d_M_word_64 rfl (lv_at hl 2 rfl) ?_
          refine va_get (D := D) (ci := 6) (v := .ref (a 17)) (C := "TimeWordsModel") (T := F_M) (N := 28) hx hb hw in_M hown hK hP 0 rfl rfl 17 (by decide) (hw _ fl_M_50) (fun _ h9 => h9) rfl d_M_word_65 ?_
          refine lv_iload_n hx hb d_M_word_68 rfl (lv_at hl 3 rfl) ?_
          refine va_iald hx hb hK hP 14 0 rfl rfl (by first | assumption | exact vp_in_nI (by omega) (by omega)) d_M_word_69 ?_
          rw [show (nI jj).toNatClampNeg = jj from nI_clamp (by omega)]
          refine lv_iconst (v := 3) hx hb d_M_word_70 (by decide) ?_
          refine lv_icmp_eq (tgt := 121) hx hb d_M_word_71 (by decide) (fun c163 => ?_) (fun c163 => absurd (h39) c163)
          refine lv_aload_n hx hb d_M_word_121 rfl (lv_at hl 2 rfl) ?_
          refine lv_iload_n hx hb d_M_word_122 rfl (lv_at hl 4 rfl) ?_
          refine lv_iconst (v := (-1)) hx hb d_M_word_123 (by decide) ?_
          refine lv_icmp_eq (tgt := 141) hx hb d_M_word_124 (by decide) (fun c164 => ?_) (fun c164 => ?_)
          · subst c164
            refine lv_iconst (v := 0) hx hb d_M_word_141 (by decide) ?_
            refine lv_goto (tgt := 146) hx hb d_M_word_142 (by decide) ?_
            refine va_put (D := D) (ci := 6) (v := .int 0) (ty := .int) (C := "TimeWordsModel") (T := F_M) (N := 28) hx hb hw in_M ty_M ty_M_ok n_M hown hK hP hD hS 0 rfl rfl 0 (by decide) (hw _ fl_M_69) (fun _ h9 => h9) rfl (by decide +kernel) rfl rfl (Nat.le_of_ble_eq_true rfl) d_M_word_146 (fun H locs hP hD hS => ?_)
            have hP : va_P D gC (mX T o a 0 z2 (nI nn) (nI sn) z18 z19 z20 z21 z24 (nI 0) f1 f4 f5 f6 f7 f8 f9 f10 f11 f12 f13 f15 f16 f17 f22 f23 f25 f27) H := hP
            have hD : va_D A (mX T o a 0 z2 (nI nn) (nI sn) z18 z19 z20 z21 z24 (nI 0) f1 f4 f5 f6 f7 f8 f9 f10 f11 f12 f13 f15 f16 f17 f22 f23 f25 f27) := hD
            refine lv_aload_n hx hb d_M_word_149 rfl (lv_at hl 2 rfl) ?_
            refine va_get (D := D) (ci := 6) (v := .int 0) (C := "TimeWordsModel") (T := F_M) (N := 28) hx hb hw in_M hown hK hP 0 rfl rfl 0 (by decide) (hw _ fl_M_69) (fun _ h9 => h9) rfl d_M_word_150 ?_
            refine lv_if_le (tgt := 160) hx hb d_M_word_153 (by decide) (fun c165 => ?_) (fun c165 => absurd c165 (by decide))
            refine lv_iload_n hx hb d_M_word_160 rfl (lv_at hl 4 rfl) ?_
            refine lv_if_lt (tgt := 173) hx hb d_M_word_161 (by decide) (fun c166 => ?_) (fun c166 => absurd c166 (by decide))
            refine lv_aload_n hx hb d_M_word_173 rfl (lv_at hl 2 rfl) ?_
            refine va_get (D := D) (ci := 6) (v := .int (nI 0)) (C := "TimeWordsModel") (T := F_M) (N := 28) hx hb hw in_M hown hK hP 0 rfl rfl 26 (by decide) (hw _ fl_M_187) (fun _ h9 => h9) rfl d_M_word_174 ?_
            refine lv_if_ne (tgt := 184) hx hb d_M_word_177 (by decide) (fun c167 => absurd c167 (by decide)) (fun c167 => ?_)
            refine lv_iconst (v := (-1)) hx hb d_M_word_180 (by decide) ?_
            refine lv_goto (tgt := 188) hx hb d_M_word_181 (by decide) ?_
            exact W.iret (v := (-1)) hx hb hr (fun t ht hW => ⟨⟨(-1), (0, z19, z20, z21, f23, z24, f25, nI 0), rfl, (Or.inr ⟨hix, jj, hjj, rfl, Or.inl ⟨rfl, rfl, by rw [hblE, ← hL9, ls_len, if_pos (by omega)]⟩⟩), by rw [ht]; exact hP, va_K.moved hW.alike hK, hD⟩, hS.F ht⟩) hS.2.2 d_M_word_188
          · refine lv_iload_n hx hb d_M_word_127 rfl (lv_at hl 4 rfl) ?_
            refine lv_iconst (v := 0) hx hb d_M_word_128 (by decide) ?_
            refine lv_aload_n hx hb d_M_word_129 rfl (lv_at hl 2 rfl) ?_
            refine va_get (D := D) (ci := 6) (v := .int (nI 0)) (C := "TimeWordsModel") (T := F_M) (N := 28) hx hb hw in_M hown hK hP 0 rfl rfl 26 (by decide) (hw _ fl_M_187) (fun _ h9 => h9) rfl d_M_word_130 ?_
            refine lv_iconst (v := 1) hx hb d_M_word_133 (by decide) ?_
            refine lv_isub hx hb d_M_word_134 ?_
            refine vp_callSi (va_Run.run (va_runS (As := [.int ii, .int 0, .int ((nI 0) - 1)]) (rest := [.ref o]) ⟨hx, hb, hml, hown, hw⟩ (k_M_in l ii 0 ((nI 0) - 1)) (va_cwS 3 hw (bg_S ml_M_72 wt_M_in wz_M wc_M_in) rfl rfl rfl (by decide +kernel) ⟨Nat.le_of_ble_eq_true rfl, Nat.le_of_ble_eq_true rfl⟩) ⟨nP_b, nP_p⟩ rfl rfl hl.1 rfl (lv_room (Nat.le_of_ble_eq_true rfl)) d_M_word_135 ⟨Nat.le_of_ble_eq_true rfl, Nat.le_of_ble_eq_true rfl⟩)) (fun r168 hr168 => ?_)
            replace hr168 := hr168.symm; subst hr168
            refine lv_if_eq (tgt := 145) hx hb d_M_word_138 (by decide) (fun c169 => ?_) (fun c169 => ?_)
            · have c169 := b2i_f c169
              refine lv_iconst (v := 1) hx hb d_M_word_145 (by decide) ?_
              refine va_put (D := D) (ci := 6) (v := .int 1) (ty := .int) (C := "TimeWordsModel") (T := F_M) (N := 28) hx hb hw in_M ty_M ty_M_ok n_M hown hK hP hD hS 0 rfl rfl 0 (by decide) (hw _ fl_M_69) (fun _ h9 => h9) rfl (by decide +kernel) rfl rfl (Nat.le_of_ble_eq_true rfl) d_M_word_146 (fun H locs hP hD hS => ?_)
              have hP : va_P D gC (mX T o a 1 z2 (nI nn) (nI sn) z18 z19 z20 z21 z24 (nI 0) f1 f4 f5 f6 f7 f8 f9 f10 f11 f12 f13 f15 f16 f17 f22 f23 f25 f27) H := hP
              have hD : va_D A (mX T o a 1 z2 (nI nn) (nI sn) z18 z19 z20 z21 z24 (nI 0) f1 f4 f5 f6 f7 f8 f9 f10 f11 f12 f13 f15 f16 f17 f22 f23 f25 f27) := hD
              refine lv_aload_n hx hb d_M_word_149 rfl (lv_at hl 2 rfl) ?_
              refine va_get (D := D) (ci := 6) (v := .int 1) (C := "TimeWordsModel") (T := F_M) (N := 28) hx hb hw in_M hown hK hP 0 rfl rfl 0 (by decide) (hw _ fl_M_69) (fun _ h9 => h9) rfl d_M_word_150 ?_
              refine lv_if_le (tgt := 160) hx hb d_M_word_153 (by decide) (fun c170 => absurd c170 (by decide)) (fun c170 => ?_)
              refine lv_iconst (v := 0) hx hb d_M_word_156 (by decide) ?_
              refine lv_goto (tgt := 188) hx hb d_M_word_157 (by decide) ?_
              exact W.iret (v := 0) hx hb hr (fun t ht hW => ⟨⟨0, (1, z19, z20, z21, f23, z24, f25, nI 0), rfl, (Or.inr ⟨hix, jj, hjj, rfl, Or.inr (Or.inr ⟨by assumption, rfl, rfl, fun k hk hk2 => by rw [hblE, ← hL9, ls_len] at hk; rw [hk2, in_bin hk (by omega)] at c169; cases c169⟩)⟩), by rw [ht]; exact hP, va_K.moved hW.alike hK, hD⟩, hS.F ht⟩) hS.2.2 d_M_word_188
            · have c169 := b2i_t c169
              obtain ⟨kk, hkk, rfl⟩ := in_best (by omega) c169
              refine lv_iconst (v := 0) hx hb d_M_word_141 (by decide) ?_
              refine lv_goto (tgt := 146) hx hb d_M_word_142 (by decide) ?_
              refine va_put (D := D) (ci := 6) (v := .int 0) (ty := .int) (C := "TimeWordsModel") (T := F_M) (N := 28) hx hb hw in_M ty_M ty_M_ok n_M hown hK hP hD hS 0 rfl rfl 0 (by decide) (hw _ fl_M_69) (fun _ h9 => h9) rfl (by decide +kernel) rfl rfl (Nat.le_of_ble_eq_true rfl) d_M_word_146 (fun H locs hP hD hS => ?_)
              have hP : va_P D gC (mX T o a 0 z2 (nI nn) (nI sn) z18 z19 z20 z21 z24 (nI 0) f1 f4 f5 f6 f7 f8 f9 f10 f11 f12 f13 f15 f16 f17 f22 f23 f25 f27) H := hP
              have hD : va_D A (mX T o a 0 z2 (nI nn) (nI sn) z18 z19 z20 z21 z24 (nI 0) f1 f4 f5 f6 f7 f8 f9 f10 f11 f12 f13 f15 f16 f17 f22 f23 f25 f27) := hD
              refine lv_aload_n hx hb d_M_word_149 rfl (lv_at hl 2 rfl) ?_
              refine va_get (D := D) (ci := 6) (v := .int 0) (C := "TimeWordsModel") (T := F_M) (N := 28) hx hb hw in_M hown hK hP 0 rfl rfl 0 (by decide) (hw _ fl_M_69) (fun _ h9 => h9) rfl d_M_word_150 ?_
              refine lv_if_le (tgt := 160) hx hb d_M_word_153 (by decide) (fun c171 => ?_) (fun c171 => absurd c171 (by decide))
              refine lv_iload_n hx hb d_M_word_160 rfl (lv_at hl 4 rfl) ?_
              refine lv_if_lt (tgt := 173) hx hb d_M_word_161 (by decide) (fun c172 => absurd c172 (nI_pos (by omega))) (fun c172 => ?_)
              refine lv_aload_n hx hb d_M_word_164 rfl (lv_at hl 2 rfl) ?_
              refine va_get (D := D) (ci := 6) (v := .ref (a 25)) (C := "TimeWordsModel") (T := F_M) (N := 28) hx hb hw in_M hown hK hP 0 rfl rfl 25 (by decide) (hw _ fl_M_63) (fun _ h9 => h9) rfl d_M_word_165 ?_
              refine lv_iload_n hx hb d_M_word_168 rfl (lv_at hl 4 rfl) ?_
              refine va_iald hx hb hK hP 17 0 rfl rfl (by first | assumption | exact vp_in_nI (by omega) (by omega)) d_M_word_169 ?_
              rw [show (nI kk).toNatClampNeg = kk from nI_clamp (by omega)]
              refine lv_goto (tgt := 188) hx hb d_M_word_170 (by decide) ?_
              exact W.iret (v := f25 kk) hx hb hr (fun t ht hW => ⟨⟨f25 kk, (0, z19, z20, z21, f23, z24, f25, nI 0), rfl, (Or.inr ⟨hix, jj, hjj, rfl, Or.inr (Or.inl ⟨(fun e9 : nI kk = -1 => absurd (e9 ▸ nI_pos' (n := kk) (by omega)) (by decide)), rfl, kk, rfl, by rw [hblE, ← hL9]; exact ls_get hkk⟩)⟩), by rw [ht]; exact hP, va_K.moved hW.alike hK, hD⟩, hS.F ht⟩) hS.2.2 d_M_word_188
      · rw [if_neg h39] at hbl9
        obtain ⟨tr, htr⟩ : ∃ q9, q9 = (fun th c9 bl => j_try (j_ss z18 (some 4) (j_src z18 th (j_nv f6 f7 f8 f10 f11 f12 f13 ck 0 100000) c9) (f17 jj) (f15 jj) (f16 jj)) (j_tx (some 4) th f4 ln c9) bl) := ⟨_, rfl⟩
        rw [← htr] at hbl9
        have loop : ∀ (n : Nat) (cq bn9 : Nat) (y19 y20 y21 y24 : Int32) (g23 g25 : Nat → Int32), (cq ≤ 99 + nn) → (bn9 ≤ 24) → (j_ls g25 bn9 = j_wf tr cq) → ∀ (H : Heap) (locs : List Loc), va_P D gC (mX T o a z0 z2 (nI nn) (nI sn) z18 y19 y20 y21 y24 (nI bn9) f1 f4 f5 f6 f7 f8 f9 f10 f11 f12 f13 f15 f16 f17 f22 g23 g25 f27) H → va_D A (mX T o a z0 z2 (nI nn) (nI sn) z18 y19 y20 y21 y24 (nI bn9) f1 f4 f5 f6 f7 f8 f9 f10 f11 f12 f13 f15 f16 f17 f22 g23 g25 f27) → va_S A s.heap H locs → ∀ (ls : Array Slot), lv_has ls 6 [(0, .ref o), (1, .int (nI jj)), (2, .int ii), (3, .int 4), (4, .int (nI (cq + 1)))] → 99 + nn - cq < n → W p l e (headSpec (Cond.code y_M_word b_M_word 6 (some .int) :: bg_W) ({ frames := 4, cells := 0, slots := 0, locals := 93 })).room s m ([.ref o, .int (nI jj), .int ii] : List Value).toArray below meth c H locs 0 0 (MQ below (va_Qi (fun (r : Int32) (u : Int32 × Int32 × Int32 × Int32 × (Nat → Int32) × Int32 × (Nat → Int32) × Int32) => match u with | (w0, w19, w20, w21, g23, w24, g25, w26) => (j_ix (nI jj) (nI sn) = false ∧ r = 0 ∧ w0 = 1) ∨ (j_ix (nI jj) (nI sn) = true ∧ ∃ j, j < sn ∧ (nI jj) = nI j ∧ ((ii = -1 ∧ w0 = 0 ∧ r = (if (if f17 j = 3 then [] else j_wf (fun th c9 bl => j_try (j_ss z18 (j_kbo (f17 j)) (j_src z18 th (j_nv f6 f7 f8 f10 f11 f12 f13 ck 0 100000) c9) (f17 j) (f15 j) (f16 j)) (j_tx (j_kbo (f17 j)) th f4 ln c9) bl) (99 + nn)).length = 0 then -1 else nI (if f17 j = 3 then [] else j_wf (fun th c9 bl => j_try (j_ss z18 (j_kbo (f17 j)) (j_src z18 th (j_nv f6 f7 f8 f10 f11 f12 f13 ck 0 100000) c9) (f17 j) (f15 j) (f16 j)) (j_tx (j_kbo (f17 j)) th f4 ln c9) bl) (99 + nn)).length)) ∨ (¬ ii = -1 ∧ w0 = 0 ∧ ∃ k, ii = nI k ∧ (if f17 j = 3 then [] else j_wf (fun th c9 bl => j_try (j_ss z18 (j_kbo (f17 j)) (j_src z18 th (j_nv f6 f7 f8 f10 f11 f12 f13 ck 0 100000) c9) (f17 j) (f15 j) (f16 j)) (j_tx (j_kbo (f17 j)) th f4 ln c9) bl) (99 + nn))[k]? = some r) ∨ (¬ ii = -1 ∧ w0 = 1 ∧ r = 0 ∧ (∀ k, k < (if f17 j = 3 then [] else j_wf (fun th c9 bl => j_try (j_ss z18 (j_kbo (f17 j)) (j_src z18 th (j_nv f6 f7 f8 f10 f11 f12 f13 ck 0 100000) c9) (f17 j) (f15 j) (f16 j)) (j_tx (j_kbo (f17 j)) th f4 ln c9) bl) (99 + nn)).length → ¬ ii = nI k))))) (qB D T A (fun u : Int32 × Int32 × Int32 × Int32 × (Nat → Int32) × Int32 × (Nat → Int32) × Int32 => match u with | (w0, w19, w20, w21, g23, w24, g25, w26) => mX T o a w0 z2 (nI nn) (nI sn) z18 w19 w20 w21 w24 w26 f1 f4 f5 f6 f7 f8 f9 f10 f11 f12 f13 f15 f16 f17 f22 g23 g25 f27)) A) ([.ref o, .int (nI jj), .int ii] : List Value).toArray s 0 0 A) (F0 m 52 ls []) := by
          intro n
          induction n with
          | zero => intro cq bn9 y19 y20 y21 y24 g23 g25 hc hbn9 hL H locs hP hD hS ls hl hm; exact absurd hm (Nat.not_lt_zero _)
          | succ n ih =>
            intro cq bn9 y19 y20 y21 y24 g23 g25 hc hbn9 hL H locs hP hD hS ls hl hm
            refine lv_iload hx hb d_M_word_52 (lv_at hl 4 rfl) ?_
            refine lv_bipush (v := 100) hx hb d_M_word_54 (by decide) ?_
            refine lv_aload_n hx hb d_M_word_56 rfl (lv_at hl 0 rfl) ?_
            refine va_get (D := D) (ci := 6) (v := .int (nI nn)) (C := "TimeWordsModel") (T := F_M) (N := 28) hx hb hw in_M hown hK hP 0 rfl rfl 3 (by decide) (hw _ fl_M_76) (fun _ h9 => h9) rfl d_M_word_57 ?_
            refine lv_iadd hx hb d_M_word_60 ?_
            rw [show 100 + (nI nn) = nI (100 + nn) from nI_add 100 nn]
            refine lv_icmp_ge (tgt := 121) hx hb d_M_word_61 (by decide) (fun c173 => ?_) (fun c173 => ?_)
            · have c173 := nc_le (a := 100 + nn) (b := cq + 1) c173 (by omega) (by omega)
              have hc9 : cq = 99 + nn := by omega
              have hL9 : j_ls g25 bn9 = bl9 := by rw [hbl9, ← hc9]; exact hL
              refine lv_aload_n hx hb d_M_word_121 rfl (lv_at hl 0 rfl) ?_
              refine lv_iload_n hx hb d_M_word_122 rfl (lv_at hl 2 rfl) ?_
              refine lv_iconst (v := (-1)) hx hb d_M_word_123 (by decide) ?_
              refine lv_icmp_eq (tgt := 141) hx hb d_M_word_124 (by decide) (fun c174 => ?_) (fun c174 => ?_)
              · subst c174
                refine lv_iconst (v := 0) hx hb d_M_word_141 (by decide) ?_
                refine lv_goto (tgt := 146) hx hb d_M_word_142 (by decide) ?_
                refine va_put (D := D) (ci := 6) (v := .int 0) (ty := .int) (C := "TimeWordsModel") (T := F_M) (N := 28) hx hb hw in_M ty_M ty_M_ok n_M hown hK hP hD hS 0 rfl rfl 0 (by decide) (hw _ fl_M_69) (fun _ h9 => h9) rfl (by decide +kernel) rfl rfl (Nat.le_of_ble_eq_true rfl) d_M_word_146 (fun H locs hP hD hS => ?_)
                have hP : va_P D gC (mX T o a 0 z2 (nI nn) (nI sn) z18 y19 y20 y21 y24 (nI bn9) f1 f4 f5 f6 f7 f8 f9 f10 f11 f12 f13 f15 f16 f17 f22 g23 g25 f27) H := hP
                have hD : va_D A (mX T o a 0 z2 (nI nn) (nI sn) z18 y19 y20 y21 y24 (nI bn9) f1 f4 f5 f6 f7 f8 f9 f10 f11 f12 f13 f15 f16 f17 f22 g23 g25 f27) := hD
                refine lv_aload_n hx hb d_M_word_149 rfl (lv_at hl 0 rfl) ?_
                refine va_get (D := D) (ci := 6) (v := .int 0) (C := "TimeWordsModel") (T := F_M) (N := 28) hx hb hw in_M hown hK hP 0 rfl rfl 0 (by decide) (hw _ fl_M_69) (fun _ h9 => h9) rfl d_M_word_150 ?_
                refine lv_if_le (tgt := 160) hx hb d_M_word_153 (by decide) (fun c175 => ?_) (fun c175 => absurd c175 (by decide))
                refine lv_iload_n hx hb d_M_word_160 rfl (lv_at hl 2 rfl) ?_
                refine lv_if_lt (tgt := 173) hx hb d_M_word_161 (by decide) (fun c176 => ?_) (fun c176 => absurd c176 (by decide))
                refine lv_aload_n hx hb d_M_word_173 rfl (lv_at hl 0 rfl) ?_
                refine va_get (D := D) (ci := 6) (v := .int (nI bn9)) (C := "TimeWordsModel") (T := F_M) (N := 28) hx hb hw in_M hown hK hP 0 rfl rfl 26 (by decide) (hw _ fl_M_187) (fun _ h9 => h9) rfl d_M_word_174 ?_
                refine lv_if_ne (tgt := 184) hx hb d_M_word_177 (by decide) (fun c177 => ?_) (fun c177 => ?_)
                · have c177 := nc_ne (a := bn9) (b := 0) c177 (by omega) (by omega)
                  refine lv_aload_n hx hb d_M_word_184 rfl (lv_at hl 0 rfl) ?_
                  refine va_get (D := D) (ci := 6) (v := .int (nI bn9)) (C := "TimeWordsModel") (T := F_M) (N := 28) hx hb hw in_M hown hK hP 0 rfl rfl 26 (by decide) (hw _ fl_M_187) (fun _ h9 => h9) rfl d_M_word_185 ?_
                  exact W.iret (v := nI bn9) hx hb hr (fun t ht hW => ⟨⟨nI bn9, (0, y19, y20, y21, g23, y24, g25, nI bn9), rfl, (Or.inr ⟨hix, jj, hjj, rfl, Or.inl ⟨rfl, rfl, by rw [hblE, ← hL9, ls_len, if_neg (by omega)]⟩⟩), by rw [ht]; exact hP, va_K.moved hW.alike hK, hD⟩, hS.F ht⟩) hS.2.2 d_M_word_188
                · have c177 := nc_eq (a := bn9) (b := 0) c177 (by omega) (by omega)
                  refine lv_iconst (v := (-1)) hx hb d_M_word_180 (by decide) ?_
                  refine lv_goto (tgt := 188) hx hb d_M_word_181 (by decide) ?_
                  exact W.iret (v := (-1)) hx hb hr (fun t ht hW => ⟨⟨(-1), (0, y19, y20, y21, g23, y24, g25, nI bn9), rfl, (Or.inr ⟨hix, jj, hjj, rfl, Or.inl ⟨rfl, rfl, by rw [hblE, ← hL9, ls_len, if_pos (by omega)]⟩⟩), by rw [ht]; exact hP, va_K.moved hW.alike hK, hD⟩, hS.F ht⟩) hS.2.2 d_M_word_188
              · refine lv_iload_n hx hb d_M_word_127 rfl (lv_at hl 2 rfl) ?_
                refine lv_iconst (v := 0) hx hb d_M_word_128 (by decide) ?_
                refine lv_aload_n hx hb d_M_word_129 rfl (lv_at hl 0 rfl) ?_
                refine va_get (D := D) (ci := 6) (v := .int (nI bn9)) (C := "TimeWordsModel") (T := F_M) (N := 28) hx hb hw in_M hown hK hP 0 rfl rfl 26 (by decide) (hw _ fl_M_187) (fun _ h9 => h9) rfl d_M_word_130 ?_
                refine lv_iconst (v := 1) hx hb d_M_word_133 (by decide) ?_
                refine lv_isub hx hb d_M_word_134 ?_
                refine vp_callSi (va_Run.run (va_runS (As := [.int ii, .int 0, .int ((nI bn9) - 1)]) (rest := [.ref o]) ⟨hx, hb, hml, hown, hw⟩ (k_M_in l ii 0 ((nI bn9) - 1)) (va_cwS 3 hw (bg_S ml_M_72 wt_M_in wz_M wc_M_in) rfl rfl rfl (by decide +kernel) ⟨Nat.le_of_ble_eq_true rfl, Nat.le_of_ble_eq_true rfl⟩) ⟨nP_b, nP_p⟩ rfl rfl hl.1 rfl (lv_room (Nat.le_of_ble_eq_true rfl)) d_M_word_135 ⟨Nat.le_of_ble_eq_true rfl, Nat.le_of_ble_eq_true rfl⟩)) (fun r178 hr178 => ?_)
                replace hr178 := hr178.symm; subst hr178
                refine lv_if_eq (tgt := 145) hx hb d_M_word_138 (by decide) (fun c179 => ?_) (fun c179 => ?_)
                · have c179 := b2i_f c179
                  refine lv_iconst (v := 1) hx hb d_M_word_145 (by decide) ?_
                  refine va_put (D := D) (ci := 6) (v := .int 1) (ty := .int) (C := "TimeWordsModel") (T := F_M) (N := 28) hx hb hw in_M ty_M ty_M_ok n_M hown hK hP hD hS 0 rfl rfl 0 (by decide) (hw _ fl_M_69) (fun _ h9 => h9) rfl (by decide +kernel) rfl rfl (Nat.le_of_ble_eq_true rfl) d_M_word_146 (fun H locs hP hD hS => ?_)
                  have hP : va_P D gC (mX T o a 1 z2 (nI nn) (nI sn) z18 y19 y20 y21 y24 (nI bn9) f1 f4 f5 f6 f7 f8 f9 f10 f11 f12 f13 f15 f16 f17 f22 g23 g25 f27) H := hP
                  have hD : va_D A (mX T o a 1 z2 (nI nn) (nI sn) z18 y19 y20 y21 y24 (nI bn9) f1 f4 f5 f6 f7 f8 f9 f10 f11 f12 f13 f15 f16 f17 f22 g23 g25 f27) := hD
                  refine lv_aload_n hx hb d_M_word_149 rfl (lv_at hl 0 rfl) ?_
                  refine va_get (D := D) (ci := 6) (v := .int 1) (C := "TimeWordsModel") (T := F_M) (N := 28) hx hb hw in_M hown hK hP 0 rfl rfl 0 (by decide) (hw _ fl_M_69) (fun _ h9 => h9) rfl d_M_word_150 ?_
                  refine lv_if_le (tgt := 160) hx hb d_M_word_153 (by decide) (fun c180 => absurd c180 (by decide)) (fun c180 => ?_)
                  refine lv_iconst (v := 0) hx hb d_M_word_156 (by decide) ?_
                  refine lv_goto (tgt := 188) hx hb d_M_word_157 (by decide) ?_
                  exact W.iret (v := 0) hx hb hr (fun t ht hW => ⟨⟨0, (1, y19, y20, y21, g23, y24, g25, nI bn9), rfl, (Or.inr ⟨hix, jj, hjj, rfl, Or.inr (Or.inr ⟨by assumption, rfl, rfl, fun k hk hk2 => by rw [hblE, ← hL9, ls_len] at hk; rw [hk2, in_bin hk (by omega)] at c179; cases c179⟩)⟩), by rw [ht]; exact hP, va_K.moved hW.alike hK, hD⟩, hS.F ht⟩) hS.2.2 d_M_word_188
                · have c179 := b2i_t c179
                  obtain ⟨kk, hkk, rfl⟩ := in_best (by omega) c179
                  refine lv_iconst (v := 0) hx hb d_M_word_141 (by decide) ?_
                  refine lv_goto (tgt := 146) hx hb d_M_word_142 (by decide) ?_
                  refine va_put (D := D) (ci := 6) (v := .int 0) (ty := .int) (C := "TimeWordsModel") (T := F_M) (N := 28) hx hb hw in_M ty_M ty_M_ok n_M hown hK hP hD hS 0 rfl rfl 0 (by decide) (hw _ fl_M_69) (fun _ h9 => h9) rfl (by decide +kernel) rfl rfl (Nat.le_of_ble_eq_true rfl) d_M_word_146 (fun H locs hP hD hS => ?_)
                  have hP : va_P D gC (mX T o a 0 z2 (nI nn) (nI sn) z18 y19 y20 y21 y24 (nI bn9) f1 f4 f5 f6 f7 f8 f9 f10 f11 f12 f13 f15 f16 f17 f22 g23 g25 f27) H := hP
                  have hD : va_D A (mX T o a 0 z2 (nI nn) (nI sn) z18 y19 y20 y21 y24 (nI bn9) f1 f4 f5 f6 f7 f8 f9 f10 f11 f12 f13 f15 f16 f17 f22 g23 g25 f27) := hD
                  refine lv_aload_n hx hb d_M_word_149 rfl (lv_at hl 0 rfl) ?_
                  refine va_get (D := D) (ci := 6) (v := .int 0) (C := "TimeWordsModel") (T := F_M) (N := 28) hx hb hw in_M hown hK hP 0 rfl rfl 0 (by decide) (hw _ fl_M_69) (fun _ h9 => h9) rfl d_M_word_150 ?_
                  refine lv_if_le (tgt := 160) hx hb d_M_word_153 (by decide) (fun c181 => ?_) (fun c181 => absurd c181 (by decide))
                  refine lv_iload_n hx hb d_M_word_160 rfl (lv_at hl 2 rfl) ?_
                  refine lv_if_lt (tgt := 173) hx hb d_M_word_161 (by decide) (fun c182 => absurd c182 (nI_pos (by omega))) (fun c182 => ?_)
                  refine lv_aload_n hx hb d_M_word_164 rfl (lv_at hl 0 rfl) ?_
                  refine va_get (D := D) (ci := 6) (v := .ref (a 25)) (C := "TimeWordsModel") (T := F_M) (N := 28) hx hb hw in_M hown hK hP 0 rfl rfl 25 (by decide) (hw _ fl_M_63) (fun _ h9 => h9) rfl d_M_word_165 ?_
                  refine lv_iload_n hx hb d_M_word_168 rfl (lv_at hl 2 rfl) ?_
                  refine va_iald hx hb hK hP 17 0 rfl rfl (by first | assumption | exact vp_in_nI (by omega) (by omega)) d_M_word_169 ?_
                  rw [show (nI kk).toNatClampNeg = kk from nI_clamp (by omega)]
                  refine lv_goto (tgt := 188) hx hb d_M_word_170 (by decide) ?_
                  exact W.iret (v := g25 kk) hx hb hr (fun t ht hW => ⟨⟨g25 kk, (0, y19, y20, y21, g23, y24, g25, nI bn9), rfl, (Or.inr ⟨hix, jj, hjj, rfl, Or.inr (Or.inl ⟨(fun e9 : nI kk = -1 => absurd (e9 ▸ nI_pos' (n := kk) (by omega)) (by decide)), rfl, kk, rfl, by rw [hblE, ← hL9]; exact ls_get hkk⟩)⟩), by rw [ht]; exact hP, va_K.moved hW.alike hK, hD⟩, hS.F ht⟩) hS.2.2 d_M_word_188
            · have c173 := nc_nle (a := 100 + nn) (b := cq + 1) c173 (by omega) (by omega)
              refine lv_aload_n hx hb d_M_word_64 rfl (lv_at hl 0 rfl) ?_
              refine va_get (D := D) (ci := 6) (v := .ref (a 17)) (C := "TimeWordsModel") (T := F_M) (N := 28) hx hb hw in_M hown hK hP 0 rfl rfl 17 (by decide) (hw _ fl_M_50) (fun _ h9 => h9) rfl d_M_word_65 ?_
              refine lv_iload_n hx hb d_M_word_68 rfl (lv_at hl 1 rfl) ?_
              refine va_iald hx hb hK hP 14 0 rfl rfl (by first | assumption | exact vp_in_nI (by omega) (by omega)) d_M_word_69 ?_
              rw [show (nI jj).toNatClampNeg = jj from nI_clamp (by omega)]
              refine lv_iconst (v := 3) hx hb d_M_word_70 (by decide) ?_
              refine lv_icmp_eq (tgt := 121) hx hb d_M_word_71 (by decide) (fun c183 => absurd c183 (h39)) (fun c183 => ?_)
              refine lv_aload_n hx hb d_M_word_74 rfl (lv_at hl 0 rfl) ?_
              refine lv_iload_n hx hb d_M_word_75 rfl (lv_at hl 1 rfl) ?_
              refine lv_iload_n hx hb d_M_word_76 rfl (lv_at hl 3 rfl) ?_
              refine lv_iconst (v := (-1)) hx hb d_M_word_77 (by decide) ?_
              refine lv_iload hx hb d_M_word_78 (lv_at hl 4 rfl) ?_
              refine g_callv (va_runV (As := [.int (nI jj), .int 4, .int (-1), .int (nI (cq + 1))]) (rest := []) ⟨hx, hb, hml, hown, hw⟩ (k_M_tries l D T o a z0 z2 nn (nI sn) z18 y19 y20 y21 y24 bn9 f1 f4 f5 f6 f7 f8 f9 f10 f11 f12 f13 f15 f16 f17 f22 g23 g25 f27 H.size jj (some 4) none (cq + 1) ln ck _ (by omega) (fun b h => by cases h; decide) (fun b h => by cases h) (by omega) (by omega) hy1 hy2 hy3 hy4 hy5 hy6 hbn9 hL) (cwV 4 hw (bg_V ml_M_201 wi_M_tries wv_M_tries wz_M wc_M_tries) rfl rfl rfl (by decide +kernel) ⟨Nat.le_of_ble_eq_true rfl, Nat.le_of_ble_eq_true rfl⟩) ⟨qP_b, va_recv hK hP (ci := 6) (q0 := 0) rfl rfl, qP_p hP hK hD⟩ rfl rfl hl.1 rfl (lv_room (Nat.le_of_ble_eq_true rfl)) d_M_word_80 ⟨Nat.le_of_ble_eq_true rfl, Nat.le_of_ble_eq_true rfl⟩) hD hS hA (fun u9 H locs hr184 hP hD hS => ?_)
              obtain ⟨u185, u186, u187, u188, u189, u190, u191⟩ := u9
              dsimp only at hr184 hP hD
              have hP : va_P D gC (mX T o a z0 z2 (nI nn) (nI sn) z18 u185 u186 u187 u189 u191 f1 f4 f5 f6 f7 f8 f9 f10 f11 f12 f13 f15 f16 f17 f22 u188 u190 f27) H := hP
              have hD : va_D A (mX T o a z0 z2 (nI nn) (nI sn) z18 u185 u186 u187 u189 u191 f1 f4 f5 f6 f7 f8 f9 f10 f11 f12 f13 f15 f16 f17 f22 u188 u190 f27) := hD
              obtain ⟨m192, hm1, hmm192, hLm192⟩ := hr184
              subst hm1
              have hLm192 : j_ls u190 m192 = tr none (cq + 1) (j_wf tr cq) := by rw [htr] at hLm192 ⊢; exact hLm192
              refine lv_iconst (v := 0) hx hb d_M_word_83 (by decide) ?_
              refine lv_istore (lv' := [(5, .int 0), (0, .ref o), (1, .int (nI jj)), (2, .int ii), (3, .int 4), (4, .int (nI (cq + 1)))]) hx hb d_M_word_84 hl (by decide) rfl (fun ls hl => ?_)
              refine lv_iload hx hb d_M_word_86 (lv_at hl 0 rfl) ?_
              refine lv_iconst (v := 3) hx hb d_M_word_88 (by decide) ?_
              refine lv_icmp_ge (tgt := 115) hx hb d_M_word_89 (by decide) (fun c193 => absurd c193 (by decide)) (fun c193 => ?_)
              refine lv_iload hx hb d_M_word_92 (lv_at hl 5 rfl) ?_
              refine lv_bipush (v := 100) hx hb d_M_word_94 (by decide) ?_
              refine lv_icmp_ge (tgt := 115) hx hb d_M_word_96 (by decide) (fun c194 => ?_) (fun c194 => ?_)
              · have c194 := nc_le (a := 100) (b := cq + 1) c194 (by omega) (by omega)
                refine lv_iinc (v := nI (cq + 1 + 1)) (lv' := [(4, .int (nI (cq + 1 + 1))), (5, .int 0), (0, .ref o), (1, .int (nI jj)), (2, .int ii), (3, .int 4)]) hx hb d_M_word_115 hl (k := 5) rfl (nI_add (cq + 1) 1) (by decide) rfl (fun ls hl => ?_)
                refine lv_goto (tgt := 52) hx hb d_M_word_118 (by decide) ?_
                exact ih (cq + 1) m192 u185 u186 u187 u189 u188 u190 (by omega) hmm192 (by rw [j_wf, if_neg (by omega)]; exact hLm192) _ _ hP hD hS ls (lv_sub hl [2, 3, 4, 5, 0] rfl) (by omega)
              · have c194 := nc_nle (a := 100) (b := cq + 1) c194 (by omega) (by omega)
                refine lv_aload_n hx hb d_M_word_99 rfl (lv_at hl 1 rfl) ?_
                refine lv_iload_n hx hb d_M_word_100 rfl (lv_at hl 2 rfl) ?_
                refine lv_iload_n hx hb d_M_word_101 rfl (lv_at hl 4 rfl) ?_
                refine lv_iload hx hb d_M_word_102 (lv_at hl 0 rfl) ?_
                refine lv_iload hx hb d_M_word_104 (lv_at hl 5 rfl) ?_
                refine g_callv (va_runV (As := [.int (nI jj), .int 4, .int 0, .int (nI (cq + 1))]) (rest := []) ⟨hx, hb, hml, hown, hw⟩ (k_M_tries l D T o a z0 z2 nn (nI sn) z18 u185 u186 u187 u189 m192 f1 f4 f5 f6 f7 f8 f9 f10 f11 f12 f13 f15 f16 f17 f22 u188 u190 f27 H.size jj (some 4) (some 0) (cq + 1) ln ck _ (by omega) (fun b h => by cases h; decide) (fun b h => by cases h; exact ⟨by decide, by omega⟩) (by omega) (by omega) hy1 hy2 hy3 hy4 hy5 hy6 hmm192 hLm192) (cwV 4 hw (bg_V ml_M_201 wi_M_tries wv_M_tries wz_M wc_M_tries) rfl rfl rfl (by decide +kernel) ⟨Nat.le_of_ble_eq_true rfl, Nat.le_of_ble_eq_true rfl⟩) ⟨qP_b, va_recv hK hP (ci := 6) (q0 := 0) rfl rfl, qP_p hP hK hD⟩ rfl rfl hl.1 rfl (lv_room (Nat.le_of_ble_eq_true rfl)) d_M_word_106 ⟨Nat.le_of_ble_eq_true rfl, Nat.le_of_ble_eq_true rfl⟩) hD hS hA (fun u9 H locs hr195 hP hD hS => ?_)
                obtain ⟨u196, u197, u198, u199, u200, u201, u202⟩ := u9
                dsimp only at hr195 hP hD
                have hP : va_P D gC (mX T o a z0 z2 (nI nn) (nI sn) z18 u196 u197 u198 u200 u202 f1 f4 f5 f6 f7 f8 f9 f10 f11 f12 f13 f15 f16 f17 f22 u199 u201 f27) H := hP
                have hD : va_D A (mX T o a z0 z2 (nI nn) (nI sn) z18 u196 u197 u198 u200 u202 f1 f4 f5 f6 f7 f8 f9 f10 f11 f12 f13 f15 f16 f17 f22 u199 u201 f27) := hD
                obtain ⟨m203, hm1, hmm203, hLm203⟩ := hr195
                subst hm1
                have hLm203 : j_ls u201 m203 = tr (some 0) (cq + 1) (tr none (cq + 1) (j_wf tr cq)) := by rw [htr] at hLm203 ⊢; exact hLm203
                refine lv_iinc (v := 1) (lv' := [(5, .int 1), (0, .ref o), (1, .int (nI jj)), (2, .int ii), (3, .int 4), (4, .int (nI (cq + 1)))]) hx hb d_M_word_109 hl (k := 0) rfl (by decide) (by decide) rfl (fun ls hl => ?_)
                refine lv_goto (tgt := 86) hx hb d_M_word_112 (by decide) ?_
                refine lv_iload hx hb d_M_word_86 (lv_at hl 0 rfl) ?_
                refine lv_iconst (v := 3) hx hb d_M_word_88 (by decide) ?_
                refine lv_icmp_ge (tgt := 115) hx hb d_M_word_89 (by decide) (fun c204 => absurd c204 (by decide)) (fun c204 => ?_)
                refine lv_iload hx hb d_M_word_92 (lv_at hl 5 rfl) ?_
                refine lv_bipush (v := 100) hx hb d_M_word_94 (by decide) ?_
                refine lv_icmp_ge (tgt := 115) hx hb d_M_word_96 (by decide) (fun c205 => absurd c205 (nI_ge (a := cq + 1) (b := 100) (by omega) (by decide))) (fun c205 => ?_)
                refine lv_aload_n hx hb d_M_word_99 rfl (lv_at hl 1 rfl) ?_
                refine lv_iload_n hx hb d_M_word_100 rfl (lv_at hl 2 rfl) ?_
                refine lv_iload_n hx hb d_M_word_101 rfl (lv_at hl 4 rfl) ?_
                refine lv_iload hx hb d_M_word_102 (lv_at hl 0 rfl) ?_
                refine lv_iload hx hb d_M_word_104 (lv_at hl 5 rfl) ?_
                refine g_callv (va_runV (As := [.int (nI jj), .int 4, .int 1, .int (nI (cq + 1))]) (rest := []) ⟨hx, hb, hml, hown, hw⟩ (k_M_tries l D T o a z0 z2 nn (nI sn) z18 u196 u197 u198 u200 m203 f1 f4 f5 f6 f7 f8 f9 f10 f11 f12 f13 f15 f16 f17 f22 u199 u201 f27 H.size jj (some 4) (some 1) (cq + 1) ln ck _ (by omega) (fun b h => by cases h; decide) (fun b h => by cases h; exact ⟨by decide, by omega⟩) (by omega) (by omega) hy1 hy2 hy3 hy4 hy5 hy6 hmm203 hLm203) (cwV 4 hw (bg_V ml_M_201 wi_M_tries wv_M_tries wz_M wc_M_tries) rfl rfl rfl (by decide +kernel) ⟨Nat.le_of_ble_eq_true rfl, Nat.le_of_ble_eq_true rfl⟩) ⟨qP_b, va_recv hK hP (ci := 6) (q0 := 0) rfl rfl, qP_p hP hK hD⟩ rfl rfl hl.1 rfl (lv_room (Nat.le_of_ble_eq_true rfl)) d_M_word_106 ⟨Nat.le_of_ble_eq_true rfl, Nat.le_of_ble_eq_true rfl⟩) hD hS hA (fun u9 H locs hr206 hP hD hS => ?_)
                obtain ⟨u207, u208, u209, u210, u211, u212, u213⟩ := u9
                dsimp only at hr206 hP hD
                have hP : va_P D gC (mX T o a z0 z2 (nI nn) (nI sn) z18 u207 u208 u209 u211 u213 f1 f4 f5 f6 f7 f8 f9 f10 f11 f12 f13 f15 f16 f17 f22 u210 u212 f27) H := hP
                have hD : va_D A (mX T o a z0 z2 (nI nn) (nI sn) z18 u207 u208 u209 u211 u213 f1 f4 f5 f6 f7 f8 f9 f10 f11 f12 f13 f15 f16 f17 f22 u210 u212 f27) := hD
                obtain ⟨m214, hm1, hmm214, hLm214⟩ := hr206
                subst hm1
                have hLm214 : j_ls u212 m214 = tr (some 1) (cq + 1) (tr (some 0) (cq + 1) (tr none (cq + 1) (j_wf tr cq))) := by rw [htr] at hLm214 ⊢; exact hLm214
                refine lv_iinc (v := 2) (lv' := [(5, .int 2), (0, .ref o), (1, .int (nI jj)), (2, .int ii), (3, .int 4), (4, .int (nI (cq + 1)))]) hx hb d_M_word_109 hl (k := 0) rfl (by decide) (by decide) rfl (fun ls hl => ?_)
                refine lv_goto (tgt := 86) hx hb d_M_word_112 (by decide) ?_
                refine lv_iload hx hb d_M_word_86 (lv_at hl 0 rfl) ?_
                refine lv_iconst (v := 3) hx hb d_M_word_88 (by decide) ?_
                refine lv_icmp_ge (tgt := 115) hx hb d_M_word_89 (by decide) (fun c215 => absurd c215 (by decide)) (fun c215 => ?_)
                refine lv_iload hx hb d_M_word_92 (lv_at hl 5 rfl) ?_
                refine lv_bipush (v := 100) hx hb d_M_word_94 (by decide) ?_
                refine lv_icmp_ge (tgt := 115) hx hb d_M_word_96 (by decide) (fun c216 => absurd c216 (nI_ge (a := cq + 1) (b := 100) (by omega) (by decide))) (fun c216 => ?_)
                refine lv_aload_n hx hb d_M_word_99 rfl (lv_at hl 1 rfl) ?_
                refine lv_iload_n hx hb d_M_word_100 rfl (lv_at hl 2 rfl) ?_
                refine lv_iload_n hx hb d_M_word_101 rfl (lv_at hl 4 rfl) ?_
                refine lv_iload hx hb d_M_word_102 (lv_at hl 0 rfl) ?_
                refine lv_iload hx hb d_M_word_104 (lv_at hl 5 rfl) ?_
                refine g_callv (va_runV (As := [.int (nI jj), .int 4, .int 2, .int (nI (cq + 1))]) (rest := []) ⟨hx, hb, hml, hown, hw⟩ (k_M_tries l D T o a z0 z2 nn (nI sn) z18 u207 u208 u209 u211 m214 f1 f4 f5 f6 f7 f8 f9 f10 f11 f12 f13 f15 f16 f17 f22 u210 u212 f27 H.size jj (some 4) (some 2) (cq + 1) ln ck _ (by omega) (fun b h => by cases h; decide) (fun b h => by cases h; exact ⟨by decide, by omega⟩) (by omega) (by omega) hy1 hy2 hy3 hy4 hy5 hy6 hmm214 hLm214) (cwV 4 hw (bg_V ml_M_201 wi_M_tries wv_M_tries wz_M wc_M_tries) rfl rfl rfl (by decide +kernel) ⟨Nat.le_of_ble_eq_true rfl, Nat.le_of_ble_eq_true rfl⟩) ⟨qP_b, va_recv hK hP (ci := 6) (q0 := 0) rfl rfl, qP_p hP hK hD⟩ rfl rfl hl.1 rfl (lv_room (Nat.le_of_ble_eq_true rfl)) d_M_word_106 ⟨Nat.le_of_ble_eq_true rfl, Nat.le_of_ble_eq_true rfl⟩) hD hS hA (fun u9 H locs hr217 hP hD hS => ?_)
                obtain ⟨u218, u219, u220, u221, u222, u223, u224⟩ := u9
                dsimp only at hr217 hP hD
                have hP : va_P D gC (mX T o a z0 z2 (nI nn) (nI sn) z18 u218 u219 u220 u222 u224 f1 f4 f5 f6 f7 f8 f9 f10 f11 f12 f13 f15 f16 f17 f22 u221 u223 f27) H := hP
                have hD : va_D A (mX T o a z0 z2 (nI nn) (nI sn) z18 u218 u219 u220 u222 u224 f1 f4 f5 f6 f7 f8 f9 f10 f11 f12 f13 f15 f16 f17 f22 u221 u223 f27) := hD
                obtain ⟨m225, hm1, hmm225, hLm225⟩ := hr217
                subst hm1
                have hLm225 : j_ls u223 m225 = tr (some 2) (cq + 1) (tr (some 1) (cq + 1) (tr (some 0) (cq + 1) (tr none (cq + 1) (j_wf tr cq)))) := by rw [htr] at hLm225 ⊢; exact hLm225
                refine lv_iinc (v := 3) (lv' := [(5, .int 3), (0, .ref o), (1, .int (nI jj)), (2, .int ii), (3, .int 4), (4, .int (nI (cq + 1)))]) hx hb d_M_word_109 hl (k := 0) rfl (by decide) (by decide) rfl (fun ls hl => ?_)
                refine lv_goto (tgt := 86) hx hb d_M_word_112 (by decide) ?_
                refine lv_iload hx hb d_M_word_86 (lv_at hl 0 rfl) ?_
                refine lv_iconst (v := 3) hx hb d_M_word_88 (by decide) ?_
                refine lv_icmp_ge (tgt := 115) hx hb d_M_word_89 (by decide) (fun c226 => ?_) (fun c226 => absurd c226 (by decide))
                refine lv_iinc (v := nI (cq + 1 + 1)) (lv' := [(4, .int (nI (cq + 1 + 1))), (5, .int 3), (0, .ref o), (1, .int (nI jj)), (2, .int ii), (3, .int 4)]) hx hb d_M_word_115 hl (k := 5) rfl (nI_add (cq + 1) 1) (by decide) rfl (fun ls hl => ?_)
                refine lv_goto (tgt := 52) hx hb d_M_word_118 (by decide) ?_
                exact ih (cq + 1) m225 u218 u219 u220 u222 u221 u223 (by omega) hmm225 (by rw [j_wf, if_pos (by omega)]; exact hLm225) _ _ hP hD hS ls (lv_sub hl [2, 3, 4, 5, 0] rfl) (by omega)
        exact loop ((99 + nn - 0) + 1) 0 0 z19 z20 z21 z24 f23 f25 (Nat.zero_le _) (Nat.zero_le _) rfl _ _ hP hD hS ls (lv_sub hl [2, 3, 4, 1, 0] rfl) (Nat.lt_succ_self _)
  · have c2 := b2i_f c2
    refine lv_aload_n hx hb d_M_word_8 rfl (lv_at hl 0 rfl) ?_
    refine lv_iconst (v := 1) hx hb d_M_word_9 (by decide) ?_
    refine g_calli (va_runV (As := [.int 1]) (rest := []) ⟨hx, hb, hml, hown, hw⟩ (k_M_fails l D T o a z0 z2 (nI nn) (nI sn) z18 z19 z20 z21 z24 z26 f1 f4 f5 f6 f7 f8 f9 f10 f11 f12 f13 f15 f16 f17 f22 f23 f25 f27 s.heap.size 1) (cwV 1 hw (bg_V ml_M_89 wi_M_fails wv_M_fails wz_M wc_M_fails) rfl rfl rfl (by decide +kernel) ⟨Nat.le_of_ble_eq_true rfl, Nat.le_of_ble_eq_true rfl⟩) ⟨qP_b, va_recv hK hP (ci := 6) (q0 := 0) rfl rfl, qP_p hP hK hD⟩ rfl rfl hl.1 rfl (lv_room (Nat.le_of_ble_eq_true rfl)) d_M_word_10 ⟨Nat.le_of_ble_eq_true rfl, Nat.le_of_ble_eq_true rfl⟩) hD hS hA (fun r227 u228 H locs hr227 hP hD hS => ?_)
    obtain ⟨q0, q1⟩ := hr227
    replace q0 := q0.symm; subst q0; replace q1 := q1.symm; subst q1
    have hP : va_P D gC (mX T o a 1 z2 (nI nn) (nI sn) z18 z19 z20 z21 z24 z26 f1 f4 f5 f6 f7 f8 f9 f10 f11 f12 f13 f15 f16 f17 f22 f23 f25 f27) H := hP
    have hD : va_D A (mX T o a 1 z2 (nI nn) (nI sn) z18 z19 z20 z21 z24 z26 f1 f4 f5 f6 f7 f8 f9 f10 f11 f12 f13 f15 f16 f17 f22 f23 f25 f27) := hD
    exact W.iret (v := 0) hx hb hr (fun t ht hW => ⟨⟨0, (1, z19, z20, z21, f23, z24, f25, z26), rfl, (Or.inl ⟨by assumption, rfl, rfl⟩), by rw [ht]; exact hP, va_K.moved hW.alike hK, hD⟩, hS.F ht⟩) hS.2.2 d_M_word_13
