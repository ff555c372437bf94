set_option maxHeartbeats 4000000 in
set_option maxRecDepth 100000 in
theorem k_M_tries (l : Launch) (D : va_G) (T : gT) (o : Nat) (a : Nat → Nat) (z0 z2 : Int32) (nn : Nat) (z14 z18 z19 z20 z21 z24 : Int32) (bn : Nat) (f1 f4 f5 f6 f7 f8 f9 f10 f11 f12 f13 f15 f16 f17 f22 f23 f25 f27 : Nat → Int32) (sz : Nat) (j : Nat) (bo th : Option Nat) (c9 : Nat) (ln ck : Nat → Nat) (bl : List Int32) (hy0 : j < 60) (hy1 : ∀ b, bo = some b → b < 6) (hy2 : ∀ b, th = some b → b < 6 ∧ c9 ≤ 99) (hy3 : 1 ≤ c9) (hy4 : c9 < 100 + nn) (hy5 : nn ≤ 24) (hy6 : ∀ i, f5 i = nI (ln i)) (hy7 : ∀ i, ln i ≤ 8) (hy8 : ∀ i, i < nn → 1 ≤ ln i) (hy9 : ∀ i, f9 i = nI (ck i)) (hy10 : ∀ i, ck i ≤ 6) (hy11 : bn ≤ 24) (hy12 : j_ls f25 bn = bl) : Met l y_M_tries (Cond.code y_M_tries b_M_tries 7 none :: bg_W) ({ frames := 3, cells := 0, slots := 0, locals := 67 }) (qP D T (mX T o a z0 z2 (nI nn) z14 z18 z19 z20 z21 z24 (nI bn) f1 f4 f5 f6 f7 f8 f9 f10 f11 f12 f13 f15 f16 f17 f22 f23 f25 f27) [.ref o, .int (nI j), .int (j_oi bo), .int (j_oi th), .int (nI c9)] sz) (va_Qv (fun u : Int32 × Int32 × Int32 × (Nat → Int32) × Int32 × (Nat → Int32) × Int32 => match u with | (w19, w20, w21, g23, w24, g25, w26) => ∃ m9, w26 = nI m9 ∧ m9 ≤ 24 ∧ j_ls g25 m9 = j_try (j_ss z18 bo (j_src z18 th (j_nv f6 f7 f8 f10 f11 f12 f13 ck 0 100000) c9) (f17 j) (f15 j) (f16 j)) (j_tx bo th f4 ln c9) bl) (qB D T (va_A (mX T o a z0 z2 (nI nn) z14 z18 z19 z20 z21 z24 (nI bn) f1 f4 f5 f6 f7 f8 f9 f10 f11 f12 f13 f15 f16 f17 f22 f23 f25 f27) sz) (fun u : Int32 × Int32 × Int32 × (Nat → Int32) × Int32 × (Nat → Int32) × Int32 => match u with | (w19, w20, w21, g23, w24, g25, w26) => mX T o a z0 z2 (nI nn) z14 z18 w19 w20 w21 w24 w26 f1 f4 f5 f6 f7 f8 f9 f10 f11 f12 f13 f15 f16 f17 f22 g23 g25 f27)) (va_A (mX T o a z0 z2 (nI nn) z14 z18 z19 z20 z21 z24 (nI bn) f1 f4 f5 f6 f7 f8 f9 f10 f11 f12 f13 f15 f16 f17 f22 f23 f25 f27) sz)) 0 0 (va_A (mX T o a z0 z2 (nI nn) z14 z18 z19 z20 z21 z24 (nI bn) f1 f4 f5 f6 f7 f8 f9 f10 f11 f12 f13 f15 f16 f17 f22 f23 f25 f27) sz) := by
  refine Met.ofW (cc := b_M_tries) (maxL := 7) (ret := none) (by decide) rfl ?_
  intro p e s m args below meth c s₁ B hml hv
  obtain ⟨rfl, hsz, hP, hK, hD0⟩ := hv
  have hx := B.exec
  have hb := B.bytes
  have hr := B.returns
  have hw : ∀ w ∈ bg_W, w.before ([.ref o, .int (nI j), .int (j_oi bo), .int (j_oi th), .int (nI c9)] : List Value).toArray s = true := fun w h => atoms_spec (ws := (Cond.code y_M_tries b_M_tries 7 none :: bg_W)) B.pre w (List.mem_cons_of_mem _ h)
  have hown : s.vm.findClass "TimeWordsModel" = some m.cls := findClass_of_methodNamed B.named
  have hlocks := B.notSynchronized
  subst hsz
  have hD := hD0.self (sz := s.heap.size)
  generalize hAe : va_A (mX T o a z0 z2 (nI nn) z14 z18 z19 z20 z21 z24 (nI bn) f1 f4 f5 f6 f7 f8 f9 f10 f11 f12 f13 f15 f16 f17 f22 f23 f25 f27) s.heap.size = A at hD ⊢
  have hA : ∀ q : Nat, s.heap.size ≤ q → A q := fun q h => by rw [← hAe]; exact Or.inr h
  have hS : va_S A s.heap s.heap [] := va_S.rf
  have hl := lv_entry ([.ref o, .int (nI j), .int (j_oi bo), .int (j_oi th), .int (nI c9)]) (n := 7) (Nat.le_of_ble_eq_true rfl)
  rw [lg_entry_eq]
  generalize (lg_sl ([.ref o, .int (nI j), .int (j_oi bo), .int (j_oi th), .int (nI c9)]) ++ List.replicate (7 - (lg_sl ([.ref o, .int (nI j), .int (j_oi bo), .int (j_oi th), .int (nI c9)])).length) Slot.unset).toArray = ls at hl ⊢
  have hl : lv_has ls 7 [(0, .ref o), (1, .int (nI j)), (2, .int (j_oi bo)), (3, .int (j_oi th)), (4, .int (nI c9))] := hl
  rcases bo with _ | b
  · have hl : lv_has ls 7 [(0, .ref o), (1, .int (nI j)), (2, .int (-1)), (3, .int (j_oi th)), (4, .int (nI c9))] := hl
    rcases th with _ | tq
    · have hl : lv_has ls 7 [(0, .ref o), (1, .int (nI j)), (2, .int (-1)), (3, .int (-1)), (4, .int (nI c9))] := hl
      refine lv_iload hx hb d_M_tries_0 (lv_at hl 4 rfl) ?_
      refine lv_bipush (v := 99) hx hb d_M_tries_2 (by decide) ?_
      refine lv_icmp_le (tgt := 11) hx hb d_M_tries_4 (by decide) (fun c1 => ?_) (fun c1 => ?_)
      · have c1 := nc_le (a := c9) (b := 99) c1 (by omega) (by omega)
        refine lv_iconst (v := 0) hx hb d_M_tries_11 (by decide) ?_
        refine lv_istore (lv' := [(5, .int 0), (0, .ref o), (1, .int (nI j)), (2, .int (-1)), (3, .int (-1)), (4, .int (nI c9))]) hx hb d_M_tries_12 hl (by decide) rfl (fun ls hl => ?_)
        refine lv_iload hx hb d_M_tries_14 (lv_at hl 5 rfl) ?_
        refine lv_bipush (v := 99) hx hb d_M_tries_16 (by decide) ?_
        refine lv_icmp_gt (tgt := 62) hx hb d_M_tries_18 (by decide) (fun c2 => absurd c2 (nI_nlt (a := 99) (b := c9) (by omega) (by decide))) (fun c2 => ?_)
        have hc9 : c9 ≤ 99 := by omega
        refine lv_aload_n hx hb d_M_tries_21 rfl (lv_at hl 1 rfl) ?_
        refine lv_bipush (v := 100) hx hb d_M_tries_22 (by decide) ?_
        refine lv_iload hx hb d_M_tries_24 (lv_at hl 5 rfl) ?_
        refine lv_iconst (v := 1) hx hb d_M_tries_26 (by decide) ?_
        refine lv_isub hx hb d_M_tries_27 ?_
        refine lv_imul hx hb d_M_tries_28 ?_
        refine lv_iconst (v := 1) hx hb d_M_tries_29 (by decide) ?_
        refine lv_iadd hx hb d_M_tries_30 ?_
        refine lv_bipush (v := 100) hx hb d_M_tries_31 (by decide) ?_
        refine lv_iload hx hb d_M_tries_33 (lv_at hl 5 rfl) ?_
        refine lv_imul hx hb d_M_tries_35 ?_
        refine g_callv (va_runV (As := [.int ((100 * ((nI c9) - 1)) + 1), .int (100 * (nI c9))]) (rest := []) ⟨hx, hb, hml, hown, hw⟩ (k_M_set l D T o a z0 z2 (nI nn) z14 z18 z19 z20 z21 z24 (nI bn) f1 f4 f5 f6 f7 f8 f9 f10 f11 f12 f13 f15 f16 f17 f22 f23 f25 f27 s.heap.size ((100 * ((nI c9) - 1)) + 1) (100 * (nI c9))) (cwV 2 hw (bg_V ml_M_141 wi_M_set wv_M_set wz_M wc_M_set) rfl rfl rfl (by decide +kernel) ⟨Nat.le_of_ble_eq_true rfl, Nat.le_of_ble_eq_true rfl⟩) ⟨qP_b, va_recv hK hP (ci := 6) (q0 := 0) rfl rfl, qP_p hP hK hD⟩ rfl rfl hl.1 rfl (lv_room (Nat.le_of_ble_eq_true rfl)) d_M_tries_36 ⟨Nat.le_of_ble_eq_true rfl, Nat.le_of_ble_eq_true rfl⟩) hD hS hA (fun u9 H locs hr3 hP hD hS => ?_)
        obtain ⟨u4, u5, u6⟩ := u9
        dsimp only at hr3 hP hD
        obtain ⟨q0, q1, q2⟩ := hr3
        replace q0 := q0.symm; subst q0; replace q1 := q1.symm; subst q1; replace q2 := q2.symm; subst q2
        have hP : va_P D gC (mX T o a z0 z2 (nI nn) z14 z18 ((100 * ((nI c9) - 1)) + 1) (100 * (nI c9)) 0 z24 (nI bn) f1 f4 f5 f6 f7 f8 f9 f10 f11 f12 f13 f15 f16 f17 f22 f23 f25 f27) H := hP
        have hD : va_D A (mX T o a z0 z2 (nI nn) z14 z18 ((100 * ((nI c9) - 1)) + 1) (100 * (nI c9)) 0 z24 (nI bn) f1 f4 f5 f6 f7 f8 f9 f10 f11 f12 f13 f15 f16 f17 f22 f23 f25 f27) := hD
        refine lv_iload_n hx hb d_M_tries_39 rfl (lv_at hl 4 rfl) ?_
        refine lv_iconst (v := (-1)) hx hb d_M_tries_40 (by decide) ?_
        refine lv_icmp_eq (tgt := 52) hx hb d_M_tries_41 (by decide) (fun c7 => ?_) (fun c7 => absurd c7 (by decide))
        refine lv_iconst (v := 1) hx hb d_M_tries_52 (by decide) ?_
        refine lv_goto (tgt := 57) hx hb d_M_tries_53 (by decide) ?_
        refine lv_istore (lv' := [(5, .int 1), (0, .ref o), (1, .int (nI j)), (2, .int (-1)), (3, .int (-1)), (4, .int (nI c9))]) hx hb d_M_tries_57 hl (by decide) rfl (fun ls hl => ?_)
        refine lv_goto (tgt := 76) hx hb d_M_tries_59 (by decide) ?_
        have hsrc : j_src z18 none (j_nv f6 f7 f8 f10 f11 f12 f13 ck 0 100000) c9 = some ((100 * ((nI c9) - 1)) + 1, 100 * (nI c9), 0) := by rw [j_src, if_pos hc9]; rfl
        refine lv_iload hx hb d_M_tries_76 (lv_at hl 0 rfl) ?_
        refine lv_if_eq (tgt := 90) hx hb d_M_tries_78 (by decide) (fun c8 => absurd c8 (by decide)) (fun c8 => ?_)
        refine lv_aload_n hx hb d_M_tries_81 rfl (lv_at hl 1 rfl) ?_
        refine lv_iload_n hx hb d_M_tries_82 rfl (lv_at hl 2 rfl) ?_
        refine lv_iload_n hx hb d_M_tries_83 rfl (lv_at hl 3 rfl) ?_
        refine g_calli (va_runV (As := [.int (nI j), .int (-1)]) (rest := []) ⟨hx, hb, hml, hown, hw⟩ (k_M_says l D T o a z0 z2 (nI nn) z14 z18 ((100 * ((nI c9) - 1)) + 1) (100 * (nI c9)) 0 z24 (nI bn) f1 f4 f5 f6 f7 f8 f9 f10 f11 f12 f13 f15 f16 f17 f22 f23 f25 f27 H.size j none hy0 hy1) (cwV 2 hw (bg_V ml_M_190 wi_M_says wv_M_says wz_M wc_M_says) rfl rfl rfl (by decide +kernel) ⟨Nat.le_of_ble_eq_true rfl, Nat.le_of_ble_eq_true rfl⟩) ⟨qP_b, va_recv hK hP (ci := 6) (q0 := 0) rfl rfl, qP_p hP hK hD⟩ rfl rfl hl.1 rfl (lv_room (Nat.le_of_ble_eq_true rfl)) d_M_tries_84 ⟨Nat.le_of_ble_eq_true rfl, Nat.le_of_ble_eq_true rfl⟩) hD hS hA (fun r9 u9 H locs hr9 hP hD hS => ?_)
        obtain ⟨u10, u11, u12⟩ := u9
        dsimp only at hr9 hP hD
        have hP : va_P D gC (mX T o a z0 z2 (nI nn) z14 z18 u10 u11 u12 z24 (nI bn) f1 f4 f5 f6 f7 f8 f9 f10 f11 f12 f13 f15 f16 f17 f22 f23 f25 f27) H := hP
        have hD : va_D A (mX T o a z0 z2 (nI nn) z14 z18 u10 u11 u12 z24 (nI bn) f1 f4 f5 f6 f7 f8 f9 f10 f11 f12 f13 f15 f16 f17 f22 f23 f25 f27) := hD
        replace hr9 := hr9.symm; subst hr9
        refine lv_if_ne (tgt := 91) hx hb d_M_tries_87 (by decide) (fun c13 => ?_) (fun c13 => ?_)
        · have c13 := b2i_t c13
          have hss : j_ss z18 none (j_src z18 none (j_nv f6 f7 f8 f10 f11 f12 f13 ck 0 100000) c9) (f17 j) (f15 j) (f16 j) = true := by rw [hsrc]; exact c13
          refine lv_aload_n hx hb d_M_tries_91 rfl (lv_at hl 1 rfl) ?_
          refine lv_iconst (v := 0) hx hb d_M_tries_92 (by decide) ?_
          refine va_put (D := D) (ci := 6) (v := .int 0) (ty := .int) (C := "TimeWordsModel") (T := F_M) (N := 28) hx hb hw in_M ty_M ty_M_ok n_M hown hK hP hD hS 0 rfl rfl 24 (by decide) (hw _ fl_M_180) (fun _ h9 => h9) rfl (by decide +kernel) rfl rfl (Nat.le_of_ble_eq_true rfl) d_M_tries_93 (fun H locs hP hD hS => ?_)
          have hP : va_P D gC (mX T o a z0 z2 (nI nn) z14 z18 u10 u11 u12 0 (nI bn) f1 f4 f5 f6 f7 f8 f9 f10 f11 f12 f13 f15 f16 f17 f22 f23 f25 f27) H := hP
          have hD : va_D A (mX T o a z0 z2 (nI nn) z14 z18 u10 u11 u12 0 (nI bn) f1 f4 f5 f6 f7 f8 f9 f10 f11 f12 f13 f15 f16 f17 f22 f23 f25 f27) := hD
          have hM : j_ls f23 0 = [] := rfl
          have hP : va_P D gC (mX T o a z0 z2 (nI nn) z14 z18 u10 u11 u12 (nI 0) (nI bn) f1 f4 f5 f6 f7 f8 f9 f10 f11 f12 f13 f15 f16 f17 f22 f23 f25 f27) H := hP
          have hD : va_D A (mX T o a z0 z2 (nI nn) z14 z18 u10 u11 u12 (nI 0) (nI bn) f1 f4 f5 f6 f7 f8 f9 f10 f11 f12 f13 f15 f16 f17 f22 f23 f25 f27) := hD
          refine lv_iload_n hx hb d_M_tries_96 rfl (lv_at hl 3 rfl) ?_
          refine lv_iconst (v := (-1)) hx hb d_M_tries_97 (by decide) ?_
          refine lv_icmp_eq (tgt := 109) hx hb d_M_tries_98 (by decide) (fun c14 => ?_) (fun c14 => absurd c14 (by decide))
          refine lv_iload_n hx hb d_M_tries_109 rfl (lv_at hl 4 rfl) ?_
          refine lv_iconst (v := (-1)) hx hb d_M_tries_110 (by decide) ?_
          refine lv_icmp_eq (tgt := 122) hx hb d_M_tries_111 (by decide) (fun c15 => ?_) (fun c15 => absurd c15 (by decide))
          refine lv_iload hx hb d_M_tries_122 (lv_at hl 5 rfl) ?_
          refine lv_bipush (v := 99) hx hb d_M_tries_124 (by decide) ?_
          refine lv_icmp_le (tgt := 176) hx hb d_M_tries_126 (by decide) (fun c16 => ?_) (fun c16 => absurd (nI_le (a := c9) (b := 99) (by omega) (by decide)) c16)
          refine lv_iload hx hb d_M_tries_176 (lv_at hl 5 rfl) ?_
          refine lv_bipush (v := 9) hx hb d_M_tries_178 (by decide) ?_
          refine lv_icmp_le (tgt := 195) hx hb d_M_tries_180 (by decide) (fun c17 => ?_) (fun c17 => ?_)
          · have c17 := nc_le (a := c9) (b := 9) c17 (by omega) (by omega)
            refine lv_aload_n hx hb d_M_tries_195 rfl (lv_at hl 1 rfl) ?_
            refine lv_bipush (v := 48) hx hb d_M_tries_196 (by decide) ?_
            refine lv_iload hx hb d_M_tries_198 (lv_at hl 5 rfl) ?_
            refine lv_bipush (v := 10) hx hb d_M_tries_200 (by decide) ?_
            refine lv_irem hx hb d_M_tries_202 (by decide) ?_
            rw [show nI c9 - nI c9 / 10 * 10 = nI (c9 % 10) from pk_rem (d := 10) (by omega) (by decide) (by decide)]
            refine lv_iadd hx hb d_M_tries_203 ?_
            rw [show 48 + (nI (c9 % 10)) = nI (48 + (c9 % 10)) from nI_add 48 (c9 % 10)]
            refine g_callv (va_runV (As := [.int (nI (48 + (c9 % 10)))]) (rest := []) ⟨hx, hb, hml, hown, hw⟩ (k_M_put l D T o a z0 z2 (nI nn) z14 z18 u10 u11 u12 0 (nI bn) f1 f4 f5 f6 f7 f8 f9 f10 f11 f12 f13 f15 f16 f17 f22 f23 f25 f27 H.size (nI (48 + (c9 % 10))) (by omega)) (cwV 1 hw (bg_V ml_M_183 wi_M_put wv_M_put wz_M wc_M_put) rfl rfl rfl (by decide +kernel) ⟨Nat.le_of_ble_eq_true rfl, Nat.le_of_ble_eq_true rfl⟩) ⟨qP_b, va_recv hK hP (ci := 6) (q0 := 0) rfl rfl, qP_p hP hK hD⟩ rfl rfl hl.1 rfl (lv_room (Nat.le_of_ble_eq_true rfl)) d_M_tries_204 ⟨Nat.le_of_ble_eq_true rfl, Nat.le_of_ble_eq_true rfl⟩) hD hS hA (fun u9 H locs hr18 hP hD hS => ?_)
            obtain ⟨u19, u20⟩ := u9
            dsimp only at hr18 hP hD
            obtain ⟨q0, q1⟩ := hr18
            replace q0 := q0.symm; subst q0; replace q1 := q1.symm; subst q1
            have hP : va_P D gC (mX T o a z0 z2 (nI nn) z14 z18 u10 u11 u12 (nI (0 + 1)) (nI bn) f1 f4 f5 f6 f7 f8 f9 f10 f11 f12 f13 f15 f16 f17 f22 (upd f23 0 (nI (48 + (c9 % 10)))) f25 f27) H := hP
            have hD : va_D A (mX T o a z0 z2 (nI nn) z14 z18 u10 u11 u12 (nI (0 + 1)) (nI bn) f1 f4 f5 f6 f7 f8 f9 f10 f11 f12 f13 f15 f16 f17 f22 (upd f23 0 (nI (48 + (c9 % 10)))) f25 f27) := hD
            have hM : j_ls (upd f23 0 (nI (48 + (c9 % 10)))) (0 + 1) = [] ++ [nI (48 + (c9 % 10))] := by rw [ls_put, hM]
            refine lv_aload_n hx hb d_M_tries_207 rfl (lv_at hl 1 rfl) ?_
            refine lv_bipush (v := 99) hx hb d_M_tries_208 (by decide) ?_
            refine g_callv (va_runV (As := [.int 99]) (rest := []) ⟨hx, hb, hml, hown, hw⟩ (k_M_put l D T o a z0 z2 (nI nn) z14 z18 u10 u11 u12 (0 + 1) (nI bn) f1 f4 f5 f6 f7 f8 f9 f10 f11 f12 f13 f15 f16 f17 f22 (upd f23 0 (nI (48 + (c9 % 10)))) f25 f27 H.size 99 (by omega)) (cwV 1 hw (bg_V ml_M_183 wi_M_put wv_M_put wz_M wc_M_put) rfl rfl rfl (by decide +kernel) ⟨Nat.le_of_ble_eq_true rfl, Nat.le_of_ble_eq_true rfl⟩) ⟨qP_b, va_recv hK hP (ci := 6) (q0 := 0) rfl rfl, qP_p hP hK hD⟩ rfl rfl hl.1 rfl (lv_room (Nat.le_of_ble_eq_true rfl)) d_M_tries_210 ⟨Nat.le_of_ble_eq_true rfl, Nat.le_of_ble_eq_true rfl⟩) hD hS hA (fun u9 H locs hr21 hP hD hS => ?_)
            obtain ⟨u22, u23⟩ := u9
            dsimp only at hr21 hP hD
            obtain ⟨q0, q1⟩ := hr21
            replace q0 := q0.symm; subst q0; replace q1 := q1.symm; subst q1
            have hP : va_P D gC (mX T o a z0 z2 (nI nn) z14 z18 u10 u11 u12 (nI ((0 + 1) + 1)) (nI bn) f1 f4 f5 f6 f7 f8 f9 f10 f11 f12 f13 f15 f16 f17 f22 (upd (upd f23 0 (nI (48 + (c9 % 10)))) (0 + 1) 99) f25 f27) H := hP
            have hD : va_D A (mX T o a z0 z2 (nI nn) z14 z18 u10 u11 u12 (nI ((0 + 1) + 1)) (nI bn) f1 f4 f5 f6 f7 f8 f9 f10 f11 f12 f13 f15 f16 f17 f22 (upd (upd f23 0 (nI (48 + (c9 % 10)))) (0 + 1) 99) f25 f27) := hD
            have hM : j_ls (upd (upd f23 0 (nI (48 + (c9 % 10)))) (0 + 1) 99) (0 + 1 + 1) = [] ++ [nI (48 + (c9 % 10))] ++ [99] := by rw [ls_put, hM]
            have hT : j_tx none none f4 ln c9 = [] ++ [nI (48 + (c9 % 10))] ++ [99] := by simp only [j_tx, j_ot, if_pos hc9, j_ct]; rw [if_neg (by omega)]; simp
            rw [← hT] at hM
            refine lv_aload_n hx hb d_M_tries_213 rfl (lv_at hl 1 rfl) ?_
            refine vp_callSi (va_Run.run (va_runV (As := []) (rest := []) ⟨hx, hb, hml, hown, hw⟩ (k_M_isBetter l D T o a z0 z2 (nI nn) z14 z18 u10 u11 u12 ((0 + 1) + 1) bn f1 f4 f5 f6 f7 f8 f9 f10 f11 f12 f13 f15 f16 f17 f22 (upd (upd f23 0 (nI (48 + (c9 % 10)))) (0 + 1) 99) f25 f27 (by omega) (by omega) (by omega)) (cwV 0 hw (bg_V ml_M_197 wi_M_isBetter wv_M_isBetter wz_M wc_M_isBetter) rfl rfl rfl (by decide +kernel) ⟨Nat.le_of_ble_eq_true rfl, Nat.le_of_ble_eq_true rfl⟩) ⟨sP_b, va_recv hK hP (ci := 6) (q0 := 0) rfl rfl, sP_p hP hK⟩ rfl rfl hl.1 rfl (lv_room (Nat.le_of_ble_eq_true rfl)) d_M_tries_214 ⟨Nat.le_of_ble_eq_true rfl, Nat.le_of_ble_eq_true rfl⟩)) (fun r24 hr24 => ?_)
            rcases hr24 with hbb | hbb
            · obtain ⟨hr9, hbet⟩ := hbb
              subst hr9
              refine lv_if_eq (tgt := 260) hx hb d_M_tries_217 (by decide) (fun c25 => absurd c25 (by decide)) (fun c25 => ?_)
              refine lv_aload_n hx hb d_M_tries_220 rfl (lv_at hl 1 rfl) ?_
              refine lv_aload_n hx hb d_M_tries_221 rfl (lv_at hl 1 rfl) ?_
              refine va_get (D := D) (ci := 6) (v := .int (nI ((0 + 1) + 1))) (C := "TimeWordsModel") (T := F_M) (N := 28) hx hb hw in_M hown hK hP 0 rfl rfl 24 (by decide) (hw _ fl_M_180) (fun _ h9 => h9) rfl d_M_tries_222 ?_
              refine va_put (D := D) (ci := 6) (v := .int (nI ((0 + 1) + 1))) (ty := .int) (C := "TimeWordsModel") (T := F_M) (N := 28) hx hb hw in_M ty_M ty_M_ok n_M hown hK hP hD hS 0 rfl rfl 26 (by decide) (hw _ fl_M_187) (fun _ h9 => h9) rfl (by decide +kernel) rfl rfl (Nat.le_of_ble_eq_true rfl) d_M_tries_225 (fun H locs hP hD hS => ?_)
              have hP : va_P D gC (mX T o a z0 z2 (nI nn) z14 z18 u10 u11 u12 (nI ((0 + 1) + 1)) (nI ((0 + 1) + 1)) f1 f4 f5 f6 f7 f8 f9 f10 f11 f12 f13 f15 f16 f17 f22 (upd (upd f23 0 (nI (48 + (c9 % 10)))) (0 + 1) 99) f25 f27) H := hP
              have hD : va_D A (mX T o a z0 z2 (nI nn) z14 z18 u10 u11 u12 (nI ((0 + 1) + 1)) (nI ((0 + 1) + 1)) f1 f4 f5 f6 f7 f8 f9 f10 f11 f12 f13 f15 f16 f17 f22 (upd (upd f23 0 (nI (48 + (c9 % 10)))) (0 + 1) 99) f25 f27) := hD
              refine lv_iconst (v := 0) hx hb d_M_tries_228 (by decide) ?_
              refine lv_istore (lv' := [(6, .int 0), (5, .int 1), (0, .ref o), (1, .int (nI j)), (2, .int (-1)), (3, .int (-1)), (4, .int (nI c9))]) hx hb d_M_tries_229 hl (by decide) rfl (fun ls hl => ?_)
              have lopb : ∀ (nb : Nat) (kb : Nat) (g25 : Nat → Int32), (kb ≤ (0 + 1) + 1) → (cpI f25 (upd (upd f23 0 (nI (48 + (c9 % 10)))) (0 + 1) 99) g25 0 kb) → ∀ (H : Heap) (locs : List Loc), va_P D gC (mX T o a z0 z2 (nI nn) z14 z18 u10 u11 u12 (nI ((0 + 1) + 1)) (nI ((0 + 1) + 1)) f1 f4 f5 f6 f7 f8 f9 f10 f11 f12 f13 f15 f16 f17 f22 (upd (upd f23 0 (nI (48 + (c9 % 10)))) (0 + 1) 99) g25 f27) H → va_D A (mX T o a z0 z2 (nI nn) z14 z18 u10 u11 u12 (nI ((0 + 1) + 1)) (nI ((0 + 1) + 1)) f1 f4 f5 f6 f7 f8 f9 f10 f11 f12 f13 f15 f16 f17 f22 (upd (upd f23 0 (nI (48 + (c9 % 10)))) (0 + 1) 99) g25 f27) → va_S A s.heap H locs → ∀ (ls : Array Slot), lv_has ls 7 [(0, .ref o), (6, .int (nI kb))] → (0 + 1) + 1 - kb < nb → W p l e (headSpec (Cond.code y_M_tries b_M_tries 7 none :: bg_W) ({ frames := 3, cells := 0, slots := 0, locals := 67 })).room s m ([.ref o, .int (nI j), .int (j_oi none), .int (j_oi none), .int (nI c9)] : List Value).toArray below meth c H locs 0 0 (MQ below (va_Qv (fun u : Int32 × Int32 × Int32 × (Nat → Int32) × Int32 × (Nat → Int32) × Int32 => match u with | (w19, w20, w21, g23, w24, g25, w26) => ∃ m9, w26 = nI m9 ∧ m9 ≤ 24 ∧ j_ls g25 m9 = j_try (j_ss z18 none (j_src z18 none (j_nv f6 f7 f8 f10 f11 f12 f13 ck 0 100000) c9) (f17 j) (f15 j) (f16 j)) (j_tx none none f4 ln c9) bl) (qB D T A (fun u : Int32 × Int32 × Int32 × (Nat → Int32) × Int32 × (Nat → Int32) × Int32 => match u with | (w19, w20, w21, g23, w24, g25, w26) => mX T o a z0 z2 (nI nn) z14 z18 w19 w20 w21 w24 w26 f1 f4 f5 f6 f7 f8 f9 f10 f11 f12 f13 f15 f16 f17 f22 g23 g25 f27)) A) ([.ref o, .int (nI j), .int (j_oi none), .int (j_oi none), .int (nI c9)] : List Value).toArray s 0 0 A) (F0 m 231 ls []) := by
                intro nb
                induction nb with
                | zero => intro kb g25 hkb hC2 H locs hP hD hS ls hl hm; exact absurd hm (Nat.not_lt_zero _)
                | succ nb ihb =>
                  intro kb g25 hkb hC2 H locs hP hD hS ls hl hm
                  refine lv_iload hx hb d_M_tries_231 (lv_at hl 1 rfl) ?_
                  refine lv_aload_n hx hb d_M_tries_233 rfl (lv_at hl 0 rfl) ?_
                  refine va_get (D := D) (ci := 6) (v := .int (nI ((0 + 1) + 1))) (C := "TimeWordsModel") (T := F_M) (N := 28) hx hb hw in_M hown hK hP 0 rfl rfl 24 (by decide) (hw _ fl_M_180) (fun _ h9 => h9) rfl d_M_tries_234 ?_
                  refine lv_icmp_ge (tgt := 260) hx hb d_M_tries_237 (by decide) (fun c26 => ?_) (fun c26 => ?_)
                  · have c26 := nc_le (a := (0 + 1) + 1) (b := kb) c26 (by omega) (by omega)
                    exact W.vret hx hb hr (fun t ht hW => ⟨⟨(u10, u11, u12, upd (upd f23 0 (nI (48 + (c9 % 10)))) (0 + 1) 99, nI ((0 + 1) + 1), g25, nI ((0 + 1) + 1)), rfl, ⟨_, rfl, by omega, by rw [j_try, if_pos hss, up_yes hy12 hM hbet, ← hM]; have ekb : kb = (0 + 1) + 1 := (by omega); rw [← ekb]; exact ls_cp0 hC2⟩, by rw [ht]; exact hP, va_K.moved hW.alike hK, hD⟩, hS.F ht⟩) hS.2.2 d_M_tries_260
                  · have c26 := nc_nle (a := (0 + 1) + 1) (b := kb) c26 (by omega) (by omega)
                    refine lv_aload_n hx hb d_M_tries_240 rfl (lv_at hl 0 rfl) ?_
                    refine va_get (D := D) (ci := 6) (v := .ref (a 25)) (C := "TimeWordsModel") (T := F_M) (N := 28) hx hb hw in_M hown hK hP 0 rfl rfl 25 (by decide) (hw _ fl_M_63) (fun _ h9 => h9) rfl d_M_tries_241 ?_
                    refine lv_iload hx hb d_M_tries_244 (lv_at hl 1 rfl) ?_
                    refine lv_aload_n hx hb d_M_tries_246 rfl (lv_at hl 0 rfl) ?_
                    refine va_get (D := D) (ci := 6) (v := .ref (a 23)) (C := "TimeWordsModel") (T := F_M) (N := 28) hx hb hw in_M hown hK hP 0 rfl rfl 23 (by decide) (hw _ fl_M_60) (fun _ h9 => h9) rfl d_M_tries_247 ?_
                    refine lv_iload hx hb d_M_tries_250 (lv_at hl 1 rfl) ?_
                    refine va_iald hx hb hK hP 16 0 rfl rfl (by first | assumption | exact vp_in_nI (by omega) (by omega)) d_M_tries_252 ?_
                    rw [show (nI kb).toNatClampNeg = kb from nI_clamp (by omega)]
                    refine va_iast hx hb hK hP hD hS 17 0 rfl rfl (by first | assumption | exact vp_in_nI (by omega) (by omega)) d_M_tries_253 (fun H locs hP hD hS => ?_)
                    rw [show (nI kb).toNatClampNeg = kb from nI_clamp (by omega)] at hP hD
                    have hP : va_P D gC (mX T o a z0 z2 (nI nn) z14 z18 u10 u11 u12 (nI ((0 + 1) + 1)) (nI ((0 + 1) + 1)) f1 f4 f5 f6 f7 f8 f9 f10 f11 f12 f13 f15 f16 f17 f22 (upd (upd f23 0 (nI (48 + (c9 % 10)))) (0 + 1) 99) (upd g25 kb ((upd (upd f23 0 (nI (48 + (c9 % 10)))) (0 + 1) 99) kb)) f27) H := hP
                    have hD : va_D A (mX T o a z0 z2 (nI nn) z14 z18 u10 u11 u12 (nI ((0 + 1) + 1)) (nI ((0 + 1) + 1)) f1 f4 f5 f6 f7 f8 f9 f10 f11 f12 f13 f15 f16 f17 f22 (upd (upd f23 0 (nI (48 + (c9 % 10)))) (0 + 1) 99) (upd g25 kb ((upd (upd f23 0 (nI (48 + (c9 % 10)))) (0 + 1) 99) kb)) f27) := hD
                    refine lv_iinc (v := nI (kb + 1)) (lv' := [(6, .int (nI (kb + 1))), (0, .ref o)]) hx hb d_M_tries_254 hl (k := 1) rfl (nI_add kb 1) (by decide) rfl (fun ls hl => ?_)
                    refine lv_goto (tgt := 231) hx hb d_M_tries_257 (by decide) ?_
                    exact ihb (kb + 1) (upd g25 kb ((upd (upd f23 0 (nI (48 + (c9 % 10)))) (0 + 1) 99) kb)) (by omega) (cpI_s0 hC2) _ _ hP hD hS ls (lv_sub hl [1, 0] rfl) (by omega)
              exact lopb (((0 + 1) + 1 - 0) + 1) 0 f25 (Nat.zero_le _) cpI_0 _ _ hP hD hS ls (lv_sub hl [2, 0] rfl) (Nat.lt_succ_self _)
            · obtain ⟨hr9, hbet⟩ := hbb
              subst hr9
              refine lv_if_eq (tgt := 260) hx hb d_M_tries_217 (by decide) (fun c27 => ?_) (fun c27 => absurd c27 (by decide))
              exact W.vret hx hb hr (fun t ht hW => ⟨⟨(u10, u11, u12, upd (upd f23 0 (nI (48 + (c9 % 10)))) (0 + 1) 99, nI ((0 + 1) + 1), f25, nI bn), rfl, ⟨bn, rfl, hy11, by rw [j_try, if_pos hss, up_no hy12 hM hbet]; exact hy12⟩, by rw [ht]; exact hP, va_K.moved hW.alike hK, hD⟩, hS.F ht⟩) hS.2.2 d_M_tries_260
          · have c17 := nc_nle (a := c9) (b := 9) c17 (by omega) (by omega)
            refine lv_aload_n hx hb d_M_tries_183 rfl (lv_at hl 1 rfl) ?_
            refine lv_bipush (v := 48) hx hb d_M_tries_184 (by decide) ?_
            refine lv_iload hx hb d_M_tries_186 (lv_at hl 5 rfl) ?_
            refine lv_bipush (v := 10) hx hb d_M_tries_188 (by decide) ?_
            refine lv_idiv hx hb d_M_tries_190 (by decide) ?_
            rw [show nI c9 / 10 = nI (c9 / 10) from pk_div (d := 10) (by omega) (by decide) (by decide)]
            refine lv_iadd hx hb d_M_tries_191 ?_
            rw [show 48 + (nI (c9 / 10)) = nI (48 + (c9 / 10)) from nI_add 48 (c9 / 10)]
            refine g_callv (va_runV (As := [.int (nI (48 + (c9 / 10)))]) (rest := []) ⟨hx, hb, hml, hown, hw⟩ (k_M_put l D T o a z0 z2 (nI nn) z14 z18 u10 u11 u12 0 (nI bn) f1 f4 f5 f6 f7 f8 f9 f10 f11 f12 f13 f15 f16 f17 f22 f23 f25 f27 H.size (nI (48 + (c9 / 10))) (by omega)) (cwV 1 hw (bg_V ml_M_183 wi_M_put wv_M_put wz_M wc_M_put) rfl rfl rfl (by decide +kernel) ⟨Nat.le_of_ble_eq_true rfl, Nat.le_of_ble_eq_true rfl⟩) ⟨qP_b, va_recv hK hP (ci := 6) (q0 := 0) rfl rfl, qP_p hP hK hD⟩ rfl rfl hl.1 rfl (lv_room (Nat.le_of_ble_eq_true rfl)) d_M_tries_192 ⟨Nat.le_of_ble_eq_true rfl, Nat.le_of_ble_eq_true rfl⟩) hD hS hA (fun u9 H locs hr28 hP hD hS => ?_)
            obtain ⟨u29, u30⟩ := u9
            dsimp only at hr28 hP hD
            obtain ⟨q0, q1⟩ := hr28
            replace q0 := q0.symm; subst q0; replace q1 := q1.symm; subst q1
            have hP : va_P D gC (mX T o a z0 z2 (nI nn) z14 z18 u10 u11 u12 (nI (0 + 1)) (nI bn) f1 f4 f5 f6 f7 f8 f9 f10 f11 f12 f13 f15 f16 f17 f22 (upd f23 0 (nI (48 + (c9 / 10)))) f25 f27) H := hP
            have hD : va_D A (mX T o a z0 z2 (nI nn) z14 z18 u10 u11 u12 (nI (0 + 1)) (nI bn) f1 f4 f5 f6 f7 f8 f9 f10 f11 f12 f13 f15 f16 f17 f22 (upd f23 0 (nI (48 + (c9 / 10)))) f25 f27) := hD
            have hM : j_ls (upd f23 0 (nI (48 + (c9 / 10)))) (0 + 1) = [] ++ [nI (48 + (c9 / 10))] := by rw [ls_put, hM]
            refine lv_aload_n hx hb d_M_tries_195 rfl (lv_at hl 1 rfl) ?_
            refine lv_bipush (v := 48) hx hb d_M_tries_196 (by decide) ?_
            refine lv_iload hx hb d_M_tries_198 (lv_at hl 5 rfl) ?_
            refine lv_bipush (v := 10) hx hb d_M_tries_200 (by decide) ?_
            refine lv_irem hx hb d_M_tries_202 (by decide) ?_
            rw [show nI c9 - nI c9 / 10 * 10 = nI (c9 % 10) from pk_rem (d := 10) (by omega) (by decide) (by decide)]
            refine lv_iadd hx hb d_M_tries_203 ?_
            rw [show 48 + (nI (c9 % 10)) = nI (48 + (c9 % 10)) from nI_add 48 (c9 % 10)]
            refine g_callv (va_runV (As := [.int (nI (48 + (c9 % 10)))]) (rest := []) ⟨hx, hb, hml, hown, hw⟩ (k_M_put l D T o a z0 z2 (nI nn) z14 z18 u10 u11 u12 (0 + 1) (nI bn) f1 f4 f5 f6 f7 f8 f9 f10 f11 f12 f13 f15 f16 f17 f22 (upd f23 0 (nI (48 + (c9 / 10)))) f25 f27 H.size (nI (48 + (c9 % 10))) (by omega)) (cwV 1 hw (bg_V ml_M_183 wi_M_put wv_M_put wz_M wc_M_put) rfl rfl rfl (by decide +kernel) ⟨Nat.le_of_ble_eq_true rfl, Nat.le_of_ble_eq_true rfl⟩) ⟨qP_b, va_recv hK hP (ci := 6) (q0 := 0) rfl rfl, qP_p hP hK hD⟩ rfl rfl hl.1 rfl (lv_room (Nat.le_of_ble_eq_true rfl)) d_M_tries_204 ⟨Nat.le_of_ble_eq_true rfl, Nat.le_of_ble_eq_true rfl⟩) hD hS hA (fun u9 H locs hr31 hP hD hS => ?_)
            obtain ⟨u32, u33⟩ := u9
            dsimp only at hr31 hP hD
            obtain ⟨q0, q1⟩ := hr31
            replace q0 := q0.symm; subst q0; replace q1 := q1.symm; subst q1
            have hP : va_P D gC (mX T o a z0 z2 (nI nn) z14 z18 u10 u11 u12 (nI ((0 + 1) + 1)) (nI bn) f1 f4 f5 f6 f7 f8 f9 f10 f11 f12 f13 f15 f16 f17 f22 (upd (upd f23 0 (nI (48 + (c9 / 10)))) (0 + 1) (nI (48 + (c9 % 10)))) f25 f27) H := hP
            have hD : va_D A (mX T o a z0 z2 (nI nn) z14 z18 u10 u11 u12 (nI ((0 + 1) + 1)) (nI bn) f1 f4 f5 f6 f7 f8 f9 f10 f11 f12 f13 f15 f16 f17 f22 (upd (upd f23 0 (nI (48 + (c9 / 10)))) (0 + 1) (nI (48 + (c9 % 10)))) f25 f27) := hD
            have hM : j_ls (upd (upd f23 0 (nI (48 + (c9 / 10)))) (0 + 1) (nI (48 + (c9 % 10)))) (0 + 1 + 1) = [] ++ [nI (48 + (c9 / 10))] ++ [nI (48 + (c9 % 10))] := by rw [ls_put, hM]
            refine lv_aload_n hx hb d_M_tries_207 rfl (lv_at hl 1 rfl) ?_
            refine lv_bipush (v := 99) hx hb d_M_tries_208 (by decide) ?_
            refine g_callv (va_runV (As := [.int 99]) (rest := []) ⟨hx, hb, hml, hown, hw⟩ (k_M_put l D T o a z0 z2 (nI nn) z14 z18 u10 u11 u12 ((0 + 1) + 1) (nI bn) f1 f4 f5 f6 f7 f8 f9 f10 f11 f12 f13 f15 f16 f17 f22 (upd (upd f23 0 (nI (48 + (c9 / 10)))) (0 + 1) (nI (48 + (c9 % 10)))) f25 f27 H.size 99 (by omega)) (cwV 1 hw (bg_V ml_M_183 wi_M_put wv_M_put wz_M wc_M_put) rfl rfl rfl (by decide +kernel) ⟨Nat.le_of_ble_eq_true rfl, Nat.le_of_ble_eq_true rfl⟩) ⟨qP_b, va_recv hK hP (ci := 6) (q0 := 0) rfl rfl, qP_p hP hK hD⟩ rfl rfl hl.1 rfl (lv_room (Nat.le_of_ble_eq_true rfl)) d_M_tries_210 ⟨Nat.le_of_ble_eq_true rfl, Nat.le_of_ble_eq_true rfl⟩) hD hS hA (fun u9 H locs hr34 hP hD hS => ?_)
            obtain ⟨u35, u36⟩ := u9
            dsimp only at hr34 hP hD
            obtain ⟨q0, q1⟩ := hr34
            replace q0 := q0.symm; subst q0; replace q1 := q1.symm; subst q1
            have hP : va_P D gC (mX T o a z0 z2 (nI nn) z14 z18 u10 u11 u12 (nI (((0 + 1) + 1) + 1)) (nI bn) f1 f4 f5 f6 f7 f8 f9 f10 f11 f12 f13 f15 f16 f17 f22 (upd (upd (upd f23 0 (nI (48 + (c9 / 10)))) (0 + 1) (nI (48 + (c9 % 10)))) ((0 + 1) + 1) 99) f25 f27) H := hP
            have hD : va_D A (mX T o a z0 z2 (nI nn) z14 z18 u10 u11 u12 (nI (((0 + 1) + 1) + 1)) (nI bn) f1 f4 f5 f6 f7 f8 f9 f10 f11 f12 f13 f15 f16 f17 f22 (upd (upd (upd f23 0 (nI (48 + (c9 / 10)))) (0 + 1) (nI (48 + (c9 % 10)))) ((0 + 1) + 1) 99) f25 f27) := hD
            have hM : j_ls (upd (upd (upd f23 0 (nI (48 + (c9 / 10)))) (0 + 1) (nI (48 + (c9 % 10)))) ((0 + 1) + 1) 99) (0 + 1 + 1 + 1) = [] ++ [nI (48 + (c9 / 10))] ++ [nI (48 + (c9 % 10))] ++ [99] := by rw [ls_put, hM]
            have hT : j_tx none none f4 ln c9 = [] ++ [nI (48 + (c9 / 10))] ++ [nI (48 + (c9 % 10))] ++ [99] := by simp only [j_tx, j_ot, if_pos hc9, j_ct]; rw [if_pos (by omega)]; simp
            rw [← hT] at hM
            refine lv_aload_n hx hb d_M_tries_213 rfl (lv_at hl 1 rfl) ?_
            refine vp_callSi (va_Run.run (va_runV (As := []) (rest := []) ⟨hx, hb, hml, hown, hw⟩ (k_M_isBetter l D T o a z0 z2 (nI nn) z14 z18 u10 u11 u12 (((0 + 1) + 1) + 1) bn f1 f4 f5 f6 f7 f8 f9 f10 f11 f12 f13 f15 f16 f17 f22 (upd (upd (upd f23 0 (nI (48 + (c9 / 10)))) (0 + 1) (nI (48 + (c9 % 10)))) ((0 + 1) + 1) 99) f25 f27 (by omega) (by omega) (by omega)) (cwV 0 hw (bg_V ml_M_197 wi_M_isBetter wv_M_isBetter wz_M wc_M_isBetter) rfl rfl rfl (by decide +kernel) ⟨Nat.le_of_ble_eq_true rfl, Nat.le_of_ble_eq_true rfl⟩) ⟨sP_b, va_recv hK hP (ci := 6) (q0 := 0) rfl rfl, sP_p hP hK⟩ rfl rfl hl.1 rfl (lv_room (Nat.le_of_ble_eq_true rfl)) d_M_tries_214 ⟨Nat.le_of_ble_eq_true rfl, Nat.le_of_ble_eq_true rfl⟩)) (fun r37 hr37 => ?_)
            rcases hr37 with hbb | hbb
            · obtain ⟨hr9, hbet⟩ := hbb
              subst hr9
              refine lv_if_eq (tgt := 260) hx hb d_M_tries_217 (by decide) (fun c38 => absurd c38 (by decide)) (fun c38 => ?_)
              refine lv_aload_n hx hb d_M_tries_220 rfl (lv_at hl 1 rfl) ?_
              refine lv_aload_n hx hb d_M_tries_221 rfl (lv_at hl 1 rfl) ?_
              refine va_get (D := D) (ci := 6) (v := .int (nI (((0 + 1) + 1) + 1))) (C := "TimeWordsModel") (T := F_M) (N := 28) hx hb hw in_M hown hK hP 0 rfl rfl 24 (by decide) (hw _ fl_M_180) (fun _ h9 => h9) rfl d_M_tries_222 ?_
              refine va_put (D := D) (ci := 6) (v := .int (nI (((0 + 1) + 1) + 1))) (ty := .int) (C := "TimeWordsModel") (T := F_M) (N := 28) hx hb hw in_M ty_M ty_M_ok n_M hown hK hP hD hS 0 rfl rfl 26 (by decide) (hw _ fl_M_187) (fun _ h9 => h9) rfl (by decide +kernel) rfl rfl (Nat.le_of_ble_eq_true rfl) d_M_tries_225 (fun H locs hP hD hS => ?_)
              have hP : va_P D gC (mX T o a z0 z2 (nI nn) z14 z18 u10 u11 u12 (nI (((0 + 1) + 1) + 1)) (nI (((0 + 1) + 1) + 1)) f1 f4 f5 f6 f7 f8 f9 f10 f11 f12 f13 f15 f16 f17 f22 (upd (upd (upd f23 0 (nI (48 + (c9 / 10)))) (0 + 1) (nI (48 + (c9 % 10)))) ((0 + 1) + 1) 99) f25 f27) H := hP
              have hD : va_D A (mX T o a z0 z2 (nI nn) z14 z18 u10 u11 u12 (nI (((0 + 1) + 1) + 1)) (nI (((0 + 1) + 1) + 1)) f1 f4 f5 f6 f7 f8 f9 f10 f11 f12 f13 f15 f16 f17 f22 (upd (upd (upd f23 0 (nI (48 + (c9 / 10)))) (0 + 1) (nI (48 + (c9 % 10)))) ((0 + 1) + 1) 99) f25 f27) := hD
              refine lv_iconst (v := 0) hx hb d_M_tries_228 (by decide) ?_
              refine lv_istore (lv' := [(6, .int 0), (5, .int 1), (0, .ref o), (1, .int (nI j)), (2, .int (-1)), (3, .int (-1)), (4, .int (nI c9))]) hx hb d_M_tries_229 hl (by decide) rfl (fun ls hl => ?_)
              have lopb : ∀ (nb : Nat) (kb : Nat) (g25 : Nat → Int32), (kb ≤ ((0 + 1) + 1) + 1) → (cpI f25 (upd (upd (upd f23 0 (nI (48 + (c9 / 10)))) (0 + 1) (nI (48 + (c9 % 10)))) ((0 + 1) + 1) 99) g25 0 kb) → ∀ (H : Heap) (locs : List Loc), va_P D gC (mX T o a z0 z2 (nI nn) z14 z18 u10 u11 u12 (nI (((0 + 1) + 1) + 1)) (nI (((0 + 1) + 1) + 1)) f1 f4 f5 f6 f7 f8 f9 f10 f11 f12 f13 f15 f16 f17 f22 (upd (upd (upd f23 0 (nI (48 + (c9 / 10)))) (0 + 1) (nI (48 + (c9 % 10)))) ((0 + 1) + 1) 99) g25 f27) H → va_D A (mX T o a z0 z2 (nI nn) z14 z18 u10 u11 u12 (nI (((0 + 1) + 1) + 1)) (nI (((0 + 1) + 1) + 1)) f1 f4 f5 f6 f7 f8 f9 f10 f11 f12 f13 f15 f16 f17 f22 (upd (upd (upd f23 0 (nI (48 + (c9 / 10)))) (0 + 1) (nI (48 + (c9 % 10)))) ((0 + 1) + 1) 99) g25 f27) → va_S A s.heap H locs → ∀ (ls : Array Slot), lv_has ls 7 [(0, .ref o), (6, .int (nI kb))] → ((0 + 1) + 1) + 1 - kb < nb → W p l e (headSpec (Cond.code y_M_tries b_M_tries 7 none :: bg_W) ({ frames := 3, cells := 0, slots := 0, locals := 67 })).room s m ([.ref o, .int (nI j), .int (j_oi none), .int (j_oi none), .int (nI c9)] : List Value).toArray below meth c H locs 0 0 (MQ below (va_Qv (fun u : Int32 × Int32 × Int32 × (Nat → Int32) × Int32 × (Nat → Int32) × Int32 => match u with | (w19, w20, w21, g23, w24, g25, w26) => ∃ m9, w26 = nI m9 ∧ m9 ≤ 24 ∧ j_ls g25 m9 = j_try (j_ss z18 none (j_src z18 none (j_nv f6 f7 f8 f10 f11 f12 f13 ck 0 100000) c9) (f17 j) (f15 j) (f16 j)) (j_tx none none f4 ln c9) bl) (qB D T A (fun u : Int32 × Int32 × Int32 × (Nat → Int32) × Int32 × (Nat → Int32) × Int32 => match u with | (w19, w20, w21, g23, w24, g25, w26) => mX T o a z0 z2 (nI nn) z14 z18 w19 w20 w21 w24 w26 f1 f4 f5 f6 f7 f8 f9 f10 f11 f12 f13 f15 f16 f17 f22 g23 g25 f27)) A) ([.ref o, .int (nI j), .int (j_oi none), .int (j_oi none), .int (nI c9)] : List Value).toArray s 0 0 A) (F0 m 231 ls []) := by
                intro nb
                induction nb with
                | zero => intro kb g25 hkb hC2 H locs hP hD hS ls hl hm; exact absurd hm (Nat.not_lt_zero _)
                | succ nb ihb =>
                  intro kb g25 hkb hC2 H locs hP hD hS ls hl hm
                  refine lv_iload hx hb d_M_tries_231 (lv_at hl 1 rfl) ?_
                  refine lv_aload_n hx hb d_M_tries_233 rfl (lv_at hl 0 rfl) ?_
                  refine va_get (D := D) (ci := 6) (v := .int (nI (((0 + 1) + 1) + 1))) (C := "TimeWordsModel") (T := F_M) (N := 28) hx hb hw in_M hown hK hP 0 rfl rfl 24 (by decide) (hw _ fl_M_180) (fun _ h9 => h9) rfl d_M_tries_234 ?_
                  refine lv_icmp_ge (tgt := 260) hx hb d_M_tries_237 (by decide) (fun c39 => ?_) (fun c39 => ?_)
                  · have c39 := nc_le (a := ((0 + 1) + 1) + 1) (b := kb) c39 (by omega) (by omega)
                    exact W.vret hx hb hr (fun t ht hW => ⟨⟨(u10, u11, u12, upd (upd (upd f23 0 (nI (48 + (c9 / 10)))) (0 + 1) (nI (48 + (c9 % 10)))) ((0 + 1) + 1) 99, nI (((0 + 1) + 1) + 1), g25, nI (((0 + 1) + 1) + 1)), rfl, ⟨_, rfl, by omega, by rw [j_try, if_pos hss, up_yes hy12 hM hbet, ← hM]; have ekb : kb = ((0 + 1) + 1) + 1 := (by omega); rw [← ekb]; exact ls_cp0 hC2⟩, by rw [ht]; exact hP, va_K.moved hW.alike hK, hD⟩, hS.F ht⟩) hS.2.2 d_M_tries_260
                  · have c39 := nc_nle (a := ((0 + 1) + 1) + 1) (b := kb) c39 (by omega) (by omega)
                    refine lv_aload_n hx hb d_M_tries_240 rfl (lv_at hl 0 rfl) ?_
                    refine va_get (D := D) (ci := 6) (v := .ref (a 25)) (C := "TimeWordsModel") (T := F_M) (N := 28) hx hb hw in_M hown hK hP 0 rfl rfl 25 (by decide) (hw _ fl_M_63) (fun _ h9 => h9) rfl d_M_tries_241 ?_
                    refine lv_iload hx hb d_M_tries_244 (lv_at hl 1 rfl) ?_
                    refine lv_aload_n hx hb d_M_tries_246 rfl (lv_at hl 0 rfl) ?_
                    refine va_get (D := D) (ci := 6) (v := .ref (a 23)) (C := "TimeWordsModel") (T := F_M) (N := 28) hx hb hw in_M hown hK hP 0 rfl rfl 23 (by decide) (hw _ fl_M_60) (fun _ h9 => h9) rfl d_M_tries_247 ?_
                    refine lv_iload hx hb d_M_tries_250 (lv_at hl 1 rfl) ?_
                    refine va_iald hx hb hK hP 16 0 rfl rfl (by first | assumption | exact vp_in_nI (by omega) (by omega)) d_M_tries_252 ?_
                    rw [show (nI kb).toNatClampNeg = kb from nI_clamp (by omega)]
                    refine va_iast hx hb hK hP hD hS 17 0 rfl rfl (by first | assumption | exact vp_in_nI (by omega) (by omega)) d_M_tries_253 (fun H locs hP hD hS => ?_)
                    rw [show (nI kb).toNatClampNeg = kb from nI_clamp (by omega)] at hP hD
                    have hP : va_P D gC (mX T o a z0 z2 (nI nn) z14 z18 u10 u11 u12 (nI (((0 + 1) + 1) + 1)) (nI (((0 + 1) + 1) + 1)) f1 f4 f5 f6 f7 f8 f9 f10 f11 f12 f13 f15 f16 f17 f22 (upd (upd (upd f23 0 (nI (48 + (c9 / 10)))) (0 + 1) (nI (48 + (c9 % 10)))) ((0 + 1) + 1) 99) (upd g25 kb ((upd (upd (upd f23 0 (nI (48 + (c9 / 10)))) (0 + 1) (nI (48 + (c9 % 10)))) ((0 + 1) + 1) 99) kb)) f27) H := hP
                    have hD : va_D A (mX T o a z0 z2 (nI nn) z14 z18 u10 u11 u12 (nI (((0 + 1) + 1) + 1)) (nI (((0 + 1) + 1) + 1)) f1 f4 f5 f6 f7 f8 f9 f10 f11 f12 f13 f15 f16 f17 f22 (upd (upd (upd f23 0 (nI (48 + (c9 / 10)))) (0 + 1) (nI (48 + (c9 % 10)))) ((0 + 1) + 1) 99) (upd g25 kb ((upd (upd (upd f23 0 (nI (48 + (c9 / 10)))) (0 + 1) (nI (48 + (c9 % 10)))) ((0 + 1) + 1) 99) kb)) f27) := hD
                    refine lv_iinc (v := nI (kb + 1)) (lv' := [(6, .int (nI (kb + 1))), (0, .ref o)]) hx hb d_M_tries_254 hl (k := 1) rfl (nI_add kb 1) (by decide) rfl (fun ls hl => ?_)
                    refine lv_goto (tgt := 231) hx hb d_M_tries_257 (by decide) ?_
                    exact ihb (kb + 1) (upd g25 kb ((upd (upd (upd f23 0 (nI (48 + (c9 / 10)))) (0 + 1) (nI (48 + (c9 % 10)))) ((0 + 1) + 1) 99) kb)) (by omega) (cpI_s0 hC2) _ _ hP hD hS ls (lv_sub hl [1, 0] rfl) (by omega)
              exact lopb ((((0 + 1) + 1) + 1 - 0) + 1) 0 f25 (Nat.zero_le _) cpI_0 _ _ hP hD hS ls (lv_sub hl [2, 0] rfl) (Nat.lt_succ_self _)
            · obtain ⟨hr9, hbet⟩ := hbb
              subst hr9
              refine lv_if_eq (tgt := 260) hx hb d_M_tries_217 (by decide) (fun c40 => ?_) (fun c40 => absurd c40 (by decide))
              exact W.vret hx hb hr (fun t ht hW => ⟨⟨(u10, u11, u12, upd (upd (upd f23 0 (nI (48 + (c9 / 10)))) (0 + 1) (nI (48 + (c9 % 10)))) ((0 + 1) + 1) 99, nI (((0 + 1) + 1) + 1), f25, nI bn), rfl, ⟨bn, rfl, hy11, by rw [j_try, if_pos hss, up_no hy12 hM hbet]; exact hy12⟩, by rw [ht]; exact hP, va_K.moved hW.alike hK, hD⟩, hS.F ht⟩) hS.2.2 d_M_tries_260
        · have c13 := b2i_f c13
          exact W.vret hx hb hr (fun t ht hW => ⟨⟨(u10, u11, u12, f23, z24, f25, nI bn), rfl, ⟨bn, rfl, hy11, by rw [j_try, if_neg (show ¬ j_ss z18 none (j_src z18 none (j_nv f6 f7 f8 f10 f11 f12 f13 ck 0 100000) c9) (f17 j) (f15 j) (f16 j) = true from (by rw [show j_ss z18 none (j_src z18 none (j_nv f6 f7 f8 f10 f11 f12 f13 ck 0 100000) c9) (f17 j) (f15 j) (f16 j) = false from (by rw [hsrc]; exact c13)]; exact Bool.false_ne_true))]; exact hy12⟩, by rw [ht]; exact hP, va_K.moved hW.alike hK, hD⟩, hS.F ht⟩) hS.2.2 d_M_tries_90
      · have c1 := nc_nle (a := c9) (b := 99) c1 (by omega) (by omega)
        refine lv_iconst (v := 1) hx hb d_M_tries_7 (by decide) ?_
        refine lv_goto (tgt := 12) hx hb d_M_tries_8 (by decide) ?_
        refine lv_istore (lv' := [(5, .int 1), (0, .ref o), (1, .int (nI j)), (2, .int (-1)), (3, .int (-1)), (4, .int (nI c9))]) hx hb d_M_tries_12 hl (by decide) rfl (fun ls hl => ?_)
        refine lv_iload hx hb d_M_tries_14 (lv_at hl 5 rfl) ?_
        refine lv_bipush (v := 99) hx hb d_M_tries_16 (by decide) ?_
        refine lv_icmp_gt (tgt := 62) hx hb d_M_tries_18 (by decide) (fun c41 => ?_) (fun c41 => absurd (nI_lt (a := 99) (b := c9) (by omega) (by omega)) c41)
        have hc9 : ¬ c9 ≤ 99 := by omega
        refine lv_aload_n hx hb d_M_tries_62 rfl (lv_at hl 1 rfl) ?_
        refine lv_iload hx hb d_M_tries_63 (lv_at hl 5 rfl) ?_
        refine lv_bipush (v := 100) hx hb d_M_tries_65 (by decide) ?_
        refine lv_isub hx hb d_M_tries_67 ?_
        rw [show (nI c9) - 100 = nI (c9 - 100) from pk_sub (a := c9) (b := 100) (by omega)]
        refine lv_iconst (v := 0) hx hb d_M_tries_68 (by decide) ?_
        refine lv_ldc (v := 100000) hx hb hown (hw _ ci_M_105) d_M_tries_69 ?_
        refine g_calli (va_runV (As := [.int (nI (c9 - 100)), .int 0, .int 100000]) (rest := []) ⟨hx, hb, hml, hown, hw⟩ (k_M_named l D T o a z0 z2 (nI nn) z14 z18 z19 z20 z21 z24 (nI bn) f1 f4 f5 f6 f7 f8 f9 f10 f11 f12 f13 f15 f16 f17 f22 f23 f25 f27 s.heap.size (c9 - 100) 0 100000 ck (by omega) hy9 hy10) (cwV 3 hw (bg_V ml_M_145 wi_M_named wv_M_named wz_M wc_M_named) rfl rfl rfl (by decide +kernel) ⟨Nat.le_of_ble_eq_true rfl, Nat.le_of_ble_eq_true rfl⟩) ⟨qP_b, va_recv hK hP (ci := 6) (q0 := 0) rfl rfl, qP_p hP hK hD⟩ rfl rfl hl.1 rfl (lv_room (Nat.le_of_ble_eq_true rfl)) d_M_tries_71 ⟨Nat.le_of_ble_eq_true rfl, Nat.le_of_ble_eq_true rfl⟩) hD hS hA (fun r42 u9 H locs hr42 hP hD hS => ?_)
        obtain ⟨u43, u44, u45⟩ := u9
        dsimp only at hr42 hP hD
        have hP : va_P D gC (mX T o a z0 z2 (nI nn) z14 z18 u43 u44 u45 z24 (nI bn) f1 f4 f5 f6 f7 f8 f9 f10 f11 f12 f13 f15 f16 f17 f22 f23 f25 f27) H := hP
        have hD : va_D A (mX T o a z0 z2 (nI nn) z14 z18 u43 u44 u45 z24 (nI bn) f1 f4 f5 f6 f7 f8 f9 f10 f11 f12 f13 f15 f16 f17 f22 f23 f25 f27) := hD
        have hmk : (r42 = 1 ∧ j_src z18 none (j_nv f6 f7 f8 f10 f11 f12 f13 ck 0 100000) c9 = some (u43, u44, u45)) ∨ (r42 = 0 ∧ j_src z18 none (j_nv f6 f7 f8 f10 f11 f12 f13 ck 0 100000) c9 = none) := by
          rw [j_src, if_neg hc9]
          rcases hr42 with h1 | ⟨h1, h2, -⟩
          · exact Or.inl h1
          · exact Or.inr ⟨h1, h2⟩
        rcases hmk with hmk | hmk
        · obtain ⟨hr9, hsrc⟩ := hmk
          subst hr9
          refine lv_istore (lv' := [(5, .int 1), (0, .ref o), (1, .int (nI j)), (2, .int (-1)), (3, .int (-1)), (4, .int (nI c9))]) hx hb d_M_tries_74 hl (by decide) rfl (fun ls hl => ?_)
          refine lv_iload hx hb d_M_tries_76 (lv_at hl 0 rfl) ?_
          refine lv_if_eq (tgt := 90) hx hb d_M_tries_78 (by decide) (fun c46 => absurd c46 (by decide)) (fun c46 => ?_)
          refine lv_aload_n hx hb d_M_tries_81 rfl (lv_at hl 1 rfl) ?_
          refine lv_iload_n hx hb d_M_tries_82 rfl (lv_at hl 2 rfl) ?_
          refine lv_iload_n hx hb d_M_tries_83 rfl (lv_at hl 3 rfl) ?_
          refine g_calli (va_runV (As := [.int (nI j), .int (-1)]) (rest := []) ⟨hx, hb, hml, hown, hw⟩ (k_M_says l D T o a z0 z2 (nI nn) z14 z18 u43 u44 u45 z24 (nI bn) f1 f4 f5 f6 f7 f8 f9 f10 f11 f12 f13 f15 f16 f17 f22 f23 f25 f27 H.size j none hy0 hy1) (cwV 2 hw (bg_V ml_M_190 wi_M_says wv_M_says wz_M wc_M_says) rfl rfl rfl (by decide +kernel) ⟨Nat.le_of_ble_eq_true rfl, Nat.le_of_ble_eq_true rfl⟩) ⟨qP_b, va_recv hK hP (ci := 6) (q0 := 0) rfl rfl, qP_p hP hK hD⟩ rfl rfl hl.1 rfl (lv_room (Nat.le_of_ble_eq_true rfl)) d_M_tries_84 ⟨Nat.le_of_ble_eq_true rfl, Nat.le_of_ble_eq_true rfl⟩) hD hS hA (fun r47 u9 H locs hr47 hP hD hS => ?_)
          obtain ⟨u48, u49, u50⟩ := u9
          dsimp only at hr47 hP hD
          have hP : va_P D gC (mX T o a z0 z2 (nI nn) z14 z18 u48 u49 u50 z24 (nI bn) f1 f4 f5 f6 f7 f8 f9 f10 f11 f12 f13 f15 f16 f17 f22 f23 f25 f27) H := hP
          have hD : va_D A (mX T o a z0 z2 (nI nn) z14 z18 u48 u49 u50 z24 (nI bn) f1 f4 f5 f6 f7 f8 f9 f10 f11 f12 f13 f15 f16 f17 f22 f23 f25 f27) := hD
          replace hr47 := hr47.symm; subst hr47
          refine lv_if_ne (tgt := 91) hx hb d_M_tries_87 (by decide) (fun c51 => ?_) (fun c51 => ?_)
          · have c51 := b2i_t c51
            have hss : j_ss z18 none (j_src z18 none (j_nv f6 f7 f8 f10 f11 f12 f13 ck 0 100000) c9) (f17 j) (f15 j) (f16 j) = true := by rw [hsrc]; exact c51
            refine lv_aload_n hx hb d_M_tries_91 rfl (lv_at hl 1 rfl) ?_
            refine lv_iconst (v := 0) hx hb d_M_tries_92 (by decide) ?_
            refine va_put (D := D) (ci := 6) (v := .int 0) (ty := .int) (C := "TimeWordsModel") (T := F_M) (N := 28) hx hb hw in_M ty_M ty_M_ok n_M hown hK hP hD hS 0 rfl rfl 24 (by decide) (hw _ fl_M_180) (fun _ h9 => h9) rfl (by decide +kernel) rfl rfl (Nat.le_of_ble_eq_true rfl) d_M_tries_93 (fun H locs hP hD hS => ?_)
            have hP : va_P D gC (mX T o a z0 z2 (nI nn) z14 z18 u48 u49 u50 0 (nI bn) f1 f4 f5 f6 f7 f8 f9 f10 f11 f12 f13 f15 f16 f17 f22 f23 f25 f27) H := hP
            have hD : va_D A (mX T o a z0 z2 (nI nn) z14 z18 u48 u49 u50 0 (nI bn) f1 f4 f5 f6 f7 f8 f9 f10 f11 f12 f13 f15 f16 f17 f22 f23 f25 f27) := hD
            have hM : j_ls f23 0 = [] := rfl
            have hP : va_P D gC (mX T o a z0 z2 (nI nn) z14 z18 u48 u49 u50 (nI 0) (nI bn) f1 f4 f5 f6 f7 f8 f9 f10 f11 f12 f13 f15 f16 f17 f22 f23 f25 f27) H := hP
            have hD : va_D A (mX T o a z0 z2 (nI nn) z14 z18 u48 u49 u50 (nI 0) (nI bn) f1 f4 f5 f6 f7 f8 f9 f10 f11 f12 f13 f15 f16 f17 f22 f23 f25 f27) := hD
            refine lv_iload_n hx hb d_M_tries_96 rfl (lv_at hl 3 rfl) ?_
            refine lv_iconst (v := (-1)) hx hb d_M_tries_97 (by decide) ?_
            refine lv_icmp_eq (tgt := 109) hx hb d_M_tries_98 (by decide) (fun c52 => ?_) (fun c52 => absurd c52 (by decide))
            refine lv_iload_n hx hb d_M_tries_109 rfl (lv_at hl 4 rfl) ?_
            refine lv_iconst (v := (-1)) hx hb d_M_tries_110 (by decide) ?_
            refine lv_icmp_eq (tgt := 122) hx hb d_M_tries_111 (by decide) (fun c53 => ?_) (fun c53 => absurd c53 (by decide))
            refine lv_iload hx hb d_M_tries_122 (lv_at hl 5 rfl) ?_
            refine lv_bipush (v := 99) hx hb d_M_tries_124 (by decide) ?_
            refine lv_icmp_le (tgt := 176) hx hb d_M_tries_126 (by decide) (fun c54 => absurd c54 (nI_ge (a := 99) (b := c9) (by omega) (by omega))) (fun c54 => ?_)
            refine lv_iconst (v := 0) hx hb d_M_tries_129 (by decide) ?_
            refine lv_istore (lv' := [(6, .int 0), (5, .int 1), (0, .ref o), (1, .int (nI j)), (2, .int (-1)), (3, .int (-1)), (4, .int (nI c9))]) hx hb d_M_tries_130 hl (by decide) rfl (fun ls hl => ?_)
            have h8 := hy7 (c9 - 100)
            have h1n := hy8 (c9 - 100) (by omega)
            have lopl : ∀ (nl : Nat) (k : Nat) (g23 : Nat → Int32), (k ≤ ln (c9 - 100)) → (cpI f23 (fun k => f4 (8 * (c9 - 100) + k)) g23 (0) k) → ∀ (H : Heap) (locs : List Loc), va_P D gC (mX T o a z0 z2 (nI nn) z14 z18 u48 u49 u50 (nI (0 + k)) (nI bn) f1 f4 f5 f6 f7 f8 f9 f10 f11 f12 f13 f15 f16 f17 f22 g23 f25 f27) H → va_D A (mX T o a z0 z2 (nI nn) z14 z18 u48 u49 u50 (nI (0 + k)) (nI bn) f1 f4 f5 f6 f7 f8 f9 f10 f11 f12 f13 f15 f16 f17 f22 g23 f25 f27) → va_S A s.heap H locs → ∀ (ls : Array Slot), lv_has ls 7 [(5, .int 1), (0, .ref o), (1, .int (nI j)), (2, .int (-1)), (3, .int (-1)), (4, .int (nI c9)), (6, .int (nI k))] → ln (c9 - 100) - k < nl → W p l e (headSpec (Cond.code y_M_tries b_M_tries 7 none :: bg_W) ({ frames := 3, cells := 0, slots := 0, locals := 67 })).room s m ([.ref o, .int (nI j), .int (j_oi none), .int (j_oi none), .int (nI c9)] : List Value).toArray below meth c H locs 0 0 (MQ below (va_Qv (fun u : Int32 × Int32 × Int32 × (Nat → Int32) × Int32 × (Nat → Int32) × Int32 => match u with | (w19, w20, w21, g23, w24, g25, w26) => ∃ m9, w26 = nI m9 ∧ m9 ≤ 24 ∧ j_ls g25 m9 = j_try (j_ss z18 none (j_src z18 none (j_nv f6 f7 f8 f10 f11 f12 f13 ck 0 100000) c9) (f17 j) (f15 j) (f16 j)) (j_tx none none f4 ln c9) bl) (qB D T A (fun u : Int32 × Int32 × Int32 × (Nat → Int32) × Int32 × (Nat → Int32) × Int32 => match u with | (w19, w20, w21, g23, w24, g25, w26) => mX T o a z0 z2 (nI nn) z14 z18 w19 w20 w21 w24 w26 f1 f4 f5 f6 f7 f8 f9 f10 f11 f12 f13 f15 f16 f17 f22 g23 g25 f27)) A) ([.ref o, .int (nI j), .int (j_oi none), .int (j_oi none), .int (nI c9)] : List Value).toArray s 0 0 A) (F0 m 132 ls []) := by
              intro nl
              induction nl with
              | zero => intro k g23 hk hC H locs hP hD hS ls hl hm; exact absurd hm (Nat.not_lt_zero _)
              | succ nl ihl =>
                intro k g23 hk hC H locs hP hD hS ls hl hm
                refine lv_iload hx hb d_M_tries_132 (lv_at hl 6 rfl) ?_
                refine lv_aload_n hx hb d_M_tries_134 rfl (lv_at hl 1 rfl) ?_
                refine va_get (D := D) (ci := 6) (v := .ref (a 5)) (C := "TimeWordsModel") (T := F_M) (N := 28) hx hb hw in_M hown hK hP 0 rfl rfl 5 (by decide) (hw _ fl_M_16) (fun _ h9 => h9) rfl d_M_tries_135 ?_
                refine lv_iload hx hb d_M_tries_138 (lv_at hl 5 rfl) ?_
                refine lv_bipush (v := 100) hx hb d_M_tries_140 (by decide) ?_
                refine lv_isub hx hb d_M_tries_142 ?_
                rw [show (nI c9) - 100 = nI (c9 - 100) from pk_sub (a := c9) (b := 100) (by omega)]
                refine va_iald hx hb hK hP 3 0 rfl rfl (by first | assumption | exact vp_in_nI (by omega) (by omega)) d_M_tries_143 ?_
                rw [show (nI (c9 - 100)).toNatClampNeg = (c9 - 100) from nI_clamp (by omega)]
                rw [hy6 (c9 - 100)]
                refine lv_icmp_ge (tgt := 173) hx hb d_M_tries_144 (by decide) (fun c55 => ?_) (fun c55 => ?_)
                · have c55 := nc_le (a := ln (c9 - 100)) (b := k) c55 (by omega) (by omega)
                  have ek : k = ln (c9 - 100) := by omega
                  subst ek
                  have hM : j_ls g23 (0 + ln (c9 - 100)) = [] ++ j_ls (fun k => f4 (8 * (c9 - 100) + k)) (ln (c9 - 100)) := by rw [ls_cp hC, hM]
                  have hT : j_tx none none f4 ln c9 = [] ++ j_ls (fun k => f4 (8 * (c9 - 100) + k)) (ln (c9 - 100)) := by simp only [j_tx, j_ot, if_neg hc9]; simp
                  refine lv_goto (tgt := 213) hx hb d_M_tries_173 (by decide) ?_
                  rw [← hT] at hM
                  refine lv_aload_n hx hb d_M_tries_213 rfl (lv_at hl 1 rfl) ?_
                  refine vp_callSi (va_Run.run (va_runV (As := []) (rest := []) ⟨hx, hb, hml, hown, hw⟩ (k_M_isBetter l D T o a z0 z2 (nI nn) z14 z18 u48 u49 u50 (0 + (ln (c9 - 100))) bn f1 f4 f5 f6 f7 f8 f9 f10 f11 f12 f13 f15 f16 f17 f22 g23 f25 f27 (by omega) (by omega) (by omega)) (cwV 0 hw (bg_V ml_M_197 wi_M_isBetter wv_M_isBetter wz_M wc_M_isBetter) rfl rfl rfl (by decide +kernel) ⟨Nat.le_of_ble_eq_true rfl, Nat.le_of_ble_eq_true rfl⟩) ⟨sP_b, va_recv hK hP (ci := 6) (q0 := 0) rfl rfl, sP_p hP hK⟩ rfl rfl hl.1 rfl (lv_room (Nat.le_of_ble_eq_true rfl)) d_M_tries_214 ⟨Nat.le_of_ble_eq_true rfl, Nat.le_of_ble_eq_true rfl⟩)) (fun r56 hr56 => ?_)
                  rcases hr56 with hbb | hbb
                  · obtain ⟨hr9, hbet⟩ := hbb
                    subst hr9
                    refine lv_if_eq (tgt := 260) hx hb d_M_tries_217 (by decide) (fun c57 => absurd c57 (by decide)) (fun c57 => ?_)
                    refine lv_aload_n hx hb d_M_tries_220 rfl (lv_at hl 1 rfl) ?_
                    refine lv_aload_n hx hb d_M_tries_221 rfl (lv_at hl 1 rfl) ?_
                    refine va_get (D := D) (ci := 6) (v := .int (nI (0 + (ln (c9 - 100))))) (C := "TimeWordsModel") (T := F_M) (N := 28) hx hb hw in_M hown hK hP 0 rfl rfl 24 (by decide) (hw _ fl_M_180) (fun _ h9 => h9) rfl d_M_tries_222 ?_
                    refine va_put (D := D) (ci := 6) (v := .int (nI (0 + (ln (c9 - 100))))) (ty := .int) (C := "TimeWordsModel") (T := F_M) (N := 28) hx hb hw in_M ty_M ty_M_ok n_M hown hK hP hD hS 0 rfl rfl 26 (by decide) (hw _ fl_M_187) (fun _ h9 => h9) rfl (by decide +kernel) rfl rfl (Nat.le_of_ble_eq_true rfl) d_M_tries_225 (fun H locs hP hD hS => ?_)
                    have hP : va_P D gC (mX T o a z0 z2 (nI nn) z14 z18 u48 u49 u50 (nI (0 + (ln (c9 - 100)))) (nI (0 + (ln (c9 - 100)))) f1 f4 f5 f6 f7 f8 f9 f10 f11 f12 f13 f15 f16 f17 f22 g23 f25 f27) H := hP
                    have hD : va_D A (mX T o a z0 z2 (nI nn) z14 z18 u48 u49 u50 (nI (0 + (ln (c9 - 100)))) (nI (0 + (ln (c9 - 100)))) f1 f4 f5 f6 f7 f8 f9 f10 f11 f12 f13 f15 f16 f17 f22 g23 f25 f27) := hD
                    refine lv_iconst (v := 0) hx hb d_M_tries_228 (by decide) ?_
                    refine lv_istore (lv' := [(6, .int 0), (5, .int 1), (0, .ref o), (1, .int (nI j)), (2, .int (-1)), (3, .int (-1)), (4, .int (nI c9))]) hx hb d_M_tries_229 hl (by decide) rfl (fun ls hl => ?_)
                    have lopb : ∀ (nb : Nat) (kb : Nat) (g25 : Nat → Int32), (kb ≤ 0 + (ln (c9 - 100))) → (cpI f25 g23 g25 0 kb) → ∀ (H : Heap) (locs : List Loc), va_P D gC (mX T o a z0 z2 (nI nn) z14 z18 u48 u49 u50 (nI (0 + (ln (c9 - 100)))) (nI (0 + (ln (c9 - 100)))) f1 f4 f5 f6 f7 f8 f9 f10 f11 f12 f13 f15 f16 f17 f22 g23 g25 f27) H → va_D A (mX T o a z0 z2 (nI nn) z14 z18 u48 u49 u50 (nI (0 + (ln (c9 - 100)))) (nI (0 + (ln (c9 - 100)))) f1 f4 f5 f6 f7 f8 f9 f10 f11 f12 f13 f15 f16 f17 f22 g23 g25 f27) → va_S A s.heap H locs → ∀ (ls : Array Slot), lv_has ls 7 [(0, .ref o), (6, .int (nI kb))] → 0 + (ln (c9 - 100)) - kb < nb → W p l e (headSpec (Cond.code y_M_tries b_M_tries 7 none :: bg_W) ({ frames := 3, cells := 0, slots := 0, locals := 67 })).room s m ([.ref o, .int (nI j), .int (j_oi none), .int (j_oi none), .int (nI c9)] : List Value).toArray below meth c H locs 0 0 (MQ below (va_Qv (fun u : Int32 × Int32 × Int32 × (Nat → Int32) × Int32 × (Nat → Int32) × Int32 => match u with | (w19, w20, w21, g23, w24, g25, w26) => ∃ m9, w26 = nI m9 ∧ m9 ≤ 24 ∧ j_ls g25 m9 = j_try (j_ss z18 none (j_src z18 none (j_nv f6 f7 f8 f10 f11 f12 f13 ck 0 100000) c9) (f17 j) (f15 j) (f16 j)) (j_tx none none f4 ln c9) bl) (qB D T A (fun u : Int32 × Int32 × Int32 × (Nat → Int32) × Int32 × (Nat → Int32) × Int32 => match u with | (w19, w20, w21, g23, w24, g25, w26) => mX T o a z0 z2 (nI nn) z14 z18 w19 w20 w21 w24 w26 f1 f4 f5 f6 f7 f8 f9 f10 f11 f12 f13 f15 f16 f17 f22 g23 g25 f27)) A) ([.ref o, .int (nI j), .int (j_oi none), .int (j_oi none), .int (nI c9)] : List Value).toArray s 0 0 A) (F0 m 231 ls []) := by
                      intro nb
                      induction nb with
                      | zero => intro kb g25 hkb hC2 H locs hP hD hS ls hl hm; exact absurd hm (Nat.not_lt_zero _)
                      | succ nb ihb =>
                        intro kb g25 hkb hC2 H locs hP hD hS ls hl hm
                        refine lv_iload hx hb d_M_tries_231 (lv_at hl 1 rfl) ?_
                        refine lv_aload_n hx hb d_M_tries_233 rfl (lv_at hl 0 rfl) ?_
                        refine va_get (D := D) (ci := 6) (v := .int (nI (0 + (ln (c9 - 100))))) (C := "TimeWordsModel") (T := F_M) (N := 28) hx hb hw in_M hown hK hP 0 rfl rfl 24 (by decide) (hw _ fl_M_180) (fun _ h9 => h9) rfl d_M_tries_234 ?_
                        refine lv_icmp_ge (tgt := 260) hx hb d_M_tries_237 (by decide) (fun c58 => ?_) (fun c58 => ?_)
                        · have c58 := nc_le (a := 0 + (ln (c9 - 100))) (b := kb) c58 (by omega) (by omega)
                          exact W.vret hx hb hr (fun t ht hW => ⟨⟨(u48, u49, u50, g23, nI (0 + (ln (c9 - 100))), g25, nI (0 + (ln (c9 - 100)))), rfl, ⟨_, rfl, by omega, by rw [j_try, if_pos hss, up_yes hy12 hM hbet, ← hM]; have ekb : kb = 0 + (ln (c9 - 100)) := (by omega); rw [← ekb]; exact ls_cp0 hC2⟩, by rw [ht]; exact hP, va_K.moved hW.alike hK, hD⟩, hS.F ht⟩) hS.2.2 d_M_tries_260
                        · have c58 := nc_nle (a := 0 + (ln (c9 - 100))) (b := kb) c58 (by omega) (by omega)
                          refine lv_aload_n hx hb d_M_tries_240 rfl (lv_at hl 0 rfl) ?_
                          refine va_get (D := D) (ci := 6) (v := .ref (a 25)) (C := "TimeWordsModel") (T := F_M) (N := 28) hx hb hw in_M hown hK hP 0 rfl rfl 25 (by decide) (hw _ fl_M_63) (fun _ h9 => h9) rfl d_M_tries_241 ?_
                          refine lv_iload hx hb d_M_tries_244 (lv_at hl 1 rfl) ?_
                          refine lv_aload_n hx hb d_M_tries_246 rfl (lv_at hl 0 rfl) ?_
                          refine va_get (D := D) (ci := 6) (v := .ref (a 23)) (C := "TimeWordsModel") (T := F_M) (N := 28) hx hb hw in_M hown hK hP 0 rfl rfl 23 (by decide) (hw _ fl_M_60) (fun _ h9 => h9) rfl d_M_tries_247 ?_
                          refine lv_iload hx hb d_M_tries_250 (lv_at hl 1 rfl) ?_
                          refine va_iald hx hb hK hP 16 0 rfl rfl (by first | assumption | exact vp_in_nI (by omega) (by omega)) d_M_tries_252 ?_
                          rw [show (nI kb).toNatClampNeg = kb from nI_clamp (by omega)]
                          refine va_iast hx hb hK hP hD hS 17 0 rfl rfl (by first | assumption | exact vp_in_nI (by omega) (by omega)) d_M_tries_253 (fun H locs hP hD hS => ?_)
                          rw [show (nI kb).toNatClampNeg = kb from nI_clamp (by omega)] at hP hD
                          have hP : va_P D gC (mX T o a z0 z2 (nI nn) z14 z18 u48 u49 u50 (nI (0 + (ln (c9 - 100)))) (nI (0 + (ln (c9 - 100)))) f1 f4 f5 f6 f7 f8 f9 f10 f11 f12 f13 f15 f16 f17 f22 g23 (upd g25 kb (g23 kb)) f27) H := hP
                          have hD : va_D A (mX T o a z0 z2 (nI nn) z14 z18 u48 u49 u50 (nI (0 + (ln (c9 - 100)))) (nI (0 + (ln (c9 - 100)))) f1 f4 f5 f6 f7 f8 f9 f10 f11 f12 f13 f15 f16 f17 f22 g23 (upd g25 kb (g23 kb)) f27) := hD
                          refine lv_iinc (v := nI (kb + 1)) (lv' := [(6, .int (nI (kb + 1))), (0, .ref o)]) hx hb d_M_tries_254 hl (k := 1) rfl (nI_add kb 1) (by decide) rfl (fun ls hl => ?_)
                          refine lv_goto (tgt := 231) hx hb d_M_tries_257 (by decide) ?_
                          exact ihb (kb + 1) (upd g25 kb (g23 kb)) (by omega) (cpI_s0 hC2) _ _ hP hD hS ls (lv_sub hl [1, 0] rfl) (by omega)
                    exact lopb ((0 + (ln (c9 - 100)) - 0) + 1) 0 f25 (Nat.zero_le _) cpI_0 _ _ hP hD hS ls (lv_sub hl [2, 0] rfl) (Nat.lt_succ_self _)
                  · obtain ⟨hr9, hbet⟩ := hbb
                    subst hr9
                    refine lv_if_eq (tgt := 260) hx hb d_M_tries_217 (by decide) (fun c59 => ?_) (fun c59 => absurd c59 (by decide))
                    exact W.vret hx hb hr (fun t ht hW => ⟨⟨(u48, u49, u50, g23, nI (0 + (ln (c9 - 100))), f25, nI bn), rfl, ⟨bn, rfl, hy11, by rw [j_try, if_pos hss, up_no hy12 hM hbet]; exact hy12⟩, by rw [ht]; exact hP, va_K.moved hW.alike hK, hD⟩, hS.F ht⟩) hS.2.2 d_M_tries_260
                · have c55 := nc_nle (a := ln (c9 - 100)) (b := k) c55 (by omega) (by omega)
                  refine lv_aload_n hx hb d_M_tries_147 rfl (lv_at hl 1 rfl) ?_
                  refine lv_aload_n hx hb d_M_tries_148 rfl (lv_at hl 1 rfl) ?_
                  refine va_get (D := D) (ci := 6) (v := .ref (a 4)) (C := "TimeWordsModel") (T := F_M) (N := 28) hx hb hw in_M hown hK hP 0 rfl rfl 4 (by decide) (hw _ fl_M_13) (fun _ h9 => h9) rfl d_M_tries_149 ?_
                  refine lv_bipush (v := 8) hx hb d_M_tries_152 (by decide) ?_
                  refine lv_iload hx hb d_M_tries_154 (lv_at hl 5 rfl) ?_
                  refine lv_bipush (v := 100) hx hb d_M_tries_156 (by decide) ?_
                  refine lv_isub hx hb d_M_tries_158 ?_
                  rw [show (nI c9) - 100 = nI (c9 - 100) from pk_sub (a := c9) (b := 100) (by omega)]
                  refine lv_imul hx hb d_M_tries_159 ?_
                  rw [show 8 * (nI (c9 - 100)) = nI (8 * (c9 - 100)) from pk_mul 8 (c9 - 100)]
                  refine lv_iload hx hb d_M_tries_160 (lv_at hl 6 rfl) ?_
                  refine lv_iadd hx hb d_M_tries_162 ?_
                  rw [show (nI (8 * (c9 - 100))) + (nI k) = nI (8 * (c9 - 100) + k) from nI_add (8 * (c9 - 100)) k]
                  refine va_iald hx hb hK hP 2 0 rfl rfl (by first | assumption | exact vp_in_nI (by omega) (by omega)) d_M_tries_163 ?_
                  rw [show (nI (8 * (c9 - 100) + k)).toNatClampNeg = (8 * (c9 - 100) + k) from nI_clamp (by omega)]
                  refine g_callv (va_runV (As := [.int (f4 (8 * (c9 - 100) + k))]) (rest := []) ⟨hx, hb, hml, hown, hw⟩ (k_M_put l D T o a z0 z2 (nI nn) z14 z18 u48 u49 u50 (0 + k) (nI bn) f1 f4 f5 f6 f7 f8 f9 f10 f11 f12 f13 f15 f16 f17 f22 g23 f25 f27 H.size (f4 (8 * (c9 - 100) + k)) (by omega)) (cwV 1 hw (bg_V ml_M_183 wi_M_put wv_M_put wz_M wc_M_put) rfl rfl rfl (by decide +kernel) ⟨Nat.le_of_ble_eq_true rfl, Nat.le_of_ble_eq_true rfl⟩) ⟨qP_b, va_recv hK hP (ci := 6) (q0 := 0) rfl rfl, qP_p hP hK hD⟩ rfl rfl hl.1 rfl (lv_room (Nat.le_of_ble_eq_true rfl)) d_M_tries_164 ⟨Nat.le_of_ble_eq_true rfl, Nat.le_of_ble_eq_true rfl⟩) hD hS hA (fun u9 H locs hr60 hP hD hS => ?_)
                  obtain ⟨u61, u62⟩ := u9
                  dsimp only at hr60 hP hD
                  obtain ⟨q0, q1⟩ := hr60
                  replace q0 := q0.symm; subst q0; replace q1 := q1.symm; subst q1
                  have hP : va_P D gC (mX T o a z0 z2 (nI nn) z14 z18 u48 u49 u50 (nI ((0 + k) + 1)) (nI bn) f1 f4 f5 f6 f7 f8 f9 f10 f11 f12 f13 f15 f16 f17 f22 (upd g23 (0 + k) (f4 (8 * (c9 - 100) + k))) f25 f27) H := hP
                  have hD : va_D A (mX T o a z0 z2 (nI nn) z14 z18 u48 u49 u50 (nI ((0 + k) + 1)) (nI bn) f1 f4 f5 f6 f7 f8 f9 f10 f11 f12 f13 f15 f16 f17 f22 (upd g23 (0 + k) (f4 (8 * (c9 - 100) + k))) f25 f27) := hD
                  refine lv_iinc (v := nI (k + 1)) (lv' := [(6, .int (nI (k + 1))), (5, .int 1), (0, .ref o), (1, .int (nI j)), (2, .int (-1)), (3, .int (-1)), (4, .int (nI c9))]) hx hb d_M_tries_167 hl (k := 6) rfl (nI_add k 1) (by decide) rfl (fun ls hl => ?_)
                  refine lv_goto (tgt := 132) hx hb d_M_tries_170 (by decide) ?_
                  exact ihl (k + 1) (upd g23 (0 + k) (f4 (8 * (c9 - 100) + k))) (by omega) (cpI_s (f1 := fun k => f4 (8 * (c9 - 100) + k)) hC) _ _ hP hD hS ls (lv_sub hl [1, 2, 3, 4, 5, 6, 0] rfl) (by omega)
            exact lopl ((ln (c9 - 100) - 0) + 1) 0 f23 (Nat.zero_le _) cpI_0 _ _ hP hD hS ls (lv_sub hl [1, 2, 3, 4, 5, 6, 0] rfl) (Nat.lt_succ_self _)
          · have c51 := b2i_f c51
            exact W.vret hx hb hr (fun t ht hW => ⟨⟨(u48, u49, u50, f23, z24, f25, nI bn), rfl, ⟨bn, rfl, hy11, by rw [j_try, if_neg (show ¬ j_ss z18 none (j_src z18 none (j_nv f6 f7 f8 f10 f11 f12 f13 ck 0 100000) c9) (f17 j) (f15 j) (f16 j) = true from (by rw [show j_ss z18 none (j_src z18 none (j_nv f6 f7 f8 f10 f11 f12 f13 ck 0 100000) c9) (f17 j) (f15 j) (f16 j) = false from (by rw [hsrc]; exact c51)]; exact Bool.false_ne_true))]; exact hy12⟩, by rw [ht]; exact hP, va_K.moved hW.alike hK, hD⟩, hS.F ht⟩) hS.2.2 d_M_tries_90
        · obtain ⟨hr9, hsrc⟩ := hmk
          subst hr9
          refine lv_istore (lv' := [(5, .int 0), (0, .ref o), (1, .int (nI j)), (2, .int (-1)), (3, .int (-1)), (4, .int (nI c9))]) hx hb d_M_tries_74 hl (by decide) rfl (fun ls hl => ?_)
          refine lv_iload hx hb d_M_tries_76 (lv_at hl 0 rfl) ?_
          refine lv_if_eq (tgt := 90) hx hb d_M_tries_78 (by decide) (fun c63 => ?_) (fun c63 => absurd c63 (by decide))
          exact W.vret hx hb hr (fun t ht hW => ⟨⟨(u43, u44, u45, f23, z24, f25, nI bn), rfl, ⟨bn, rfl, hy11, by rw [j_try, if_neg (show ¬ j_ss z18 none (j_src z18 none (j_nv f6 f7 f8 f10 f11 f12 f13 ck 0 100000) c9) (f17 j) (f15 j) (f16 j) = true from (by rw [show j_ss z18 none (j_src z18 none (j_nv f6 f7 f8 f10 f11 f12 f13 ck 0 100000) c9) (f17 j) (f15 j) (f16 j) = false from (by rw [hsrc]; rfl)]; exact Bool.false_ne_true))]; exact hy12⟩, by rw [ht]; exact hP, va_K.moved hW.alike hK, hD⟩, hS.F ht⟩) hS.2.2 d_M_tries_90
    · have hl : lv_has ls 7 [(0, .ref o), (1, .int (nI j)), (2, .int (-1)), (3, .int (nI tq)), (4, .int (nI c9))] := hl
      obtain ⟨ht6, hc99⟩ := hy2 tq rfl
      have ht7 := jl_le tq
      refine lv_iload hx hb d_M_tries_0 (lv_at hl 4 rfl) ?_
      refine lv_bipush (v := 99) hx hb d_M_tries_2 (by decide) ?_
      refine lv_icmp_le (tgt := 11) hx hb d_M_tries_4 (by decide) (fun c64 => ?_) (fun c64 => absurd (nI_le (a := c9) (b := 99) (by omega) (by decide)) c64)
      refine lv_iconst (v := 0) hx hb d_M_tries_11 (by decide) ?_
      refine lv_istore (lv' := [(5, .int 0), (0, .ref o), (1, .int (nI j)), (2, .int (-1)), (3, .int (nI tq)), (4, .int (nI c9))]) hx hb d_M_tries_12 hl (by decide) rfl (fun ls hl => ?_)
      refine lv_iload hx hb d_M_tries_14 (lv_at hl 5 rfl) ?_
      refine lv_bipush (v := 99) hx hb d_M_tries_16 (by decide) ?_
      refine lv_icmp_gt (tgt := 62) hx hb d_M_tries_18 (by decide) (fun c65 => absurd c65 (nI_nlt (a := 99) (b := c9) (by omega) (by decide))) (fun c65 => ?_)
      have hc9 : c9 ≤ 99 := by omega
      refine lv_aload_n hx hb d_M_tries_21 rfl (lv_at hl 1 rfl) ?_
      refine lv_bipush (v := 100) hx hb d_M_tries_22 (by decide) ?_
      refine lv_iload hx hb d_M_tries_24 (lv_at hl 5 rfl) ?_
      refine lv_iconst (v := 1) hx hb d_M_tries_26 (by decide) ?_
      refine lv_isub hx hb d_M_tries_27 ?_
      refine lv_imul hx hb d_M_tries_28 ?_
      refine lv_iconst (v := 1) hx hb d_M_tries_29 (by decide) ?_
      refine lv_iadd hx hb d_M_tries_30 ?_
      refine lv_bipush (v := 100) hx hb d_M_tries_31 (by decide) ?_
      refine lv_iload hx hb d_M_tries_33 (lv_at hl 5 rfl) ?_
      refine lv_imul hx hb d_M_tries_35 ?_
      refine g_callv (va_runV (As := [.int ((100 * ((nI c9) - 1)) + 1), .int (100 * (nI c9))]) (rest := []) ⟨hx, hb, hml, hown, hw⟩ (k_M_set l D T o a z0 z2 (nI nn) z14 z18 z19 z20 z21 z24 (nI bn) f1 f4 f5 f6 f7 f8 f9 f10 f11 f12 f13 f15 f16 f17 f22 f23 f25 f27 s.heap.size ((100 * ((nI c9) - 1)) + 1) (100 * (nI c9))) (cwV 2 hw (bg_V ml_M_141 wi_M_set wv_M_set wz_M wc_M_set) rfl rfl rfl (by decide +kernel) ⟨Nat.le_of_ble_eq_true rfl, Nat.le_of_ble_eq_true rfl⟩) ⟨qP_b, va_recv hK hP (ci := 6) (q0 := 0) rfl rfl, qP_p hP hK hD⟩ rfl rfl hl.1 rfl (lv_room (Nat.le_of_ble_eq_true rfl)) d_M_tries_36 ⟨Nat.le_of_ble_eq_true rfl, Nat.le_of_ble_eq_true rfl⟩) hD hS hA (fun u9 H locs hr66 hP hD hS => ?_)
      obtain ⟨u67, u68, u69⟩ := u9
      dsimp only at hr66 hP hD
      obtain ⟨q0, q1, q2⟩ := hr66
      replace q0 := q0.symm; subst q0; replace q1 := q1.symm; subst q1; replace q2 := q2.symm; subst q2
      have hP : va_P D gC (mX T o a z0 z2 (nI nn) z14 z18 ((100 * ((nI c9) - 1)) + 1) (100 * (nI c9)) 0 z24 (nI bn) f1 f4 f5 f6 f7 f8 f9 f10 f11 f12 f13 f15 f16 f17 f22 f23 f25 f27) H := hP
      have hD : va_D A (mX T o a z0 z2 (nI nn) z14 z18 ((100 * ((nI c9) - 1)) + 1) (100 * (nI c9)) 0 z24 (nI bn) f1 f4 f5 f6 f7 f8 f9 f10 f11 f12 f13 f15 f16 f17 f22 f23 f25 f27) := hD
      refine lv_iload_n hx hb d_M_tries_39 rfl (lv_at hl 4 rfl) ?_
      refine lv_iconst (v := (-1)) hx hb d_M_tries_40 (by decide) ?_
      refine lv_icmp_eq (tgt := 52) hx hb d_M_tries_41 (by decide) (fun c70 => absurd c70 ((fun e9 : nI tq = -1 => absurd (e9 ▸ nI_pos' (n := tq) (by omega)) (by decide)))) (fun c70 => ?_)
      refine lv_aload_n hx hb d_M_tries_44 rfl (lv_at hl 1 rfl) ?_
      refine lv_iload_n hx hb d_M_tries_45 rfl (lv_at hl 4 rfl) ?_
      refine g_calli (va_runV (As := [.int (nI tq)]) (rest := []) ⟨hx, hb, hml, hown, hw⟩ (k_M_makes l D T o a z0 z2 (nI nn) z14 z18 ((100 * ((nI c9) - 1)) + 1) (100 * (nI c9)) 0 z24 (nI bn) f1 f4 f5 f6 f7 f8 f9 f10 f11 f12 f13 f15 f16 f17 f22 f23 f25 f27 H.size (nI tq)) (cwV 1 hw (bg_V ml_M_154 wi_M_makes wv_M_makes wz_M wc_M_makes) rfl rfl rfl (by decide +kernel) ⟨Nat.le_of_ble_eq_true rfl, Nat.le_of_ble_eq_true rfl⟩) ⟨qP_b, va_recv hK hP (ci := 6) (q0 := 0) rfl rfl, qP_p hP hK hD⟩ rfl rfl hl.1 rfl (lv_room (Nat.le_of_ble_eq_true rfl)) d_M_tries_46 ⟨Nat.le_of_ble_eq_true rfl, Nat.le_of_ble_eq_true rfl⟩) hD hS hA (fun r71 u9 H locs hr71 hP hD hS => ?_)
      obtain ⟨u72, u73, u74⟩ := u9
      dsimp only at hr71 hP hD
      have hP : va_P D gC (mX T o a z0 z2 (nI nn) z14 z18 u72 u73 u74 z24 (nI bn) f1 f4 f5 f6 f7 f8 f9 f10 f11 f12 f13 f15 f16 f17 f22 f23 f25 f27) H := hP
      have hD : va_D A (mX T o a z0 z2 (nI nn) z14 z18 u72 u73 u74 z24 (nI bn) f1 f4 f5 f6 f7 f8 f9 f10 f11 f12 f13 f15 f16 f17 f22 f23 f25 f27) := hD
      have hmk : (r71 = 1 ∧ j_src z18 (some tq) (j_nv f6 f7 f8 f10 f11 f12 f13 ck 0 100000) c9 = some (u72, u73, u74)) ∨ (r71 = 0 ∧ j_src z18 (some tq) (j_nv f6 f7 f8 f10 f11 f12 f13 ck 0 100000) c9 = none) := by
        rw [j_src, if_pos hc9]
        rcases hr71 with ⟨h1, -⟩ | ⟨h1, h2, h3, h4, h5⟩
        · exact absurd rfl h1
        · show (_ ∧ j_ap z18 tq (j_qc c9) = _) ∨ (_ ∧ j_ap z18 tq (j_qc c9) = none)
          rw [j_ap, if_pos (show (j_qc c9).2.2 = 0 from rfl)]
          cases hq : j_mR (nI tq) z18 (100 * (nI c9 - 1) + 1) (100 * nI c9) with
          | true => rw [hq] at h2; exact Or.inl ⟨h2, by rw [if_pos (show j_mR (nI tq) z18 (j_qc c9).1 (j_qc c9).2.1 = true from hq), h3, h4, h5]; rfl⟩
          | false => rw [hq] at h2; exact Or.inr ⟨h2, by rw [if_neg (show ¬ j_mR (nI tq) z18 (j_qc c9).1 (j_qc c9).2.1 = true from (by rw [show j_mR (nI tq) z18 (j_qc c9).1 (j_qc c9).2.1 = false from hq]; exact Bool.false_ne_true))]⟩
      rcases hmk with hmk | hmk
      · obtain ⟨hr9, hsrc⟩ := hmk
        subst hr9
        refine lv_if_eq (tgt := 56) hx hb d_M_tries_49 (by decide) (fun c75 => absurd c75 (by decide)) (fun c75 => ?_)
        refine lv_iconst (v := 1) hx hb d_M_tries_52 (by decide) ?_
        refine lv_goto (tgt := 57) hx hb d_M_tries_53 (by decide) ?_
        refine lv_istore (lv' := [(5, .int 1), (0, .ref o), (1, .int (nI j)), (2, .int (-1)), (3, .int (nI tq)), (4, .int (nI c9))]) hx hb d_M_tries_57 hl (by decide) rfl (fun ls hl => ?_)
        refine lv_goto (tgt := 76) hx hb d_M_tries_59 (by decide) ?_
        refine lv_iload hx hb d_M_tries_76 (lv_at hl 0 rfl) ?_
        refine lv_if_eq (tgt := 90) hx hb d_M_tries_78 (by decide) (fun c76 => absurd c76 (by decide)) (fun c76 => ?_)
        refine lv_aload_n hx hb d_M_tries_81 rfl (lv_at hl 1 rfl) ?_
        refine lv_iload_n hx hb d_M_tries_82 rfl (lv_at hl 2 rfl) ?_
        refine lv_iload_n hx hb d_M_tries_83 rfl (lv_at hl 3 rfl) ?_
        refine g_calli (va_runV (As := [.int (nI j), .int (-1)]) (rest := []) ⟨hx, hb, hml, hown, hw⟩ (k_M_says l D T o a z0 z2 (nI nn) z14 z18 u72 u73 u74 z24 (nI bn) f1 f4 f5 f6 f7 f8 f9 f10 f11 f12 f13 f15 f16 f17 f22 f23 f25 f27 H.size j none hy0 hy1) (cwV 2 hw (bg_V ml_M_190 wi_M_says wv_M_says wz_M wc_M_says) rfl rfl rfl (by decide +kernel) ⟨Nat.le_of_ble_eq_true rfl, Nat.le_of_ble_eq_true rfl⟩) ⟨qP_b, va_recv hK hP (ci := 6) (q0 := 0) rfl rfl, qP_p hP hK hD⟩ rfl rfl hl.1 rfl (lv_room (Nat.le_of_ble_eq_true rfl)) d_M_tries_84 ⟨Nat.le_of_ble_eq_true rfl, Nat.le_of_ble_eq_true rfl⟩) hD hS hA (fun r77 u9 H locs hr77 hP hD hS => ?_)
        obtain ⟨u78, u79, u80⟩ := u9
        dsimp only at hr77 hP hD
        have hP : va_P D gC (mX T o a z0 z2 (nI nn) z14 z18 u78 u79 u80 z24 (nI bn) f1 f4 f5 f6 f7 f8 f9 f10 f11 f12 f13 f15 f16 f17 f22 f23 f25 f27) H := hP
        have hD : va_D A (mX T o a z0 z2 (nI nn) z14 z18 u78 u79 u80 z24 (nI bn) f1 f4 f5 f6 f7 f8 f9 f10 f11 f12 f13 f15 f16 f17 f22 f23 f25 f27) := hD
        replace hr77 := hr77.symm; subst hr77
        refine lv_if_ne (tgt := 91) hx hb d_M_tries_87 (by decide) (fun c81 => ?_) (fun c81 => ?_)
        · have c81 := b2i_t c81
          have hss : j_ss z18 none (j_src z18 (some tq) (j_nv f6 f7 f8 f10 f11 f12 f13 ck 0 100000) c9) (f17 j) (f15 j) (f16 j) = true := by rw [hsrc]; exact c81
          refine lv_aload_n hx hb d_M_tries_91 rfl (lv_at hl 1 rfl) ?_
          refine lv_iconst (v := 0) hx hb d_M_tries_92 (by decide) ?_
          refine va_put (D := D) (ci := 6) (v := .int 0) (ty := .int) (C := "TimeWordsModel") (T := F_M) (N := 28) hx hb hw in_M ty_M ty_M_ok n_M hown hK hP hD hS 0 rfl rfl 24 (by decide) (hw _ fl_M_180) (fun _ h9 => h9) rfl (by decide +kernel) rfl rfl (Nat.le_of_ble_eq_true rfl) d_M_tries_93 (fun H locs hP hD hS => ?_)
          have hP : va_P D gC (mX T o a z0 z2 (nI nn) z14 z18 u78 u79 u80 0 (nI bn) f1 f4 f5 f6 f7 f8 f9 f10 f11 f12 f13 f15 f16 f17 f22 f23 f25 f27) H := hP
          have hD : va_D A (mX T o a z0 z2 (nI nn) z14 z18 u78 u79 u80 0 (nI bn) f1 f4 f5 f6 f7 f8 f9 f10 f11 f12 f13 f15 f16 f17 f22 f23 f25 f27) := hD
          have hM : j_ls f23 0 = [] := rfl
          have hP : va_P D gC (mX T o a z0 z2 (nI nn) z14 z18 u78 u79 u80 (nI 0) (nI bn) f1 f4 f5 f6 f7 f8 f9 f10 f11 f12 f13 f15 f16 f17 f22 f23 f25 f27) H := hP
          have hD : va_D A (mX T o a z0 z2 (nI nn) z14 z18 u78 u79 u80 (nI 0) (nI bn) f1 f4 f5 f6 f7 f8 f9 f10 f11 f12 f13 f15 f16 f17 f22 f23 f25 f27) := hD
          refine lv_iload_n hx hb d_M_tries_96 rfl (lv_at hl 3 rfl) ?_
          refine lv_iconst (v := (-1)) hx hb d_M_tries_97 (by decide) ?_
          refine lv_icmp_eq (tgt := 109) hx hb d_M_tries_98 (by decide) (fun c82 => ?_) (fun c82 => absurd c82 (by decide))
          refine lv_iload_n hx hb d_M_tries_109 rfl (lv_at hl 4 rfl) ?_
          refine lv_iconst (v := (-1)) hx hb d_M_tries_110 (by decide) ?_
          refine lv_icmp_eq (tgt := 122) hx hb d_M_tries_111 (by decide) (fun c83 => absurd c83 ((fun e9 : nI tq = -1 => absurd (e9 ▸ nI_pos' (n := tq) (by omega)) (by decide)))) (fun c83 => ?_)
          refine lv_aload_n hx hb d_M_tries_114 rfl (lv_at hl 1 rfl) ?_
          refine lv_iload_n hx hb d_M_tries_115 rfl (lv_at hl 4 rfl) ?_
          refine vp_callSl (va_Run.run (va_runS (As := [.int (nI tq)]) (rest := [.ref o]) ⟨hx, hb, hml, hown, hw⟩ (k_M_beginning l tq ht6) (va_cwS 1 hw (bg_S ml_M_124 wt_M_beginning wz_M wc_M_beginning) rfl rfl rfl (by decide +kernel) ⟨Nat.le_of_ble_eq_true rfl, Nat.le_of_ble_eq_true rfl⟩) ⟨nP_b, nP_p⟩ rfl rfl hl.1 rfl (lv_room (Nat.le_of_ble_eq_true rfl)) d_M_tries_116 ⟨Nat.le_of_ble_eq_true rfl, Nat.le_of_ble_eq_true rfl⟩)) (fun r84 hr84 => ?_)
          replace hr84 := hr84.symm; subst hr84
          refine g_callv (va_runV (As := [.long (jw tq)]) (rest := []) ⟨hx, hb, hml, hown, hw⟩ (k_M_putWord l D T o a z0 z2 (nI nn) z14 z18 u78 u79 u80 0 (nI bn) f1 f4 f5 f6 f7 f8 f9 f10 f11 f12 f13 f15 f16 f17 f22 f23 f25 f27 H.size tq ht6 (by omega)) (cwV 1 hw (bg_V ml_M_193 wi_M_putWord wv_M_putWord wz_M wc_M_putWord) rfl rfl rfl (by decide +kernel) ⟨Nat.le_of_ble_eq_true rfl, Nat.le_of_ble_eq_true rfl⟩) ⟨qP_b, va_recv hK hP (ci := 6) (q0 := 0) rfl rfl, qP_p hP hK hD⟩ rfl rfl hl.1 rfl (lv_room (Nat.le_of_ble_eq_true rfl)) d_M_tries_119 ⟨Nat.le_of_ble_eq_true rfl, Nat.le_of_ble_eq_true rfl⟩) hD hS hA (fun u9 H locs hr85 hP hD hS => ?_)
          obtain ⟨u86, u87⟩ := u9
          dsimp only at hr85 hP hD
          have hP : va_P D gC (mX T o a z0 z2 (nI nn) z14 z18 u78 u79 u80 u87 (nI bn) f1 f4 f5 f6 f7 f8 f9 f10 f11 f12 f13 f15 f16 f17 f22 u86 f25 f27) H := hP
          have hD : va_D A (mX T o a z0 z2 (nI nn) z14 z18 u78 u79 u80 u87 (nI bn) f1 f4 f5 f6 f7 f8 f9 f10 f11 f12 f13 f15 f16 f17 f22 u86 f25 f27) := hD
          obtain ⟨hw24, hC9⟩ := hr85
          subst hw24
          have hM : j_ls u86 (0 + jl tq) = [] ++ jcs tq := by rw [ls_cp hC9, hM, jcs_ls tq (by omega)]
          refine lv_iload hx hb d_M_tries_122 (lv_at hl 5 rfl) ?_
          refine lv_bipush (v := 99) hx hb d_M_tries_124 (by decide) ?_
          refine lv_icmp_le (tgt := 176) hx hb d_M_tries_126 (by decide) (fun c88 => ?_) (fun c88 => absurd (nI_le (a := c9) (b := 99) (by omega) (by decide)) c88)
          refine lv_iload hx hb d_M_tries_176 (lv_at hl 5 rfl) ?_
          refine lv_bipush (v := 9) hx hb d_M_tries_178 (by decide) ?_
          refine lv_icmp_le (tgt := 195) hx hb d_M_tries_180 (by decide) (fun c89 => ?_) (fun c89 => ?_)
          · have c89 := nc_le (a := c9) (b := 9) c89 (by omega) (by omega)
            refine lv_aload_n hx hb d_M_tries_195 rfl (lv_at hl 1 rfl) ?_
            refine lv_bipush (v := 48) hx hb d_M_tries_196 (by decide) ?_
            refine lv_iload hx hb d_M_tries_198 (lv_at hl 5 rfl) ?_
            refine lv_bipush (v := 10) hx hb d_M_tries_200 (by decide) ?_
            refine lv_irem hx hb d_M_tries_202 (by decide) ?_
            rw [show nI c9 - nI c9 / 10 * 10 = nI (c9 % 10) from pk_rem (d := 10) (by omega) (by decide) (by decide)]
            refine lv_iadd hx hb d_M_tries_203 ?_
            rw [show 48 + (nI (c9 % 10)) = nI (48 + (c9 % 10)) from nI_add 48 (c9 % 10)]
            refine g_callv (va_runV (As := [.int (nI (48 + (c9 % 10)))]) (rest := []) ⟨hx, hb, hml, hown, hw⟩ (k_M_put l D T o a z0 z2 (nI nn) z14 z18 u78 u79 u80 (0 + jl tq) (nI bn) f1 f4 f5 f6 f7 f8 f9 f10 f11 f12 f13 f15 f16 f17 f22 u86 f25 f27 H.size (nI (48 + (c9 % 10))) (by omega)) (cwV 1 hw (bg_V ml_M_183 wi_M_put wv_M_put wz_M wc_M_put) rfl rfl rfl (by decide +kernel) ⟨Nat.le_of_ble_eq_true rfl, Nat.le_of_ble_eq_true rfl⟩) ⟨qP_b, va_recv hK hP (ci := 6) (q0 := 0) rfl rfl, qP_p hP hK hD⟩ rfl rfl hl.1 rfl (lv_room (Nat.le_of_ble_eq_true rfl)) d_M_tries_204 ⟨Nat.le_of_ble_eq_true rfl, Nat.le_of_ble_eq_true rfl⟩) hD hS hA (fun u9 H locs hr90 hP hD hS => ?_)
            obtain ⟨u91, u92⟩ := u9
            dsimp only at hr90 hP hD
            obtain ⟨q0, q1⟩ := hr90
            replace q0 := q0.symm; subst q0; replace q1 := q1.symm; subst q1
            have hP : va_P D gC (mX T o a z0 z2 (nI nn) z14 z18 u78 u79 u80 (nI ((0 + jl tq) + 1)) (nI bn) f1 f4 f5 f6 f7 f8 f9 f10 f11 f12 f13 f15 f16 f17 f22 (upd u86 (0 + jl tq) (nI (48 + (c9 % 10)))) f25 f27) H := hP
            have hD : va_D A (mX T o a z0 z2 (nI nn) z14 z18 u78 u79 u80 (nI ((0 + jl tq) + 1)) (nI bn) f1 f4 f5 f6 f7 f8 f9 f10 f11 f12 f13 f15 f16 f17 f22 (upd u86 (0 + jl tq) (nI (48 + (c9 % 10)))) f25 f27) := hD
            have hM : j_ls (upd u86 (0 + jl tq) (nI (48 + (c9 % 10)))) (0 + jl tq + 1) = [] ++ jcs tq ++ [nI (48 + (c9 % 10))] := by rw [ls_put, hM]
            refine lv_aload_n hx hb d_M_tries_207 rfl (lv_at hl 1 rfl) ?_
            refine lv_bipush (v := 99) hx hb d_M_tries_208 (by decide) ?_
            refine g_callv (va_runV (As := [.int 99]) (rest := []) ⟨hx, hb, hml, hown, hw⟩ (k_M_put l D T o a z0 z2 (nI nn) z14 z18 u78 u79 u80 ((0 + jl tq) + 1) (nI bn) f1 f4 f5 f6 f7 f8 f9 f10 f11 f12 f13 f15 f16 f17 f22 (upd u86 (0 + jl tq) (nI (48 + (c9 % 10)))) f25 f27 H.size 99 (by omega)) (cwV 1 hw (bg_V ml_M_183 wi_M_put wv_M_put wz_M wc_M_put) rfl rfl rfl (by decide +kernel) ⟨Nat.le_of_ble_eq_true rfl, Nat.le_of_ble_eq_true rfl⟩) ⟨qP_b, va_recv hK hP (ci := 6) (q0 := 0) rfl rfl, qP_p hP hK hD⟩ rfl rfl hl.1 rfl (lv_room (Nat.le_of_ble_eq_true rfl)) d_M_tries_210 ⟨Nat.le_of_ble_eq_true rfl, Nat.le_of_ble_eq_true rfl⟩) hD hS hA (fun u9 H locs hr93 hP hD hS => ?_)
            obtain ⟨u94, u95⟩ := u9
            dsimp only at hr93 hP hD
            obtain ⟨q0, q1⟩ := hr93
            replace q0 := q0.symm; subst q0; replace q1 := q1.symm; subst q1
            have hP : va_P D gC (mX T o a z0 z2 (nI nn) z14 z18 u78 u79 u80 (nI (((0 + jl tq) + 1) + 1)) (nI bn) f1 f4 f5 f6 f7 f8 f9 f10 f11 f12 f13 f15 f16 f17 f22 (upd (upd u86 (0 + jl tq) (nI (48 + (c9 % 10)))) ((0 + jl tq) + 1) 99) f25 f27) H := hP
            have hD : va_D A (mX T o a z0 z2 (nI nn) z14 z18 u78 u79 u80 (nI (((0 + jl tq) + 1) + 1)) (nI bn) f1 f4 f5 f6 f7 f8 f9 f10 f11 f12 f13 f15 f16 f17 f22 (upd (upd u86 (0 + jl tq) (nI (48 + (c9 % 10)))) ((0 + jl tq) + 1) 99) f25 f27) := hD
            have hM : j_ls (upd (upd u86 (0 + jl tq) (nI (48 + (c9 % 10)))) ((0 + jl tq) + 1) 99) (0 + jl tq + 1 + 1) = [] ++ jcs tq ++ [nI (48 + (c9 % 10))] ++ [99] := by rw [ls_put, hM]
            have hT : j_tx none (some tq) f4 ln c9 = [] ++ jcs tq ++ [nI (48 + (c9 % 10))] ++ [99] := by simp only [j_tx, j_ot, if_pos hc9, j_ct]; rw [if_neg (by omega)]; simp
            rw [← hT] at hM
            refine lv_aload_n hx hb d_M_tries_213 rfl (lv_at hl 1 rfl) ?_
            refine vp_callSi (va_Run.run (va_runV (As := []) (rest := []) ⟨hx, hb, hml, hown, hw⟩ (k_M_isBetter l D T o a z0 z2 (nI nn) z14 z18 u78 u79 u80 (((0 + jl tq) + 1) + 1) bn f1 f4 f5 f6 f7 f8 f9 f10 f11 f12 f13 f15 f16 f17 f22 (upd (upd u86 (0 + jl tq) (nI (48 + (c9 % 10)))) ((0 + jl tq) + 1) 99) f25 f27 (by omega) (by omega) (by omega)) (cwV 0 hw (bg_V ml_M_197 wi_M_isBetter wv_M_isBetter wz_M wc_M_isBetter) rfl rfl rfl (by decide +kernel) ⟨Nat.le_of_ble_eq_true rfl, Nat.le_of_ble_eq_true rfl⟩) ⟨sP_b, va_recv hK hP (ci := 6) (q0 := 0) rfl rfl, sP_p hP hK⟩ rfl rfl hl.1 rfl (lv_room (Nat.le_of_ble_eq_true rfl)) d_M_tries_214 ⟨Nat.le_of_ble_eq_true rfl, Nat.le_of_ble_eq_true rfl⟩)) (fun r96 hr96 => ?_)
            rcases hr96 with hbb | hbb
            · obtain ⟨hr9, hbet⟩ := hbb
              subst hr9
              refine lv_if_eq (tgt := 260) hx hb d_M_tries_217 (by decide) (fun c97 => absurd c97 (by decide)) (fun c97 => ?_)
              refine lv_aload_n hx hb d_M_tries_220 rfl (lv_at hl 1 rfl) ?_
              refine lv_aload_n hx hb d_M_tries_221 rfl (lv_at hl 1 rfl) ?_
              refine va_get (D := D) (ci := 6) (v := .int (nI (((0 + jl tq) + 1) + 1))) (C := "TimeWordsModel") (T := F_M) (N := 28) hx hb hw in_M hown hK hP 0 rfl rfl 24 (by decide) (hw _ fl_M_180) (fun _ h9 => h9) rfl d_M_tries_222 ?_
              refine va_put (D := D) (ci := 6) (v := .int (nI (((0 + jl tq) + 1) + 1))) (ty := .int) (C := "TimeWordsModel") (T := F_M) (N := 28) hx hb hw in_M ty_M ty_M_ok n_M hown hK hP hD hS 0 rfl rfl 26 (by decide) (hw _ fl_M_187) (fun _ h9 => h9) rfl (by decide +kernel) rfl rfl (Nat.le_of_ble_eq_true rfl) d_M_tries_225 (fun H locs hP hD hS => ?_)
              have hP : va_P D gC (mX T o a z0 z2 (nI nn) z14 z18 u78 u79 u80 (nI (((0 + jl tq) + 1) + 1)) (nI (((0 + jl tq) + 1) + 1)) f1 f4 f5 f6 f7 f8 f9 f10 f11 f12 f13 f15 f16 f17 f22 (upd (upd u86 (0 + jl tq) (nI (48 + (c9 % 10)))) ((0 + jl tq) + 1) 99) f25 f27) H := hP
              have hD : va_D A (mX T o a z0 z2 (nI nn) z14 z18 u78 u79 u80 (nI (((0 + jl tq) + 1) + 1)) (nI (((0 + jl tq) + 1) + 1)) f1 f4 f5 f6 f7 f8 f9 f10 f11 f12 f13 f15 f16 f17 f22 (upd (upd u86 (0 + jl tq) (nI (48 + (c9 % 10)))) ((0 + jl tq) + 1) 99) f25 f27) := hD
              refine lv_iconst (v := 0) hx hb d_M_tries_228 (by decide) ?_
              refine lv_istore (lv' := [(6, .int 0), (5, .int 1), (0, .ref o), (1, .int (nI j)), (2, .int (-1)), (3, .int (nI tq)), (4, .int (nI c9))]) hx hb d_M_tries_229 hl (by decide) rfl (fun ls hl => ?_)
              have lopb : ∀ (nb : Nat) (kb : Nat) (g25 : Nat → Int32), (kb ≤ ((0 + jl tq) + 1) + 1) → (cpI f25 (upd (upd u86 (0 + jl tq) (nI (48 + (c9 % 10)))) ((0 + jl tq) + 1) 99) g25 0 kb) → ∀ (H : Heap) (locs : List Loc), va_P D gC (mX T o a z0 z2 (nI nn) z14 z18 u78 u79 u80 (nI (((0 + jl tq) + 1) + 1)) (nI (((0 + jl tq) + 1) + 1)) f1 f4 f5 f6 f7 f8 f9 f10 f11 f12 f13 f15 f16 f17 f22 (upd (upd u86 (0 + jl tq) (nI (48 + (c9 % 10)))) ((0 + jl tq) + 1) 99) g25 f27) H → va_D A (mX T o a z0 z2 (nI nn) z14 z18 u78 u79 u80 (nI (((0 + jl tq) + 1) + 1)) (nI (((0 + jl tq) + 1) + 1)) f1 f4 f5 f6 f7 f8 f9 f10 f11 f12 f13 f15 f16 f17 f22 (upd (upd u86 (0 + jl tq) (nI (48 + (c9 % 10)))) ((0 + jl tq) + 1) 99) g25 f27) → va_S A s.heap H locs → ∀ (ls : Array Slot), lv_has ls 7 [(0, .ref o), (6, .int (nI kb))] → ((0 + jl tq) + 1) + 1 - kb < nb → W p l e (headSpec (Cond.code y_M_tries b_M_tries 7 none :: bg_W) ({ frames := 3, cells := 0, slots := 0, locals := 67 })).room s m ([.ref o, .int (nI j), .int (j_oi none), .int (j_oi (some tq)), .int (nI c9)] : List Value).toArray below meth c H locs 0 0 (MQ below (va_Qv (fun u : Int32 × Int32 × Int32 × (Nat → Int32) × Int32 × (Nat → Int32) × Int32 => match u with | (w19, w20, w21, g23, w24, g25, w26) => ∃ m9, w26 = nI m9 ∧ m9 ≤ 24 ∧ j_ls g25 m9 = j_try (j_ss z18 none (j_src z18 (some tq) (j_nv f6 f7 f8 f10 f11 f12 f13 ck 0 100000) c9) (f17 j) (f15 j) (f16 j)) (j_tx none (some tq) f4 ln c9) bl) (qB D T A (fun u : Int32 × Int32 × Int32 × (Nat → Int32) × Int32 × (Nat → Int32) × Int32 => match u with | (w19, w20, w21, g23, w24, g25, w26) => mX T o a z0 z2 (nI nn) z14 z18 w19 w20 w21 w24 w26 f1 f4 f5 f6 f7 f8 f9 f10 f11 f12 f13 f15 f16 f17 f22 g23 g25 f27)) A) ([.ref o, .int (nI j), .int (j_oi none), .int (j_oi (some tq)), .int (nI c9)] : List Value).toArray s 0 0 A) (F0 m 231 ls []) := by
                intro nb
                induction nb with
                | zero => intro kb g25 hkb hC2 H locs hP hD hS ls hl hm; exact absurd hm (Nat.not_lt_zero _)
                | succ nb ihb =>
                  intro kb g25 hkb hC2 H locs hP hD hS ls hl hm
                  refine lv_iload hx hb d_M_tries_231 (lv_at hl 1 rfl) ?_
                  refine lv_aload_n hx hb d_M_tries_233 rfl (lv_at hl 0 rfl) ?_
                  refine va_get (D := D) (ci := 6) (v := .int (nI (((0 + jl tq) + 1) + 1))) (C := "TimeWordsModel") (T := F_M) (N := 28) hx hb hw in_M hown hK hP 0 rfl rfl 24 (by decide) (hw _ fl_M_180) (fun _ h9 => h9) rfl d_M_tries_234 ?_
                  refine lv_icmp_ge (tgt := 260) hx hb d_M_tries_237 (by decide) (fun c98 => ?_) (fun c98 => ?_)
                  · have c98 := nc_le (a := ((0 + jl tq) + 1) + 1) (b := kb) c98 (by omega) (by omega)
                    exact W.vret hx hb hr (fun t ht hW => ⟨⟨(u78, u79, u80, upd (upd u86 (0 + jl tq) (nI (48 + (c9 % 10)))) ((0 + jl tq) + 1) 99, nI (((0 + jl tq) + 1) + 1), g25, nI (((0 + jl tq) + 1) + 1)), rfl, ⟨_, rfl, by omega, by rw [j_try, if_pos hss, up_yes hy12 hM hbet, ← hM]; have ekb : kb = ((0 + jl tq) + 1) + 1 := (by omega); rw [← ekb]; exact ls_cp0 hC2⟩, by rw [ht]; exact hP, va_K.moved hW.alike hK, hD⟩, hS.F ht⟩) hS.2.2 d_M_tries_260
                  · have c98 := nc_nle (a := ((0 + jl tq) + 1) + 1) (b := kb) c98 (by omega) (by omega)
                    refine lv_aload_n hx hb d_M_tries_240 rfl (lv_at hl 0 rfl) ?_
                    refine va_get (D := D) (ci := 6) (v := .ref (a 25)) (C := "TimeWordsModel") (T := F_M) (N := 28) hx hb hw in_M hown hK hP 0 rfl rfl 25 (by decide) (hw _ fl_M_63) (fun _ h9 => h9) rfl d_M_tries_241 ?_
                    refine lv_iload hx hb d_M_tries_244 (lv_at hl 1 rfl) ?_
                    refine lv_aload_n hx hb d_M_tries_246 rfl (lv_at hl 0 rfl) ?_
                    refine va_get (D := D) (ci := 6) (v := .ref (a 23)) (C := "TimeWordsModel") (T := F_M) (N := 28) hx hb hw in_M hown hK hP 0 rfl rfl 23 (by decide) (hw _ fl_M_60) (fun _ h9 => h9) rfl d_M_tries_247 ?_
                    refine lv_iload hx hb d_M_tries_250 (lv_at hl 1 rfl) ?_
                    refine va_iald hx hb hK hP 16 0 rfl rfl (by first | assumption | exact vp_in_nI (by omega) (by omega)) d_M_tries_252 ?_
                    rw [show (nI kb).toNatClampNeg = kb from nI_clamp (by omega)]
                    refine va_iast hx hb hK hP hD hS 17 0 rfl rfl (by first | assumption | exact vp_in_nI (by omega) (by omega)) d_M_tries_253 (fun H locs hP hD hS => ?_)
                    rw [show (nI kb).toNatClampNeg = kb from nI_clamp (by omega)] at hP hD
                    have hP : va_P D gC (mX T o a z0 z2 (nI nn) z14 z18 u78 u79 u80 (nI (((0 + jl tq) + 1) + 1)) (nI (((0 + jl tq) + 1) + 1)) f1 f4 f5 f6 f7 f8 f9 f10 f11 f12 f13 f15 f16 f17 f22 (upd (upd u86 (0 + jl tq) (nI (48 + (c9 % 10)))) ((0 + jl tq) + 1) 99) (upd g25 kb ((upd (upd u86 (0 + jl tq) (nI (48 + (c9 % 10)))) ((0 + jl tq) + 1) 99) kb)) f27) H := hP
                    have hD : va_D A (mX T o a z0 z2 (nI nn) z14 z18 u78 u79 u80 (nI (((0 + jl tq) + 1) + 1)) (nI (((0 + jl tq) + 1) + 1)) f1 f4 f5 f6 f7 f8 f9 f10 f11 f12 f13 f15 f16 f17 f22 (upd (upd u86 (0 + jl tq) (nI (48 + (c9 % 10)))) ((0 + jl tq) + 1) 99) (upd g25 kb ((upd (upd u86 (0 + jl tq) (nI (48 + (c9 % 10)))) ((0 + jl tq) + 1) 99) kb)) f27) := hD
                    refine lv_iinc (v := nI (kb + 1)) (lv' := [(6, .int (nI (kb + 1))), (0, .ref o)]) hx hb d_M_tries_254 hl (k := 1) rfl (nI_add kb 1) (by decide) rfl (fun ls hl => ?_)
                    refine lv_goto (tgt := 231) hx hb d_M_tries_257 (by decide) ?_
                    exact ihb (kb + 1) (upd g25 kb ((upd (upd u86 (0 + jl tq) (nI (48 + (c9 % 10)))) ((0 + jl tq) + 1) 99) kb)) (by omega) (cpI_s0 hC2) _ _ hP hD hS ls (lv_sub hl [1, 0] rfl) (by omega)
              exact lopb ((((0 + jl tq) + 1) + 1 - 0) + 1) 0 f25 (Nat.zero_le _) cpI_0 _ _ hP hD hS ls (lv_sub hl [2, 0] rfl) (Nat.lt_succ_self _)
            · obtain ⟨hr9, hbet⟩ := hbb
              subst hr9
              refine lv_if_eq (tgt := 260) hx hb d_M_tries_217 (by decide) (fun c99 => ?_) (fun c99 => absurd c99 (by decide))
              exact W.vret hx hb hr (fun t ht hW => ⟨⟨(u78, u79, u80, upd (upd u86 (0 + jl tq) (nI (48 + (c9 % 10)))) ((0 + jl tq) + 1) 99, nI (((0 + jl tq) + 1) + 1), f25, nI bn), rfl, ⟨bn, rfl, hy11, by rw [j_try, if_pos hss, up_no hy12 hM hbet]; exact hy12⟩, by rw [ht]; exact hP, va_K.moved hW.alike hK, hD⟩, hS.F ht⟩) hS.2.2 d_M_tries_260
          · have c89 := nc_nle (a := c9) (b := 9) c89 (by omega) (by omega)
            refine lv_aload_n hx hb d_M_tries_183 rfl (lv_at hl 1 rfl) ?_
            refine lv_bipush (v := 48) hx hb d_M_tries_184 (by decide) ?_
            refine lv_iload hx hb d_M_tries_186 (lv_at hl 5 rfl) ?_
            refine lv_bipush (v := 10) hx hb d_M_tries_188 (by decide) ?_
            refine lv_idiv hx hb d_M_tries_190 (by decide) ?_
            rw [show nI c9 / 10 = nI (c9 / 10) from pk_div (d := 10) (by omega) (by decide) (by decide)]
            refine lv_iadd hx hb d_M_tries_191 ?_
            rw [show 48 + (nI (c9 / 10)) = nI (48 + (c9 / 10)) from nI_add 48 (c9 / 10)]
            refine g_callv (va_runV (As := [.int (nI (48 + (c9 / 10)))]) (rest := []) ⟨hx, hb, hml, hown, hw⟩ (k_M_put l D T o a z0 z2 (nI nn) z14 z18 u78 u79 u80 (0 + jl tq) (nI bn) f1 f4 f5 f6 f7 f8 f9 f10 f11 f12 f13 f15 f16 f17 f22 u86 f25 f27 H.size (nI (48 + (c9 / 10))) (by omega)) (cwV 1 hw (bg_V ml_M_183 wi_M_put wv_M_put wz_M wc_M_put) rfl rfl rfl (by decide +kernel) ⟨Nat.le_of_ble_eq_true rfl, Nat.le_of_ble_eq_true rfl⟩) ⟨qP_b, va_recv hK hP (ci := 6) (q0 := 0) rfl rfl, qP_p hP hK hD⟩ rfl rfl hl.1 rfl (lv_room (Nat.le_of_ble_eq_true rfl)) d_M_tries_192 ⟨Nat.le_of_ble_eq_true rfl, Nat.le_of_ble_eq_true rfl⟩) hD hS hA (fun u9 H locs hr100 hP hD hS => ?_)
            obtain ⟨u101, u102⟩ := u9
            dsimp only at hr100 hP hD
            obtain ⟨q0, q1⟩ := hr100
            replace q0 := q0.symm; subst q0; replace q1 := q1.symm; subst q1
            have hP : va_P D gC (mX T o a z0 z2 (nI nn) z14 z18 u78 u79 u80 (nI ((0 + jl tq) + 1)) (nI bn) f1 f4 f5 f6 f7 f8 f9 f10 f11 f12 f13 f15 f16 f17 f22 (upd u86 (0 + jl tq) (nI (48 + (c9 / 10)))) f25 f27) H := hP
            have hD : va_D A (mX T o a z0 z2 (nI nn) z14 z18 u78 u79 u80 (nI ((0 + jl tq) + 1)) (nI bn) f1 f4 f5 f6 f7 f8 f9 f10 f11 f12 f13 f15 f16 f17 f22 (upd u86 (0 + jl tq) (nI (48 + (c9 / 10)))) f25 f27) := hD
            have hM : j_ls (upd u86 (0 + jl tq) (nI (48 + (c9 / 10)))) (0 + jl tq + 1) = [] ++ jcs tq ++ [nI (48 + (c9 / 10))] := by rw [ls_put, hM]
            refine lv_aload_n hx hb d_M_tries_195 rfl (lv_at hl 1 rfl) ?_
            refine lv_bipush (v := 48) hx hb d_M_tries_196 (by decide) ?_
            refine lv_iload hx hb d_M_tries_198 (lv_at hl 5 rfl) ?_
            refine lv_bipush (v := 10) hx hb d_M_tries_200 (by decide) ?_
            refine lv_irem hx hb d_M_tries_202 (by decide) ?_
            rw [show nI c9 - nI c9 / 10 * 10 = nI (c9 % 10) from pk_rem (d := 10) (by omega) (by decide) (by decide)]
            refine lv_iadd hx hb d_M_tries_203 ?_
            rw [show 48 + (nI (c9 % 10)) = nI (48 + (c9 % 10)) from nI_add 48 (c9 % 10)]
            refine g_callv (va_runV (As := [.int (nI (48 + (c9 % 10)))]) (rest := []) ⟨hx, hb, hml, hown, hw⟩ (k_M_put l D T o a z0 z2 (nI nn) z14 z18 u78 u79 u80 ((0 + jl tq) + 1) (nI bn) f1 f4 f5 f6 f7 f8 f9 f10 f11 f12 f13 f15 f16 f17 f22 (upd u86 (0 + jl tq) (nI (48 + (c9 / 10)))) f25 f27 H.size (nI (48 + (c9 % 10))) (by omega)) (cwV 1 hw (bg_V ml_M_183 wi_M_put wv_M_put wz_M wc_M_put) rfl rfl rfl (by decide +kernel) ⟨Nat.le_of_ble_eq_true rfl, Nat.le_of_ble_eq_true rfl⟩) ⟨qP_b, va_recv hK hP (ci := 6) (q0 := 0) rfl rfl, qP_p hP hK hD⟩ rfl rfl hl.1 rfl (lv_room (Nat.le_of_ble_eq_true rfl)) d_M_tries_204 ⟨Nat.le_of_ble_eq_true rfl, Nat.le_of_ble_eq_true rfl⟩) hD hS hA (fun u9 H locs hr103 hP hD hS => ?_)
            obtain ⟨u104, u105⟩ := u9
            dsimp only at hr103 hP hD
            obtain ⟨q0, q1⟩ := hr103
            replace q0 := q0.symm; subst q0; replace q1 := q1.symm; subst q1
            have hP : va_P D gC (mX T o a z0 z2 (nI nn) z14 z18 u78 u79 u80 (nI (((0 + jl tq) + 1) + 1)) (nI bn) f1 f4 f5 f6 f7 f8 f9 f10 f11 f12 f13 f15 f16 f17 f22 (upd (upd u86 (0 + jl tq) (nI (48 + (c9 / 10)))) ((0 + jl tq) + 1) (nI (48 + (c9 % 10)))) f25 f27) H := hP
            have hD : va_D A (mX T o a z0 z2 (nI nn) z14 z18 u78 u79 u80 (nI (((0 + jl tq) + 1) + 1)) (nI bn) f1 f4 f5 f6 f7 f8 f9 f10 f11 f12 f13 f15 f16 f17 f22 (upd (upd u86 (0 + jl tq) (nI (48 + (c9 / 10)))) ((0 + jl tq) + 1) (nI (48 + (c9 % 10)))) f25 f27) := hD
            have hM : j_ls (upd (upd u86 (0 + jl tq) (nI (48 + (c9 / 10)))) ((0 + jl tq) + 1) (nI (48 + (c9 % 10)))) (0 + jl tq + 1 + 1) = [] ++ jcs tq ++ [nI (48 + (c9 / 10))] ++ [nI (48 + (c9 % 10))] := by rw [ls_put, hM]
            refine lv_aload_n hx hb d_M_tries_207 rfl (lv_at hl 1 rfl) ?_
            refine lv_bipush (v := 99) hx hb d_M_tries_208 (by decide) ?_
            refine g_callv (va_runV (As := [.int 99]) (rest := []) ⟨hx, hb, hml, hown, hw⟩ (k_M_put l D T o a z0 z2 (nI nn) z14 z18 u78 u79 u80 (((0 + jl tq) + 1) + 1) (nI bn) f1 f4 f5 f6 f7 f8 f9 f10 f11 f12 f13 f15 f16 f17 f22 (upd (upd u86 (0 + jl tq) (nI (48 + (c9 / 10)))) ((0 + jl tq) + 1) (nI (48 + (c9 % 10)))) f25 f27 H.size 99 (by omega)) (cwV 1 hw (bg_V ml_M_183 wi_M_put wv_M_put wz_M wc_M_put) rfl rfl rfl (by decide +kernel) ⟨Nat.le_of_ble_eq_true rfl, Nat.le_of_ble_eq_true rfl⟩) ⟨qP_b, va_recv hK hP (ci := 6) (q0 := 0) rfl rfl, qP_p hP hK hD⟩ rfl rfl hl.1 rfl (lv_room (Nat.le_of_ble_eq_true rfl)) d_M_tries_210 ⟨Nat.le_of_ble_eq_true rfl, Nat.le_of_ble_eq_true rfl⟩) hD hS hA (fun u9 H locs hr106 hP hD hS => ?_)
            obtain ⟨u107, u108⟩ := u9
            dsimp only at hr106 hP hD
            obtain ⟨q0, q1⟩ := hr106
            replace q0 := q0.symm; subst q0; replace q1 := q1.symm; subst q1
            have hP : va_P D gC (mX T o a z0 z2 (nI nn) z14 z18 u78 u79 u80 (nI ((((0 + jl tq) + 1) + 1) + 1)) (nI bn) f1 f4 f5 f6 f7 f8 f9 f10 f11 f12 f13 f15 f16 f17 f22 (upd (upd (upd u86 (0 + jl tq) (nI (48 + (c9 / 10)))) ((0 + jl tq) + 1) (nI (48 + (c9 % 10)))) (((0 + jl tq) + 1) + 1) 99) f25 f27) H := hP
            have hD : va_D A (mX T o a z0 z2 (nI nn) z14 z18 u78 u79 u80 (nI ((((0 + jl tq) + 1) + 1) + 1)) (nI bn) f1 f4 f5 f6 f7 f8 f9 f10 f11 f12 f13 f15 f16 f17 f22 (upd (upd (upd u86 (0 + jl tq) (nI (48 + (c9 / 10)))) ((0 + jl tq) + 1) (nI (48 + (c9 % 10)))) (((0 + jl tq) + 1) + 1) 99) f25 f27) := hD
            have hM : j_ls (upd (upd (upd u86 (0 + jl tq) (nI (48 + (c9 / 10)))) ((0 + jl tq) + 1) (nI (48 + (c9 % 10)))) (((0 + jl tq) + 1) + 1) 99) (0 + jl tq + 1 + 1 + 1) = [] ++ jcs tq ++ [nI (48 + (c9 / 10))] ++ [nI (48 + (c9 % 10))] ++ [99] := by rw [ls_put, hM]
            have hT : j_tx none (some tq) f4 ln c9 = [] ++ jcs tq ++ [nI (48 + (c9 / 10))] ++ [nI (48 + (c9 % 10))] ++ [99] := by simp only [j_tx, j_ot, if_pos hc9, j_ct]; rw [if_pos (by omega)]; simp
            rw [← hT] at hM
            refine lv_aload_n hx hb d_M_tries_213 rfl (lv_at hl 1 rfl) ?_
            refine vp_callSi (va_Run.run (va_runV (As := []) (rest := []) ⟨hx, hb, hml, hown, hw⟩ (k_M_isBetter l D T o a z0 z2 (nI nn) z14 z18 u78 u79 u80 ((((0 + jl tq) + 1) + 1) + 1) bn f1 f4 f5 f6 f7 f8 f9 f10 f11 f12 f13 f15 f16 f17 f22 (upd (upd (upd u86 (0 + jl tq) (nI (48 + (c9 / 10)))) ((0 + jl tq) + 1) (nI (48 + (c9 % 10)))) (((0 + jl tq) + 1) + 1) 99) f25 f27 (by omega) (by omega) (by omega)) (cwV 0 hw (bg_V ml_M_197 wi_M_isBetter wv_M_isBetter wz_M wc_M_isBetter) rfl rfl rfl (by decide +kernel) ⟨Nat.le_of_ble_eq_true rfl, Nat.le_of_ble_eq_true rfl⟩) ⟨sP_b, va_recv hK hP (ci := 6) (q0 := 0) rfl rfl, sP_p hP hK⟩ rfl rfl hl.1 rfl (lv_room (Nat.le_of_ble_eq_true rfl)) d_M_tries_214 ⟨Nat.le_of_ble_eq_true rfl, Nat.le_of_ble_eq_true rfl⟩)) (fun r109 hr109 => ?_)
            rcases hr109 with hbb | hbb
            · obtain ⟨hr9, hbet⟩ := hbb
              subst hr9
              refine lv_if_eq (tgt := 260) hx hb d_M_tries_217 (by decide) (fun c110 => absurd c110 (by decide)) (fun c110 => ?_)
              refine lv_aload_n hx hb d_M_tries_220 rfl (lv_at hl 1 rfl) ?_
              refine lv_aload_n hx hb d_M_tries_221 rfl (lv_at hl 1 rfl) ?_
              refine va_get (D := D) (ci := 6) (v := .int (nI ((((0 + jl tq) + 1) + 1) + 1))) (C := "TimeWordsModel") (T := F_M) (N := 28) hx hb hw in_M hown hK hP 0 rfl rfl 24 (by decide) (hw _ fl_M_180) (fun _ h9 => h9) rfl d_M_tries_222 ?_
              refine va_put (D := D) (ci := 6) (v := .int (nI ((((0 + jl tq) + 1) + 1) + 1))) (ty := .int) (C := "TimeWordsModel") (T := F_M) (N := 28) hx hb hw in_M ty_M ty_M_ok n_M hown hK hP hD hS 0 rfl rfl 26 (by decide) (hw _ fl_M_187) (fun _ h9 => h9) rfl (by decide +kernel) rfl rfl (Nat.le_of_ble_eq_true rfl) d_M_tries_225 (fun H locs hP hD hS => ?_)
              have hP : va_P D gC (mX T o a z0 z2 (nI nn) z14 z18 u78 u79 u80 (nI ((((0 + jl tq) + 1) + 1) + 1)) (nI ((((0 + jl tq) + 1) + 1) + 1)) f1 f4 f5 f6 f7 f8 f9 f10 f11 f12 f13 f15 f16 f17 f22 (upd (upd (upd u86 (0 + jl tq) (nI (48 + (c9 / 10)))) ((0 + jl tq) + 1) (nI (48 + (c9 % 10)))) (((0 + jl tq) + 1) + 1) 99) f25 f27) H := hP
              have hD : va_D A (mX T o a z0 z2 (nI nn) z14 z18 u78 u79 u80 (nI ((((0 + jl tq) + 1) + 1) + 1)) (nI ((((0 + jl tq) + 1) + 1) + 1)) f1 f4 f5 f6 f7 f8 f9 f10 f11 f12 f13 f15 f16 f17 f22 (upd (upd (upd u86 (0 + jl tq) (nI (48 + (c9 / 10)))) ((0 + jl tq) + 1) (nI (48 + (c9 % 10)))) (((0 + jl tq) + 1) + 1) 99) f25 f27) := hD
              refine lv_iconst (v := 0) hx hb d_M_tries_228 (by decide) ?_
              refine lv_istore (lv' := [(6, .int 0), (5, .int 1), (0, .ref o), (1, .int (nI j)), (2, .int (-1)), (3, .int (nI tq)), (4, .int (nI c9))]) hx hb d_M_tries_229 hl (by decide) rfl (fun ls hl => ?_)
              have lopb : ∀ (nb : Nat) (kb : Nat) (g25 : Nat → Int32), (kb ≤ (((0 + jl tq) + 1) + 1) + 1) → (cpI f25 (upd (upd (upd u86 (0 + jl tq) (nI (48 + (c9 / 10)))) ((0 + jl tq) + 1) (nI (48 + (c9 % 10)))) (((0 + jl tq) + 1) + 1) 99) g25 0 kb) → ∀ (H : Heap) (locs : List Loc), va_P D gC (mX T o a z0 z2 (nI nn) z14 z18 u78 u79 u80 (nI ((((0 + jl tq) + 1) + 1) + 1)) (nI ((((0 + jl tq) + 1) + 1) + 1)) f1 f4 f5 f6 f7 f8 f9 f10 f11 f12 f13 f15 f16 f17 f22 (upd (upd (upd u86 (0 + jl tq) (nI (48 + (c9 / 10)))) ((0 + jl tq) + 1) (nI (48 + (c9 % 10)))) (((0 + jl tq) + 1) + 1) 99) g25 f27) H → va_D A (mX T o a z0 z2 (nI nn) z14 z18 u78 u79 u80 (nI ((((0 + jl tq) + 1) + 1) + 1)) (nI ((((0 + jl tq) + 1) + 1) + 1)) f1 f4 f5 f6 f7 f8 f9 f10 f11 f12 f13 f15 f16 f17 f22 (upd (upd (upd u86 (0 + jl tq) (nI (48 + (c9 / 10)))) ((0 + jl tq) + 1) (nI (48 + (c9 % 10)))) (((0 + jl tq) + 1) + 1) 99) g25 f27) → va_S A s.heap H locs → ∀ (ls : Array Slot), lv_has ls 7 [(0, .ref o), (6, .int (nI kb))] → (((0 + jl tq) + 1) + 1) + 1 - kb < nb → W p l e (headSpec (Cond.code y_M_tries b_M_tries 7 none :: bg_W) ({ frames := 3, cells := 0, slots := 0, locals := 67 })).room s m ([.ref o, .int (nI j), .int (j_oi none), .int (j_oi (some tq)), .int (nI c9)] : List Value).toArray below meth c H locs 0 0 (MQ below (va_Qv (fun u : Int32 × Int32 × Int32 × (Nat → Int32) × Int32 × (Nat → Int32) × Int32 => match u with | (w19, w20, w21, g23, w24, g25, w26) => ∃ m9, w26 = nI m9 ∧ m9 ≤ 24 ∧ j_ls g25 m9 = j_try (j_ss z18 none (j_src z18 (some tq) (j_nv f6 f7 f8 f10 f11 f12 f13 ck 0 100000) c9) (f17 j) (f15 j) (f16 j)) (j_tx none (some tq) f4 ln c9) bl) (qB D T A (fun u : Int32 × Int32 × Int32 × (Nat → Int32) × Int32 × (Nat → Int32) × Int32 => match u with | (w19, w20, w21, g23, w24, g25, w26) => mX T o a z0 z2 (nI nn) z14 z18 w19 w20 w21 w24 w26 f1 f4 f5 f6 f7 f8 f9 f10 f11 f12 f13 f15 f16 f17 f22 g23 g25 f27)) A) ([.ref o, .int (nI j), .int (j_oi none), .int (j_oi (some tq)), .int (nI c9)] : List Value).toArray s 0 0 A) (F0 m 231 ls []) := by
                intro nb
                induction nb with
                | zero => intro kb g25 hkb hC2 H locs hP hD hS ls hl hm; exact absurd hm (Nat.not_lt_zero _)
                | succ nb ihb =>
                  intro kb g25 hkb hC2 H locs hP hD hS ls hl hm
                  refine lv_iload hx hb d_M_tries_231 (lv_at hl 1 rfl) ?_
                  refine lv_aload_n hx hb d_M_tries_233 rfl (lv_at hl 0 rfl) ?_
                  refine va_get (D := D) (ci := 6) (v := .int (nI ((((0 + jl tq) + 1) + 1) + 1))) (C := "TimeWordsModel") (T := F_M) (N := 28) hx hb hw in_M hown hK hP 0 rfl rfl 24 (by decide) (hw _ fl_M_180) (fun _ h9 => h9) rfl d_M_tries_234 ?_
                  refine lv_icmp_ge (tgt := 260) hx hb d_M_tries_237 (by decide) (fun c111 => ?_) (fun c111 => ?_)
                  · have c111 := nc_le (a := (((0 + jl tq) + 1) + 1) + 1) (b := kb) c111 (by omega) (by omega)
                    exact W.vret hx hb hr (fun t ht hW => ⟨⟨(u78, u79, u80, upd (upd (upd u86 (0 + jl tq) (nI (48 + (c9 / 10)))) ((0 + jl tq) + 1) (nI (48 + (c9 % 10)))) (((0 + jl tq) + 1) + 1) 99, nI ((((0 + jl tq) + 1) + 1) + 1), g25, nI ((((0 + jl tq) + 1) + 1) + 1)), rfl, ⟨_, rfl, by omega, by rw [j_try, if_pos hss, up_yes hy12 hM hbet, ← hM]; have ekb : kb = (((0 + jl tq) + 1) + 1) + 1 := (by omega); rw [← ekb]; exact ls_cp0 hC2⟩, by rw [ht]; exact hP, va_K.moved hW.alike hK, hD⟩, hS.F ht⟩) hS.2.2 d_M_tries_260
                  · have c111 := nc_nle (a := (((0 + jl tq) + 1) + 1) + 1) (b := kb) c111 (by omega) (by omega)
                    refine lv_aload_n hx hb d_M_tries_240 rfl (lv_at hl 0 rfl) ?_
                    refine va_get (D := D) (ci := 6) (v := .ref (a 25)) (C := "TimeWordsModel") (T := F_M) (N := 28) hx hb hw in_M hown hK hP 0 rfl rfl 25 (by decide) (hw _ fl_M_63) (fun _ h9 => h9) rfl d_M_tries_241 ?_
                    refine lv_iload hx hb d_M_tries_244 (lv_at hl 1 rfl) ?_
                    refine lv_aload_n hx hb d_M_tries_246 rfl (lv_at hl 0 rfl) ?_
                    refine va_get (D := D) (ci := 6) (v := .ref (a 23)) (C := "TimeWordsModel") (T := F_M) (N := 28) hx hb hw in_M hown hK hP 0 rfl rfl 23 (by decide) (hw _ fl_M_60) (fun _ h9 => h9) rfl d_M_tries_247 ?_
                    refine lv_iload hx hb d_M_tries_250 (lv_at hl 1 rfl) ?_
                    refine va_iald hx hb hK hP 16 0 rfl rfl (by first | assumption | exact vp_in_nI (by omega) (by omega)) d_M_tries_252 ?_
                    rw [show (nI kb).toNatClampNeg = kb from nI_clamp (by omega)]
                    refine va_iast hx hb hK hP hD hS 17 0 rfl rfl (by first | assumption | exact vp_in_nI (by omega) (by omega)) d_M_tries_253 (fun H locs hP hD hS => ?_)
                    rw [show (nI kb).toNatClampNeg = kb from nI_clamp (by omega)] at hP hD
                    have hP : va_P D gC (mX T o a z0 z2 (nI nn) z14 z18 u78 u79 u80 (nI ((((0 + jl tq) + 1) + 1) + 1)) (nI ((((0 + jl tq) + 1) + 1) + 1)) f1 f4 f5 f6 f7 f8 f9 f10 f11 f12 f13 f15 f16 f17 f22 (upd (upd (upd u86 (0 + jl tq) (nI (48 + (c9 / 10)))) ((0 + jl tq) + 1) (nI (48 + (c9 % 10)))) (((0 + jl tq) + 1) + 1) 99) (upd g25 kb ((upd (upd (upd u86 (0 + jl tq) (nI (48 + (c9 / 10)))) ((0 + jl tq) + 1) (nI (48 + (c9 % 10)))) (((0 + jl tq) + 1) + 1) 99) kb)) f27) H := hP
                    have hD : va_D A (mX T o a z0 z2 (nI nn) z14 z18 u78 u79 u80 (nI ((((0 + jl tq) + 1) + 1) + 1)) (nI ((((0 + jl tq) + 1) + 1) + 1)) f1 f4 f5 f6 f7 f8 f9 f10 f11 f12 f13 f15 f16 f17 f22 (upd (upd (upd u86 (0 + jl tq) (nI (48 + (c9 / 10)))) ((0 + jl tq) + 1) (nI (48 + (c9 % 10)))) (((0 + jl tq) + 1) + 1) 99) (upd g25 kb ((upd (upd (upd u86 (0 + jl tq) (nI (48 + (c9 / 10)))) ((0 + jl tq) + 1) (nI (48 + (c9 % 10)))) (((0 + jl tq) + 1) + 1) 99) kb)) f27) := hD
                    refine lv_iinc (v := nI (kb + 1)) (lv' := [(6, .int (nI (kb + 1))), (0, .ref o)]) hx hb d_M_tries_254 hl (k := 1) rfl (nI_add kb 1) (by decide) rfl (fun ls hl => ?_)
                    refine lv_goto (tgt := 231) hx hb d_M_tries_257 (by decide) ?_
                    exact ihb (kb + 1) (upd g25 kb ((upd (upd (upd u86 (0 + jl tq) (nI (48 + (c9 / 10)))) ((0 + jl tq) + 1) (nI (48 + (c9 % 10)))) (((0 + jl tq) + 1) + 1) 99) kb)) (by omega) (cpI_s0 hC2) _ _ hP hD hS ls (lv_sub hl [1, 0] rfl) (by omega)
              exact lopb (((((0 + jl tq) + 1) + 1) + 1 - 0) + 1) 0 f25 (Nat.zero_le _) cpI_0 _ _ hP hD hS ls (lv_sub hl [2, 0] rfl) (Nat.lt_succ_self _)
            · obtain ⟨hr9, hbet⟩ := hbb
              subst hr9
              refine lv_if_eq (tgt := 260) hx hb d_M_tries_217 (by decide) (fun c112 => ?_) (fun c112 => absurd c112 (by decide))
              exact W.vret hx hb hr (fun t ht hW => ⟨⟨(u78, u79, u80, upd (upd (upd u86 (0 + jl tq) (nI (48 + (c9 / 10)))) ((0 + jl tq) + 1) (nI (48 + (c9 % 10)))) (((0 + jl tq) + 1) + 1) 99, nI ((((0 + jl tq) + 1) + 1) + 1), f25, nI bn), rfl, ⟨bn, rfl, hy11, by rw [j_try, if_pos hss, up_no hy12 hM hbet]; exact hy12⟩, by rw [ht]; exact hP, va_K.moved hW.alike hK, hD⟩, hS.F ht⟩) hS.2.2 d_M_tries_260
        · have c81 := b2i_f c81
          exact W.vret hx hb hr (fun t ht hW => ⟨⟨(u78, u79, u80, f23, z24, f25, nI bn), rfl, ⟨bn, rfl, hy11, by rw [j_try, if_neg (show ¬ j_ss z18 none (j_src z18 (some tq) (j_nv f6 f7 f8 f10 f11 f12 f13 ck 0 100000) c9) (f17 j) (f15 j) (f16 j) = true from (by rw [show j_ss z18 none (j_src z18 (some tq) (j_nv f6 f7 f8 f10 f11 f12 f13 ck 0 100000) c9) (f17 j) (f15 j) (f16 j) = false from (by rw [hsrc]; exact c81)]; exact Bool.false_ne_true))]; exact hy12⟩, by rw [ht]; exact hP, va_K.moved hW.alike hK, hD⟩, hS.F ht⟩) hS.2.2 d_M_tries_90
      · obtain ⟨hr9, hsrc⟩ := hmk
        subst hr9
        refine lv_if_eq (tgt := 56) hx hb d_M_tries_49 (by decide) (fun c113 => ?_) (fun c113 => absurd c113 (by decide))
        refine lv_iconst (v := 0) hx hb d_M_tries_56 (by decide) ?_
        refine lv_istore (lv' := [(5, .int 0), (0, .ref o), (1, .int (nI j)), (2, .int (-1)), (3, .int (nI tq)), (4, .int (nI c9))]) hx hb d_M_tries_57 hl (by decide) rfl (fun ls hl => ?_)
        refine lv_goto (tgt := 76) hx hb d_M_tries_59 (by decide) ?_
        refine lv_iload hx hb d_M_tries_76 (lv_at hl 0 rfl) ?_
        refine lv_if_eq (tgt := 90) hx hb d_M_tries_78 (by decide) (fun c114 => ?_) (fun c114 => absurd c114 (by decide))
        exact W.vret hx hb hr (fun t ht hW => ⟨⟨(u72, u73, u74, f23, z24, f25, nI bn), rfl, ⟨bn, rfl, hy11, by rw [j_try, if_neg (show ¬ j_ss z18 none (j_src z18 (some tq) (j_nv f6 f7 f8 f10 f11 f12 f13 ck 0 100000) c9) (f17 j) (f15 j) (f16 j) = true from (by rw [show j_ss z18 none (j_src z18 (some tq) (j_nv f6 f7 f8 f10 f11 f12 f13 ck 0 100000) c9) (f17 j) (f15 j) (f16 j) = false from (by rw [hsrc]; rfl)]; exact Bool.false_ne_true))]; exact hy12⟩, by rw [ht]; exact hP, va_K.moved hW.alike hK, hD⟩, hS.F ht⟩) hS.2.2 d_M_tries_90
  · have hl : lv_has ls 7 [(0, .ref o), (1, .int (nI j)), (2, .int (nI b)), (3, .int (j_oi th)), (4, .int (nI c9))] := hl
    have hb6 := hy1 b rfl
    have hb7 := jl_le b
    rcases th with _ | tq
    · have hl : lv_has ls 7 [(0, .ref o), (1, .int (nI j)), (2, .int (nI b)), (3, .int (-1)), (4, .int (nI c9))] := hl
      refine lv_iload hx hb d_M_tries_0 (lv_at hl 4 rfl) ?_
      refine lv_bipush (v := 99) hx hb d_M_tries_2 (by decide) ?_
      refine lv_icmp_le (tgt := 11) hx hb d_M_tries_4 (by decide) (fun c115 => ?_) (fun c115 => ?_)
      · have c115 := nc_le (a := c9) (b := 99) c115 (by omega) (by omega)
        refine lv_iconst (v := 0) hx hb d_M_tries_11 (by decide) ?_
        refine lv_istore (lv' := [(5, .int 0), (0, .ref o), (1, .int (nI j)), (2, .int (nI b)), (3, .int (-1)), (4, .int (nI c9))]) hx hb d_M_tries_12 hl (by decide) rfl (fun ls hl => ?_)
        refine lv_iload hx hb d_M_tries_14 (lv_at hl 5 rfl) ?_
        refine lv_bipush (v := 99) hx hb d_M_tries_16 (by decide) ?_
        refine lv_icmp_gt (tgt := 62) hx hb d_M_tries_18 (by decide) (fun c116 => absurd c116 (nI_nlt (a := 99) (b := c9) (by omega) (by decide))) (fun c116 => ?_)
        have hc9 : c9 ≤ 99 := by omega
        refine lv_aload_n hx hb d_M_tries_21 rfl (lv_at hl 1 rfl) ?_
        refine lv_bipush (v := 100) hx hb d_M_tries_22 (by decide) ?_
        refine lv_iload hx hb d_M_tries_24 (lv_at hl 5 rfl) ?_
        refine lv_iconst (v := 1) hx hb d_M_tries_26 (by decide) ?_
        refine lv_isub hx hb d_M_tries_27 ?_
        refine lv_imul hx hb d_M_tries_28 ?_
        refine lv_iconst (v := 1) hx hb d_M_tries_29 (by decide) ?_
        refine lv_iadd hx hb d_M_tries_30 ?_
        refine lv_bipush (v := 100) hx hb d_M_tries_31 (by decide) ?_
        refine lv_iload hx hb d_M_tries_33 (lv_at hl 5 rfl) ?_
        refine lv_imul hx hb d_M_tries_35 ?_
        refine g_callv (va_runV (As := [.int ((100 * ((nI c9) - 1)) + 1), .int (100 * (nI c9))]) (rest := []) ⟨hx, hb, hml, hown, hw⟩ (k_M_set l D T o a z0 z2 (nI nn) z14 z18 z19 z20 z21 z24 (nI bn) f1 f4 f5 f6 f7 f8 f9 f10 f11 f12 f13 f15 f16 f17 f22 f23 f25 f27 s.heap.size ((100 * ((nI c9) - 1)) + 1) (100 * (nI c9))) (cwV 2 hw (bg_V ml_M_141 wi_M_set wv_M_set wz_M wc_M_set) rfl rfl rfl (by decide +kernel) ⟨Nat.le_of_ble_eq_true rfl, Nat.le_of_ble_eq_true rfl⟩) ⟨qP_b, va_recv hK hP (ci := 6) (q0 := 0) rfl rfl, qP_p hP hK hD⟩ rfl rfl hl.1 rfl (lv_room (Nat.le_of_ble_eq_true rfl)) d_M_tries_36 ⟨Nat.le_of_ble_eq_true rfl, Nat.le_of_ble_eq_true rfl⟩) hD hS hA (fun u9 H locs hr117 hP hD hS => ?_)
        obtain ⟨u118, u119, u120⟩ := u9
        dsimp only at hr117 hP hD
        obtain ⟨q0, q1, q2⟩ := hr117
        replace q0 := q0.symm; subst q0; replace q1 := q1.symm; subst q1; replace q2 := q2.symm; subst q2
        have hP : va_P D gC (mX T o a z0 z2 (nI nn) z14 z18 ((100 * ((nI c9) - 1)) + 1) (100 * (nI c9)) 0 z24 (nI bn) f1 f4 f5 f6 f7 f8 f9 f10 f11 f12 f13 f15 f16 f17 f22 f23 f25 f27) H := hP
        have hD : va_D A (mX T o a z0 z2 (nI nn) z14 z18 ((100 * ((nI c9) - 1)) + 1) (100 * (nI c9)) 0 z24 (nI bn) f1 f4 f5 f6 f7 f8 f9 f10 f11 f12 f13 f15 f16 f17 f22 f23 f25 f27) := hD
        refine lv_iload_n hx hb d_M_tries_39 rfl (lv_at hl 4 rfl) ?_
        refine lv_iconst (v := (-1)) hx hb d_M_tries_40 (by decide) ?_
        refine lv_icmp_eq (tgt := 52) hx hb d_M_tries_41 (by decide) (fun c121 => ?_) (fun c121 => absurd c121 (by decide))
        refine lv_iconst (v := 1) hx hb d_M_tries_52 (by decide) ?_
        refine lv_goto (tgt := 57) hx hb d_M_tries_53 (by decide) ?_
        refine lv_istore (lv' := [(5, .int 1), (0, .ref o), (1, .int (nI j)), (2, .int (nI b)), (3, .int (-1)), (4, .int (nI c9))]) hx hb d_M_tries_57 hl (by decide) rfl (fun ls hl => ?_)
        refine lv_goto (tgt := 76) hx hb d_M_tries_59 (by decide) ?_
        have hsrc : j_src z18 none (j_nv f6 f7 f8 f10 f11 f12 f13 ck 0 100000) c9 = some ((100 * ((nI c9) - 1)) + 1, 100 * (nI c9), 0) := by rw [j_src, if_pos hc9]; rfl
        refine lv_iload hx hb d_M_tries_76 (lv_at hl 0 rfl) ?_
        refine lv_if_eq (tgt := 90) hx hb d_M_tries_78 (by decide) (fun c122 => absurd c122 (by decide)) (fun c122 => ?_)
        refine lv_aload_n hx hb d_M_tries_81 rfl (lv_at hl 1 rfl) ?_
        refine lv_iload_n hx hb d_M_tries_82 rfl (lv_at hl 2 rfl) ?_
        refine lv_iload_n hx hb d_M_tries_83 rfl (lv_at hl 3 rfl) ?_
        refine g_calli (va_runV (As := [.int (nI j), .int (nI b)]) (rest := []) ⟨hx, hb, hml, hown, hw⟩ (k_M_says l D T o a z0 z2 (nI nn) z14 z18 ((100 * ((nI c9) - 1)) + 1) (100 * (nI c9)) 0 z24 (nI bn) f1 f4 f5 f6 f7 f8 f9 f10 f11 f12 f13 f15 f16 f17 f22 f23 f25 f27 H.size j (some b) hy0 hy1) (cwV 2 hw (bg_V ml_M_190 wi_M_says wv_M_says wz_M wc_M_says) rfl rfl rfl (by decide +kernel) ⟨Nat.le_of_ble_eq_true rfl, Nat.le_of_ble_eq_true rfl⟩) ⟨qP_b, va_recv hK hP (ci := 6) (q0 := 0) rfl rfl, qP_p hP hK hD⟩ rfl rfl hl.1 rfl (lv_room (Nat.le_of_ble_eq_true rfl)) d_M_tries_84 ⟨Nat.le_of_ble_eq_true rfl, Nat.le_of_ble_eq_true rfl⟩) hD hS hA (fun r123 u9 H locs hr123 hP hD hS => ?_)
        obtain ⟨u124, u125, u126⟩ := u9
        dsimp only at hr123 hP hD
        have hP : va_P D gC (mX T o a z0 z2 (nI nn) z14 z18 u124 u125 u126 z24 (nI bn) f1 f4 f5 f6 f7 f8 f9 f10 f11 f12 f13 f15 f16 f17 f22 f23 f25 f27) H := hP
        have hD : va_D A (mX T o a z0 z2 (nI nn) z14 z18 u124 u125 u126 z24 (nI bn) f1 f4 f5 f6 f7 f8 f9 f10 f11 f12 f13 f15 f16 f17 f22 f23 f25 f27) := hD
        replace hr123 := hr123.symm; subst hr123
        refine lv_if_ne (tgt := 91) hx hb d_M_tries_87 (by decide) (fun c127 => ?_) (fun c127 => ?_)
        · have c127 := b2i_t c127
          have hss : j_ss z18 (some b) (j_src z18 none (j_nv f6 f7 f8 f10 f11 f12 f13 ck 0 100000) c9) (f17 j) (f15 j) (f16 j) = true := by rw [hsrc]; exact c127
          refine lv_aload_n hx hb d_M_tries_91 rfl (lv_at hl 1 rfl) ?_
          refine lv_iconst (v := 0) hx hb d_M_tries_92 (by decide) ?_
          refine va_put (D := D) (ci := 6) (v := .int 0) (ty := .int) (C := "TimeWordsModel") (T := F_M) (N := 28) hx hb hw in_M ty_M ty_M_ok n_M hown hK hP hD hS 0 rfl rfl 24 (by decide) (hw _ fl_M_180) (fun _ h9 => h9) rfl (by decide +kernel) rfl rfl (Nat.le_of_ble_eq_true rfl) d_M_tries_93 (fun H locs hP hD hS => ?_)
          have hP : va_P D gC (mX T o a z0 z2 (nI nn) z14 z18 u124 u125 u126 0 (nI bn) f1 f4 f5 f6 f7 f8 f9 f10 f11 f12 f13 f15 f16 f17 f22 f23 f25 f27) H := hP
          have hD : va_D A (mX T o a z0 z2 (nI nn) z14 z18 u124 u125 u126 0 (nI bn) f1 f4 f5 f6 f7 f8 f9 f10 f11 f12 f13 f15 f16 f17 f22 f23 f25 f27) := hD
          have hM : j_ls f23 0 = [] := rfl
          have hP : va_P D gC (mX T o a z0 z2 (nI nn) z14 z18 u124 u125 u126 (nI 0) (nI bn) f1 f4 f5 f6 f7 f8 f9 f10 f11 f12 f13 f15 f16 f17 f22 f23 f25 f27) H := hP
          have hD : va_D A (mX T o a z0 z2 (nI nn) z14 z18 u124 u125 u126 (nI 0) (nI bn) f1 f4 f5 f6 f7 f8 f9 f10 f11 f12 f13 f15 f16 f17 f22 f23 f25 f27) := hD
          refine lv_iload_n hx hb d_M_tries_96 rfl (lv_at hl 3 rfl) ?_
          refine lv_iconst (v := (-1)) hx hb d_M_tries_97 (by decide) ?_
          refine lv_icmp_eq (tgt := 109) hx hb d_M_tries_98 (by decide) (fun c128 => absurd c128 ((fun e9 : nI b = -1 => absurd (e9 ▸ nI_pos' (n := b) (by omega)) (by decide)))) (fun c128 => ?_)
          refine lv_aload_n hx hb d_M_tries_101 rfl (lv_at hl 1 rfl) ?_
          refine lv_iload_n hx hb d_M_tries_102 rfl (lv_at hl 3 rfl) ?_
          refine vp_callSl (va_Run.run (va_runS (As := [.int (nI b)]) (rest := [.ref o]) ⟨hx, hb, hml, hown, hw⟩ (k_M_beginning l b hb6) (va_cwS 1 hw (bg_S ml_M_124 wt_M_beginning wz_M wc_M_beginning) rfl rfl rfl (by decide +kernel) ⟨Nat.le_of_ble_eq_true rfl, Nat.le_of_ble_eq_true rfl⟩) ⟨nP_b, nP_p⟩ rfl rfl hl.1 rfl (lv_room (Nat.le_of_ble_eq_true rfl)) d_M_tries_103 ⟨Nat.le_of_ble_eq_true rfl, Nat.le_of_ble_eq_true rfl⟩)) (fun r129 hr129 => ?_)
          replace hr129 := hr129.symm; subst hr129
          refine g_callv (va_runV (As := [.long (jw b)]) (rest := []) ⟨hx, hb, hml, hown, hw⟩ (k_M_putWord l D T o a z0 z2 (nI nn) z14 z18 u124 u125 u126 0 (nI bn) f1 f4 f5 f6 f7 f8 f9 f10 f11 f12 f13 f15 f16 f17 f22 f23 f25 f27 H.size b hb6 (by omega)) (cwV 1 hw (bg_V ml_M_193 wi_M_putWord wv_M_putWord wz_M wc_M_putWord) rfl rfl rfl (by decide +kernel) ⟨Nat.le_of_ble_eq_true rfl, Nat.le_of_ble_eq_true rfl⟩) ⟨qP_b, va_recv hK hP (ci := 6) (q0 := 0) rfl rfl, qP_p hP hK hD⟩ rfl rfl hl.1 rfl (lv_room (Nat.le_of_ble_eq_true rfl)) d_M_tries_106 ⟨Nat.le_of_ble_eq_true rfl, Nat.le_of_ble_eq_true rfl⟩) hD hS hA (fun u9 H locs hr130 hP hD hS => ?_)
          obtain ⟨u131, u132⟩ := u9
          dsimp only at hr130 hP hD
          have hP : va_P D gC (mX T o a z0 z2 (nI nn) z14 z18 u124 u125 u126 u132 (nI bn) f1 f4 f5 f6 f7 f8 f9 f10 f11 f12 f13 f15 f16 f17 f22 u131 f25 f27) H := hP
          have hD : va_D A (mX T o a z0 z2 (nI nn) z14 z18 u124 u125 u126 u132 (nI bn) f1 f4 f5 f6 f7 f8 f9 f10 f11 f12 f13 f15 f16 f17 f22 u131 f25 f27) := hD
          obtain ⟨hw24, hC9⟩ := hr130
          subst hw24
          have hM : j_ls u131 (0 + jl b) = [] ++ jcs b := by rw [ls_cp hC9, hM, jcs_ls b (by omega)]
          refine lv_iload_n hx hb d_M_tries_109 rfl (lv_at hl 4 rfl) ?_
          refine lv_iconst (v := (-1)) hx hb d_M_tries_110 (by decide) ?_
          refine lv_icmp_eq (tgt := 122) hx hb d_M_tries_111 (by decide) (fun c133 => ?_) (fun c133 => absurd c133 (by decide))
          refine lv_iload hx hb d_M_tries_122 (lv_at hl 5 rfl) ?_
          refine lv_bipush (v := 99) hx hb d_M_tries_124 (by decide) ?_
          refine lv_icmp_le (tgt := 176) hx hb d_M_tries_126 (by decide) (fun c134 => ?_) (fun c134 => absurd (nI_le (a := c9) (b := 99) (by omega) (by decide)) c134)
          refine lv_iload hx hb d_M_tries_176 (lv_at hl 5 rfl) ?_
          refine lv_bipush (v := 9) hx hb d_M_tries_178 (by decide) ?_
          refine lv_icmp_le (tgt := 195) hx hb d_M_tries_180 (by decide) (fun c135 => ?_) (fun c135 => ?_)
          · have c135 := nc_le (a := c9) (b := 9) c135 (by omega) (by omega)
            refine lv_aload_n hx hb d_M_tries_195 rfl (lv_at hl 1 rfl) ?_
            refine lv_bipush (v := 48) hx hb d_M_tries_196 (by decide) ?_
            refine lv_iload hx hb d_M_tries_198 (lv_at hl 5 rfl) ?_
            refine lv_bipush (v := 10) hx hb d_M_tries_200 (by decide) ?_
            refine lv_irem hx hb d_M_tries_202 (by decide) ?_
            rw [show nI c9 - nI c9 / 10 * 10 = nI (c9 % 10) from pk_rem (d := 10) (by omega) (by decide) (by decide)]
            refine lv_iadd hx hb d_M_tries_203 ?_
            rw [show 48 + (nI (c9 % 10)) = nI (48 + (c9 % 10)) from nI_add 48 (c9 % 10)]
            refine g_callv (va_runV (As := [.int (nI (48 + (c9 % 10)))]) (rest := []) ⟨hx, hb, hml, hown, hw⟩ (k_M_put l D T o a z0 z2 (nI nn) z14 z18 u124 u125 u126 (0 + jl b) (nI bn) f1 f4 f5 f6 f7 f8 f9 f10 f11 f12 f13 f15 f16 f17 f22 u131 f25 f27 H.size (nI (48 + (c9 % 10))) (by omega)) (cwV 1 hw (bg_V ml_M_183 wi_M_put wv_M_put wz_M wc_M_put) rfl rfl rfl (by decide +kernel) ⟨Nat.le_of_ble_eq_true rfl, Nat.le_of_ble_eq_true rfl⟩) ⟨qP_b, va_recv hK hP (ci := 6) (q0 := 0) rfl rfl, qP_p hP hK hD⟩ rfl rfl hl.1 rfl (lv_room (Nat.le_of_ble_eq_true rfl)) d_M_tries_204 ⟨Nat.le_of_ble_eq_true rfl, Nat.le_of_ble_eq_true rfl⟩) hD hS hA (fun u9 H locs hr136 hP hD hS => ?_)
            obtain ⟨u137, u138⟩ := u9
            dsimp only at hr136 hP hD
            obtain ⟨q0, q1⟩ := hr136
            replace q0 := q0.symm; subst q0; replace q1 := q1.symm; subst q1
            have hP : va_P D gC (mX T o a z0 z2 (nI nn) z14 z18 u124 u125 u126 (nI ((0 + jl b) + 1)) (nI bn) f1 f4 f5 f6 f7 f8 f9 f10 f11 f12 f13 f15 f16 f17 f22 (upd u131 (0 + jl b) (nI (48 + (c9 % 10)))) f25 f27) H := hP
            have hD : va_D A (mX T o a z0 z2 (nI nn) z14 z18 u124 u125 u126 (nI ((0 + jl b) + 1)) (nI bn) f1 f4 f5 f6 f7 f8 f9 f10 f11 f12 f13 f15 f16 f17 f22 (upd u131 (0 + jl b) (nI (48 + (c9 % 10)))) f25 f27) := hD
            have hM : j_ls (upd u131 (0 + jl b) (nI (48 + (c9 % 10)))) (0 + jl b + 1) = [] ++ jcs b ++ [nI (48 + (c9 % 10))] := by rw [ls_put, hM]
            refine lv_aload_n hx hb d_M_tries_207 rfl (lv_at hl 1 rfl) ?_
            refine lv_bipush (v := 99) hx hb d_M_tries_208 (by decide) ?_
            refine g_callv (va_runV (As := [.int 99]) (rest := []) ⟨hx, hb, hml, hown, hw⟩ (k_M_put l D T o a z0 z2 (nI nn) z14 z18 u124 u125 u126 ((0 + jl b) + 1) (nI bn) f1 f4 f5 f6 f7 f8 f9 f10 f11 f12 f13 f15 f16 f17 f22 (upd u131 (0 + jl b) (nI (48 + (c9 % 10)))) f25 f27 H.size 99 (by omega)) (cwV 1 hw (bg_V ml_M_183 wi_M_put wv_M_put wz_M wc_M_put) rfl rfl rfl (by decide +kernel) ⟨Nat.le_of_ble_eq_true rfl, Nat.le_of_ble_eq_true rfl⟩) ⟨qP_b, va_recv hK hP (ci := 6) (q0 := 0) rfl rfl, qP_p hP hK hD⟩ rfl rfl hl.1 rfl (lv_room (Nat.le_of_ble_eq_true rfl)) d_M_tries_210 ⟨Nat.le_of_ble_eq_true rfl, Nat.le_of_ble_eq_true rfl⟩) hD hS hA (fun u9 H locs hr139 hP hD hS => ?_)
            obtain ⟨u140, u141⟩ := u9
            dsimp only at hr139 hP hD
            obtain ⟨q0, q1⟩ := hr139
            replace q0 := q0.symm; subst q0; replace q1 := q1.symm; subst q1
            have hP : va_P D gC (mX T o a z0 z2 (nI nn) z14 z18 u124 u125 u126 (nI (((0 + jl b) + 1) + 1)) (nI bn) f1 f4 f5 f6 f7 f8 f9 f10 f11 f12 f13 f15 f16 f17 f22 (upd (upd u131 (0 + jl b) (nI (48 + (c9 % 10)))) ((0 + jl b) + 1) 99) f25 f27) H := hP
            have hD : va_D A (mX T o a z0 z2 (nI nn) z14 z18 u124 u125 u126 (nI (((0 + jl b) + 1) + 1)) (nI bn) f1 f4 f5 f6 f7 f8 f9 f10 f11 f12 f13 f15 f16 f17 f22 (upd (upd u131 (0 + jl b) (nI (48 + (c9 % 10)))) ((0 + jl b) + 1) 99) f25 f27) := hD
            have hM : j_ls (upd (upd u131 (0 + jl b) (nI (48 + (c9 % 10)))) ((0 + jl b) + 1) 99) (0 + jl b + 1 + 1) = [] ++ jcs b ++ [nI (48 + (c9 % 10))] ++ [99] := by rw [ls_put, hM]
            have hT : j_tx (some b) none f4 ln c9 = [] ++ jcs b ++ [nI (48 + (c9 % 10))] ++ [99] := by simp only [j_tx, j_ot, if_pos hc9, j_ct]; rw [if_neg (by omega)]; simp
            rw [← hT] at hM
            refine lv_aload_n hx hb d_M_tries_213 rfl (lv_at hl 1 rfl) ?_
            refine vp_callSi (va_Run.run (va_runV (As := []) (rest := []) ⟨hx, hb, hml, hown, hw⟩ (k_M_isBetter l D T o a z0 z2 (nI nn) z14 z18 u124 u125 u126 (((0 + jl b) + 1) + 1) bn f1 f4 f5 f6 f7 f8 f9 f10 f11 f12 f13 f15 f16 f17 f22 (upd (upd u131 (0 + jl b) (nI (48 + (c9 % 10)))) ((0 + jl b) + 1) 99) f25 f27 (by omega) (by omega) (by omega)) (cwV 0 hw (bg_V ml_M_197 wi_M_isBetter wv_M_isBetter wz_M wc_M_isBetter) rfl rfl rfl (by decide +kernel) ⟨Nat.le_of_ble_eq_true rfl, Nat.le_of_ble_eq_true rfl⟩) ⟨sP_b, va_recv hK hP (ci := 6) (q0 := 0) rfl rfl, sP_p hP hK⟩ rfl rfl hl.1 rfl (lv_room (Nat.le_of_ble_eq_true rfl)) d_M_tries_214 ⟨Nat.le_of_ble_eq_true rfl, Nat.le_of_ble_eq_true rfl⟩)) (fun r142 hr142 => ?_)
            rcases hr142 with hbb | hbb
            · obtain ⟨hr9, hbet⟩ := hbb
              subst hr9
              refine lv_if_eq (tgt := 260) hx hb d_M_tries_217 (by decide) (fun c143 => absurd c143 (by decide)) (fun c143 => ?_)
              refine lv_aload_n hx hb d_M_tries_220 rfl (lv_at hl 1 rfl) ?_
              refine lv_aload_n hx hb d_M_tries_221 rfl (lv_at hl 1 rfl) ?_
              refine va_get (D := D) (ci := 6) (v := .int (nI (((0 + jl b) + 1) + 1))) (C := "TimeWordsModel") (T := F_M) (N := 28) hx hb hw in_M hown hK hP 0 rfl rfl 24 (by decide) (hw _ fl_M_180) (fun _ h9 => h9) rfl d_M_tries_222 ?_
              refine va_put (D := D) (ci := 6) (v := .int (nI (((0 + jl b) + 1) + 1))) (ty := .int) (C := "TimeWordsModel") (T := F_M) (N := 28) hx hb hw in_M ty_M ty_M_ok n_M hown hK hP hD hS 0 rfl rfl 26 (by decide) (hw _ fl_M_187) (fun _ h9 => h9) rfl (by decide +kernel) rfl rfl (Nat.le_of_ble_eq_true rfl) d_M_tries_225 (fun H locs hP hD hS => ?_)
              have hP : va_P D gC (mX T o a z0 z2 (nI nn) z14 z18 u124 u125 u126 (nI (((0 + jl b) + 1) + 1)) (nI (((0 + jl b) + 1) + 1)) f1 f4 f5 f6 f7 f8 f9 f10 f11 f12 f13 f15 f16 f17 f22 (upd (upd u131 (0 + jl b) (nI (48 + (c9 % 10)))) ((0 + jl b) + 1) 99) f25 f27) H := hP
              have hD : va_D A (mX T o a z0 z2 (nI nn) z14 z18 u124 u125 u126 (nI (((0 + jl b) + 1) + 1)) (nI (((0 + jl b) + 1) + 1)) f1 f4 f5 f6 f7 f8 f9 f10 f11 f12 f13 f15 f16 f17 f22 (upd (upd u131 (0 + jl b) (nI (48 + (c9 % 10)))) ((0 + jl b) + 1) 99) f25 f27) := hD
              refine lv_iconst (v := 0) hx hb d_M_tries_228 (by decide) ?_
              refine lv_istore (lv' := [(6, .int 0), (5, .int 1), (0, .ref o), (1, .int (nI j)), (2, .int (nI b)), (3, .int (-1)), (4, .int (nI c9))]) hx hb d_M_tries_229 hl (by decide) rfl (fun ls hl => ?_)
              have lopb : ∀ (nb : Nat) (kb : Nat) (g25 : Nat → Int32), (kb ≤ ((0 + jl b) + 1) + 1) → (cpI f25 (upd (upd u131 (0 + jl b) (nI (48 + (c9 % 10)))) ((0 + jl b) + 1) 99) g25 0 kb) → ∀ (H : Heap) (locs : List Loc), va_P D gC (mX T o a z0 z2 (nI nn) z14 z18 u124 u125 u126 (nI (((0 + jl b) + 1) + 1)) (nI (((0 + jl b) + 1) + 1)) f1 f4 f5 f6 f7 f8 f9 f10 f11 f12 f13 f15 f16 f17 f22 (upd (upd u131 (0 + jl b) (nI (48 + (c9 % 10)))) ((0 + jl b) + 1) 99) g25 f27) H → va_D A (mX T o a z0 z2 (nI nn) z14 z18 u124 u125 u126 (nI (((0 + jl b) + 1) + 1)) (nI (((0 + jl b) + 1) + 1)) f1 f4 f5 f6 f7 f8 f9 f10 f11 f12 f13 f15 f16 f17 f22 (upd (upd u131 (0 + jl b) (nI (48 + (c9 % 10)))) ((0 + jl b) + 1) 99) g25 f27) → va_S A s.heap H locs → ∀ (ls : Array Slot), lv_has ls 7 [(0, .ref o), (6, .int (nI kb))] → ((0 + jl b) + 1) + 1 - kb < nb → W p l e (headSpec (Cond.code y_M_tries b_M_tries 7 none :: bg_W) ({ frames := 3, cells := 0, slots := 0, locals := 67 })).room s m ([.ref o, .int (nI j), .int (j_oi (some b)), .int (j_oi none), .int (nI c9)] : List Value).toArray below meth c H locs 0 0 (MQ below (va_Qv (fun u : Int32 × Int32 × Int32 × (Nat → Int32) × Int32 × (Nat → Int32) × Int32 => match u with | (w19, w20, w21, g23, w24, g25, w26) => ∃ m9, w26 = nI m9 ∧ m9 ≤ 24 ∧ j_ls g25 m9 = j_try (j_ss z18 (some b) (j_src z18 none (j_nv f6 f7 f8 f10 f11 f12 f13 ck 0 100000) c9) (f17 j) (f15 j) (f16 j)) (j_tx (some b) none f4 ln c9) bl) (qB D T A (fun u : Int32 × Int32 × Int32 × (Nat → Int32) × Int32 × (Nat → Int32) × Int32 => match u with | (w19, w20, w21, g23, w24, g25, w26) => mX T o a z0 z2 (nI nn) z14 z18 w19 w20 w21 w24 w26 f1 f4 f5 f6 f7 f8 f9 f10 f11 f12 f13 f15 f16 f17 f22 g23 g25 f27)) A) ([.ref o, .int (nI j), .int (j_oi (some b)), .int (j_oi none), .int (nI c9)] : List Value).toArray s 0 0 A) (F0 m 231 ls []) := by
                intro nb
                induction nb with
                | zero => intro kb g25 hkb hC2 H locs hP hD hS ls hl hm; exact absurd hm (Nat.not_lt_zero _)
                | succ nb ihb =>
                  intro kb g25 hkb hC2 H locs hP hD hS ls hl hm
                  refine lv_iload hx hb d_M_tries_231 (lv_at hl 1 rfl) ?_
                  refine lv_aload_n hx hb d_M_tries_233 rfl (lv_at hl 0 rfl) ?_
                  refine va_get (D := D) (ci := 6) (v := .int (nI (((0 + jl b) + 1) + 1))) (C := "TimeWordsModel") (T := F_M) (N := 28) hx hb hw in_M hown hK hP 0 rfl rfl 24 (by decide) (hw _ fl_M_180) (fun _ h9 => h9) rfl d_M_tries_234 ?_
                  refine lv_icmp_ge (tgt := 260) hx hb d_M_tries_237 (by decide) (fun c144 => ?_) (fun c144 => ?_)
                  · have c144 := nc_le (a := ((0 + jl b) + 1) + 1) (b := kb) c144 (by omega) (by omega)
                    exact W.vret hx hb hr (fun t ht hW => ⟨⟨(u124, u125, u126, upd (upd u131 (0 + jl b) (nI (48 + (c9 % 10)))) ((0 + jl b) + 1) 99, nI (((0 + jl b) + 1) + 1), g25, nI (((0 + jl b) + 1) + 1)), rfl, ⟨_, rfl, by omega, by rw [j_try, if_pos hss, up_yes hy12 hM hbet, ← hM]; have ekb : kb = ((0 + jl b) + 1) + 1 := (by omega); rw [← ekb]; exact ls_cp0 hC2⟩, by rw [ht]; exact hP, va_K.moved hW.alike hK, hD⟩, hS.F ht⟩) hS.2.2 d_M_tries_260
                  · have c144 := nc_nle (a := ((0 + jl b) + 1) + 1) (b := kb) c144 (by omega) (by omega)
                    refine lv_aload_n hx hb d_M_tries_240 rfl (lv_at hl 0 rfl) ?_
                    refine va_get (D := D) (ci := 6) (v := .ref (a 25)) (C := "TimeWordsModel") (T := F_M) (N := 28) hx hb hw in_M hown hK hP 0 rfl rfl 25 (by decide) (hw _ fl_M_63) (fun _ h9 => h9) rfl d_M_tries_241 ?_
                    refine lv_iload hx hb d_M_tries_244 (lv_at hl 1 rfl) ?_
                    refine lv_aload_n hx hb d_M_tries_246 rfl (lv_at hl 0 rfl) ?_
                    refine va_get (D := D) (ci := 6) (v := .ref (a 23)) (C := "TimeWordsModel") (T := F_M) (N := 28) hx hb hw in_M hown hK hP 0 rfl rfl 23 (by decide) (hw _ fl_M_60) (fun _ h9 => h9) rfl d_M_tries_247 ?_
                    refine lv_iload hx hb d_M_tries_250 (lv_at hl 1 rfl) ?_
                    refine va_iald hx hb hK hP 16 0 rfl rfl (by first | assumption | exact vp_in_nI (by omega) (by omega)) d_M_tries_252 ?_
                    rw [show (nI kb).toNatClampNeg = kb from nI_clamp (by omega)]
                    refine va_iast hx hb hK hP hD hS 17 0 rfl rfl (by first | assumption | exact vp_in_nI (by omega) (by omega)) d_M_tries_253 (fun H locs hP hD hS => ?_)
                    rw [show (nI kb).toNatClampNeg = kb from nI_clamp (by omega)] at hP hD
                    have hP : va_P D gC (mX T o a z0 z2 (nI nn) z14 z18 u124 u125 u126 (nI (((0 + jl b) + 1) + 1)) (nI (((0 + jl b) + 1) + 1)) f1 f4 f5 f6 f7 f8 f9 f10 f11 f12 f13 f15 f16 f17 f22 (upd (upd u131 (0 + jl b) (nI (48 + (c9 % 10)))) ((0 + jl b) + 1) 99) (upd g25 kb ((upd (upd u131 (0 + jl b) (nI (48 + (c9 % 10)))) ((0 + jl b) + 1) 99) kb)) f27) H := hP
                    have hD : va_D A (mX T o a z0 z2 (nI nn) z14 z18 u124 u125 u126 (nI (((0 + jl b) + 1) + 1)) (nI (((0 + jl b) + 1) + 1)) f1 f4 f5 f6 f7 f8 f9 f10 f11 f12 f13 f15 f16 f17 f22 (upd (upd u131 (0 + jl b) (nI (48 + (c9 % 10)))) ((0 + jl b) + 1) 99) (upd g25 kb ((upd (upd u131 (0 + jl b) (nI (48 + (c9 % 10)))) ((0 + jl b) + 1) 99) kb)) f27) := hD
                    refine lv_iinc (v := nI (kb + 1)) (lv' := [(6, .int (nI (kb + 1))), (0, .ref o)]) hx hb d_M_tries_254 hl (k := 1) rfl (nI_add kb 1) (by decide) rfl (fun ls hl => ?_)
                    refine lv_goto (tgt := 231) hx hb d_M_tries_257 (by decide) ?_
                    exact ihb (kb + 1) (upd g25 kb ((upd (upd u131 (0 + jl b) (nI (48 + (c9 % 10)))) ((0 + jl b) + 1) 99) kb)) (by omega) (cpI_s0 hC2) _ _ hP hD hS ls (lv_sub hl [1, 0] rfl) (by omega)
              exact lopb ((((0 + jl b) + 1) + 1 - 0) + 1) 0 f25 (Nat.zero_le _) cpI_0 _ _ hP hD hS ls (lv_sub hl [2, 0] rfl) (Nat.lt_succ_self _)
            · obtain ⟨hr9, hbet⟩ := hbb
              subst hr9
              refine lv_if_eq (tgt := 260) hx hb d_M_tries_217 (by decide) (fun c145 => ?_) (fun c145 => absurd c145 (by decide))
              exact W.vret hx hb hr (fun t ht hW => ⟨⟨(u124, u125, u126, upd (upd u131 (0 + jl b) (nI (48 + (c9 % 10)))) ((0 + jl b) + 1) 99, nI (((0 + jl b) + 1) + 1), f25, nI bn), rfl, ⟨bn, rfl, hy11, by rw [j_try, if_pos hss, up_no hy12 hM hbet]; exact hy12⟩, by rw [ht]; exact hP, va_K.moved hW.alike hK, hD⟩, hS.F ht⟩) hS.2.2 d_M_tries_260
          · have c135 := nc_nle (a := c9) (b := 9) c135 (by omega) (by omega)
            refine lv_aload_n hx hb d_M_tries_183 rfl (lv_at hl 1 rfl) ?_
            refine lv_bipush (v := 48) hx hb d_M_tries_184 (by decide) ?_
            refine lv_iload hx hb d_M_tries_186 (lv_at hl 5 rfl) ?_
            refine lv_bipush (v := 10) hx hb d_M_tries_188 (by decide) ?_
            refine lv_idiv hx hb d_M_tries_190 (by decide) ?_
            rw [show nI c9 / 10 = nI (c9 / 10) from pk_div (d := 10) (by omega) (by decide) (by decide)]
            refine lv_iadd hx hb d_M_tries_191 ?_
            rw [show 48 + (nI (c9 / 10)) = nI (48 + (c9 / 10)) from nI_add 48 (c9 / 10)]
            refine g_callv (va_runV (As := [.int (nI (48 + (c9 / 10)))]) (rest := []) ⟨hx, hb, hml, hown, hw⟩ (k_M_put l D T o a z0 z2 (nI nn) z14 z18 u124 u125 u126 (0 + jl b) (nI bn) f1 f4 f5 f6 f7 f8 f9 f10 f11 f12 f13 f15 f16 f17 f22 u131 f25 f27 H.size (nI (48 + (c9 / 10))) (by omega)) (cwV 1 hw (bg_V ml_M_183 wi_M_put wv_M_put wz_M wc_M_put) rfl rfl rfl (by decide +kernel) ⟨Nat.le_of_ble_eq_true rfl, Nat.le_of_ble_eq_true rfl⟩) ⟨qP_b, va_recv hK hP (ci := 6) (q0 := 0) rfl rfl, qP_p hP hK hD⟩ rfl rfl hl.1 rfl (lv_room (Nat.le_of_ble_eq_true rfl)) d_M_tries_192 ⟨Nat.le_of_ble_eq_true rfl, Nat.le_of_ble_eq_true rfl⟩) hD hS hA (fun u9 H locs hr146 hP hD hS => ?_)
            obtain ⟨u147, u148⟩ := u9
            dsimp only at hr146 hP hD
            obtain ⟨q0, q1⟩ := hr146
            replace q0 := q0.symm; subst q0; replace q1 := q1.symm; subst q1
            have hP : va_P D gC (mX T o a z0 z2 (nI nn) z14 z18 u124 u125 u126 (nI ((0 + jl b) + 1)) (nI bn) f1 f4 f5 f6 f7 f8 f9 f10 f11 f12 f13 f15 f16 f17 f22 (upd u131 (0 + jl b) (nI (48 + (c9 / 10)))) f25 f27) H := hP
            have hD : va_D A (mX T o a z0 z2 (nI nn) z14 z18 u124 u125 u126 (nI ((0 + jl b) + 1)) (nI bn) f1 f4 f5 f6 f7 f8 f9 f10 f11 f12 f13 f15 f16 f17 f22 (upd u131 (0 + jl b) (nI (48 + (c9 / 10)))) f25 f27) := hD
            have hM : j_ls (upd u131 (0 + jl b) (nI (48 + (c9 / 10)))) (0 + jl b + 1) = [] ++ jcs b ++ [nI (48 + (c9 / 10))] := by rw [ls_put, hM]
            refine lv_aload_n hx hb d_M_tries_195 rfl (lv_at hl 1 rfl) ?_
            refine lv_bipush (v := 48) hx hb d_M_tries_196 (by decide) ?_
            refine lv_iload hx hb d_M_tries_198 (lv_at hl 5 rfl) ?_
            refine lv_bipush (v := 10) hx hb d_M_tries_200 (by decide) ?_
            refine lv_irem hx hb d_M_tries_202 (by decide) ?_
            rw [show nI c9 - nI c9 / 10 * 10 = nI (c9 % 10) from pk_rem (d := 10) (by omega) (by decide) (by decide)]
            refine lv_iadd hx hb d_M_tries_203 ?_
            rw [show 48 + (nI (c9 % 10)) = nI (48 + (c9 % 10)) from nI_add 48 (c9 % 10)]
            refine g_callv (va_runV (As := [.int (nI (48 + (c9 % 10)))]) (rest := []) ⟨hx, hb, hml, hown, hw⟩ (k_M_put l D T o a z0 z2 (nI nn) z14 z18 u124 u125 u126 ((0 + jl b) + 1) (nI bn) f1 f4 f5 f6 f7 f8 f9 f10 f11 f12 f13 f15 f16 f17 f22 (upd u131 (0 + jl b) (nI (48 + (c9 / 10)))) f25 f27 H.size (nI (48 + (c9 % 10))) (by omega)) (cwV 1 hw (bg_V ml_M_183 wi_M_put wv_M_put wz_M wc_M_put) rfl rfl rfl (by decide +kernel) ⟨Nat.le_of_ble_eq_true rfl, Nat.le_of_ble_eq_true rfl⟩) ⟨qP_b, va_recv hK hP (ci := 6) (q0 := 0) rfl rfl, qP_p hP hK hD⟩ rfl rfl hl.1 rfl (lv_room (Nat.le_of_ble_eq_true rfl)) d_M_tries_204 ⟨Nat.le_of_ble_eq_true rfl, Nat.le_of_ble_eq_true rfl⟩) hD hS hA (fun u9 H locs hr149 hP hD hS => ?_)
            obtain ⟨u150, u151⟩ := u9
            dsimp only at hr149 hP hD
            obtain ⟨q0, q1⟩ := hr149
            replace q0 := q0.symm; subst q0; replace q1 := q1.symm; subst q1
            have hP : va_P D gC (mX T o a z0 z2 (nI nn) z14 z18 u124 u125 u126 (nI (((0 + jl b) + 1) + 1)) (nI bn) f1 f4 f5 f6 f7 f8 f9 f10 f11 f12 f13 f15 f16 f17 f22 (upd (upd u131 (0 + jl b) (nI (48 + (c9 / 10)))) ((0 + jl b) + 1) (nI (48 + (c9 % 10)))) f25 f27) H := hP
            have hD : va_D A (mX T o a z0 z2 (nI nn) z14 z18 u124 u125 u126 (nI (((0 + jl b) + 1) + 1)) (nI bn) f1 f4 f5 f6 f7 f8 f9 f10 f11 f12 f13 f15 f16 f17 f22 (upd (upd u131 (0 + jl b) (nI (48 + (c9 / 10)))) ((0 + jl b) + 1) (nI (48 + (c9 % 10)))) f25 f27) := hD
            have hM : j_ls (upd (upd u131 (0 + jl b) (nI (48 + (c9 / 10)))) ((0 + jl b) + 1) (nI (48 + (c9 % 10)))) (0 + jl b + 1 + 1) = [] ++ jcs b ++ [nI (48 + (c9 / 10))] ++ [nI (48 + (c9 % 10))] := by rw [ls_put, hM]
            refine lv_aload_n hx hb d_M_tries_207 rfl (lv_at hl 1 rfl) ?_
            refine lv_bipush (v := 99) hx hb d_M_tries_208 (by decide) ?_
            refine g_callv (va_runV (As := [.int 99]) (rest := []) ⟨hx, hb, hml, hown, hw⟩ (k_M_put l D T o a z0 z2 (nI nn) z14 z18 u124 u125 u126 (((0 + jl b) + 1) + 1) (nI bn) f1 f4 f5 f6 f7 f8 f9 f10 f11 f12 f13 f15 f16 f17 f22 (upd (upd u131 (0 + jl b) (nI (48 + (c9 / 10)))) ((0 + jl b) + 1) (nI (48 + (c9 % 10)))) f25 f27 H.size 99 (by omega)) (cwV 1 hw (bg_V ml_M_183 wi_M_put wv_M_put wz_M wc_M_put) rfl rfl rfl (by decide +kernel) ⟨Nat.le_of_ble_eq_true rfl, Nat.le_of_ble_eq_true rfl⟩) ⟨qP_b, va_recv hK hP (ci := 6) (q0 := 0) rfl rfl, qP_p hP hK hD⟩ rfl rfl hl.1 rfl (lv_room (Nat.le_of_ble_eq_true rfl)) d_M_tries_210 ⟨Nat.le_of_ble_eq_true rfl, Nat.le_of_ble_eq_true rfl⟩) hD hS hA (fun u9 H locs hr152 hP hD hS => ?_)
            obtain ⟨u153, u154⟩ := u9
            dsimp only at hr152 hP hD
            obtain ⟨q0, q1⟩ := hr152
            replace q0 := q0.symm; subst q0; replace q1 := q1.symm; subst q1
            have hP : va_P D gC (mX T o a z0 z2 (nI nn) z14 z18 u124 u125 u126 (nI ((((0 + jl b) + 1) + 1) + 1)) (nI bn) f1 f4 f5 f6 f7 f8 f9 f10 f11 f12 f13 f15 f16 f17 f22 (upd (upd (upd u131 (0 + jl b) (nI (48 + (c9 / 10)))) ((0 + jl b) + 1) (nI (48 + (c9 % 10)))) (((0 + jl b) + 1) + 1) 99) f25 f27) H := hP
            have hD : va_D A (mX T o a z0 z2 (nI nn) z14 z18 u124 u125 u126 (nI ((((0 + jl b) + 1) + 1) + 1)) (nI bn) f1 f4 f5 f6 f7 f8 f9 f10 f11 f12 f13 f15 f16 f17 f22 (upd (upd (upd u131 (0 + jl b) (nI (48 + (c9 / 10)))) ((0 + jl b) + 1) (nI (48 + (c9 % 10)))) (((0 + jl b) + 1) + 1) 99) f25 f27) := hD
            have hM : j_ls (upd (upd (upd u131 (0 + jl b) (nI (48 + (c9 / 10)))) ((0 + jl b) + 1) (nI (48 + (c9 % 10)))) (((0 + jl b) + 1) + 1) 99) (0 + jl b + 1 + 1 + 1) = [] ++ jcs b ++ [nI (48 + (c9 / 10))] ++ [nI (48 + (c9 % 10))] ++ [99] := by rw [ls_put, hM]
            have hT : j_tx (some b) none f4 ln c9 = [] ++ jcs b ++ [nI (48 + (c9 / 10))] ++ [nI (48 + (c9 % 10))] ++ [99] := by simp only [j_tx, j_ot, if_pos hc9, j_ct]; rw [if_pos (by omega)]; simp
            rw [← hT] at hM
            refine lv_aload_n hx hb d_M_tries_213 rfl (lv_at hl 1 rfl) ?_
            refine vp_callSi (va_Run.run (va_runV (As := []) (rest := []) ⟨hx, hb, hml, hown, hw⟩ (k_M_isBetter l D T o a z0 z2 (nI nn) z14 z18 u124 u125 u126 ((((0 + jl b) + 1) + 1) + 1) bn f1 f4 f5 f6 f7 f8 f9 f10 f11 f12 f13 f15 f16 f17 f22 (upd (upd (upd u131 (0 + jl b) (nI (48 + (c9 / 10)))) ((0 + jl b) + 1) (nI (48 + (c9 % 10)))) (((0 + jl b) + 1) + 1) 99) f25 f27 (by omega) (by omega) (by omega)) (cwV 0 hw (bg_V ml_M_197 wi_M_isBetter wv_M_isBetter wz_M wc_M_isBetter) rfl rfl rfl (by decide +kernel) ⟨Nat.le_of_ble_eq_true rfl, Nat.le_of_ble_eq_true rfl⟩) ⟨sP_b, va_recv hK hP (ci := 6) (q0 := 0) rfl rfl, sP_p hP hK⟩ rfl rfl hl.1 rfl (lv_room (Nat.le_of_ble_eq_true rfl)) d_M_tries_214 ⟨Nat.le_of_ble_eq_true rfl, Nat.le_of_ble_eq_true rfl⟩)) (fun r155 hr155 => ?_)
            rcases hr155 with hbb | hbb
            · obtain ⟨hr9, hbet⟩ := hbb
              subst hr9
              refine lv_if_eq (tgt := 260) hx hb d_M_tries_217 (by decide) (fun c156 => absurd c156 (by decide)) (fun c156 => ?_)
              refine lv_aload_n hx hb d_M_tries_220 rfl (lv_at hl 1 rfl) ?_
              refine lv_aload_n hx hb d_M_tries_221 rfl (lv_at hl 1 rfl) ?_
              refine va_get (D := D) (ci := 6) (v := .int (nI ((((0 + jl b) + 1) + 1) + 1))) (C := "TimeWordsModel") (T := F_M) (N := 28) hx hb hw in_M hown hK hP 0 rfl rfl 24 (by decide) (hw _ fl_M_180) (fun _ h9 => h9) rfl d_M_tries_222 ?_
              refine va_put (D := D) (ci := 6) (v := .int (nI ((((0 + jl b) + 1) + 1) + 1))) (ty := .int) (C := "TimeWordsModel") (T := F_M) (N := 28) hx hb hw in_M ty_M ty_M_ok n_M hown hK hP hD hS 0 rfl rfl 26 (by decide) (hw _ fl_M_187) (fun _ h9 => h9) rfl (by decide +kernel) rfl rfl (Nat.le_of_ble_eq_true rfl) d_M_tries_225 (fun H locs hP hD hS => ?_)
              have hP : va_P D gC (mX T o a z0 z2 (nI nn) z14 z18 u124 u125 u126 (nI ((((0 + jl b) + 1) + 1) + 1)) (nI ((((0 + jl b) + 1) + 1) + 1)) f1 f4 f5 f6 f7 f8 f9 f10 f11 f12 f13 f15 f16 f17 f22 (upd (upd (upd u131 (0 + jl b) (nI (48 + (c9 / 10)))) ((0 + jl b) + 1) (nI (48 + (c9 % 10)))) (((0 + jl b) + 1) + 1) 99) f25 f27) H := hP
              have hD : va_D A (mX T o a z0 z2 (nI nn) z14 z18 u124 u125 u126 (nI ((((0 + jl b) + 1) + 1) + 1)) (nI ((((0 + jl b) + 1) + 1) + 1)) f1 f4 f5 f6 f7 f8 f9 f10 f11 f12 f13 f15 f16 f17 f22 (upd (upd (upd u131 (0 + jl b) (nI (48 + (c9 / 10)))) ((0 + jl b) + 1) (nI (48 + (c9 % 10)))) (((0 + jl b) + 1) + 1) 99) f25 f27) := hD
              refine lv_iconst (v := 0) hx hb d_M_tries_228 (by decide) ?_
              refine lv_istore (lv' := [(6, .int 0), (5, .int 1), (0, .ref o), (1, .int (nI j)), (2, .int (nI b)), (3, .int (-1)), (4, .int (nI c9))]) hx hb d_M_tries_229 hl (by decide) rfl (fun ls hl => ?_)
              have lopb : ∀ (nb : Nat) (kb : Nat) (g25 : Nat → Int32), (kb ≤ (((0 + jl b) + 1) + 1) + 1) → (cpI f25 (upd (upd (upd u131 (0 + jl b) (nI (48 + (c9 / 10)))) ((0 + jl b) + 1) (nI (48 + (c9 % 10)))) (((0 + jl b) + 1) + 1) 99) g25 0 kb) → ∀ (H : Heap) (locs : List Loc), va_P D gC (mX T o a z0 z2 (nI nn) z14 z18 u124 u125 u126 (nI ((((0 + jl b) + 1) + 1) + 1)) (nI ((((0 + jl b) + 1) + 1) + 1)) f1 f4 f5 f6 f7 f8 f9 f10 f11 f12 f13 f15 f16 f17 f22 (upd (upd (upd u131 (0 + jl b) (nI (48 + (c9 / 10)))) ((0 + jl b) + 1) (nI (48 + (c9 % 10)))) (((0 + jl b) + 1) + 1) 99) g25 f27) H → va_D A (mX T o a z0 z2 (nI nn) z14 z18 u124 u125 u126 (nI ((((0 + jl b) + 1) + 1) + 1)) (nI ((((0 + jl b) + 1) + 1) + 1)) f1 f4 f5 f6 f7 f8 f9 f10 f11 f12 f13 f15 f16 f17 f22 (upd (upd (upd u131 (0 + jl b) (nI (48 + (c9 / 10)))) ((0 + jl b) + 1) (nI (48 + (c9 % 10)))) (((0 + jl b) + 1) + 1) 99) g25 f27) → va_S A s.heap H locs → ∀ (ls : Array Slot), lv_has ls 7 [(0, .ref o), (6, .int (nI kb))] → (((0 + jl b) + 1) + 1) + 1 - kb < nb → W p l e (headSpec (Cond.code y_M_tries b_M_tries 7 none :: bg_W) ({ frames := 3, cells := 0, slots := 0, locals := 67 })).room s m ([.ref o, .int (nI j), .int (j_oi (some b)), .int (j_oi none), .int (nI c9)] : List Value).toArray below meth c H locs 0 0 (MQ below (va_Qv (fun u : Int32 × Int32 × Int32 × (Nat → Int32) × Int32 × (Nat → Int32) × Int32 => match u with | (w19, w20, w21, g23, w24, g25, w26) => ∃ m9, w26 = nI m9 ∧ m9 ≤ 24 ∧ j_ls g25 m9 = j_try (j_ss z18 (some b) (j_src z18 none (j_nv f6 f7 f8 f10 f11 f12 f13 ck 0 100000) c9) (f17 j) (f15 j) (f16 j)) (j_tx (some b) none f4 ln c9) bl) (qB D T A (fun u : Int32 × Int32 × Int32 × (Nat → Int32) × Int32 × (Nat → Int32) × Int32 => match u with | (w19, w20, w21, g23, w24, g25, w26) => mX T o a z0 z2 (nI nn) z14 z18 w19 w20 w21 w24 w26 f1 f4 f5 f6 f7 f8 f9 f10 f11 f12 f13 f15 f16 f17 f22 g23 g25 f27)) A) ([.ref o, .int (nI j), .int (j_oi (some b)), .int (j_oi none), .int (nI c9)] : List Value).toArray s 0 0 A) (F0 m 231 ls []) := by
                intro nb
                induction nb with
                | zero => intro kb g25 hkb hC2 H locs hP hD hS ls hl hm; exact absurd hm (Nat.not_lt_zero _)
                | succ nb ihb =>
                  intro kb g25 hkb hC2 H locs hP hD hS ls hl hm
                  refine lv_iload hx hb d_M_tries_231 (lv_at hl 1 rfl) ?_
                  refine lv_aload_n hx hb d_M_tries_233 rfl (lv_at hl 0 rfl) ?_
                  refine va_get (D := D) (ci := 6) (v := .int (nI ((((0 + jl b) + 1) + 1) + 1))) (C := "TimeWordsModel") (T := F_M) (N := 28) hx hb hw in_M hown hK hP 0 rfl rfl 24 (by decide) (hw _ fl_M_180) (fun _ h9 => h9) rfl d_M_tries_234 ?_
                  refine lv_icmp_ge (tgt := 260) hx hb d_M_tries_237 (by decide) (fun c157 => ?_) (fun c157 => ?_)
                  · have c157 := nc_le (a := (((0 + jl b) + 1) + 1) + 1) (b := kb) c157 (by omega) (by omega)
                    exact W.vret hx hb hr (fun t ht hW => ⟨⟨(u124, u125, u126, upd (upd (upd u131 (0 + jl b) (nI (48 + (c9 / 10)))) ((0 + jl b) + 1) (nI (48 + (c9 % 10)))) (((0 + jl b) + 1) + 1) 99, nI ((((0 + jl b) + 1) + 1) + 1), g25, nI ((((0 + jl b) + 1) + 1) + 1)), rfl, ⟨_, rfl, by omega, by rw [j_try, if_pos hss, up_yes hy12 hM hbet, ← hM]; have ekb : kb = (((0 + jl b) + 1) + 1) + 1 := (by omega); rw [← ekb]; exact ls_cp0 hC2⟩, by rw [ht]; exact hP, va_K.moved hW.alike hK, hD⟩, hS.F ht⟩) hS.2.2 d_M_tries_260
                  · have c157 := nc_nle (a := (((0 + jl b) + 1) + 1) + 1) (b := kb) c157 (by omega) (by omega)
                    refine lv_aload_n hx hb d_M_tries_240 rfl (lv_at hl 0 rfl) ?_
                    refine va_get (D := D) (ci := 6) (v := .ref (a 25)) (C := "TimeWordsModel") (T := F_M) (N := 28) hx hb hw in_M hown hK hP 0 rfl rfl 25 (by decide) (hw _ fl_M_63) (fun _ h9 => h9) rfl d_M_tries_241 ?_
                    refine lv_iload hx hb d_M_tries_244 (lv_at hl 1 rfl) ?_
                    refine lv_aload_n hx hb d_M_tries_246 rfl (lv_at hl 0 rfl) ?_
                    refine va_get (D := D) (ci := 6) (v := .ref (a 23)) (C := "TimeWordsModel") (T := F_M) (N := 28) hx hb hw in_M hown hK hP 0 rfl rfl 23 (by decide) (hw _ fl_M_60) (fun _ h9 => h9) rfl d_M_tries_247 ?_
                    refine lv_iload hx hb d_M_tries_250 (lv_at hl 1 rfl) ?_
                    refine va_iald hx hb hK hP 16 0 rfl rfl (by first | assumption | exact vp_in_nI (by omega) (by omega)) d_M_tries_252 ?_
                    rw [show (nI kb).toNatClampNeg = kb from nI_clamp (by omega)]
                    refine va_iast hx hb hK hP hD hS 17 0 rfl rfl (by first | assumption | exact vp_in_nI (by omega) (by omega)) d_M_tries_253 (fun H locs hP hD hS => ?_)
                    rw [show (nI kb).toNatClampNeg = kb from nI_clamp (by omega)] at hP hD
                    have hP : va_P D gC (mX T o a z0 z2 (nI nn) z14 z18 u124 u125 u126 (nI ((((0 + jl b) + 1) + 1) + 1)) (nI ((((0 + jl b) + 1) + 1) + 1)) f1 f4 f5 f6 f7 f8 f9 f10 f11 f12 f13 f15 f16 f17 f22 (upd (upd (upd u131 (0 + jl b) (nI (48 + (c9 / 10)))) ((0 + jl b) + 1) (nI (48 + (c9 % 10)))) (((0 + jl b) + 1) + 1) 99) (upd g25 kb ((upd (upd (upd u131 (0 + jl b) (nI (48 + (c9 / 10)))) ((0 + jl b) + 1) (nI (48 + (c9 % 10)))) (((0 + jl b) + 1) + 1) 99) kb)) f27) H := hP
                    have hD : va_D A (mX T o a z0 z2 (nI nn) z14 z18 u124 u125 u126 (nI ((((0 + jl b) + 1) + 1) + 1)) (nI ((((0 + jl b) + 1) + 1) + 1)) f1 f4 f5 f6 f7 f8 f9 f10 f11 f12 f13 f15 f16 f17 f22 (upd (upd (upd u131 (0 + jl b) (nI (48 + (c9 / 10)))) ((0 + jl b) + 1) (nI (48 + (c9 % 10)))) (((0 + jl b) + 1) + 1) 99) (upd g25 kb ((upd (upd (upd u131 (0 + jl b) (nI (48 + (c9 / 10)))) ((0 + jl b) + 1) (nI (48 + (c9 % 10)))) (((0 + jl b) + 1) + 1) 99) kb)) f27) := hD
                    refine lv_iinc (v := nI (kb + 1)) (lv' := [(6, .int (nI (kb + 1))), (0, .ref o)]) hx hb d_M_tries_254 hl (k := 1) rfl (nI_add kb 1) (by decide) rfl (fun ls hl => ?_)
                    refine lv_goto (tgt := 231) hx hb d_M_tries_257 (by decide) ?_
                    exact ihb (kb + 1) (upd g25 kb ((upd (upd (upd u131 (0 + jl b) (nI (48 + (c9 / 10)))) ((0 + jl b) + 1) (nI (48 + (c9 % 10)))) (((0 + jl b) + 1) + 1) 99) kb)) (by omega) (cpI_s0 hC2) _ _ hP hD hS ls (lv_sub hl [1, 0] rfl) (by omega)
              exact lopb (((((0 + jl b) + 1) + 1) + 1 - 0) + 1) 0 f25 (Nat.zero_le _) cpI_0 _ _ hP hD hS ls (lv_sub hl [2, 0] rfl) (Nat.lt_succ_self _)
            · obtain ⟨hr9, hbet⟩ := hbb
              subst hr9
              refine lv_if_eq (tgt := 260) hx hb d_M_tries_217 (by decide) (fun c158 => ?_) (fun c158 => absurd c158 (by decide))
              exact W.vret hx hb hr (fun t ht hW => ⟨⟨(u124, u125, u126, upd (upd (upd u131 (0 + jl b) (nI (48 + (c9 / 10)))) ((0 + jl b) + 1) (nI (48 + (c9 % 10)))) (((0 + jl b) + 1) + 1) 99, nI ((((0 + jl b) + 1) + 1) + 1), f25, nI bn), rfl, ⟨bn, rfl, hy11, by rw [j_try, if_pos hss, up_no hy12 hM hbet]; exact hy12⟩, by rw [ht]; exact hP, va_K.moved hW.alike hK, hD⟩, hS.F ht⟩) hS.2.2 d_M_tries_260
        · have c127 := b2i_f c127
          exact W.vret hx hb hr (fun t ht hW => ⟨⟨(u124, u125, u126, f23, z24, f25, nI bn), rfl, ⟨bn, rfl, hy11, by rw [j_try, if_neg (show ¬ j_ss z18 (some b) (j_src z18 none (j_nv f6 f7 f8 f10 f11 f12 f13 ck 0 100000) c9) (f17 j) (f15 j) (f16 j) = true from (by rw [show j_ss z18 (some b) (j_src z18 none (j_nv f6 f7 f8 f10 f11 f12 f13 ck 0 100000) c9) (f17 j) (f15 j) (f16 j) = false from (by rw [hsrc]; exact c127)]; exact Bool.false_ne_true))]; exact hy12⟩, by rw [ht]; exact hP, va_K.moved hW.alike hK, hD⟩, hS.F ht⟩) hS.2.2 d_M_tries_90
      · have c115 := nc_nle (a := c9) (b := 99) c115 (by omega) (by omega)
        refine lv_iconst (v := 1) hx hb d_M_tries_7 (by decide) ?_
        refine lv_goto (tgt := 12) hx hb d_M_tries_8 (by decide) ?_
        refine lv_istore (lv' := [(5, .int 1), (0, .ref o), (1, .int (nI j)), (2, .int (nI b)), (3, .int (-1)), (4, .int (nI c9))]) hx hb d_M_tries_12 hl (by decide) rfl (fun ls hl => ?_)
        refine lv_iload hx hb d_M_tries_14 (lv_at hl 5 rfl) ?_
        refine lv_bipush (v := 99) hx hb d_M_tries_16 (by decide) ?_
        refine lv_icmp_gt (tgt := 62) hx hb d_M_tries_18 (by decide) (fun c159 => ?_) (fun c159 => absurd (nI_lt (a := 99) (b := c9) (by omega) (by omega)) c159)
        have hc9 : ¬ c9 ≤ 99 := by omega
        refine lv_aload_n hx hb d_M_tries_62 rfl (lv_at hl 1 rfl) ?_
        refine lv_iload hx hb d_M_tries_63 (lv_at hl 5 rfl) ?_
        refine lv_bipush (v := 100) hx hb d_M_tries_65 (by decide) ?_
        refine lv_isub hx hb d_M_tries_67 ?_
        rw [show (nI c9) - 100 = nI (c9 - 100) from pk_sub (a := c9) (b := 100) (by omega)]
        refine lv_iconst (v := 0) hx hb d_M_tries_68 (by decide) ?_
        refine lv_ldc (v := 100000) hx hb hown (hw _ ci_M_105) d_M_tries_69 ?_
        refine g_calli (va_runV (As := [.int (nI (c9 - 100)), .int 0, .int 100000]) (rest := []) ⟨hx, hb, hml, hown, hw⟩ (k_M_named l D T o a z0 z2 (nI nn) z14 z18 z19 z20 z21 z24 (nI bn) f1 f4 f5 f6 f7 f8 f9 f10 f11 f12 f13 f15 f16 f17 f22 f23 f25 f27 s.heap.size (c9 - 100) 0 100000 ck (by omega) hy9 hy10) (cwV 3 hw (bg_V ml_M_145 wi_M_named wv_M_named wz_M wc_M_named) rfl rfl rfl (by decide +kernel) ⟨Nat.le_of_ble_eq_true rfl, Nat.le_of_ble_eq_true rfl⟩) ⟨qP_b, va_recv hK hP (ci := 6) (q0 := 0) rfl rfl, qP_p hP hK hD⟩ rfl rfl hl.1 rfl (lv_room (Nat.le_of_ble_eq_true rfl)) d_M_tries_71 ⟨Nat.le_of_ble_eq_true rfl, Nat.le_of_ble_eq_true rfl⟩) hD hS hA (fun r160 u9 H locs hr160 hP hD hS => ?_)
        obtain ⟨u161, u162, u163⟩ := u9
        dsimp only at hr160 hP hD
        have hP : va_P D gC (mX T o a z0 z2 (nI nn) z14 z18 u161 u162 u163 z24 (nI bn) f1 f4 f5 f6 f7 f8 f9 f10 f11 f12 f13 f15 f16 f17 f22 f23 f25 f27) H := hP
        have hD : va_D A (mX T o a z0 z2 (nI nn) z14 z18 u161 u162 u163 z24 (nI bn) f1 f4 f5 f6 f7 f8 f9 f10 f11 f12 f13 f15 f16 f17 f22 f23 f25 f27) := hD
        have hmk : (r160 = 1 ∧ j_src z18 none (j_nv f6 f7 f8 f10 f11 f12 f13 ck 0 100000) c9 = some (u161, u162, u163)) ∨ (r160 = 0 ∧ j_src z18 none (j_nv f6 f7 f8 f10 f11 f12 f13 ck 0 100000) c9 = none) := by
          rw [j_src, if_neg hc9]
          rcases hr160 with h1 | ⟨h1, h2, -⟩
          · exact Or.inl h1
          · exact Or.inr ⟨h1, h2⟩
        rcases hmk with hmk | hmk
        · obtain ⟨hr9, hsrc⟩ := hmk
          subst hr9
          refine lv_istore (lv' := [(5, .int 1), (0, .ref o), (1, .int (nI j)), (2, .int (nI b)), (3, .int (-1)), (4, .int (nI c9))]) hx hb d_M_tries_74 hl (by decide) rfl (fun ls hl => ?_)
          refine lv_iload hx hb d_M_tries_76 (lv_at hl 0 rfl) ?_
          refine lv_if_eq (tgt := 90) hx hb d_M_tries_78 (by decide) (fun c164 => absurd c164 (by decide)) (fun c164 => ?_)
          refine lv_aload_n hx hb d_M_tries_81 rfl (lv_at hl 1 rfl) ?_
          refine lv_iload_n hx hb d_M_tries_82 rfl (lv_at hl 2 rfl) ?_
          refine lv_iload_n hx hb d_M_tries_83 rfl (lv_at hl 3 rfl) ?_
          refine g_calli (va_runV (As := [.int (nI j), .int (nI b)]) (rest := []) ⟨hx, hb, hml, hown, hw⟩ (k_M_says l D T o a z0 z2 (nI nn) z14 z18 u161 u162 u163 z24 (nI bn) f1 f4 f5 f6 f7 f8 f9 f10 f11 f12 f13 f15 f16 f17 f22 f23 f25 f27 H.size j (some b) hy0 hy1) (cwV 2 hw (bg_V ml_M_190 wi_M_says wv_M_says wz_M wc_M_says) rfl rfl rfl (by decide +kernel) ⟨Nat.le_of_ble_eq_true rfl, Nat.le_of_ble_eq_true rfl⟩) ⟨qP_b, va_recv hK hP (ci := 6) (q0 := 0) rfl rfl, qP_p hP hK hD⟩ rfl rfl hl.1 rfl (lv_room (Nat.le_of_ble_eq_true rfl)) d_M_tries_84 ⟨Nat.le_of_ble_eq_true rfl, Nat.le_of_ble_eq_true rfl⟩) hD hS hA (fun r165 u9 H locs hr165 hP hD hS => ?_)
          obtain ⟨u166, u167, u168⟩ := u9
          dsimp only at hr165 hP hD
          have hP : va_P D gC (mX T o a z0 z2 (nI nn) z14 z18 u166 u167 u168 z24 (nI bn) f1 f4 f5 f6 f7 f8 f9 f10 f11 f12 f13 f15 f16 f17 f22 f23 f25 f27) H := hP
          have hD : va_D A (mX T o a z0 z2 (nI nn) z14 z18 u166 u167 u168 z24 (nI bn) f1 f4 f5 f6 f7 f8 f9 f10 f11 f12 f13 f15 f16 f17 f22 f23 f25 f27) := hD
          replace hr165 := hr165.symm; subst hr165
          refine lv_if_ne (tgt := 91) hx hb d_M_tries_87 (by decide) (fun c169 => ?_) (fun c169 => ?_)
          · have c169 := b2i_t c169
            have hss : j_ss z18 (some b) (j_src z18 none (j_nv f6 f7 f8 f10 f11 f12 f13 ck 0 100000) c9) (f17 j) (f15 j) (f16 j) = true := by rw [hsrc]; exact c169
            refine lv_aload_n hx hb d_M_tries_91 rfl (lv_at hl 1 rfl) ?_
            refine lv_iconst (v := 0) hx hb d_M_tries_92 (by decide) ?_
            refine va_put (D := D) (ci := 6) (v := .int 0) (ty := .int) (C := "TimeWordsModel") (T := F_M) (N := 28) hx hb hw in_M ty_M ty_M_ok n_M hown hK hP hD hS 0 rfl rfl 24 (by decide) (hw _ fl_M_180) (fun _ h9 => h9) rfl (by decide +kernel) rfl rfl (Nat.le_of_ble_eq_true rfl) d_M_tries_93 (fun H locs hP hD hS => ?_)
            have hP : va_P D gC (mX T o a z0 z2 (nI nn) z14 z18 u166 u167 u168 0 (nI bn) f1 f4 f5 f6 f7 f8 f9 f10 f11 f12 f13 f15 f16 f17 f22 f23 f25 f27) H := hP
            have hD : va_D A (mX T o a z0 z2 (nI nn) z14 z18 u166 u167 u168 0 (nI bn) f1 f4 f5 f6 f7 f8 f9 f10 f11 f12 f13 f15 f16 f17 f22 f23 f25 f27) := hD
            have hM : j_ls f23 0 = [] := rfl
            have hP : va_P D gC (mX T o a z0 z2 (nI nn) z14 z18 u166 u167 u168 (nI 0) (nI bn) f1 f4 f5 f6 f7 f8 f9 f10 f11 f12 f13 f15 f16 f17 f22 f23 f25 f27) H := hP
            have hD : va_D A (mX T o a z0 z2 (nI nn) z14 z18 u166 u167 u168 (nI 0) (nI bn) f1 f4 f5 f6 f7 f8 f9 f10 f11 f12 f13 f15 f16 f17 f22 f23 f25 f27) := hD
            refine lv_iload_n hx hb d_M_tries_96 rfl (lv_at hl 3 rfl) ?_
            refine lv_iconst (v := (-1)) hx hb d_M_tries_97 (by decide) ?_
            refine lv_icmp_eq (tgt := 109) hx hb d_M_tries_98 (by decide) (fun c170 => absurd c170 ((fun e9 : nI b = -1 => absurd (e9 ▸ nI_pos' (n := b) (by omega)) (by decide)))) (fun c170 => ?_)
            refine lv_aload_n hx hb d_M_tries_101 rfl (lv_at hl 1 rfl) ?_
            refine lv_iload_n hx hb d_M_tries_102 rfl (lv_at hl 3 rfl) ?_
            refine vp_callSl (va_Run.run (va_runS (As := [.int (nI b)]) (rest := [.ref o]) ⟨hx, hb, hml, hown, hw⟩ (k_M_beginning l b hb6) (va_cwS 1 hw (bg_S ml_M_124 wt_M_beginning wz_M wc_M_beginning) rfl rfl rfl (by decide +kernel) ⟨Nat.le_of_ble_eq_true rfl, Nat.le_of_ble_eq_true rfl⟩) ⟨nP_b, nP_p⟩ rfl rfl hl.1 rfl (lv_room (Nat.le_of_ble_eq_true rfl)) d_M_tries_103 ⟨Nat.le_of_ble_eq_true rfl, Nat.le_of_ble_eq_true rfl⟩)) (fun r171 hr171 => ?_)
            replace hr171 := hr171.symm; subst hr171
            refine g_callv (va_runV (As := [.long (jw b)]) (rest := []) ⟨hx, hb, hml, hown, hw⟩ (k_M_putWord l D T o a z0 z2 (nI nn) z14 z18 u166 u167 u168 0 (nI bn) f1 f4 f5 f6 f7 f8 f9 f10 f11 f12 f13 f15 f16 f17 f22 f23 f25 f27 H.size b hb6 (by omega)) (cwV 1 hw (bg_V ml_M_193 wi_M_putWord wv_M_putWord wz_M wc_M_putWord) rfl rfl rfl (by decide +kernel) ⟨Nat.le_of_ble_eq_true rfl, Nat.le_of_ble_eq_true rfl⟩) ⟨qP_b, va_recv hK hP (ci := 6) (q0 := 0) rfl rfl, qP_p hP hK hD⟩ rfl rfl hl.1 rfl (lv_room (Nat.le_of_ble_eq_true rfl)) d_M_tries_106 ⟨Nat.le_of_ble_eq_true rfl, Nat.le_of_ble_eq_true rfl⟩) hD hS hA (fun u9 H locs hr172 hP hD hS => ?_)
            obtain ⟨u173, u174⟩ := u9
            dsimp only at hr172 hP hD
            have hP : va_P D gC (mX T o a z0 z2 (nI nn) z14 z18 u166 u167 u168 u174 (nI bn) f1 f4 f5 f6 f7 f8 f9 f10 f11 f12 f13 f15 f16 f17 f22 u173 f25 f27) H := hP
            have hD : va_D A (mX T o a z0 z2 (nI nn) z14 z18 u166 u167 u168 u174 (nI bn) f1 f4 f5 f6 f7 f8 f9 f10 f11 f12 f13 f15 f16 f17 f22 u173 f25 f27) := hD
            obtain ⟨hw24, hC9⟩ := hr172
            subst hw24
            have hM : j_ls u173 (0 + jl b) = [] ++ jcs b := by rw [ls_cp hC9, hM, jcs_ls b (by omega)]
            refine lv_iload_n hx hb d_M_tries_109 rfl (lv_at hl 4 rfl) ?_
            refine lv_iconst (v := (-1)) hx hb d_M_tries_110 (by decide) ?_
            refine lv_icmp_eq (tgt := 122) hx hb d_M_tries_111 (by decide) (fun c175 => ?_) (fun c175 => absurd c175 (by decide))
            refine lv_iload hx hb d_M_tries_122 (lv_at hl 5 rfl) ?_
            refine lv_bipush (v := 99) hx hb d_M_tries_124 (by decide) ?_
            refine lv_icmp_le (tgt := 176) hx hb d_M_tries_126 (by decide) (fun c176 => absurd c176 (nI_ge (a := 99) (b := c9) (by omega) (by omega))) (fun c176 => ?_)
            refine lv_iconst (v := 0) hx hb d_M_tries_129 (by decide) ?_
            refine lv_istore (lv' := [(6, .int 0), (5, .int 1), (0, .ref o), (1, .int (nI j)), (2, .int (nI b)), (3, .int (-1)), (4, .int (nI c9))]) hx hb d_M_tries_130 hl (by decide) rfl (fun ls hl => ?_)
            have h8 := hy7 (c9 - 100)
            have h1n := hy8 (c9 - 100) (by omega)
            have lopl : ∀ (nl : Nat) (k : Nat) (g23 : Nat → Int32), (k ≤ ln (c9 - 100)) → (cpI u173 (fun k => f4 (8 * (c9 - 100) + k)) g23 (0 + jl b) k) → ∀ (H : Heap) (locs : List Loc), va_P D gC (mX T o a z0 z2 (nI nn) z14 z18 u166 u167 u168 (nI (0 + jl b + k)) (nI bn) f1 f4 f5 f6 f7 f8 f9 f10 f11 f12 f13 f15 f16 f17 f22 g23 f25 f27) H → va_D A (mX T o a z0 z2 (nI nn) z14 z18 u166 u167 u168 (nI (0 + jl b + k)) (nI bn) f1 f4 f5 f6 f7 f8 f9 f10 f11 f12 f13 f15 f16 f17 f22 g23 f25 f27) → va_S A s.heap H locs → ∀ (ls : Array Slot), lv_has ls 7 [(5, .int 1), (0, .ref o), (1, .int (nI j)), (2, .int (nI b)), (3, .int (-1)), (4, .int (nI c9)), (6, .int (nI k))] → ln (c9 - 100) - k < nl → W p l e (headSpec (Cond.code y_M_tries b_M_tries 7 none :: bg_W) ({ frames := 3, cells := 0, slots := 0, locals := 67 })).room s m ([.ref o, .int (nI j), .int (j_oi (some b)), .int (j_oi none), .int (nI c9)] : List Value).toArray below meth c H locs 0 0 (MQ below (va_Qv (fun u : Int32 × Int32 × Int32 × (Nat → Int32) × Int32 × (Nat → Int32) × Int32 => match u with | (w19, w20, w21, g23, w24, g25, w26) => ∃ m9, w26 = nI m9 ∧ m9 ≤ 24 ∧ j_ls g25 m9 = j_try (j_ss z18 (some b) (j_src z18 none (j_nv f6 f7 f8 f10 f11 f12 f13 ck 0 100000) c9) (f17 j) (f15 j) (f16 j)) (j_tx (some b) none f4 ln c9) bl) (qB D T A (fun u : Int32 × Int32 × Int32 × (Nat → Int32) × Int32 × (Nat → Int32) × Int32 => match u with | (w19, w20, w21, g23, w24, g25, w26) => mX T o a z0 z2 (nI nn) z14 z18 w19 w20 w21 w24 w26 f1 f4 f5 f6 f7 f8 f9 f10 f11 f12 f13 f15 f16 f17 f22 g23 g25 f27)) A) ([.ref o, .int (nI j), .int (j_oi (some b)), .int (j_oi none), .int (nI c9)] : List Value).toArray s 0 0 A) (F0 m 132 ls []) := by
              intro nl
              induction nl with
              | zero => intro k g23 hk hC H locs hP hD hS ls hl hm; exact absurd hm (Nat.not_lt_zero _)
              | succ nl ihl =>
                intro k g23 hk hC H locs hP hD hS ls hl hm
                refine lv_iload hx hb d_M_tries_132 (lv_at hl 6 rfl) ?_
                refine lv_aload_n hx hb d_M_tries_134 rfl (lv_at hl 1 rfl) ?_
                refine va_get (D := D) (ci := 6) (v := .ref (a 5)) (C := "TimeWordsModel") (T := F_M) (N := 28) hx hb hw in_M hown hK hP 0 rfl rfl 5 (by decide) (hw _ fl_M_16) (fun _ h9 => h9) rfl d_M_tries_135 ?_
                refine lv_iload hx hb d_M_tries_138 (lv_at hl 5 rfl) ?_
                refine lv_bipush (v := 100) hx hb d_M_tries_140 (by decide) ?_
                refine lv_isub hx hb d_M_tries_142 ?_
                rw [show (nI c9) - 100 = nI (c9 - 100) from pk_sub (a := c9) (b := 100) (by omega)]
                refine va_iald hx hb hK hP 3 0 rfl rfl (by first | assumption | exact vp_in_nI (by omega) (by omega)) d_M_tries_143 ?_
                rw [show (nI (c9 - 100)).toNatClampNeg = (c9 - 100) from nI_clamp (by omega)]
                rw [hy6 (c9 - 100)]
                refine lv_icmp_ge (tgt := 173) hx hb d_M_tries_144 (by decide) (fun c177 => ?_) (fun c177 => ?_)
                · have c177 := nc_le (a := ln (c9 - 100)) (b := k) c177 (by omega) (by omega)
                  have ek : k = ln (c9 - 100) := by omega
                  subst ek
                  have hM : j_ls g23 (0 + jl b + ln (c9 - 100)) = [] ++ jcs b ++ j_ls (fun k => f4 (8 * (c9 - 100) + k)) (ln (c9 - 100)) := by rw [ls_cp hC, hM]
                  have hT : j_tx (some b) none f4 ln c9 = [] ++ jcs b ++ j_ls (fun k => f4 (8 * (c9 - 100) + k)) (ln (c9 - 100)) := by simp only [j_tx, j_ot, if_neg hc9]; simp
                  refine lv_goto (tgt := 213) hx hb d_M_tries_173 (by decide) ?_
                  rw [← hT] at hM
                  refine lv_aload_n hx hb d_M_tries_213 rfl (lv_at hl 1 rfl) ?_
                  refine vp_callSi (va_Run.run (va_runV (As := []) (rest := []) ⟨hx, hb, hml, hown, hw⟩ (k_M_isBetter l D T o a z0 z2 (nI nn) z14 z18 u166 u167 u168 (0 + jl b + (ln (c9 - 100))) bn f1 f4 f5 f6 f7 f8 f9 f10 f11 f12 f13 f15 f16 f17 f22 g23 f25 f27 (by omega) (by omega) (by omega)) (cwV 0 hw (bg_V ml_M_197 wi_M_isBetter wv_M_isBetter wz_M wc_M_isBetter) rfl rfl rfl (by decide +kernel) ⟨Nat.le_of_ble_eq_true rfl, Nat.le_of_ble_eq_true rfl⟩) ⟨sP_b, va_recv hK hP (ci := 6) (q0 := 0) rfl rfl, sP_p hP hK⟩ rfl rfl hl.1 rfl (lv_room (Nat.le_of_ble_eq_true rfl)) d_M_tries_214 ⟨Nat.le_of_ble_eq_true rfl, Nat.le_of_ble_eq_true rfl⟩)) (fun r178 hr178 => ?_)
                  rcases hr178 with hbb | hbb
                  · obtain ⟨hr9, hbet⟩ := hbb
                    subst hr9
                    refine lv_if_eq (tgt := 260) hx hb d_M_tries_217 (by decide) (fun c179 => absurd c179 (by decide)) (fun c179 => ?_)
                    refine lv_aload_n hx hb d_M_tries_220 rfl (lv_at hl 1 rfl) ?_
                    refine lv_aload_n hx hb d_M_tries_221 rfl (lv_at hl 1 rfl) ?_
                    refine va_get (D := D) (ci := 6) (v := .int (nI (0 + jl b + (ln (c9 - 100))))) (C := "TimeWordsModel") (T := F_M) (N := 28) hx hb hw in_M hown hK hP 0 rfl rfl 24 (by decide) (hw _ fl_M_180) (fun _ h9 => h9) rfl d_M_tries_222 ?_
                    refine va_put (D := D) (ci := 6) (v := .int (nI (0 + jl b + (ln (c9 - 100))))) (ty := .int) (C := "TimeWordsModel") (T := F_M) (N := 28) hx hb hw in_M ty_M ty_M_ok n_M hown hK hP hD hS 0 rfl rfl 26 (by decide) (hw _ fl_M_187) (fun _ h9 => h9) rfl (by decide +kernel) rfl rfl (Nat.le_of_ble_eq_true rfl) d_M_tries_225 (fun H locs hP hD hS => ?_)
                    have hP : va_P D gC (mX T o a z0 z2 (nI nn) z14 z18 u166 u167 u168 (nI (0 + jl b + (ln (c9 - 100)))) (nI (0 + jl b + (ln (c9 - 100)))) f1 f4 f5 f6 f7 f8 f9 f10 f11 f12 f13 f15 f16 f17 f22 g23 f25 f27) H := hP
                    have hD : va_D A (mX T o a z0 z2 (nI nn) z14 z18 u166 u167 u168 (nI (0 + jl b + (ln (c9 - 100)))) (nI (0 + jl b + (ln (c9 - 100)))) f1 f4 f5 f6 f7 f8 f9 f10 f11 f12 f13 f15 f16 f17 f22 g23 f25 f27) := hD
                    refine lv_iconst (v := 0) hx hb d_M_tries_228 (by decide) ?_
                    refine lv_istore (lv' := [(6, .int 0), (5, .int 1), (0, .ref o), (1, .int (nI j)), (2, .int (nI b)), (3, .int (-1)), (4, .int (nI c9))]) hx hb d_M_tries_229 hl (by decide) rfl (fun ls hl => ?_)
                    have lopb : ∀ (nb : Nat) (kb : Nat) (g25 : Nat → Int32), (kb ≤ 0 + jl b + (ln (c9 - 100))) → (cpI f25 g23 g25 0 kb) → ∀ (H : Heap) (locs : List Loc), va_P D gC (mX T o a z0 z2 (nI nn) z14 z18 u166 u167 u168 (nI (0 + jl b + (ln (c9 - 100)))) (nI (0 + jl b + (ln (c9 - 100)))) f1 f4 f5 f6 f7 f8 f9 f10 f11 f12 f13 f15 f16 f17 f22 g23 g25 f27) H → va_D A (mX T o a z0 z2 (nI nn) z14 z18 u166 u167 u168 (nI (0 + jl b + (ln (c9 - 100)))) (nI (0 + jl b + (ln (c9 - 100)))) f1 f4 f5 f6 f7 f8 f9 f10 f11 f12 f13 f15 f16 f17 f22 g23 g25 f27) → va_S A s.heap H locs → ∀ (ls : Array Slot), lv_has ls 7 [(0, .ref o), (6, .int (nI kb))] → 0 + jl b + (ln (c9 - 100)) - kb < nb → W p l e (headSpec (Cond.code y_M_tries b_M_tries 7 none :: bg_W) ({ frames := 3, cells := 0, slots := 0, locals := 67 })).room s m ([.ref o, .int (nI j), .int (j_oi (some b)), .int (j_oi none), .int (nI c9)] : List Value).toArray below meth c H locs 0 0 (MQ below (va_Qv (fun u : Int32 × Int32 × Int32 × (Nat → Int32) × Int32 × (Nat → Int32) × Int32 => match u with | (w19, w20, w21, g23, w24, g25, w26) => ∃ m9, w26 = nI m9 ∧ m9 ≤ 24 ∧ j_ls g25 m9 = j_try (j_ss z18 (some b) (j_src z18 none (j_nv f6 f7 f8 f10 f11 f12 f13 ck 0 100000) c9) (f17 j) (f15 j) (f16 j)) (j_tx (some b) none f4 ln c9) bl) (qB D T A (fun u : Int32 × Int32 × Int32 × (Nat → Int32) × Int32 × (Nat → Int32) × Int32 => match u with | (w19, w20, w21, g23, w24, g25, w26) => mX T o a z0 z2 (nI nn) z14 z18 w19 w20 w21 w24 w26 f1 f4 f5 f6 f7 f8 f9 f10 f11 f12 f13 f15 f16 f17 f22 g23 g25 f27)) A) ([.ref o, .int (nI j), .int (j_oi (some b)), .int (j_oi none), .int (nI c9)] : List Value).toArray s 0 0 A) (F0 m 231 ls []) := by
                      intro nb
                      induction nb with
                      | zero => intro kb g25 hkb hC2 H locs hP hD hS ls hl hm; exact absurd hm (Nat.not_lt_zero _)
                      | succ nb ihb =>
                        intro kb g25 hkb hC2 H locs hP hD hS ls hl hm
                        refine lv_iload hx hb d_M_tries_231 (lv_at hl 1 rfl) ?_
                        refine lv_aload_n hx hb d_M_tries_233 rfl (lv_at hl 0 rfl) ?_
                        refine va_get (D := D) (ci := 6) (v := .int (nI (0 + jl b + (ln (c9 - 100))))) (C := "TimeWordsModel") (T := F_M) (N := 28) hx hb hw in_M hown hK hP 0 rfl rfl 24 (by decide) (hw _ fl_M_180) (fun _ h9 => h9) rfl d_M_tries_234 ?_
                        refine lv_icmp_ge (tgt := 260) hx hb d_M_tries_237 (by decide) (fun c180 => ?_) (fun c180 => ?_)
                        · have c180 := nc_le (a := 0 + jl b + (ln (c9 - 100))) (b := kb) c180 (by omega) (by omega)
                          exact W.vret hx hb hr (fun t ht hW => ⟨⟨(u166, u167, u168, g23, nI (0 + jl b + (ln (c9 - 100))), g25, nI (0 + jl b + (ln (c9 - 100)))), rfl, ⟨_, rfl, by omega, by rw [j_try, if_pos hss, up_yes hy12 hM hbet, ← hM]; have ekb : kb = 0 + jl b + (ln (c9 - 100)) := (by omega); rw [← ekb]; exact ls_cp0 hC2⟩, by rw [ht]; exact hP, va_K.moved hW.alike hK, hD⟩, hS.F ht⟩) hS.2.2 d_M_tries_260
                        · have c180 := nc_nle (a := 0 + jl b + (ln (c9 - 100))) (b := kb) c180 (by omega) (by omega)
                          refine lv_aload_n hx hb d_M_tries_240 rfl (lv_at hl 0 rfl) ?_
                          refine va_get (D := D) (ci := 6) (v := .ref (a 25)) (C := "TimeWordsModel") (T := F_M) (N := 28) hx hb hw in_M hown hK hP 0 rfl rfl 25 (by decide) (hw _ fl_M_63) (fun _ h9 => h9) rfl d_M_tries_241 ?_
                          refine lv_iload hx hb d_M_tries_244 (lv_at hl 1 rfl) ?_
                          refine lv_aload_n hx hb d_M_tries_246 rfl (lv_at hl 0 rfl) ?_
                          refine va_get (D := D) (ci := 6) (v := .ref (a 23)) (C := "TimeWordsModel") (T := F_M) (N := 28) hx hb hw in_M hown hK hP 0 rfl rfl 23 (by decide) (hw _ fl_M_60) (fun _ h9 => h9) rfl d_M_tries_247 ?_
                          refine lv_iload hx hb d_M_tries_250 (lv_at hl 1 rfl) ?_
                          refine va_iald hx hb hK hP 16 0 rfl rfl (by first | assumption | exact vp_in_nI (by omega) (by omega)) d_M_tries_252 ?_
                          rw [show (nI kb).toNatClampNeg = kb from nI_clamp (by omega)]
                          refine va_iast hx hb hK hP hD hS 17 0 rfl rfl (by first | assumption | exact vp_in_nI (by omega) (by omega)) d_M_tries_253 (fun H locs hP hD hS => ?_)
                          rw [show (nI kb).toNatClampNeg = kb from nI_clamp (by omega)] at hP hD
                          have hP : va_P D gC (mX T o a z0 z2 (nI nn) z14 z18 u166 u167 u168 (nI (0 + jl b + (ln (c9 - 100)))) (nI (0 + jl b + (ln (c9 - 100)))) f1 f4 f5 f6 f7 f8 f9 f10 f11 f12 f13 f15 f16 f17 f22 g23 (upd g25 kb (g23 kb)) f27) H := hP
                          have hD : va_D A (mX T o a z0 z2 (nI nn) z14 z18 u166 u167 u168 (nI (0 + jl b + (ln (c9 - 100)))) (nI (0 + jl b + (ln (c9 - 100)))) f1 f4 f5 f6 f7 f8 f9 f10 f11 f12 f13 f15 f16 f17 f22 g23 (upd g25 kb (g23 kb)) f27) := hD
                          refine lv_iinc (v := nI (kb + 1)) (lv' := [(6, .int (nI (kb + 1))), (0, .ref o)]) hx hb d_M_tries_254 hl (k := 1) rfl (nI_add kb 1) (by decide) rfl (fun ls hl => ?_)
                          refine lv_goto (tgt := 231) hx hb d_M_tries_257 (by decide) ?_
                          exact ihb (kb + 1) (upd g25 kb (g23 kb)) (by omega) (cpI_s0 hC2) _ _ hP hD hS ls (lv_sub hl [1, 0] rfl) (by omega)
                    exact lopb ((0 + jl b + (ln (c9 - 100)) - 0) + 1) 0 f25 (Nat.zero_le _) cpI_0 _ _ hP hD hS ls (lv_sub hl [2, 0] rfl) (Nat.lt_succ_self _)
                  · obtain ⟨hr9, hbet⟩ := hbb
                    subst hr9
                    refine lv_if_eq (tgt := 260) hx hb d_M_tries_217 (by decide) (fun c181 => ?_) (fun c181 => absurd c181 (by decide))
                    exact W.vret hx hb hr (fun t ht hW => ⟨⟨(u166, u167, u168, g23, nI (0 + jl b + (ln (c9 - 100))), f25, nI bn), rfl, ⟨bn, rfl, hy11, by rw [j_try, if_pos hss, up_no hy12 hM hbet]; exact hy12⟩, by rw [ht]; exact hP, va_K.moved hW.alike hK, hD⟩, hS.F ht⟩) hS.2.2 d_M_tries_260
                · have c177 := nc_nle (a := ln (c9 - 100)) (b := k) c177 (by omega) (by omega)
                  refine lv_aload_n hx hb d_M_tries_147 rfl (lv_at hl 1 rfl) ?_
                  refine lv_aload_n hx hb d_M_tries_148 rfl (lv_at hl 1 rfl) ?_
                  refine va_get (D := D) (ci := 6) (v := .ref (a 4)) (C := "TimeWordsModel") (T := F_M) (N := 28) hx hb hw in_M hown hK hP 0 rfl rfl 4 (by decide) (hw _ fl_M_13) (fun _ h9 => h9) rfl d_M_tries_149 ?_
                  refine lv_bipush (v := 8) hx hb d_M_tries_152 (by decide) ?_
                  refine lv_iload hx hb d_M_tries_154 (lv_at hl 5 rfl) ?_
                  refine lv_bipush (v := 100) hx hb d_M_tries_156 (by decide) ?_
                  refine lv_isub hx hb d_M_tries_158 ?_
                  rw [show (nI c9) - 100 = nI (c9 - 100) from pk_sub (a := c9) (b := 100) (by omega)]
                  refine lv_imul hx hb d_M_tries_159 ?_
                  rw [show 8 * (nI (c9 - 100)) = nI (8 * (c9 - 100)) from pk_mul 8 (c9 - 100)]
                  refine lv_iload hx hb d_M_tries_160 (lv_at hl 6 rfl) ?_
                  refine lv_iadd hx hb d_M_tries_162 ?_
                  rw [show (nI (8 * (c9 - 100))) + (nI k) = nI (8 * (c9 - 100) + k) from nI_add (8 * (c9 - 100)) k]
                  refine va_iald hx hb hK hP 2 0 rfl rfl (by first | assumption | exact vp_in_nI (by omega) (by omega)) d_M_tries_163 ?_
                  rw [show (nI (8 * (c9 - 100) + k)).toNatClampNeg = (8 * (c9 - 100) + k) from nI_clamp (by omega)]
                  refine g_callv (va_runV (As := [.int (f4 (8 * (c9 - 100) + k))]) (rest := []) ⟨hx, hb, hml, hown, hw⟩ (k_M_put l D T o a z0 z2 (nI nn) z14 z18 u166 u167 u168 (0 + jl b + k) (nI bn) f1 f4 f5 f6 f7 f8 f9 f10 f11 f12 f13 f15 f16 f17 f22 g23 f25 f27 H.size (f4 (8 * (c9 - 100) + k)) (by omega)) (cwV 1 hw (bg_V ml_M_183 wi_M_put wv_M_put wz_M wc_M_put) rfl rfl rfl (by decide +kernel) ⟨Nat.le_of_ble_eq_true rfl, Nat.le_of_ble_eq_true rfl⟩) ⟨qP_b, va_recv hK hP (ci := 6) (q0 := 0) rfl rfl, qP_p hP hK hD⟩ rfl rfl hl.1 rfl (lv_room (Nat.le_of_ble_eq_true rfl)) d_M_tries_164 ⟨Nat.le_of_ble_eq_true rfl, Nat.le_of_ble_eq_true rfl⟩) hD hS hA (fun u9 H locs hr182 hP hD hS => ?_)
                  obtain ⟨u183, u184⟩ := u9
                  dsimp only at hr182 hP hD
                  obtain ⟨q0, q1⟩ := hr182
                  replace q0 := q0.symm; subst q0; replace q1 := q1.symm; subst q1
                  have hP : va_P D gC (mX T o a z0 z2 (nI nn) z14 z18 u166 u167 u168 (nI ((0 + jl b + k) + 1)) (nI bn) f1 f4 f5 f6 f7 f8 f9 f10 f11 f12 f13 f15 f16 f17 f22 (upd g23 (0 + jl b + k) (f4 (8 * (c9 - 100) + k))) f25 f27) H := hP
                  have hD : va_D A (mX T o a z0 z2 (nI nn) z14 z18 u166 u167 u168 (nI ((0 + jl b + k) + 1)) (nI bn) f1 f4 f5 f6 f7 f8 f9 f10 f11 f12 f13 f15 f16 f17 f22 (upd g23 (0 + jl b + k) (f4 (8 * (c9 - 100) + k))) f25 f27) := hD
                  refine lv_iinc (v := nI (k + 1)) (lv' := [(6, .int (nI (k + 1))), (5, .int 1), (0, .ref o), (1, .int (nI j)), (2, .int (nI b)), (3, .int (-1)), (4, .int (nI c9))]) hx hb d_M_tries_167 hl (k := 6) rfl (nI_add k 1) (by decide) rfl (fun ls hl => ?_)
                  refine lv_goto (tgt := 132) hx hb d_M_tries_170 (by decide) ?_
                  exact ihl (k + 1) (upd g23 (0 + jl b + k) (f4 (8 * (c9 - 100) + k))) (by omega) (cpI_s (f1 := fun k => f4 (8 * (c9 - 100) + k)) hC) _ _ hP hD hS ls (lv_sub hl [1, 2, 3, 4, 5, 6, 0] rfl) (by omega)
            exact lopl ((ln (c9 - 100) - 0) + 1) 0 u173 (Nat.zero_le _) cpI_0 _ _ hP hD hS ls (lv_sub hl [1, 2, 3, 4, 5, 6, 0] rfl) (Nat.lt_succ_self _)
          · have c169 := b2i_f c169
            exact W.vret hx hb hr (fun t ht hW => ⟨⟨(u166, u167, u168, f23, z24, f25, nI bn), rfl, ⟨bn, rfl, hy11, by rw [j_try, if_neg (show ¬ j_ss z18 (some b) (j_src z18 none (j_nv f6 f7 f8 f10 f11 f12 f13 ck 0 100000) c9) (f17 j) (f15 j) (f16 j) = true from (by rw [show j_ss z18 (some b) (j_src z18 none (j_nv f6 f7 f8 f10 f11 f12 f13 ck 0 100000) c9) (f17 j) (f15 j) (f16 j) = false from (by rw [hsrc]; exact c169)]; exact Bool.false_ne_true))]; exact hy12⟩, by rw [ht]; exact hP, va_K.moved hW.alike hK, hD⟩, hS.F ht⟩) hS.2.2 d_M_tries_90
        · obtain ⟨hr9, hsrc⟩ := hmk
          subst hr9
          refine lv_istore (lv' := [(5, .int 0), (0, .ref o), (1, .int (nI j)), (2, .int (nI b)), (3, .int (-1)), (4, .int (nI c9))]) hx hb d_M_tries_74 hl (by decide) rfl (fun ls hl => ?_)
          refine lv_iload hx hb d_M_tries_76 (lv_at hl 0 rfl) ?_
          refine lv_if_eq (tgt := 90) hx hb d_M_tries_78 (by decide) (fun c185 => ?_) (fun c185 => absurd c185 (by decide))
          exact W.vret hx hb hr (fun t ht hW => ⟨⟨(u161, u162, u163, f23, z24, f25, nI bn), rfl, ⟨bn, rfl, hy11, by rw [j_try, if_neg (show ¬ j_ss z18 (some b) (j_src z18 none (j_nv f6 f7 f8 f10 f11 f12 f13 ck 0 100000) c9) (f17 j) (f15 j) (f16 j) = true from (by rw [show j_ss z18 (some b) (j_src z18 none (j_nv f6 f7 f8 f10 f11 f12 f13 ck 0 100000) c9) (f17 j) (f15 j) (f16 j) = false from (by rw [hsrc]; rfl)]; exact Bool.false_ne_true))]; exact hy12⟩, by rw [ht]; exact hP, va_K.moved hW.alike hK, hD⟩, hS.F ht⟩) hS.2.2 d_M_tries_90
    · have hl : lv_has ls 7 [(0, .ref o), (1, .int (nI j)), (2, .int (nI b)), (3, .int (nI tq)), (4, .int (nI c9))] := hl
      obtain ⟨ht6, hc99⟩ := hy2 tq rfl
      have ht7 := jl_le tq
      refine lv_iload hx hb d_M_tries_0 (lv_at hl 4 rfl) ?_
      refine lv_bipush (v := 99) hx hb d_M_tries_2 (by decide) ?_
      refine lv_icmp_le (tgt := 11) hx hb d_M_tries_4 (by decide) (fun c186 => ?_) (fun c186 => absurd (nI_le (a := c9) (b := 99) (by omega) (by decide)) c186)
      refine lv_iconst (v := 0) hx hb d_M_tries_11 (by decide) ?_
      refine lv_istore (lv' := [(5, .int 0), (0, .ref o), (1, .int (nI j)), (2, .int (nI b)), (3, .int (nI tq)), (4, .int (nI c9))]) hx hb d_M_tries_12 hl (by decide) rfl (fun ls hl => ?_)
      refine lv_iload hx hb d_M_tries_14 (lv_at hl 5 rfl) ?_
      refine lv_bipush (v := 99) hx hb d_M_tries_16 (by decide) ?_
      refine lv_icmp_gt (tgt := 62) hx hb d_M_tries_18 (by decide) (fun c187 => absurd c187 (nI_nlt (a := 99) (b := c9) (by omega) (by decide))) (fun c187 => ?_)
      have hc9 : c9 ≤ 99 := by omega
      refine lv_aload_n hx hb d_M_tries_21 rfl (lv_at hl 1 rfl) ?_
      refine lv_bipush (v := 100) hx hb d_M_tries_22 (by decide) ?_
      refine lv_iload hx hb d_M_tries_24 (lv_at hl 5 rfl) ?_
      refine lv_iconst (v := 1) hx hb d_M_tries_26 (by decide) ?_
      refine lv_isub hx hb d_M_tries_27 ?_
      refine lv_imul hx hb d_M_tries_28 ?_
      refine lv_iconst (v := 1) hx hb d_M_tries_29 (by decide) ?_
      refine lv_iadd hx hb d_M_tries_30 ?_
      refine lv_bipush (v := 100) hx hb d_M_tries_31 (by decide) ?_
      refine lv_iload hx hb d_M_tries_33 (lv_at hl 5 rfl) ?_
      refine lv_imul hx hb d_M_tries_35 ?_
      refine g_callv (va_runV (As := [.int ((100 * ((nI c9) - 1)) + 1), .int (100 * (nI c9))]) (rest := []) ⟨hx, hb, hml, hown, hw⟩ (k_M_set l D T o a z0 z2 (nI nn) z14 z18 z19 z20 z21 z24 (nI bn) f1 f4 f5 f6 f7 f8 f9 f10 f11 f12 f13 f15 f16 f17 f22 f23 f25 f27 s.heap.size ((100 * ((nI c9) - 1)) + 1) (100 * (nI c9))) (cwV 2 hw (bg_V ml_M_141 wi_M_set wv_M_set wz_M wc_M_set) rfl rfl rfl (by decide +kernel) ⟨Nat.le_of_ble_eq_true rfl, Nat.le_of_ble_eq_true rfl⟩) ⟨qP_b, va_recv hK hP (ci := 6) (q0 := 0) rfl rfl, qP_p hP hK hD⟩ rfl rfl hl.1 rfl (lv_room (Nat.le_of_ble_eq_true rfl)) d_M_tries_36 ⟨Nat.le_of_ble_eq_true rfl, Nat.le_of_ble_eq_true rfl⟩) hD hS hA (fun u9 H locs hr188 hP hD hS => ?_)
      obtain ⟨u189, u190, u191⟩ := u9
      dsimp only at hr188 hP hD
      obtain ⟨q0, q1, q2⟩ := hr188
      replace q0 := q0.symm; subst q0; replace q1 := q1.symm; subst q1; replace q2 := q2.symm; subst q2
      have hP : va_P D gC (mX T o a z0 z2 (nI nn) z14 z18 ((100 * ((nI c9) - 1)) + 1) (100 * (nI c9)) 0 z24 (nI bn) f1 f4 f5 f6 f7 f8 f9 f10 f11 f12 f13 f15 f16 f17 f22 f23 f25 f27) H := hP
      have hD : va_D A (mX T o a z0 z2 (nI nn) z14 z18 ((100 * ((nI c9) - 1)) + 1) (100 * (nI c9)) 0 z24 (nI bn) f1 f4 f5 f6 f7 f8 f9 f10 f11 f12 f13 f15 f16 f17 f22 f23 f25 f27) := hD
      refine lv_iload_n hx hb d_M_tries_39 rfl (lv_at hl 4 rfl) ?_
      refine lv_iconst (v := (-1)) hx hb d_M_tries_40 (by decide) ?_
      refine lv_icmp_eq (tgt := 52) hx hb d_M_tries_41 (by decide) (fun c192 => absurd c192 ((fun e9 : nI tq = -1 => absurd (e9 ▸ nI_pos' (n := tq) (by omega)) (by decide)))) (fun c192 => ?_)
      refine lv_aload_n hx hb d_M_tries_44 rfl (lv_at hl 1 rfl) ?_
      refine lv_iload_n hx hb d_M_tries_45 rfl (lv_at hl 4 rfl) ?_
      refine g_calli (va_runV (As := [.int (nI tq)]) (rest := []) ⟨hx, hb, hml, hown, hw⟩ (k_M_makes l D T o a z0 z2 (nI nn) z14 z18 ((100 * ((nI c9) - 1)) + 1) (100 * (nI c9)) 0 z24 (nI bn) f1 f4 f5 f6 f7 f8 f9 f10 f11 f12 f13 f15 f16 f17 f22 f23 f25 f27 H.size (nI tq)) (cwV 1 hw (bg_V ml_M_154 wi_M_makes wv_M_makes wz_M wc_M_makes) rfl rfl rfl (by decide +kernel) ⟨Nat.le_of_ble_eq_true rfl, Nat.le_of_ble_eq_true rfl⟩) ⟨qP_b, va_recv hK hP (ci := 6) (q0 := 0) rfl rfl, qP_p hP hK hD⟩ rfl rfl hl.1 rfl (lv_room (Nat.le_of_ble_eq_true rfl)) d_M_tries_46 ⟨Nat.le_of_ble_eq_true rfl, Nat.le_of_ble_eq_true rfl⟩) hD hS hA (fun r193 u9 H locs hr193 hP hD hS => ?_)
      obtain ⟨u194, u195, u196⟩ := u9
      dsimp only at hr193 hP hD
      have hP : va_P D gC (mX T o a z0 z2 (nI nn) z14 z18 u194 u195 u196 z24 (nI bn) f1 f4 f5 f6 f7 f8 f9 f10 f11 f12 f13 f15 f16 f17 f22 f23 f25 f27) H := hP
      have hD : va_D A (mX T o a z0 z2 (nI nn) z14 z18 u194 u195 u196 z24 (nI bn) f1 f4 f5 f6 f7 f8 f9 f10 f11 f12 f13 f15 f16 f17 f22 f23 f25 f27) := hD
      have hmk : (r193 = 1 ∧ j_src z18 (some tq) (j_nv f6 f7 f8 f10 f11 f12 f13 ck 0 100000) c9 = some (u194, u195, u196)) ∨ (r193 = 0 ∧ j_src z18 (some tq) (j_nv f6 f7 f8 f10 f11 f12 f13 ck 0 100000) c9 = none) := by
        rw [j_src, if_pos hc9]
        rcases hr193 with ⟨h1, -⟩ | ⟨h1, h2, h3, h4, h5⟩
        · exact absurd rfl h1
        · show (_ ∧ j_ap z18 tq (j_qc c9) = _) ∨ (_ ∧ j_ap z18 tq (j_qc c9) = none)
          rw [j_ap, if_pos (show (j_qc c9).2.2 = 0 from rfl)]
          cases hq : j_mR (nI tq) z18 (100 * (nI c9 - 1) + 1) (100 * nI c9) with
          | true => rw [hq] at h2; exact Or.inl ⟨h2, by rw [if_pos (show j_mR (nI tq) z18 (j_qc c9).1 (j_qc c9).2.1 = true from hq), h3, h4, h5]; rfl⟩
          | false => rw [hq] at h2; exact Or.inr ⟨h2, by rw [if_neg (show ¬ j_mR (nI tq) z18 (j_qc c9).1 (j_qc c9).2.1 = true from (by rw [show j_mR (nI tq) z18 (j_qc c9).1 (j_qc c9).2.1 = false from hq]; exact Bool.false_ne_true))]⟩
      rcases hmk with hmk | hmk
      · obtain ⟨hr9, hsrc⟩ := hmk
        subst hr9
        refine lv_if_eq (tgt := 56) hx hb d_M_tries_49 (by decide) (fun c197 => absurd c197 (by decide)) (fun c197 => ?_)
        refine lv_iconst (v := 1) hx hb d_M_tries_52 (by decide) ?_
        refine lv_goto (tgt := 57) hx hb d_M_tries_53 (by decide) ?_
        refine lv_istore (lv' := [(5, .int 1), (0, .ref o), (1, .int (nI j)), (2, .int (nI b)), (3, .int (nI tq)), (4, .int (nI c9))]) hx hb d_M_tries_57 hl (by decide) rfl (fun ls hl => ?_)
        refine lv_goto (tgt := 76) hx hb d_M_tries_59 (by decide) ?_
        refine lv_iload hx hb d_M_tries_76 (lv_at hl 0 rfl) ?_
        refine lv_if_eq (tgt := 90) hx hb d_M_tries_78 (by decide) (fun c198 => absurd c198 (by decide)) (fun c198 => ?_)
        refine lv_aload_n hx hb d_M_tries_81 rfl (lv_at hl 1 rfl) ?_
        refine lv_iload_n hx hb d_M_tries_82 rfl (lv_at hl 2 rfl) ?_
        refine lv_iload_n hx hb d_M_tries_83 rfl (lv_at hl 3 rfl) ?_
        refine g_calli (va_runV (As := [.int (nI j), .int (nI b)]) (rest := []) ⟨hx, hb, hml, hown, hw⟩ (k_M_says l D T o a z0 z2 (nI nn) z14 z18 u194 u195 u196 z24 (nI bn) f1 f4 f5 f6 f7 f8 f9 f10 f11 f12 f13 f15 f16 f17 f22 f23 f25 f27 H.size j (some b) hy0 hy1) (cwV 2 hw (bg_V ml_M_190 wi_M_says wv_M_says wz_M wc_M_says) rfl rfl rfl (by decide +kernel) ⟨Nat.le_of_ble_eq_true rfl, Nat.le_of_ble_eq_true rfl⟩) ⟨qP_b, va_recv hK hP (ci := 6) (q0 := 0) rfl rfl, qP_p hP hK hD⟩ rfl rfl hl.1 rfl (lv_room (Nat.le_of_ble_eq_true rfl)) d_M_tries_84 ⟨Nat.le_of_ble_eq_true rfl, Nat.le_of_ble_eq_true rfl⟩) hD hS hA (fun r199 u9 H locs hr199 hP hD hS => ?_)
        obtain ⟨u200, u201, u202⟩ := u9
        dsimp only at hr199 hP hD
        have hP : va_P D gC (mX T o a z0 z2 (nI nn) z14 z18 u200 u201 u202 z24 (nI bn) f1 f4 f5 f6 f7 f8 f9 f10 f11 f12 f13 f15 f16 f17 f22 f23 f25 f27) H := hP
        have hD : va_D A (mX T o a z0 z2 (nI nn) z14 z18 u200 u201 u202 z24 (nI bn) f1 f4 f5 f6 f7 f8 f9 f10 f11 f12 f13 f15 f16 f17 f22 f23 f25 f27) := hD
        replace hr199 := hr199.symm; subst hr199
        refine lv_if_ne (tgt := 91) hx hb d_M_tries_87 (by decide) (fun c203 => ?_) (fun c203 => ?_)
        · have c203 := b2i_t c203
          have hss : j_ss z18 (some b) (j_src z18 (some tq) (j_nv f6 f7 f8 f10 f11 f12 f13 ck 0 100000) c9) (f17 j) (f15 j) (f16 j) = true := by rw [hsrc]; exact c203
          refine lv_aload_n hx hb d_M_tries_91 rfl (lv_at hl 1 rfl) ?_
          refine lv_iconst (v := 0) hx hb d_M_tries_92 (by decide) ?_
          refine va_put (D := D) (ci := 6) (v := .int 0) (ty := .int) (C := "TimeWordsModel") (T := F_M) (N := 28) hx hb hw in_M ty_M ty_M_ok n_M hown hK hP hD hS 0 rfl rfl 24 (by decide) (hw _ fl_M_180) (fun _ h9 => h9) rfl (by decide +kernel) rfl rfl (Nat.le_of_ble_eq_true rfl) d_M_tries_93 (fun H locs hP hD hS => ?_)
          have hP : va_P D gC (mX T o a z0 z2 (nI nn) z14 z18 u200 u201 u202 0 (nI bn) f1 f4 f5 f6 f7 f8 f9 f10 f11 f12 f13 f15 f16 f17 f22 f23 f25 f27) H := hP
          have hD : va_D A (mX T o a z0 z2 (nI nn) z14 z18 u200 u201 u202 0 (nI bn) f1 f4 f5 f6 f7 f8 f9 f10 f11 f12 f13 f15 f16 f17 f22 f23 f25 f27) := hD
          have hM : j_ls f23 0 = [] := rfl
          have hP : va_P D gC (mX T o a z0 z2 (nI nn) z14 z18 u200 u201 u202 (nI 0) (nI bn) f1 f4 f5 f6 f7 f8 f9 f10 f11 f12 f13 f15 f16 f17 f22 f23 f25 f27) H := hP
          have hD : va_D A (mX T o a z0 z2 (nI nn) z14 z18 u200 u201 u202 (nI 0) (nI bn) f1 f4 f5 f6 f7 f8 f9 f10 f11 f12 f13 f15 f16 f17 f22 f23 f25 f27) := hD
          refine lv_iload_n hx hb d_M_tries_96 rfl (lv_at hl 3 rfl) ?_
          refine lv_iconst (v := (-1)) hx hb d_M_tries_97 (by decide) ?_
          refine lv_icmp_eq (tgt := 109) hx hb d_M_tries_98 (by decide) (fun c204 => absurd c204 ((fun e9 : nI b = -1 => absurd (e9 ▸ nI_pos' (n := b) (by omega)) (by decide)))) (fun c204 => ?_)
          refine lv_aload_n hx hb d_M_tries_101 rfl (lv_at hl 1 rfl) ?_
          refine lv_iload_n hx hb d_M_tries_102 rfl (lv_at hl 3 rfl) ?_
          refine vp_callSl (va_Run.run (va_runS (As := [.int (nI b)]) (rest := [.ref o]) ⟨hx, hb, hml, hown, hw⟩ (k_M_beginning l b hb6) (va_cwS 1 hw (bg_S ml_M_124 wt_M_beginning wz_M wc_M_beginning) rfl rfl rfl (by decide +kernel) ⟨Nat.le_of_ble_eq_true rfl, Nat.le_of_ble_eq_true rfl⟩) ⟨nP_b, nP_p⟩ rfl rfl hl.1 rfl (lv_room (Nat.le_of_ble_eq_true rfl)) d_M_tries_103 ⟨Nat.le_of_ble_eq_true rfl, Nat.le_of_ble_eq_true rfl⟩)) (fun r205 hr205 => ?_)
          replace hr205 := hr205.symm; subst hr205
          refine g_callv (va_runV (As := [.long (jw b)]) (rest := []) ⟨hx, hb, hml, hown, hw⟩ (k_M_putWord l D T o a z0 z2 (nI nn) z14 z18 u200 u201 u202 0 (nI bn) f1 f4 f5 f6 f7 f8 f9 f10 f11 f12 f13 f15 f16 f17 f22 f23 f25 f27 H.size b hb6 (by omega)) (cwV 1 hw (bg_V ml_M_193 wi_M_putWord wv_M_putWord wz_M wc_M_putWord) rfl rfl rfl (by decide +kernel) ⟨Nat.le_of_ble_eq_true rfl, Nat.le_of_ble_eq_true rfl⟩) ⟨qP_b, va_recv hK hP (ci := 6) (q0 := 0) rfl rfl, qP_p hP hK hD⟩ rfl rfl hl.1 rfl (lv_room (Nat.le_of_ble_eq_true rfl)) d_M_tries_106 ⟨Nat.le_of_ble_eq_true rfl, Nat.le_of_ble_eq_true rfl⟩) hD hS hA (fun u9 H locs hr206 hP hD hS => ?_)
          obtain ⟨u207, u208⟩ := u9
          dsimp only at hr206 hP hD
          have hP : va_P D gC (mX T o a z0 z2 (nI nn) z14 z18 u200 u201 u202 u208 (nI bn) f1 f4 f5 f6 f7 f8 f9 f10 f11 f12 f13 f15 f16 f17 f22 u207 f25 f27) H := hP
          have hD : va_D A (mX T o a z0 z2 (nI nn) z14 z18 u200 u201 u202 u208 (nI bn) f1 f4 f5 f6 f7 f8 f9 f10 f11 f12 f13 f15 f16 f17 f22 u207 f25 f27) := hD
          obtain ⟨hw24, hC9⟩ := hr206
          subst hw24
          have hM : j_ls u207 (0 + jl b) = [] ++ jcs b := by rw [ls_cp hC9, hM, jcs_ls b (by omega)]
          refine lv_iload_n hx hb d_M_tries_109 rfl (lv_at hl 4 rfl) ?_
          refine lv_iconst (v := (-1)) hx hb d_M_tries_110 (by decide) ?_
          refine lv_icmp_eq (tgt := 122) hx hb d_M_tries_111 (by decide) (fun c209 => absurd c209 ((fun e9 : nI tq = -1 => absurd (e9 ▸ nI_pos' (n := tq) (by omega)) (by decide)))) (fun c209 => ?_)
          refine lv_aload_n hx hb d_M_tries_114 rfl (lv_at hl 1 rfl) ?_
          refine lv_iload_n hx hb d_M_tries_115 rfl (lv_at hl 4 rfl) ?_
          refine vp_callSl (va_Run.run (va_runS (As := [.int (nI tq)]) (rest := [.ref o]) ⟨hx, hb, hml, hown, hw⟩ (k_M_beginning l tq ht6) (va_cwS 1 hw (bg_S ml_M_124 wt_M_beginning wz_M wc_M_beginning) rfl rfl rfl (by decide +kernel) ⟨Nat.le_of_ble_eq_true rfl, Nat.le_of_ble_eq_true rfl⟩) ⟨nP_b, nP_p⟩ rfl rfl hl.1 rfl (lv_room (Nat.le_of_ble_eq_true rfl)) d_M_tries_116 ⟨Nat.le_of_ble_eq_true rfl, Nat.le_of_ble_eq_true rfl⟩)) (fun r210 hr210 => ?_)
          replace hr210 := hr210.symm; subst hr210
          refine g_callv (va_runV (As := [.long (jw tq)]) (rest := []) ⟨hx, hb, hml, hown, hw⟩ (k_M_putWord l D T o a z0 z2 (nI nn) z14 z18 u200 u201 u202 (0 + jl b) (nI bn) f1 f4 f5 f6 f7 f8 f9 f10 f11 f12 f13 f15 f16 f17 f22 u207 f25 f27 H.size tq ht6 (by omega)) (cwV 1 hw (bg_V ml_M_193 wi_M_putWord wv_M_putWord wz_M wc_M_putWord) rfl rfl rfl (by decide +kernel) ⟨Nat.le_of_ble_eq_true rfl, Nat.le_of_ble_eq_true rfl⟩) ⟨qP_b, va_recv hK hP (ci := 6) (q0 := 0) rfl rfl, qP_p hP hK hD⟩ rfl rfl hl.1 rfl (lv_room (Nat.le_of_ble_eq_true rfl)) d_M_tries_119 ⟨Nat.le_of_ble_eq_true rfl, Nat.le_of_ble_eq_true rfl⟩) hD hS hA (fun u9 H locs hr211 hP hD hS => ?_)
          obtain ⟨u212, u213⟩ := u9
          dsimp only at hr211 hP hD
          have hP : va_P D gC (mX T o a z0 z2 (nI nn) z14 z18 u200 u201 u202 u213 (nI bn) f1 f4 f5 f6 f7 f8 f9 f10 f11 f12 f13 f15 f16 f17 f22 u212 f25 f27) H := hP
          have hD : va_D A (mX T o a z0 z2 (nI nn) z14 z18 u200 u201 u202 u213 (nI bn) f1 f4 f5 f6 f7 f8 f9 f10 f11 f12 f13 f15 f16 f17 f22 u212 f25 f27) := hD
          obtain ⟨hw24, hC9⟩ := hr211
          subst hw24
          have hM : j_ls u212 (0 + jl b + jl tq) = [] ++ jcs b ++ jcs tq := by rw [ls_cp hC9, hM, jcs_ls tq (by omega)]
          refine lv_iload hx hb d_M_tries_122 (lv_at hl 5 rfl) ?_
          refine lv_bipush (v := 99) hx hb d_M_tries_124 (by decide) ?_
          refine lv_icmp_le (tgt := 176) hx hb d_M_tries_126 (by decide) (fun c214 => ?_) (fun c214 => absurd (nI_le (a := c9) (b := 99) (by omega) (by decide)) c214)
          refine lv_iload hx hb d_M_tries_176 (lv_at hl 5 rfl) ?_
          refine lv_bipush (v := 9) hx hb d_M_tries_178 (by decide) ?_
          refine lv_icmp_le (tgt := 195) hx hb d_M_tries_180 (by decide) (fun c215 => ?_) (fun c215 => ?_)
          · have c215 := nc_le (a := c9) (b := 9) c215 (by omega) (by omega)
            refine lv_aload_n hx hb d_M_tries_195 rfl (lv_at hl 1 rfl) ?_
            refine lv_bipush (v := 48) hx hb d_M_tries_196 (by decide) ?_
            refine lv_iload hx hb d_M_tries_198 (lv_at hl 5 rfl) ?_
            refine lv_bipush (v := 10) hx hb d_M_tries_200 (by decide) ?_
            refine lv_irem hx hb d_M_tries_202 (by decide) ?_
            rw [show nI c9 - nI c9 / 10 * 10 = nI (c9 % 10) from pk_rem (d := 10) (by omega) (by decide) (by decide)]
            refine lv_iadd hx hb d_M_tries_203 ?_
            rw [show 48 + (nI (c9 % 10)) = nI (48 + (c9 % 10)) from nI_add 48 (c9 % 10)]
            refine g_callv (va_runV (As := [.int (nI (48 + (c9 % 10)))]) (rest := []) ⟨hx, hb, hml, hown, hw⟩ (k_M_put l D T o a z0 z2 (nI nn) z14 z18 u200 u201 u202 (0 + jl b + jl tq) (nI bn) f1 f4 f5 f6 f7 f8 f9 f10 f11 f12 f13 f15 f16 f17 f22 u212 f25 f27 H.size (nI (48 + (c9 % 10))) (by omega)) (cwV 1 hw (bg_V ml_M_183 wi_M_put wv_M_put wz_M wc_M_put) rfl rfl rfl (by decide +kernel) ⟨Nat.le_of_ble_eq_true rfl, Nat.le_of_ble_eq_true rfl⟩) ⟨qP_b, va_recv hK hP (ci := 6) (q0 := 0) rfl rfl, qP_p hP hK hD⟩ rfl rfl hl.1 rfl (lv_room (Nat.le_of_ble_eq_true rfl)) d_M_tries_204 ⟨Nat.le_of_ble_eq_true rfl, Nat.le_of_ble_eq_true rfl⟩) hD hS hA (fun u9 H locs hr216 hP hD hS => ?_)
            obtain ⟨u217, u218⟩ := u9
            dsimp only at hr216 hP hD
            obtain ⟨q0, q1⟩ := hr216
            replace q0 := q0.symm; subst q0; replace q1 := q1.symm; subst q1
            have hP : va_P D gC (mX T o a z0 z2 (nI nn) z14 z18 u200 u201 u202 (nI ((0 + jl b + jl tq) + 1)) (nI bn) f1 f4 f5 f6 f7 f8 f9 f10 f11 f12 f13 f15 f16 f17 f22 (upd u212 (0 + jl b + jl tq) (nI (48 + (c9 % 10)))) f25 f27) H := hP
            have hD : va_D A (mX T o a z0 z2 (nI nn) z14 z18 u200 u201 u202 (nI ((0 + jl b + jl tq) + 1)) (nI bn) f1 f4 f5 f6 f7 f8 f9 f10 f11 f12 f13 f15 f16 f17 f22 (upd u212 (0 + jl b + jl tq) (nI (48 + (c9 % 10)))) f25 f27) := hD
            have hM : j_ls (upd u212 (0 + jl b + jl tq) (nI (48 + (c9 % 10)))) (0 + jl b + jl tq + 1) = [] ++ jcs b ++ jcs tq ++ [nI (48 + (c9 % 10))] := by rw [ls_put, hM]
            refine lv_aload_n hx hb d_M_tries_207 rfl (lv_at hl 1 rfl) ?_
            refine lv_bipush (v := 99) hx hb d_M_tries_208 (by decide) ?_
            refine g_callv (va_runV (As := [.int 99]) (rest := []) ⟨hx, hb, hml, hown, hw⟩ (k_M_put l D T o a z0 z2 (nI nn) z14 z18 u200 u201 u202 ((0 + jl b + jl tq) + 1) (nI bn) f1 f4 f5 f6 f7 f8 f9 f10 f11 f12 f13 f15 f16 f17 f22 (upd u212 (0 + jl b + jl tq) (nI (48 + (c9 % 10)))) f25 f27 H.size 99 (by omega)) (cwV 1 hw (bg_V ml_M_183 wi_M_put wv_M_put wz_M wc_M_put) rfl rfl rfl (by decide +kernel) ⟨Nat.le_of_ble_eq_true rfl, Nat.le_of_ble_eq_true rfl⟩) ⟨qP_b, va_recv hK hP (ci := 6) (q0 := 0) rfl rfl, qP_p hP hK hD⟩ rfl rfl hl.1 rfl (lv_room (Nat.le_of_ble_eq_true rfl)) d_M_tries_210 ⟨Nat.le_of_ble_eq_true rfl, Nat.le_of_ble_eq_true rfl⟩) hD hS hA (fun u9 H locs hr219 hP hD hS => ?_)
            obtain ⟨u220, u221⟩ := u9
            dsimp only at hr219 hP hD
            obtain ⟨q0, q1⟩ := hr219
            replace q0 := q0.symm; subst q0; replace q1 := q1.symm; subst q1
            have hP : va_P D gC (mX T o a z0 z2 (nI nn) z14 z18 u200 u201 u202 (nI (((0 + jl b + jl tq) + 1) + 1)) (nI bn) f1 f4 f5 f6 f7 f8 f9 f10 f11 f12 f13 f15 f16 f17 f22 (upd (upd u212 (0 + jl b + jl tq) (nI (48 + (c9 % 10)))) ((0 + jl b + jl tq) + 1) 99) f25 f27) H := hP
            have hD : va_D A (mX T o a z0 z2 (nI nn) z14 z18 u200 u201 u202 (nI (((0 + jl b + jl tq) + 1) + 1)) (nI bn) f1 f4 f5 f6 f7 f8 f9 f10 f11 f12 f13 f15 f16 f17 f22 (upd (upd u212 (0 + jl b + jl tq) (nI (48 + (c9 % 10)))) ((0 + jl b + jl tq) + 1) 99) f25 f27) := hD
            have hM : j_ls (upd (upd u212 (0 + jl b + jl tq) (nI (48 + (c9 % 10)))) ((0 + jl b + jl tq) + 1) 99) (0 + jl b + jl tq + 1 + 1) = [] ++ jcs b ++ jcs tq ++ [nI (48 + (c9 % 10))] ++ [99] := by rw [ls_put, hM]
            have hT : j_tx (some b) (some tq) f4 ln c9 = [] ++ jcs b ++ jcs tq ++ [nI (48 + (c9 % 10))] ++ [99] := by simp only [j_tx, j_ot, if_pos hc9, j_ct]; rw [if_neg (by omega)]; simp
            rw [← hT] at hM
            refine lv_aload_n hx hb d_M_tries_213 rfl (lv_at hl 1 rfl) ?_
            refine vp_callSi (va_Run.run (va_runV (As := []) (rest := []) ⟨hx, hb, hml, hown, hw⟩ (k_M_isBetter l D T o a z0 z2 (nI nn) z14 z18 u200 u201 u202 (((0 + jl b + jl tq) + 1) + 1) bn f1 f4 f5 f6 f7 f8 f9 f10 f11 f12 f13 f15 f16 f17 f22 (upd (upd u212 (0 + jl b + jl tq) (nI (48 + (c9 % 10)))) ((0 + jl b + jl tq) + 1) 99) f25 f27 (by omega) (by omega) (by omega)) (cwV 0 hw (bg_V ml_M_197 wi_M_isBetter wv_M_isBetter wz_M wc_M_isBetter) rfl rfl rfl (by decide +kernel) ⟨Nat.le_of_ble_eq_true rfl, Nat.le_of_ble_eq_true rfl⟩) ⟨sP_b, va_recv hK hP (ci := 6) (q0 := 0) rfl rfl, sP_p hP hK⟩ rfl rfl hl.1 rfl (lv_room (Nat.le_of_ble_eq_true rfl)) d_M_tries_214 ⟨Nat.le_of_ble_eq_true rfl, Nat.le_of_ble_eq_true rfl⟩)) (fun r222 hr222 => ?_)
            rcases hr222 with hbb | hbb
            · obtain ⟨hr9, hbet⟩ := hbb
              subst hr9
              refine lv_if_eq (tgt := 260) hx hb d_M_tries_217 (by decide) (fun c223 => absurd c223 (by decide)) (fun c223 => ?_)
              refine lv_aload_n hx hb d_M_tries_220 rfl (lv_at hl 1 rfl) ?_
              refine lv_aload_n hx hb d_M_tries_221 rfl (lv_at hl 1 rfl) ?_
              refine va_get (D := D) (ci := 6) (v := .int (nI (((0 + jl b + jl tq) + 1) + 1))) (C := "TimeWordsModel") (T := F_M) (N := 28) hx hb hw in_M hown hK hP 0 rfl rfl 24 (by decide) (hw _ fl_M_180) (fun _ h9 => h9) rfl d_M_tries_222 ?_
              refine va_put (D := D) (ci := 6) (v := .int (nI (((0 + jl b + jl tq) + 1) + 1))) (ty := .int) (C := "TimeWordsModel") (T := F_M) (N := 28) hx hb hw in_M ty_M ty_M_ok n_M hown hK hP hD hS 0 rfl rfl 26 (by decide) (hw _ fl_M_187) (fun _ h9 => h9) rfl (by decide +kernel) rfl rfl (Nat.le_of_ble_eq_true rfl) d_M_tries_225 (fun H locs hP hD hS => ?_)
              have hP : va_P D gC (mX T o a z0 z2 (nI nn) z14 z18 u200 u201 u202 (nI (((0 + jl b + jl tq) + 1) + 1)) (nI (((0 + jl b + jl tq) + 1) + 1)) f1 f4 f5 f6 f7 f8 f9 f10 f11 f12 f13 f15 f16 f17 f22 (upd (upd u212 (0 + jl b + jl tq) (nI (48 + (c9 % 10)))) ((0 + jl b + jl tq) + 1) 99) f25 f27) H := hP
              have hD : va_D A (mX T o a z0 z2 (nI nn) z14 z18 u200 u201 u202 (nI (((0 + jl b + jl tq) + 1) + 1)) (nI (((0 + jl b + jl tq) + 1) + 1)) f1 f4 f5 f6 f7 f8 f9 f10 f11 f12 f13 f15 f16 f17 f22 (upd (upd u212 (0 + jl b + jl tq) (nI (48 + (c9 % 10)))) ((0 + jl b + jl tq) + 1) 99) f25 f27) := hD
              refine lv_iconst (v := 0) hx hb d_M_tries_228 (by decide) ?_
              refine lv_istore (lv' := [(6, .int 0), (5, .int 1), (0, .ref o), (1, .int (nI j)), (2, .int (nI b)), (3, .int (nI tq)), (4, .int (nI c9))]) hx hb d_M_tries_229 hl (by decide) rfl (fun ls hl => ?_)
              have lopb : ∀ (nb : Nat) (kb : Nat) (g25 : Nat → Int32), (kb ≤ ((0 + jl b + jl tq) + 1) + 1) → (cpI f25 (upd (upd u212 (0 + jl b + jl tq) (nI (48 + (c9 % 10)))) ((0 + jl b + jl tq) + 1) 99) g25 0 kb) → ∀ (H : Heap) (locs : List Loc), va_P D gC (mX T o a z0 z2 (nI nn) z14 z18 u200 u201 u202 (nI (((0 + jl b + jl tq) + 1) + 1)) (nI (((0 + jl b + jl tq) + 1) + 1)) f1 f4 f5 f6 f7 f8 f9 f10 f11 f12 f13 f15 f16 f17 f22 (upd (upd u212 (0 + jl b + jl tq) (nI (48 + (c9 % 10)))) ((0 + jl b + jl tq) + 1) 99) g25 f27) H → va_D A (mX T o a z0 z2 (nI nn) z14 z18 u200 u201 u202 (nI (((0 + jl b + jl tq) + 1) + 1)) (nI (((0 + jl b + jl tq) + 1) + 1)) f1 f4 f5 f6 f7 f8 f9 f10 f11 f12 f13 f15 f16 f17 f22 (upd (upd u212 (0 + jl b + jl tq) (nI (48 + (c9 % 10)))) ((0 + jl b + jl tq) + 1) 99) g25 f27) → va_S A s.heap H locs → ∀ (ls : Array Slot), lv_has ls 7 [(0, .ref o), (6, .int (nI kb))] → ((0 + jl b + jl tq) + 1) + 1 - kb < nb → W p l e (headSpec (Cond.code y_M_tries b_M_tries 7 none :: bg_W) ({ frames := 3, cells := 0, slots := 0, locals := 67 })).room s m ([.ref o, .int (nI j), .int (j_oi (some b)), .int (j_oi (some tq)), .int (nI c9)] : List Value).toArray below meth c H locs 0 0 (MQ below (va_Qv (fun u : Int32 × Int32 × Int32 × (Nat → Int32) × Int32 × (Nat → Int32) × Int32 => match u with | (w19, w20, w21, g23, w24, g25, w26) => ∃ m9, w26 = nI m9 ∧ m9 ≤ 24 ∧ j_ls g25 m9 = j_try (j_ss z18 (some b) (j_src z18 (some tq) (j_nv f6 f7 f8 f10 f11 f12 f13 ck 0 100000) c9) (f17 j) (f15 j) (f16 j)) (j_tx (some b) (some tq) f4 ln c9) bl) (qB D T A (fun u : Int32 × Int32 × Int32 × (Nat → Int32) × Int32 × (Nat → Int32) × Int32 => match u with | (w19, w20, w21, g23, w24, g25, w26) => mX T o a z0 z2 (nI nn) z14 z18 w19 w20 w21 w24 w26 f1 f4 f5 f6 f7 f8 f9 f10 f11 f12 f13 f15 f16 f17 f22 g23 g25 f27)) A) ([.ref o, .int (nI j), .int (j_oi (some b)), .int (j_oi (some tq)), .int (nI c9)] : List Value).toArray s 0 0 A) (F0 m 231 ls []) := by
                intro nb
                induction nb with
                | zero => intro kb g25 hkb hC2 H locs hP hD hS ls hl hm; exact absurd hm (Nat.not_lt_zero _)
                | succ nb ihb =>
                  intro kb g25 hkb hC2 H locs hP hD hS ls hl hm
                  refine lv_iload hx hb d_M_tries_231 (lv_at hl 1 rfl) ?_
                  refine lv_aload_n hx hb d_M_tries_233 rfl (lv_at hl 0 rfl) ?_
                  refine va_get (D := D) (ci := 6) (v := .int (nI (((0 + jl b + jl tq) + 1) + 1))) (C := "TimeWordsModel") (T := F_M) (N := 28) hx hb hw in_M hown hK hP 0 rfl rfl 24 (by decide) (hw _ fl_M_180) (fun _ h9 => h9) rfl d_M_tries_234 ?_
                  refine lv_icmp_ge (tgt := 260) hx hb d_M_tries_237 (by decide) (fun c224 => ?_) (fun c224 => ?_)
                  · have c224 := nc_le (a := ((0 + jl b + jl tq) + 1) + 1) (b := kb) c224 (by omega) (by omega)
                    exact W.vret hx hb hr (fun t ht hW => ⟨⟨(u200, u201, u202, upd (upd u212 (0 + jl b + jl tq) (nI (48 + (c9 % 10)))) ((0 + jl b + jl tq) + 1) 99, nI (((0 + jl b + jl tq) + 1) + 1), g25, nI (((0 + jl b + jl tq) + 1) + 1)), rfl, ⟨_, rfl, by omega, by rw [j_try, if_pos hss, up_yes hy12 hM hbet, ← hM]; have ekb : kb = ((0 + jl b + jl tq) + 1) + 1 := (by omega); rw [← ekb]; exact ls_cp0 hC2⟩, by rw [ht]; exact hP, va_K.moved hW.alike hK, hD⟩, hS.F ht⟩) hS.2.2 d_M_tries_260
                  · have c224 := nc_nle (a := ((0 + jl b + jl tq) + 1) + 1) (b := kb) c224 (by omega) (by omega)
                    refine lv_aload_n hx hb d_M_tries_240 rfl (lv_at hl 0 rfl) ?_
                    refine va_get (D := D) (ci := 6) (v := .ref (a 25)) (C := "TimeWordsModel") (T := F_M) (N := 28) hx hb hw in_M hown hK hP 0 rfl rfl 25 (by decide) (hw _ fl_M_63) (fun _ h9 => h9) rfl d_M_tries_241 ?_
                    refine lv_iload hx hb d_M_tries_244 (lv_at hl 1 rfl) ?_
                    refine lv_aload_n hx hb d_M_tries_246 rfl (lv_at hl 0 rfl) ?_
                    refine va_get (D := D) (ci := 6) (v := .ref (a 23)) (C := "TimeWordsModel") (T := F_M) (N := 28) hx hb hw in_M hown hK hP 0 rfl rfl 23 (by decide) (hw _ fl_M_60) (fun _ h9 => h9) rfl d_M_tries_247 ?_
                    refine lv_iload hx hb d_M_tries_250 (lv_at hl 1 rfl) ?_
                    refine va_iald hx hb hK hP 16 0 rfl rfl (by first | assumption | exact vp_in_nI (by omega) (by omega)) d_M_tries_252 ?_
                    rw [show (nI kb).toNatClampNeg = kb from nI_clamp (by omega)]
                    refine va_iast hx hb hK hP hD hS 17 0 rfl rfl (by first | assumption | exact vp_in_nI (by omega) (by omega)) d_M_tries_253 (fun H locs hP hD hS => ?_)
                    rw [show (nI kb).toNatClampNeg = kb from nI_clamp (by omega)] at hP hD
                    have hP : va_P D gC (mX T o a z0 z2 (nI nn) z14 z18 u200 u201 u202 (nI (((0 + jl b + jl tq) + 1) + 1)) (nI (((0 + jl b + jl tq) + 1) + 1)) f1 f4 f5 f6 f7 f8 f9 f10 f11 f12 f13 f15 f16 f17 f22 (upd (upd u212 (0 + jl b + jl tq) (nI (48 + (c9 % 10)))) ((0 + jl b + jl tq) + 1) 99) (upd g25 kb ((upd (upd u212 (0 + jl b + jl tq) (nI (48 + (c9 % 10)))) ((0 + jl b + jl tq) + 1) 99) kb)) f27) H := hP
                    have hD : va_D A (mX T o a z0 z2 (nI nn) z14 z18 u200 u201 u202 (nI (((0 + jl b + jl tq) + 1) + 1)) (nI (((0 + jl b + jl tq) + 1) + 1)) f1 f4 f5 f6 f7 f8 f9 f10 f11 f12 f13 f15 f16 f17 f22 (upd (upd u212 (0 + jl b + jl tq) (nI (48 + (c9 % 10)))) ((0 + jl b + jl tq) + 1) 99) (upd g25 kb ((upd (upd u212 (0 + jl b + jl tq) (nI (48 + (c9 % 10)))) ((0 + jl b + jl tq) + 1) 99) kb)) f27) := hD
                    refine lv_iinc (v := nI (kb + 1)) (lv' := [(6, .int (nI (kb + 1))), (0, .ref o)]) hx hb d_M_tries_254 hl (k := 1) rfl (nI_add kb 1) (by decide) rfl (fun ls hl => ?_)
                    refine lv_goto (tgt := 231) hx hb d_M_tries_257 (by decide) ?_
                    exact ihb (kb + 1) (upd g25 kb ((upd (upd u212 (0 + jl b + jl tq) (nI (48 + (c9 % 10)))) ((0 + jl b + jl tq) + 1) 99) kb)) (by omega) (cpI_s0 hC2) _ _ hP hD hS ls (lv_sub hl [1, 0] rfl) (by omega)
              exact lopb ((((0 + jl b + jl tq) + 1) + 1 - 0) + 1) 0 f25 (Nat.zero_le _) cpI_0 _ _ hP hD hS ls (lv_sub hl [2, 0] rfl) (Nat.lt_succ_self _)
            · obtain ⟨hr9, hbet⟩ := hbb
              subst hr9
              refine lv_if_eq (tgt := 260) hx hb d_M_tries_217 (by decide) (fun c225 => ?_) (fun c225 => absurd c225 (by decide))
              exact W.vret hx hb hr (fun t ht hW => ⟨⟨(u200, u201, u202, upd (upd u212 (0 + jl b + jl tq) (nI (48 + (c9 % 10)))) ((0 + jl b + jl tq) + 1) 99, nI (((0 + jl b + jl tq) + 1) + 1), f25, nI bn), rfl, ⟨bn, rfl, hy11, by rw [j_try, if_pos hss, up_no hy12 hM hbet]; exact hy12⟩, by rw [ht]; exact hP, va_K.moved hW.alike hK, hD⟩, hS.F ht⟩) hS.2.2 d_M_tries_260
          · have c215 := nc_nle (a := c9) (b := 9) c215 (by omega) (by omega)
            refine lv_aload_n hx hb d_M_tries_183 rfl (lv_at hl 1 rfl) ?_
            refine lv_bipush (v := 48) hx hb d_M_tries_184 (by decide) ?_
            refine lv_iload hx hb d_M_tries_186 (lv_at hl 5 rfl) ?_
            refine lv_bipush (v := 10) hx hb d_M_tries_188 (by decide) ?_
            refine lv_idiv hx hb d_M_tries_190 (by decide) ?_
            rw [show nI c9 / 10 = nI (c9 / 10) from pk_div (d := 10) (by omega) (by decide) (by decide)]
            refine lv_iadd hx hb d_M_tries_191 ?_
            rw [show 48 + (nI (c9 / 10)) = nI (48 + (c9 / 10)) from nI_add 48 (c9 / 10)]
            refine g_callv (va_runV (As := [.int (nI (48 + (c9 / 10)))]) (rest := []) ⟨hx, hb, hml, hown, hw⟩ (k_M_put l D T o a z0 z2 (nI nn) z14 z18 u200 u201 u202 (0 + jl b + jl tq) (nI bn) f1 f4 f5 f6 f7 f8 f9 f10 f11 f12 f13 f15 f16 f17 f22 u212 f25 f27 H.size (nI (48 + (c9 / 10))) (by omega)) (cwV 1 hw (bg_V ml_M_183 wi_M_put wv_M_put wz_M wc_M_put) rfl rfl rfl (by decide +kernel) ⟨Nat.le_of_ble_eq_true rfl, Nat.le_of_ble_eq_true rfl⟩) ⟨qP_b, va_recv hK hP (ci := 6) (q0 := 0) rfl rfl, qP_p hP hK hD⟩ rfl rfl hl.1 rfl (lv_room (Nat.le_of_ble_eq_true rfl)) d_M_tries_192 ⟨Nat.le_of_ble_eq_true rfl, Nat.le_of_ble_eq_true rfl⟩) hD hS hA (fun u9 H locs hr226 hP hD hS => ?_)
            obtain ⟨u227, u228⟩ := u9
            dsimp only at hr226 hP hD
            obtain ⟨q0, q1⟩ := hr226
            replace q0 := q0.symm; subst q0; replace q1 := q1.symm; subst q1
            have hP : va_P D gC (mX T o a z0 z2 (nI nn) z14 z18 u200 u201 u202 (nI ((0 + jl b + jl tq) + 1)) (nI bn) f1 f4 f5 f6 f7 f8 f9 f10 f11 f12 f13 f15 f16 f17 f22 (upd u212 (0 + jl b + jl tq) (nI (48 + (c9 / 10)))) f25 f27) H := hP
            have hD : va_D A (mX T o a z0 z2 (nI nn) z14 z18 u200 u201 u202 (nI ((0 + jl b + jl tq) + 1)) (nI bn) f1 f4 f5 f6 f7 f8 f9 f10 f11 f12 f13 f15 f16 f17 f22 (upd u212 (0 + jl b + jl tq) (nI (48 + (c9 / 10)))) f25 f27) := hD
            have hM : j_ls (upd u212 (0 + jl b + jl tq) (nI (48 + (c9 / 10)))) (0 + jl b + jl tq + 1) = [] ++ jcs b ++ jcs tq ++ [nI (48 + (c9 / 10))] := by rw [ls_put, hM]
            refine lv_aload_n hx hb d_M_tries_195 rfl (lv_at hl 1 rfl) ?_
            refine lv_bipush (v := 48) hx hb d_M_tries_196 (by decide) ?_
            refine lv_iload hx hb d_M_tries_198 (lv_at hl 5 rfl) ?_
            refine lv_bipush (v := 10) hx hb d_M_tries_200 (by decide) ?_
            refine lv_irem hx hb d_M_tries_202 (by decide) ?_
            rw [show nI c9 - nI c9 / 10 * 10 = nI (c9 % 10) from pk_rem (d := 10) (by omega) (by decide) (by decide)]
            refine lv_iadd hx hb d_M_tries_203 ?_
            rw [show 48 + (nI (c9 % 10)) = nI (48 + (c9 % 10)) from nI_add 48 (c9 % 10)]
            refine g_callv (va_runV (As := [.int (nI (48 + (c9 % 10)))]) (rest := []) ⟨hx, hb, hml, hown, hw⟩ (k_M_put l D T o a z0 z2 (nI nn) z14 z18 u200 u201 u202 ((0 + jl b + jl tq) + 1) (nI bn) f1 f4 f5 f6 f7 f8 f9 f10 f11 f12 f13 f15 f16 f17 f22 (upd u212 (0 + jl b + jl tq) (nI (48 + (c9 / 10)))) f25 f27 H.size (nI (48 + (c9 % 10))) (by omega)) (cwV 1 hw (bg_V ml_M_183 wi_M_put wv_M_put wz_M wc_M_put) rfl rfl rfl (by decide +kernel) ⟨Nat.le_of_ble_eq_true rfl, Nat.le_of_ble_eq_true rfl⟩) ⟨qP_b, va_recv hK hP (ci := 6) (q0 := 0) rfl rfl, qP_p hP hK hD⟩ rfl rfl hl.1 rfl (lv_room (Nat.le_of_ble_eq_true rfl)) d_M_tries_204 ⟨Nat.le_of_ble_eq_true rfl, Nat.le_of_ble_eq_true rfl⟩) hD hS hA (fun u9 H locs hr229 hP hD hS => ?_)
            obtain ⟨u230, u231⟩ := u9
            dsimp only at hr229 hP hD
            obtain ⟨q0, q1⟩ := hr229
            replace q0 := q0.symm; subst q0; replace q1 := q1.symm; subst q1
            have hP : va_P D gC (mX T o a z0 z2 (nI nn) z14 z18 u200 u201 u202 (nI (((0 + jl b + jl tq) + 1) + 1)) (nI bn) f1 f4 f5 f6 f7 f8 f9 f10 f11 f12 f13 f15 f16 f17 f22 (upd (upd u212 (0 + jl b + jl tq) (nI (48 + (c9 / 10)))) ((0 + jl b + jl tq) + 1) (nI (48 + (c9 % 10)))) f25 f27) H := hP
            have hD : va_D A (mX T o a z0 z2 (nI nn) z14 z18 u200 u201 u202 (nI (((0 + jl b + jl tq) + 1) + 1)) (nI bn) f1 f4 f5 f6 f7 f8 f9 f10 f11 f12 f13 f15 f16 f17 f22 (upd (upd u212 (0 + jl b + jl tq) (nI (48 + (c9 / 10)))) ((0 + jl b + jl tq) + 1) (nI (48 + (c9 % 10)))) f25 f27) := hD
            have hM : j_ls (upd (upd u212 (0 + jl b + jl tq) (nI (48 + (c9 / 10)))) ((0 + jl b + jl tq) + 1) (nI (48 + (c9 % 10)))) (0 + jl b + jl tq + 1 + 1) = [] ++ jcs b ++ jcs tq ++ [nI (48 + (c9 / 10))] ++ [nI (48 + (c9 % 10))] := by rw [ls_put, hM]
            refine lv_aload_n hx hb d_M_tries_207 rfl (lv_at hl 1 rfl) ?_
            refine lv_bipush (v := 99) hx hb d_M_tries_208 (by decide) ?_
            refine g_callv (va_runV (As := [.int 99]) (rest := []) ⟨hx, hb, hml, hown, hw⟩ (k_M_put l D T o a z0 z2 (nI nn) z14 z18 u200 u201 u202 (((0 + jl b + jl tq) + 1) + 1) (nI bn) f1 f4 f5 f6 f7 f8 f9 f10 f11 f12 f13 f15 f16 f17 f22 (upd (upd u212 (0 + jl b + jl tq) (nI (48 + (c9 / 10)))) ((0 + jl b + jl tq) + 1) (nI (48 + (c9 % 10)))) f25 f27 H.size 99 (by omega)) (cwV 1 hw (bg_V ml_M_183 wi_M_put wv_M_put wz_M wc_M_put) rfl rfl rfl (by decide +kernel) ⟨Nat.le_of_ble_eq_true rfl, Nat.le_of_ble_eq_true rfl⟩) ⟨qP_b, va_recv hK hP (ci := 6) (q0 := 0) rfl rfl, qP_p hP hK hD⟩ rfl rfl hl.1 rfl (lv_room (Nat.le_of_ble_eq_true rfl)) d_M_tries_210 ⟨Nat.le_of_ble_eq_true rfl, Nat.le_of_ble_eq_true rfl⟩) hD hS hA (fun u9 H locs hr232 hP hD hS => ?_)
            obtain ⟨u233, u234⟩ := u9
            dsimp only at hr232 hP hD
            obtain ⟨q0, q1⟩ := hr232
            replace q0 := q0.symm; subst q0; replace q1 := q1.symm; subst q1
            have hP : va_P D gC (mX T o a z0 z2 (nI nn) z14 z18 u200 u201 u202 (nI ((((0 + jl b + jl tq) + 1) + 1) + 1)) (nI bn) f1 f4 f5 f6 f7 f8 f9 f10 f11 f12 f13 f15 f16 f17 f22 (upd (upd (upd u212 (0 + jl b + jl tq) (nI (48 + (c9 / 10)))) ((0 + jl b + jl tq) + 1) (nI (48 + (c9 % 10)))) (((0 + jl b + jl tq) + 1) + 1) 99) f25 f27) H := hP
            have hD : va_D A (mX T o a z0 z2 (nI nn) z14 z18 u200 u201 u202 (nI ((((0 + jl b + jl tq) + 1) + 1) + 1)) (nI bn) f1 f4 f5 f6 f7 f8 f9 f10 f11 f12 f13 f15 f16 f17 f22 (upd (upd (upd u212 (0 + jl b + jl tq) (nI (48 + (c9 / 10)))) ((0 + jl b + jl tq) + 1) (nI (48 + (c9 % 10)))) (((0 + jl b + jl tq) + 1) + 1) 99) f25 f27) := hD
            have hM : j_ls (upd (upd (upd u212 (0 + jl b + jl tq) (nI (48 + (c9 / 10)))) ((0 + jl b + jl tq) + 1) (nI (48 + (c9 % 10)))) (((0 + jl b + jl tq) + 1) + 1) 99) (0 + jl b + jl tq + 1 + 1 + 1) = [] ++ jcs b ++ jcs tq ++ [nI (48 + (c9 / 10))] ++ [nI (48 + (c9 % 10))] ++ [99] := by rw [ls_put, hM]
            have hT : j_tx (some b) (some tq) f4 ln c9 = [] ++ jcs b ++ jcs tq ++ [nI (48 + (c9 / 10))] ++ [nI (48 + (c9 % 10))] ++ [99] := by simp only [j_tx, j_ot, if_pos hc9, j_ct]; rw [if_pos (by omega)]; simp
            rw [← hT] at hM
            refine lv_aload_n hx hb d_M_tries_213 rfl (lv_at hl 1 rfl) ?_
            refine vp_callSi (va_Run.run (va_runV (As := []) (rest := []) ⟨hx, hb, hml, hown, hw⟩ (k_M_isBetter l D T o a z0 z2 (nI nn) z14 z18 u200 u201 u202 ((((0 + jl b + jl tq) + 1) + 1) + 1) bn f1 f4 f5 f6 f7 f8 f9 f10 f11 f12 f13 f15 f16 f17 f22 (upd (upd (upd u212 (0 + jl b + jl tq) (nI (48 + (c9 / 10)))) ((0 + jl b + jl tq) + 1) (nI (48 + (c9 % 10)))) (((0 + jl b + jl tq) + 1) + 1) 99) f25 f27 (by omega) (by omega) (by omega)) (cwV 0 hw (bg_V ml_M_197 wi_M_isBetter wv_M_isBetter wz_M wc_M_isBetter) rfl rfl rfl (by decide +kernel) ⟨Nat.le_of_ble_eq_true rfl, Nat.le_of_ble_eq_true rfl⟩) ⟨sP_b, va_recv hK hP (ci := 6) (q0 := 0) rfl rfl, sP_p hP hK⟩ rfl rfl hl.1 rfl (lv_room (Nat.le_of_ble_eq_true rfl)) d_M_tries_214 ⟨Nat.le_of_ble_eq_true rfl, Nat.le_of_ble_eq_true rfl⟩)) (fun r235 hr235 => ?_)
            rcases hr235 with hbb | hbb
            · obtain ⟨hr9, hbet⟩ := hbb
              subst hr9
              refine lv_if_eq (tgt := 260) hx hb d_M_tries_217 (by decide) (fun c236 => absurd c236 (by decide)) (fun c236 => ?_)
              refine lv_aload_n hx hb d_M_tries_220 rfl (lv_at hl 1 rfl) ?_
              refine lv_aload_n hx hb d_M_tries_221 rfl (lv_at hl 1 rfl) ?_
              refine va_get (D := D) (ci := 6) (v := .int (nI ((((0 + jl b + jl tq) + 1) + 1) + 1))) (C := "TimeWordsModel") (T := F_M) (N := 28) hx hb hw in_M hown hK hP 0 rfl rfl 24 (by decide) (hw _ fl_M_180) (fun _ h9 => h9) rfl d_M_tries_222 ?_
              refine va_put (D := D) (ci := 6) (v := .int (nI ((((0 + jl b + jl tq) + 1) + 1) + 1))) (ty := .int) (C := "TimeWordsModel") (T := F_M) (N := 28) hx hb hw in_M ty_M ty_M_ok n_M hown hK hP hD hS 0 rfl rfl 26 (by decide) (hw _ fl_M_187) (fun _ h9 => h9) rfl (by decide +kernel) rfl rfl (Nat.le_of_ble_eq_true rfl) d_M_tries_225 (fun H locs hP hD hS => ?_)
              have hP : va_P D gC (mX T o a z0 z2 (nI nn) z14 z18 u200 u201 u202 (nI ((((0 + jl b + jl tq) + 1) + 1) + 1)) (nI ((((0 + jl b + jl tq) + 1) + 1) + 1)) f1 f4 f5 f6 f7 f8 f9 f10 f11 f12 f13 f15 f16 f17 f22 (upd (upd (upd u212 (0 + jl b + jl tq) (nI (48 + (c9 / 10)))) ((0 + jl b + jl tq) + 1) (nI (48 + (c9 % 10)))) (((0 + jl b + jl tq) + 1) + 1) 99) f25 f27) H := hP
              have hD : va_D A (mX T o a z0 z2 (nI nn) z14 z18 u200 u201 u202 (nI ((((0 + jl b + jl tq) + 1) + 1) + 1)) (nI ((((0 + jl b + jl tq) + 1) + 1) + 1)) f1 f4 f5 f6 f7 f8 f9 f10 f11 f12 f13 f15 f16 f17 f22 (upd (upd (upd u212 (0 + jl b + jl tq) (nI (48 + (c9 / 10)))) ((0 + jl b + jl tq) + 1) (nI (48 + (c9 % 10)))) (((0 + jl b + jl tq) + 1) + 1) 99) f25 f27) := hD
              refine lv_iconst (v := 0) hx hb d_M_tries_228 (by decide) ?_
              refine lv_istore (lv' := [(6, .int 0), (5, .int 1), (0, .ref o), (1, .int (nI j)), (2, .int (nI b)), (3, .int (nI tq)), (4, .int (nI c9))]) hx hb d_M_tries_229 hl (by decide) rfl (fun ls hl => ?_)
              have lopb : ∀ (nb : Nat) (kb : Nat) (g25 : Nat → Int32), (kb ≤ (((0 + jl b + jl tq) + 1) + 1) + 1) → (cpI f25 (upd (upd (upd u212 (0 + jl b + jl tq) (nI (48 + (c9 / 10)))) ((0 + jl b + jl tq) + 1) (nI (48 + (c9 % 10)))) (((0 + jl b + jl tq) + 1) + 1) 99) g25 0 kb) → ∀ (H : Heap) (locs : List Loc), va_P D gC (mX T o a z0 z2 (nI nn) z14 z18 u200 u201 u202 (nI ((((0 + jl b + jl tq) + 1) + 1) + 1)) (nI ((((0 + jl b + jl tq) + 1) + 1) + 1)) f1 f4 f5 f6 f7 f8 f9 f10 f11 f12 f13 f15 f16 f17 f22 (upd (upd (upd u212 (0 + jl b + jl tq) (nI (48 + (c9 / 10)))) ((0 + jl b + jl tq) + 1) (nI (48 + (c9 % 10)))) (((0 + jl b + jl tq) + 1) + 1) 99) g25 f27) H → va_D A (mX T o a z0 z2 (nI nn) z14 z18 u200 u201 u202 (nI ((((0 + jl b + jl tq) + 1) + 1) + 1)) (nI ((((0 + jl b + jl tq) + 1) + 1) + 1)) f1 f4 f5 f6 f7 f8 f9 f10 f11 f12 f13 f15 f16 f17 f22 (upd (upd (upd u212 (0 + jl b + jl tq) (nI (48 + (c9 / 10)))) ((0 + jl b + jl tq) + 1) (nI (48 + (c9 % 10)))) (((0 + jl b + jl tq) + 1) + 1) 99) g25 f27) → va_S A s.heap H locs → ∀ (ls : Array Slot), lv_has ls 7 [(0, .ref o), (6, .int (nI kb))] → (((0 + jl b + jl tq) + 1) + 1) + 1 - kb < nb → W p l e (headSpec (Cond.code y_M_tries b_M_tries 7 none :: bg_W) ({ frames := 3, cells := 0, slots := 0, locals := 67 })).room s m ([.ref o, .int (nI j), .int (j_oi (some b)), .int (j_oi (some tq)), .int (nI c9)] : List Value).toArray below meth c H locs 0 0 (MQ below (va_Qv (fun u : Int32 × Int32 × Int32 × (Nat → Int32) × Int32 × (Nat → Int32) × Int32 => match u with | (w19, w20, w21, g23, w24, g25, w26) => ∃ m9, w26 = nI m9 ∧ m9 ≤ 24 ∧ j_ls g25 m9 = j_try (j_ss z18 (some b) (j_src z18 (some tq) (j_nv f6 f7 f8 f10 f11 f12 f13 ck 0 100000) c9) (f17 j) (f15 j) (f16 j)) (j_tx (some b) (some tq) f4 ln c9) bl) (qB D T A (fun u : Int32 × Int32 × Int32 × (Nat → Int32) × Int32 × (Nat → Int32) × Int32 => match u with | (w19, w20, w21, g23, w24, g25, w26) => mX T o a z0 z2 (nI nn) z14 z18 w19 w20 w21 w24 w26 f1 f4 f5 f6 f7 f8 f9 f10 f11 f12 f13 f15 f16 f17 f22 g23 g25 f27)) A) ([.ref o, .int (nI j), .int (j_oi (some b)), .int (j_oi (some tq)), .int (nI c9)] : List Value).toArray s 0 0 A) (F0 m 231 ls []) := by
                intro nb
                induction nb with
                | zero => intro kb g25 hkb hC2 H locs hP hD hS ls hl hm; exact absurd hm (Nat.not_lt_zero _)
                | succ nb ihb =>
                  intro kb g25 hkb hC2 H locs hP hD hS ls hl hm
                  refine lv_iload hx hb d_M_tries_231 (lv_at hl 1 rfl) ?_
                  refine lv_aload_n hx hb d_M_tries_233 rfl (lv_at hl 0 rfl) ?_
                  refine va_get (D := D) (ci := 6) (v := .int (nI ((((0 + jl b + jl tq) + 1) + 1) + 1))) (C := "TimeWordsModel") (T := F_M) (N := 28) hx hb hw in_M hown hK hP 0 rfl rfl 24 (by decide) (hw _ fl_M_180) (fun _ h9 => h9) rfl d_M_tries_234 ?_
                  refine lv_icmp_ge (tgt := 260) hx hb d_M_tries_237 (by decide) (fun c237 => ?_) (fun c237 => ?_)
                  · have c237 := nc_le (a := (((0 + jl b + jl tq) + 1) + 1) + 1) (b := kb) c237 (by omega) (by omega)
                    exact W.vret hx hb hr (fun t ht hW => ⟨⟨(u200, u201, u202, upd (upd (upd u212 (0 + jl b + jl tq) (nI (48 + (c9 / 10)))) ((0 + jl b + jl tq) + 1) (nI (48 + (c9 % 10)))) (((0 + jl b + jl tq) + 1) + 1) 99, nI ((((0 + jl b + jl tq) + 1) + 1) + 1), g25, nI ((((0 + jl b + jl tq) + 1) + 1) + 1)), rfl, ⟨_, rfl, by omega, by rw [j_try, if_pos hss, up_yes hy12 hM hbet, ← hM]; have ekb : kb = (((0 + jl b + jl tq) + 1) + 1) + 1 := (by omega); rw [← ekb]; exact ls_cp0 hC2⟩, by rw [ht]; exact hP, va_K.moved hW.alike hK, hD⟩, hS.F ht⟩) hS.2.2 d_M_tries_260
                  · have c237 := nc_nle (a := (((0 + jl b + jl tq) + 1) + 1) + 1) (b := kb) c237 (by omega) (by omega)
                    refine lv_aload_n hx hb d_M_tries_240 rfl (lv_at hl 0 rfl) ?_
                    refine va_get (D := D) (ci := 6) (v := .ref (a 25)) (C := "TimeWordsModel") (T := F_M) (N := 28) hx hb hw in_M hown hK hP 0 rfl rfl 25 (by decide) (hw _ fl_M_63) (fun _ h9 => h9) rfl d_M_tries_241 ?_
                    refine lv_iload hx hb d_M_tries_244 (lv_at hl 1 rfl) ?_
                    refine lv_aload_n hx hb d_M_tries_246 rfl (lv_at hl 0 rfl) ?_
                    refine va_get (D := D) (ci := 6) (v := .ref (a 23)) (C := "TimeWordsModel") (T := F_M) (N := 28) hx hb hw in_M hown hK hP 0 rfl rfl 23 (by decide) (hw _ fl_M_60) (fun _ h9 => h9) rfl d_M_tries_247 ?_
                    refine lv_iload hx hb d_M_tries_250 (lv_at hl 1 rfl) ?_
                    refine va_iald hx hb hK hP 16 0 rfl rfl (by first | assumption | exact vp_in_nI (by omega) (by omega)) d_M_tries_252 ?_
                    rw [show (nI kb).toNatClampNeg = kb from nI_clamp (by omega)]
                    refine va_iast hx hb hK hP hD hS 17 0 rfl rfl (by first | assumption | exact vp_in_nI (by omega) (by omega)) d_M_tries_253 (fun H locs hP hD hS => ?_)
                    rw [show (nI kb).toNatClampNeg = kb from nI_clamp (by omega)] at hP hD
                    have hP : va_P D gC (mX T o a z0 z2 (nI nn) z14 z18 u200 u201 u202 (nI ((((0 + jl b + jl tq) + 1) + 1) + 1)) (nI ((((0 + jl b + jl tq) + 1) + 1) + 1)) f1 f4 f5 f6 f7 f8 f9 f10 f11 f12 f13 f15 f16 f17 f22 (upd (upd (upd u212 (0 + jl b + jl tq) (nI (48 + (c9 / 10)))) ((0 + jl b + jl tq) + 1) (nI (48 + (c9 % 10)))) (((0 + jl b + jl tq) + 1) + 1) 99) (upd g25 kb ((upd (upd (upd u212 (0 + jl b + jl tq) (nI (48 + (c9 / 10)))) ((0 + jl b + jl tq) + 1) (nI (48 + (c9 % 10)))) (((0 + jl b + jl tq) + 1) + 1) 99) kb)) f27) H := hP
                    have hD : va_D A (mX T o a z0 z2 (nI nn) z14 z18 u200 u201 u202 (nI ((((0 + jl b + jl tq) + 1) + 1) + 1)) (nI ((((0 + jl b + jl tq) + 1) + 1) + 1)) f1 f4 f5 f6 f7 f8 f9 f10 f11 f12 f13 f15 f16 f17 f22 (upd (upd (upd u212 (0 + jl b + jl tq) (nI (48 + (c9 / 10)))) ((0 + jl b + jl tq) + 1) (nI (48 + (c9 % 10)))) (((0 + jl b + jl tq) + 1) + 1) 99) (upd g25 kb ((upd (upd (upd u212 (0 + jl b + jl tq) (nI (48 + (c9 / 10)))) ((0 + jl b + jl tq) + 1) (nI (48 + (c9 % 10)))) (((0 + jl b + jl tq) + 1) + 1) 99) kb)) f27) := hD
                    refine lv_iinc (v := nI (kb + 1)) (lv' := [(6, .int (nI (kb + 1))), (0, .ref o)]) hx hb d_M_tries_254 hl (k := 1) rfl (nI_add kb 1) (by decide) rfl (fun ls hl => ?_)
                    refine lv_goto (tgt := 231) hx hb d_M_tries_257 (by decide) ?_
                    exact ihb (kb + 1) (upd g25 kb ((upd (upd (upd u212 (0 + jl b + jl tq) (nI (48 + (c9 / 10)))) ((0 + jl b + jl tq) + 1) (nI (48 + (c9 % 10)))) (((0 + jl b + jl tq) + 1) + 1) 99) kb)) (by omega) (cpI_s0 hC2) _ _ hP hD hS ls (lv_sub hl [1, 0] rfl) (by omega)
              exact lopb (((((0 + jl b + jl tq) + 1) + 1) + 1 - 0) + 1) 0 f25 (Nat.zero_le _) cpI_0 _ _ hP hD hS ls (lv_sub hl [2, 0] rfl) (Nat.lt_succ_self _)
            · obtain ⟨hr9, hbet⟩ := hbb
              subst hr9
              refine lv_if_eq (tgt := 260) hx hb d_M_tries_217 (by decide) (fun c238 => ?_) (fun c238 => absurd c238 (by decide))
              exact W.vret hx hb hr (fun t ht hW => ⟨⟨(u200, u201, u202, upd (upd (upd u212 (0 + jl b + jl tq) (nI (48 + (c9 / 10)))) ((0 + jl b + jl tq) + 1) (nI (48 + (c9 % 10)))) (((0 + jl b + jl tq) + 1) + 1) 99, nI ((((0 + jl b + jl tq) + 1) + 1) + 1), f25, nI bn), rfl, ⟨bn, rfl, hy11, by rw [j_try, if_pos hss, up_no hy12 hM hbet]; exact hy12⟩, by rw [ht]; exact hP, va_K.moved hW.alike hK, hD⟩, hS.F ht⟩) hS.2.2 d_M_tries_260
        · have c203 := b2i_f c203
          exact W.vret hx hb hr (fun t ht hW => ⟨⟨(u200, u201, u202, f23, z24, f25, nI bn), rfl, ⟨bn, rfl, hy11, by rw [j_try, if_neg (show ¬ j_ss z18 (some b) (j_src z18 (some tq) (j_nv f6 f7 f8 f10 f11 f12 f13 ck 0 100000) c9) (f17 j) (f15 j) (f16 j) = true from (by rw [show j_ss z18 (some b) (j_src z18 (some tq) (j_nv f6 f7 f8 f10 f11 f12 f13 ck 0 100000) c9) (f17 j) (f15 j) (f16 j) = false from (by rw [hsrc]; exact c203)]; exact Bool.false_ne_true))]; exact hy12⟩, by rw [ht]; exact hP, va_K.moved hW.alike hK, hD⟩, hS.F ht⟩) hS.2.2 d_M_tries_90
      · obtain ⟨hr9, hsrc⟩ := hmk
        subst hr9
        refine lv_if_eq (tgt := 56) hx hb d_M_tries_49 (by decide) (fun c239 => ?_) (fun c239 => absurd c239 (by decide))
        refine lv_iconst (v := 0) hx hb d_M_tries_56 (by decide) ?_
        refine lv_istore (lv' := [(5, .int 0), (0, .ref o), (1, .int (nI j)), (2, .int (nI b)), (3, .int (nI tq)), (4, .int (nI c9))]) hx hb d_M_tries_57 hl (by decide) rfl (fun ls hl => ?_)
        refine lv_goto (tgt := 76) hx hb d_M_tries_59 (by decide) ?_
        refine lv_iload hx hb d_M_tries_76 (lv_at hl 0 rfl) ?_
        refine lv_if_eq (tgt := 90) hx hb d_M_tries_78 (by decide) (fun c240 => ?_) (fun c240 => absurd c240 (by decide))
        exact W.vret hx hb hr (fun t ht hW => ⟨⟨(u194, u195, u196, f23, z24, f25, nI bn), rfl, ⟨bn, rfl, hy11, by rw [j_try, if_neg (show ¬ j_ss z18 (some b) (j_src z18 (some tq) (j_nv f6 f7 f8 f10 f11 f12 f13 ck 0 100000) c9) (f17 j) (f15 j) (f16 j) = true from (by rw [show j_ss z18 (some b) (j_src z18 (some tq) (j_nv f6 f7 f8 f10 f11 f12 f13 ck 0 100000) c9) (f17 j) (f15 j) (f16 j) = false from (by rw [hsrc]; rfl)]; exact Bool.false_ne_true))]; exact hy12⟩, by rw [ht]; exact hP, va_K.moved hW.alike hK, hD⟩, hS.F ht⟩) hS.2.2 d_M_tries_90
