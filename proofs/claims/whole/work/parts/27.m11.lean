set_option maxHeartbeats 4000000 in
set_option maxRecDepth 100000 in
theorem k_M_far (l : Launch) (D : va_G) (T : gT) (o : Nat) (a : Nat → Nat) (z0 : Int32) (pn : Nat) (z3 z14 z18 z19 z20 z21 z24 z26 : Int32) (f1 f4 f5 f6 f7 f8 f9 f10 f11 f12 f13 f15 f16 f17 f22 f23 f25 f27 : Nat → Int32) (sz : Nat) (i9 : Nat) (ln : Nat → Nat) (hy0 : i9 < 24) (hy1 : pn ≤ 24) (hy2 : ∀ i, f5 i = nI (ln i)) (hy3 : ∀ i, ln i ≤ 8) : Met l y_M_far (Cond.code y_M_far b_M_far 6 (some .int) :: bg_W) ({ frames := 0, cells := 0, slots := 0, locals := 0 }) (qP D T (mX T o a z0 (nI pn) z3 z14 z18 z19 z20 z21 z24 z26 f1 f4 f5 f6 f7 f8 f9 f10 f11 f12 f13 f15 f16 f17 f22 f23 f25 f27) [.ref o, .int (nI i9)] sz) (va_Qi (fun (r : Int32) (g27 : (Nat → Int32)) => r = nI (ed_st f1 (fun k => f4 (8 * i9 + k)) pn (ln i9))) (qB D T (va_A (mX T o a z0 (nI pn) z3 z14 z18 z19 z20 z21 z24 z26 f1 f4 f5 f6 f7 f8 f9 f10 f11 f12 f13 f15 f16 f17 f22 f23 f25 f27) sz) (fun g27 : (Nat → Int32) => mX T o a z0 (nI pn) z3 z14 z18 z19 z20 z21 z24 z26 f1 f4 f5 f6 f7 f8 f9 f10 f11 f12 f13 f15 f16 f17 f22 f23 f25 g27)) (va_A (mX T o a z0 (nI pn) z3 z14 z18 z19 z20 z21 z24 z26 f1 f4 f5 f6 f7 f8 f9 f10 f11 f12 f13 f15 f16 f17 f22 f23 f25 f27) sz)) 0 0 (va_A (mX T o a z0 (nI pn) z3 z14 z18 z19 z20 z21 z24 z26 f1 f4 f5 f6 f7 f8 f9 f10 f11 f12 f13 f15 f16 f17 f22 f23 f25 f27) sz) := by
  refine Met.ofW (cc := b_M_far) (maxL := 6) (ret := (some .int)) (by decide) rfl ?_
  intro p e s m args below meth c s₁ B hml hv
  obtain ⟨rfl, hsz, hP, hK, hD0⟩ := hv
  have hx := B.exec
  have hb := B.bytes
  have hr := B.returns
  have hw : ∀ w ∈ bg_W, w.before ([.ref o, .int (nI i9)] : List Value).toArray s = true := fun w h => atoms_spec (ws := (Cond.code y_M_far b_M_far 6 (some .int) :: bg_W)) B.pre w (List.mem_cons_of_mem _ h)
  have hown : s.vm.findClass "TimeWordsModel" = some m.cls := findClass_of_methodNamed B.named
  have hlocks := B.notSynchronized
  subst hsz
  have hD := hD0.self (sz := s.heap.size)
  generalize hAe : va_A (mX T o a z0 (nI pn) z3 z14 z18 z19 z20 z21 z24 z26 f1 f4 f5 f6 f7 f8 f9 f10 f11 f12 f13 f15 f16 f17 f22 f23 f25 f27) s.heap.size = A at hD ⊢
  have hA : ∀ q : Nat, s.heap.size ≤ q → A q := fun q h => by rw [← hAe]; exact Or.inr h
  have hS : va_S A s.heap s.heap [] := va_S.rf
  have hl := lv_entry ([.ref o, .int (nI i9)]) (n := 6) (Nat.le_of_ble_eq_true rfl)
  rw [lg_entry_eq]
  generalize (lg_sl ([.ref o, .int (nI i9)]) ++ List.replicate (6 - (lg_sl ([.ref o, .int (nI i9)])).length) Slot.unset).toArray = ls at hl ⊢
  have hl : lv_has ls 6 [(0, .ref o), (1, .int (nI i9))] := hl
  have h8 := hy3 i9
  refine lv_iconst (v := 0) hx hb d_M_far_0 (by decide) ?_
  refine lv_istore_n (lv' := [(2, .int 0), (0, .ref o), (1, .int (nI i9))]) hx hb d_M_far_1 rfl hl (by decide) rfl (fun ls hl => ?_)
  have loop : ∀ (n : Nat) (k : Nat) (g27 : Nat → Int32), (k ≤ pn + 1) → (∀ i, i < k → g27 i = nI i) → ∀ (H : Heap) (locs : List Loc), va_P D gC (mX T o a z0 (nI pn) z3 z14 z18 z19 z20 z21 z24 z26 f1 f4 f5 f6 f7 f8 f9 f10 f11 f12 f13 f15 f16 f17 f22 f23 f25 g27) H → va_D A (mX T o a z0 (nI pn) z3 z14 z18 z19 z20 z21 z24 z26 f1 f4 f5 f6 f7 f8 f9 f10 f11 f12 f13 f15 f16 f17 f22 f23 f25 g27) → va_S A s.heap H locs → ∀ (ls : Array Slot), lv_has ls 6 [(0, .ref o), (1, .int (nI i9)), (2, .int (nI k))] → pn + 1 - k < n → W p l e (headSpec (Cond.code y_M_far b_M_far 6 (some .int) :: bg_W) ({ frames := 0, cells := 0, slots := 0, locals := 0 })).room s m ([.ref o, .int (nI i9)] : List Value).toArray below meth c H locs 0 0 (MQ below (va_Qi (fun (r : Int32) (g27 : (Nat → Int32)) => r = nI (ed_st f1 (fun k => f4 (8 * i9 + k)) pn (ln i9))) (qB D T A (fun g27 : (Nat → Int32) => mX T o a z0 (nI pn) z3 z14 z18 z19 z20 z21 z24 z26 f1 f4 f5 f6 f7 f8 f9 f10 f11 f12 f13 f15 f16 f17 f22 f23 f25 g27)) A) ([.ref o, .int (nI i9)] : List Value).toArray s 0 0 A) (F0 m 2 ls []) := by
    intro n
    induction n with
    | zero => intro k g27 hk hE H locs hP hD hS ls hl hm; exact absurd hm (Nat.not_lt_zero _)
    | succ n ih =>
      intro k g27 hk hE H locs hP hD hS ls hl hm
      refine lv_iload_n hx hb d_M_far_2 rfl (lv_at hl 2 rfl) ?_
      refine lv_aload_n hx hb d_M_far_3 rfl (lv_at hl 0 rfl) ?_
      refine va_get (D := D) (ci := 6) (v := .int (nI pn)) (C := "TimeWordsModel") (T := F_M) (N := 28) hx hb hw in_M hown hK hP 0 rfl rfl 2 (by decide) (hw _ fl_M_93) (fun _ h9 => h9) rfl d_M_far_4 ?_
      refine lv_icmp_gt (tgt := 23) hx hb d_M_far_7 (by decide) (fun c1 => ?_) (fun c1 => ?_)
      · have c1 := nc_lt (a := pn) (b := k) c1 (by omega) (by omega)
        refine lv_iconst (v := 1) hx hb d_M_far_23 (by decide) ?_
        refine lv_istore_n (lv' := [(2, .int 1), (0, .ref o), (1, .int (nI i9))]) hx hb d_M_far_24 rfl hl (by decide) rfl (fun ls hl => ?_)
        have lop2 : ∀ (n2 : Nat) (li : Nat) (h27 : Nat → Int32), (li ≤ ln i9) → (∀ i, i ≤ pn → h27 i = nI (ed_st f1 (fun k => f4 (8 * i9 + k)) i li)) → ∀ (H : Heap) (locs : List Loc), va_P D gC (mX T o a z0 (nI pn) z3 z14 z18 z19 z20 z21 z24 z26 f1 f4 f5 f6 f7 f8 f9 f10 f11 f12 f13 f15 f16 f17 f22 f23 f25 h27) H → va_D A (mX T o a z0 (nI pn) z3 z14 z18 z19 z20 z21 z24 z26 f1 f4 f5 f6 f7 f8 f9 f10 f11 f12 f13 f15 f16 f17 f22 f23 f25 h27) → va_S A s.heap H locs → ∀ (ls : Array Slot), lv_has ls 6 [(0, .ref o), (1, .int (nI i9)), (2, .int (nI (li + 1)))] → ln i9 - li < n2 → W p l e (headSpec (Cond.code y_M_far b_M_far 6 (some .int) :: bg_W) ({ frames := 0, cells := 0, slots := 0, locals := 0 })).room s m ([.ref o, .int (nI i9)] : List Value).toArray below meth c H locs 0 0 (MQ below (va_Qi (fun (r : Int32) (g27 : (Nat → Int32)) => r = nI (ed_st f1 (fun k => f4 (8 * i9 + k)) pn (ln i9))) (qB D T A (fun g27 : (Nat → Int32) => mX T o a z0 (nI pn) z3 z14 z18 z19 z20 z21 z24 z26 f1 f4 f5 f6 f7 f8 f9 f10 f11 f12 f13 f15 f16 f17 f22 f23 f25 g27)) A) ([.ref o, .int (nI i9)] : List Value).toArray s 0 0 A) (F0 m 25 ls []) := by
          intro n2
          induction n2 with
          | zero => intro li h27 hli hF H locs hP hD hS ls hl hm; exact absurd hm (Nat.not_lt_zero _)
          | succ n2 ih2 =>
            intro li h27 hli hF H locs hP hD hS ls hl hm
            refine lv_iload_n hx hb d_M_far_25 rfl (lv_at hl 2 rfl) ?_
            refine lv_aload_n hx hb d_M_far_26 rfl (lv_at hl 0 rfl) ?_
            refine va_get (D := D) (ci := 6) (v := .ref (a 5)) (C := "TimeWordsModel") (T := F_M) (N := 28) hx hb hw in_M hown hK hP 0 rfl rfl 5 (by decide) (hw _ fl_M_16) (fun _ h9 => h9) rfl d_M_far_27 ?_
            refine lv_iload_n hx hb d_M_far_30 rfl (lv_at hl 1 rfl) ?_
            refine va_iald hx hb hK hP 3 0 rfl rfl (by first | assumption | exact vp_in_nI (by omega) (by omega)) d_M_far_31 ?_
            rw [show (nI i9).toNatClampNeg = i9 from nI_clamp (by omega)]
            rw [hy2 i9]
            refine lv_icmp_gt (tgt := 184) hx hb d_M_far_32 (by decide) (fun c2 => ?_) (fun c2 => ?_)
            · have c2 := nc_lt (a := ln i9) (b := li + 1) c2 (by omega) (by omega)
              refine lv_aload_n hx hb d_M_far_184 rfl (lv_at hl 0 rfl) ?_
              refine va_get (D := D) (ci := 6) (v := .ref (a 27)) (C := "TimeWordsModel") (T := F_M) (N := 28) hx hb hw in_M hown hK hP 0 rfl rfl 27 (by decide) (hw _ fl_M_66) (fun _ h9 => h9) rfl d_M_far_185 ?_
              refine lv_aload_n hx hb d_M_far_188 rfl (lv_at hl 0 rfl) ?_
              refine va_get (D := D) (ci := 6) (v := .int (nI pn)) (C := "TimeWordsModel") (T := F_M) (N := 28) hx hb hw in_M hown hK hP 0 rfl rfl 2 (by decide) (hw _ fl_M_93) (fun _ h9 => h9) rfl d_M_far_189 ?_
              refine va_iald hx hb hK hP 18 0 rfl rfl (by first | assumption | exact vp_in_nI (by omega) (by omega)) d_M_far_192 ?_
              rw [show (nI pn).toNatClampNeg = pn from nI_clamp (by omega)]
              exact W.iret (v := h27 pn) hx hb hr (fun t ht hW => ⟨⟨h27 pn, h27, rfl, (by rw [hF pn (Nat.le_refl _), show li = ln i9 by omega]), by rw [ht]; exact hP, va_K.moved hW.alike hK, hD⟩, hS.F ht⟩) hS.2.2 d_M_far_193
            · have c2 := nc_nlt (a := ln i9) (b := li + 1) c2 (by omega) (by omega)
              refine lv_aload_n hx hb d_M_far_35 rfl (lv_at hl 0 rfl) ?_
              refine va_get (D := D) (ci := 6) (v := .ref (a 27)) (C := "TimeWordsModel") (T := F_M) (N := 28) hx hb hw in_M hown hK hP 0 rfl rfl 27 (by decide) (hw _ fl_M_66) (fun _ h9 => h9) rfl d_M_far_36 ?_
              refine lv_iconst (v := 0) hx hb d_M_far_39 (by decide) ?_
              refine va_iald hx hb hK hP 18 0 rfl rfl (vp_in_nI (n := 0) (by decide) (by decide)) d_M_far_40 ?_
              rw [show (0 : Int32).toNatClampNeg = 0 from by decide]
              rw [hF 0 (Nat.zero_le _), ed_00]
              refine lv_istore_n (lv' := [(3, .int (nI li)), (0, .ref o), (1, .int (nI i9)), (2, .int (nI (li + 1)))]) hx hb d_M_far_41 rfl hl (by decide) rfl (fun ls hl => ?_)
              refine lv_aload_n hx hb d_M_far_42 rfl (lv_at hl 1 rfl) ?_
              refine va_get (D := D) (ci := 6) (v := .ref (a 27)) (C := "TimeWordsModel") (T := F_M) (N := 28) hx hb hw in_M hown hK hP 0 rfl rfl 27 (by decide) (hw _ fl_M_66) (fun _ h9 => h9) rfl d_M_far_43 ?_
              refine lv_iconst (v := 0) hx hb d_M_far_46 (by decide) ?_
              refine lv_iload_n hx hb d_M_far_47 rfl (lv_at hl 3 rfl) ?_
              refine va_iast hx hb hK hP hD hS 18 0 rfl rfl (vp_in_nI (n := 0) (by decide) (by decide)) d_M_far_48 (fun H locs hP hD hS => ?_)
              rw [show (0 : Int32).toNatClampNeg = 0 from by decide] at hP hD
              have hP : va_P D gC (mX T o a z0 (nI pn) z3 z14 z18 z19 z20 z21 z24 z26 f1 f4 f5 f6 f7 f8 f9 f10 f11 f12 f13 f15 f16 f17 f22 f23 f25 (upd h27 0 (nI (li + 1)))) H := hP
              have hD : va_D A (mX T o a z0 (nI pn) z3 z14 z18 z19 z20 z21 z24 z26 f1 f4 f5 f6 f7 f8 f9 f10 f11 f12 f13 f15 f16 f17 f22 f23 f25 (upd h27 0 (nI (li + 1)))) := hD
              refine lv_iconst (v := 1) hx hb d_M_far_49 (by decide) ?_
              refine lv_istore (lv' := [(4, .int 1), (3, .int (nI li)), (0, .ref o), (1, .int (nI i9)), (2, .int (nI (li + 1)))]) hx hb d_M_far_50 hl (by decide) rfl (fun ls hl => ?_)
              have lop3 : ∀ (n3 : Nat) (kk : Nat) (co : Int32) (k27 : Nat → Int32), (kk ≤ pn) → (∀ i, i ≤ kk → k27 i = nI (ed_st f1 (fun k => f4 (8 * i9 + k)) i (li + 1))) → (∀ i, kk < i → i ≤ pn → k27 i = nI (ed_st f1 (fun k => f4 (8 * i9 + k)) i li)) → (co = nI (ed_st f1 (fun k => f4 (8 * i9 + k)) kk li)) → ∀ (H : Heap) (locs : List Loc), va_P D gC (mX T o a z0 (nI pn) z3 z14 z18 z19 z20 z21 z24 z26 f1 f4 f5 f6 f7 f8 f9 f10 f11 f12 f13 f15 f16 f17 f22 f23 f25 k27) H → va_D A (mX T o a z0 (nI pn) z3 z14 z18 z19 z20 z21 z24 z26 f1 f4 f5 f6 f7 f8 f9 f10 f11 f12 f13 f15 f16 f17 f22 f23 f25 k27) → va_S A s.heap H locs → ∀ (ls : Array Slot), lv_has ls 6 [(0, .ref o), (1, .int (nI i9)), (2, .int (nI (li + 1))), (3, .int co), (4, .int (nI (kk + 1)))] → pn - kk < n3 → W p l e (headSpec (Cond.code y_M_far b_M_far 6 (some .int) :: bg_W) ({ frames := 0, cells := 0, slots := 0, locals := 0 })).room s m ([.ref o, .int (nI i9)] : List Value).toArray below meth c H locs 0 0 (MQ below (va_Qi (fun (r : Int32) (g27 : (Nat → Int32)) => r = nI (ed_st f1 (fun k => f4 (8 * i9 + k)) pn (ln i9))) (qB D T A (fun g27 : (Nat → Int32) => mX T o a z0 (nI pn) z3 z14 z18 z19 z20 z21 z24 z26 f1 f4 f5 f6 f7 f8 f9 f10 f11 f12 f13 f15 f16 f17 f22 f23 f25 g27)) A) ([.ref o, .int (nI i9)] : List Value).toArray s 0 0 A) (F0 m 52 ls []) := by
                intro n3
                induction n3 with
                | zero => intro kk co k27 hkk hlo hhi hco H locs hP hD hS ls hl hm; exact absurd hm (Nat.not_lt_zero _)
                | succ n3 ih3 =>
                  intro kk co k27 hkk hlo hhi hco H locs hP hD hS ls hl hm
                  refine lv_iload hx hb d_M_far_52 (lv_at hl 4 rfl) ?_
                  refine lv_aload_n hx hb d_M_far_54 rfl (lv_at hl 0 rfl) ?_
                  refine va_get (D := D) (ci := 6) (v := .int (nI pn)) (C := "TimeWordsModel") (T := F_M) (N := 28) hx hb hw in_M hown hK hP 0 rfl rfl 2 (by decide) (hw _ fl_M_93) (fun _ h9 => h9) rfl d_M_far_55 ?_
                  refine lv_icmp_gt (tgt := 178) hx hb d_M_far_58 (by decide) (fun c3 => ?_) (fun c3 => ?_)
                  · have c3 := nc_lt (a := pn) (b := kk + 1) c3 (by omega) (by omega)
                    refine lv_iinc (v := nI (li + 1 + 1)) (lv' := [(2, .int (nI (li + 1 + 1))), (0, .ref o), (1, .int (nI i9)), (3, .int co), (4, .int (nI (kk + 1)))]) hx hb d_M_far_178 hl (k := 2) rfl (nI_add (li + 1) 1) (by decide) rfl (fun ls hl => ?_)
                    refine lv_goto (tgt := 25) hx hb d_M_far_181 (by decide) ?_
                    exact ih2 (li + 1) k27 (by omega) (fun i hi => hlo i (by omega)) _ _ hP hD hS ls (lv_sub hl [1, 2, 0] rfl) (by omega)
                  · have c3 := nc_nlt (a := pn) (b := kk + 1) c3 (by omega) (by omega)
                    subst hco
                    have b1 := ed_le f1 (fun k => f4 (8 * i9 + k)) kk li
                    have b2 := ed_le f1 (fun k => f4 (8 * i9 + k)) (kk + 1) li
                    have b3 := ed_le f1 (fun k => f4 (8 * i9 + k)) kk (li + 1)
                    refine lv_iload_n hx hb d_M_far_61 rfl (lv_at hl 3 rfl) ?_
                    refine lv_aload_n hx hb d_M_far_62 rfl (lv_at hl 0 rfl) ?_
                    refine va_get (D := D) (ci := 6) (v := .ref (a 4)) (C := "TimeWordsModel") (T := F_M) (N := 28) hx hb hw in_M hown hK hP 0 rfl rfl 4 (by decide) (hw _ fl_M_13) (fun _ h9 => h9) rfl d_M_far_63 ?_
                    refine lv_bipush (v := 8) hx hb d_M_far_66 (by decide) ?_
                    refine lv_iload_n hx hb d_M_far_68 rfl (lv_at hl 1 rfl) ?_
                    refine lv_imul hx hb d_M_far_69 ?_
                    rw [show 8 * (nI i9) = nI (8 * i9) from pk_mul 8 i9]
                    refine lv_iload_n hx hb d_M_far_70 rfl (lv_at hl 2 rfl) ?_
                    refine lv_iadd hx hb d_M_far_71 ?_
                    rw [show (nI (8 * i9)) + (nI (li + 1)) = nI (8 * i9 + (li + 1)) from nI_add (8 * i9) (li + 1)]
                    refine lv_iconst (v := 1) hx hb d_M_far_72 (by decide) ?_
                    refine lv_isub hx hb d_M_far_73 ?_
                    rw [show (nI (8 * i9 + (li + 1))) - 1 = nI ((8 * i9 + (li + 1)) - 1) from pk_sub (a := 8 * i9 + (li + 1)) (b := 1) (by omega)]
                    refine va_iald hx hb hK hP 2 0 rfl rfl (by first | assumption | exact vp_in_nI (by omega) (by omega)) d_M_far_74 ?_
                    rw [show (nI ((8 * i9 + (li + 1)) - 1)).toNatClampNeg = ((8 * i9 + (li + 1)) - 1) from nI_clamp (by omega)]
                    refine lv_aload_n hx hb d_M_far_75 rfl (lv_at hl 0 rfl) ?_
                    refine va_get (D := D) (ci := 6) (v := .ref (a 1)) (C := "TimeWordsModel") (T := F_M) (N := 28) hx hb hw in_M hown hK hP 0 rfl rfl 1 (by decide) (hw _ fl_M_7) (fun _ h9 => h9) rfl d_M_far_76 ?_
                    refine lv_iload hx hb d_M_far_79 (lv_at hl 4 rfl) ?_
                    refine lv_iconst (v := 1) hx hb d_M_far_81 (by decide) ?_
                    refine lv_isub hx hb d_M_far_82 ?_
                    rw [nI_pred]
                    refine va_iald hx hb hK hP 1 0 rfl rfl (by first | assumption | exact vp_in_nI (by omega) (by omega)) d_M_far_83 ?_
                    rw [show (nI kk).toNatClampNeg = kk from nI_clamp (by omega)]
                    refine lv_icmp_ne (tgt := 91) hx hb d_M_far_84 (by decide) (fun c4 => ?_) (fun c4 => ?_)
                    · refine lv_iconst (v := 1) hx hb d_M_far_91 (by decide) ?_
                      refine lv_iadd hx hb d_M_far_92 ?_
                      rw [nI_1]
                      refine lv_istore (lv' := [(5, .int (nI (ed_st f1 (fun k => f4 (8 * i9 + k)) kk li + 1))), (0, .ref o), (1, .int (nI i9)), (2, .int (nI (li + 1))), (3, .int (nI (ed_st f1 (fun k => f4 (8 * i9 + k)) kk li))), (4, .int (nI (kk + 1)))]) hx hb d_M_far_93 hl (by decide) rfl (fun ls hl => ?_)
                      refine lv_aload_n hx hb d_M_far_95 rfl (lv_at hl 1 rfl) ?_
                      refine va_get (D := D) (ci := 6) (v := .ref (a 27)) (C := "TimeWordsModel") (T := F_M) (N := 28) hx hb hw in_M hown hK hP 0 rfl rfl 27 (by decide) (hw _ fl_M_66) (fun _ h9 => h9) rfl d_M_far_96 ?_
                      refine lv_iload hx hb d_M_far_99 (lv_at hl 5 rfl) ?_
                      refine va_iald hx hb hK hP 18 0 rfl rfl (by first | assumption | exact vp_in_nI (by omega) (by omega)) d_M_far_101 ?_
                      rw [show (nI (kk + 1)).toNatClampNeg = (kk + 1) from nI_clamp (by omega)]
                      rw [hhi (kk + 1) (by omega) (by omega)]
                      refine lv_istore_n (lv' := [(3, .int (nI (ed_st f1 (fun k => f4 (8 * i9 + k)) (kk + 1) li))), (5, .int (nI (ed_st f1 (fun k => f4 (8 * i9 + k)) kk li + 1))), (0, .ref o), (1, .int (nI i9)), (2, .int (nI (li + 1))), (4, .int (nI (kk + 1)))]) hx hb d_M_far_102 rfl hl (by decide) rfl (fun ls hl => ?_)
                      refine lv_aload_n hx hb d_M_far_103 rfl (lv_at hl 2 rfl) ?_
                      refine va_get (D := D) (ci := 6) (v := .ref (a 27)) (C := "TimeWordsModel") (T := F_M) (N := 28) hx hb hw in_M hown hK hP 0 rfl rfl 27 (by decide) (hw _ fl_M_66) (fun _ h9 => h9) rfl d_M_far_104 ?_
                      refine lv_iload hx hb d_M_far_107 (lv_at hl 5 rfl) ?_
                      refine va_iald hx hb hK hP 18 0 rfl rfl (by first | assumption | exact vp_in_nI (by omega) (by omega)) d_M_far_109 ?_
                      rw [show (nI (kk + 1)).toNatClampNeg = (kk + 1) from nI_clamp (by omega)]
                      rw [hhi (kk + 1) (by omega) (by omega)]
                      refine lv_iconst (v := 1) hx hb d_M_far_110 (by decide) ?_
                      refine lv_iadd hx hb d_M_far_111 ?_
                      rw [nI_1]
                      refine lv_iload hx hb d_M_far_112 (lv_at hl 1 rfl) ?_
                      refine lv_icmp_ge (tgt := 129) hx hb d_M_far_114 (by decide) (fun c5 => ?_) (fun c5 => ?_)
                      · have c5 := nc_le (a := ed_st f1 (fun k => f4 (8 * i9 + k)) kk li + 1) (b := ed_st f1 (fun k => f4 (8 * i9 + k)) (kk + 1) li + 1) c5 (by omega) (by omega)
                        refine lv_iload hx hb d_M_far_129 (lv_at hl 1 rfl) ?_
                        refine lv_istore (lv' := [(5, .int (nI (ed_st f1 (fun k => f4 (8 * i9 + k)) kk li + 1))), (3, .int (nI (ed_st f1 (fun k => f4 (8 * i9 + k)) (kk + 1) li))), (0, .ref o), (1, .int (nI i9)), (2, .int (nI (li + 1))), (4, .int (nI (kk + 1)))]) hx hb d_M_far_131 hl (by decide) rfl (fun ls hl => ?_)
                        refine lv_aload_n hx hb d_M_far_133 rfl (lv_at hl 2 rfl) ?_
                        refine va_get (D := D) (ci := 6) (v := .ref (a 27)) (C := "TimeWordsModel") (T := F_M) (N := 28) hx hb hw in_M hown hK hP 0 rfl rfl 27 (by decide) (hw _ fl_M_66) (fun _ h9 => h9) rfl d_M_far_134 ?_
                        refine lv_iload hx hb d_M_far_137 (lv_at hl 5 rfl) ?_
                        refine lv_aload_n hx hb d_M_far_139 rfl (lv_at hl 2 rfl) ?_
                        refine va_get (D := D) (ci := 6) (v := .ref (a 27)) (C := "TimeWordsModel") (T := F_M) (N := 28) hx hb hw in_M hown hK hP 0 rfl rfl 27 (by decide) (hw _ fl_M_66) (fun _ h9 => h9) rfl d_M_far_140 ?_
                        refine lv_iload hx hb d_M_far_143 (lv_at hl 5 rfl) ?_
                        refine lv_iconst (v := 1) hx hb d_M_far_145 (by decide) ?_
                        refine lv_isub hx hb d_M_far_146 ?_
                        rw [nI_pred]
                        refine va_iald hx hb hK hP 18 0 rfl rfl (by first | assumption | exact vp_in_nI (by omega) (by omega)) d_M_far_147 ?_
                        rw [show (nI kk).toNatClampNeg = kk from nI_clamp (by omega)]
                        rw [hlo kk (Nat.le_refl _)]
                        refine lv_iconst (v := 1) hx hb d_M_far_148 (by decide) ?_
                        refine lv_iadd hx hb d_M_far_149 ?_
                        rw [nI_1]
                        refine lv_iload hx hb d_M_far_150 (lv_at hl 0 rfl) ?_
                        refine lv_icmp_ge (tgt := 169) hx hb d_M_far_152 (by decide) (fun c6 => ?_) (fun c6 => ?_)
                        · have c6 := nc_le (a := ed_st f1 (fun k => f4 (8 * i9 + k)) kk li + 1) (b := ed_st f1 (fun k => f4 (8 * i9 + k)) kk (li + 1) + 1) c6 (by omega) (by omega)
                          refine lv_iload hx hb d_M_far_169 (lv_at hl 0 rfl) ?_
                          refine va_iast hx hb hK hP hD hS 18 0 rfl rfl (by first | assumption | exact vp_in_nI (by omega) (by omega)) d_M_far_171 (fun H locs hP hD hS => ?_)
                          rw [show (nI (kk + 1)).toNatClampNeg = (kk + 1) from nI_clamp (by omega)] at hP hD
                          have hP : va_P D gC (mX T o a z0 (nI pn) z3 z14 z18 z19 z20 z21 z24 z26 f1 f4 f5 f6 f7 f8 f9 f10 f11 f12 f13 f15 f16 f17 f22 f23 f25 (upd k27 (kk + 1) (nI (ed_st f1 (fun k => f4 (8 * i9 + k)) kk li + 1)))) H := hP
                          have hD : va_D A (mX T o a z0 (nI pn) z3 z14 z18 z19 z20 z21 z24 z26 f1 f4 f5 f6 f7 f8 f9 f10 f11 f12 f13 f15 f16 f17 f22 f23 f25 (upd k27 (kk + 1) (nI (ed_st f1 (fun k => f4 (8 * i9 + k)) kk li + 1)))) := hD
                          refine lv_iinc (v := nI (kk + 1 + 1)) (lv' := [(4, .int (nI (kk + 1 + 1))), (5, .int (nI (ed_st f1 (fun k => f4 (8 * i9 + k)) kk li + 1))), (3, .int (nI (ed_st f1 (fun k => f4 (8 * i9 + k)) (kk + 1) li))), (0, .ref o), (1, .int (nI i9)), (2, .int (nI (li + 1)))]) hx hb d_M_far_172 hl (k := 5) rfl (nI_add (kk + 1) 1) (by decide) rfl (fun ls hl => ?_)
                          refine lv_goto (tgt := 52) hx hb d_M_far_175 (by decide) ?_
                          have hval : nI (ed_st f1 (fun k => f4 (8 * i9 + k)) kk li + 1) = nI (ed_st f1 (fun k => f4 (8 * i9 + k)) (kk + 1) (li + 1)) := by
                            rw [ed_ss]
                            refine congrArg nI ?_
                            rw [if_neg (fun e9 => c4 e9.symm)]
                            omega
                          exact ih3 (kk + 1) (nI (ed_st f1 (fun k => f4 (8 * i9 + k)) (kk + 1) li)) (upd k27 (kk + 1) (nI (ed_st f1 (fun k => f4 (8 * i9 + k)) kk li + 1))) (by omega) (fun i hi => by
                              by_cases e9 : i = kk + 1
                              · subst e9; rw [pk_us]; exact hval
                              · rw [pk_un e9]; exact hlo i (by omega)) (fun i hi hi2 => by rw [pk_un (by omega)]; exact hhi i (by omega) hi2) rfl _ _ hP hD hS ls (lv_sub hl [3, 4, 5, 2, 0] rfl) (by omega)
                        · have c6 := nc_nle (a := ed_st f1 (fun k => f4 (8 * i9 + k)) kk li + 1) (b := ed_st f1 (fun k => f4 (8 * i9 + k)) kk (li + 1) + 1) c6 (by omega) (by omega)
                          refine lv_aload_n hx hb d_M_far_155 rfl (lv_at hl 2 rfl) ?_
                          refine va_get (D := D) (ci := 6) (v := .ref (a 27)) (C := "TimeWordsModel") (T := F_M) (N := 28) hx hb hw in_M hown hK hP 0 rfl rfl 27 (by decide) (hw _ fl_M_66) (fun _ h9 => h9) rfl d_M_far_156 ?_
                          refine lv_iload hx hb d_M_far_159 (lv_at hl 5 rfl) ?_
                          refine lv_iconst (v := 1) hx hb d_M_far_161 (by decide) ?_
                          refine lv_isub hx hb d_M_far_162 ?_
                          rw [nI_pred]
                          refine va_iald hx hb hK hP 18 0 rfl rfl (by first | assumption | exact vp_in_nI (by omega) (by omega)) d_M_far_163 ?_
                          rw [show (nI kk).toNatClampNeg = kk from nI_clamp (by omega)]
                          rw [hlo kk (Nat.le_refl _)]
                          refine lv_iconst (v := 1) hx hb d_M_far_164 (by decide) ?_
                          refine lv_iadd hx hb d_M_far_165 ?_
                          rw [nI_1]
                          refine lv_goto (tgt := 171) hx hb d_M_far_166 (by decide) ?_
                          refine va_iast hx hb hK hP hD hS 18 0 rfl rfl (by first | assumption | exact vp_in_nI (by omega) (by omega)) d_M_far_171 (fun H locs hP hD hS => ?_)
                          rw [show (nI (kk + 1)).toNatClampNeg = (kk + 1) from nI_clamp (by omega)] at hP hD
                          have hP : va_P D gC (mX T o a z0 (nI pn) z3 z14 z18 z19 z20 z21 z24 z26 f1 f4 f5 f6 f7 f8 f9 f10 f11 f12 f13 f15 f16 f17 f22 f23 f25 (upd k27 (kk + 1) (nI (ed_st f1 (fun k => f4 (8 * i9 + k)) kk (li + 1) + 1)))) H := hP
                          have hD : va_D A (mX T o a z0 (nI pn) z3 z14 z18 z19 z20 z21 z24 z26 f1 f4 f5 f6 f7 f8 f9 f10 f11 f12 f13 f15 f16 f17 f22 f23 f25 (upd k27 (kk + 1) (nI (ed_st f1 (fun k => f4 (8 * i9 + k)) kk (li + 1) + 1)))) := hD
                          refine lv_iinc (v := nI (kk + 1 + 1)) (lv' := [(4, .int (nI (kk + 1 + 1))), (5, .int (nI (ed_st f1 (fun k => f4 (8 * i9 + k)) kk li + 1))), (3, .int (nI (ed_st f1 (fun k => f4 (8 * i9 + k)) (kk + 1) li))), (0, .ref o), (1, .int (nI i9)), (2, .int (nI (li + 1)))]) hx hb d_M_far_172 hl (k := 5) rfl (nI_add (kk + 1) 1) (by decide) rfl (fun ls hl => ?_)
                          refine lv_goto (tgt := 52) hx hb d_M_far_175 (by decide) ?_
                          have hval : nI (ed_st f1 (fun k => f4 (8 * i9 + k)) kk (li + 1) + 1) = nI (ed_st f1 (fun k => f4 (8 * i9 + k)) (kk + 1) (li + 1)) := by
                            rw [ed_ss]
                            refine congrArg nI ?_
                            rw [if_neg (fun e9 => c4 e9.symm)]
                            omega
                          exact ih3 (kk + 1) (nI (ed_st f1 (fun k => f4 (8 * i9 + k)) (kk + 1) li)) (upd k27 (kk + 1) (nI (ed_st f1 (fun k => f4 (8 * i9 + k)) kk (li + 1) + 1))) (by omega) (fun i hi => by
                              by_cases e9 : i = kk + 1
                              · subst e9; rw [pk_us]; exact hval
                              · rw [pk_un e9]; exact hlo i (by omega)) (fun i hi hi2 => by rw [pk_un (by omega)]; exact hhi i (by omega) hi2) rfl _ _ hP hD hS ls (lv_sub hl [3, 4, 5, 2, 0] rfl) (by omega)
                      · have c5 := nc_nle (a := ed_st f1 (fun k => f4 (8 * i9 + k)) kk li + 1) (b := ed_st f1 (fun k => f4 (8 * i9 + k)) (kk + 1) li + 1) c5 (by omega) (by omega)
                        refine lv_aload_n hx hb d_M_far_117 rfl (lv_at hl 2 rfl) ?_
                        refine va_get (D := D) (ci := 6) (v := .ref (a 27)) (C := "TimeWordsModel") (T := F_M) (N := 28) hx hb hw in_M hown hK hP 0 rfl rfl 27 (by decide) (hw _ fl_M_66) (fun _ h9 => h9) rfl d_M_far_118 ?_
                        refine lv_iload hx hb d_M_far_121 (lv_at hl 5 rfl) ?_
                        refine va_iald hx hb hK hP 18 0 rfl rfl (by first | assumption | exact vp_in_nI (by omega) (by omega)) d_M_far_123 ?_
                        rw [show (nI (kk + 1)).toNatClampNeg = (kk + 1) from nI_clamp (by omega)]
                        rw [hhi (kk + 1) (by omega) (by omega)]
                        refine lv_iconst (v := 1) hx hb d_M_far_124 (by decide) ?_
                        refine lv_iadd hx hb d_M_far_125 ?_
                        rw [nI_1]
                        refine lv_goto (tgt := 131) hx hb d_M_far_126 (by decide) ?_
                        refine lv_istore (lv' := [(5, .int (nI (ed_st f1 (fun k => f4 (8 * i9 + k)) (kk + 1) li + 1))), (3, .int (nI (ed_st f1 (fun k => f4 (8 * i9 + k)) (kk + 1) li))), (0, .ref o), (1, .int (nI i9)), (2, .int (nI (li + 1))), (4, .int (nI (kk + 1)))]) hx hb d_M_far_131 hl (by decide) rfl (fun ls hl => ?_)
                        refine lv_aload_n hx hb d_M_far_133 rfl (lv_at hl 2 rfl) ?_
                        refine va_get (D := D) (ci := 6) (v := .ref (a 27)) (C := "TimeWordsModel") (T := F_M) (N := 28) hx hb hw in_M hown hK hP 0 rfl rfl 27 (by decide) (hw _ fl_M_66) (fun _ h9 => h9) rfl d_M_far_134 ?_
                        refine lv_iload hx hb d_M_far_137 (lv_at hl 5 rfl) ?_
                        refine lv_aload_n hx hb d_M_far_139 rfl (lv_at hl 2 rfl) ?_
                        refine va_get (D := D) (ci := 6) (v := .ref (a 27)) (C := "TimeWordsModel") (T := F_M) (N := 28) hx hb hw in_M hown hK hP 0 rfl rfl 27 (by decide) (hw _ fl_M_66) (fun _ h9 => h9) rfl d_M_far_140 ?_
                        refine lv_iload hx hb d_M_far_143 (lv_at hl 5 rfl) ?_
                        refine lv_iconst (v := 1) hx hb d_M_far_145 (by decide) ?_
                        refine lv_isub hx hb d_M_far_146 ?_
                        rw [nI_pred]
                        refine va_iald hx hb hK hP 18 0 rfl rfl (by first | assumption | exact vp_in_nI (by omega) (by omega)) d_M_far_147 ?_
                        rw [show (nI kk).toNatClampNeg = kk from nI_clamp (by omega)]
                        rw [hlo kk (Nat.le_refl _)]
                        refine lv_iconst (v := 1) hx hb d_M_far_148 (by decide) ?_
                        refine lv_iadd hx hb d_M_far_149 ?_
                        rw [nI_1]
                        refine lv_iload hx hb d_M_far_150 (lv_at hl 0 rfl) ?_
                        refine lv_icmp_ge (tgt := 169) hx hb d_M_far_152 (by decide) (fun c7 => ?_) (fun c7 => ?_)
                        · have c7 := nc_le (a := ed_st f1 (fun k => f4 (8 * i9 + k)) (kk + 1) li + 1) (b := ed_st f1 (fun k => f4 (8 * i9 + k)) kk (li + 1) + 1) c7 (by omega) (by omega)
                          refine lv_iload hx hb d_M_far_169 (lv_at hl 0 rfl) ?_
                          refine va_iast hx hb hK hP hD hS 18 0 rfl rfl (by first | assumption | exact vp_in_nI (by omega) (by omega)) d_M_far_171 (fun H locs hP hD hS => ?_)
                          rw [show (nI (kk + 1)).toNatClampNeg = (kk + 1) from nI_clamp (by omega)] at hP hD
                          have hP : va_P D gC (mX T o a z0 (nI pn) z3 z14 z18 z19 z20 z21 z24 z26 f1 f4 f5 f6 f7 f8 f9 f10 f11 f12 f13 f15 f16 f17 f22 f23 f25 (upd k27 (kk + 1) (nI (ed_st f1 (fun k => f4 (8 * i9 + k)) (kk + 1) li + 1)))) H := hP
                          have hD : va_D A (mX T o a z0 (nI pn) z3 z14 z18 z19 z20 z21 z24 z26 f1 f4 f5 f6 f7 f8 f9 f10 f11 f12 f13 f15 f16 f17 f22 f23 f25 (upd k27 (kk + 1) (nI (ed_st f1 (fun k => f4 (8 * i9 + k)) (kk + 1) li + 1)))) := hD
                          refine lv_iinc (v := nI (kk + 1 + 1)) (lv' := [(4, .int (nI (kk + 1 + 1))), (5, .int (nI (ed_st f1 (fun k => f4 (8 * i9 + k)) (kk + 1) li + 1))), (3, .int (nI (ed_st f1 (fun k => f4 (8 * i9 + k)) (kk + 1) li))), (0, .ref o), (1, .int (nI i9)), (2, .int (nI (li + 1)))]) hx hb d_M_far_172 hl (k := 5) rfl (nI_add (kk + 1) 1) (by decide) rfl (fun ls hl => ?_)
                          refine lv_goto (tgt := 52) hx hb d_M_far_175 (by decide) ?_
                          have hval : nI (ed_st f1 (fun k => f4 (8 * i9 + k)) (kk + 1) li + 1) = nI (ed_st f1 (fun k => f4 (8 * i9 + k)) (kk + 1) (li + 1)) := by
                            rw [ed_ss]
                            refine congrArg nI ?_
                            rw [if_neg (fun e9 => c4 e9.symm)]
                            omega
                          exact ih3 (kk + 1) (nI (ed_st f1 (fun k => f4 (8 * i9 + k)) (kk + 1) li)) (upd k27 (kk + 1) (nI (ed_st f1 (fun k => f4 (8 * i9 + k)) (kk + 1) li + 1))) (by omega) (fun i hi => by
                              by_cases e9 : i = kk + 1
                              · subst e9; rw [pk_us]; exact hval
                              · rw [pk_un e9]; exact hlo i (by omega)) (fun i hi hi2 => by rw [pk_un (by omega)]; exact hhi i (by omega) hi2) rfl _ _ hP hD hS ls (lv_sub hl [3, 4, 5, 2, 0] rfl) (by omega)
                        · have c7 := nc_nle (a := ed_st f1 (fun k => f4 (8 * i9 + k)) (kk + 1) li + 1) (b := ed_st f1 (fun k => f4 (8 * i9 + k)) kk (li + 1) + 1) c7 (by omega) (by omega)
                          refine lv_aload_n hx hb d_M_far_155 rfl (lv_at hl 2 rfl) ?_
                          refine va_get (D := D) (ci := 6) (v := .ref (a 27)) (C := "TimeWordsModel") (T := F_M) (N := 28) hx hb hw in_M hown hK hP 0 rfl rfl 27 (by decide) (hw _ fl_M_66) (fun _ h9 => h9) rfl d_M_far_156 ?_
                          refine lv_iload hx hb d_M_far_159 (lv_at hl 5 rfl) ?_
                          refine lv_iconst (v := 1) hx hb d_M_far_161 (by decide) ?_
                          refine lv_isub hx hb d_M_far_162 ?_
                          rw [nI_pred]
                          refine va_iald hx hb hK hP 18 0 rfl rfl (by first | assumption | exact vp_in_nI (by omega) (by omega)) d_M_far_163 ?_
                          rw [show (nI kk).toNatClampNeg = kk from nI_clamp (by omega)]
                          rw [hlo kk (Nat.le_refl _)]
                          refine lv_iconst (v := 1) hx hb d_M_far_164 (by decide) ?_
                          refine lv_iadd hx hb d_M_far_165 ?_
                          rw [nI_1]
                          refine lv_goto (tgt := 171) hx hb d_M_far_166 (by decide) ?_
                          refine va_iast hx hb hK hP hD hS 18 0 rfl rfl (by first | assumption | exact vp_in_nI (by omega) (by omega)) d_M_far_171 (fun H locs hP hD hS => ?_)
                          rw [show (nI (kk + 1)).toNatClampNeg = (kk + 1) from nI_clamp (by omega)] at hP hD
                          have hP : va_P D gC (mX T o a z0 (nI pn) z3 z14 z18 z19 z20 z21 z24 z26 f1 f4 f5 f6 f7 f8 f9 f10 f11 f12 f13 f15 f16 f17 f22 f23 f25 (upd k27 (kk + 1) (nI (ed_st f1 (fun k => f4 (8 * i9 + k)) kk (li + 1) + 1)))) H := hP
                          have hD : va_D A (mX T o a z0 (nI pn) z3 z14 z18 z19 z20 z21 z24 z26 f1 f4 f5 f6 f7 f8 f9 f10 f11 f12 f13 f15 f16 f17 f22 f23 f25 (upd k27 (kk + 1) (nI (ed_st f1 (fun k => f4 (8 * i9 + k)) kk (li + 1) + 1)))) := hD
                          refine lv_iinc (v := nI (kk + 1 + 1)) (lv' := [(4, .int (nI (kk + 1 + 1))), (5, .int (nI (ed_st f1 (fun k => f4 (8 * i9 + k)) (kk + 1) li + 1))), (3, .int (nI (ed_st f1 (fun k => f4 (8 * i9 + k)) (kk + 1) li))), (0, .ref o), (1, .int (nI i9)), (2, .int (nI (li + 1)))]) hx hb d_M_far_172 hl (k := 5) rfl (nI_add (kk + 1) 1) (by decide) rfl (fun ls hl => ?_)
                          refine lv_goto (tgt := 52) hx hb d_M_far_175 (by decide) ?_
                          have hval : nI (ed_st f1 (fun k => f4 (8 * i9 + k)) kk (li + 1) + 1) = nI (ed_st f1 (fun k => f4 (8 * i9 + k)) (kk + 1) (li + 1)) := by
                            rw [ed_ss]
                            refine congrArg nI ?_
                            rw [if_neg (fun e9 => c4 e9.symm)]
                            omega
                          exact ih3 (kk + 1) (nI (ed_st f1 (fun k => f4 (8 * i9 + k)) (kk + 1) li)) (upd k27 (kk + 1) (nI (ed_st f1 (fun k => f4 (8 * i9 + k)) kk (li + 1) + 1))) (by omega) (fun i hi => by
                              by_cases e9 : i = kk + 1
                              · subst e9; rw [pk_us]; exact hval
                              · rw [pk_un e9]; exact hlo i (by omega)) (fun i hi hi2 => by rw [pk_un (by omega)]; exact hhi i (by omega) hi2) rfl _ _ hP hD hS ls (lv_sub hl [3, 4, 5, 2, 0] rfl) (by omega)
                    · refine lv_iconst (v := 0) hx hb d_M_far_87 (by decide) ?_
                      refine lv_goto (tgt := 92) hx hb d_M_far_88 (by decide) ?_
                      refine lv_iadd hx hb d_M_far_92 ?_
                      rw [show (nI (ed_st f1 (fun k => f4 (8 * i9 + k)) kk li)) + 0 = nI (ed_st f1 (fun k => f4 (8 * i9 + k)) kk li + 0) from nI_add (ed_st f1 (fun k => f4 (8 * i9 + k)) kk li) 0]
                      refine lv_istore (lv' := [(5, .int (nI (ed_st f1 (fun k => f4 (8 * i9 + k)) kk li + 0))), (0, .ref o), (1, .int (nI i9)), (2, .int (nI (li + 1))), (3, .int (nI (ed_st f1 (fun k => f4 (8 * i9 + k)) kk li))), (4, .int (nI (kk + 1)))]) hx hb d_M_far_93 hl (by decide) rfl (fun ls hl => ?_)
                      refine lv_aload_n hx hb d_M_far_95 rfl (lv_at hl 1 rfl) ?_
                      refine va_get (D := D) (ci := 6) (v := .ref (a 27)) (C := "TimeWordsModel") (T := F_M) (N := 28) hx hb hw in_M hown hK hP 0 rfl rfl 27 (by decide) (hw _ fl_M_66) (fun _ h9 => h9) rfl d_M_far_96 ?_
                      refine lv_iload hx hb d_M_far_99 (lv_at hl 5 rfl) ?_
                      refine va_iald hx hb hK hP 18 0 rfl rfl (by first | assumption | exact vp_in_nI (by omega) (by omega)) d_M_far_101 ?_
                      rw [show (nI (kk + 1)).toNatClampNeg = (kk + 1) from nI_clamp (by omega)]
                      rw [hhi (kk + 1) (by omega) (by omega)]
                      refine lv_istore_n (lv' := [(3, .int (nI (ed_st f1 (fun k => f4 (8 * i9 + k)) (kk + 1) li))), (5, .int (nI (ed_st f1 (fun k => f4 (8 * i9 + k)) kk li + 0))), (0, .ref o), (1, .int (nI i9)), (2, .int (nI (li + 1))), (4, .int (nI (kk + 1)))]) hx hb d_M_far_102 rfl hl (by decide) rfl (fun ls hl => ?_)
                      refine lv_aload_n hx hb d_M_far_103 rfl (lv_at hl 2 rfl) ?_
                      refine va_get (D := D) (ci := 6) (v := .ref (a 27)) (C := "TimeWordsModel") (T := F_M) (N := 28) hx hb hw in_M hown hK hP 0 rfl rfl 27 (by decide) (hw _ fl_M_66) (fun _ h9 => h9) rfl d_M_far_104 ?_
                      refine lv_iload hx hb d_M_far_107 (lv_at hl 5 rfl) ?_
                      refine va_iald hx hb hK hP 18 0 rfl rfl (by first | assumption | exact vp_in_nI (by omega) (by omega)) d_M_far_109 ?_
                      rw [show (nI (kk + 1)).toNatClampNeg = (kk + 1) from nI_clamp (by omega)]
                      rw [hhi (kk + 1) (by omega) (by omega)]
                      refine lv_iconst (v := 1) hx hb d_M_far_110 (by decide) ?_
                      refine lv_iadd hx hb d_M_far_111 ?_
                      rw [nI_1]
                      refine lv_iload hx hb d_M_far_112 (lv_at hl 1 rfl) ?_
                      refine lv_icmp_ge (tgt := 129) hx hb d_M_far_114 (by decide) (fun c8 => ?_) (fun c8 => ?_)
                      · have c8 := nc_le (a := ed_st f1 (fun k => f4 (8 * i9 + k)) kk li + 0) (b := ed_st f1 (fun k => f4 (8 * i9 + k)) (kk + 1) li + 1) c8 (by omega) (by omega)
                        refine lv_iload hx hb d_M_far_129 (lv_at hl 1 rfl) ?_
                        refine lv_istore (lv' := [(5, .int (nI (ed_st f1 (fun k => f4 (8 * i9 + k)) kk li + 0))), (3, .int (nI (ed_st f1 (fun k => f4 (8 * i9 + k)) (kk + 1) li))), (0, .ref o), (1, .int (nI i9)), (2, .int (nI (li + 1))), (4, .int (nI (kk + 1)))]) hx hb d_M_far_131 hl (by decide) rfl (fun ls hl => ?_)
                        refine lv_aload_n hx hb d_M_far_133 rfl (lv_at hl 2 rfl) ?_
                        refine va_get (D := D) (ci := 6) (v := .ref (a 27)) (C := "TimeWordsModel") (T := F_M) (N := 28) hx hb hw in_M hown hK hP 0 rfl rfl 27 (by decide) (hw _ fl_M_66) (fun _ h9 => h9) rfl d_M_far_134 ?_
                        refine lv_iload hx hb d_M_far_137 (lv_at hl 5 rfl) ?_
                        refine lv_aload_n hx hb d_M_far_139 rfl (lv_at hl 2 rfl) ?_
                        refine va_get (D := D) (ci := 6) (v := .ref (a 27)) (C := "TimeWordsModel") (T := F_M) (N := 28) hx hb hw in_M hown hK hP 0 rfl rfl 27 (by decide) (hw _ fl_M_66) (fun _ h9 => h9) rfl d_M_far_140 ?_
                        refine lv_iload hx hb d_M_far_143 (lv_at hl 5 rfl) ?_
                        refine lv_iconst (v := 1) hx hb d_M_far_145 (by decide) ?_
                        refine lv_isub hx hb d_M_far_146 ?_
                        rw [nI_pred]
                        refine va_iald hx hb hK hP 18 0 rfl rfl (by first | assumption | exact vp_in_nI (by omega) (by omega)) d_M_far_147 ?_
                        rw [show (nI kk).toNatClampNeg = kk from nI_clamp (by omega)]
                        rw [hlo kk (Nat.le_refl _)]
                        refine lv_iconst (v := 1) hx hb d_M_far_148 (by decide) ?_
                        refine lv_iadd hx hb d_M_far_149 ?_
                        rw [nI_1]
                        refine lv_iload hx hb d_M_far_150 (lv_at hl 0 rfl) ?_
                        refine lv_icmp_ge (tgt := 169) hx hb d_M_far_152 (by decide) (fun c9 => ?_) (fun c9 => ?_)
                        · have c9 := nc_le (a := ed_st f1 (fun k => f4 (8 * i9 + k)) kk li + 0) (b := ed_st f1 (fun k => f4 (8 * i9 + k)) kk (li + 1) + 1) c9 (by omega) (by omega)
                          refine lv_iload hx hb d_M_far_169 (lv_at hl 0 rfl) ?_
                          refine va_iast hx hb hK hP hD hS 18 0 rfl rfl (by first | assumption | exact vp_in_nI (by omega) (by omega)) d_M_far_171 (fun H locs hP hD hS => ?_)
                          rw [show (nI (kk + 1)).toNatClampNeg = (kk + 1) from nI_clamp (by omega)] at hP hD
                          have hP : va_P D gC (mX T o a z0 (nI pn) z3 z14 z18 z19 z20 z21 z24 z26 f1 f4 f5 f6 f7 f8 f9 f10 f11 f12 f13 f15 f16 f17 f22 f23 f25 (upd k27 (kk + 1) (nI (ed_st f1 (fun k => f4 (8 * i9 + k)) kk li + 0)))) H := hP
                          have hD : va_D A (mX T o a z0 (nI pn) z3 z14 z18 z19 z20 z21 z24 z26 f1 f4 f5 f6 f7 f8 f9 f10 f11 f12 f13 f15 f16 f17 f22 f23 f25 (upd k27 (kk + 1) (nI (ed_st f1 (fun k => f4 (8 * i9 + k)) kk li + 0)))) := hD
                          refine lv_iinc (v := nI (kk + 1 + 1)) (lv' := [(4, .int (nI (kk + 1 + 1))), (5, .int (nI (ed_st f1 (fun k => f4 (8 * i9 + k)) kk li + 0))), (3, .int (nI (ed_st f1 (fun k => f4 (8 * i9 + k)) (kk + 1) li))), (0, .ref o), (1, .int (nI i9)), (2, .int (nI (li + 1)))]) hx hb d_M_far_172 hl (k := 5) rfl (nI_add (kk + 1) 1) (by decide) rfl (fun ls hl => ?_)
                          refine lv_goto (tgt := 52) hx hb d_M_far_175 (by decide) ?_
                          have hval : nI (ed_st f1 (fun k => f4 (8 * i9 + k)) kk li + 0) = nI (ed_st f1 (fun k => f4 (8 * i9 + k)) (kk + 1) (li + 1)) := by
                            rw [ed_ss]
                            refine congrArg nI ?_
                            rw [if_pos (show f1 kk = f4 (8 * i9 + li) from c4.symm)]
                            omega
                          exact ih3 (kk + 1) (nI (ed_st f1 (fun k => f4 (8 * i9 + k)) (kk + 1) li)) (upd k27 (kk + 1) (nI (ed_st f1 (fun k => f4 (8 * i9 + k)) kk li + 0))) (by omega) (fun i hi => by
                              by_cases e9 : i = kk + 1
                              · subst e9; rw [pk_us]; exact hval
                              · rw [pk_un e9]; exact hlo i (by omega)) (fun i hi hi2 => by rw [pk_un (by omega)]; exact hhi i (by omega) hi2) rfl _ _ hP hD hS ls (lv_sub hl [3, 4, 5, 2, 0] rfl) (by omega)
                        · have c9 := nc_nle (a := ed_st f1 (fun k => f4 (8 * i9 + k)) kk li + 0) (b := ed_st f1 (fun k => f4 (8 * i9 + k)) kk (li + 1) + 1) c9 (by omega) (by omega)
                          refine lv_aload_n hx hb d_M_far_155 rfl (lv_at hl 2 rfl) ?_
                          refine va_get (D := D) (ci := 6) (v := .ref (a 27)) (C := "TimeWordsModel") (T := F_M) (N := 28) hx hb hw in_M hown hK hP 0 rfl rfl 27 (by decide) (hw _ fl_M_66) (fun _ h9 => h9) rfl d_M_far_156 ?_
                          refine lv_iload hx hb d_M_far_159 (lv_at hl 5 rfl) ?_
                          refine lv_iconst (v := 1) hx hb d_M_far_161 (by decide) ?_
                          refine lv_isub hx hb d_M_far_162 ?_
                          rw [nI_pred]
                          refine va_iald hx hb hK hP 18 0 rfl rfl (by first | assumption | exact vp_in_nI (by omega) (by omega)) d_M_far_163 ?_
                          rw [show (nI kk).toNatClampNeg = kk from nI_clamp (by omega)]
                          rw [hlo kk (Nat.le_refl _)]
                          refine lv_iconst (v := 1) hx hb d_M_far_164 (by decide) ?_
                          refine lv_iadd hx hb d_M_far_165 ?_
                          rw [nI_1]
                          refine lv_goto (tgt := 171) hx hb d_M_far_166 (by decide) ?_
                          refine va_iast hx hb hK hP hD hS 18 0 rfl rfl (by first | assumption | exact vp_in_nI (by omega) (by omega)) d_M_far_171 (fun H locs hP hD hS => ?_)
                          rw [show (nI (kk + 1)).toNatClampNeg = (kk + 1) from nI_clamp (by omega)] at hP hD
                          have hP : va_P D gC (mX T o a z0 (nI pn) z3 z14 z18 z19 z20 z21 z24 z26 f1 f4 f5 f6 f7 f8 f9 f10 f11 f12 f13 f15 f16 f17 f22 f23 f25 (upd k27 (kk + 1) (nI (ed_st f1 (fun k => f4 (8 * i9 + k)) kk (li + 1) + 1)))) H := hP
                          have hD : va_D A (mX T o a z0 (nI pn) z3 z14 z18 z19 z20 z21 z24 z26 f1 f4 f5 f6 f7 f8 f9 f10 f11 f12 f13 f15 f16 f17 f22 f23 f25 (upd k27 (kk + 1) (nI (ed_st f1 (fun k => f4 (8 * i9 + k)) kk (li + 1) + 1)))) := hD
                          refine lv_iinc (v := nI (kk + 1 + 1)) (lv' := [(4, .int (nI (kk + 1 + 1))), (5, .int (nI (ed_st f1 (fun k => f4 (8 * i9 + k)) kk li + 0))), (3, .int (nI (ed_st f1 (fun k => f4 (8 * i9 + k)) (kk + 1) li))), (0, .ref o), (1, .int (nI i9)), (2, .int (nI (li + 1)))]) hx hb d_M_far_172 hl (k := 5) rfl (nI_add (kk + 1) 1) (by decide) rfl (fun ls hl => ?_)
                          refine lv_goto (tgt := 52) hx hb d_M_far_175 (by decide) ?_
                          have hval : nI (ed_st f1 (fun k => f4 (8 * i9 + k)) kk (li + 1) + 1) = nI (ed_st f1 (fun k => f4 (8 * i9 + k)) (kk + 1) (li + 1)) := by
                            rw [ed_ss]
                            refine congrArg nI ?_
                            rw [if_pos (show f1 kk = f4 (8 * i9 + li) from c4.symm)]
                            omega
                          exact ih3 (kk + 1) (nI (ed_st f1 (fun k => f4 (8 * i9 + k)) (kk + 1) li)) (upd k27 (kk + 1) (nI (ed_st f1 (fun k => f4 (8 * i9 + k)) kk (li + 1) + 1))) (by omega) (fun i hi => by
                              by_cases e9 : i = kk + 1
                              · subst e9; rw [pk_us]; exact hval
                              · rw [pk_un e9]; exact hlo i (by omega)) (fun i hi hi2 => by rw [pk_un (by omega)]; exact hhi i (by omega) hi2) rfl _ _ hP hD hS ls (lv_sub hl [3, 4, 5, 2, 0] rfl) (by omega)
                      · have c8 := nc_nle (a := ed_st f1 (fun k => f4 (8 * i9 + k)) kk li + 0) (b := ed_st f1 (fun k => f4 (8 * i9 + k)) (kk + 1) li + 1) c8 (by omega) (by omega)
                        refine lv_aload_n hx hb d_M_far_117 rfl (lv_at hl 2 rfl) ?_
                        refine va_get (D := D) (ci := 6) (v := .ref (a 27)) (C := "TimeWordsModel") (T := F_M) (N := 28) hx hb hw in_M hown hK hP 0 rfl rfl 27 (by decide) (hw _ fl_M_66) (fun _ h9 => h9) rfl d_M_far_118 ?_
                        refine lv_iload hx hb d_M_far_121 (lv_at hl 5 rfl) ?_
                        refine va_iald hx hb hK hP 18 0 rfl rfl (by first | assumption | exact vp_in_nI (by omega) (by omega)) d_M_far_123 ?_
                        rw [show (nI (kk + 1)).toNatClampNeg = (kk + 1) from nI_clamp (by omega)]
                        rw [hhi (kk + 1) (by omega) (by omega)]
                        refine lv_iconst (v := 1) hx hb d_M_far_124 (by decide) ?_
                        refine lv_iadd hx hb d_M_far_125 ?_
                        rw [nI_1]
                        refine lv_goto (tgt := 131) hx hb d_M_far_126 (by decide) ?_
                        refine lv_istore (lv' := [(5, .int (nI (ed_st f1 (fun k => f4 (8 * i9 + k)) (kk + 1) li + 1))), (3, .int (nI (ed_st f1 (fun k => f4 (8 * i9 + k)) (kk + 1) li))), (0, .ref o), (1, .int (nI i9)), (2, .int (nI (li + 1))), (4, .int (nI (kk + 1)))]) hx hb d_M_far_131 hl (by decide) rfl (fun ls hl => ?_)
                        refine lv_aload_n hx hb d_M_far_133 rfl (lv_at hl 2 rfl) ?_
                        refine va_get (D := D) (ci := 6) (v := .ref (a 27)) (C := "TimeWordsModel") (T := F_M) (N := 28) hx hb hw in_M hown hK hP 0 rfl rfl 27 (by decide) (hw _ fl_M_66) (fun _ h9 => h9) rfl d_M_far_134 ?_
                        refine lv_iload hx hb d_M_far_137 (lv_at hl 5 rfl) ?_
                        refine lv_aload_n hx hb d_M_far_139 rfl (lv_at hl 2 rfl) ?_
                        refine va_get (D := D) (ci := 6) (v := .ref (a 27)) (C := "TimeWordsModel") (T := F_M) (N := 28) hx hb hw in_M hown hK hP 0 rfl rfl 27 (by decide) (hw _ fl_M_66) (fun _ h9 => h9) rfl d_M_far_140 ?_
                        refine lv_iload hx hb d_M_far_143 (lv_at hl 5 rfl) ?_
                        refine lv_iconst (v := 1) hx hb d_M_far_145 (by decide) ?_
                        refine lv_isub hx hb d_M_far_146 ?_
                        rw [nI_pred]
                        refine va_iald hx hb hK hP 18 0 rfl rfl (by first | assumption | exact vp_in_nI (by omega) (by omega)) d_M_far_147 ?_
                        rw [show (nI kk).toNatClampNeg = kk from nI_clamp (by omega)]
                        rw [hlo kk (Nat.le_refl _)]
                        refine lv_iconst (v := 1) hx hb d_M_far_148 (by decide) ?_
                        refine lv_iadd hx hb d_M_far_149 ?_
                        rw [nI_1]
                        refine lv_iload hx hb d_M_far_150 (lv_at hl 0 rfl) ?_
                        refine lv_icmp_ge (tgt := 169) hx hb d_M_far_152 (by decide) (fun c10 => ?_) (fun c10 => ?_)
                        · have c10 := nc_le (a := ed_st f1 (fun k => f4 (8 * i9 + k)) (kk + 1) li + 1) (b := ed_st f1 (fun k => f4 (8 * i9 + k)) kk (li + 1) + 1) c10 (by omega) (by omega)
                          refine lv_iload hx hb d_M_far_169 (lv_at hl 0 rfl) ?_
                          refine va_iast hx hb hK hP hD hS 18 0 rfl rfl (by first | assumption | exact vp_in_nI (by omega) (by omega)) d_M_far_171 (fun H locs hP hD hS => ?_)
                          rw [show (nI (kk + 1)).toNatClampNeg = (kk + 1) from nI_clamp (by omega)] at hP hD
                          have hP : va_P D gC (mX T o a z0 (nI pn) z3 z14 z18 z19 z20 z21 z24 z26 f1 f4 f5 f6 f7 f8 f9 f10 f11 f12 f13 f15 f16 f17 f22 f23 f25 (upd k27 (kk + 1) (nI (ed_st f1 (fun k => f4 (8 * i9 + k)) (kk + 1) li + 1)))) H := hP
                          have hD : va_D A (mX T o a z0 (nI pn) z3 z14 z18 z19 z20 z21 z24 z26 f1 f4 f5 f6 f7 f8 f9 f10 f11 f12 f13 f15 f16 f17 f22 f23 f25 (upd k27 (kk + 1) (nI (ed_st f1 (fun k => f4 (8 * i9 + k)) (kk + 1) li + 1)))) := hD
                          refine lv_iinc (v := nI (kk + 1 + 1)) (lv' := [(4, .int (nI (kk + 1 + 1))), (5, .int (nI (ed_st f1 (fun k => f4 (8 * i9 + k)) (kk + 1) li + 1))), (3, .int (nI (ed_st f1 (fun k => f4 (8 * i9 + k)) (kk + 1) li))), (0, .ref o), (1, .int (nI i9)), (2, .int (nI (li + 1)))]) hx hb d_M_far_172 hl (k := 5) rfl (nI_add (kk + 1) 1) (by decide) rfl (fun ls hl => ?_)
                          refine lv_goto (tgt := 52) hx hb d_M_far_175 (by decide) ?_
                          have hval : nI (ed_st f1 (fun k => f4 (8 * i9 + k)) (kk + 1) li + 1) = nI (ed_st f1 (fun k => f4 (8 * i9 + k)) (kk + 1) (li + 1)) := by
                            rw [ed_ss]
                            refine congrArg nI ?_
                            rw [if_pos (show f1 kk = f4 (8 * i9 + li) from c4.symm)]
                            omega
                          exact ih3 (kk + 1) (nI (ed_st f1 (fun k => f4 (8 * i9 + k)) (kk + 1) li)) (upd k27 (kk + 1) (nI (ed_st f1 (fun k => f4 (8 * i9 + k)) (kk + 1) li + 1))) (by omega) (fun i hi => by
                              by_cases e9 : i = kk + 1
                              · subst e9; rw [pk_us]; exact hval
                              · rw [pk_un e9]; exact hlo i (by omega)) (fun i hi hi2 => by rw [pk_un (by omega)]; exact hhi i (by omega) hi2) rfl _ _ hP hD hS ls (lv_sub hl [3, 4, 5, 2, 0] rfl) (by omega)
                        · have c10 := nc_nle (a := ed_st f1 (fun k => f4 (8 * i9 + k)) (kk + 1) li + 1) (b := ed_st f1 (fun k => f4 (8 * i9 + k)) kk (li + 1) + 1) c10 (by omega) (by omega)
                          refine lv_aload_n hx hb d_M_far_155 rfl (lv_at hl 2 rfl) ?_
                          refine va_get (D := D) (ci := 6) (v := .ref (a 27)) (C := "TimeWordsModel") (T := F_M) (N := 28) hx hb hw in_M hown hK hP 0 rfl rfl 27 (by decide) (hw _ fl_M_66) (fun _ h9 => h9) rfl d_M_far_156 ?_
                          refine lv_iload hx hb d_M_far_159 (lv_at hl 5 rfl) ?_
                          refine lv_iconst (v := 1) hx hb d_M_far_161 (by decide) ?_
                          refine lv_isub hx hb d_M_far_162 ?_
                          rw [nI_pred]
                          refine va_iald hx hb hK hP 18 0 rfl rfl (by first | assumption | exact vp_in_nI (by omega) (by omega)) d_M_far_163 ?_
                          rw [show (nI kk).toNatClampNeg = kk from nI_clamp (by omega)]
                          rw [hlo kk (Nat.le_refl _)]
                          refine lv_iconst (v := 1) hx hb d_M_far_164 (by decide) ?_
                          refine lv_iadd hx hb d_M_far_165 ?_
                          rw [nI_1]
                          refine lv_goto (tgt := 171) hx hb d_M_far_166 (by decide) ?_
                          refine va_iast hx hb hK hP hD hS 18 0 rfl rfl (by first | assumption | exact vp_in_nI (by omega) (by omega)) d_M_far_171 (fun H locs hP hD hS => ?_)
                          rw [show (nI (kk + 1)).toNatClampNeg = (kk + 1) from nI_clamp (by omega)] at hP hD
                          have hP : va_P D gC (mX T o a z0 (nI pn) z3 z14 z18 z19 z20 z21 z24 z26 f1 f4 f5 f6 f7 f8 f9 f10 f11 f12 f13 f15 f16 f17 f22 f23 f25 (upd k27 (kk + 1) (nI (ed_st f1 (fun k => f4 (8 * i9 + k)) kk (li + 1) + 1)))) H := hP
                          have hD : va_D A (mX T o a z0 (nI pn) z3 z14 z18 z19 z20 z21 z24 z26 f1 f4 f5 f6 f7 f8 f9 f10 f11 f12 f13 f15 f16 f17 f22 f23 f25 (upd k27 (kk + 1) (nI (ed_st f1 (fun k => f4 (8 * i9 + k)) kk (li + 1) + 1)))) := hD
                          refine lv_iinc (v := nI (kk + 1 + 1)) (lv' := [(4, .int (nI (kk + 1 + 1))), (5, .int (nI (ed_st f1 (fun k => f4 (8 * i9 + k)) (kk + 1) li + 1))), (3, .int (nI (ed_st f1 (fun k => f4 (8 * i9 + k)) (kk + 1) li))), (0, .ref o), (1, .int (nI i9)), (2, .int (nI (li + 1)))]) hx hb d_M_far_172 hl (k := 5) rfl (nI_add (kk + 1) 1) (by decide) rfl (fun ls hl => ?_)
                          refine lv_goto (tgt := 52) hx hb d_M_far_175 (by decide) ?_
                          have hval : nI (ed_st f1 (fun k => f4 (8 * i9 + k)) kk (li + 1) + 1) = nI (ed_st f1 (fun k => f4 (8 * i9 + k)) (kk + 1) (li + 1)) := by
                            rw [ed_ss]
                            refine congrArg nI ?_
                            rw [if_pos (show f1 kk = f4 (8 * i9 + li) from c4.symm)]
                            omega
                          exact ih3 (kk + 1) (nI (ed_st f1 (fun k => f4 (8 * i9 + k)) (kk + 1) li)) (upd k27 (kk + 1) (nI (ed_st f1 (fun k => f4 (8 * i9 + k)) kk (li + 1) + 1))) (by omega) (fun i hi => by
                              by_cases e9 : i = kk + 1
                              · subst e9; rw [pk_us]; exact hval
                              · rw [pk_un e9]; exact hlo i (by omega)) (fun i hi hi2 => by rw [pk_un (by omega)]; exact hhi i (by omega) hi2) rfl _ _ hP hD hS ls (lv_sub hl [3, 4, 5, 2, 0] rfl) (by omega)
              exact lop3 ((pn - 0) + 1) 0 (nI li) (upd h27 0 (nI (li + 1))) (Nat.zero_le _) (fun i hi => by rw [show i = 0 by omega, pk_us, ed_00]) (fun i hi hi2 => by rw [pk_un (by omega)]; exact hF i hi2) (by rw [ed_00]) _ _ hP hD hS ls (lv_sub hl [2, 3, 4, 1, 0] rfl) (Nat.lt_succ_self _)
        exact lop2 ((ln i9 - 0) + 1) 0 g27 (Nat.zero_le _) (fun i hi => by rw [ed_i0]; exact hE i (by omega)) _ _ hP hD hS ls (lv_sub hl [1, 2, 0] rfl) (Nat.lt_succ_self _)
      · have c1 := nc_nlt (a := pn) (b := k) c1 (by omega) (by omega)
        refine lv_aload_n hx hb d_M_far_10 rfl (lv_at hl 0 rfl) ?_
        refine va_get (D := D) (ci := 6) (v := .ref (a 27)) (C := "TimeWordsModel") (T := F_M) (N := 28) hx hb hw in_M hown hK hP 0 rfl rfl 27 (by decide) (hw _ fl_M_66) (fun _ h9 => h9) rfl d_M_far_11 ?_
        refine lv_iload_n hx hb d_M_far_14 rfl (lv_at hl 2 rfl) ?_
        refine lv_iload_n hx hb d_M_far_15 rfl (lv_at hl 2 rfl) ?_
        refine va_iast hx hb hK hP hD hS 18 0 rfl rfl (by first | assumption | exact vp_in_nI (by omega) (by omega)) d_M_far_16 (fun H locs hP hD hS => ?_)
        rw [show (nI k).toNatClampNeg = k from nI_clamp (by omega)] at hP hD
        have hP : va_P D gC (mX T o a z0 (nI pn) z3 z14 z18 z19 z20 z21 z24 z26 f1 f4 f5 f6 f7 f8 f9 f10 f11 f12 f13 f15 f16 f17 f22 f23 f25 (upd g27 k (nI k))) H := hP
        have hD : va_D A (mX T o a z0 (nI pn) z3 z14 z18 z19 z20 z21 z24 z26 f1 f4 f5 f6 f7 f8 f9 f10 f11 f12 f13 f15 f16 f17 f22 f23 f25 (upd g27 k (nI k))) := hD
        refine lv_iinc (v := nI (k + 1)) (lv' := [(2, .int (nI (k + 1))), (0, .ref o), (1, .int (nI i9))]) hx hb d_M_far_17 hl (k := 2) rfl (nI_add k 1) (by decide) rfl (fun ls hl => ?_)
        refine lv_goto (tgt := 2) hx hb d_M_far_20 (by decide) ?_
        exact ih (k + 1) (upd g27 k (nI k)) (by omega) (fun i hi => by
            by_cases e9 : i = k
            · subst e9; exact pk_us
            · rw [pk_un e9]; exact hE i (by omega)) _ _ hP hD hS ls (lv_sub hl [1, 2, 0] rfl) (by omega)
  exact loop ((pn + 1 - 0) + 1) 0 f27 (Nat.zero_le _) lt_0 _ _ hP hD hS ls (lv_sub hl [1, 2, 0] rfl) (Nat.lt_succ_self _)

set_option maxHeartbeats 4000000 in
set_option maxRecDepth 100000 in
theorem k_M_near (l : Launch) (D : va_G) (T : gT) (o : Nat) (a : Nat → Nat) (z0 : Int32) (pn nn : Nat) (z14 z18 z19 z20 z21 z24 z26 : Int32) (f1 f4 f5 f6 f7 f8 f9 f10 f11 f12 f13 f15 f16 f17 f22 f23 f25 f27 : Nat → Int32) (sz : Nat) (ln : Nat → Nat) (hy0 : nn ≤ 24) (hy1 : pn ≤ 24) (hy2 : ∀ i, f5 i = nI (ln i)) (hy3 : ∀ i, ln i ≤ 8) : Met l y_M_near (Cond.code y_M_near b_M_near 5 (some .int) :: bg_W) ({ frames := 1, cells := 0, slots := 0, locals := 25 }) (qP D T (mX T o a z0 (nI pn) (nI nn) z14 z18 z19 z20 z21 z24 z26 f1 f4 f5 f6 f7 f8 f9 f10 f11 f12 f13 f15 f16 f17 f22 f23 f25 f27) [.ref o] sz) (va_Qi (fun (r : Int32) (u : Int32 × (Nat → Int32)) => match u with | (w0, g27) => r = (j_nr (fun i => ed_st f1 (fun k => f4 (8 * i + k)) pn (ln i)) nn).1 ∧ w0 = 0) (qB D T (va_A (mX T o a z0 (nI pn) (nI nn) z14 z18 z19 z20 z21 z24 z26 f1 f4 f5 f6 f7 f8 f9 f10 f11 f12 f13 f15 f16 f17 f22 f23 f25 f27) sz) (fun u : Int32 × (Nat → Int32) => match u with | (w0, g27) => mX T o a w0 (nI pn) (nI nn) z14 z18 z19 z20 z21 z24 z26 f1 f4 f5 f6 f7 f8 f9 f10 f11 f12 f13 f15 f16 f17 f22 f23 f25 g27)) (va_A (mX T o a z0 (nI pn) (nI nn) z14 z18 z19 z20 z21 z24 z26 f1 f4 f5 f6 f7 f8 f9 f10 f11 f12 f13 f15 f16 f17 f22 f23 f25 f27) sz)) 0 0 (va_A (mX T o a z0 (nI pn) (nI nn) z14 z18 z19 z20 z21 z24 z26 f1 f4 f5 f6 f7 f8 f9 f10 f11 f12 f13 f15 f16 f17 f22 f23 f25 f27) sz) := by
  refine Met.ofW (cc := b_M_near) (maxL := 5) (ret := (some .int)) (by decide) rfl ?_
  intro p e s m args below meth c s₁ B hml hv
  obtain ⟨rfl, hsz, hP, hK, hD0⟩ := hv
  have hx := B.exec
  have hb := B.bytes
  have hr := B.returns
  have hw : ∀ w ∈ bg_W, w.before ([.ref o] : List Value).toArray s = true := fun w h => atoms_spec (ws := (Cond.code y_M_near b_M_near 5 (some .int) :: bg_W)) B.pre w (List.mem_cons_of_mem _ h)
  have hown : s.vm.findClass "TimeWordsModel" = some m.cls := findClass_of_methodNamed B.named
  have hlocks := B.notSynchronized
  subst hsz
  have hD := hD0.self (sz := s.heap.size)
  generalize hAe : va_A (mX T o a z0 (nI pn) (nI nn) z14 z18 z19 z20 z21 z24 z26 f1 f4 f5 f6 f7 f8 f9 f10 f11 f12 f13 f15 f16 f17 f22 f23 f25 f27) s.heap.size = A at hD ⊢
  have hA : ∀ q : Nat, s.heap.size ≤ q → A q := fun q h => by rw [← hAe]; exact Or.inr h
  have hS : va_S A s.heap s.heap [] := va_S.rf
  have hl := lv_entry ([.ref o]) (n := 5) (Nat.le_of_ble_eq_true rfl)
  rw [lg_entry_eq]
  generalize (lg_sl ([.ref o]) ++ List.replicate (5 - (lg_sl ([.ref o])).length) Slot.unset).toArray = ls at hl ⊢
  have hl : lv_has ls 5 [(0, .ref o)] := hl
  refine lv_aload_n hx hb d_M_near_0 rfl (lv_at hl 0 rfl) ?_
  refine lv_iconst (v := 0) hx hb d_M_near_1 (by decide) ?_
  refine va_put (D := D) (ci := 6) (v := .int 0) (ty := .int) (C := "TimeWordsModel") (T := F_M) (N := 28) hx hb hw in_M ty_M ty_M_ok n_M hown hK hP hD hS 0 rfl rfl 0 (by decide) (hw _ fl_M_69) (fun _ h9 => h9) rfl (by decide +kernel) rfl rfl (Nat.le_of_ble_eq_true rfl) d_M_near_2 (fun H locs hP hD hS => ?_)
  have hP : va_P D gC (mX T o a 0 (nI pn) (nI nn) z14 z18 z19 z20 z21 z24 z26 f1 f4 f5 f6 f7 f8 f9 f10 f11 f12 f13 f15 f16 f17 f22 f23 f25 f27) H := hP
  have hD : va_D A (mX T o a 0 (nI pn) (nI nn) z14 z18 z19 z20 z21 z24 z26 f1 f4 f5 f6 f7 f8 f9 f10 f11 f12 f13 f15 f16 f17 f22 f23 f25 f27) := hD
  refine lv_iconst (v := (-1)) hx hb d_M_near_5 (by decide) ?_
  refine lv_istore_n (lv' := [(1, .int (-1)), (0, .ref o)]) hx hb d_M_near_6 rfl hl (by decide) rfl (fun ls hl => ?_)
  refine lv_bipush (v := 100) hx hb d_M_near_7 (by decide) ?_
  refine lv_istore_n (lv' := [(2, .int 100), (1, .int (-1)), (0, .ref o)]) hx hb d_M_near_9 rfl hl (by decide) rfl (fun ls hl => ?_)
  refine lv_iconst (v := 0) hx hb d_M_near_10 (by decide) ?_
  refine lv_istore_n (lv' := [(3, .int 0), (2, .int 100), (1, .int (-1)), (0, .ref o)]) hx hb d_M_near_11 rfl hl (by decide) rfl (fun ls hl => ?_)
  have loop : ∀ (n : Nat) (i9 : Nat) (fd : Int32) (le : Nat) (g27 : Nat → Int32), (i9 ≤ nn) → ((fd, le) = j_nr (fun i => ed_st f1 (fun k => f4 (8 * i + k)) pn (ln i)) i9) → (le ≤ 100) → ∀ (H : Heap) (locs : List Loc), va_P D gC (mX T o a 0 (nI pn) (nI nn) z14 z18 z19 z20 z21 z24 z26 f1 f4 f5 f6 f7 f8 f9 f10 f11 f12 f13 f15 f16 f17 f22 f23 f25 g27) H → va_D A (mX T o a 0 (nI pn) (nI nn) z14 z18 z19 z20 z21 z24 z26 f1 f4 f5 f6 f7 f8 f9 f10 f11 f12 f13 f15 f16 f17 f22 f23 f25 g27) → va_S A s.heap H locs → ∀ (ls : Array Slot), lv_has ls 5 [(0, .ref o), (1, .int fd), (2, .int (nI le)), (3, .int (nI i9))] → nn - i9 < n → W p l e (headSpec (Cond.code y_M_near b_M_near 5 (some .int) :: bg_W) ({ frames := 1, cells := 0, slots := 0, locals := 25 })).room s m ([.ref o] : List Value).toArray below meth c H locs 0 0 (MQ below (va_Qi (fun (r : Int32) (u : Int32 × (Nat → Int32)) => match u with | (w0, g27) => r = (j_nr (fun i => ed_st f1 (fun k => f4 (8 * i + k)) pn (ln i)) nn).1 ∧ w0 = 0) (qB D T A (fun u : Int32 × (Nat → Int32) => match u with | (w0, g27) => mX T o a w0 (nI pn) (nI nn) z14 z18 z19 z20 z21 z24 z26 f1 f4 f5 f6 f7 f8 f9 f10 f11 f12 f13 f15 f16 f17 f22 f23 f25 g27)) A) ([.ref o] : List Value).toArray s 0 0 A) (F0 m 12 ls []) := by
    intro n
    induction n with
    | zero => intro i9 fd le g27 hi9 hIn hle H locs hP hD hS ls hl hm; exact absurd hm (Nat.not_lt_zero _)
    | succ n ih =>
      intro i9 fd le g27 hi9 hIn hle H locs hP hD hS ls hl hm
      have b1 := ed_le f1 (fun k => f4 (8 * i9 + k)) pn (ln i9)
      have h8 := hy3 i9
      refine lv_iload_n hx hb d_M_near_12 rfl (lv_at hl 3 rfl) ?_
      refine lv_aload_n hx hb d_M_near_13 rfl (lv_at hl 0 rfl) ?_
      refine va_get (D := D) (ci := 6) (v := .int (nI nn)) (C := "TimeWordsModel") (T := F_M) (N := 28) hx hb hw in_M hown hK hP 0 rfl rfl 3 (by decide) (hw _ fl_M_76) (fun _ h9 => h9) rfl d_M_near_14 ?_
      refine lv_icmp_ge (tgt := 58) hx hb d_M_near_17 (by decide) (fun c1 => ?_) (fun c1 => ?_)
      · have c1 := nc_le (a := nn) (b := i9) c1 (by omega) (by omega)
        refine lv_iload_n hx hb d_M_near_58 rfl (lv_at hl 1 rfl) ?_
        exact W.iret (v := fd) hx hb hr (fun t ht hW => ⟨⟨fd, (0, g27), rfl, ⟨by rw [← show i9 = nn by omega, ← hIn], rfl⟩, by rw [ht]; exact hP, va_K.moved hW.alike hK, hD⟩, hS.F ht⟩) hS.2.2 d_M_near_59
      · have c1 := nc_nle (a := nn) (b := i9) c1 (by omega) (by omega)
        refine lv_aload_n hx hb d_M_near_20 rfl (lv_at hl 0 rfl) ?_
        refine lv_iload_n hx hb d_M_near_21 rfl (lv_at hl 3 rfl) ?_
        refine g_calli (va_runV (As := [.int (nI i9)]) (rest := []) ⟨hx, hb, hml, hown, hw⟩ (k_M_far l D T o a 0 pn (nI nn) z14 z18 z19 z20 z21 z24 z26 f1 f4 f5 f6 f7 f8 f9 f10 f11 f12 f13 f15 f16 f17 f22 f23 f25 g27 H.size i9 ln (by omega) hy1 hy2 hy3) (cwV 1 hw (bg_V ml_M_205 wi_M_far wv_M_far wz_M wc_M_far) rfl rfl rfl (by decide +kernel) ⟨Nat.le_of_ble_eq_true rfl, Nat.le_of_ble_eq_true rfl⟩) ⟨qP_b, va_recv hK hP (ci := 6) (q0 := 0) rfl rfl, qP_p hP hK hD⟩ rfl rfl hl.1 rfl (lv_room (Nat.le_of_ble_eq_true rfl)) d_M_near_22 ⟨Nat.le_of_ble_eq_true rfl, Nat.le_of_ble_eq_true rfl⟩) hD hS hA (fun r2 u3 H locs hr2 hP hD hS => ?_)
        have hP : va_P D gC (mX T o a 0 (nI pn) (nI nn) z14 z18 z19 z20 z21 z24 z26 f1 f4 f5 f6 f7 f8 f9 f10 f11 f12 f13 f15 f16 f17 f22 f23 f25 u3) H := hP
        have hD : va_D A (mX T o a 0 (nI pn) (nI nn) z14 z18 z19 z20 z21 z24 z26 f1 f4 f5 f6 f7 f8 f9 f10 f11 f12 f13 f15 f16 f17 f22 f23 f25 u3) := hD
        replace hr2 := hr2.symm; subst hr2
        refine lv_istore (lv' := [(4, .int (nI (ed_st f1 (fun k => f4 (8 * i9 + k)) pn (ln i9)))), (0, .ref o), (1, .int fd), (2, .int (nI le)), (3, .int (nI i9))]) hx hb d_M_near_25 hl (by decide) rfl (fun ls hl => ?_)
        refine lv_iload hx hb d_M_near_27 (lv_at hl 0 rfl) ?_
        refine lv_iload_n hx hb d_M_near_29 rfl (lv_at hl 3 rfl) ?_
        refine lv_icmp_ge (tgt := 37) hx hb d_M_near_30 (by decide) (fun c4 => ?_) (fun c4 => ?_)
        · have c4 := nc_le (a := le) (b := ed_st f1 (fun k => f4 (8 * i9 + k)) pn (ln i9)) c4 (by omega) (by omega)
          refine lv_iload_n hx hb d_M_near_37 rfl (lv_at hl 2 rfl) ?_
          refine lv_istore_n (lv' := [(1, .int fd), (4, .int (nI (ed_st f1 (fun k => f4 (8 * i9 + k)) pn (ln i9)))), (0, .ref o), (2, .int (nI le)), (3, .int (nI i9))]) hx hb d_M_near_38 rfl hl (by decide) rfl (fun ls hl => ?_)
          refine lv_iload hx hb d_M_near_39 (lv_at hl 1 rfl) ?_
          refine lv_iload_n hx hb d_M_near_41 rfl (lv_at hl 3 rfl) ?_
          refine lv_icmp_ge (tgt := 50) hx hb d_M_near_42 (by decide) (fun c5 => ?_) (fun c5 => ?_)
          · have c5 := nc_le (a := le) (b := ed_st f1 (fun k => f4 (8 * i9 + k)) pn (ln i9)) c5 (by omega) (by omega)
            refine lv_iload_n hx hb d_M_near_50 rfl (lv_at hl 3 rfl) ?_
            refine lv_istore_n (lv' := [(2, .int (nI le)), (1, .int fd), (4, .int (nI (ed_st f1 (fun k => f4 (8 * i9 + k)) pn (ln i9)))), (0, .ref o), (3, .int (nI i9))]) hx hb d_M_near_51 rfl hl (by decide) rfl (fun ls hl => ?_)
            refine lv_iinc (v := nI (i9 + 1)) (lv' := [(3, .int (nI (i9 + 1))), (2, .int (nI le)), (1, .int fd), (4, .int (nI (ed_st f1 (fun k => f4 (8 * i9 + k)) pn (ln i9)))), (0, .ref o)]) hx hb d_M_near_52 hl (k := 4) rfl (nI_add i9 1) (by decide) rfl (fun ls hl => ?_)
            refine lv_goto (tgt := 12) hx hb d_M_near_55 (by decide) ?_
            exact ih (i9 + 1) fd le u3 (by omega) (by rw [j_nr, if_neg (by rw [← hIn]; show ¬ ed_st f1 (fun k => f4 (8 * i9 + k)) pn (ln i9) < le; omega)]; exact hIn) hle _ _ hP hD hS ls (lv_sub hl [4, 2, 1, 0] rfl) (by omega)
          · have c5 := nc_nle (a := le) (b := ed_st f1 (fun k => f4 (8 * i9 + k)) pn (ln i9)) c5 (by omega) (by omega)
            refine lv_iload hx hb d_M_near_45 (lv_at hl 1 rfl) ?_
            refine lv_goto (tgt := 51) hx hb d_M_near_47 (by decide) ?_
            refine lv_istore_n (lv' := [(2, .int (nI (ed_st f1 (fun k => f4 (8 * i9 + k)) pn (ln i9)))), (1, .int fd), (4, .int (nI (ed_st f1 (fun k => f4 (8 * i9 + k)) pn (ln i9)))), (0, .ref o), (3, .int (nI i9))]) hx hb d_M_near_51 rfl hl (by decide) rfl (fun ls hl => ?_)
            refine lv_iinc (v := nI (i9 + 1)) (lv' := [(3, .int (nI (i9 + 1))), (2, .int (nI (ed_st f1 (fun k => f4 (8 * i9 + k)) pn (ln i9)))), (1, .int fd), (4, .int (nI (ed_st f1 (fun k => f4 (8 * i9 + k)) pn (ln i9)))), (0, .ref o)]) hx hb d_M_near_52 hl (k := 4) rfl (nI_add i9 1) (by decide) rfl (fun ls hl => ?_)
            refine lv_goto (tgt := 12) hx hb d_M_near_55 (by decide) ?_
            exact absurd c5 (by omega)
        · have c4 := nc_nle (a := le) (b := ed_st f1 (fun k => f4 (8 * i9 + k)) pn (ln i9)) c4 (by omega) (by omega)
          refine lv_iload_n hx hb d_M_near_33 rfl (lv_at hl 4 rfl) ?_
          refine lv_goto (tgt := 38) hx hb d_M_near_34 (by decide) ?_
          refine lv_istore_n (lv' := [(1, .int (nI i9)), (4, .int (nI (ed_st f1 (fun k => f4 (8 * i9 + k)) pn (ln i9)))), (0, .ref o), (2, .int (nI le)), (3, .int (nI i9))]) hx hb d_M_near_38 rfl hl (by decide) rfl (fun ls hl => ?_)
          refine lv_iload hx hb d_M_near_39 (lv_at hl 1 rfl) ?_
          refine lv_iload_n hx hb d_M_near_41 rfl (lv_at hl 3 rfl) ?_
          refine lv_icmp_ge (tgt := 50) hx hb d_M_near_42 (by decide) (fun c6 => ?_) (fun c6 => ?_)
          · have c6 := nc_le (a := le) (b := ed_st f1 (fun k => f4 (8 * i9 + k)) pn (ln i9)) c6 (by omega) (by omega)
            refine lv_iload_n hx hb d_M_near_50 rfl (lv_at hl 3 rfl) ?_
            refine lv_istore_n (lv' := [(2, .int (nI le)), (1, .int (nI i9)), (4, .int (nI (ed_st f1 (fun k => f4 (8 * i9 + k)) pn (ln i9)))), (0, .ref o), (3, .int (nI i9))]) hx hb d_M_near_51 rfl hl (by decide) rfl (fun ls hl => ?_)
            refine lv_iinc (v := nI (i9 + 1)) (lv' := [(3, .int (nI (i9 + 1))), (2, .int (nI le)), (1, .int (nI i9)), (4, .int (nI (ed_st f1 (fun k => f4 (8 * i9 + k)) pn (ln i9)))), (0, .ref o)]) hx hb d_M_near_52 hl (k := 4) rfl (nI_add i9 1) (by decide) rfl (fun ls hl => ?_)
            refine lv_goto (tgt := 12) hx hb d_M_near_55 (by decide) ?_
            exact absurd c6 (by omega)
          · have c6 := nc_nle (a := le) (b := ed_st f1 (fun k => f4 (8 * i9 + k)) pn (ln i9)) c6 (by omega) (by omega)
            refine lv_iload hx hb d_M_near_45 (lv_at hl 1 rfl) ?_
            refine lv_goto (tgt := 51) hx hb d_M_near_47 (by decide) ?_
            refine lv_istore_n (lv' := [(2, .int (nI (ed_st f1 (fun k => f4 (8 * i9 + k)) pn (ln i9)))), (1, .int (nI i9)), (4, .int (nI (ed_st f1 (fun k => f4 (8 * i9 + k)) pn (ln i9)))), (0, .ref o), (3, .int (nI i9))]) hx hb d_M_near_51 rfl hl (by decide) rfl (fun ls hl => ?_)
            refine lv_iinc (v := nI (i9 + 1)) (lv' := [(3, .int (nI (i9 + 1))), (2, .int (nI (ed_st f1 (fun k => f4 (8 * i9 + k)) pn (ln i9)))), (1, .int (nI i9)), (4, .int (nI (ed_st f1 (fun k => f4 (8 * i9 + k)) pn (ln i9)))), (0, .ref o)]) hx hb d_M_near_52 hl (k := 4) rfl (nI_add i9 1) (by decide) rfl (fun ls hl => ?_)
            refine lv_goto (tgt := 12) hx hb d_M_near_55 (by decide) ?_
            exact ih (i9 + 1) (nI i9) (ed_st f1 (fun k => f4 (8 * i9 + k)) pn (ln i9)) u3 (by omega) (by rw [j_nr, if_pos (by rw [← hIn]; show ed_st f1 (fun k => f4 (8 * i9 + k)) pn (ln i9) < le; omega)]) (by omega) _ _ hP hD hS ls (lv_sub hl [4, 2, 1, 0] rfl) (by omega)
  exact loop ((nn - 0) + 1) 0 (-1) 100 f27 (Nat.zero_le _) rfl (Nat.le_refl _) _ _ hP hD hS ls (lv_sub hl [3, 2, 1, 0] rfl) (Nat.lt_succ_self _)

set_option maxHeartbeats 4000000 in
set_option maxRecDepth 100000 in
theorem k_M_feast (l : Launch) (D : va_G) (T : gT) (o : Nat) (a : Nat → Nat) (z0 z2 z3 z14 z18 z19 z20 z21 z24 z26 : Int32) (f1 f4 f5 f6 f7 f8 f9 f10 f11 f12 f13 f15 f16 f17 f22 f23 f25 f27 : Nat → Int32) (sz : Nat) (yr mo wk kk : Int32) : Met l y_M_feast (Cond.code y_M_feast b_M_feast 9 (some .int) :: bg_W) ({ frames := 2, cells := 0, slots := 0, locals := 42 }) (qP D T (mX T o a z0 z2 z3 z14 z18 z19 z20 z21 z24 z26 f1 f4 f5 f6 f7 f8 f9 f10 f11 f12 f13 f15 f16 f17 f22 f23 f25 f27) [.ref o, .int yr, .int mo, .int wk, .int kk] sz) (va_Qi (fun (r : Int32) (w0 : Int32) => ((j_in yr (-9999) 9999 && (j_in mo 1 12 && (j_in wk 0 6 && (decide (kk = -1) || j_in kk 1 5)))) = false ∧ r = 0 ∧ w0 = 1) ∨ ((j_in yr (-9999) 9999 && (j_in mo 1 12 && (j_in wk 0 6 && (decide (kk = -1) || j_in kk 1 5)))) = true ∧ w0 = 0 ∧ ∃ mm, 1 ≤ mm ∧ mm ≤ 12 ∧ mo = nI mm ∧ ∃ dn, 28 ≤ dn ∧ dn ≤ 31 ∧ j_dy yr (nI mm) = nI dn ∧ r = (if kk = -1 then (j_fs (j_md yr (365 * (yr - 1) + j_fl (yr - 1) 4 - j_fl (yr - 1) 100 + j_fl (yr - 1) 400) (mm - 1)) wk kk dn).2 else if (j_fs (j_md yr (365 * (yr - 1) + j_fl (yr - 1) 4 - j_fl (yr - 1) 100 + j_fl (yr - 1) 400) (mm - 1)) wk kk dn).1 < kk then 0 else (j_fs (j_md yr (365 * (yr - 1) + j_fl (yr - 1) 4 - j_fl (yr - 1) 100 + j_fl (yr - 1) 400) (mm - 1)) wk kk dn).2))) (qB D T (va_A (mX T o a z0 z2 z3 z14 z18 z19 z20 z21 z24 z26 f1 f4 f5 f6 f7 f8 f9 f10 f11 f12 f13 f15 f16 f17 f22 f23 f25 f27) sz) (fun w0 : Int32 => mX T o a w0 z2 z3 z14 z18 z19 z20 z21 z24 z26 f1 f4 f5 f6 f7 f8 f9 f10 f11 f12 f13 f15 f16 f17 f22 f23 f25 f27)) (va_A (mX T o a z0 z2 z3 z14 z18 z19 z20 z21 z24 z26 f1 f4 f5 f6 f7 f8 f9 f10 f11 f12 f13 f15 f16 f17 f22 f23 f25 f27) sz)) 0 0 (va_A (mX T o a z0 z2 z3 z14 z18 z19 z20 z21 z24 z26 f1 f4 f5 f6 f7 f8 f9 f10 f11 f12 f13 f15 f16 f17 f22 f23 f25 f27) sz) := by
  refine Met.ofW (cc := b_M_feast) (maxL := 9) (ret := (some .int)) (by decide) rfl ?_
  intro p e s m args below meth c s₁ B hml hv
  obtain ⟨rfl, hsz, hP, hK, hD0⟩ := hv
  have hx := B.exec
  have hb := B.bytes
  have hr := B.returns
  have hw : ∀ w ∈ bg_W, w.before ([.ref o, .int yr, .int mo, .int wk, .int kk] : List Value).toArray s = true := fun w h => atoms_spec (ws := (Cond.code y_M_feast b_M_feast 9 (some .int) :: bg_W)) B.pre w (List.mem_cons_of_mem _ h)
  have hown : s.vm.findClass "TimeWordsModel" = some m.cls := findClass_of_methodNamed B.named
  have hlocks := B.notSynchronized
  subst hsz
  have hD := hD0.self (sz := s.heap.size)
  generalize hAe : va_A (mX T o a z0 z2 z3 z14 z18 z19 z20 z21 z24 z26 f1 f4 f5 f6 f7 f8 f9 f10 f11 f12 f13 f15 f16 f17 f22 f23 f25 f27) s.heap.size = A at hD ⊢
  have hA : ∀ q : Nat, s.heap.size ≤ q → A q := fun q h => by rw [← hAe]; exact Or.inr h
  have hS : va_S A s.heap s.heap [] := va_S.rf
  have hl := lv_entry ([.ref o, .int yr, .int mo, .int wk, .int kk]) (n := 9) (Nat.le_of_ble_eq_true rfl)
  rw [lg_entry_eq]
  generalize (lg_sl ([.ref o, .int yr, .int mo, .int wk, .int kk]) ++ List.replicate (9 - (lg_sl ([.ref o, .int yr, .int mo, .int wk, .int kk])).length) Slot.unset).toArray = ls at hl ⊢
  have hl : lv_has ls 9 [(0, .ref o), (1, .int yr), (2, .int mo), (3, .int wk), (4, .int kk)] := hl
  refine lv_iload_n hx hb d_M_feast_0 rfl (lv_at hl 1 rfl) ?_
  refine vp_callSi (va_Run.run (va_runS (As := [.int yr]) (rest := []) ⟨hx, hb, hml, hown, hw⟩ (k_M_isYear l yr) (va_cwS 1 hw (bg_S ml_M_102 wt_M_isYear wz_M wc_M_isYear) rfl rfl rfl (by decide +kernel) ⟨Nat.le_of_ble_eq_true rfl, Nat.le_of_ble_eq_true rfl⟩) ⟨nP_b, nP_p⟩ rfl rfl hl.1 rfl (lv_room (Nat.le_of_ble_eq_true rfl)) d_M_feast_1 ⟨Nat.le_of_ble_eq_true rfl, Nat.le_of_ble_eq_true rfl⟩)) (fun r1 hr1 => ?_)
  replace hr1 := hr1.symm; subst hr1
  refine lv_if_eq (tgt := 43) hx hb d_M_feast_4 (by decide) (fun c2 => ?_) (fun c2 => ?_)
  · have c2 := b2i_f c2
    have hok : (j_in yr (-9999) 9999 && (j_in mo 1 12 && (j_in wk 0 6 && (decide (kk = -1) || j_in kk 1 5)))) = false := by simp [c2]
    refine lv_aload_n hx hb d_M_feast_43 rfl (lv_at hl 0 rfl) ?_
    refine lv_iconst (v := 1) hx hb d_M_feast_44 (by decide) ?_
    refine g_calli (va_runV (As := [.int 1]) (rest := []) ⟨hx, hb, hml, hown, hw⟩ (k_M_fails l D T o a z0 z2 z3 z14 z18 z19 z20 z21 z24 z26 f1 f4 f5 f6 f7 f8 f9 f10 f11 f12 f13 f15 f16 f17 f22 f23 f25 f27 s.heap.size 1) (cwV 1 hw (bg_V ml_M_89 wi_M_fails wv_M_fails wz_M wc_M_fails) rfl rfl rfl (by decide +kernel) ⟨Nat.le_of_ble_eq_true rfl, Nat.le_of_ble_eq_true rfl⟩) ⟨qP_b, va_recv hK hP (ci := 6) (q0 := 0) rfl rfl, qP_p hP hK hD⟩ rfl rfl hl.1 rfl (lv_room (Nat.le_of_ble_eq_true rfl)) d_M_feast_45 ⟨Nat.le_of_ble_eq_true rfl, Nat.le_of_ble_eq_true rfl⟩) hD hS hA (fun r3 u4 H locs hr3 hP hD hS => ?_)
    obtain ⟨q0, q1⟩ := hr3
    replace q0 := q0.symm; subst q0; replace q1 := q1.symm; subst q1
    have hP : va_P D gC (mX T o a 1 z2 z3 z14 z18 z19 z20 z21 z24 z26 f1 f4 f5 f6 f7 f8 f9 f10 f11 f12 f13 f15 f16 f17 f22 f23 f25 f27) H := hP
    have hD : va_D A (mX T o a 1 z2 z3 z14 z18 z19 z20 z21 z24 z26 f1 f4 f5 f6 f7 f8 f9 f10 f11 f12 f13 f15 f16 f17 f22 f23 f25 f27) := hD
    exact W.iret (v := 0) hx hb hr (fun t ht hW => ⟨⟨0, 1, rfl, (Or.inl ⟨hok, rfl, rfl⟩), by rw [ht]; exact hP, va_K.moved hW.alike hK, hD⟩, hS.F ht⟩) hS.2.2 d_M_feast_48
  · have c2 := b2i_t c2
    refine lv_iload_n hx hb d_M_feast_7 rfl (lv_at hl 2 rfl) ?_
    refine lv_iconst (v := 1) hx hb d_M_feast_8 (by decide) ?_
    refine lv_bipush (v := 12) hx hb d_M_feast_9 (by decide) ?_
    refine vp_callSi (va_Run.run (va_runS (As := [.int mo, .int 1, .int 12]) (rest := []) ⟨hx, hb, hml, hown, hw⟩ (k_M_in l mo 1 12) (va_cwS 3 hw (bg_S ml_M_72 wt_M_in wz_M wc_M_in) rfl rfl rfl (by decide +kernel) ⟨Nat.le_of_ble_eq_true rfl, Nat.le_of_ble_eq_true rfl⟩) ⟨nP_b, nP_p⟩ rfl rfl hl.1 rfl (lv_room (Nat.le_of_ble_eq_true rfl)) d_M_feast_11 ⟨Nat.le_of_ble_eq_true rfl, Nat.le_of_ble_eq_true rfl⟩)) (fun r5 hr5 => ?_)
    replace hr5 := hr5.symm; subst hr5
    refine lv_if_eq (tgt := 43) hx hb d_M_feast_14 (by decide) (fun c6 => ?_) (fun c6 => ?_)
    · have c6 := b2i_f c6
      have hok : (j_in yr (-9999) 9999 && (j_in mo 1 12 && (j_in wk 0 6 && (decide (kk = -1) || j_in kk 1 5)))) = false := by simp [c2, c6]
      refine lv_aload_n hx hb d_M_feast_43 rfl (lv_at hl 0 rfl) ?_
      refine lv_iconst (v := 1) hx hb d_M_feast_44 (by decide) ?_
      refine g_calli (va_runV (As := [.int 1]) (rest := []) ⟨hx, hb, hml, hown, hw⟩ (k_M_fails l D T o a z0 z2 z3 z14 z18 z19 z20 z21 z24 z26 f1 f4 f5 f6 f7 f8 f9 f10 f11 f12 f13 f15 f16 f17 f22 f23 f25 f27 s.heap.size 1) (cwV 1 hw (bg_V ml_M_89 wi_M_fails wv_M_fails wz_M wc_M_fails) rfl rfl rfl (by decide +kernel) ⟨Nat.le_of_ble_eq_true rfl, Nat.le_of_ble_eq_true rfl⟩) ⟨qP_b, va_recv hK hP (ci := 6) (q0 := 0) rfl rfl, qP_p hP hK hD⟩ rfl rfl hl.1 rfl (lv_room (Nat.le_of_ble_eq_true rfl)) d_M_feast_45 ⟨Nat.le_of_ble_eq_true rfl, Nat.le_of_ble_eq_true rfl⟩) hD hS hA (fun r7 u8 H locs hr7 hP hD hS => ?_)
      obtain ⟨q0, q1⟩ := hr7
      replace q0 := q0.symm; subst q0; replace q1 := q1.symm; subst q1
      have hP : va_P D gC (mX T o a 1 z2 z3 z14 z18 z19 z20 z21 z24 z26 f1 f4 f5 f6 f7 f8 f9 f10 f11 f12 f13 f15 f16 f17 f22 f23 f25 f27) H := hP
      have hD : va_D A (mX T o a 1 z2 z3 z14 z18 z19 z20 z21 z24 z26 f1 f4 f5 f6 f7 f8 f9 f10 f11 f12 f13 f15 f16 f17 f22 f23 f25 f27) := hD
      exact W.iret (v := 0) hx hb hr (fun t ht hW => ⟨⟨0, 1, rfl, (Or.inl ⟨hok, rfl, rfl⟩), by rw [ht]; exact hP, va_K.moved hW.alike hK, hD⟩, hS.F ht⟩) hS.2.2 d_M_feast_48
    · have c6 := b2i_t c6
      have hm12 := c6
      refine lv_iload_n hx hb d_M_feast_17 rfl (lv_at hl 3 rfl) ?_
      refine lv_iconst (v := 0) hx hb d_M_feast_18 (by decide) ?_
      refine lv_bipush (v := 6) hx hb d_M_feast_19 (by decide) ?_
      refine vp_callSi (va_Run.run (va_runS (As := [.int wk, .int 0, .int 6]) (rest := []) ⟨hx, hb, hml, hown, hw⟩ (k_M_in l wk 0 6) (va_cwS 3 hw (bg_S ml_M_72 wt_M_in wz_M wc_M_in) rfl rfl rfl (by decide +kernel) ⟨Nat.le_of_ble_eq_true rfl, Nat.le_of_ble_eq_true rfl⟩) ⟨nP_b, nP_p⟩ rfl rfl hl.1 rfl (lv_room (Nat.le_of_ble_eq_true rfl)) d_M_feast_21 ⟨Nat.le_of_ble_eq_true rfl, Nat.le_of_ble_eq_true rfl⟩)) (fun r9 hr9 => ?_)
      replace hr9 := hr9.symm; subst hr9
      refine lv_if_eq (tgt := 43) hx hb d_M_feast_24 (by decide) (fun c10 => ?_) (fun c10 => ?_)
      · have c10 := b2i_f c10
        have hok : (j_in yr (-9999) 9999 && (j_in mo 1 12 && (j_in wk 0 6 && (decide (kk = -1) || j_in kk 1 5)))) = false := by simp [c2, c6, c10]
        refine lv_aload_n hx hb d_M_feast_43 rfl (lv_at hl 0 rfl) ?_
        refine lv_iconst (v := 1) hx hb d_M_feast_44 (by decide) ?_
        refine g_calli (va_runV (As := [.int 1]) (rest := []) ⟨hx, hb, hml, hown, hw⟩ (k_M_fails l D T o a z0 z2 z3 z14 z18 z19 z20 z21 z24 z26 f1 f4 f5 f6 f7 f8 f9 f10 f11 f12 f13 f15 f16 f17 f22 f23 f25 f27 s.heap.size 1) (cwV 1 hw (bg_V ml_M_89 wi_M_fails wv_M_fails wz_M wc_M_fails) rfl rfl rfl (by decide +kernel) ⟨Nat.le_of_ble_eq_true rfl, Nat.le_of_ble_eq_true rfl⟩) ⟨qP_b, va_recv hK hP (ci := 6) (q0 := 0) rfl rfl, qP_p hP hK hD⟩ rfl rfl hl.1 rfl (lv_room (Nat.le_of_ble_eq_true rfl)) d_M_feast_45 ⟨Nat.le_of_ble_eq_true rfl, Nat.le_of_ble_eq_true rfl⟩) hD hS hA (fun r11 u12 H locs hr11 hP hD hS => ?_)
        obtain ⟨q0, q1⟩ := hr11
        replace q0 := q0.symm; subst q0; replace q1 := q1.symm; subst q1
        have hP : va_P D gC (mX T o a 1 z2 z3 z14 z18 z19 z20 z21 z24 z26 f1 f4 f5 f6 f7 f8 f9 f10 f11 f12 f13 f15 f16 f17 f22 f23 f25 f27) H := hP
        have hD : va_D A (mX T o a 1 z2 z3 z14 z18 z19 z20 z21 z24 z26 f1 f4 f5 f6 f7 f8 f9 f10 f11 f12 f13 f15 f16 f17 f22 f23 f25 f27) := hD
        exact W.iret (v := 0) hx hb hr (fun t ht hW => ⟨⟨0, 1, rfl, (Or.inl ⟨hok, rfl, rfl⟩), by rw [ht]; exact hP, va_K.moved hW.alike hK, hD⟩, hS.F ht⟩) hS.2.2 d_M_feast_48
      · have c10 := b2i_t c10
        refine lv_iload hx hb d_M_feast_27 (lv_at hl 4 rfl) ?_
        refine lv_iconst (v := (-1)) hx hb d_M_feast_29 (by decide) ?_
        refine lv_icmp_eq (tgt := 49) hx hb d_M_feast_30 (by decide) (fun c13 => ?_) (fun c13 => ?_)
        · have hok : (j_in yr (-9999) 9999 && (j_in mo 1 12 && (j_in wk 0 6 && (decide (kk = -1) || j_in kk 1 5)))) = true := by simp [c2, c6, c10, c13]
          obtain ⟨m9, hm1, hm2, rfl⟩ := in_1_12 hm12
          obtain ⟨d9, hd1, hd2, hd3⟩ := dy_nat yr (nI m9)
          refine lv_aload_n hx hb d_M_feast_49 rfl (lv_at hl 0 rfl) ?_
          refine lv_iconst (v := 0) hx hb d_M_feast_50 (by decide) ?_
          refine va_put (D := D) (ci := 6) (v := .int 0) (ty := .int) (C := "TimeWordsModel") (T := F_M) (N := 28) hx hb hw in_M ty_M ty_M_ok n_M hown hK hP hD hS 0 rfl rfl 0 (by decide) (hw _ fl_M_69) (fun _ h9 => h9) rfl (by decide +kernel) rfl rfl (Nat.le_of_ble_eq_true rfl) d_M_feast_51 (fun H locs hP hD hS => ?_)
          have hP : va_P D gC (mX T o a 0 z2 z3 z14 z18 z19 z20 z21 z24 z26 f1 f4 f5 f6 f7 f8 f9 f10 f11 f12 f13 f15 f16 f17 f22 f23 f25 f27) H := hP
          have hD : va_D A (mX T o a 0 z2 z3 z14 z18 z19 z20 z21 z24 z26 f1 f4 f5 f6 f7 f8 f9 f10 f11 f12 f13 f15 f16 f17 f22 f23 f25 f27) := hD
          refine lv_sipush (v := 365) hx hb d_M_feast_54 (by decide) ?_
          refine lv_iload_n hx hb d_M_feast_57 rfl (lv_at hl 1 rfl) ?_
          refine lv_iconst (v := 1) hx hb d_M_feast_58 (by decide) ?_
          refine lv_isub hx hb d_M_feast_59 ?_
          refine lv_imul hx hb d_M_feast_60 ?_
          refine lv_iload_n hx hb d_M_feast_61 rfl (lv_at hl 1 rfl) ?_
          refine lv_iconst (v := 1) hx hb d_M_feast_62 (by decide) ?_
          refine lv_isub hx hb d_M_feast_63 ?_
          refine lv_iconst (v := 4) hx hb d_M_feast_64 (by decide) ?_
          refine vp_callSi (va_Run.run (va_runS (As := [.int (yr - 1), .int 4]) (rest := [.int (365 * (yr - 1))]) ⟨hx, hb, hml, hown, hw⟩ (k_M_floor l (yr - 1) 4 (by decide)) (va_cwS 2 hw (bg_S ml_M_211 wt_M_floor wz_M wc_M_floor) rfl rfl rfl (by decide +kernel) ⟨Nat.le_of_ble_eq_true rfl, Nat.le_of_ble_eq_true rfl⟩) ⟨nP_b, nP_p⟩ rfl rfl hl.1 rfl (lv_room (Nat.le_of_ble_eq_true rfl)) d_M_feast_65 ⟨Nat.le_of_ble_eq_true rfl, Nat.le_of_ble_eq_true rfl⟩)) (fun r14 hr14 => ?_)
          replace hr14 := hr14.symm; subst hr14
          refine lv_iadd hx hb d_M_feast_68 ?_
          refine lv_iload_n hx hb d_M_feast_69 rfl (lv_at hl 1 rfl) ?_
          refine lv_iconst (v := 1) hx hb d_M_feast_70 (by decide) ?_
          refine lv_isub hx hb d_M_feast_71 ?_
          refine lv_bipush (v := 100) hx hb d_M_feast_72 (by decide) ?_
          refine vp_callSi (va_Run.run (va_runS (As := [.int (yr - 1), .int 100]) (rest := [.int ((365 * (yr - 1)) + (j_fl (yr - 1) 4))]) ⟨hx, hb, hml, hown, hw⟩ (k_M_floor l (yr - 1) 100 (by decide)) (va_cwS 2 hw (bg_S ml_M_211 wt_M_floor wz_M wc_M_floor) rfl rfl rfl (by decide +kernel) ⟨Nat.le_of_ble_eq_true rfl, Nat.le_of_ble_eq_true rfl⟩) ⟨nP_b, nP_p⟩ rfl rfl hl.1 rfl (lv_room (Nat.le_of_ble_eq_true rfl)) d_M_feast_74 ⟨Nat.le_of_ble_eq_true rfl, Nat.le_of_ble_eq_true rfl⟩)) (fun r15 hr15 => ?_)
          replace hr15 := hr15.symm; subst hr15
          refine lv_isub hx hb d_M_feast_77 ?_
          refine lv_iload_n hx hb d_M_feast_78 rfl (lv_at hl 1 rfl) ?_
          refine lv_iconst (v := 1) hx hb d_M_feast_79 (by decide) ?_
          refine lv_isub hx hb d_M_feast_80 ?_
          refine lv_sipush (v := 400) hx hb d_M_feast_81 (by decide) ?_
          refine vp_callSi (va_Run.run (va_runS (As := [.int (yr - 1), .int 400]) (rest := [.int (((365 * (yr - 1)) + (j_fl (yr - 1) 4)) - (j_fl (yr - 1) 100))]) ⟨hx, hb, hml, hown, hw⟩ (k_M_floor l (yr - 1) 400 (by decide)) (va_cwS 2 hw (bg_S ml_M_211 wt_M_floor wz_M wc_M_floor) rfl rfl rfl (by decide +kernel) ⟨Nat.le_of_ble_eq_true rfl, Nat.le_of_ble_eq_true rfl⟩) ⟨nP_b, nP_p⟩ rfl rfl hl.1 rfl (lv_room (Nat.le_of_ble_eq_true rfl)) d_M_feast_84 ⟨Nat.le_of_ble_eq_true rfl, Nat.le_of_ble_eq_true rfl⟩)) (fun r16 hr16 => ?_)
          replace hr16 := hr16.symm; subst hr16
          refine lv_iadd hx hb d_M_feast_87 ?_
          refine lv_istore (lv' := [(5, .int ((((365 * (yr - 1)) + (j_fl (yr - 1) 4)) - (j_fl (yr - 1) 100)) + (j_fl (yr - 1) 400))), (0, .ref o), (1, .int yr), (2, .int (nI m9)), (3, .int wk), (4, .int kk)]) hx hb d_M_feast_88 hl (by decide) rfl (fun ls hl => ?_)
          refine lv_iconst (v := 1) hx hb d_M_feast_90 (by decide) ?_
          refine lv_istore (lv' := [(6, .int 1), (5, .int ((((365 * (yr - 1)) + (j_fl (yr - 1) 4)) - (j_fl (yr - 1) 100)) + (j_fl (yr - 1) 400))), (0, .ref o), (1, .int yr), (2, .int (nI m9)), (3, .int wk), (4, .int kk)]) hx hb d_M_feast_91 hl (by decide) rfl (fun ls hl => ?_)
          have hl : lv_has ls 9 [(6, .int 1), (5, .int (j_md yr (365 * (yr - 1) + j_fl (yr - 1) 4 - j_fl (yr - 1) 100 + j_fl (yr - 1) 400) 0)), (0, .ref o), (1, .int yr), (2, .int (nI m9)), (3, .int wk), (4, .int kk)] := hl
          have loop : ∀ (n : Nat) (q : Nat), (q ≤ m9 - 1) → ∀ (H : Heap) (locs : List Loc), va_P D gC (mX T o a 0 z2 z3 z14 z18 z19 z20 z21 z24 z26 f1 f4 f5 f6 f7 f8 f9 f10 f11 f12 f13 f15 f16 f17 f22 f23 f25 f27) H → va_D A (mX T o a 0 z2 z3 z14 z18 z19 z20 z21 z24 z26 f1 f4 f5 f6 f7 f8 f9 f10 f11 f12 f13 f15 f16 f17 f22 f23 f25 f27) → va_S A s.heap H locs → ∀ (ls : Array Slot), lv_has ls 9 [(0, .ref o), (1, .int yr), (2, .int (nI m9)), (3, .int wk), (4, .int kk), (5, .int (j_md yr (365 * (yr - 1) + j_fl (yr - 1) 4 - j_fl (yr - 1) 100 + j_fl (yr - 1) 400) q)), (6, .int (nI (q + 1)))] → m9 - 1 - q < n → W p l e (headSpec (Cond.code y_M_feast b_M_feast 9 (some .int) :: bg_W) ({ frames := 2, cells := 0, slots := 0, locals := 42 })).room s m ([.ref o, .int yr, .int (nI m9), .int wk, .int kk] : List Value).toArray below meth c H locs 0 0 (MQ below (va_Qi (fun (r : Int32) (w0 : Int32) => ((j_in yr (-9999) 9999 && (j_in (nI m9) 1 12 && (j_in wk 0 6 && (decide (kk = -1) || j_in kk 1 5)))) = false ∧ r = 0 ∧ w0 = 1) ∨ ((j_in yr (-9999) 9999 && (j_in (nI m9) 1 12 && (j_in wk 0 6 && (decide (kk = -1) || j_in kk 1 5)))) = true ∧ w0 = 0 ∧ ∃ mm, 1 ≤ mm ∧ mm ≤ 12 ∧ (nI m9) = nI mm ∧ ∃ dn, 28 ≤ dn ∧ dn ≤ 31 ∧ j_dy yr (nI mm) = nI dn ∧ r = (if kk = -1 then (j_fs (j_md yr (365 * (yr - 1) + j_fl (yr - 1) 4 - j_fl (yr - 1) 100 + j_fl (yr - 1) 400) (mm - 1)) wk kk dn).2 else if (j_fs (j_md yr (365 * (yr - 1) + j_fl (yr - 1) 4 - j_fl (yr - 1) 100 + j_fl (yr - 1) 400) (mm - 1)) wk kk dn).1 < kk then 0 else (j_fs (j_md yr (365 * (yr - 1) + j_fl (yr - 1) 4 - j_fl (yr - 1) 100 + j_fl (yr - 1) 400) (mm - 1)) wk kk dn).2))) (qB D T A (fun w0 : Int32 => mX T o a w0 z2 z3 z14 z18 z19 z20 z21 z24 z26 f1 f4 f5 f6 f7 f8 f9 f10 f11 f12 f13 f15 f16 f17 f22 f23 f25 f27)) A) ([.ref o, .int yr, .int (nI m9), .int wk, .int kk] : List Value).toArray s 0 0 A) (F0 m 93 ls []) := by
            intro n
            induction n with
            | zero => intro q hq H locs hP hD hS ls hl hm; exact absurd hm (Nat.not_lt_zero _)
            | succ n ih =>
              intro q hq H locs hP hD hS ls hl hm
              refine lv_iload hx hb d_M_feast_93 (lv_at hl 6 rfl) ?_
              refine lv_iload_n hx hb d_M_feast_95 rfl (lv_at hl 2 rfl) ?_
              refine lv_icmp_ge (tgt := 116) hx hb d_M_feast_96 (by decide) (fun c17 => ?_) (fun c17 => ?_)
              · have c17 := nc_le (a := m9) (b := q + 1) c17 (by omega) (by omega)
                refine lv_iconst (v := 0) hx hb d_M_feast_116 (by decide) ?_
                refine lv_istore (lv' := [(6, .int 0), (0, .ref o), (1, .int yr), (2, .int (nI m9)), (3, .int wk), (4, .int kk), (5, .int (j_md yr (365 * (yr - 1) + j_fl (yr - 1) 4 - j_fl (yr - 1) 100 + j_fl (yr - 1) 400) q))]) hx hb d_M_feast_117 hl (by decide) rfl (fun ls hl => ?_)
                refine lv_iconst (v := 0) hx hb d_M_feast_119 (by decide) ?_
                refine lv_istore (lv' := [(7, .int 0), (6, .int 0), (0, .ref o), (1, .int yr), (2, .int (nI m9)), (3, .int wk), (4, .int kk), (5, .int (j_md yr (365 * (yr - 1) + j_fl (yr - 1) 4 - j_fl (yr - 1) 100 + j_fl (yr - 1) 400) q))]) hx hb d_M_feast_120 hl (by decide) rfl (fun ls hl => ?_)
                refine lv_iconst (v := 1) hx hb d_M_feast_122 (by decide) ?_
                refine lv_istore (lv' := [(8, .int 1), (7, .int 0), (6, .int 0), (0, .ref o), (1, .int yr), (2, .int (nI m9)), (3, .int wk), (4, .int kk), (5, .int (j_md yr (365 * (yr - 1) + j_fl (yr - 1) 4 - j_fl (yr - 1) 100 + j_fl (yr - 1) 400) q))]) hx hb d_M_feast_123 hl (by decide) rfl (fun ls hl => ?_)
                have eq9 : q = m9 - 1 := by omega
                subst eq9
                obtain ⟨dd, hdd⟩ : ∃ z9, z9 = j_md yr (365 * (yr - 1) + j_fl (yr - 1) 4 - j_fl (yr - 1) 100 + j_fl (yr - 1) 400) (m9 - 1) := ⟨_, rfl⟩
                rw [← hdd] at hl
                have hl : lv_has ls 9 [(8, .int 1), (7, .int 0), (6, .int 0), (0, .ref o), (1, .int yr), (2, .int (nI m9)), (3, .int wk), (4, .int kk), (5, .int dd)] := hl
                have lopd : ∀ (nd : Nat) (q8 : Nat) (n8 f8v : Int32), (q8 ≤ d9) → ((n8, f8v) = j_fs dd wk kk q8) → ∀ (H : Heap) (locs : List Loc), va_P D gC (mX T o a 0 z2 z3 z14 z18 z19 z20 z21 z24 z26 f1 f4 f5 f6 f7 f8 f9 f10 f11 f12 f13 f15 f16 f17 f22 f23 f25 f27) H → va_D A (mX T o a 0 z2 z3 z14 z18 z19 z20 z21 z24 z26 f1 f4 f5 f6 f7 f8 f9 f10 f11 f12 f13 f15 f16 f17 f22 f23 f25 f27) → va_S A s.heap H locs → ∀ (ls : Array Slot), lv_has ls 9 [(0, .ref o), (1, .int yr), (2, .int (nI m9)), (3, .int wk), (4, .int kk), (5, .int dd), (6, .int n8), (7, .int f8v), (8, .int (nI (q8 + 1)))] → d9 - q8 < nd → W p l e (headSpec (Cond.code y_M_feast b_M_feast 9 (some .int) :: bg_W) ({ frames := 2, cells := 0, slots := 0, locals := 42 })).room s m ([.ref o, .int yr, .int (nI m9), .int wk, .int kk] : List Value).toArray below meth c H locs 0 0 (MQ below (va_Qi (fun (r : Int32) (w0 : Int32) => ((j_in yr (-9999) 9999 && (j_in (nI m9) 1 12 && (j_in wk 0 6 && (decide (kk = -1) || j_in kk 1 5)))) = false ∧ r = 0 ∧ w0 = 1) ∨ ((j_in yr (-9999) 9999 && (j_in (nI m9) 1 12 && (j_in wk 0 6 && (decide (kk = -1) || j_in kk 1 5)))) = true ∧ w0 = 0 ∧ ∃ mm, 1 ≤ mm ∧ mm ≤ 12 ∧ (nI m9) = nI mm ∧ ∃ dn, 28 ≤ dn ∧ dn ≤ 31 ∧ j_dy yr (nI mm) = nI dn ∧ r = (if kk = -1 then (j_fs (j_md yr (365 * (yr - 1) + j_fl (yr - 1) 4 - j_fl (yr - 1) 100 + j_fl (yr - 1) 400) (mm - 1)) wk kk dn).2 else if (j_fs (j_md yr (365 * (yr - 1) + j_fl (yr - 1) 4 - j_fl (yr - 1) 100 + j_fl (yr - 1) 400) (mm - 1)) wk kk dn).1 < kk then 0 else (j_fs (j_md yr (365 * (yr - 1) + j_fl (yr - 1) 4 - j_fl (yr - 1) 100 + j_fl (yr - 1) 400) (mm - 1)) wk kk dn).2))) (qB D T A (fun w0 : Int32 => mX T o a w0 z2 z3 z14 z18 z19 z20 z21 z24 z26 f1 f4 f5 f6 f7 f8 f9 f10 f11 f12 f13 f15 f16 f17 f22 f23 f25 f27)) A) ([.ref o, .int yr, .int (nI m9), .int wk, .int kk] : List Value).toArray s 0 0 A) (F0 m 125 ls []) := by
                  intro nd
                  induction nd with
                  | zero => intro q8 n8 f8v hq8 hfs H locs hP hD hS ls hl hm; exact absurd hm (Nat.not_lt_zero _)
                  | succ nd ihd =>
                    intro q8 n8 f8v hq8 hfs H locs hP hD hS ls hl hm
                    refine lv_iload hx hb d_M_feast_125 (lv_at hl 8 rfl) ?_
                    refine lv_iload_n hx hb d_M_feast_127 rfl (lv_at hl 1 rfl) ?_
                    refine lv_iload_n hx hb d_M_feast_128 rfl (lv_at hl 2 rfl) ?_
                    refine vp_callSi (va_Run.run (va_runS (As := [.int yr, .int (nI m9)]) (rest := [.int (nI (q8 + 1))]) ⟨hx, hb, hml, hown, hw⟩ (k_M_daysOf l yr (nI m9)) (va_cwS 2 hw (bg_S ml_M_215 wt_M_daysOf wz_M wc_M_daysOf) rfl rfl rfl (by decide +kernel) ⟨Nat.le_of_ble_eq_true rfl, Nat.le_of_ble_eq_true rfl⟩) ⟨nP_b, nP_p⟩ rfl rfl hl.1 rfl (lv_room (Nat.le_of_ble_eq_true rfl)) d_M_feast_129 ⟨Nat.le_of_ble_eq_true rfl, Nat.le_of_ble_eq_true rfl⟩)) (fun r18 hr18 => ?_)
                    replace hr18 := hr18.symm; subst hr18
                    rw [hd3]
                    refine lv_icmp_gt (tgt := 193) hx hb d_M_feast_132 (by decide) (fun c19 => ?_) (fun c19 => ?_)
                    · have c19 := nc_lt (a := d9) (b := q8 + 1) c19 (by omega) (by omega)
                      refine lv_iload hx hb d_M_feast_193 (lv_at hl 4 rfl) ?_
                      refine lv_iconst (v := (-1)) hx hb d_M_feast_195 (by decide) ?_
                      refine lv_icmp_eq (tgt := 206) hx hb d_M_feast_196 (by decide) (fun c20 => ?_) (fun c20 => ?_)
                      · refine lv_iload hx hb d_M_feast_206 (lv_at hl 7 rfl) ?_
                        refine lv_goto (tgt := 212) hx hb d_M_feast_208 (by decide) ?_
                        exact W.iret (v := f8v) hx hb hr (fun t ht hW => ⟨⟨f8v, 0, rfl, (Or.inr ⟨hok, rfl, m9, hm1, hm2, rfl, d9, hd1, hd2, hd3, by rw [← hdd, ← show q8 = d9 by omega, ← hfs]; simp only [if_pos c20]⟩), by rw [ht]; exact hP, va_K.moved hW.alike hK, hD⟩, hS.F ht⟩) hS.2.2 d_M_feast_212
                      · refine lv_iload hx hb d_M_feast_199 (lv_at hl 6 rfl) ?_
                        refine lv_iload hx hb d_M_feast_201 (lv_at hl 4 rfl) ?_
                        refine lv_icmp_lt (tgt := 211) hx hb d_M_feast_203 (by decide) (fun c21 => ?_) (fun c21 => ?_)
                        · refine lv_iconst (v := 0) hx hb d_M_feast_211 (by decide) ?_
                          exact W.iret (v := 0) hx hb hr (fun t ht hW => ⟨⟨0, 0, rfl, (Or.inr ⟨hok, rfl, m9, hm1, hm2, rfl, d9, hd1, hd2, hd3, by rw [← hdd, ← show q8 = d9 by omega, ← hfs]; simp only [if_neg c20, if_pos c21]⟩), by rw [ht]; exact hP, va_K.moved hW.alike hK, hD⟩, hS.F ht⟩) hS.2.2 d_M_feast_212
                        · refine lv_iload hx hb d_M_feast_206 (lv_at hl 7 rfl) ?_
                          refine lv_goto (tgt := 212) hx hb d_M_feast_208 (by decide) ?_
                          exact W.iret (v := f8v) hx hb hr (fun t ht hW => ⟨⟨f8v, 0, rfl, (Or.inr ⟨hok, rfl, m9, hm1, hm2, rfl, d9, hd1, hd2, hd3, by rw [← hdd, ← show q8 = d9 by omega, ← hfs]; simp only [if_neg c20, if_neg c21]⟩), by rw [ht]; exact hP, va_K.moved hW.alike hK, hD⟩, hS.F ht⟩) hS.2.2 d_M_feast_212
                    · have c19 := nc_nlt (a := d9) (b := q8 + 1) c19 (by omega) (by omega)
                      refine lv_iload hx hb d_M_feast_135 (lv_at hl 5 rfl) ?_
                      refine lv_iload hx hb d_M_feast_137 (lv_at hl 8 rfl) ?_
                      refine lv_iadd hx hb d_M_feast_139 ?_
                      refine lv_iconst (v := 1) hx hb d_M_feast_140 (by decide) ?_
                      refine lv_isub hx hb d_M_feast_141 ?_
                      refine lv_bipush (v := 7) hx hb d_M_feast_142 (by decide) ?_
                      refine lv_iload hx hb d_M_feast_144 (lv_at hl 5 rfl) ?_
                      refine lv_iload hx hb d_M_feast_146 (lv_at hl 8 rfl) ?_
                      refine lv_iadd hx hb d_M_feast_148 ?_
                      refine lv_iconst (v := 1) hx hb d_M_feast_149 (by decide) ?_
                      refine lv_isub hx hb d_M_feast_150 ?_
                      refine lv_bipush (v := 7) hx hb d_M_feast_151 (by decide) ?_
                      refine vp_callSi (va_Run.run (va_runS (As := [.int ((dd + (nI (q8 + 1))) - 1), .int 7]) (rest := [.int 7, .int ((dd + (nI (q8 + 1))) - 1)]) ⟨hx, hb, hml, hown, hw⟩ (k_M_floor l ((dd + (nI (q8 + 1))) - 1) 7 (by decide)) (va_cwS 2 hw (bg_S ml_M_211 wt_M_floor wz_M wc_M_floor) rfl rfl rfl (by decide +kernel) ⟨Nat.le_of_ble_eq_true rfl, Nat.le_of_ble_eq_true rfl⟩) ⟨nP_b, nP_p⟩ rfl rfl hl.1 rfl (lv_room (Nat.le_of_ble_eq_true rfl)) d_M_feast_153 ⟨Nat.le_of_ble_eq_true rfl, Nat.le_of_ble_eq_true rfl⟩)) (fun r22 hr22 => ?_)
                      replace hr22 := hr22.symm; subst hr22
                      refine lv_imul hx hb d_M_feast_156 ?_
                      refine lv_isub hx hb d_M_feast_157 ?_
                      refine lv_iload_n hx hb d_M_feast_158 rfl (lv_at hl 3 rfl) ?_
                      refine lv_icmp_ne (tgt := 187) hx hb d_M_feast_159 (by decide) (fun c23 => ?_) (fun c23 => ?_)
                      · refine lv_iinc (v := nI (q8 + 1 + 1)) (lv' := [(8, .int (nI (q8 + 1 + 1))), (0, .ref o), (1, .int yr), (2, .int (nI m9)), (3, .int wk), (4, .int kk), (5, .int dd), (6, .int n8), (7, .int f8v)]) hx hb d_M_feast_187 hl (k := 8) rfl (nI_add (q8 + 1) 1) (by decide) rfl (fun ls hl => ?_)
                        refine lv_goto (tgt := 125) hx hb d_M_feast_190 (by decide) ?_
                        exact ihd (q8 + 1) n8 f8v (by omega) (by rw [j_fs, if_neg c23, ← hfs]) _ _ hP hD hS ls (lv_sub hl [1, 2, 3, 4, 5, 6, 7, 8, 0] rfl) (by omega)
                      · obtain ⟨x24, ex24⟩ : ∃ y : Int32, y = n8 + 1 := ⟨_, rfl⟩
                        refine lv_iinc (v := x24) (lv' := [(6, .int x24), (0, .ref o), (1, .int yr), (2, .int (nI m9)), (3, .int wk), (4, .int kk), (5, .int dd), (7, .int f8v), (8, .int (nI (q8 + 1)))]) hx hb d_M_feast_162 hl (k := 6) rfl (by rw [ex24]; rfl) (by decide) rfl (fun ls hl => ?_)
                        refine lv_iload hx hb d_M_feast_165 (lv_at hl 5 rfl) ?_
                        refine lv_iconst (v := (-1)) hx hb d_M_feast_167 (by decide) ?_
                        refine lv_icmp_eq (tgt := 178) hx hb d_M_feast_168 (by decide) (fun c25 => ?_) (fun c25 => ?_)
                        · refine lv_iload hx hb d_M_feast_178 (lv_at hl 8 rfl) ?_
                          refine lv_goto (tgt := 185) hx hb d_M_feast_180 (by decide) ?_
                          refine lv_istore (lv' := [(7, .int (nI (q8 + 1))), (6, .int x24), (0, .ref o), (1, .int yr), (2, .int (nI m9)), (3, .int wk), (4, .int kk), (5, .int dd), (8, .int (nI (q8 + 1)))]) hx hb d_M_feast_185 hl (by decide) rfl (fun ls hl => ?_)
                          refine lv_iinc (v := nI (q8 + 1 + 1)) (lv' := [(8, .int (nI (q8 + 1 + 1))), (7, .int (nI (q8 + 1))), (6, .int x24), (0, .ref o), (1, .int yr), (2, .int (nI m9)), (3, .int wk), (4, .int kk), (5, .int dd)]) hx hb d_M_feast_187 hl (k := 8) rfl (nI_add (q8 + 1) 1) (by decide) rfl (fun ls hl => ?_)
                          refine lv_goto (tgt := 125) hx hb d_M_feast_190 (by decide) ?_
                          exact ihd (q8 + 1) x24 (nI (q8 + 1)) (by omega) (by rw [j_fs, if_pos c23, if_pos c25, ← hfs, ex24]) _ _ hP hD hS ls (lv_sub hl [3, 4, 5, 6, 7, 8, 2, 1, 0] rfl) (by omega)
                        · refine lv_iload hx hb d_M_feast_171 (lv_at hl 0 rfl) ?_
                          refine lv_iload hx hb d_M_feast_173 (lv_at hl 5 rfl) ?_
                          refine lv_icmp_ne (tgt := 183) hx hb d_M_feast_175 (by decide) (fun c26 => ?_) (fun c26 => ?_)
                          · refine lv_iload hx hb d_M_feast_183 (lv_at hl 7 rfl) ?_
                            refine lv_istore (lv' := [(7, .int f8v), (6, .int x24), (0, .ref o), (1, .int yr), (2, .int (nI m9)), (3, .int wk), (4, .int kk), (5, .int dd), (8, .int (nI (q8 + 1)))]) hx hb d_M_feast_185 hl (by decide) rfl (fun ls hl => ?_)
                            refine lv_iinc (v := nI (q8 + 1 + 1)) (lv' := [(8, .int (nI (q8 + 1 + 1))), (7, .int f8v), (6, .int x24), (0, .ref o), (1, .int yr), (2, .int (nI m9)), (3, .int wk), (4, .int kk), (5, .int dd)]) hx hb d_M_feast_187 hl (k := 8) rfl (nI_add (q8 + 1) 1) (by decide) rfl (fun ls hl => ?_)
                            refine lv_goto (tgt := 125) hx hb d_M_feast_190 (by decide) ?_
                            exact ihd (q8 + 1) x24 f8v (by omega) (by rw [j_fs, if_pos c23, if_neg c25, ← hfs, ex24]; simp only []; rw [← ex24, if_neg c26]) _ _ hP hD hS ls (lv_sub hl [3, 4, 5, 6, 7, 8, 2, 1, 0] rfl) (by omega)
                          · refine lv_iload hx hb d_M_feast_178 (lv_at hl 8 rfl) ?_
                            refine lv_goto (tgt := 185) hx hb d_M_feast_180 (by decide) ?_
                            refine lv_istore (lv' := [(7, .int (nI (q8 + 1))), (6, .int x24), (0, .ref o), (1, .int yr), (2, .int (nI m9)), (3, .int wk), (4, .int kk), (5, .int dd), (8, .int (nI (q8 + 1)))]) hx hb d_M_feast_185 hl (by decide) rfl (fun ls hl => ?_)
                            refine lv_iinc (v := nI (q8 + 1 + 1)) (lv' := [(8, .int (nI (q8 + 1 + 1))), (7, .int (nI (q8 + 1))), (6, .int x24), (0, .ref o), (1, .int yr), (2, .int (nI m9)), (3, .int wk), (4, .int kk), (5, .int dd)]) hx hb d_M_feast_187 hl (k := 8) rfl (nI_add (q8 + 1) 1) (by decide) rfl (fun ls hl => ?_)
                            refine lv_goto (tgt := 125) hx hb d_M_feast_190 (by decide) ?_
                            exact ihd (q8 + 1) x24 (nI (q8 + 1)) (by omega) (by rw [j_fs, if_pos c23, if_neg c25, ← hfs, ex24]; simp only []; rw [← ex24, if_pos c26]) _ _ hP hD hS ls (lv_sub hl [3, 4, 5, 6, 7, 8, 2, 1, 0] rfl) (by omega)
                exact lopd ((d9 - 0) + 1) 0 0 0 (Nat.zero_le _) rfl _ _ hP hD hS ls (lv_sub hl [3, 4, 5, 6, 7, 8, 2, 1, 0] rfl) (Nat.lt_succ_self _)
              · have c17 := nc_nle (a := m9) (b := q + 1) c17 (by omega) (by omega)
                refine lv_iload hx hb d_M_feast_99 (lv_at hl 5 rfl) ?_
                refine lv_iload_n hx hb d_M_feast_101 rfl (lv_at hl 1 rfl) ?_
                refine lv_iload hx hb d_M_feast_102 (lv_at hl 6 rfl) ?_
                refine vp_callSi (va_Run.run (va_runS (As := [.int yr, .int (nI (q + 1))]) (rest := [.int (j_md yr (365 * (yr - 1) + j_fl (yr - 1) 4 - j_fl (yr - 1) 100 + j_fl (yr - 1) 400) q)]) ⟨hx, hb, hml, hown, hw⟩ (k_M_daysOf l yr (nI (q + 1))) (va_cwS 2 hw (bg_S ml_M_215 wt_M_daysOf wz_M wc_M_daysOf) rfl rfl rfl (by decide +kernel) ⟨Nat.le_of_ble_eq_true rfl, Nat.le_of_ble_eq_true rfl⟩) ⟨nP_b, nP_p⟩ rfl rfl hl.1 rfl (lv_room (Nat.le_of_ble_eq_true rfl)) d_M_feast_104 ⟨Nat.le_of_ble_eq_true rfl, Nat.le_of_ble_eq_true rfl⟩)) (fun r27 hr27 => ?_)
                replace hr27 := hr27.symm; subst hr27
                refine lv_iadd hx hb d_M_feast_107 ?_
                refine lv_istore (lv' := [(5, .int ((j_md yr (365 * (yr - 1) + j_fl (yr - 1) 4 - j_fl (yr - 1) 100 + j_fl (yr - 1) 400) q) + (j_dy yr (nI (q + 1))))), (0, .ref o), (1, .int yr), (2, .int (nI m9)), (3, .int wk), (4, .int kk), (6, .int (nI (q + 1)))]) hx hb d_M_feast_108 hl (by decide) rfl (fun ls hl => ?_)
                refine lv_iinc (v := nI (q + 1 + 1)) (lv' := [(6, .int (nI (q + 1 + 1))), (5, .int ((j_md yr (365 * (yr - 1) + j_fl (yr - 1) 4 - j_fl (yr - 1) 100 + j_fl (yr - 1) 400) q) + (j_dy yr (nI (q + 1))))), (0, .ref o), (1, .int yr), (2, .int (nI m9)), (3, .int wk), (4, .int kk)]) hx hb d_M_feast_110 hl (k := 6) rfl (nI_add (q + 1) 1) (by decide) rfl (fun ls hl => ?_)
                refine lv_goto (tgt := 93) hx hb d_M_feast_113 (by decide) ?_
                exact ih (q + 1) (by omega) _ _ hP hD hS ls (lv_sub hl [2, 3, 4, 5, 6, 1, 0] rfl) (by omega)
          exact loop ((m9 - 1 - 0) + 1) 0 (Nat.zero_le _) _ _ hP hD hS ls (lv_sub hl [2, 3, 4, 5, 6, 1, 0] rfl) (Nat.lt_succ_self _)
        · refine lv_iload hx hb d_M_feast_33 (lv_at hl 4 rfl) ?_
          refine lv_iconst (v := 1) hx hb d_M_feast_35 (by decide) ?_
          refine lv_iconst (v := 5) hx hb d_M_feast_36 (by decide) ?_
          refine vp_callSi (va_Run.run (va_runS (As := [.int kk, .int 1, .int 5]) (rest := []) ⟨hx, hb, hml, hown, hw⟩ (k_M_in l kk 1 5) (va_cwS 3 hw (bg_S ml_M_72 wt_M_in wz_M wc_M_in) rfl rfl rfl (by decide +kernel) ⟨Nat.le_of_ble_eq_true rfl, Nat.le_of_ble_eq_true rfl⟩) ⟨nP_b, nP_p⟩ rfl rfl hl.1 rfl (lv_room (Nat.le_of_ble_eq_true rfl)) d_M_feast_37 ⟨Nat.le_of_ble_eq_true rfl, Nat.le_of_ble_eq_true rfl⟩)) (fun r28 hr28 => ?_)
          replace hr28 := hr28.symm; subst hr28
          refine lv_if_ne (tgt := 49) hx hb d_M_feast_40 (by decide) (fun c29 => ?_) (fun c29 => ?_)
          · have c29 := b2i_t c29
            have hok : (j_in yr (-9999) 9999 && (j_in mo 1 12 && (j_in wk 0 6 && (decide (kk = -1) || j_in kk 1 5)))) = true := by simp [c2, c6, c10, c13, c29]
            obtain ⟨m9, hm1, hm2, rfl⟩ := in_1_12 hm12
            obtain ⟨d9, hd1, hd2, hd3⟩ := dy_nat yr (nI m9)
            refine lv_aload_n hx hb d_M_feast_49 rfl (lv_at hl 0 rfl) ?_
            refine lv_iconst (v := 0) hx hb d_M_feast_50 (by decide) ?_
            refine va_put (D := D) (ci := 6) (v := .int 0) (ty := .int) (C := "TimeWordsModel") (T := F_M) (N := 28) hx hb hw in_M ty_M ty_M_ok n_M hown hK hP hD hS 0 rfl rfl 0 (by decide) (hw _ fl_M_69) (fun _ h9 => h9) rfl (by decide +kernel) rfl rfl (Nat.le_of_ble_eq_true rfl) d_M_feast_51 (fun H locs hP hD hS => ?_)
            have hP : va_P D gC (mX T o a 0 z2 z3 z14 z18 z19 z20 z21 z24 z26 f1 f4 f5 f6 f7 f8 f9 f10 f11 f12 f13 f15 f16 f17 f22 f23 f25 f27) H := hP
            have hD : va_D A (mX T o a 0 z2 z3 z14 z18 z19 z20 z21 z24 z26 f1 f4 f5 f6 f7 f8 f9 f10 f11 f12 f13 f15 f16 f17 f22 f23 f25 f27) := hD
            refine lv_sipush (v := 365) hx hb d_M_feast_54 (by decide) ?_
            refine lv_iload_n hx hb d_M_feast_57 rfl (lv_at hl 1 rfl) ?_
            refine lv_iconst (v := 1) hx hb d_M_feast_58 (by decide) ?_
            refine lv_isub hx hb d_M_feast_59 ?_
            refine lv_imul hx hb d_M_feast_60 ?_
            refine lv_iload_n hx hb d_M_feast_61 rfl (lv_at hl 1 rfl) ?_
            refine lv_iconst (v := 1) hx hb d_M_feast_62 (by decide) ?_
            refine lv_isub hx hb d_M_feast_63 ?_
            refine lv_iconst (v := 4) hx hb d_M_feast_64 (by decide) ?_
            refine vp_callSi (va_Run.run (va_runS (As := [.int (yr - 1), .int 4]) (rest := [.int (365 * (yr - 1))]) ⟨hx, hb, hml, hown, hw⟩ (k_M_floor l (yr - 1) 4 (by decide)) (va_cwS 2 hw (bg_S ml_M_211 wt_M_floor wz_M wc_M_floor) rfl rfl rfl (by decide +kernel) ⟨Nat.le_of_ble_eq_true rfl, Nat.le_of_ble_eq_true rfl⟩) ⟨nP_b, nP_p⟩ rfl rfl hl.1 rfl (lv_room (Nat.le_of_ble_eq_true rfl)) d_M_feast_65 ⟨Nat.le_of_ble_eq_true rfl, Nat.le_of_ble_eq_true rfl⟩)) (fun r30 hr30 => ?_)
            replace hr30 := hr30.symm; subst hr30
            refine lv_iadd hx hb d_M_feast_68 ?_
            refine lv_iload_n hx hb d_M_feast_69 rfl (lv_at hl 1 rfl) ?_
            refine lv_iconst (v := 1) hx hb d_M_feast_70 (by decide) ?_
            refine lv_isub hx hb d_M_feast_71 ?_
            refine lv_bipush (v := 100) hx hb d_M_feast_72 (by decide) ?_
            refine vp_callSi (va_Run.run (va_runS (As := [.int (yr - 1), .int 100]) (rest := [.int ((365 * (yr - 1)) + (j_fl (yr - 1) 4))]) ⟨hx, hb, hml, hown, hw⟩ (k_M_floor l (yr - 1) 100 (by decide)) (va_cwS 2 hw (bg_S ml_M_211 wt_M_floor wz_M wc_M_floor) rfl rfl rfl (by decide +kernel) ⟨Nat.le_of_ble_eq_true rfl, Nat.le_of_ble_eq_true rfl⟩) ⟨nP_b, nP_p⟩ rfl rfl hl.1 rfl (lv_room (Nat.le_of_ble_eq_true rfl)) d_M_feast_74 ⟨Nat.le_of_ble_eq_true rfl, Nat.le_of_ble_eq_true rfl⟩)) (fun r31 hr31 => ?_)
            replace hr31 := hr31.symm; subst hr31
            refine lv_isub hx hb d_M_feast_77 ?_
            refine lv_iload_n hx hb d_M_feast_78 rfl (lv_at hl 1 rfl) ?_
            refine lv_iconst (v := 1) hx hb d_M_feast_79 (by decide) ?_
            refine lv_isub hx hb d_M_feast_80 ?_
            refine lv_sipush (v := 400) hx hb d_M_feast_81 (by decide) ?_
            refine vp_callSi (va_Run.run (va_runS (As := [.int (yr - 1), .int 400]) (rest := [.int (((365 * (yr - 1)) + (j_fl (yr - 1) 4)) - (j_fl (yr - 1) 100))]) ⟨hx, hb, hml, hown, hw⟩ (k_M_floor l (yr - 1) 400 (by decide)) (va_cwS 2 hw (bg_S ml_M_211 wt_M_floor wz_M wc_M_floor) rfl rfl rfl (by decide +kernel) ⟨Nat.le_of_ble_eq_true rfl, Nat.le_of_ble_eq_true rfl⟩) ⟨nP_b, nP_p⟩ rfl rfl hl.1 rfl (lv_room (Nat.le_of_ble_eq_true rfl)) d_M_feast_84 ⟨Nat.le_of_ble_eq_true rfl, Nat.le_of_ble_eq_true rfl⟩)) (fun r32 hr32 => ?_)
            replace hr32 := hr32.symm; subst hr32
            refine lv_iadd hx hb d_M_feast_87 ?_
            refine lv_istore (lv' := [(5, .int ((((365 * (yr - 1)) + (j_fl (yr - 1) 4)) - (j_fl (yr - 1) 100)) + (j_fl (yr - 1) 400))), (0, .ref o), (1, .int yr), (2, .int (nI m9)), (3, .int wk), (4, .int kk)]) hx hb d_M_feast_88 hl (by decide) rfl (fun ls hl => ?_)
            refine lv_iconst (v := 1) hx hb d_M_feast_90 (by decide) ?_
            refine lv_istore (lv' := [(6, .int 1), (5, .int ((((365 * (yr - 1)) + (j_fl (yr - 1) 4)) - (j_fl (yr - 1) 100)) + (j_fl (yr - 1) 400))), (0, .ref o), (1, .int yr), (2, .int (nI m9)), (3, .int wk), (4, .int kk)]) hx hb d_M_feast_91 hl (by decide) rfl (fun ls hl => ?_)
            have hl : lv_has ls 9 [(6, .int 1), (5, .int (j_md yr (365 * (yr - 1) + j_fl (yr - 1) 4 - j_fl (yr - 1) 100 + j_fl (yr - 1) 400) 0)), (0, .ref o), (1, .int yr), (2, .int (nI m9)), (3, .int wk), (4, .int kk)] := hl
            have loop : ∀ (n : Nat) (q : Nat), (q ≤ m9 - 1) → ∀ (H : Heap) (locs : List Loc), va_P D gC (mX T o a 0 z2 z3 z14 z18 z19 z20 z21 z24 z26 f1 f4 f5 f6 f7 f8 f9 f10 f11 f12 f13 f15 f16 f17 f22 f23 f25 f27) H → va_D A (mX T o a 0 z2 z3 z14 z18 z19 z20 z21 z24 z26 f1 f4 f5 f6 f7 f8 f9 f10 f11 f12 f13 f15 f16 f17 f22 f23 f25 f27) → va_S A s.heap H locs → ∀ (ls : Array Slot), lv_has ls 9 [(0, .ref o), (1, .int yr), (2, .int (nI m9)), (3, .int wk), (4, .int kk), (5, .int (j_md yr (365 * (yr - 1) + j_fl (yr - 1) 4 - j_fl (yr - 1) 100 + j_fl (yr - 1) 400) q)), (6, .int (nI (q + 1)))] → m9 - 1 - q < n → W p l e (headSpec (Cond.code y_M_feast b_M_feast 9 (some .int) :: bg_W) ({ frames := 2, cells := 0, slots := 0, locals := 42 })).room s m ([.ref o, .int yr, .int (nI m9), .int wk, .int kk] : List Value).toArray below meth c H locs 0 0 (MQ below (va_Qi (fun (r : Int32) (w0 : Int32) => ((j_in yr (-9999) 9999 && (j_in (nI m9) 1 12 && (j_in wk 0 6 && (decide (kk = -1) || j_in kk 1 5)))) = false ∧ r = 0 ∧ w0 = 1) ∨ ((j_in yr (-9999) 9999 && (j_in (nI m9) 1 12 && (j_in wk 0 6 && (decide (kk = -1) || j_in kk 1 5)))) = true ∧ w0 = 0 ∧ ∃ mm, 1 ≤ mm ∧ mm ≤ 12 ∧ (nI m9) = nI mm ∧ ∃ dn, 28 ≤ dn ∧ dn ≤ 31 ∧ j_dy yr (nI mm) = nI dn ∧ r = (if kk = -1 then (j_fs (j_md yr (365 * (yr - 1) + j_fl (yr - 1) 4 - j_fl (yr - 1) 100 + j_fl (yr - 1) 400) (mm - 1)) wk kk dn).2 else if (j_fs (j_md yr (365 * (yr - 1) + j_fl (yr - 1) 4 - j_fl (yr - 1) 100 + j_fl (yr - 1) 400) (mm - 1)) wk kk dn).1 < kk then 0 else (j_fs (j_md yr (365 * (yr - 1) + j_fl (yr - 1) 4 - j_fl (yr - 1) 100 + j_fl (yr - 1) 400) (mm - 1)) wk kk dn).2))) (qB D T A (fun w0 : Int32 => mX T o a w0 z2 z3 z14 z18 z19 z20 z21 z24 z26 f1 f4 f5 f6 f7 f8 f9 f10 f11 f12 f13 f15 f16 f17 f22 f23 f25 f27)) A) ([.ref o, .int yr, .int (nI m9), .int wk, .int kk] : List Value).toArray s 0 0 A) (F0 m 93 ls []) := by
              intro n
              induction n with
              | zero => intro q hq H locs hP hD hS ls hl hm; exact absurd hm (Nat.not_lt_zero _)
              | succ n ih =>
                intro q hq H locs hP hD hS ls hl hm
                refine lv_iload hx hb d_M_feast_93 (lv_at hl 6 rfl) ?_
                refine lv_iload_n hx hb d_M_feast_95 rfl (lv_at hl 2 rfl) ?_
                refine lv_icmp_ge (tgt := 116) hx hb d_M_feast_96 (by decide) (fun c33 => ?_) (fun c33 => ?_)
                · have c33 := nc_le (a := m9) (b := q + 1) c33 (by omega) (by omega)
                  refine lv_iconst (v := 0) hx hb d_M_feast_116 (by decide) ?_
                  refine lv_istore (lv' := [(6, .int 0), (0, .ref o), (1, .int yr), (2, .int (nI m9)), (3, .int wk), (4, .int kk), (5, .int (j_md yr (365 * (yr - 1) + j_fl (yr - 1) 4 - j_fl (yr - 1) 100 + j_fl (yr - 1) 400) q))]) hx hb d_M_feast_117 hl (by decide) rfl (fun ls hl => ?_)
                  refine lv_iconst (v := 0) hx hb d_M_feast_119 (by decide) ?_
                  refine lv_istore (lv' := [(7, .int 0), (6, .int 0), (0, .ref o), (1, .int yr), (2, .int (nI m9)), (3, .int wk), (4, .int kk), (5, .int (j_md yr (365 * (yr - 1) + j_fl (yr - 1) 4 - j_fl (yr - 1) 100 + j_fl (yr - 1) 400) q))]) hx hb d_M_feast_120 hl (by decide) rfl (fun ls hl => ?_)
                  refine lv_iconst (v := 1) hx hb d_M_feast_122 (by decide) ?_
                  refine lv_istore (lv' := [(8, .int 1), (7, .int 0), (6, .int 0), (0, .ref o), (1, .int yr), (2, .int (nI m9)), (3, .int wk), (4, .int kk), (5, .int (j_md yr (365 * (yr - 1) + j_fl (yr - 1) 4 - j_fl (yr - 1) 100 + j_fl (yr - 1) 400) q))]) hx hb d_M_feast_123 hl (by decide) rfl (fun ls hl => ?_)
                  have eq9 : q = m9 - 1 := by omega
                  subst eq9
                  obtain ⟨dd, hdd⟩ : ∃ z9, z9 = j_md yr (365 * (yr - 1) + j_fl (yr - 1) 4 - j_fl (yr - 1) 100 + j_fl (yr - 1) 400) (m9 - 1) := ⟨_, rfl⟩
                  rw [← hdd] at hl
                  have hl : lv_has ls 9 [(8, .int 1), (7, .int 0), (6, .int 0), (0, .ref o), (1, .int yr), (2, .int (nI m9)), (3, .int wk), (4, .int kk), (5, .int dd)] := hl
                  have lopd : ∀ (nd : Nat) (q8 : Nat) (n8 f8v : Int32), (q8 ≤ d9) → ((n8, f8v) = j_fs dd wk kk q8) → ∀ (H : Heap) (locs : List Loc), va_P D gC (mX T o a 0 z2 z3 z14 z18 z19 z20 z21 z24 z26 f1 f4 f5 f6 f7 f8 f9 f10 f11 f12 f13 f15 f16 f17 f22 f23 f25 f27) H → va_D A (mX T o a 0 z2 z3 z14 z18 z19 z20 z21 z24 z26 f1 f4 f5 f6 f7 f8 f9 f10 f11 f12 f13 f15 f16 f17 f22 f23 f25 f27) → va_S A s.heap H locs → ∀ (ls : Array Slot), lv_has ls 9 [(0, .ref o), (1, .int yr), (2, .int (nI m9)), (3, .int wk), (4, .int kk), (5, .int dd), (6, .int n8), (7, .int f8v), (8, .int (nI (q8 + 1)))] → d9 - q8 < nd → W p l e (headSpec (Cond.code y_M_feast b_M_feast 9 (some .int) :: bg_W) ({ frames := 2, cells := 0, slots := 0, locals := 42 })).room s m ([.ref o, .int yr, .int (nI m9), .int wk, .int kk] : List Value).toArray below meth c H locs 0 0 (MQ below (va_Qi (fun (r : Int32) (w0 : Int32) => ((j_in yr (-9999) 9999 && (j_in (nI m9) 1 12 && (j_in wk 0 6 && (decide (kk = -1) || j_in kk 1 5)))) = false ∧ r = 0 ∧ w0 = 1) ∨ ((j_in yr (-9999) 9999 && (j_in (nI m9) 1 12 && (j_in wk 0 6 && (decide (kk = -1) || j_in kk 1 5)))) = true ∧ w0 = 0 ∧ ∃ mm, 1 ≤ mm ∧ mm ≤ 12 ∧ (nI m9) = nI mm ∧ ∃ dn, 28 ≤ dn ∧ dn ≤ 31 ∧ j_dy yr (nI mm) = nI dn ∧ r = (if kk = -1 then (j_fs (j_md yr (365 * (yr - 1) + j_fl (yr - 1) 4 - j_fl (yr - 1) 100 + j_fl (yr - 1) 400) (mm - 1)) wk kk dn).2 else if (j_fs (j_md yr (365 * (yr - 1) + j_fl (yr - 1) 4 - j_fl (yr - 1) 100 + j_fl (yr - 1) 400) (mm - 1)) wk kk dn).1 < kk then 0 else (j_fs (j_md yr (365 * (yr - 1) + j_fl (yr - 1) 4 - j_fl (yr - 1) 100 + j_fl (yr - 1) 400) (mm - 1)) wk kk dn).2))) (qB D T A (fun w0 : Int32 => mX T o a w0 z2 z3 z14 z18 z19 z20 z21 z24 z26 f1 f4 f5 f6 f7 f8 f9 f10 f11 f12 f13 f15 f16 f17 f22 f23 f25 f27)) A) ([.ref o, .int yr, .int (nI m9), .int wk, .int kk] : List Value).toArray s 0 0 A) (F0 m 125 ls []) := by
                    intro nd
                    induction nd with
                    | zero => intro q8 n8 f8v hq8 hfs H locs hP hD hS ls hl hm; exact absurd hm (Nat.not_lt_zero _)
                    | succ nd ihd =>
                      intro q8 n8 f8v hq8 hfs H locs hP hD hS ls hl hm
                      refine lv_iload hx hb d_M_feast_125 (lv_at hl 8 rfl) ?_
                      refine lv_iload_n hx hb d_M_feast_127 rfl (lv_at hl 1 rfl) ?_
                      refine lv_iload_n hx hb d_M_feast_128 rfl (lv_at hl 2 rfl) ?_
                      refine vp_callSi (va_Run.run (va_runS (As := [.int yr, .int (nI m9)]) (rest := [.int (nI (q8 + 1))]) ⟨hx, hb, hml, hown, hw⟩ (k_M_daysOf l yr (nI m9)) (va_cwS 2 hw (bg_S ml_M_215 wt_M_daysOf wz_M wc_M_daysOf) rfl rfl rfl (by decide +kernel) ⟨Nat.le_of_ble_eq_true rfl, Nat.le_of_ble_eq_true rfl⟩) ⟨nP_b, nP_p⟩ rfl rfl hl.1 rfl (lv_room (Nat.le_of_ble_eq_true rfl)) d_M_feast_129 ⟨Nat.le_of_ble_eq_true rfl, Nat.le_of_ble_eq_true rfl⟩)) (fun r34 hr34 => ?_)
                      replace hr34 := hr34.symm; subst hr34
                      rw [hd3]
                      refine lv_icmp_gt (tgt := 193) hx hb d_M_feast_132 (by decide) (fun c35 => ?_) (fun c35 => ?_)
                      · have c35 := nc_lt (a := d9) (b := q8 + 1) c35 (by omega) (by omega)
                        refine lv_iload hx hb d_M_feast_193 (lv_at hl 4 rfl) ?_
                        refine lv_iconst (v := (-1)) hx hb d_M_feast_195 (by decide) ?_
                        refine lv_icmp_eq (tgt := 206) hx hb d_M_feast_196 (by decide) (fun c36 => ?_) (fun c36 => ?_)
                        · refine lv_iload hx hb d_M_feast_206 (lv_at hl 7 rfl) ?_
                          refine lv_goto (tgt := 212) hx hb d_M_feast_208 (by decide) ?_
                          exact W.iret (v := f8v) hx hb hr (fun t ht hW => ⟨⟨f8v, 0, rfl, (Or.inr ⟨hok, rfl, m9, hm1, hm2, rfl, d9, hd1, hd2, hd3, by rw [← hdd, ← show q8 = d9 by omega, ← hfs]; simp only [if_pos c36]⟩), by rw [ht]; exact hP, va_K.moved hW.alike hK, hD⟩, hS.F ht⟩) hS.2.2 d_M_feast_212
                        · refine lv_iload hx hb d_M_feast_199 (lv_at hl 6 rfl) ?_
                          refine lv_iload hx hb d_M_feast_201 (lv_at hl 4 rfl) ?_
                          refine lv_icmp_lt (tgt := 211) hx hb d_M_feast_203 (by decide) (fun c37 => ?_) (fun c37 => ?_)
                          · refine lv_iconst (v := 0) hx hb d_M_feast_211 (by decide) ?_
                            exact W.iret (v := 0) hx hb hr (fun t ht hW => ⟨⟨0, 0, rfl, (Or.inr ⟨hok, rfl, m9, hm1, hm2, rfl, d9, hd1, hd2, hd3, by rw [← hdd, ← show q8 = d9 by omega, ← hfs]; simp only [if_neg c36, if_pos c37]⟩), by rw [ht]; exact hP, va_K.moved hW.alike hK, hD⟩, hS.F ht⟩) hS.2.2 d_M_feast_212
                          · refine lv_iload hx hb d_M_feast_206 (lv_at hl 7 rfl) ?_
                            refine lv_goto (tgt := 212) hx hb d_M_feast_208 (by decide) ?_
                            exact W.iret (v := f8v) hx hb hr (fun t ht hW => ⟨⟨f8v, 0, rfl, (Or.inr ⟨hok, rfl, m9, hm1, hm2, rfl, d9, hd1, hd2, hd3, by rw [← hdd, ← show q8 = d9 by omega, ← hfs]; simp only [if_neg c36, if_neg c37]⟩), by rw [ht]; exact hP, va_K.moved hW.alike hK, hD⟩, hS.F ht⟩) hS.2.2 d_M_feast_212
                      · have c35 := nc_nlt (a := d9) (b := q8 + 1) c35 (by omega) (by omega)
                        refine lv_iload hx hb d_M_feast_135 (lv_at hl 5 rfl) ?_
                        refine lv_iload hx hb d_M_feast_137 (lv_at hl 8 rfl) ?_
                        refine lv_iadd hx hb d_M_feast_139 ?_
                        refine lv_iconst (v := 1) hx hb d_M_feast_140 (by decide) ?_
                        refine lv_isub hx hb d_M_feast_141 ?_
                        refine lv_bipush (v := 7) hx hb d_M_feast_142 (by decide) ?_
                        refine lv_iload hx hb d_M_feast_144 (lv_at hl 5 rfl) ?_
                        refine lv_iload hx hb d_M_feast_146 (lv_at hl 8 rfl) ?_
                        refine lv_iadd hx hb d_M_feast_148 ?_
                        refine lv_iconst (v := 1) hx hb d_M_feast_149 (by decide) ?_
                        refine lv_isub hx hb d_M_feast_150 ?_
                        refine lv_bipush (v := 7) hx hb d_M_feast_151 (by decide) ?_
                        refine vp_callSi (va_Run.run (va_runS (As := [.int ((dd + (nI (q8 + 1))) - 1), .int 7]) (rest := [.int 7, .int ((dd + (nI (q8 + 1))) - 1)]) ⟨hx, hb, hml, hown, hw⟩ (k_M_floor l ((dd + (nI (q8 + 1))) - 1) 7 (by decide)) (va_cwS 2 hw (bg_S ml_M_211 wt_M_floor wz_M wc_M_floor) rfl rfl rfl (by decide +kernel) ⟨Nat.le_of_ble_eq_true rfl, Nat.le_of_ble_eq_true rfl⟩) ⟨nP_b, nP_p⟩ rfl rfl hl.1 rfl (lv_room (Nat.le_of_ble_eq_true rfl)) d_M_feast_153 ⟨Nat.le_of_ble_eq_true rfl, Nat.le_of_ble_eq_true rfl⟩)) (fun r38 hr38 => ?_)
                        replace hr38 := hr38.symm; subst hr38
                        refine lv_imul hx hb d_M_feast_156 ?_
                        refine lv_isub hx hb d_M_feast_157 ?_
                        refine lv_iload_n hx hb d_M_feast_158 rfl (lv_at hl 3 rfl) ?_
                        refine lv_icmp_ne (tgt := 187) hx hb d_M_feast_159 (by decide) (fun c39 => ?_) (fun c39 => ?_)
                        · refine lv_iinc (v := nI (q8 + 1 + 1)) (lv' := [(8, .int (nI (q8 + 1 + 1))), (0, .ref o), (1, .int yr), (2, .int (nI m9)), (3, .int wk), (4, .int kk), (5, .int dd), (6, .int n8), (7, .int f8v)]) hx hb d_M_feast_187 hl (k := 8) rfl (nI_add (q8 + 1) 1) (by decide) rfl (fun ls hl => ?_)
                          refine lv_goto (tgt := 125) hx hb d_M_feast_190 (by decide) ?_
                          exact ihd (q8 + 1) n8 f8v (by omega) (by rw [j_fs, if_neg c39, ← hfs]) _ _ hP hD hS ls (lv_sub hl [1, 2, 3, 4, 5, 6, 7, 8, 0] rfl) (by omega)
                        · obtain ⟨x40, ex40⟩ : ∃ y : Int32, y = n8 + 1 := ⟨_, rfl⟩
                          refine lv_iinc (v := x40) (lv' := [(6, .int x40), (0, .ref o), (1, .int yr), (2, .int (nI m9)), (3, .int wk), (4, .int kk), (5, .int dd), (7, .int f8v), (8, .int (nI (q8 + 1)))]) hx hb d_M_feast_162 hl (k := 6) rfl (by rw [ex40]; rfl) (by decide) rfl (fun ls hl => ?_)
                          refine lv_iload hx hb d_M_feast_165 (lv_at hl 5 rfl) ?_
                          refine lv_iconst (v := (-1)) hx hb d_M_feast_167 (by decide) ?_
                          refine lv_icmp_eq (tgt := 178) hx hb d_M_feast_168 (by decide) (fun c41 => ?_) (fun c41 => ?_)
                          · refine lv_iload hx hb d_M_feast_178 (lv_at hl 8 rfl) ?_
                            refine lv_goto (tgt := 185) hx hb d_M_feast_180 (by decide) ?_
                            refine lv_istore (lv' := [(7, .int (nI (q8 + 1))), (6, .int x40), (0, .ref o), (1, .int yr), (2, .int (nI m9)), (3, .int wk), (4, .int kk), (5, .int dd), (8, .int (nI (q8 + 1)))]) hx hb d_M_feast_185 hl (by decide) rfl (fun ls hl => ?_)
                            refine lv_iinc (v := nI (q8 + 1 + 1)) (lv' := [(8, .int (nI (q8 + 1 + 1))), (7, .int (nI (q8 + 1))), (6, .int x40), (0, .ref o), (1, .int yr), (2, .int (nI m9)), (3, .int wk), (4, .int kk), (5, .int dd)]) hx hb d_M_feast_187 hl (k := 8) rfl (nI_add (q8 + 1) 1) (by decide) rfl (fun ls hl => ?_)
                            refine lv_goto (tgt := 125) hx hb d_M_feast_190 (by decide) ?_
                            exact ihd (q8 + 1) x40 (nI (q8 + 1)) (by omega) (by rw [j_fs, if_pos c39, if_pos c41, ← hfs, ex40]) _ _ hP hD hS ls (lv_sub hl [3, 4, 5, 6, 7, 8, 2, 1, 0] rfl) (by omega)
                          · refine lv_iload hx hb d_M_feast_171 (lv_at hl 0 rfl) ?_
                            refine lv_iload hx hb d_M_feast_173 (lv_at hl 5 rfl) ?_
                            refine lv_icmp_ne (tgt := 183) hx hb d_M_feast_175 (by decide) (fun c42 => ?_) (fun c42 => ?_)
                            · refine lv_iload hx hb d_M_feast_183 (lv_at hl 7 rfl) ?_
                              refine lv_istore (lv' := [(7, .int f8v), (6, .int x40), (0, .ref o), (1, .int yr), (2, .int (nI m9)), (3, .int wk), (4, .int kk), (5, .int dd), (8, .int (nI (q8 + 1)))]) hx hb d_M_feast_185 hl (by decide) rfl (fun ls hl => ?_)
                              refine lv_iinc (v := nI (q8 + 1 + 1)) (lv' := [(8, .int (nI (q8 + 1 + 1))), (7, .int f8v), (6, .int x40), (0, .ref o), (1, .int yr), (2, .int (nI m9)), (3, .int wk), (4, .int kk), (5, .int dd)]) hx hb d_M_feast_187 hl (k := 8) rfl (nI_add (q8 + 1) 1) (by decide) rfl (fun ls hl => ?_)
                              refine lv_goto (tgt := 125) hx hb d_M_feast_190 (by decide) ?_
                              exact ihd (q8 + 1) x40 f8v (by omega) (by rw [j_fs, if_pos c39, if_neg c41, ← hfs, ex40]; simp only []; rw [← ex40, if_neg c42]) _ _ hP hD hS ls (lv_sub hl [3, 4, 5, 6, 7, 8, 2, 1, 0] rfl) (by omega)
                            · refine lv_iload hx hb d_M_feast_178 (lv_at hl 8 rfl) ?_
                              refine lv_goto (tgt := 185) hx hb d_M_feast_180 (by decide) ?_
                              refine lv_istore (lv' := [(7, .int (nI (q8 + 1))), (6, .int x40), (0, .ref o), (1, .int yr), (2, .int (nI m9)), (3, .int wk), (4, .int kk), (5, .int dd), (8, .int (nI (q8 + 1)))]) hx hb d_M_feast_185 hl (by decide) rfl (fun ls hl => ?_)
                              refine lv_iinc (v := nI (q8 + 1 + 1)) (lv' := [(8, .int (nI (q8 + 1 + 1))), (7, .int (nI (q8 + 1))), (6, .int x40), (0, .ref o), (1, .int yr), (2, .int (nI m9)), (3, .int wk), (4, .int kk), (5, .int dd)]) hx hb d_M_feast_187 hl (k := 8) rfl (nI_add (q8 + 1) 1) (by decide) rfl (fun ls hl => ?_)
                              refine lv_goto (tgt := 125) hx hb d_M_feast_190 (by decide) ?_
                              exact ihd (q8 + 1) x40 (nI (q8 + 1)) (by omega) (by rw [j_fs, if_pos c39, if_neg c41, ← hfs, ex40]; simp only []; rw [← ex40, if_pos c42]) _ _ hP hD hS ls (lv_sub hl [3, 4, 5, 6, 7, 8, 2, 1, 0] rfl) (by omega)
                  exact lopd ((d9 - 0) + 1) 0 0 0 (Nat.zero_le _) rfl _ _ hP hD hS ls (lv_sub hl [3, 4, 5, 6, 7, 8, 2, 1, 0] rfl) (Nat.lt_succ_self _)
                · have c33 := nc_nle (a := m9) (b := q + 1) c33 (by omega) (by omega)
                  refine lv_iload hx hb d_M_feast_99 (lv_at hl 5 rfl) ?_
                  refine lv_iload_n hx hb d_M_feast_101 rfl (lv_at hl 1 rfl) ?_
                  refine lv_iload hx hb d_M_feast_102 (lv_at hl 6 rfl) ?_
                  refine vp_callSi (va_Run.run (va_runS (As := [.int yr, .int (nI (q + 1))]) (rest := [.int (j_md yr (365 * (yr - 1) + j_fl (yr - 1) 4 - j_fl (yr - 1) 100 + j_fl (yr - 1) 400) q)]) ⟨hx, hb, hml, hown, hw⟩ (k_M_daysOf l yr (nI (q + 1))) (va_cwS 2 hw (bg_S ml_M_215 wt_M_daysOf wz_M wc_M_daysOf) rfl rfl rfl (by decide +kernel) ⟨Nat.le_of_ble_eq_true rfl, Nat.le_of_ble_eq_true rfl⟩) ⟨nP_b, nP_p⟩ rfl rfl hl.1 rfl (lv_room (Nat.le_of_ble_eq_true rfl)) d_M_feast_104 ⟨Nat.le_of_ble_eq_true rfl, Nat.le_of_ble_eq_true rfl⟩)) (fun r43 hr43 => ?_)
                  replace hr43 := hr43.symm; subst hr43
                  refine lv_iadd hx hb d_M_feast_107 ?_
                  refine lv_istore (lv' := [(5, .int ((j_md yr (365 * (yr - 1) + j_fl (yr - 1) 4 - j_fl (yr - 1) 100 + j_fl (yr - 1) 400) q) + (j_dy yr (nI (q + 1))))), (0, .ref o), (1, .int yr), (2, .int (nI m9)), (3, .int wk), (4, .int kk), (6, .int (nI (q + 1)))]) hx hb d_M_feast_108 hl (by decide) rfl (fun ls hl => ?_)
                  refine lv_iinc (v := nI (q + 1 + 1)) (lv' := [(6, .int (nI (q + 1 + 1))), (5, .int ((j_md yr (365 * (yr - 1) + j_fl (yr - 1) 4 - j_fl (yr - 1) 100 + j_fl (yr - 1) 400) q) + (j_dy yr (nI (q + 1))))), (0, .ref o), (1, .int yr), (2, .int (nI m9)), (3, .int wk), (4, .int kk)]) hx hb d_M_feast_110 hl (k := 6) rfl (nI_add (q + 1) 1) (by decide) rfl (fun ls hl => ?_)
                  refine lv_goto (tgt := 93) hx hb d_M_feast_113 (by decide) ?_
                  exact ih (q + 1) (by omega) _ _ hP hD hS ls (lv_sub hl [2, 3, 4, 5, 6, 1, 0] rfl) (by omega)
            exact loop ((m9 - 1 - 0) + 1) 0 (Nat.zero_le _) _ _ hP hD hS ls (lv_sub hl [2, 3, 4, 5, 6, 1, 0] rfl) (Nat.lt_succ_self _)
          · have c29 := b2i_f c29
            have hok : (j_in yr (-9999) 9999 && (j_in mo 1 12 && (j_in wk 0 6 && (decide (kk = -1) || j_in kk 1 5)))) = false := by simp [c2, c6, c10, c13, c29]
            refine lv_aload_n hx hb d_M_feast_43 rfl (lv_at hl 0 rfl) ?_
            refine lv_iconst (v := 1) hx hb d_M_feast_44 (by decide) ?_
            refine g_calli (va_runV (As := [.int 1]) (rest := []) ⟨hx, hb, hml, hown, hw⟩ (k_M_fails l D T o a z0 z2 z3 z14 z18 z19 z20 z21 z24 z26 f1 f4 f5 f6 f7 f8 f9 f10 f11 f12 f13 f15 f16 f17 f22 f23 f25 f27 s.heap.size 1) (cwV 1 hw (bg_V ml_M_89 wi_M_fails wv_M_fails wz_M wc_M_fails) rfl rfl rfl (by decide +kernel) ⟨Nat.le_of_ble_eq_true rfl, Nat.le_of_ble_eq_true rfl⟩) ⟨qP_b, va_recv hK hP (ci := 6) (q0 := 0) rfl rfl, qP_p hP hK hD⟩ rfl rfl hl.1 rfl (lv_room (Nat.le_of_ble_eq_true rfl)) d_M_feast_45 ⟨Nat.le_of_ble_eq_true rfl, Nat.le_of_ble_eq_true rfl⟩) hD hS hA (fun r44 u45 H locs hr44 hP hD hS => ?_)
            obtain ⟨q0, q1⟩ := hr44
            replace q0 := q0.symm; subst q0; replace q1 := q1.symm; subst q1
            have hP : va_P D gC (mX T o a 1 z2 z3 z14 z18 z19 z20 z21 z24 z26 f1 f4 f5 f6 f7 f8 f9 f10 f11 f12 f13 f15 f16 f17 f22 f23 f25 f27) H := hP
            have hD : va_D A (mX T o a 1 z2 z3 z14 z18 z19 z20 z21 z24 z26 f1 f4 f5 f6 f7 f8 f9 f10 f11 f12 f13 f15 f16 f17 f22 f23 f25 f27) := hD
            exact W.iret (v := 0) hx hb hr (fun t ht hW => ⟨⟨0, 1, rfl, (Or.inl ⟨hok, rfl, rfl⟩), by rw [ht]; exact hP, va_K.moved hW.alike hK, hD⟩, hS.F ht⟩) hS.2.2 d_M_feast_48
