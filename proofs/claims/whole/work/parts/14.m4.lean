def j_mR (k wd fi la : Int32) : Bool := if 3 ≤ k then (if k = 3 then true else if k = 4 then !decide (fi - 1 < -9999) else !decide (9999 < la + 1)) else !decide (((la - fi + 1) / 3) ≤ 0)
def j_mF (k wd fi la : Int32) : Int32 := if 3 ≤ k then (if k = 3 then (if -9999 ≤ fi - wd then fi - wd else -9999) else if k = 4 then fi else la + 1) else fi + k * ((la - fi + 1) / 3)
def j_mL (k wd fi la : Int32) : Int32 := if 3 ≤ k then (if k = 3 then (if la + wd ≤ 9999 then la + wd else 9999) else if k = 4 then fi - 1 else la) else if k = 2 then la else fi + k * ((la - fi + 1) / 3) + ((la - fi + 1) / 3) - 1
def j_mO (k : Int32) : Int32 := if 3 ≤ k then (if k = 3 then 0 else if k = 4 then 1 else 2) else 0
set_option maxHeartbeats 4000000 in
set_option maxRecDepth 100000 in
theorem k_M_makes (l : Launch) (D : va_G) (T : gT) (o : Nat) (a : Nat → Nat) (z0 z2 z3 z14 z18 z19 z20 z21 z24 z26 : Int32) (f1 f4 f5 f6 f7 f8 f9 f10 f11 f12 f13 f15 f16 f17 f22 f23 f25 f27 : Nat → Int32) (sz : Nat) (k : Int32) : Met l y_M_makes (Cond.code y_M_makes b_M_makes 4 (some .boolean) :: bg_W) ({ frames := 0, cells := 0, slots := 0, locals := 0 }) (qP D T (mX T o a z0 z2 z3 z14 z18 z19 z20 z21 z24 z26 f1 f4 f5 f6 f7 f8 f9 f10 f11 f12 f13 f15 f16 f17 f22 f23 f25 f27) [.ref o, .int k] sz) (va_Qi (fun (r : Int32) (u : Int32 × Int32 × Int32) => match u with | (w19, w20, w21) => (¬ z21 = 0 ∧ r = 0 ∧ w19 = z19 ∧ w20 = z20 ∧ w21 = z21) ∨ (z21 = 0 ∧ r = b2i (j_mR k z18 z19 z20) ∧ w19 = j_mF k z18 z19 z20 ∧ w20 = j_mL k z18 z19 z20 ∧ w21 = j_mO k)) (qB D T (va_A (mX T o a z0 z2 z3 z14 z18 z19 z20 z21 z24 z26 f1 f4 f5 f6 f7 f8 f9 f10 f11 f12 f13 f15 f16 f17 f22 f23 f25 f27) sz) (fun u : Int32 × Int32 × Int32 => match u with | (w19, w20, w21) => mX T o a z0 z2 z3 z14 z18 w19 w20 w21 z24 z26 f1 f4 f5 f6 f7 f8 f9 f10 f11 f12 f13 f15 f16 f17 f22 f23 f25 f27)) (va_A (mX T o a z0 z2 z3 z14 z18 z19 z20 z21 z24 z26 f1 f4 f5 f6 f7 f8 f9 f10 f11 f12 f13 f15 f16 f17 f22 f23 f25 f27) sz)) 0 0 (va_A (mX T o a z0 z2 z3 z14 z18 z19 z20 z21 z24 z26 f1 f4 f5 f6 f7 f8 f9 f10 f11 f12 f13 f15 f16 f17 f22 f23 f25 f27) sz) := by
  refine Met.ofW (cc := b_M_makes) (maxL := 4) (ret := (some .boolean)) (by decide) rfl ?_
  intro p e s m args below meth c s₁ B hml hv
  obtain ⟨rfl, hsz, hP, hK, hD0⟩ := hv
  have hx := B.exec
  have hb := B.bytes
  have hr := B.returns
  have hw : ∀ w ∈ bg_W, w.before ([.ref o, .int k] : List Value).toArray s = true := fun w h => atoms_spec (ws := (Cond.code y_M_makes b_M_makes 4 (some .boolean) :: bg_W)) B.pre w (List.mem_cons_of_mem _ h)
  have hown : s.vm.findClass "TimeWordsModel" = some m.cls := findClass_of_methodNamed B.named
  have hlocks := B.notSynchronized
  subst hsz
  have hD := hD0.self (sz := s.heap.size)
  generalize hAe : va_A (mX T o a z0 z2 z3 z14 z18 z19 z20 z21 z24 z26 f1 f4 f5 f6 f7 f8 f9 f10 f11 f12 f13 f15 f16 f17 f22 f23 f25 f27) s.heap.size = A at hD ⊢
  have hA : ∀ q : Nat, s.heap.size ≤ q → A q := fun q h => by rw [← hAe]; exact Or.inr h
  have hS : va_S A s.heap s.heap [] := va_S.rf
  have hl := lv_entry ([.ref o, .int k]) (n := 4) (Nat.le_of_ble_eq_true rfl)
  rw [lg_entry_eq]
  generalize (lg_sl ([.ref o, .int k]) ++ List.replicate (4 - (lg_sl ([.ref o, .int k])).length) Slot.unset).toArray = ls at hl ⊢
  have hl : lv_has ls 4 [(0, .ref o), (1, .int k)] := hl
  refine lv_aload_n hx hb d_M_makes_0 rfl (lv_at hl 0 rfl) ?_
  refine va_get (D := D) (ci := 6) (v := .int z21) (C := "TimeWordsModel") (T := F_M) (N := 28) hx hb hw in_M hown hK hP 0 rfl rfl 21 (by decide) (hw _ fl_M_138) (fun _ h9 => h9) rfl d_M_makes_1 ?_
  refine lv_if_eq (tgt := 9) hx hb d_M_makes_4 (by decide) (fun c1 => ?_) (fun c1 => ?_)
  · refine lv_aload_n hx hb d_M_makes_9 rfl (lv_at hl 0 rfl) ?_
    refine va_get (D := D) (ci := 6) (v := .int z20) (C := "TimeWordsModel") (T := F_M) (N := 28) hx hb hw in_M hown hK hP 0 rfl rfl 20 (by decide) (hw _ fl_M_135) (fun _ h9 => h9) rfl d_M_makes_10 ?_
    refine lv_aload_n hx hb d_M_makes_13 rfl (lv_at hl 0 rfl) ?_
    refine va_get (D := D) (ci := 6) (v := .int z19) (C := "TimeWordsModel") (T := F_M) (N := 28) hx hb hw in_M hown hK hP 0 rfl rfl 19 (by decide) (hw _ fl_M_132) (fun _ h9 => h9) rfl d_M_makes_14 ?_
    refine lv_isub hx hb d_M_makes_17 ?_
    refine lv_iconst (v := 1) hx hb d_M_makes_18 (by decide) ?_
    refine lv_iadd hx hb d_M_makes_19 ?_
    refine lv_iconst (v := 3) hx hb d_M_makes_20 (by decide) ?_
    refine lv_idiv hx hb d_M_makes_21 (by decide) ?_
    refine lv_istore_n (lv' := [(2, .int (((z20 - z19) + 1) / 3)), (0, .ref o), (1, .int k)]) hx hb d_M_makes_22 rfl hl (by decide) rfl (fun ls hl => ?_)
    refine lv_iload_n hx hb d_M_makes_23 rfl (lv_at hl 2 rfl) ?_
    refine lv_iconst (v := 3) hx hb d_M_makes_24 (by decide) ?_
    refine lv_icmp_ge (tgt := 73) hx hb d_M_makes_25 (by decide) (fun c2 => ?_) (fun c2 => ?_)
    · refine lv_iload_n hx hb d_M_makes_73 rfl (lv_at hl 2 rfl) ?_
      refine lv_iconst (v := 3) hx hb d_M_makes_74 (by decide) ?_
      refine lv_icmp_ne (tgt := 148) hx hb d_M_makes_75 (by decide) (fun c3 => ?_) (fun c3 => ?_)
      · refine lv_iload_n hx hb d_M_makes_148 rfl (lv_at hl 2 rfl) ?_
        refine lv_iconst (v := 4) hx hb d_M_makes_149 (by decide) ?_
        refine lv_icmp_ne (tgt := 184) hx hb d_M_makes_150 (by decide) (fun c4 => ?_) (fun c4 => ?_)
        · refine lv_aload_n hx hb d_M_makes_184 rfl (lv_at hl 1 rfl) ?_
          refine lv_aload_n hx hb d_M_makes_185 rfl (lv_at hl 1 rfl) ?_
          refine va_get (D := D) (ci := 6) (v := .int z20) (C := "TimeWordsModel") (T := F_M) (N := 28) hx hb hw in_M hown hK hP 0 rfl rfl 20 (by decide) (hw _ fl_M_135) (fun _ h9 => h9) rfl d_M_makes_186 ?_
          refine lv_iconst (v := 1) hx hb d_M_makes_189 (by decide) ?_
          refine lv_iadd hx hb d_M_makes_190 ?_
          refine va_put (D := D) (ci := 6) (v := .int (z20 + 1)) (ty := .int) (C := "TimeWordsModel") (T := F_M) (N := 28) hx hb hw in_M ty_M ty_M_ok n_M hown hK hP hD hS 0 rfl rfl 19 (by decide) (hw _ fl_M_132) (fun _ h9 => h9) rfl (by decide +kernel) rfl rfl (Nat.le_of_ble_eq_true rfl) d_M_makes_191 (fun H locs hP hD hS => ?_)
          have hP : va_P D gC (mX T o a z0 z2 z3 z14 z18 (z20 + 1) z20 z21 z24 z26 f1 f4 f5 f6 f7 f8 f9 f10 f11 f12 f13 f15 f16 f17 f22 f23 f25 f27) H := hP
          have hD : va_D A (mX T o a z0 z2 z3 z14 z18 (z20 + 1) z20 z21 z24 z26 f1 f4 f5 f6 f7 f8 f9 f10 f11 f12 f13 f15 f16 f17 f22 f23 f25 f27) := hD
          refine lv_aload_n hx hb d_M_makes_194 rfl (lv_at hl 1 rfl) ?_
          refine lv_iconst (v := 2) hx hb d_M_makes_195 (by decide) ?_
          refine va_put (D := D) (ci := 6) (v := .int 2) (ty := .int) (C := "TimeWordsModel") (T := F_M) (N := 28) hx hb hw in_M ty_M ty_M_ok n_M hown hK hP hD hS 0 rfl rfl 21 (by decide) (hw _ fl_M_138) (fun _ h9 => h9) rfl (by decide +kernel) rfl rfl (Nat.le_of_ble_eq_true rfl) d_M_makes_196 (fun H locs hP hD hS => ?_)
          have hP : va_P D gC (mX T o a z0 z2 z3 z14 z18 (z20 + 1) z20 2 z24 z26 f1 f4 f5 f6 f7 f8 f9 f10 f11 f12 f13 f15 f16 f17 f22 f23 f25 f27) H := hP
          have hD : va_D A (mX T o a z0 z2 z3 z14 z18 (z20 + 1) z20 2 z24 z26 f1 f4 f5 f6 f7 f8 f9 f10 f11 f12 f13 f15 f16 f17 f22 f23 f25 f27) := hD
          refine lv_aload_n hx hb d_M_makes_199 rfl (lv_at hl 1 rfl) ?_
          refine va_get (D := D) (ci := 6) (v := .int (z20 + 1)) (C := "TimeWordsModel") (T := F_M) (N := 28) hx hb hw in_M hown hK hP 0 rfl rfl 19 (by decide) (hw _ fl_M_132) (fun _ h9 => h9) rfl d_M_makes_200 ?_
          refine lv_sipush (v := 9999) hx hb d_M_makes_203 (by decide) ?_
          refine lv_icmp_gt (tgt := 213) hx hb d_M_makes_206 (by decide) (fun c5 => ?_) (fun c5 => ?_)
          · refine lv_iconst (v := 0) hx hb d_M_makes_213 (by decide) ?_
            exact W.zret (v := 0) hx hb hr rfl (fun t ht hW => ⟨⟨0, (z20 + 1, z20, 2), rfl, (Or.inr ⟨c1, (by simp only [j_mR, if_pos c2, decide_eq_true c2, if_neg c3, decide_eq_false c3, if_neg c4, decide_eq_false c4, if_pos c5, decide_eq_true c5]; rfl), (by simp only [j_mF, if_pos c2, decide_eq_true c2, if_neg c3, decide_eq_false c3, if_neg c4, decide_eq_false c4, if_pos c5, decide_eq_true c5]), (by simp only [j_mL, if_pos c2, decide_eq_true c2, if_neg c3, decide_eq_false c3, if_neg c4, decide_eq_false c4, if_pos c5, decide_eq_true c5]), (by simp only [j_mO, if_pos c2, decide_eq_true c2, if_neg c3, decide_eq_false c3, if_neg c4, decide_eq_false c4, if_pos c5, decide_eq_true c5])⟩), by rw [ht]; exact hP, va_K.moved hW.alike hK, hD⟩, hS.F ht⟩) hS.2.2 d_M_makes_214
          · refine lv_iconst (v := 1) hx hb d_M_makes_209 (by decide) ?_
            refine lv_goto (tgt := 214) hx hb d_M_makes_210 (by decide) ?_
            exact W.zret (v := 1) hx hb hr rfl (fun t ht hW => ⟨⟨1, (z20 + 1, z20, 2), rfl, (Or.inr ⟨c1, (by simp only [j_mR, if_pos c2, decide_eq_true c2, if_neg c3, decide_eq_false c3, if_neg c4, decide_eq_false c4, if_neg c5, decide_eq_false c5]; rfl), (by simp only [j_mF, if_pos c2, decide_eq_true c2, if_neg c3, decide_eq_false c3, if_neg c4, decide_eq_false c4, if_neg c5, decide_eq_false c5]), (by simp only [j_mL, if_pos c2, decide_eq_true c2, if_neg c3, decide_eq_false c3, if_neg c4, decide_eq_false c4, if_neg c5, decide_eq_false c5]), (by simp only [j_mO, if_pos c2, decide_eq_true c2, if_neg c3, decide_eq_false c3, if_neg c4, decide_eq_false c4, if_neg c5, decide_eq_false c5])⟩), by rw [ht]; exact hP, va_K.moved hW.alike hK, hD⟩, hS.F ht⟩) hS.2.2 d_M_makes_214
        · refine lv_aload_n hx hb d_M_makes_153 rfl (lv_at hl 1 rfl) ?_
          refine lv_aload_n hx hb d_M_makes_154 rfl (lv_at hl 1 rfl) ?_
          refine va_get (D := D) (ci := 6) (v := .int z19) (C := "TimeWordsModel") (T := F_M) (N := 28) hx hb hw in_M hown hK hP 0 rfl rfl 19 (by decide) (hw _ fl_M_132) (fun _ h9 => h9) rfl d_M_makes_155 ?_
          refine lv_iconst (v := 1) hx hb d_M_makes_158 (by decide) ?_
          refine lv_isub hx hb d_M_makes_159 ?_
          refine va_put (D := D) (ci := 6) (v := .int (z19 - 1)) (ty := .int) (C := "TimeWordsModel") (T := F_M) (N := 28) hx hb hw in_M ty_M ty_M_ok n_M hown hK hP hD hS 0 rfl rfl 20 (by decide) (hw _ fl_M_135) (fun _ h9 => h9) rfl (by decide +kernel) rfl rfl (Nat.le_of_ble_eq_true rfl) d_M_makes_160 (fun H locs hP hD hS => ?_)
          have hP : va_P D gC (mX T o a z0 z2 z3 z14 z18 z19 (z19 - 1) z21 z24 z26 f1 f4 f5 f6 f7 f8 f9 f10 f11 f12 f13 f15 f16 f17 f22 f23 f25 f27) H := hP
          have hD : va_D A (mX T o a z0 z2 z3 z14 z18 z19 (z19 - 1) z21 z24 z26 f1 f4 f5 f6 f7 f8 f9 f10 f11 f12 f13 f15 f16 f17 f22 f23 f25 f27) := hD
          refine lv_aload_n hx hb d_M_makes_163 rfl (lv_at hl 1 rfl) ?_
          refine lv_iconst (v := 1) hx hb d_M_makes_164 (by decide) ?_
          refine va_put (D := D) (ci := 6) (v := .int 1) (ty := .int) (C := "TimeWordsModel") (T := F_M) (N := 28) hx hb hw in_M ty_M ty_M_ok n_M hown hK hP hD hS 0 rfl rfl 21 (by decide) (hw _ fl_M_138) (fun _ h9 => h9) rfl (by decide +kernel) rfl rfl (Nat.le_of_ble_eq_true rfl) d_M_makes_165 (fun H locs hP hD hS => ?_)
          have hP : va_P D gC (mX T o a z0 z2 z3 z14 z18 z19 (z19 - 1) 1 z24 z26 f1 f4 f5 f6 f7 f8 f9 f10 f11 f12 f13 f15 f16 f17 f22 f23 f25 f27) H := hP
          have hD : va_D A (mX T o a z0 z2 z3 z14 z18 z19 (z19 - 1) 1 z24 z26 f1 f4 f5 f6 f7 f8 f9 f10 f11 f12 f13 f15 f16 f17 f22 f23 f25 f27) := hD
          refine lv_aload_n hx hb d_M_makes_168 rfl (lv_at hl 1 rfl) ?_
          refine va_get (D := D) (ci := 6) (v := .int (z19 - 1)) (C := "TimeWordsModel") (T := F_M) (N := 28) hx hb hw in_M hown hK hP 0 rfl rfl 20 (by decide) (hw _ fl_M_135) (fun _ h9 => h9) rfl d_M_makes_169 ?_
          refine lv_sipush (v := (-9999)) hx hb d_M_makes_172 (by decide) ?_
          refine lv_icmp_lt (tgt := 182) hx hb d_M_makes_175 (by decide) (fun c6 => ?_) (fun c6 => ?_)
          · refine lv_iconst (v := 0) hx hb d_M_makes_182 (by decide) ?_
            exact W.zret (v := 0) hx hb hr rfl (fun t ht hW => ⟨⟨0, (z19, z19 - 1, 1), rfl, (Or.inr ⟨c1, (by simp only [j_mR, if_pos c2, decide_eq_true c2, if_neg c3, decide_eq_false c3, if_pos c4, decide_eq_true c4, if_pos c6, decide_eq_true c6]; rfl), (by simp only [j_mF, if_pos c2, decide_eq_true c2, if_neg c3, decide_eq_false c3, if_pos c4, decide_eq_true c4, if_pos c6, decide_eq_true c6]), (by simp only [j_mL, if_pos c2, decide_eq_true c2, if_neg c3, decide_eq_false c3, if_pos c4, decide_eq_true c4, if_pos c6, decide_eq_true c6]), (by simp only [j_mO, if_pos c2, decide_eq_true c2, if_neg c3, decide_eq_false c3, if_pos c4, decide_eq_true c4, if_pos c6, decide_eq_true c6])⟩), by rw [ht]; exact hP, va_K.moved hW.alike hK, hD⟩, hS.F ht⟩) hS.2.2 d_M_makes_183
          · refine lv_iconst (v := 1) hx hb d_M_makes_178 (by decide) ?_
            refine lv_goto (tgt := 183) hx hb d_M_makes_179 (by decide) ?_
            exact W.zret (v := 1) hx hb hr rfl (fun t ht hW => ⟨⟨1, (z19, z19 - 1, 1), rfl, (Or.inr ⟨c1, (by simp only [j_mR, if_pos c2, decide_eq_true c2, if_neg c3, decide_eq_false c3, if_pos c4, decide_eq_true c4, if_neg c6, decide_eq_false c6]; rfl), (by simp only [j_mF, if_pos c2, decide_eq_true c2, if_neg c3, decide_eq_false c3, if_pos c4, decide_eq_true c4, if_neg c6, decide_eq_false c6]), (by simp only [j_mL, if_pos c2, decide_eq_true c2, if_neg c3, decide_eq_false c3, if_pos c4, decide_eq_true c4, if_neg c6, decide_eq_false c6]), (by simp only [j_mO, if_pos c2, decide_eq_true c2, if_neg c3, decide_eq_false c3, if_pos c4, decide_eq_true c4, if_neg c6, decide_eq_false c6])⟩), by rw [ht]; exact hP, va_K.moved hW.alike hK, hD⟩, hS.F ht⟩) hS.2.2 d_M_makes_183
      · refine lv_aload_n hx hb d_M_makes_78 rfl (lv_at hl 1 rfl) ?_
        refine lv_aload_n hx hb d_M_makes_79 rfl (lv_at hl 1 rfl) ?_
        refine va_get (D := D) (ci := 6) (v := .int z19) (C := "TimeWordsModel") (T := F_M) (N := 28) hx hb hw in_M hown hK hP 0 rfl rfl 19 (by decide) (hw _ fl_M_132) (fun _ h9 => h9) rfl d_M_makes_80 ?_
        refine lv_aload_n hx hb d_M_makes_83 rfl (lv_at hl 1 rfl) ?_
        refine va_get (D := D) (ci := 6) (v := .int z18) (C := "TimeWordsModel") (T := F_M) (N := 28) hx hb hw in_M hown hK hP 0 rfl rfl 18 (by decide) (hw _ fl_M_53) (fun _ h9 => h9) rfl d_M_makes_84 ?_
        refine lv_isub hx hb d_M_makes_87 ?_
        refine lv_sipush (v := (-9999)) hx hb d_M_makes_88 (by decide) ?_
        refine lv_icmp_ge (tgt := 100) hx hb d_M_makes_91 (by decide) (fun c7 => ?_) (fun c7 => ?_)
        · refine lv_aload_n hx hb d_M_makes_100 rfl (lv_at hl 1 rfl) ?_
          refine va_get (D := D) (ci := 6) (v := .int z19) (C := "TimeWordsModel") (T := F_M) (N := 28) hx hb hw in_M hown hK hP 0 rfl rfl 19 (by decide) (hw _ fl_M_132) (fun _ h9 => h9) rfl d_M_makes_101 ?_
          refine lv_aload_n hx hb d_M_makes_104 rfl (lv_at hl 1 rfl) ?_
          refine va_get (D := D) (ci := 6) (v := .int z18) (C := "TimeWordsModel") (T := F_M) (N := 28) hx hb hw in_M hown hK hP 0 rfl rfl 18 (by decide) (hw _ fl_M_53) (fun _ h9 => h9) rfl d_M_makes_105 ?_
          refine lv_isub hx hb d_M_makes_108 ?_
          refine va_put (D := D) (ci := 6) (v := .int (z19 - z18)) (ty := .int) (C := "TimeWordsModel") (T := F_M) (N := 28) hx hb hw in_M ty_M ty_M_ok n_M hown hK hP hD hS 0 rfl rfl 19 (by decide) (hw _ fl_M_132) (fun _ h9 => h9) rfl (by decide +kernel) rfl rfl (Nat.le_of_ble_eq_true rfl) d_M_makes_109 (fun H locs hP hD hS => ?_)
          have hP : va_P D gC (mX T o a z0 z2 z3 z14 z18 (z19 - z18) z20 z21 z24 z26 f1 f4 f5 f6 f7 f8 f9 f10 f11 f12 f13 f15 f16 f17 f22 f23 f25 f27) H := hP
          have hD : va_D A (mX T o a z0 z2 z3 z14 z18 (z19 - z18) z20 z21 z24 z26 f1 f4 f5 f6 f7 f8 f9 f10 f11 f12 f13 f15 f16 f17 f22 f23 f25 f27) := hD
          refine lv_aload_n hx hb d_M_makes_112 rfl (lv_at hl 1 rfl) ?_
          refine lv_aload_n hx hb d_M_makes_113 rfl (lv_at hl 1 rfl) ?_
          refine va_get (D := D) (ci := 6) (v := .int z20) (C := "TimeWordsModel") (T := F_M) (N := 28) hx hb hw in_M hown hK hP 0 rfl rfl 20 (by decide) (hw _ fl_M_135) (fun _ h9 => h9) rfl d_M_makes_114 ?_
          refine lv_aload_n hx hb d_M_makes_117 rfl (lv_at hl 1 rfl) ?_
          refine va_get (D := D) (ci := 6) (v := .int z18) (C := "TimeWordsModel") (T := F_M) (N := 28) hx hb hw in_M hown hK hP 0 rfl rfl 18 (by decide) (hw _ fl_M_53) (fun _ h9 => h9) rfl d_M_makes_118 ?_
          refine lv_iadd hx hb d_M_makes_121 ?_
          refine lv_sipush (v := 9999) hx hb d_M_makes_122 (by decide) ?_
          refine lv_icmp_le (tgt := 134) hx hb d_M_makes_125 (by decide) (fun c8 => ?_) (fun c8 => ?_)
          · refine lv_aload_n hx hb d_M_makes_134 rfl (lv_at hl 1 rfl) ?_
            refine va_get (D := D) (ci := 6) (v := .int z20) (C := "TimeWordsModel") (T := F_M) (N := 28) hx hb hw in_M hown hK hP 0 rfl rfl 20 (by decide) (hw _ fl_M_135) (fun _ h9 => h9) rfl d_M_makes_135 ?_
            refine lv_aload_n hx hb d_M_makes_138 rfl (lv_at hl 1 rfl) ?_
            refine va_get (D := D) (ci := 6) (v := .int z18) (C := "TimeWordsModel") (T := F_M) (N := 28) hx hb hw in_M hown hK hP 0 rfl rfl 18 (by decide) (hw _ fl_M_53) (fun _ h9 => h9) rfl d_M_makes_139 ?_
            refine lv_iadd hx hb d_M_makes_142 ?_
            refine va_put (D := D) (ci := 6) (v := .int (z20 + z18)) (ty := .int) (C := "TimeWordsModel") (T := F_M) (N := 28) hx hb hw in_M ty_M ty_M_ok n_M hown hK hP hD hS 0 rfl rfl 20 (by decide) (hw _ fl_M_135) (fun _ h9 => h9) rfl (by decide +kernel) rfl rfl (Nat.le_of_ble_eq_true rfl) d_M_makes_143 (fun H locs hP hD hS => ?_)
            have hP : va_P D gC (mX T o a z0 z2 z3 z14 z18 (z19 - z18) (z20 + z18) z21 z24 z26 f1 f4 f5 f6 f7 f8 f9 f10 f11 f12 f13 f15 f16 f17 f22 f23 f25 f27) H := hP
            have hD : va_D A (mX T o a z0 z2 z3 z14 z18 (z19 - z18) (z20 + z18) z21 z24 z26 f1 f4 f5 f6 f7 f8 f9 f10 f11 f12 f13 f15 f16 f17 f22 f23 f25 f27) := hD
            refine lv_iconst (v := 1) hx hb d_M_makes_146 (by decide) ?_
            exact W.zret (v := 1) hx hb hr rfl (fun t ht hW => ⟨⟨1, (z19 - z18, z20 + z18, z21), rfl, (Or.inr ⟨c1, (by simp only [j_mR, if_pos c2, decide_eq_true c2, if_pos c3, decide_eq_true c3, if_pos c7, decide_eq_true c7, if_pos c8, decide_eq_true c8]; rfl), (by simp only [j_mF, if_pos c2, decide_eq_true c2, if_pos c3, decide_eq_true c3, if_pos c7, decide_eq_true c7, if_pos c8, decide_eq_true c8]), (by simp only [j_mL, if_pos c2, decide_eq_true c2, if_pos c3, decide_eq_true c3, if_pos c7, decide_eq_true c7, if_pos c8, decide_eq_true c8]), (by rw [c1]; simp only [j_mO, if_pos c2, decide_eq_true c2, if_pos c3, decide_eq_true c3, if_pos c7, decide_eq_true c7, if_pos c8, decide_eq_true c8])⟩), by rw [ht]; exact hP, va_K.moved hW.alike hK, hD⟩, hS.F ht⟩) hS.2.2 d_M_makes_147
          · refine lv_sipush (v := 9999) hx hb d_M_makes_128 (by decide) ?_
            refine lv_goto (tgt := 143) hx hb d_M_makes_131 (by decide) ?_
            refine va_put (D := D) (ci := 6) (v := .int 9999) (ty := .int) (C := "TimeWordsModel") (T := F_M) (N := 28) hx hb hw in_M ty_M ty_M_ok n_M hown hK hP hD hS 0 rfl rfl 20 (by decide) (hw _ fl_M_135) (fun _ h9 => h9) rfl (by decide +kernel) rfl rfl (Nat.le_of_ble_eq_true rfl) d_M_makes_143 (fun H locs hP hD hS => ?_)
            have hP : va_P D gC (mX T o a z0 z2 z3 z14 z18 (z19 - z18) 9999 z21 z24 z26 f1 f4 f5 f6 f7 f8 f9 f10 f11 f12 f13 f15 f16 f17 f22 f23 f25 f27) H := hP
            have hD : va_D A (mX T o a z0 z2 z3 z14 z18 (z19 - z18) 9999 z21 z24 z26 f1 f4 f5 f6 f7 f8 f9 f10 f11 f12 f13 f15 f16 f17 f22 f23 f25 f27) := hD
            refine lv_iconst (v := 1) hx hb d_M_makes_146 (by decide) ?_
            exact W.zret (v := 1) hx hb hr rfl (fun t ht hW => ⟨⟨1, (z19 - z18, 9999, z21), rfl, (Or.inr ⟨c1, (by simp only [j_mR, if_pos c2, decide_eq_true c2, if_pos c3, decide_eq_true c3, if_pos c7, decide_eq_true c7, if_neg c8, decide_eq_false c8]; rfl), (by simp only [j_mF, if_pos c2, decide_eq_true c2, if_pos c3, decide_eq_true c3, if_pos c7, decide_eq_true c7, if_neg c8, decide_eq_false c8]), (by simp only [j_mL, if_pos c2, decide_eq_true c2, if_pos c3, decide_eq_true c3, if_pos c7, decide_eq_true c7, if_neg c8, decide_eq_false c8]), (by rw [c1]; simp only [j_mO, if_pos c2, decide_eq_true c2, if_pos c3, decide_eq_true c3, if_pos c7, decide_eq_true c7, if_neg c8, decide_eq_false c8])⟩), by rw [ht]; exact hP, va_K.moved hW.alike hK, hD⟩, hS.F ht⟩) hS.2.2 d_M_makes_147
        · refine lv_sipush (v := (-9999)) hx hb d_M_makes_94 (by decide) ?_
          refine lv_goto (tgt := 109) hx hb d_M_makes_97 (by decide) ?_
          refine va_put (D := D) (ci := 6) (v := .int (-9999)) (ty := .int) (C := "TimeWordsModel") (T := F_M) (N := 28) hx hb hw in_M ty_M ty_M_ok n_M hown hK hP hD hS 0 rfl rfl 19 (by decide) (hw _ fl_M_132) (fun _ h9 => h9) rfl (by decide +kernel) rfl rfl (Nat.le_of_ble_eq_true rfl) d_M_makes_109 (fun H locs hP hD hS => ?_)
          have hP : va_P D gC (mX T o a z0 z2 z3 z14 z18 (-9999) z20 z21 z24 z26 f1 f4 f5 f6 f7 f8 f9 f10 f11 f12 f13 f15 f16 f17 f22 f23 f25 f27) H := hP
          have hD : va_D A (mX T o a z0 z2 z3 z14 z18 (-9999) z20 z21 z24 z26 f1 f4 f5 f6 f7 f8 f9 f10 f11 f12 f13 f15 f16 f17 f22 f23 f25 f27) := hD
          refine lv_aload_n hx hb d_M_makes_112 rfl (lv_at hl 1 rfl) ?_
          refine lv_aload_n hx hb d_M_makes_113 rfl (lv_at hl 1 rfl) ?_
          refine va_get (D := D) (ci := 6) (v := .int z20) (C := "TimeWordsModel") (T := F_M) (N := 28) hx hb hw in_M hown hK hP 0 rfl rfl 20 (by decide) (hw _ fl_M_135) (fun _ h9 => h9) rfl d_M_makes_114 ?_
          refine lv_aload_n hx hb d_M_makes_117 rfl (lv_at hl 1 rfl) ?_
          refine va_get (D := D) (ci := 6) (v := .int z18) (C := "TimeWordsModel") (T := F_M) (N := 28) hx hb hw in_M hown hK hP 0 rfl rfl 18 (by decide) (hw _ fl_M_53) (fun _ h9 => h9) rfl d_M_makes_118 ?_
          refine lv_iadd hx hb d_M_makes_121 ?_
          refine lv_sipush (v := 9999) hx hb d_M_makes_122 (by decide) ?_
          refine lv_icmp_le (tgt := 134) hx hb d_M_makes_125 (by decide) (fun c9 => ?_) (fun c9 => ?_)
          · refine lv_aload_n hx hb d_M_makes_134 rfl (lv_at hl 1 rfl) ?_
            refine va_get (D := D) (ci := 6) (v := .int z20) (C := "TimeWordsModel") (T := F_M) (N := 28) hx hb hw in_M hown hK hP 0 rfl rfl 20 (by decide) (hw _ fl_M_135) (fun _ h9 => h9) rfl d_M_makes_135 ?_
            refine lv_aload_n hx hb d_M_makes_138 rfl (lv_at hl 1 rfl) ?_
            refine va_get (D := D) (ci := 6) (v := .int z18) (C := "TimeWordsModel") (T := F_M) (N := 28) hx hb hw in_M hown hK hP 0 rfl rfl 18 (by decide) (hw _ fl_M_53) (fun _ h9 => h9) rfl d_M_makes_139 ?_
            refine lv_iadd hx hb d_M_makes_142 ?_
            refine va_put (D := D) (ci := 6) (v := .int (z20 + z18)) (ty := .int) (C := "TimeWordsModel") (T := F_M) (N := 28) hx hb hw in_M ty_M ty_M_ok n_M hown hK hP hD hS 0 rfl rfl 20 (by decide) (hw _ fl_M_135) (fun _ h9 => h9) rfl (by decide +kernel) rfl rfl (Nat.le_of_ble_eq_true rfl) d_M_makes_143 (fun H locs hP hD hS => ?_)
            have hP : va_P D gC (mX T o a z0 z2 z3 z14 z18 (-9999) (z20 + z18) z21 z24 z26 f1 f4 f5 f6 f7 f8 f9 f10 f11 f12 f13 f15 f16 f17 f22 f23 f25 f27) H := hP
            have hD : va_D A (mX T o a z0 z2 z3 z14 z18 (-9999) (z20 + z18) z21 z24 z26 f1 f4 f5 f6 f7 f8 f9 f10 f11 f12 f13 f15 f16 f17 f22 f23 f25 f27) := hD
            refine lv_iconst (v := 1) hx hb d_M_makes_146 (by decide) ?_
            exact W.zret (v := 1) hx hb hr rfl (fun t ht hW => ⟨⟨1, ((-9999), z20 + z18, z21), rfl, (Or.inr ⟨c1, (by simp only [j_mR, if_pos c2, decide_eq_true c2, if_pos c3, decide_eq_true c3, if_neg c7, decide_eq_false c7, if_pos c9, decide_eq_true c9]; rfl), (by simp only [j_mF, if_pos c2, decide_eq_true c2, if_pos c3, decide_eq_true c3, if_neg c7, decide_eq_false c7, if_pos c9, decide_eq_true c9]), (by simp only [j_mL, if_pos c2, decide_eq_true c2, if_pos c3, decide_eq_true c3, if_neg c7, decide_eq_false c7, if_pos c9, decide_eq_true c9]), (by rw [c1]; simp only [j_mO, if_pos c2, decide_eq_true c2, if_pos c3, decide_eq_true c3, if_neg c7, decide_eq_false c7, if_pos c9, decide_eq_true c9])⟩), by rw [ht]; exact hP, va_K.moved hW.alike hK, hD⟩, hS.F ht⟩) hS.2.2 d_M_makes_147
          · refine lv_sipush (v := 9999) hx hb d_M_makes_128 (by decide) ?_
            refine lv_goto (tgt := 143) hx hb d_M_makes_131 (by decide) ?_
            refine va_put (D := D) (ci := 6) (v := .int 9999) (ty := .int) (C := "TimeWordsModel") (T := F_M) (N := 28) hx hb hw in_M ty_M ty_M_ok n_M hown hK hP hD hS 0 rfl rfl 20 (by decide) (hw _ fl_M_135) (fun _ h9 => h9) rfl (by decide +kernel) rfl rfl (Nat.le_of_ble_eq_true rfl) d_M_makes_143 (fun H locs hP hD hS => ?_)
            have hP : va_P D gC (mX T o a z0 z2 z3 z14 z18 (-9999) 9999 z21 z24 z26 f1 f4 f5 f6 f7 f8 f9 f10 f11 f12 f13 f15 f16 f17 f22 f23 f25 f27) H := hP
            have hD : va_D A (mX T o a z0 z2 z3 z14 z18 (-9999) 9999 z21 z24 z26 f1 f4 f5 f6 f7 f8 f9 f10 f11 f12 f13 f15 f16 f17 f22 f23 f25 f27) := hD
            refine lv_iconst (v := 1) hx hb d_M_makes_146 (by decide) ?_
            exact W.zret (v := 1) hx hb hr rfl (fun t ht hW => ⟨⟨1, ((-9999), 9999, z21), rfl, (Or.inr ⟨c1, (by simp only [j_mR, if_pos c2, decide_eq_true c2, if_pos c3, decide_eq_true c3, if_neg c7, decide_eq_false c7, if_neg c9, decide_eq_false c9]; rfl), (by simp only [j_mF, if_pos c2, decide_eq_true c2, if_pos c3, decide_eq_true c3, if_neg c7, decide_eq_false c7, if_neg c9, decide_eq_false c9]), (by simp only [j_mL, if_pos c2, decide_eq_true c2, if_pos c3, decide_eq_true c3, if_neg c7, decide_eq_false c7, if_neg c9, decide_eq_false c9]), (by rw [c1]; simp only [j_mO, if_pos c2, decide_eq_true c2, if_pos c3, decide_eq_true c3, if_neg c7, decide_eq_false c7, if_neg c9, decide_eq_false c9])⟩), by rw [ht]; exact hP, va_K.moved hW.alike hK, hD⟩, hS.F ht⟩) hS.2.2 d_M_makes_147
    · refine lv_aload_n hx hb d_M_makes_28 rfl (lv_at hl 1 rfl) ?_
      refine va_get (D := D) (ci := 6) (v := .int z19) (C := "TimeWordsModel") (T := F_M) (N := 28) hx hb hw in_M hown hK hP 0 rfl rfl 19 (by decide) (hw _ fl_M_132) (fun _ h9 => h9) rfl d_M_makes_29 ?_
      refine lv_iload_n hx hb d_M_makes_32 rfl (lv_at hl 2 rfl) ?_
      refine lv_iload_n hx hb d_M_makes_33 rfl (lv_at hl 0 rfl) ?_
      refine lv_imul hx hb d_M_makes_34 ?_
      refine lv_iadd hx hb d_M_makes_35 ?_
      refine lv_istore_n (lv' := [(3, .int (z19 + (k * (((z20 - z19) + 1) / 3)))), (2, .int (((z20 - z19) + 1) / 3)), (0, .ref o), (1, .int k)]) hx hb d_M_makes_36 rfl hl (by decide) rfl (fun ls hl => ?_)
      refine lv_aload_n hx hb d_M_makes_37 rfl (lv_at hl 2 rfl) ?_
      refine lv_iload_n hx hb d_M_makes_38 rfl (lv_at hl 3 rfl) ?_
      refine lv_iconst (v := 2) hx hb d_M_makes_39 (by decide) ?_
      refine lv_icmp_ne (tgt := 50) hx hb d_M_makes_40 (by decide) (fun c10 => ?_) (fun c10 => ?_)
      · refine lv_iload_n hx hb d_M_makes_50 rfl (lv_at hl 0 rfl) ?_
        refine lv_iload_n hx hb d_M_makes_51 rfl (lv_at hl 1 rfl) ?_
        refine lv_iadd hx hb d_M_makes_52 ?_
        refine lv_iconst (v := 1) hx hb d_M_makes_53 (by decide) ?_
        refine lv_isub hx hb d_M_makes_54 ?_
        refine va_put (D := D) (ci := 6) (v := .int (((z19 + (k * (((z20 - z19) + 1) / 3))) + (((z20 - z19) + 1) / 3)) - 1)) (ty := .int) (C := "TimeWordsModel") (T := F_M) (N := 28) hx hb hw in_M ty_M ty_M_ok n_M hown hK hP hD hS 0 rfl rfl 20 (by decide) (hw _ fl_M_135) (fun _ h9 => h9) rfl (by decide +kernel) rfl rfl (Nat.le_of_ble_eq_true rfl) d_M_makes_55 (fun H locs hP hD hS => ?_)
        have hP : va_P D gC (mX T o a z0 z2 z3 z14 z18 z19 (((z19 + (k * (((z20 - z19) + 1) / 3))) + (((z20 - z19) + 1) / 3)) - 1) z21 z24 z26 f1 f4 f5 f6 f7 f8 f9 f10 f11 f12 f13 f15 f16 f17 f22 f23 f25 f27) H := hP
        have hD : va_D A (mX T o a z0 z2 z3 z14 z18 z19 (((z19 + (k * (((z20 - z19) + 1) / 3))) + (((z20 - z19) + 1) / 3)) - 1) z21 z24 z26 f1 f4 f5 f6 f7 f8 f9 f10 f11 f12 f13 f15 f16 f17 f22 f23 f25 f27) := hD
        refine lv_aload_n hx hb d_M_makes_58 rfl (lv_at hl 2 rfl) ?_
        refine lv_iload_n hx hb d_M_makes_59 rfl (lv_at hl 0 rfl) ?_
        refine va_put (D := D) (ci := 6) (v := .int (z19 + (k * (((z20 - z19) + 1) / 3)))) (ty := .int) (C := "TimeWordsModel") (T := F_M) (N := 28) hx hb hw in_M ty_M ty_M_ok n_M hown hK hP hD hS 0 rfl rfl 19 (by decide) (hw _ fl_M_132) (fun _ h9 => h9) rfl (by decide +kernel) rfl rfl (Nat.le_of_ble_eq_true rfl) d_M_makes_60 (fun H locs hP hD hS => ?_)
        have hP : va_P D gC (mX T o a z0 z2 z3 z14 z18 (z19 + (k * (((z20 - z19) + 1) / 3))) (((z19 + (k * (((z20 - z19) + 1) / 3))) + (((z20 - z19) + 1) / 3)) - 1) z21 z24 z26 f1 f4 f5 f6 f7 f8 f9 f10 f11 f12 f13 f15 f16 f17 f22 f23 f25 f27) H := hP
        have hD : va_D A (mX T o a z0 z2 z3 z14 z18 (z19 + (k * (((z20 - z19) + 1) / 3))) (((z19 + (k * (((z20 - z19) + 1) / 3))) + (((z20 - z19) + 1) / 3)) - 1) z21 z24 z26 f1 f4 f5 f6 f7 f8 f9 f10 f11 f12 f13 f15 f16 f17 f22 f23 f25 f27) := hD
        refine lv_iload_n hx hb d_M_makes_63 rfl (lv_at hl 1 rfl) ?_
        refine lv_if_le (tgt := 71) hx hb d_M_makes_64 (by decide) (fun c11 => ?_) (fun c11 => ?_)
        · refine lv_iconst (v := 0) hx hb d_M_makes_71 (by decide) ?_
          exact W.zret (v := 0) hx hb hr rfl (fun t ht hW => ⟨⟨0, (z19 + (k * (((z20 - z19) + 1) / 3)), ((z19 + (k * (((z20 - z19) + 1) / 3))) + (((z20 - z19) + 1) / 3)) - 1, z21), rfl, (Or.inr ⟨c1, (by simp only [j_mR, if_neg c2, decide_eq_false c2, if_neg c10, decide_eq_false c10, if_pos c11, decide_eq_true c11]; rfl), (by simp only [j_mF, if_neg c2, decide_eq_false c2, if_neg c10, decide_eq_false c10, if_pos c11, decide_eq_true c11]), (by simp only [j_mL, if_neg c2, decide_eq_false c2, if_neg c10, decide_eq_false c10, if_pos c11, decide_eq_true c11]), (by rw [c1]; simp only [j_mO, if_neg c2, decide_eq_false c2, if_neg c10, decide_eq_false c10, if_pos c11, decide_eq_true c11])⟩), by rw [ht]; exact hP, va_K.moved hW.alike hK, hD⟩, hS.F ht⟩) hS.2.2 d_M_makes_72
        · refine lv_iconst (v := 1) hx hb d_M_makes_67 (by decide) ?_
          refine lv_goto (tgt := 72) hx hb d_M_makes_68 (by decide) ?_
          exact W.zret (v := 1) hx hb hr rfl (fun t ht hW => ⟨⟨1, (z19 + (k * (((z20 - z19) + 1) / 3)), ((z19 + (k * (((z20 - z19) + 1) / 3))) + (((z20 - z19) + 1) / 3)) - 1, z21), rfl, (Or.inr ⟨c1, (by simp only [j_mR, if_neg c2, decide_eq_false c2, if_neg c10, decide_eq_false c10, if_neg c11, decide_eq_false c11]; rfl), (by simp only [j_mF, if_neg c2, decide_eq_false c2, if_neg c10, decide_eq_false c10, if_neg c11, decide_eq_false c11]), (by simp only [j_mL, if_neg c2, decide_eq_false c2, if_neg c10, decide_eq_false c10, if_neg c11, decide_eq_false c11]), (by rw [c1]; simp only [j_mO, if_neg c2, decide_eq_false c2, if_neg c10, decide_eq_false c10, if_neg c11, decide_eq_false c11])⟩), by rw [ht]; exact hP, va_K.moved hW.alike hK, hD⟩, hS.F ht⟩) hS.2.2 d_M_makes_72
      · refine lv_aload_n hx hb d_M_makes_43 rfl (lv_at hl 2 rfl) ?_
        refine va_get (D := D) (ci := 6) (v := .int z20) (C := "TimeWordsModel") (T := F_M) (N := 28) hx hb hw in_M hown hK hP 0 rfl rfl 20 (by decide) (hw _ fl_M_135) (fun _ h9 => h9) rfl d_M_makes_44 ?_
        refine lv_goto (tgt := 55) hx hb d_M_makes_47 (by decide) ?_
        refine va_put (D := D) (ci := 6) (v := .int z20) (ty := .int) (C := "TimeWordsModel") (T := F_M) (N := 28) hx hb hw in_M ty_M ty_M_ok n_M hown hK hP hD hS 0 rfl rfl 20 (by decide) (hw _ fl_M_135) (fun _ h9 => h9) rfl (by decide +kernel) rfl rfl (Nat.le_of_ble_eq_true rfl) d_M_makes_55 (fun H locs hP hD hS => ?_)
        have hP : va_P D gC (mX T o a z0 z2 z3 z14 z18 z19 z20 z21 z24 z26 f1 f4 f5 f6 f7 f8 f9 f10 f11 f12 f13 f15 f16 f17 f22 f23 f25 f27) H := hP
        have hD : va_D A (mX T o a z0 z2 z3 z14 z18 z19 z20 z21 z24 z26 f1 f4 f5 f6 f7 f8 f9 f10 f11 f12 f13 f15 f16 f17 f22 f23 f25 f27) := hD
        refine lv_aload_n hx hb d_M_makes_58 rfl (lv_at hl 2 rfl) ?_
        refine lv_iload_n hx hb d_M_makes_59 rfl (lv_at hl 0 rfl) ?_
        refine va_put (D := D) (ci := 6) (v := .int (z19 + (k * (((z20 - z19) + 1) / 3)))) (ty := .int) (C := "TimeWordsModel") (T := F_M) (N := 28) hx hb hw in_M ty_M ty_M_ok n_M hown hK hP hD hS 0 rfl rfl 19 (by decide) (hw _ fl_M_132) (fun _ h9 => h9) rfl (by decide +kernel) rfl rfl (Nat.le_of_ble_eq_true rfl) d_M_makes_60 (fun H locs hP hD hS => ?_)
        have hP : va_P D gC (mX T o a z0 z2 z3 z14 z18 (z19 + (k * (((z20 - z19) + 1) / 3))) z20 z21 z24 z26 f1 f4 f5 f6 f7 f8 f9 f10 f11 f12 f13 f15 f16 f17 f22 f23 f25 f27) H := hP
        have hD : va_D A (mX T o a z0 z2 z3 z14 z18 (z19 + (k * (((z20 - z19) + 1) / 3))) z20 z21 z24 z26 f1 f4 f5 f6 f7 f8 f9 f10 f11 f12 f13 f15 f16 f17 f22 f23 f25 f27) := hD
        refine lv_iload_n hx hb d_M_makes_63 rfl (lv_at hl 1 rfl) ?_
        refine lv_if_le (tgt := 71) hx hb d_M_makes_64 (by decide) (fun c12 => ?_) (fun c12 => ?_)
        · refine lv_iconst (v := 0) hx hb d_M_makes_71 (by decide) ?_
          exact W.zret (v := 0) hx hb hr rfl (fun t ht hW => ⟨⟨0, (z19 + (k * (((z20 - z19) + 1) / 3)), z20, z21), rfl, (Or.inr ⟨c1, (by simp only [j_mR, if_neg c2, decide_eq_false c2, if_pos c10, decide_eq_true c10, if_pos c12, decide_eq_true c12]; rfl), (by simp only [j_mF, if_neg c2, decide_eq_false c2, if_pos c10, decide_eq_true c10, if_pos c12, decide_eq_true c12]), (by simp only [j_mL, if_neg c2, decide_eq_false c2, if_pos c10, decide_eq_true c10, if_pos c12, decide_eq_true c12]), (by rw [c1]; simp only [j_mO, if_neg c2, decide_eq_false c2, if_pos c10, decide_eq_true c10, if_pos c12, decide_eq_true c12])⟩), by rw [ht]; exact hP, va_K.moved hW.alike hK, hD⟩, hS.F ht⟩) hS.2.2 d_M_makes_72
        · refine lv_iconst (v := 1) hx hb d_M_makes_67 (by decide) ?_
          refine lv_goto (tgt := 72) hx hb d_M_makes_68 (by decide) ?_
          exact W.zret (v := 1) hx hb hr rfl (fun t ht hW => ⟨⟨1, (z19 + (k * (((z20 - z19) + 1) / 3)), z20, z21), rfl, (Or.inr ⟨c1, (by simp only [j_mR, if_neg c2, decide_eq_false c2, if_pos c10, decide_eq_true c10, if_neg c12, decide_eq_false c12]; rfl), (by simp only [j_mF, if_neg c2, decide_eq_false c2, if_pos c10, decide_eq_true c10, if_neg c12, decide_eq_false c12]), (by simp only [j_mL, if_neg c2, decide_eq_false c2, if_pos c10, decide_eq_true c10, if_neg c12, decide_eq_false c12]), (by rw [c1]; simp only [j_mO, if_neg c2, decide_eq_false c2, if_pos c10, decide_eq_true c10, if_neg c12, decide_eq_false c12])⟩), by rw [ht]; exact hP, va_K.moved hW.alike hK, hD⟩, hS.F ht⟩) hS.2.2 d_M_makes_72
  · refine lv_iconst (v := 0) hx hb d_M_makes_7 (by decide) ?_
    exact W.zret (v := 0) hx hb hr rfl (fun t ht hW => ⟨⟨0, (z19, z20, z21), rfl, (Or.inl ⟨c1, rfl, rfl, rfl, rfl⟩), by rw [ht]; exact hP, va_K.moved hW.alike hK, hD⟩, hS.F ht⟩) hS.2.2 d_M_makes_8

set_option maxHeartbeats 4000000 in
set_option maxRecDepth 100000 in
theorem k_M_begins (l : Launch) (D : va_G) (T : gT) (o : Nat) (a : Nat → Nat) (z0 : Int32) (pn : Nat) (z3 z14 z18 z19 z20 z21 z24 z26 : Int32) (f1 f4 f5 f6 f7 f8 f9 f10 f11 f12 f13 f15 f16 f17 f22 f23 f25 f27 : Nat → Int32) (at9 b : Nat) (hy0 : pn ≤ 24) (hy1 : at9 ≤ 24) (hy2 : b < 6) : Met l y_M_begins (Cond.code y_M_begins b_M_begins 7 (some .boolean) :: bg_W) ({ frames := 2, cells := 0, slots := 0, locals := 44 }) (sP D T (mX T o a z0 (nI pn) z3 z14 z18 z19 z20 z21 z24 z26 f1 f4 f5 f6 f7 f8 f9 f10 f11 f12 f13 f15 f16 f17 f22 f23 f25 f27) [.ref o, .int (nI at9), .int (nI b)]) (vp_Si (fun r : Int32 => (r = 1 ∧ j_bp f1 pn at9 b) ∨ (r = 0 ∧ ¬ j_bp f1 pn at9 b))) 0 0 (fun _ => False) := by
  refine Met.ofW (cc := b_M_begins) (maxL := 7) (ret := (some .boolean)) (by decide) rfl ?_
  intro p e s m args below meth c s₁ B hml hv
  obtain ⟨rfl, hP, hK⟩ := hv
  have hx := B.exec
  have hb := B.bytes
  have hr := B.returns
  have hw : ∀ w ∈ bg_W, w.before ([.ref o, .int (nI at9), .int (nI b)] : List Value).toArray s = true := fun w h => atoms_spec (ws := (Cond.code y_M_begins b_M_begins 7 (some .boolean) :: bg_W)) B.pre w (List.mem_cons_of_mem _ h)
  have hown : s.vm.findClass "TimeWordsModel" = some m.cls := findClass_of_methodNamed B.named
  have hlocks := B.notSynchronized
  have hl := lv_entry ([.ref o, .int (nI at9), .int (nI b)]) (n := 7) (Nat.le_of_ble_eq_true rfl)
  rw [lg_entry_eq]
  generalize (lg_sl ([.ref o, .int (nI at9), .int (nI b)]) ++ List.replicate (7 - (lg_sl ([.ref o, .int (nI at9), .int (nI b)])).length) Slot.unset).toArray = ls at hl ⊢
  have hl : lv_has ls 7 [(0, .ref o), (1, .int (nI at9)), (2, .int (nI b))] := hl
  have h7 := jl_le b
  refine lv_iload_n hx hb d_M_begins_0 rfl (lv_at hl 2 rfl) ?_
  refine vp_callSl (va_Run.run (va_runS (As := [.int (nI b)]) (rest := []) ⟨hx, hb, hml, hown, hw⟩ (k_M_beginning l b hy2) (va_cwS 1 hw (bg_S ml_M_124 wt_M_beginning wz_M wc_M_beginning) rfl rfl rfl (by decide +kernel) ⟨Nat.le_of_ble_eq_true rfl, Nat.le_of_ble_eq_true rfl⟩) ⟨nP_b, nP_p⟩ rfl rfl hl.1 rfl (lv_room (Nat.le_of_ble_eq_true rfl)) d_M_begins_1 ⟨Nat.le_of_ble_eq_true rfl, Nat.le_of_ble_eq_true rfl⟩)) (fun r1 hr1 => ?_)
  replace hr1 := hr1.symm; subst hr1
  refine lv_lstore_n (lv' := [(3, .long (jw b)), (0, .ref o), (1, .int (nI at9)), (2, .int (nI b))]) hx hb d_M_begins_4 rfl hl (by decide) rfl (fun ls hl => ?_)
  refine lv_iload_n hx hb d_M_begins_5 rfl (lv_at hl 2 rfl) ?_
  refine lv_lload_n hx hb d_M_begins_6 rfl (lv_at hl 0 rfl) ?_
  refine vp_callSi (va_Run.run (va_runS (As := [.long (jw b)]) (rest := [.int (nI at9)]) ⟨hx, hb, hml, hown, hw⟩ (k_M_signs l b hy2) (va_cwS 1 hw (bg_S ml_M_106 wt_M_signs wz_M wc_M_signs) rfl rfl rfl (by decide +kernel) ⟨Nat.le_of_ble_eq_true rfl, Nat.le_of_ble_eq_true rfl⟩) ⟨nP_b, nP_p⟩ rfl rfl hl.1 rfl (lv_room (Nat.le_of_ble_eq_true rfl)) d_M_begins_7 ⟨Nat.le_of_ble_eq_true rfl, Nat.le_of_ble_eq_true rfl⟩)) (fun r2 hr2 => ?_)
  replace hr2 := hr2.symm; subst hr2
  refine lv_iadd hx hb d_M_begins_10 ?_
  rw [show (nI at9) + (nI (jl b)) = nI (at9 + (jl b)) from nI_add at9 (jl b)]
  refine lv_aload_n hx hb d_M_begins_11 rfl (lv_at hl 1 rfl) ?_
  refine va_get (D := D) (ci := 6) (v := .int (nI pn)) (C := "TimeWordsModel") (T := F_M) (N := 28) hx hb hw in_M hown hK hP 0 rfl rfl 2 (by decide) (hw _ fl_M_93) (fun _ h9 => h9) rfl d_M_begins_12 ?_
  refine lv_icmp_gt (tgt := 22) hx hb d_M_begins_15 (by decide) (fun c3 => ?_) (fun c3 => ?_)
  · have c3 := nc_lt (a := pn) (b := at9 + (jl b)) c3 (by omega) (by omega)
    refine lv_iconst (v := 0) hx hb d_M_begins_22 (by decide) ?_
    refine lv_istore (lv' := [(5, .int 0), (3, .long (jw b)), (0, .ref o), (1, .int (nI at9)), (2, .int (nI b))]) hx hb d_M_begins_23 hl (by decide) rfl (fun ls hl => ?_)
    refine lv_iconst (v := 0) hx hb d_M_begins_25 (by decide) ?_
    refine lv_istore (lv' := [(6, .int 0), (5, .int 0), (3, .long (jw b)), (0, .ref o), (1, .int (nI at9)), (2, .int (nI b))]) hx hb d_M_begins_26 hl (by decide) rfl (fun ls hl => ?_)
    have loop : ∀ (n : Nat) (k : Nat) (sm : Int32), (k ≤ jl b) → ((sm = 1 ∧ at9 + jl b ≤ pn ∧ ∀ i, i < k → f1 (at9 + i) = jc b i) ∨ (sm = 0 ∧ ¬ j_bp f1 pn at9 b)) → ∀ (ls : Array Slot), lv_has ls 7 [(0, .ref o), (1, .int (nI at9)), (2, .int (nI b)), (3, .long (jw b)), (5, .int sm), (6, .int (nI k))] → jl b - k < n → W p l e (headSpec (Cond.code y_M_begins b_M_begins 7 (some .boolean) :: bg_W) ({ frames := 2, cells := 0, slots := 0, locals := 44 })).room s m ([.ref o, .int (nI at9), .int (nI b)] : List Value).toArray below meth c s.heap [] 0 0 (MQ below (vp_Si (fun r : Int32 => (r = 1 ∧ j_bp f1 pn at9 b) ∨ (r = 0 ∧ ¬ j_bp f1 pn at9 b))) ([.ref o, .int (nI at9), .int (nI b)] : List Value).toArray s 0 0 (fun _ => False)) (F0 m 28 ls []) := by
      intro n
      induction n with
      | zero => intro k sm hk hI ls hl hm; exact absurd hm (Nat.not_lt_zero _)
      | succ n ih =>
        intro k sm hk hI ls hl hm
        rcases hI with ⟨h1, h2, h3⟩ | ⟨h1, h2⟩
        · subst h1
          refine lv_iload hx hb d_M_begins_28 (lv_at hl 5 rfl) ?_
          refine lv_lload_n hx hb d_M_begins_30 rfl (lv_at hl 3 rfl) ?_
          refine vp_callSi (va_Run.run (va_runS (As := [.long (jw b)]) (rest := [.int (nI k)]) ⟨hx, hb, hml, hown, hw⟩ (k_M_signs l b hy2) (va_cwS 1 hw (bg_S ml_M_106 wt_M_signs wz_M wc_M_signs) rfl rfl rfl (by decide +kernel) ⟨Nat.le_of_ble_eq_true rfl, Nat.le_of_ble_eq_true rfl⟩) ⟨nP_b, nP_p⟩ rfl rfl hl.1 rfl (lv_room (Nat.le_of_ble_eq_true rfl)) d_M_begins_31 ⟨Nat.le_of_ble_eq_true rfl, Nat.le_of_ble_eq_true rfl⟩)) (fun r4 hr4 => ?_)
          replace hr4 := hr4.symm; subst hr4
          refine lv_icmp_ge (tgt := 73) hx hb d_M_begins_34 (by decide) (fun c5 => ?_) (fun c5 => ?_)
          · have c5 := nc_le (a := jl b) (b := k) c5 (by omega) (by omega)
            refine lv_iload hx hb d_M_begins_73 (lv_at hl 4 rfl) ?_
            exact W.zret (v := 1) hx hb hr rfl (fun t ht hW => ⟨1, rfl, (Or.inl ⟨rfl, h2, fun i hi => h3 i (by omega)⟩), ht⟩) (fun _ h => nomatch h) d_M_begins_75
          · have c5 := nc_nle (a := jl b) (b := k) c5 (by omega) (by omega)
            refine lv_iload hx hb d_M_begins_37 (lv_at hl 4 rfl) ?_
            refine lv_if_eq (tgt := 73) hx hb d_M_begins_39 (by decide) (fun c6 => absurd c6 (by decide)) (fun c6 => ?_)
            refine lv_aload_n hx hb d_M_begins_42 rfl (lv_at hl 0 rfl) ?_
            refine va_get (D := D) (ci := 6) (v := .ref (a 1)) (C := "TimeWordsModel") (T := F_M) (N := 28) hx hb hw in_M hown hK hP 0 rfl rfl 1 (by decide) (hw _ fl_M_7) (fun _ h9 => h9) rfl d_M_begins_43 ?_
            refine lv_iload_n hx hb d_M_begins_46 rfl (lv_at hl 1 rfl) ?_
            refine lv_iload hx hb d_M_begins_47 (lv_at hl 5 rfl) ?_
            refine lv_iadd hx hb d_M_begins_49 ?_
            rw [show (nI at9) + (nI k) = nI (at9 + k) from nI_add at9 k]
            refine va_iald hx hb hK hP 1 0 rfl rfl (by first | assumption | exact vp_in_nI (by omega) (by omega)) d_M_begins_50 ?_
            rw [show (nI (at9 + k)).toNatClampNeg = (at9 + k) from nI_clamp (by omega)]
            refine lv_lload_n hx hb d_M_begins_51 rfl (lv_at hl 3 rfl) ?_
            refine lv_iload hx hb d_M_begins_52 (lv_at hl 5 rfl) ?_
            refine vp_callSi (va_Run.run (va_runS (As := [.long (jw b), .int (nI k)]) (rest := [.int (f1 (at9 + k))]) ⟨hx, hb, hml, hown, hw⟩ (k_M_signOf l b k hy2 (by omega)) (va_cwS 2 hw (bg_S ml_M_128 wt_M_signOf wz_M wc_M_signOf) rfl rfl rfl (by decide +kernel) ⟨Nat.le_of_ble_eq_true rfl, Nat.le_of_ble_eq_true rfl⟩) ⟨nP_b, nP_p⟩ rfl rfl hl.1 rfl (lv_room (Nat.le_of_ble_eq_true rfl)) d_M_begins_54 ⟨Nat.le_of_ble_eq_true rfl, Nat.le_of_ble_eq_true rfl⟩)) (fun r7 hr7 => ?_)
            replace hr7 := hr7.symm; subst hr7
            refine lv_icmp_ne (tgt := 64) hx hb d_M_begins_57 (by decide) (fun c8 => ?_) (fun c8 => ?_)
            · refine lv_iconst (v := 0) hx hb d_M_begins_64 (by decide) ?_
              refine lv_istore (lv' := [(5, .int 0), (0, .ref o), (1, .int (nI at9)), (2, .int (nI b)), (3, .long (jw b)), (6, .int (nI k))]) hx hb d_M_begins_65 hl (by decide) rfl (fun ls hl => ?_)
              refine lv_iinc (v := nI (k + 1)) (lv' := [(6, .int (nI (k + 1))), (5, .int 0), (0, .ref o), (1, .int (nI at9)), (2, .int (nI b)), (3, .long (jw b))]) hx hb d_M_begins_67 hl (k := 5) rfl (nI_add k 1) (by decide) rfl (fun ls hl => ?_)
              refine lv_goto (tgt := 28) hx hb d_M_begins_70 (by decide) ?_
              exact ih (k + 1) 0 (by omega) (Or.inr ⟨rfl, fun q => c8 (q.2 k (by omega))⟩) ls (lv_sub hl [2, 3, 4, 5, 1, 0] rfl) (by omega)
            · refine lv_iconst (v := 1) hx hb d_M_begins_60 (by decide) ?_
              refine lv_goto (tgt := 65) hx hb d_M_begins_61 (by decide) ?_
              refine lv_istore (lv' := [(5, .int 1), (0, .ref o), (1, .int (nI at9)), (2, .int (nI b)), (3, .long (jw b)), (6, .int (nI k))]) hx hb d_M_begins_65 hl (by decide) rfl (fun ls hl => ?_)
              refine lv_iinc (v := nI (k + 1)) (lv' := [(6, .int (nI (k + 1))), (5, .int 1), (0, .ref o), (1, .int (nI at9)), (2, .int (nI b)), (3, .long (jw b))]) hx hb d_M_begins_67 hl (k := 5) rfl (nI_add k 1) (by decide) rfl (fun ls hl => ?_)
              refine lv_goto (tgt := 28) hx hb d_M_begins_70 (by decide) ?_
              exact ih (k + 1) 1 (by omega) (Or.inl ⟨rfl, h2, lt_s h3 c8⟩) ls (lv_sub hl [2, 3, 4, 5, 1, 0] rfl) (by omega)
        · subst h1
          refine lv_iload hx hb d_M_begins_28 (lv_at hl 5 rfl) ?_
          refine lv_lload_n hx hb d_M_begins_30 rfl (lv_at hl 3 rfl) ?_
          refine vp_callSi (va_Run.run (va_runS (As := [.long (jw b)]) (rest := [.int (nI k)]) ⟨hx, hb, hml, hown, hw⟩ (k_M_signs l b hy2) (va_cwS 1 hw (bg_S ml_M_106 wt_M_signs wz_M wc_M_signs) rfl rfl rfl (by decide +kernel) ⟨Nat.le_of_ble_eq_true rfl, Nat.le_of_ble_eq_true rfl⟩) ⟨nP_b, nP_p⟩ rfl rfl hl.1 rfl (lv_room (Nat.le_of_ble_eq_true rfl)) d_M_begins_31 ⟨Nat.le_of_ble_eq_true rfl, Nat.le_of_ble_eq_true rfl⟩)) (fun r9 hr9 => ?_)
          replace hr9 := hr9.symm; subst hr9
          refine lv_icmp_ge (tgt := 73) hx hb d_M_begins_34 (by decide) (fun c10 => ?_) (fun c10 => ?_)
          · have c10 := nc_le (a := jl b) (b := k) c10 (by omega) (by omega)
            refine lv_iload hx hb d_M_begins_73 (lv_at hl 4 rfl) ?_
            exact W.zret (v := 0) hx hb hr rfl (fun t ht hW => ⟨0, rfl, (Or.inr ⟨rfl, h2⟩), ht⟩) (fun _ h => nomatch h) d_M_begins_75
          · have c10 := nc_nle (a := jl b) (b := k) c10 (by omega) (by omega)
            refine lv_iload hx hb d_M_begins_37 (lv_at hl 4 rfl) ?_
            refine lv_if_eq (tgt := 73) hx hb d_M_begins_39 (by decide) (fun c11 => ?_) (fun c11 => absurd c11 (by decide))
            refine lv_iload hx hb d_M_begins_73 (lv_at hl 4 rfl) ?_
            exact W.zret (v := 0) hx hb hr rfl (fun t ht hW => ⟨0, rfl, (Or.inr ⟨rfl, h2⟩), ht⟩) (fun _ h => nomatch h) d_M_begins_75
    exact loop ((jl b - 0) + 1) 0 0 (Nat.zero_le _) (Or.inr ⟨rfl, fun q => by have := q.1; omega⟩) ls (lv_sub hl [3, 4, 5, 2, 1, 0] rfl) (Nat.lt_succ_self _)
  · have c3 := nc_nlt (a := pn) (b := at9 + (jl b)) c3 (by omega) (by omega)
    refine lv_iconst (v := 1) hx hb d_M_begins_18 (by decide) ?_
    refine lv_goto (tgt := 23) hx hb d_M_begins_19 (by decide) ?_
    refine lv_istore (lv' := [(5, .int 1), (3, .long (jw b)), (0, .ref o), (1, .int (nI at9)), (2, .int (nI b))]) hx hb d_M_begins_23 hl (by decide) rfl (fun ls hl => ?_)
    refine lv_iconst (v := 0) hx hb d_M_begins_25 (by decide) ?_
    refine lv_istore (lv' := [(6, .int 0), (5, .int 1), (3, .long (jw b)), (0, .ref o), (1, .int (nI at9)), (2, .int (nI b))]) hx hb d_M_begins_26 hl (by decide) rfl (fun ls hl => ?_)
    have loop : ∀ (n : Nat) (k : Nat) (sm : Int32), (k ≤ jl b) → ((sm = 1 ∧ at9 + jl b ≤ pn ∧ ∀ i, i < k → f1 (at9 + i) = jc b i) ∨ (sm = 0 ∧ ¬ j_bp f1 pn at9 b)) → ∀ (ls : Array Slot), lv_has ls 7 [(0, .ref o), (1, .int (nI at9)), (2, .int (nI b)), (3, .long (jw b)), (5, .int sm), (6, .int (nI k))] → jl b - k < n → W p l e (headSpec (Cond.code y_M_begins b_M_begins 7 (some .boolean) :: bg_W) ({ frames := 2, cells := 0, slots := 0, locals := 44 })).room s m ([.ref o, .int (nI at9), .int (nI b)] : List Value).toArray below meth c s.heap [] 0 0 (MQ below (vp_Si (fun r : Int32 => (r = 1 ∧ j_bp f1 pn at9 b) ∨ (r = 0 ∧ ¬ j_bp f1 pn at9 b))) ([.ref o, .int (nI at9), .int (nI b)] : List Value).toArray s 0 0 (fun _ => False)) (F0 m 28 ls []) := by
      intro n
      induction n with
      | zero => intro k sm hk hI ls hl hm; exact absurd hm (Nat.not_lt_zero _)
      | succ n ih =>
        intro k sm hk hI ls hl hm
        rcases hI with ⟨h1, h2, h3⟩ | ⟨h1, h2⟩
        · subst h1
          refine lv_iload hx hb d_M_begins_28 (lv_at hl 5 rfl) ?_
          refine lv_lload_n hx hb d_M_begins_30 rfl (lv_at hl 3 rfl) ?_
          refine vp_callSi (va_Run.run (va_runS (As := [.long (jw b)]) (rest := [.int (nI k)]) ⟨hx, hb, hml, hown, hw⟩ (k_M_signs l b hy2) (va_cwS 1 hw (bg_S ml_M_106 wt_M_signs wz_M wc_M_signs) rfl rfl rfl (by decide +kernel) ⟨Nat.le_of_ble_eq_true rfl, Nat.le_of_ble_eq_true rfl⟩) ⟨nP_b, nP_p⟩ rfl rfl hl.1 rfl (lv_room (Nat.le_of_ble_eq_true rfl)) d_M_begins_31 ⟨Nat.le_of_ble_eq_true rfl, Nat.le_of_ble_eq_true rfl⟩)) (fun r12 hr12 => ?_)
          replace hr12 := hr12.symm; subst hr12
          refine lv_icmp_ge (tgt := 73) hx hb d_M_begins_34 (by decide) (fun c13 => ?_) (fun c13 => ?_)
          · have c13 := nc_le (a := jl b) (b := k) c13 (by omega) (by omega)
            refine lv_iload hx hb d_M_begins_73 (lv_at hl 4 rfl) ?_
            exact W.zret (v := 1) hx hb hr rfl (fun t ht hW => ⟨1, rfl, (Or.inl ⟨rfl, h2, fun i hi => h3 i (by omega)⟩), ht⟩) (fun _ h => nomatch h) d_M_begins_75
          · have c13 := nc_nle (a := jl b) (b := k) c13 (by omega) (by omega)
            refine lv_iload hx hb d_M_begins_37 (lv_at hl 4 rfl) ?_
            refine lv_if_eq (tgt := 73) hx hb d_M_begins_39 (by decide) (fun c14 => absurd c14 (by decide)) (fun c14 => ?_)
            refine lv_aload_n hx hb d_M_begins_42 rfl (lv_at hl 0 rfl) ?_
            refine va_get (D := D) (ci := 6) (v := .ref (a 1)) (C := "TimeWordsModel") (T := F_M) (N := 28) hx hb hw in_M hown hK hP 0 rfl rfl 1 (by decide) (hw _ fl_M_7) (fun _ h9 => h9) rfl d_M_begins_43 ?_
            refine lv_iload_n hx hb d_M_begins_46 rfl (lv_at hl 1 rfl) ?_
            refine lv_iload hx hb d_M_begins_47 (lv_at hl 5 rfl) ?_
            refine lv_iadd hx hb d_M_begins_49 ?_
            rw [show (nI at9) + (nI k) = nI (at9 + k) from nI_add at9 k]
            refine va_iald hx hb hK hP 1 0 rfl rfl (by first | assumption | exact vp_in_nI (by omega) (by omega)) d_M_begins_50 ?_
            rw [show (nI (at9 + k)).toNatClampNeg = (at9 + k) from nI_clamp (by omega)]
            refine lv_lload_n hx hb d_M_begins_51 rfl (lv_at hl 3 rfl) ?_
            refine lv_iload hx hb d_M_begins_52 (lv_at hl 5 rfl) ?_
            refine vp_callSi (va_Run.run (va_runS (As := [.long (jw b), .int (nI k)]) (rest := [.int (f1 (at9 + k))]) ⟨hx, hb, hml, hown, hw⟩ (k_M_signOf l b k hy2 (by omega)) (va_cwS 2 hw (bg_S ml_M_128 wt_M_signOf wz_M wc_M_signOf) rfl rfl rfl (by decide +kernel) ⟨Nat.le_of_ble_eq_true rfl, Nat.le_of_ble_eq_true rfl⟩) ⟨nP_b, nP_p⟩ rfl rfl hl.1 rfl (lv_room (Nat.le_of_ble_eq_true rfl)) d_M_begins_54 ⟨Nat.le_of_ble_eq_true rfl, Nat.le_of_ble_eq_true rfl⟩)) (fun r15 hr15 => ?_)
            replace hr15 := hr15.symm; subst hr15
            refine lv_icmp_ne (tgt := 64) hx hb d_M_begins_57 (by decide) (fun c16 => ?_) (fun c16 => ?_)
            · refine lv_iconst (v := 0) hx hb d_M_begins_64 (by decide) ?_
              refine lv_istore (lv' := [(5, .int 0), (0, .ref o), (1, .int (nI at9)), (2, .int (nI b)), (3, .long (jw b)), (6, .int (nI k))]) hx hb d_M_begins_65 hl (by decide) rfl (fun ls hl => ?_)
              refine lv_iinc (v := nI (k + 1)) (lv' := [(6, .int (nI (k + 1))), (5, .int 0), (0, .ref o), (1, .int (nI at9)), (2, .int (nI b)), (3, .long (jw b))]) hx hb d_M_begins_67 hl (k := 5) rfl (nI_add k 1) (by decide) rfl (fun ls hl => ?_)
              refine lv_goto (tgt := 28) hx hb d_M_begins_70 (by decide) ?_
              exact ih (k + 1) 0 (by omega) (Or.inr ⟨rfl, fun q => c16 (q.2 k (by omega))⟩) ls (lv_sub hl [2, 3, 4, 5, 1, 0] rfl) (by omega)
            · refine lv_iconst (v := 1) hx hb d_M_begins_60 (by decide) ?_
              refine lv_goto (tgt := 65) hx hb d_M_begins_61 (by decide) ?_
              refine lv_istore (lv' := [(5, .int 1), (0, .ref o), (1, .int (nI at9)), (2, .int (nI b)), (3, .long (jw b)), (6, .int (nI k))]) hx hb d_M_begins_65 hl (by decide) rfl (fun ls hl => ?_)
              refine lv_iinc (v := nI (k + 1)) (lv' := [(6, .int (nI (k + 1))), (5, .int 1), (0, .ref o), (1, .int (nI at9)), (2, .int (nI b)), (3, .long (jw b))]) hx hb d_M_begins_67 hl (k := 5) rfl (nI_add k 1) (by decide) rfl (fun ls hl => ?_)
              refine lv_goto (tgt := 28) hx hb d_M_begins_70 (by decide) ?_
              exact ih (k + 1) 1 (by omega) (Or.inl ⟨rfl, h2, lt_s h3 c16⟩) ls (lv_sub hl [2, 3, 4, 5, 1, 0] rfl) (by omega)
        · subst h1
          refine lv_iload hx hb d_M_begins_28 (lv_at hl 5 rfl) ?_
          refine lv_lload_n hx hb d_M_begins_30 rfl (lv_at hl 3 rfl) ?_
          refine vp_callSi (va_Run.run (va_runS (As := [.long (jw b)]) (rest := [.int (nI k)]) ⟨hx, hb, hml, hown, hw⟩ (k_M_signs l b hy2) (va_cwS 1 hw (bg_S ml_M_106 wt_M_signs wz_M wc_M_signs) rfl rfl rfl (by decide +kernel) ⟨Nat.le_of_ble_eq_true rfl, Nat.le_of_ble_eq_true rfl⟩) ⟨nP_b, nP_p⟩ rfl rfl hl.1 rfl (lv_room (Nat.le_of_ble_eq_true rfl)) d_M_begins_31 ⟨Nat.le_of_ble_eq_true rfl, Nat.le_of_ble_eq_true rfl⟩)) (fun r17 hr17 => ?_)
          replace hr17 := hr17.symm; subst hr17
          refine lv_icmp_ge (tgt := 73) hx hb d_M_begins_34 (by decide) (fun c18 => ?_) (fun c18 => ?_)
          · have c18 := nc_le (a := jl b) (b := k) c18 (by omega) (by omega)
            refine lv_iload hx hb d_M_begins_73 (lv_at hl 4 rfl) ?_
            exact W.zret (v := 0) hx hb hr rfl (fun t ht hW => ⟨0, rfl, (Or.inr ⟨rfl, h2⟩), ht⟩) (fun _ h => nomatch h) d_M_begins_75
          · have c18 := nc_nle (a := jl b) (b := k) c18 (by omega) (by omega)
            refine lv_iload hx hb d_M_begins_37 (lv_at hl 4 rfl) ?_
            refine lv_if_eq (tgt := 73) hx hb d_M_begins_39 (by decide) (fun c19 => ?_) (fun c19 => absurd c19 (by decide))
            refine lv_iload hx hb d_M_begins_73 (lv_at hl 4 rfl) ?_
            exact W.zret (v := 0) hx hb hr rfl (fun t ht hW => ⟨0, rfl, (Or.inr ⟨rfl, h2⟩), ht⟩) (fun _ h => nomatch h) d_M_begins_75
    exact loop ((jl b - 0) + 1) 0 1 (Nat.zero_le _) (Or.inl ⟨rfl, by omega, lt_0⟩) ls (lv_sub hl [3, 4, 5, 2, 1, 0] rfl) (Nat.lt_succ_self _)

set_option maxHeartbeats 4000000 in
set_option maxRecDepth 100000 in
theorem k_M_nameAt (l : Launch) (D : va_G) (T : gT) (o : Nat) (a : Nat → Nat) (z0 : Int32) (pn nn : Nat) (z14 z18 z19 z20 z21 z24 z26 : Int32) (f1 f4 f5 f6 f7 f8 f9 f10 f11 f12 f13 f15 f16 f17 f22 f23 f25 f27 : Nat → Int32) (at9 : Nat) (ln : Nat → Nat) (hy0 : pn ≤ 24) (hy1 : at9 ≤ pn) (hy2 : nn ≤ 24) (hy3 : ∀ i, f5 i = nI (ln i)) (hy4 : ∀ i, ln i ≤ 8) : Met l y_M_nameAt (Cond.code y_M_nameAt b_M_nameAt 6 (some .int) :: bg_W) ({ frames := 0, cells := 0, slots := 0, locals := 0 }) (sP D T (mX T o a z0 (nI pn) (nI nn) z14 z18 z19 z20 z21 z24 z26 f1 f4 f5 f6 f7 f8 f9 f10 f11 f12 f13 f15 f16 f17 f22 f23 f25 f27) [.ref o, .int (nI at9)]) (vp_Si (fun r : Int32 => (r = -1 ∧ ∀ i, i < nn → ¬ j_mt f1 f4 ln pn at9 i) ∨ ∃ i, i < nn ∧ r = nI i ∧ j_mt f1 f4 ln pn at9 i)) 0 0 (fun _ => False) := by
  refine Met.ofW (cc := b_M_nameAt) (maxL := 6) (ret := (some .int)) (by decide) rfl ?_
  intro p e s m args below meth c s₁ B hml hv
  obtain ⟨rfl, hP, hK⟩ := hv
  have hx := B.exec
  have hb := B.bytes
  have hr := B.returns
  have hw : ∀ w ∈ bg_W, w.before ([.ref o, .int (nI at9)] : List Value).toArray s = true := fun w h => atoms_spec (ws := (Cond.code y_M_nameAt b_M_nameAt 6 (some .int) :: bg_W)) B.pre w (List.mem_cons_of_mem _ h)
  have hown : s.vm.findClass "TimeWordsModel" = some m.cls := findClass_of_methodNamed B.named
  have hlocks := B.notSynchronized
  have hl := lv_entry ([.ref o, .int (nI at9)]) (n := 6) (Nat.le_of_ble_eq_true rfl)
  rw [lg_entry_eq]
  generalize (lg_sl ([.ref o, .int (nI at9)]) ++ List.replicate (6 - (lg_sl ([.ref o, .int (nI at9)])).length) Slot.unset).toArray = ls at hl ⊢
  have hl : lv_has ls 6 [(0, .ref o), (1, .int (nI at9))] := hl
  refine lv_iconst (v := (-1)) hx hb d_M_nameAt_0 (by decide) ?_
  refine lv_istore_n (lv' := [(2, .int (-1)), (0, .ref o), (1, .int (nI at9))]) hx hb d_M_nameAt_1 rfl hl (by decide) rfl (fun ls hl => ?_)
  refine lv_iconst (v := 0) hx hb d_M_nameAt_2 (by decide) ?_
  refine lv_istore_n (lv' := [(3, .int 0), (2, .int (-1)), (0, .ref o), (1, .int (nI at9))]) hx hb d_M_nameAt_3 rfl hl (by decide) rfl (fun ls hl => ?_)
  have loop : ∀ (n : Nat) (ix : Nat) (fd : Int32), (ix ≤ nn) → ((fd = -1 ∧ ∀ i, i < ix → ¬ j_mt f1 f4 ln pn at9 i) ∨ ∃ i, i < ix ∧ fd = nI i ∧ j_mt f1 f4 ln pn at9 i) → ∀ (ls : Array Slot), lv_has ls 6 [(0, .ref o), (1, .int (nI at9)), (2, .int fd), (3, .int (nI ix))] → nn - ix < n → W p l e (headSpec (Cond.code y_M_nameAt b_M_nameAt 6 (some .int) :: bg_W) ({ frames := 0, cells := 0, slots := 0, locals := 0 })).room s m ([.ref o, .int (nI at9)] : List Value).toArray below meth c s.heap [] 0 0 (MQ below (vp_Si (fun r : Int32 => (r = -1 ∧ ∀ i, i < nn → ¬ j_mt f1 f4 ln pn at9 i) ∨ ∃ i, i < nn ∧ r = nI i ∧ j_mt f1 f4 ln pn at9 i)) ([.ref o, .int (nI at9)] : List Value).toArray s 0 0 (fun _ => False)) (F0 m 4 ls []) := by
    intro n
    induction n with
    | zero => intro ix fd hix hFD ls hl hm; exact absurd hm (Nat.not_lt_zero _)
    | succ n ih =>
      intro ix fd hix hFD ls hl hm
      have h8 := hy4 ix
      refine lv_iload_n hx hb d_M_nameAt_4 rfl (lv_at hl 3 rfl) ?_
      refine lv_aload_n hx hb d_M_nameAt_5 rfl (lv_at hl 0 rfl) ?_
      refine va_get (D := D) (ci := 6) (v := .int (nI nn)) (C := "TimeWordsModel") (T := F_M) (N := 28) hx hb hw in_M hown hK hP 0 rfl rfl 3 (by decide) (hw _ fl_M_76) (fun _ h9 => h9) rfl d_M_nameAt_6 ?_
      refine lv_icmp_ge (tgt := 107) hx hb d_M_nameAt_9 (by decide) (fun c1 => ?_) (fun c1 => ?_)
      · have c1 := nc_le (a := nn) (b := ix) c1 (by omega) (by omega)
        refine lv_iload_n hx hb d_M_nameAt_107 rfl (lv_at hl 2 rfl) ?_
        exact W.iret (v := fd) hx hb hr (fun t ht hW => ⟨fd, rfl, (by have e9 : ix = nn := (by omega); subst e9; exact hFD), ht⟩) (fun _ h => nomatch h) d_M_nameAt_108
      · have c1 := nc_nle (a := nn) (b := ix) c1 (by omega) (by omega)
        refine lv_aload_n hx hb d_M_nameAt_12 rfl (lv_at hl 0 rfl) ?_
        refine va_get (D := D) (ci := 6) (v := .ref (a 5)) (C := "TimeWordsModel") (T := F_M) (N := 28) hx hb hw in_M hown hK hP 0 rfl rfl 5 (by decide) (hw _ fl_M_16) (fun _ h9 => h9) rfl d_M_nameAt_13 ?_
        refine lv_iload_n hx hb d_M_nameAt_16 rfl (lv_at hl 3 rfl) ?_
        refine va_iald hx hb hK hP 3 0 rfl rfl (by first | assumption | exact vp_in_nI (by omega) (by omega)) d_M_nameAt_17 ?_
        rw [show (nI ix).toNatClampNeg = ix from nI_clamp (by omega)]
        rw [hy3 ix]
        refine lv_aload_n hx hb d_M_nameAt_18 rfl (lv_at hl 0 rfl) ?_
        refine va_get (D := D) (ci := 6) (v := .int (nI pn)) (C := "TimeWordsModel") (T := F_M) (N := 28) hx hb hw in_M hown hK hP 0 rfl rfl 2 (by decide) (hw _ fl_M_93) (fun _ h9 => h9) rfl d_M_nameAt_19 ?_
        refine lv_iload_n hx hb d_M_nameAt_22 rfl (lv_at hl 1 rfl) ?_
        refine lv_isub hx hb d_M_nameAt_23 ?_
        rw [show (nI pn) - (nI at9) = nI (pn - at9) from pk_sub (a := pn) (b := at9) (by omega)]
        refine lv_icmp_ne (tgt := 31) hx hb d_M_nameAt_24 (by decide) (fun c2 => ?_) (fun c2 => ?_)
        · have c2 := nc_ne (a := ln ix) (b := pn - at9) c2 (by omega) (by omega)
          refine lv_iconst (v := 0) hx hb d_M_nameAt_31 (by decide) ?_
          refine lv_istore (lv' := [(4, .int 0), (0, .ref o), (1, .int (nI at9)), (2, .int fd), (3, .int (nI ix))]) hx hb d_M_nameAt_32 hl (by decide) rfl (fun ls hl => ?_)
          refine lv_iconst (v := 0) hx hb d_M_nameAt_34 (by decide) ?_
          refine lv_istore (lv' := [(5, .int 0), (4, .int 0), (0, .ref o), (1, .int (nI at9)), (2, .int fd), (3, .int (nI ix))]) hx hb d_M_nameAt_35 hl (by decide) rfl (fun ls hl => ?_)
          have lop2 : ∀ (n2 : Nat) (k : Nat) (sm : Int32), (k ≤ ln ix) → ((sm = 1 ∧ ln ix + at9 = pn ∧ ∀ i, i < k → f4 (8 * ix + i) = f1 (at9 + i)) ∨ (sm = 0 ∧ ¬ j_mt f1 f4 ln pn at9 ix)) → ∀ (ls : Array Slot), lv_has ls 6 [(0, .ref o), (1, .int (nI at9)), (2, .int fd), (3, .int (nI ix)), (4, .int sm), (5, .int (nI k))] → ln ix - k < n2 → W p l e (headSpec (Cond.code y_M_nameAt b_M_nameAt 6 (some .int) :: bg_W) ({ frames := 0, cells := 0, slots := 0, locals := 0 })).room s m ([.ref o, .int (nI at9)] : List Value).toArray below meth c s.heap [] 0 0 (MQ below (vp_Si (fun r : Int32 => (r = -1 ∧ ∀ i, i < nn → ¬ j_mt f1 f4 ln pn at9 i) ∨ ∃ i, i < nn ∧ r = nI i ∧ j_mt f1 f4 ln pn at9 i)) ([.ref o, .int (nI at9)] : List Value).toArray s 0 0 (fun _ => False)) (F0 m 37 ls []) := by
            intro n2
            induction n2 with
            | zero => intro k sm hk hI ls hl hm; exact absurd hm (Nat.not_lt_zero _)
            | succ n2 ih2 =>
              intro k sm hk hI ls hl hm
              rcases hI with ⟨h1, h2, h3⟩ | ⟨h1, h2⟩
              · subst h1
                refine lv_iload hx hb d_M_nameAt_37 (lv_at hl 5 rfl) ?_
                refine lv_aload_n hx hb d_M_nameAt_39 rfl (lv_at hl 0 rfl) ?_
                refine va_get (D := D) (ci := 6) (v := .ref (a 5)) (C := "TimeWordsModel") (T := F_M) (N := 28) hx hb hw in_M hown hK hP 0 rfl rfl 5 (by decide) (hw _ fl_M_16) (fun _ h9 => h9) rfl d_M_nameAt_40 ?_
                refine lv_iload_n hx hb d_M_nameAt_43 rfl (lv_at hl 3 rfl) ?_
                refine va_iald hx hb hK hP 3 0 rfl rfl (by first | assumption | exact vp_in_nI (by omega) (by omega)) d_M_nameAt_44 ?_
                rw [show (nI ix).toNatClampNeg = ix from nI_clamp (by omega)]
                rw [hy3 ix]
                refine lv_icmp_ge (tgt := 90) hx hb d_M_nameAt_45 (by decide) (fun c3 => ?_) (fun c3 => ?_)
                · have c3 := nc_le (a := ln ix) (b := k) c3 (by omega) (by omega)
                  have hyes : j_mt f1 f4 ln pn at9 ix := ⟨h2, fun i hi => h3 i (by omega)⟩
                  refine lv_iload hx hb d_M_nameAt_90 (lv_at hl 4 rfl) ?_
                  refine lv_if_eq (tgt := 99) hx hb d_M_nameAt_92 (by decide) (fun c4 => absurd c4 (by decide)) (fun c4 => ?_)
                  refine lv_iload_n hx hb d_M_nameAt_95 rfl (lv_at hl 3 rfl) ?_
                  refine lv_goto (tgt := 100) hx hb d_M_nameAt_96 (by decide) ?_
                  refine lv_istore_n (lv' := [(2, .int (nI ix)), (0, .ref o), (1, .int (nI at9)), (3, .int (nI ix)), (4, .int 1), (5, .int (nI k))]) hx hb d_M_nameAt_100 rfl hl (by decide) rfl (fun ls hl => ?_)
                  refine lv_iinc (v := nI (ix + 1)) (lv' := [(3, .int (nI (ix + 1))), (2, .int (nI ix)), (0, .ref o), (1, .int (nI at9)), (4, .int 1), (5, .int (nI k))]) hx hb d_M_nameAt_101 hl (k := 3) rfl (nI_add ix 1) (by decide) rfl (fun ls hl => ?_)
                  refine lv_goto (tgt := 4) hx hb d_M_nameAt_104 (by decide) ?_
                  exact ih (ix + 1) (nI ix) (by omega) (Or.inr ⟨ix, by omega, rfl, hyes⟩) ls (lv_sub hl [2, 3, 1, 0] rfl) (by omega)
                · have c3 := nc_nle (a := ln ix) (b := k) c3 (by omega) (by omega)
                  refine lv_iload hx hb d_M_nameAt_48 (lv_at hl 4 rfl) ?_
                  refine lv_if_eq (tgt := 90) hx hb d_M_nameAt_50 (by decide) (fun c5 => absurd c5 (by decide)) (fun c5 => ?_)
                  refine lv_aload_n hx hb d_M_nameAt_53 rfl (lv_at hl 0 rfl) ?_
                  refine va_get (D := D) (ci := 6) (v := .ref (a 4)) (C := "TimeWordsModel") (T := F_M) (N := 28) hx hb hw in_M hown hK hP 0 rfl rfl 4 (by decide) (hw _ fl_M_13) (fun _ h9 => h9) rfl d_M_nameAt_54 ?_
                  refine lv_bipush (v := 8) hx hb d_M_nameAt_57 (by decide) ?_
                  refine lv_iload_n hx hb d_M_nameAt_59 rfl (lv_at hl 3 rfl) ?_
                  refine lv_imul hx hb d_M_nameAt_60 ?_
                  rw [show 8 * (nI ix) = nI (8 * ix) from pk_mul 8 ix]
                  refine lv_iload hx hb d_M_nameAt_61 (lv_at hl 5 rfl) ?_
                  refine lv_iadd hx hb d_M_nameAt_63 ?_
                  rw [show (nI (8 * ix)) + (nI k) = nI (8 * ix + k) from nI_add (8 * ix) k]
                  refine va_iald hx hb hK hP 2 0 rfl rfl (by first | assumption | exact vp_in_nI (by omega) (by omega)) d_M_nameAt_64 ?_
                  rw [show (nI (8 * ix + k)).toNatClampNeg = (8 * ix + k) from nI_clamp (by omega)]
                  refine lv_aload_n hx hb d_M_nameAt_65 rfl (lv_at hl 0 rfl) ?_
                  refine va_get (D := D) (ci := 6) (v := .ref (a 1)) (C := "TimeWordsModel") (T := F_M) (N := 28) hx hb hw in_M hown hK hP 0 rfl rfl 1 (by decide) (hw _ fl_M_7) (fun _ h9 => h9) rfl d_M_nameAt_66 ?_
                  refine lv_iload_n hx hb d_M_nameAt_69 rfl (lv_at hl 1 rfl) ?_
                  refine lv_iload hx hb d_M_nameAt_70 (lv_at hl 5 rfl) ?_
                  refine lv_iadd hx hb d_M_nameAt_72 ?_
                  rw [show (nI at9) + (nI k) = nI (at9 + k) from nI_add at9 k]
                  refine va_iald hx hb hK hP 1 0 rfl rfl (by first | assumption | exact vp_in_nI (by omega) (by omega)) d_M_nameAt_73 ?_
                  rw [show (nI (at9 + k)).toNatClampNeg = (at9 + k) from nI_clamp (by omega)]
                  refine lv_icmp_ne (tgt := 81) hx hb d_M_nameAt_74 (by decide) (fun c6 => ?_) (fun c6 => ?_)
                  · refine lv_iconst (v := 0) hx hb d_M_nameAt_81 (by decide) ?_
                    refine lv_istore (lv' := [(4, .int 0), (0, .ref o), (1, .int (nI at9)), (2, .int fd), (3, .int (nI ix)), (5, .int (nI k))]) hx hb d_M_nameAt_82 hl (by decide) rfl (fun ls hl => ?_)
                    refine lv_iinc (v := nI (k + 1)) (lv' := [(5, .int (nI (k + 1))), (4, .int 0), (0, .ref o), (1, .int (nI at9)), (2, .int fd), (3, .int (nI ix))]) hx hb d_M_nameAt_84 hl (k := 5) rfl (nI_add k 1) (by decide) rfl (fun ls hl => ?_)
                    refine lv_goto (tgt := 37) hx hb d_M_nameAt_87 (by decide) ?_
                    exact ih2 (k + 1) 0 (by omega) (Or.inr ⟨rfl, fun q => c6 (q.2 k (by omega))⟩) ls (lv_sub hl [2, 3, 4, 5, 1, 0] rfl) (by omega)
                  · refine lv_iconst (v := 1) hx hb d_M_nameAt_77 (by decide) ?_
                    refine lv_goto (tgt := 82) hx hb d_M_nameAt_78 (by decide) ?_
                    refine lv_istore (lv' := [(4, .int 1), (0, .ref o), (1, .int (nI at9)), (2, .int fd), (3, .int (nI ix)), (5, .int (nI k))]) hx hb d_M_nameAt_82 hl (by decide) rfl (fun ls hl => ?_)
                    refine lv_iinc (v := nI (k + 1)) (lv' := [(5, .int (nI (k + 1))), (4, .int 1), (0, .ref o), (1, .int (nI at9)), (2, .int fd), (3, .int (nI ix))]) hx hb d_M_nameAt_84 hl (k := 5) rfl (nI_add k 1) (by decide) rfl (fun ls hl => ?_)
                    refine lv_goto (tgt := 37) hx hb d_M_nameAt_87 (by decide) ?_
                    exact ih2 (k + 1) 1 (by omega) (Or.inl ⟨rfl, h2, lt_s h3 c6⟩) ls (lv_sub hl [2, 3, 4, 5, 1, 0] rfl) (by omega)
              · subst h1
                refine lv_iload hx hb d_M_nameAt_37 (lv_at hl 5 rfl) ?_
                refine lv_aload_n hx hb d_M_nameAt_39 rfl (lv_at hl 0 rfl) ?_
                refine va_get (D := D) (ci := 6) (v := .ref (a 5)) (C := "TimeWordsModel") (T := F_M) (N := 28) hx hb hw in_M hown hK hP 0 rfl rfl 5 (by decide) (hw _ fl_M_16) (fun _ h9 => h9) rfl d_M_nameAt_40 ?_
                refine lv_iload_n hx hb d_M_nameAt_43 rfl (lv_at hl 3 rfl) ?_
                refine va_iald hx hb hK hP 3 0 rfl rfl (by first | assumption | exact vp_in_nI (by omega) (by omega)) d_M_nameAt_44 ?_
                rw [show (nI ix).toNatClampNeg = ix from nI_clamp (by omega)]
                rw [hy3 ix]
                refine lv_icmp_ge (tgt := 90) hx hb d_M_nameAt_45 (by decide) (fun c7 => ?_) (fun c7 => ?_)
                · have c7 := nc_le (a := ln ix) (b := k) c7 (by omega) (by omega)
                  have hno : ¬ j_mt f1 f4 ln pn at9 ix := h2
                  refine lv_iload hx hb d_M_nameAt_90 (lv_at hl 4 rfl) ?_
                  refine lv_if_eq (tgt := 99) hx hb d_M_nameAt_92 (by decide) (fun c8 => ?_) (fun c8 => absurd c8 (by decide))
                  refine lv_iload_n hx hb d_M_nameAt_99 rfl (lv_at hl 2 rfl) ?_
                  refine lv_istore_n (lv' := [(2, .int fd), (0, .ref o), (1, .int (nI at9)), (3, .int (nI ix)), (4, .int 0), (5, .int (nI k))]) hx hb d_M_nameAt_100 rfl hl (by decide) rfl (fun ls hl => ?_)
                  refine lv_iinc (v := nI (ix + 1)) (lv' := [(3, .int (nI (ix + 1))), (2, .int fd), (0, .ref o), (1, .int (nI at9)), (4, .int 0), (5, .int (nI k))]) hx hb d_M_nameAt_101 hl (k := 3) rfl (nI_add ix 1) (by decide) rfl (fun ls hl => ?_)
                  refine lv_goto (tgt := 4) hx hb d_M_nameAt_104 (by decide) ?_
                  exact ih (ix + 1) fd (by omega) (hFD.elim (fun q => Or.inl ⟨q.1, lt_s q.2 hno⟩) (fun ⟨i, q1, q2, q3⟩ => Or.inr ⟨i, by omega, q2, q3⟩)) ls (lv_sub hl [2, 3, 1, 0] rfl) (by omega)
                · have c7 := nc_nle (a := ln ix) (b := k) c7 (by omega) (by omega)
                  refine lv_iload hx hb d_M_nameAt_48 (lv_at hl 4 rfl) ?_
                  refine lv_if_eq (tgt := 90) hx hb d_M_nameAt_50 (by decide) (fun c9 => ?_) (fun c9 => absurd c9 (by decide))
                  have hno : ¬ j_mt f1 f4 ln pn at9 ix := h2
                  refine lv_iload hx hb d_M_nameAt_90 (lv_at hl 4 rfl) ?_
                  refine lv_if_eq (tgt := 99) hx hb d_M_nameAt_92 (by decide) (fun c10 => ?_) (fun c10 => absurd c10 (by decide))
                  refine lv_iload_n hx hb d_M_nameAt_99 rfl (lv_at hl 2 rfl) ?_
                  refine lv_istore_n (lv' := [(2, .int fd), (0, .ref o), (1, .int (nI at9)), (3, .int (nI ix)), (4, .int 0), (5, .int (nI k))]) hx hb d_M_nameAt_100 rfl hl (by decide) rfl (fun ls hl => ?_)
                  refine lv_iinc (v := nI (ix + 1)) (lv' := [(3, .int (nI (ix + 1))), (2, .int fd), (0, .ref o), (1, .int (nI at9)), (4, .int 0), (5, .int (nI k))]) hx hb d_M_nameAt_101 hl (k := 3) rfl (nI_add ix 1) (by decide) rfl (fun ls hl => ?_)
                  refine lv_goto (tgt := 4) hx hb d_M_nameAt_104 (by decide) ?_
                  exact ih (ix + 1) fd (by omega) (hFD.elim (fun q => Or.inl ⟨q.1, lt_s q.2 hno⟩) (fun ⟨i, q1, q2, q3⟩ => Or.inr ⟨i, by omega, q2, q3⟩)) ls (lv_sub hl [2, 3, 1, 0] rfl) (by omega)
          exact lop2 ((ln ix - 0) + 1) 0 0 (Nat.zero_le _) (Or.inr ⟨rfl, fun q => by have := q.1; omega⟩) ls (lv_sub hl [2, 3, 4, 5, 1, 0] rfl) (Nat.lt_succ_self _)
        · have c2 := nc_eq (a := ln ix) (b := pn - at9) c2 (by omega) (by omega)
          refine lv_iconst (v := 1) hx hb d_M_nameAt_27 (by decide) ?_
          refine lv_goto (tgt := 32) hx hb d_M_nameAt_28 (by decide) ?_
          refine lv_istore (lv' := [(4, .int 1), (0, .ref o), (1, .int (nI at9)), (2, .int fd), (3, .int (nI ix))]) hx hb d_M_nameAt_32 hl (by decide) rfl (fun ls hl => ?_)
          refine lv_iconst (v := 0) hx hb d_M_nameAt_34 (by decide) ?_
          refine lv_istore (lv' := [(5, .int 0), (4, .int 1), (0, .ref o), (1, .int (nI at9)), (2, .int fd), (3, .int (nI ix))]) hx hb d_M_nameAt_35 hl (by decide) rfl (fun ls hl => ?_)
          have lop2 : ∀ (n2 : Nat) (k : Nat) (sm : Int32), (k ≤ ln ix) → ((sm = 1 ∧ ln ix + at9 = pn ∧ ∀ i, i < k → f4 (8 * ix + i) = f1 (at9 + i)) ∨ (sm = 0 ∧ ¬ j_mt f1 f4 ln pn at9 ix)) → ∀ (ls : Array Slot), lv_has ls 6 [(0, .ref o), (1, .int (nI at9)), (2, .int fd), (3, .int (nI ix)), (4, .int sm), (5, .int (nI k))] → ln ix - k < n2 → W p l e (headSpec (Cond.code y_M_nameAt b_M_nameAt 6 (some .int) :: bg_W) ({ frames := 0, cells := 0, slots := 0, locals := 0 })).room s m ([.ref o, .int (nI at9)] : List Value).toArray below meth c s.heap [] 0 0 (MQ below (vp_Si (fun r : Int32 => (r = -1 ∧ ∀ i, i < nn → ¬ j_mt f1 f4 ln pn at9 i) ∨ ∃ i, i < nn ∧ r = nI i ∧ j_mt f1 f4 ln pn at9 i)) ([.ref o, .int (nI at9)] : List Value).toArray s 0 0 (fun _ => False)) (F0 m 37 ls []) := by
            intro n2
            induction n2 with
            | zero => intro k sm hk hI ls hl hm; exact absurd hm (Nat.not_lt_zero _)
            | succ n2 ih2 =>
              intro k sm hk hI ls hl hm
              rcases hI with ⟨h1, h2, h3⟩ | ⟨h1, h2⟩
              · subst h1
                refine lv_iload hx hb d_M_nameAt_37 (lv_at hl 5 rfl) ?_
                refine lv_aload_n hx hb d_M_nameAt_39 rfl (lv_at hl 0 rfl) ?_
                refine va_get (D := D) (ci := 6) (v := .ref (a 5)) (C := "TimeWordsModel") (T := F_M) (N := 28) hx hb hw in_M hown hK hP 0 rfl rfl 5 (by decide) (hw _ fl_M_16) (fun _ h9 => h9) rfl d_M_nameAt_40 ?_
                refine lv_iload_n hx hb d_M_nameAt_43 rfl (lv_at hl 3 rfl) ?_
                refine va_iald hx hb hK hP 3 0 rfl rfl (by first | assumption | exact vp_in_nI (by omega) (by omega)) d_M_nameAt_44 ?_
                rw [show (nI ix).toNatClampNeg = ix from nI_clamp (by omega)]
                rw [hy3 ix]
                refine lv_icmp_ge (tgt := 90) hx hb d_M_nameAt_45 (by decide) (fun c11 => ?_) (fun c11 => ?_)
                · have c11 := nc_le (a := ln ix) (b := k) c11 (by omega) (by omega)
                  have hyes : j_mt f1 f4 ln pn at9 ix := ⟨h2, fun i hi => h3 i (by omega)⟩
                  refine lv_iload hx hb d_M_nameAt_90 (lv_at hl 4 rfl) ?_
                  refine lv_if_eq (tgt := 99) hx hb d_M_nameAt_92 (by decide) (fun c12 => absurd c12 (by decide)) (fun c12 => ?_)
                  refine lv_iload_n hx hb d_M_nameAt_95 rfl (lv_at hl 3 rfl) ?_
                  refine lv_goto (tgt := 100) hx hb d_M_nameAt_96 (by decide) ?_
                  refine lv_istore_n (lv' := [(2, .int (nI ix)), (0, .ref o), (1, .int (nI at9)), (3, .int (nI ix)), (4, .int 1), (5, .int (nI k))]) hx hb d_M_nameAt_100 rfl hl (by decide) rfl (fun ls hl => ?_)
                  refine lv_iinc (v := nI (ix + 1)) (lv' := [(3, .int (nI (ix + 1))), (2, .int (nI ix)), (0, .ref o), (1, .int (nI at9)), (4, .int 1), (5, .int (nI k))]) hx hb d_M_nameAt_101 hl (k := 3) rfl (nI_add ix 1) (by decide) rfl (fun ls hl => ?_)
                  refine lv_goto (tgt := 4) hx hb d_M_nameAt_104 (by decide) ?_
                  exact ih (ix + 1) (nI ix) (by omega) (Or.inr ⟨ix, by omega, rfl, hyes⟩) ls (lv_sub hl [2, 3, 1, 0] rfl) (by omega)
                · have c11 := nc_nle (a := ln ix) (b := k) c11 (by omega) (by omega)
                  refine lv_iload hx hb d_M_nameAt_48 (lv_at hl 4 rfl) ?_
                  refine lv_if_eq (tgt := 90) hx hb d_M_nameAt_50 (by decide) (fun c13 => absurd c13 (by decide)) (fun c13 => ?_)
                  refine lv_aload_n hx hb d_M_nameAt_53 rfl (lv_at hl 0 rfl) ?_
                  refine va_get (D := D) (ci := 6) (v := .ref (a 4)) (C := "TimeWordsModel") (T := F_M) (N := 28) hx hb hw in_M hown hK hP 0 rfl rfl 4 (by decide) (hw _ fl_M_13) (fun _ h9 => h9) rfl d_M_nameAt_54 ?_
                  refine lv_bipush (v := 8) hx hb d_M_nameAt_57 (by decide) ?_
                  refine lv_iload_n hx hb d_M_nameAt_59 rfl (lv_at hl 3 rfl) ?_
                  refine lv_imul hx hb d_M_nameAt_60 ?_
                  rw [show 8 * (nI ix) = nI (8 * ix) from pk_mul 8 ix]
                  refine lv_iload hx hb d_M_nameAt_61 (lv_at hl 5 rfl) ?_
                  refine lv_iadd hx hb d_M_nameAt_63 ?_
                  rw [show (nI (8 * ix)) + (nI k) = nI (8 * ix + k) from nI_add (8 * ix) k]
                  refine va_iald hx hb hK hP 2 0 rfl rfl (by first | assumption | exact vp_in_nI (by omega) (by omega)) d_M_nameAt_64 ?_
                  rw [show (nI (8 * ix + k)).toNatClampNeg = (8 * ix + k) from nI_clamp (by omega)]
                  refine lv_aload_n hx hb d_M_nameAt_65 rfl (lv_at hl 0 rfl) ?_
                  refine va_get (D := D) (ci := 6) (v := .ref (a 1)) (C := "TimeWordsModel") (T := F_M) (N := 28) hx hb hw in_M hown hK hP 0 rfl rfl 1 (by decide) (hw _ fl_M_7) (fun _ h9 => h9) rfl d_M_nameAt_66 ?_
                  refine lv_iload_n hx hb d_M_nameAt_69 rfl (lv_at hl 1 rfl) ?_
                  refine lv_iload hx hb d_M_nameAt_70 (lv_at hl 5 rfl) ?_
                  refine lv_iadd hx hb d_M_nameAt_72 ?_
                  rw [show (nI at9) + (nI k) = nI (at9 + k) from nI_add at9 k]
                  refine va_iald hx hb hK hP 1 0 rfl rfl (by first | assumption | exact vp_in_nI (by omega) (by omega)) d_M_nameAt_73 ?_
                  rw [show (nI (at9 + k)).toNatClampNeg = (at9 + k) from nI_clamp (by omega)]
                  refine lv_icmp_ne (tgt := 81) hx hb d_M_nameAt_74 (by decide) (fun c14 => ?_) (fun c14 => ?_)
                  · refine lv_iconst (v := 0) hx hb d_M_nameAt_81 (by decide) ?_
                    refine lv_istore (lv' := [(4, .int 0), (0, .ref o), (1, .int (nI at9)), (2, .int fd), (3, .int (nI ix)), (5, .int (nI k))]) hx hb d_M_nameAt_82 hl (by decide) rfl (fun ls hl => ?_)
                    refine lv_iinc (v := nI (k + 1)) (lv' := [(5, .int (nI (k + 1))), (4, .int 0), (0, .ref o), (1, .int (nI at9)), (2, .int fd), (3, .int (nI ix))]) hx hb d_M_nameAt_84 hl (k := 5) rfl (nI_add k 1) (by decide) rfl (fun ls hl => ?_)
                    refine lv_goto (tgt := 37) hx hb d_M_nameAt_87 (by decide) ?_
                    exact ih2 (k + 1) 0 (by omega) (Or.inr ⟨rfl, fun q => c14 (q.2 k (by omega))⟩) ls (lv_sub hl [2, 3, 4, 5, 1, 0] rfl) (by omega)
                  · refine lv_iconst (v := 1) hx hb d_M_nameAt_77 (by decide) ?_
                    refine lv_goto (tgt := 82) hx hb d_M_nameAt_78 (by decide) ?_
                    refine lv_istore (lv' := [(4, .int 1), (0, .ref o), (1, .int (nI at9)), (2, .int fd), (3, .int (nI ix)), (5, .int (nI k))]) hx hb d_M_nameAt_82 hl (by decide) rfl (fun ls hl => ?_)
                    refine lv_iinc (v := nI (k + 1)) (lv' := [(5, .int (nI (k + 1))), (4, .int 1), (0, .ref o), (1, .int (nI at9)), (2, .int fd), (3, .int (nI ix))]) hx hb d_M_nameAt_84 hl (k := 5) rfl (nI_add k 1) (by decide) rfl (fun ls hl => ?_)
                    refine lv_goto (tgt := 37) hx hb d_M_nameAt_87 (by decide) ?_
                    exact ih2 (k + 1) 1 (by omega) (Or.inl ⟨rfl, h2, lt_s h3 c14⟩) ls (lv_sub hl [2, 3, 4, 5, 1, 0] rfl) (by omega)
              · subst h1
                refine lv_iload hx hb d_M_nameAt_37 (lv_at hl 5 rfl) ?_
                refine lv_aload_n hx hb d_M_nameAt_39 rfl (lv_at hl 0 rfl) ?_
                refine va_get (D := D) (ci := 6) (v := .ref (a 5)) (C := "TimeWordsModel") (T := F_M) (N := 28) hx hb hw in_M hown hK hP 0 rfl rfl 5 (by decide) (hw _ fl_M_16) (fun _ h9 => h9) rfl d_M_nameAt_40 ?_
                refine lv_iload_n hx hb d_M_nameAt_43 rfl (lv_at hl 3 rfl) ?_
                refine va_iald hx hb hK hP 3 0 rfl rfl (by first | assumption | exact vp_in_nI (by omega) (by omega)) d_M_nameAt_44 ?_
                rw [show (nI ix).toNatClampNeg = ix from nI_clamp (by omega)]
                rw [hy3 ix]
                refine lv_icmp_ge (tgt := 90) hx hb d_M_nameAt_45 (by decide) (fun c15 => ?_) (fun c15 => ?_)
                · have c15 := nc_le (a := ln ix) (b := k) c15 (by omega) (by omega)
                  have hno : ¬ j_mt f1 f4 ln pn at9 ix := h2
                  refine lv_iload hx hb d_M_nameAt_90 (lv_at hl 4 rfl) ?_
                  refine lv_if_eq (tgt := 99) hx hb d_M_nameAt_92 (by decide) (fun c16 => ?_) (fun c16 => absurd c16 (by decide))
                  refine lv_iload_n hx hb d_M_nameAt_99 rfl (lv_at hl 2 rfl) ?_
                  refine lv_istore_n (lv' := [(2, .int fd), (0, .ref o), (1, .int (nI at9)), (3, .int (nI ix)), (4, .int 0), (5, .int (nI k))]) hx hb d_M_nameAt_100 rfl hl (by decide) rfl (fun ls hl => ?_)
                  refine lv_iinc (v := nI (ix + 1)) (lv' := [(3, .int (nI (ix + 1))), (2, .int fd), (0, .ref o), (1, .int (nI at9)), (4, .int 0), (5, .int (nI k))]) hx hb d_M_nameAt_101 hl (k := 3) rfl (nI_add ix 1) (by decide) rfl (fun ls hl => ?_)
                  refine lv_goto (tgt := 4) hx hb d_M_nameAt_104 (by decide) ?_
                  exact ih (ix + 1) fd (by omega) (hFD.elim (fun q => Or.inl ⟨q.1, lt_s q.2 hno⟩) (fun ⟨i, q1, q2, q3⟩ => Or.inr ⟨i, by omega, q2, q3⟩)) ls (lv_sub hl [2, 3, 1, 0] rfl) (by omega)
                · have c15 := nc_nle (a := ln ix) (b := k) c15 (by omega) (by omega)
                  refine lv_iload hx hb d_M_nameAt_48 (lv_at hl 4 rfl) ?_
                  refine lv_if_eq (tgt := 90) hx hb d_M_nameAt_50 (by decide) (fun c17 => ?_) (fun c17 => absurd c17 (by decide))
                  have hno : ¬ j_mt f1 f4 ln pn at9 ix := h2
                  refine lv_iload hx hb d_M_nameAt_90 (lv_at hl 4 rfl) ?_
                  refine lv_if_eq (tgt := 99) hx hb d_M_nameAt_92 (by decide) (fun c18 => ?_) (fun c18 => absurd c18 (by decide))
                  refine lv_iload_n hx hb d_M_nameAt_99 rfl (lv_at hl 2 rfl) ?_
                  refine lv_istore_n (lv' := [(2, .int fd), (0, .ref o), (1, .int (nI at9)), (3, .int (nI ix)), (4, .int 0), (5, .int (nI k))]) hx hb d_M_nameAt_100 rfl hl (by decide) rfl (fun ls hl => ?_)
                  refine lv_iinc (v := nI (ix + 1)) (lv' := [(3, .int (nI (ix + 1))), (2, .int fd), (0, .ref o), (1, .int (nI at9)), (4, .int 0), (5, .int (nI k))]) hx hb d_M_nameAt_101 hl (k := 3) rfl (nI_add ix 1) (by decide) rfl (fun ls hl => ?_)
                  refine lv_goto (tgt := 4) hx hb d_M_nameAt_104 (by decide) ?_
                  exact ih (ix + 1) fd (by omega) (hFD.elim (fun q => Or.inl ⟨q.1, lt_s q.2 hno⟩) (fun ⟨i, q1, q2, q3⟩ => Or.inr ⟨i, by omega, q2, q3⟩)) ls (lv_sub hl [2, 3, 1, 0] rfl) (by omega)
          exact lop2 ((ln ix - 0) + 1) 0 1 (Nat.zero_le _) (Or.inl ⟨rfl, by omega, lt_0⟩) ls (lv_sub hl [2, 3, 4, 5, 1, 0] rfl) (Nat.lt_succ_self _)
  exact loop ((nn - 0) + 1) 0 (-1) (Nat.zero_le _) (Or.inl ⟨rfl, lt_0⟩) ls (lv_sub hl [2, 3, 1, 0] rfl) (Nat.lt_succ_self _)
