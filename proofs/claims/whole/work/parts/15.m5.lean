theorem in_1_8 {pn : Nat} (h : pn ≤ 24) : j_in (nI pn) 1 8 = true ↔ 1 ≤ pn ∧ pn ≤ 8 := by
  simp only [j_in, Bool.and_eq_true, Bool.not_eq_true', decide_eq_false_iff_not]
  constructor
  · intro q
    exact ⟨nc_nlt (b := 1) q.1 (by omega) (by decide), nc_nlt (a := 8) q.2 (by decide) (by omega)⟩
  · intro q
    exact ⟨nI_nlt (a := pn) (b := 1) q.1 (by omega), nI_nlt (a := 8) (b := pn) q.2 (by decide)⟩
set_option maxHeartbeats 4000000 in
set_option maxRecDepth 100000 in
theorem k_M_name (l : Launch) (D : va_G) (T : gT) (o : Nat) (a : Nat → Nat) (z0 : Int32) (pn nn : Nat) (z14 z18 z19 z20 z21 z24 z26 : Int32) (f1 f4 f5 f6 f7 f8 f9 f10 f11 f12 f13 f15 f16 f17 f22 f23 f25 f27 : Nat → Int32) (sz : Nat) (ln : Nat → Nat) (hy0 : pn ≤ 24) (hy1 : nn ≤ 24) (hy2 : ∀ i, f5 i = nI (ln i)) (hy3 : ∀ i, ln i ≤ 8) : Met l y_M_name (Cond.code y_M_name b_M_name 4 (some .int) :: bg_W) ({ frames := 2, cells := 0, slots := 0, locals := 42 }) (qP D T (mX T o a z0 (nI pn) (nI nn) z14 z18 z19 z20 z21 z24 z26 f1 f4 f5 f6 f7 f8 f9 f10 f11 f12 f13 f15 f16 f17 f22 f23 f25 f27) [.ref o] sz) (va_Qi (fun (r : Int32) (u : Int32 × Int32 × Int32 × (Nat → Int32) × (Nat → Int32)) => match u with | (w0, w2, w3, g4, g5) => (¬ j_gd f1 pn ∧ r = 0 ∧ w0 = 1 ∧ w2 = nI pn ∧ w3 = nI nn ∧ g4 = f4 ∧ g5 = f5) ∨ (j_gd f1 pn ∧ (∃ i, i < nn ∧ j_mt f1 f4 ln pn 0 i ∧ r = nI i) ∧ w0 = 0 ∧ w2 = 0 ∧ w3 = nI nn ∧ g4 = f4 ∧ g5 = f5) ∨ (j_gd f1 pn ∧ (∀ i, i < nn → ¬ j_mt f1 f4 ln pn 0 i) ∧ nn = 24 ∧ r = 0 ∧ w0 = 2 ∧ w2 = nI pn ∧ w3 = nI nn ∧ g4 = f4 ∧ g5 = f5) ∨ (j_gd f1 pn ∧ (∀ i, i < nn → ¬ j_mt f1 f4 ln pn 0 i) ∧ nn < 24 ∧ r = nI nn ∧ w0 = 0 ∧ w2 = 0 ∧ w3 = nI (nn + 1) ∧ cpI f4 f1 g4 (8 * nn) pn ∧ g5 = upd f5 nn (nI pn))) (qB D T (va_A (mX T o a z0 (nI pn) (nI nn) z14 z18 z19 z20 z21 z24 z26 f1 f4 f5 f6 f7 f8 f9 f10 f11 f12 f13 f15 f16 f17 f22 f23 f25 f27) sz) (fun u : Int32 × Int32 × Int32 × (Nat → Int32) × (Nat → Int32) => match u with | (w0, w2, w3, g4, g5) => mX T o a w0 w2 w3 z14 z18 z19 z20 z21 z24 z26 f1 g4 g5 f6 f7 f8 f9 f10 f11 f12 f13 f15 f16 f17 f22 f23 f25 f27)) (va_A (mX T o a z0 (nI pn) (nI nn) z14 z18 z19 z20 z21 z24 z26 f1 f4 f5 f6 f7 f8 f9 f10 f11 f12 f13 f15 f16 f17 f22 f23 f25 f27) sz)) 0 0 (va_A (mX T o a z0 (nI pn) (nI nn) z14 z18 z19 z20 z21 z24 z26 f1 f4 f5 f6 f7 f8 f9 f10 f11 f12 f13 f15 f16 f17 f22 f23 f25 f27) sz) := by
  refine Met.ofW (cc := b_M_name) (maxL := 4) (ret := (some .int)) (by decide) rfl ?_
  intro p e s m args below meth c s₁ B hml hv
  obtain ⟨rfl, hsz, hP, hK, hD0⟩ := hv
  have hx := B.exec
  have hb := B.bytes
  have hr := B.returns
  have hw : ∀ w ∈ bg_W, w.before ([.ref o] : List Value).toArray s = true := fun w h => atoms_spec (ws := (Cond.code y_M_name b_M_name 4 (some .int) :: bg_W)) B.pre w (List.mem_cons_of_mem _ h)
  have hown : s.vm.findClass "TimeWordsModel" = some m.cls := findClass_of_methodNamed B.named
  have hlocks := B.notSynchronized
  subst hsz
  have hD := hD0.self (sz := s.heap.size)
  generalize hAe : va_A (mX T o a z0 (nI pn) (nI nn) z14 z18 z19 z20 z21 z24 z26 f1 f4 f5 f6 f7 f8 f9 f10 f11 f12 f13 f15 f16 f17 f22 f23 f25 f27) s.heap.size = A at hD ⊢
  have hA : ∀ q : Nat, s.heap.size ≤ q → A q := fun q h => by rw [← hAe]; exact Or.inr h
  have hS : va_S A s.heap s.heap [] := va_S.rf
  have hl := lv_entry ([.ref o]) (n := 4) (Nat.le_of_ble_eq_true rfl)
  rw [lg_entry_eq]
  generalize (lg_sl ([.ref o]) ++ List.replicate (4 - (lg_sl ([.ref o])).length) Slot.unset).toArray = ls at hl ⊢
  have hl : lv_has ls 4 [(0, .ref o)] := hl
  refine lv_aload_n hx hb d_M_name_0 rfl (lv_at hl 0 rfl) ?_
  refine va_get (D := D) (ci := 6) (v := .int (nI pn)) (C := "TimeWordsModel") (T := F_M) (N := 28) hx hb hw in_M hown hK hP 0 rfl rfl 2 (by decide) (hw _ fl_M_93) (fun _ h9 => h9) rfl d_M_name_1 ?_
  refine lv_iconst (v := 1) hx hb d_M_name_4 (by decide) ?_
  refine lv_bipush (v := 8) hx hb d_M_name_5 (by decide) ?_
  refine vp_callSi (va_Run.run (va_runS (As := [.int (nI pn), .int 1, .int 8]) (rest := []) ⟨hx, hb, hml, hown, hw⟩ (k_M_in l (nI pn) 1 8) (va_cwS 3 hw (bg_S ml_M_72 wt_M_in wz_M wc_M_in) rfl rfl rfl (by decide +kernel) ⟨Nat.le_of_ble_eq_true rfl, Nat.le_of_ble_eq_true rfl⟩) ⟨nP_b, nP_p⟩ rfl rfl hl.1 rfl (lv_room (Nat.le_of_ble_eq_true rfl)) d_M_name_7 ⟨Nat.le_of_ble_eq_true rfl, Nat.le_of_ble_eq_true rfl⟩)) (fun r1 hr1 => ?_)
  replace hr1 := hr1.symm; subst hr1
  refine lv_istore_n (lv' := [(1, .int (b2i (j_in (nI pn) 1 8))), (0, .ref o)]) hx hb d_M_name_10 rfl hl (by decide) rfl (fun ls hl => ?_)
  refine lv_iconst (v := 0) hx hb d_M_name_11 (by decide) ?_
  refine lv_istore_n (lv' := [(2, .int 0), (1, .int (b2i (j_in (nI pn) 1 8))), (0, .ref o)]) hx hb d_M_name_12 rfl hl (by decide) rfl (fun ls hl => ?_)
  rcases (by cases j_in (nI pn) 1 8 <;> simp : j_in (nI pn) 1 8 = true ∨ j_in (nI pn) 1 8 = false) with hb9 | hb9
  · have hl := hl; rw [hb9] at hl; change lv_has ls 4 [(2, .int 0), (1, .int 1), (0, .ref o)] at hl
    have loop : ∀ (n : Nat) (k : Nat) (gd : Int32), (k ≤ pn) → ((gd = 1 ∧ (1 ≤ pn ∧ pn ≤ 8) ∧ ∀ i, i < k → j_in (f1 i) 97 122 = true) ∨ (gd = 0 ∧ ¬ j_gd f1 pn)) → ∀ (H : Heap) (locs : List Loc), va_P D gC (mX T o a z0 (nI pn) (nI nn) z14 z18 z19 z20 z21 z24 z26 f1 f4 f5 f6 f7 f8 f9 f10 f11 f12 f13 f15 f16 f17 f22 f23 f25 f27) H → va_D A (mX T o a z0 (nI pn) (nI nn) z14 z18 z19 z20 z21 z24 z26 f1 f4 f5 f6 f7 f8 f9 f10 f11 f12 f13 f15 f16 f17 f22 f23 f25 f27) → va_S A s.heap H locs → ∀ (ls : Array Slot), lv_has ls 4 [(0, .ref o), (1, .int gd), (2, .int (nI k))] → pn - k < n → W p l e (headSpec (Cond.code y_M_name b_M_name 4 (some .int) :: bg_W) ({ frames := 2, cells := 0, slots := 0, locals := 42 })).room s m ([.ref o] : List Value).toArray below meth c H locs 0 0 (MQ below (va_Qi (fun (r : Int32) (u : Int32 × Int32 × Int32 × (Nat → Int32) × (Nat → Int32)) => match u with | (w0, w2, w3, g4, g5) => (¬ j_gd f1 pn ∧ r = 0 ∧ w0 = 1 ∧ w2 = nI pn ∧ w3 = nI nn ∧ g4 = f4 ∧ g5 = f5) ∨ (j_gd f1 pn ∧ (∃ i, i < nn ∧ j_mt f1 f4 ln pn 0 i ∧ r = nI i) ∧ w0 = 0 ∧ w2 = 0 ∧ w3 = nI nn ∧ g4 = f4 ∧ g5 = f5) ∨ (j_gd f1 pn ∧ (∀ i, i < nn → ¬ j_mt f1 f4 ln pn 0 i) ∧ nn = 24 ∧ r = 0 ∧ w0 = 2 ∧ w2 = nI pn ∧ w3 = nI nn ∧ g4 = f4 ∧ g5 = f5) ∨ (j_gd f1 pn ∧ (∀ i, i < nn → ¬ j_mt f1 f4 ln pn 0 i) ∧ nn < 24 ∧ r = nI nn ∧ w0 = 0 ∧ w2 = 0 ∧ w3 = nI (nn + 1) ∧ cpI f4 f1 g4 (8 * nn) pn ∧ g5 = upd f5 nn (nI pn))) (qB D T A (fun u : Int32 × Int32 × Int32 × (Nat → Int32) × (Nat → Int32) => match u with | (w0, w2, w3, g4, g5) => mX T o a w0 w2 w3 z14 z18 z19 z20 z21 z24 z26 f1 g4 g5 f6 f7 f8 f9 f10 f11 f12 f13 f15 f16 f17 f22 f23 f25 f27)) A) ([.ref o] : List Value).toArray s 0 0 A) (F0 m 13 ls []) := by
      intro n
      induction n with
      | zero => intro k gd hk hI H locs hP hD hS ls hl hm; exact absurd hm (Nat.not_lt_zero _)
      | succ n ih =>
        intro k gd hk hI H locs hP hD hS ls hl hm
        rcases hI with ⟨h1, h2, h3⟩ | ⟨h1, h2⟩
        · subst h1
          have hgood : k = pn → j_gd f1 pn := fun e9 => ⟨h2.1, h2.2, fun i hi => h3 i (by omega)⟩
          refine lv_iload_n hx hb d_M_name_13 rfl (lv_at hl 2 rfl) ?_
          refine lv_aload_n hx hb d_M_name_14 rfl (lv_at hl 0 rfl) ?_
          refine va_get (D := D) (ci := 6) (v := .int (nI pn)) (C := "TimeWordsModel") (T := F_M) (N := 28) hx hb hw in_M hown hK hP 0 rfl rfl 2 (by decide) (hw _ fl_M_93) (fun _ h9 => h9) rfl d_M_name_15 ?_
          refine lv_icmp_ge (tgt := 49) hx hb d_M_name_18 (by decide) (fun c2 => ?_) (fun c2 => ?_)
          · have c2 := nc_le (a := pn) (b := k) c2 (by omega) (by omega)
            refine lv_iload_n hx hb d_M_name_49 rfl (lv_at hl 1 rfl) ?_
            refine lv_if_ne (tgt := 59) hx hb d_M_name_50 (by decide) (fun c3 => ?_) (fun c3 => absurd c3 (by decide))
            refine lv_aload_n hx hb d_M_name_59 rfl (lv_at hl 0 rfl) ?_
            refine lv_iconst (v := 0) hx hb d_M_name_60 (by decide) ?_
            refine vp_callSi (va_Run.run (va_runV (As := [.int 0]) (rest := []) ⟨hx, hb, hml, hown, hw⟩ (k_M_nameAt l D T o a z0 pn nn z14 z18 z19 z20 z21 z24 z26 f1 f4 f5 f6 f7 f8 f9 f10 f11 f12 f13 f15 f16 f17 f22 f23 f25 f27 0 ln hy0 (Nat.zero_le _) hy1 hy2 hy3) (cwV 1 hw (bg_V ml_M_96 wi_M_nameAt wv_M_nameAt wz_M wc_M_nameAt) rfl rfl rfl (by decide +kernel) ⟨Nat.le_of_ble_eq_true rfl, Nat.le_of_ble_eq_true rfl⟩) ⟨sP_b, va_recv hK hP (ci := 6) (q0 := 0) rfl rfl, sP_p hP hK⟩ rfl rfl hl.1 rfl (lv_room (Nat.le_of_ble_eq_true rfl)) d_M_name_61 ⟨Nat.le_of_ble_eq_true rfl, Nat.le_of_ble_eq_true rfl⟩)) (fun r4 hr4 => ?_)
            rcases hr4 with hm9 | hm9
            · obtain ⟨hm1, hno⟩ := hm9
              subst hm1
              refine lv_istore_n (lv' := [(2, .int (-1)), (0, .ref o), (1, .int 1)]) hx hb d_M_name_64 rfl hl (by decide) rfl (fun ls hl => ?_)
              refine lv_iload_n hx hb d_M_name_65 rfl (lv_at hl 0 rfl) ?_
              refine lv_if_ge (tgt := 84) hx hb d_M_name_66 (by decide) (fun c5 => absurd c5 (by decide)) (fun c5 => ?_)
              refine lv_aload_n hx hb d_M_name_69 rfl (lv_at hl 1 rfl) ?_
              refine va_get (D := D) (ci := 6) (v := .int (nI nn)) (C := "TimeWordsModel") (T := F_M) (N := 28) hx hb hw in_M hown hK hP 0 rfl rfl 3 (by decide) (hw _ fl_M_76) (fun _ h9 => h9) rfl d_M_name_70 ?_
              refine lv_bipush (v := 24) hx hb d_M_name_73 (by decide) ?_
              refine lv_icmp_ne (tgt := 84) hx hb d_M_name_75 (by decide) (fun c6 => ?_) (fun c6 => ?_)
              · have c6 := nc_ne (a := nn) (b := 24) c6 (by omega) (by omega)
                have hlt : nn < 24 := by omega
                refine lv_aload_n hx hb d_M_name_84 rfl (lv_at hl 1 rfl) ?_
                refine lv_iconst (v := 0) hx hb d_M_name_85 (by decide) ?_
                refine va_put (D := D) (ci := 6) (v := .int 0) (ty := .int) (C := "TimeWordsModel") (T := F_M) (N := 28) hx hb hw in_M ty_M ty_M_ok n_M hown hK hP hD hS 0 rfl rfl 0 (by decide) (hw _ fl_M_69) (fun _ h9 => h9) rfl (by decide +kernel) rfl rfl (Nat.le_of_ble_eq_true rfl) d_M_name_86 (fun H locs hP hD hS => ?_)
                have hP : va_P D gC (mX T o a 0 (nI pn) (nI nn) z14 z18 z19 z20 z21 z24 z26 f1 f4 f5 f6 f7 f8 f9 f10 f11 f12 f13 f15 f16 f17 f22 f23 f25 f27) H := hP
                have hD : va_D A (mX T o a 0 (nI pn) (nI nn) z14 z18 z19 z20 z21 z24 z26 f1 f4 f5 f6 f7 f8 f9 f10 f11 f12 f13 f15 f16 f17 f22 f23 f25 f27) := hD
                refine lv_iload_n hx hb d_M_name_89 rfl (lv_at hl 0 rfl) ?_
                refine lv_if_ge (tgt := 151) hx hb d_M_name_90 (by decide) (fun c7 => absurd c7 (by decide)) (fun c7 => ?_)
                refine lv_aload_n hx hb d_M_name_93 rfl (lv_at hl 1 rfl) ?_
                refine va_get (D := D) (ci := 6) (v := .int (nI nn)) (C := "TimeWordsModel") (T := F_M) (N := 28) hx hb hw in_M hown hK hP 0 rfl rfl 3 (by decide) (hw _ fl_M_76) (fun _ h9 => h9) rfl d_M_name_94 ?_
                refine lv_istore_n (lv' := [(2, .int (nI nn)), (0, .ref o), (1, .int 1)]) hx hb d_M_name_97 rfl hl (by decide) rfl (fun ls hl => ?_)
                refine lv_aload_n hx hb d_M_name_98 rfl (lv_at hl 1 rfl) ?_
                refine va_get (D := D) (ci := 6) (v := .ref (a 5)) (C := "TimeWordsModel") (T := F_M) (N := 28) hx hb hw in_M hown hK hP 0 rfl rfl 5 (by decide) (hw _ fl_M_16) (fun _ h9 => h9) rfl d_M_name_99 ?_
                refine lv_iload_n hx hb d_M_name_102 rfl (lv_at hl 0 rfl) ?_
                refine lv_aload_n hx hb d_M_name_103 rfl (lv_at hl 1 rfl) ?_
                refine va_get (D := D) (ci := 6) (v := .int (nI pn)) (C := "TimeWordsModel") (T := F_M) (N := 28) hx hb hw in_M hown hK hP 0 rfl rfl 2 (by decide) (hw _ fl_M_93) (fun _ h9 => h9) rfl d_M_name_104 ?_
                refine va_iast hx hb hK hP hD hS 3 0 rfl rfl (by first | assumption | exact vp_in_nI (by omega) (by omega)) d_M_name_107 (fun H locs hP hD hS => ?_)
                rw [show (nI nn).toNatClampNeg = nn from nI_clamp (by omega)] at hP hD
                have hP : va_P D gC (mX T o a 0 (nI pn) (nI nn) z14 z18 z19 z20 z21 z24 z26 f1 f4 (upd f5 nn (nI pn)) f6 f7 f8 f9 f10 f11 f12 f13 f15 f16 f17 f22 f23 f25 f27) H := hP
                have hD : va_D A (mX T o a 0 (nI pn) (nI nn) z14 z18 z19 z20 z21 z24 z26 f1 f4 (upd f5 nn (nI pn)) f6 f7 f8 f9 f10 f11 f12 f13 f15 f16 f17 f22 f23 f25 f27) := hD
                refine lv_iconst (v := 0) hx hb d_M_name_108 (by decide) ?_
                refine lv_istore_n (lv' := [(3, .int 0), (2, .int (nI nn)), (0, .ref o), (1, .int 1)]) hx hb d_M_name_109 rfl hl (by decide) rfl (fun ls hl => ?_)
                have lopc : ∀ (nc : Nat) (k : Nat) (g4 : Nat → Int32), (k ≤ pn) → (cpI f4 f1 g4 (8 * nn) k) → ∀ (H : Heap) (locs : List Loc), va_P D gC (mX T o a 0 (nI pn) (nI nn) z14 z18 z19 z20 z21 z24 z26 f1 g4 (upd f5 nn (nI pn)) f6 f7 f8 f9 f10 f11 f12 f13 f15 f16 f17 f22 f23 f25 f27) H → va_D A (mX T o a 0 (nI pn) (nI nn) z14 z18 z19 z20 z21 z24 z26 f1 g4 (upd f5 nn (nI pn)) f6 f7 f8 f9 f10 f11 f12 f13 f15 f16 f17 f22 f23 f25 f27) → va_S A s.heap H locs → ∀ (ls : Array Slot), lv_has ls 4 [(0, .ref o), (1, .int 1), (2, .int (nI nn)), (3, .int (nI k))] → pn - k < nc → W p l e (headSpec (Cond.code y_M_name b_M_name 4 (some .int) :: bg_W) ({ frames := 2, cells := 0, slots := 0, locals := 42 })).room s m ([.ref o] : List Value).toArray below meth c H locs 0 0 (MQ below (va_Qi (fun (r : Int32) (u : Int32 × Int32 × Int32 × (Nat → Int32) × (Nat → Int32)) => match u with | (w0, w2, w3, g4, g5) => (¬ j_gd f1 pn ∧ r = 0 ∧ w0 = 1 ∧ w2 = nI pn ∧ w3 = nI nn ∧ g4 = f4 ∧ g5 = f5) ∨ (j_gd f1 pn ∧ (∃ i, i < nn ∧ j_mt f1 f4 ln pn 0 i ∧ r = nI i) ∧ w0 = 0 ∧ w2 = 0 ∧ w3 = nI nn ∧ g4 = f4 ∧ g5 = f5) ∨ (j_gd f1 pn ∧ (∀ i, i < nn → ¬ j_mt f1 f4 ln pn 0 i) ∧ nn = 24 ∧ r = 0 ∧ w0 = 2 ∧ w2 = nI pn ∧ w3 = nI nn ∧ g4 = f4 ∧ g5 = f5) ∨ (j_gd f1 pn ∧ (∀ i, i < nn → ¬ j_mt f1 f4 ln pn 0 i) ∧ nn < 24 ∧ r = nI nn ∧ w0 = 0 ∧ w2 = 0 ∧ w3 = nI (nn + 1) ∧ cpI f4 f1 g4 (8 * nn) pn ∧ g5 = upd f5 nn (nI pn))) (qB D T A (fun u : Int32 × Int32 × Int32 × (Nat → Int32) × (Nat → Int32) => match u with | (w0, w2, w3, g4, g5) => mX T o a w0 w2 w3 z14 z18 z19 z20 z21 z24 z26 f1 g4 g5 f6 f7 f8 f9 f10 f11 f12 f13 f15 f16 f17 f22 f23 f25 f27)) A) ([.ref o] : List Value).toArray s 0 0 A) (F0 m 110 ls []) := by
                  intro nc
                  induction nc with
                  | zero => intro k g4 hk hC H locs hP hD hS ls hl hm; exact absurd hm (Nat.not_lt_zero _)
                  | succ nc ihc =>
                    intro k g4 hk hC H locs hP hD hS ls hl hm
                    refine lv_iload_n hx hb d_M_name_110 rfl (lv_at hl 3 rfl) ?_
                    refine lv_aload_n hx hb d_M_name_111 rfl (lv_at hl 0 rfl) ?_
                    refine va_get (D := D) (ci := 6) (v := .int (nI pn)) (C := "TimeWordsModel") (T := F_M) (N := 28) hx hb hw in_M hown hK hP 0 rfl rfl 2 (by decide) (hw _ fl_M_93) (fun _ h9 => h9) rfl d_M_name_112 ?_
                    refine lv_icmp_ge (tgt := 141) hx hb d_M_name_115 (by decide) (fun c8 => ?_) (fun c8 => ?_)
                    · have c8 := nc_le (a := pn) (b := k) c8 (by omega) (by omega)
                      refine lv_aload_n hx hb d_M_name_141 rfl (lv_at hl 0 rfl) ?_
                      refine lv_dup hx hb d_M_name_142 rfl ?_
                      refine va_get (D := D) (ci := 6) (v := .int (nI nn)) (C := "TimeWordsModel") (T := F_M) (N := 28) hx hb hw in_M hown hK hP 0 rfl rfl 3 (by decide) (hw _ fl_M_76) (fun _ h9 => h9) rfl d_M_name_143 ?_
                      refine lv_iconst (v := 1) hx hb d_M_name_146 (by decide) ?_
                      refine lv_iadd hx hb d_M_name_147 ?_
                      rw [nI_1]
                      refine va_put (D := D) (ci := 6) (v := .int (nI (nn + 1))) (ty := .int) (C := "TimeWordsModel") (T := F_M) (N := 28) hx hb hw in_M ty_M ty_M_ok n_M hown hK hP hD hS 0 rfl rfl 3 (by decide) (hw _ fl_M_76) (fun _ h9 => h9) rfl (by decide +kernel) rfl rfl (Nat.le_of_ble_eq_true rfl) d_M_name_148 (fun H locs hP hD hS => ?_)
                      have hP : va_P D gC (mX T o a 0 (nI pn) (nI (nn + 1)) z14 z18 z19 z20 z21 z24 z26 f1 g4 (upd f5 nn (nI pn)) f6 f7 f8 f9 f10 f11 f12 f13 f15 f16 f17 f22 f23 f25 f27) H := hP
                      have hD : va_D A (mX T o a 0 (nI pn) (nI (nn + 1)) z14 z18 z19 z20 z21 z24 z26 f1 g4 (upd f5 nn (nI pn)) f6 f7 f8 f9 f10 f11 f12 f13 f15 f16 f17 f22 f23 f25 f27) := hD
                      refine lv_aload_n hx hb d_M_name_151 rfl (lv_at hl 0 rfl) ?_
                      refine lv_iconst (v := 0) hx hb d_M_name_152 (by decide) ?_
                      refine va_put (D := D) (ci := 6) (v := .int 0) (ty := .int) (C := "TimeWordsModel") (T := F_M) (N := 28) hx hb hw in_M ty_M ty_M_ok n_M hown hK hP hD hS 0 rfl rfl 2 (by decide) (hw _ fl_M_93) (fun _ h9 => h9) rfl (by decide +kernel) rfl rfl (Nat.le_of_ble_eq_true rfl) d_M_name_153 (fun H locs hP hD hS => ?_)
                      have hP : va_P D gC (mX T o a 0 0 (nI (nn + 1)) z14 z18 z19 z20 z21 z24 z26 f1 g4 (upd f5 nn (nI pn)) f6 f7 f8 f9 f10 f11 f12 f13 f15 f16 f17 f22 f23 f25 f27) H := hP
                      have hD : va_D A (mX T o a 0 0 (nI (nn + 1)) z14 z18 z19 z20 z21 z24 z26 f1 g4 (upd f5 nn (nI pn)) f6 f7 f8 f9 f10 f11 f12 f13 f15 f16 f17 f22 f23 f25 f27) := hD
                      refine lv_iload_n hx hb d_M_name_156 rfl (lv_at hl 2 rfl) ?_
                      exact W.iret (v := nI nn) hx hb hr (fun t ht hW => ⟨⟨nI nn, (0, 0, nI (nn + 1), g4, upd f5 nn (nI pn)), rfl, (Or.inr (Or.inr (Or.inr ⟨hgood (by omega), hno, hlt, rfl, rfl, rfl, rfl, by have e9 : k = pn := (by omega); rw [← e9]; rw [e9] at hC ⊢; exact hC, rfl⟩))), by rw [ht]; exact hP, va_K.moved hW.alike hK, hD⟩, hS.F ht⟩) hS.2.2 d_M_name_157
                    · have c8 := nc_nle (a := pn) (b := k) c8 (by omega) (by omega)
                      refine lv_aload_n hx hb d_M_name_118 rfl (lv_at hl 0 rfl) ?_
                      refine va_get (D := D) (ci := 6) (v := .ref (a 4)) (C := "TimeWordsModel") (T := F_M) (N := 28) hx hb hw in_M hown hK hP 0 rfl rfl 4 (by decide) (hw _ fl_M_13) (fun _ h9 => h9) rfl d_M_name_119 ?_
                      refine lv_bipush (v := 8) hx hb d_M_name_122 (by decide) ?_
                      refine lv_iload_n hx hb d_M_name_124 rfl (lv_at hl 2 rfl) ?_
                      refine lv_imul hx hb d_M_name_125 ?_
                      rw [show 8 * (nI nn) = nI (8 * nn) from pk_mul 8 nn]
                      refine lv_iload_n hx hb d_M_name_126 rfl (lv_at hl 3 rfl) ?_
                      refine lv_iadd hx hb d_M_name_127 ?_
                      rw [show (nI (8 * nn)) + (nI k) = nI (8 * nn + k) from nI_add (8 * nn) k]
                      refine lv_aload_n hx hb d_M_name_128 rfl (lv_at hl 0 rfl) ?_
                      refine va_get (D := D) (ci := 6) (v := .ref (a 1)) (C := "TimeWordsModel") (T := F_M) (N := 28) hx hb hw in_M hown hK hP 0 rfl rfl 1 (by decide) (hw _ fl_M_7) (fun _ h9 => h9) rfl d_M_name_129 ?_
                      refine lv_iload_n hx hb d_M_name_132 rfl (lv_at hl 3 rfl) ?_
                      refine va_iald hx hb hK hP 1 0 rfl rfl (by first | assumption | exact vp_in_nI (by omega) (by omega)) d_M_name_133 ?_
                      rw [show (nI k).toNatClampNeg = k from nI_clamp (by omega)]
                      refine va_iast hx hb hK hP hD hS 2 0 rfl rfl (by first | assumption | exact vp_in_nI (by omega) (by omega)) d_M_name_134 (fun H locs hP hD hS => ?_)
                      rw [show (nI (8 * nn + k)).toNatClampNeg = (8 * nn + k) from nI_clamp (by omega)] at hP hD
                      have hP : va_P D gC (mX T o a 0 (nI pn) (nI nn) z14 z18 z19 z20 z21 z24 z26 f1 (upd g4 (8 * nn + k) (f1 k)) (upd f5 nn (nI pn)) f6 f7 f8 f9 f10 f11 f12 f13 f15 f16 f17 f22 f23 f25 f27) H := hP
                      have hD : va_D A (mX T o a 0 (nI pn) (nI nn) z14 z18 z19 z20 z21 z24 z26 f1 (upd g4 (8 * nn + k) (f1 k)) (upd f5 nn (nI pn)) f6 f7 f8 f9 f10 f11 f12 f13 f15 f16 f17 f22 f23 f25 f27) := hD
                      refine lv_iinc (v := nI (k + 1)) (lv' := [(3, .int (nI (k + 1))), (0, .ref o), (1, .int 1), (2, .int (nI nn))]) hx hb d_M_name_135 hl (k := 3) rfl (nI_add k 1) (by decide) rfl (fun ls hl => ?_)
                      refine lv_goto (tgt := 110) hx hb d_M_name_138 (by decide) ?_
                      exact ihc (k + 1) (upd g4 (8 * nn + k) (f1 k)) (by omega) (cpI_s hC) _ _ hP hD hS ls (lv_sub hl [1, 2, 3, 0] rfl) (by omega)
                exact lopc ((pn - 0) + 1) 0 f4 (Nat.zero_le _) cpI_0 _ _ hP hD hS ls (lv_sub hl [2, 3, 1, 0] rfl) (Nat.lt_succ_self _)
              · have c6 := nc_eq (a := nn) (b := 24) c6 (by omega) (by omega)
                refine lv_aload_n hx hb d_M_name_78 rfl (lv_at hl 1 rfl) ?_
                refine lv_iconst (v := 2) hx hb d_M_name_79 (by decide) ?_
                refine g_calli (va_runV (As := [.int 2]) (rest := []) ⟨hx, hb, hml, hown, hw⟩ (k_M_fails l D T o a z0 (nI pn) (nI nn) z14 z18 z19 z20 z21 z24 z26 f1 f4 f5 f6 f7 f8 f9 f10 f11 f12 f13 f15 f16 f17 f22 f23 f25 f27 H.size 2) (cwV 1 hw (bg_V ml_M_89 wi_M_fails wv_M_fails wz_M wc_M_fails) rfl rfl rfl (by decide +kernel) ⟨Nat.le_of_ble_eq_true rfl, Nat.le_of_ble_eq_true rfl⟩) ⟨qP_b, va_recv hK hP (ci := 6) (q0 := 0) rfl rfl, qP_p hP hK hD⟩ rfl rfl hl.1 rfl (lv_room (Nat.le_of_ble_eq_true rfl)) d_M_name_80 ⟨Nat.le_of_ble_eq_true rfl, Nat.le_of_ble_eq_true rfl⟩) hD hS hA (fun r9 u10 H locs hr9 hP hD hS => ?_)
                obtain ⟨q0, q1⟩ := hr9
                replace q0 := q0.symm; subst q0; replace q1 := q1.symm; subst q1
                have hP : va_P D gC (mX T o a 2 (nI pn) (nI nn) z14 z18 z19 z20 z21 z24 z26 f1 f4 f5 f6 f7 f8 f9 f10 f11 f12 f13 f15 f16 f17 f22 f23 f25 f27) H := hP
                have hD : va_D A (mX T o a 2 (nI pn) (nI nn) z14 z18 z19 z20 z21 z24 z26 f1 f4 f5 f6 f7 f8 f9 f10 f11 f12 f13 f15 f16 f17 f22 f23 f25 f27) := hD
                exact W.iret (v := 0) hx hb hr (fun t ht hW => ⟨⟨0, (2, nI pn, nI nn, f4, f5), rfl, (Or.inr (Or.inr (Or.inl ⟨hgood (by omega), hno, c6, rfl, rfl, rfl, rfl, rfl, rfl⟩))), by rw [ht]; exact hP, va_K.moved hW.alike hK, hD⟩, hS.F ht⟩) hS.2.2 d_M_name_83
            · obtain ⟨i9, hi9, hm1, hyes⟩ := hm9
              subst hm1
              refine lv_istore_n (lv' := [(2, .int (nI i9)), (0, .ref o), (1, .int 1)]) hx hb d_M_name_64 rfl hl (by decide) rfl (fun ls hl => ?_)
              refine lv_iload_n hx hb d_M_name_65 rfl (lv_at hl 0 rfl) ?_
              refine lv_if_ge (tgt := 84) hx hb d_M_name_66 (by decide) (fun c11 => ?_) (fun c11 => absurd (nI_pos' (by omega)) c11)
              refine lv_aload_n hx hb d_M_name_84 rfl (lv_at hl 1 rfl) ?_
              refine lv_iconst (v := 0) hx hb d_M_name_85 (by decide) ?_
              refine va_put (D := D) (ci := 6) (v := .int 0) (ty := .int) (C := "TimeWordsModel") (T := F_M) (N := 28) hx hb hw in_M ty_M ty_M_ok n_M hown hK hP hD hS 0 rfl rfl 0 (by decide) (hw _ fl_M_69) (fun _ h9 => h9) rfl (by decide +kernel) rfl rfl (Nat.le_of_ble_eq_true rfl) d_M_name_86 (fun H locs hP hD hS => ?_)
              have hP : va_P D gC (mX T o a 0 (nI pn) (nI nn) z14 z18 z19 z20 z21 z24 z26 f1 f4 f5 f6 f7 f8 f9 f10 f11 f12 f13 f15 f16 f17 f22 f23 f25 f27) H := hP
              have hD : va_D A (mX T o a 0 (nI pn) (nI nn) z14 z18 z19 z20 z21 z24 z26 f1 f4 f5 f6 f7 f8 f9 f10 f11 f12 f13 f15 f16 f17 f22 f23 f25 f27) := hD
              refine lv_iload_n hx hb d_M_name_89 rfl (lv_at hl 0 rfl) ?_
              refine lv_if_ge (tgt := 151) hx hb d_M_name_90 (by decide) (fun c12 => ?_) (fun c12 => absurd (nI_pos' (by omega)) c12)
              refine lv_aload_n hx hb d_M_name_151 rfl (lv_at hl 1 rfl) ?_
              refine lv_iconst (v := 0) hx hb d_M_name_152 (by decide) ?_
              refine va_put (D := D) (ci := 6) (v := .int 0) (ty := .int) (C := "TimeWordsModel") (T := F_M) (N := 28) hx hb hw in_M ty_M ty_M_ok n_M hown hK hP hD hS 0 rfl rfl 2 (by decide) (hw _ fl_M_93) (fun _ h9 => h9) rfl (by decide +kernel) rfl rfl (Nat.le_of_ble_eq_true rfl) d_M_name_153 (fun H locs hP hD hS => ?_)
              have hP : va_P D gC (mX T o a 0 0 (nI nn) z14 z18 z19 z20 z21 z24 z26 f1 f4 f5 f6 f7 f8 f9 f10 f11 f12 f13 f15 f16 f17 f22 f23 f25 f27) H := hP
              have hD : va_D A (mX T o a 0 0 (nI nn) z14 z18 z19 z20 z21 z24 z26 f1 f4 f5 f6 f7 f8 f9 f10 f11 f12 f13 f15 f16 f17 f22 f23 f25 f27) := hD
              refine lv_iload_n hx hb d_M_name_156 rfl (lv_at hl 0 rfl) ?_
              exact W.iret (v := nI i9) hx hb hr (fun t ht hW => ⟨⟨nI i9, (0, 0, nI nn, f4, f5), rfl, (Or.inr (Or.inl ⟨hgood (by omega), ⟨i9, hi9, hyes, rfl⟩, rfl, rfl, rfl, rfl, rfl⟩)), by rw [ht]; exact hP, va_K.moved hW.alike hK, hD⟩, hS.F ht⟩) hS.2.2 d_M_name_157
          · have c2 := nc_nle (a := pn) (b := k) c2 (by omega) (by omega)
            refine lv_iload_n hx hb d_M_name_21 rfl (lv_at hl 1 rfl) ?_
            refine lv_if_eq (tgt := 41) hx hb d_M_name_22 (by decide) (fun c13 => absurd c13 (by decide)) (fun c13 => ?_)
            refine lv_aload_n hx hb d_M_name_25 rfl (lv_at hl 0 rfl) ?_
            refine va_get (D := D) (ci := 6) (v := .ref (a 1)) (C := "TimeWordsModel") (T := F_M) (N := 28) hx hb hw in_M hown hK hP 0 rfl rfl 1 (by decide) (hw _ fl_M_7) (fun _ h9 => h9) rfl d_M_name_26 ?_
            refine lv_iload_n hx hb d_M_name_29 rfl (lv_at hl 2 rfl) ?_
            refine va_iald hx hb hK hP 1 0 rfl rfl (by first | assumption | exact vp_in_nI (by omega) (by omega)) d_M_name_30 ?_
            rw [show (nI k).toNatClampNeg = k from nI_clamp (by omega)]
            refine vp_callSi (va_Run.run (va_runS (As := [.int (f1 k)]) (rest := []) ⟨hx, hb, hml, hown, hw⟩ (k_M_isLetter l (f1 k)) (va_cwS 1 hw (bg_S ml_M_82 wt_M_isLetter wz_M wc_M_isLetter) rfl rfl rfl (by decide +kernel) ⟨Nat.le_of_ble_eq_true rfl, Nat.le_of_ble_eq_true rfl⟩) ⟨nP_b, nP_p⟩ rfl rfl hl.1 rfl (lv_room (Nat.le_of_ble_eq_true rfl)) d_M_name_31 ⟨Nat.le_of_ble_eq_true rfl, Nat.le_of_ble_eq_true rfl⟩)) (fun r14 hr14 => ?_)
            replace hr14 := hr14.symm; subst hr14
            refine lv_if_eq (tgt := 41) hx hb d_M_name_34 (by decide) (fun c15 => ?_) (fun c15 => ?_)
            · have c15 := b2i_f c15
              refine lv_iconst (v := 0) hx hb d_M_name_41 (by decide) ?_
              refine lv_istore_n (lv' := [(1, .int 0), (0, .ref o), (2, .int (nI k))]) hx hb d_M_name_42 rfl hl (by decide) rfl (fun ls hl => ?_)
              refine lv_iinc (v := nI (k + 1)) (lv' := [(2, .int (nI (k + 1))), (1, .int 0), (0, .ref o)]) hx hb d_M_name_43 hl (k := 2) rfl (nI_add k 1) (by decide) rfl (fun ls hl => ?_)
              refine lv_goto (tgt := 13) hx hb d_M_name_46 (by decide) ?_
              exact ih (k + 1) 0 (by omega) (Or.inr ⟨rfl, fun q => by rw [q.2.2 k (by omega)] at c15; cases c15⟩) _ _ hP hD hS ls (lv_sub hl [2, 1, 0] rfl) (by omega)
            · have c15 := b2i_t c15
              refine lv_iconst (v := 1) hx hb d_M_name_37 (by decide) ?_
              refine lv_goto (tgt := 42) hx hb d_M_name_38 (by decide) ?_
              refine lv_istore_n (lv' := [(1, .int 1), (0, .ref o), (2, .int (nI k))]) hx hb d_M_name_42 rfl hl (by decide) rfl (fun ls hl => ?_)
              refine lv_iinc (v := nI (k + 1)) (lv' := [(2, .int (nI (k + 1))), (1, .int 1), (0, .ref o)]) hx hb d_M_name_43 hl (k := 2) rfl (nI_add k 1) (by decide) rfl (fun ls hl => ?_)
              refine lv_goto (tgt := 13) hx hb d_M_name_46 (by decide) ?_
              exact ih (k + 1) 1 (by omega) (Or.inl ⟨rfl, h2, lt_s h3 c15⟩) _ _ hP hD hS ls (lv_sub hl [2, 1, 0] rfl) (by omega)
        · subst h1
          refine lv_iload_n hx hb d_M_name_13 rfl (lv_at hl 2 rfl) ?_
          refine lv_aload_n hx hb d_M_name_14 rfl (lv_at hl 0 rfl) ?_
          refine va_get (D := D) (ci := 6) (v := .int (nI pn)) (C := "TimeWordsModel") (T := F_M) (N := 28) hx hb hw in_M hown hK hP 0 rfl rfl 2 (by decide) (hw _ fl_M_93) (fun _ h9 => h9) rfl d_M_name_15 ?_
          refine lv_icmp_ge (tgt := 49) hx hb d_M_name_18 (by decide) (fun c16 => ?_) (fun c16 => ?_)
          · have c16 := nc_le (a := pn) (b := k) c16 (by omega) (by omega)
            refine lv_iload_n hx hb d_M_name_49 rfl (lv_at hl 1 rfl) ?_
            refine lv_if_ne (tgt := 59) hx hb d_M_name_50 (by decide) (fun c17 => absurd c17 (by decide)) (fun c17 => ?_)
            refine lv_aload_n hx hb d_M_name_53 rfl (lv_at hl 0 rfl) ?_
            refine lv_iconst (v := 1) hx hb d_M_name_54 (by decide) ?_
            refine g_calli (va_runV (As := [.int 1]) (rest := []) ⟨hx, hb, hml, hown, hw⟩ (k_M_fails l D T o a z0 (nI pn) (nI nn) z14 z18 z19 z20 z21 z24 z26 f1 f4 f5 f6 f7 f8 f9 f10 f11 f12 f13 f15 f16 f17 f22 f23 f25 f27 H.size 1) (cwV 1 hw (bg_V ml_M_89 wi_M_fails wv_M_fails wz_M wc_M_fails) rfl rfl rfl (by decide +kernel) ⟨Nat.le_of_ble_eq_true rfl, Nat.le_of_ble_eq_true rfl⟩) ⟨qP_b, va_recv hK hP (ci := 6) (q0 := 0) rfl rfl, qP_p hP hK hD⟩ rfl rfl hl.1 rfl (lv_room (Nat.le_of_ble_eq_true rfl)) d_M_name_55 ⟨Nat.le_of_ble_eq_true rfl, Nat.le_of_ble_eq_true rfl⟩) hD hS hA (fun r18 u19 H locs hr18 hP hD hS => ?_)
            obtain ⟨q0, q1⟩ := hr18
            replace q0 := q0.symm; subst q0; replace q1 := q1.symm; subst q1
            have hP : va_P D gC (mX T o a 1 (nI pn) (nI nn) z14 z18 z19 z20 z21 z24 z26 f1 f4 f5 f6 f7 f8 f9 f10 f11 f12 f13 f15 f16 f17 f22 f23 f25 f27) H := hP
            have hD : va_D A (mX T o a 1 (nI pn) (nI nn) z14 z18 z19 z20 z21 z24 z26 f1 f4 f5 f6 f7 f8 f9 f10 f11 f12 f13 f15 f16 f17 f22 f23 f25 f27) := hD
            exact W.iret (v := 0) hx hb hr (fun t ht hW => ⟨⟨0, (1, nI pn, nI nn, f4, f5), rfl, (Or.inl ⟨h2, rfl, rfl, rfl, rfl, rfl, rfl⟩), by rw [ht]; exact hP, va_K.moved hW.alike hK, hD⟩, hS.F ht⟩) hS.2.2 d_M_name_58
          · have c16 := nc_nle (a := pn) (b := k) c16 (by omega) (by omega)
            refine lv_iload_n hx hb d_M_name_21 rfl (lv_at hl 1 rfl) ?_
            refine lv_if_eq (tgt := 41) hx hb d_M_name_22 (by decide) (fun c20 => ?_) (fun c20 => absurd c20 (by decide))
            refine lv_iconst (v := 0) hx hb d_M_name_41 (by decide) ?_
            refine lv_istore_n (lv' := [(1, .int 0), (0, .ref o), (2, .int (nI k))]) hx hb d_M_name_42 rfl hl (by decide) rfl (fun ls hl => ?_)
            refine lv_iinc (v := nI (k + 1)) (lv' := [(2, .int (nI (k + 1))), (1, .int 0), (0, .ref o)]) hx hb d_M_name_43 hl (k := 2) rfl (nI_add k 1) (by decide) rfl (fun ls hl => ?_)
            refine lv_goto (tgt := 13) hx hb d_M_name_46 (by decide) ?_
            exact ih (k + 1) 0 (by omega) (Or.inr ⟨rfl, h2⟩) _ _ hP hD hS ls (lv_sub hl [2, 1, 0] rfl) (by omega)
    exact loop ((pn - 0) + 1) 0 1 (Nat.zero_le _) (Or.inl ⟨rfl, (in_1_8 hy0).mp hb9, lt_0⟩) _ _ hP hD hS ls (lv_sub hl [2, 1, 0] rfl) (Nat.lt_succ_self _)
  · have hl := hl; rw [hb9] at hl; change lv_has ls 4 [(2, .int 0), (1, .int 0), (0, .ref o)] at hl
    have loop : ∀ (n : Nat) (k : Nat) (gd : Int32), (k ≤ pn) → ((gd = 1 ∧ (1 ≤ pn ∧ pn ≤ 8) ∧ ∀ i, i < k → j_in (f1 i) 97 122 = true) ∨ (gd = 0 ∧ ¬ j_gd f1 pn)) → ∀ (H : Heap) (locs : List Loc), va_P D gC (mX T o a z0 (nI pn) (nI nn) z14 z18 z19 z20 z21 z24 z26 f1 f4 f5 f6 f7 f8 f9 f10 f11 f12 f13 f15 f16 f17 f22 f23 f25 f27) H → va_D A (mX T o a z0 (nI pn) (nI nn) z14 z18 z19 z20 z21 z24 z26 f1 f4 f5 f6 f7 f8 f9 f10 f11 f12 f13 f15 f16 f17 f22 f23 f25 f27) → va_S A s.heap H locs → ∀ (ls : Array Slot), lv_has ls 4 [(0, .ref o), (1, .int gd), (2, .int (nI k))] → pn - k < n → W p l e (headSpec (Cond.code y_M_name b_M_name 4 (some .int) :: bg_W) ({ frames := 2, cells := 0, slots := 0, locals := 42 })).room s m ([.ref o] : List Value).toArray below meth c H locs 0 0 (MQ below (va_Qi (fun (r : Int32) (u : Int32 × Int32 × Int32 × (Nat → Int32) × (Nat → Int32)) => match u with | (w0, w2, w3, g4, g5) => (¬ j_gd f1 pn ∧ r = 0 ∧ w0 = 1 ∧ w2 = nI pn ∧ w3 = nI nn ∧ g4 = f4 ∧ g5 = f5) ∨ (j_gd f1 pn ∧ (∃ i, i < nn ∧ j_mt f1 f4 ln pn 0 i ∧ r = nI i) ∧ w0 = 0 ∧ w2 = 0 ∧ w3 = nI nn ∧ g4 = f4 ∧ g5 = f5) ∨ (j_gd f1 pn ∧ (∀ i, i < nn → ¬ j_mt f1 f4 ln pn 0 i) ∧ nn = 24 ∧ r = 0 ∧ w0 = 2 ∧ w2 = nI pn ∧ w3 = nI nn ∧ g4 = f4 ∧ g5 = f5) ∨ (j_gd f1 pn ∧ (∀ i, i < nn → ¬ j_mt f1 f4 ln pn 0 i) ∧ nn < 24 ∧ r = nI nn ∧ w0 = 0 ∧ w2 = 0 ∧ w3 = nI (nn + 1) ∧ cpI f4 f1 g4 (8 * nn) pn ∧ g5 = upd f5 nn (nI pn))) (qB D T A (fun u : Int32 × Int32 × Int32 × (Nat → Int32) × (Nat → Int32) => match u with | (w0, w2, w3, g4, g5) => mX T o a w0 w2 w3 z14 z18 z19 z20 z21 z24 z26 f1 g4 g5 f6 f7 f8 f9 f10 f11 f12 f13 f15 f16 f17 f22 f23 f25 f27)) A) ([.ref o] : List Value).toArray s 0 0 A) (F0 m 13 ls []) := by
      intro n
      induction n with
      | zero => intro k gd hk hI H locs hP hD hS ls hl hm; exact absurd hm (Nat.not_lt_zero _)
      | succ n ih =>
        intro k gd hk hI H locs hP hD hS ls hl hm
        rcases hI with ⟨h1, h2, h3⟩ | ⟨h1, h2⟩
        · subst h1
          have hgood : k = pn → j_gd f1 pn := fun e9 => ⟨h2.1, h2.2, fun i hi => h3 i (by omega)⟩
          refine lv_iload_n hx hb d_M_name_13 rfl (lv_at hl 2 rfl) ?_
          refine lv_aload_n hx hb d_M_name_14 rfl (lv_at hl 0 rfl) ?_
          refine va_get (D := D) (ci := 6) (v := .int (nI pn)) (C := "TimeWordsModel") (T := F_M) (N := 28) hx hb hw in_M hown hK hP 0 rfl rfl 2 (by decide) (hw _ fl_M_93) (fun _ h9 => h9) rfl d_M_name_15 ?_
          refine lv_icmp_ge (tgt := 49) hx hb d_M_name_18 (by decide) (fun c21 => ?_) (fun c21 => ?_)
          · have c21 := nc_le (a := pn) (b := k) c21 (by omega) (by omega)
            refine lv_iload_n hx hb d_M_name_49 rfl (lv_at hl 1 rfl) ?_
            refine lv_if_ne (tgt := 59) hx hb d_M_name_50 (by decide) (fun c22 => ?_) (fun c22 => absurd c22 (by decide))
            refine lv_aload_n hx hb d_M_name_59 rfl (lv_at hl 0 rfl) ?_
            refine lv_iconst (v := 0) hx hb d_M_name_60 (by decide) ?_
            refine vp_callSi (va_Run.run (va_runV (As := [.int 0]) (rest := []) ⟨hx, hb, hml, hown, hw⟩ (k_M_nameAt l D T o a z0 pn nn z14 z18 z19 z20 z21 z24 z26 f1 f4 f5 f6 f7 f8 f9 f10 f11 f12 f13 f15 f16 f17 f22 f23 f25 f27 0 ln hy0 (Nat.zero_le _) hy1 hy2 hy3) (cwV 1 hw (bg_V ml_M_96 wi_M_nameAt wv_M_nameAt wz_M wc_M_nameAt) rfl rfl rfl (by decide +kernel) ⟨Nat.le_of_ble_eq_true rfl, Nat.le_of_ble_eq_true rfl⟩) ⟨sP_b, va_recv hK hP (ci := 6) (q0 := 0) rfl rfl, sP_p hP hK⟩ rfl rfl hl.1 rfl (lv_room (Nat.le_of_ble_eq_true rfl)) d_M_name_61 ⟨Nat.le_of_ble_eq_true rfl, Nat.le_of_ble_eq_true rfl⟩)) (fun r23 hr23 => ?_)
            rcases hr23 with hm9 | hm9
            · obtain ⟨hm1, hno⟩ := hm9
              subst hm1
              refine lv_istore_n (lv' := [(2, .int (-1)), (0, .ref o), (1, .int 1)]) hx hb d_M_name_64 rfl hl (by decide) rfl (fun ls hl => ?_)
              refine lv_iload_n hx hb d_M_name_65 rfl (lv_at hl 0 rfl) ?_
              refine lv_if_ge (tgt := 84) hx hb d_M_name_66 (by decide) (fun c24 => absurd c24 (by decide)) (fun c24 => ?_)
              refine lv_aload_n hx hb d_M_name_69 rfl (lv_at hl 1 rfl) ?_
              refine va_get (D := D) (ci := 6) (v := .int (nI nn)) (C := "TimeWordsModel") (T := F_M) (N := 28) hx hb hw in_M hown hK hP 0 rfl rfl 3 (by decide) (hw _ fl_M_76) (fun _ h9 => h9) rfl d_M_name_70 ?_
              refine lv_bipush (v := 24) hx hb d_M_name_73 (by decide) ?_
              refine lv_icmp_ne (tgt := 84) hx hb d_M_name_75 (by decide) (fun c25 => ?_) (fun c25 => ?_)
              · have c25 := nc_ne (a := nn) (b := 24) c25 (by omega) (by omega)
                have hlt : nn < 24 := by omega
                refine lv_aload_n hx hb d_M_name_84 rfl (lv_at hl 1 rfl) ?_
                refine lv_iconst (v := 0) hx hb d_M_name_85 (by decide) ?_
                refine va_put (D := D) (ci := 6) (v := .int 0) (ty := .int) (C := "TimeWordsModel") (T := F_M) (N := 28) hx hb hw in_M ty_M ty_M_ok n_M hown hK hP hD hS 0 rfl rfl 0 (by decide) (hw _ fl_M_69) (fun _ h9 => h9) rfl (by decide +kernel) rfl rfl (Nat.le_of_ble_eq_true rfl) d_M_name_86 (fun H locs hP hD hS => ?_)
                have hP : va_P D gC (mX T o a 0 (nI pn) (nI nn) z14 z18 z19 z20 z21 z24 z26 f1 f4 f5 f6 f7 f8 f9 f10 f11 f12 f13 f15 f16 f17 f22 f23 f25 f27) H := hP
                have hD : va_D A (mX T o a 0 (nI pn) (nI nn) z14 z18 z19 z20 z21 z24 z26 f1 f4 f5 f6 f7 f8 f9 f10 f11 f12 f13 f15 f16 f17 f22 f23 f25 f27) := hD
                refine lv_iload_n hx hb d_M_name_89 rfl (lv_at hl 0 rfl) ?_
                refine lv_if_ge (tgt := 151) hx hb d_M_name_90 (by decide) (fun c26 => absurd c26 (by decide)) (fun c26 => ?_)
                refine lv_aload_n hx hb d_M_name_93 rfl (lv_at hl 1 rfl) ?_
                refine va_get (D := D) (ci := 6) (v := .int (nI nn)) (C := "TimeWordsModel") (T := F_M) (N := 28) hx hb hw in_M hown hK hP 0 rfl rfl 3 (by decide) (hw _ fl_M_76) (fun _ h9 => h9) rfl d_M_name_94 ?_
                refine lv_istore_n (lv' := [(2, .int (nI nn)), (0, .ref o), (1, .int 1)]) hx hb d_M_name_97 rfl hl (by decide) rfl (fun ls hl => ?_)
                refine lv_aload_n hx hb d_M_name_98 rfl (lv_at hl 1 rfl) ?_
                refine va_get (D := D) (ci := 6) (v := .ref (a 5)) (C := "TimeWordsModel") (T := F_M) (N := 28) hx hb hw in_M hown hK hP 0 rfl rfl 5 (by decide) (hw _ fl_M_16) (fun _ h9 => h9) rfl d_M_name_99 ?_
                refine lv_iload_n hx hb d_M_name_102 rfl (lv_at hl 0 rfl) ?_
                refine lv_aload_n hx hb d_M_name_103 rfl (lv_at hl 1 rfl) ?_
                refine va_get (D := D) (ci := 6) (v := .int (nI pn)) (C := "TimeWordsModel") (T := F_M) (N := 28) hx hb hw in_M hown hK hP 0 rfl rfl 2 (by decide) (hw _ fl_M_93) (fun _ h9 => h9) rfl d_M_name_104 ?_
                refine va_iast hx hb hK hP hD hS 3 0 rfl rfl (by first | assumption | exact vp_in_nI (by omega) (by omega)) d_M_name_107 (fun H locs hP hD hS => ?_)
                rw [show (nI nn).toNatClampNeg = nn from nI_clamp (by omega)] at hP hD
                have hP : va_P D gC (mX T o a 0 (nI pn) (nI nn) z14 z18 z19 z20 z21 z24 z26 f1 f4 (upd f5 nn (nI pn)) f6 f7 f8 f9 f10 f11 f12 f13 f15 f16 f17 f22 f23 f25 f27) H := hP
                have hD : va_D A (mX T o a 0 (nI pn) (nI nn) z14 z18 z19 z20 z21 z24 z26 f1 f4 (upd f5 nn (nI pn)) f6 f7 f8 f9 f10 f11 f12 f13 f15 f16 f17 f22 f23 f25 f27) := hD
                refine lv_iconst (v := 0) hx hb d_M_name_108 (by decide) ?_
                refine lv_istore_n (lv' := [(3, .int 0), (2, .int (nI nn)), (0, .ref o), (1, .int 1)]) hx hb d_M_name_109 rfl hl (by decide) rfl (fun ls hl => ?_)
                have lopc : ∀ (nc : Nat) (k : Nat) (g4 : Nat → Int32), (k ≤ pn) → (cpI f4 f1 g4 (8 * nn) k) → ∀ (H : Heap) (locs : List Loc), va_P D gC (mX T o a 0 (nI pn) (nI nn) z14 z18 z19 z20 z21 z24 z26 f1 g4 (upd f5 nn (nI pn)) f6 f7 f8 f9 f10 f11 f12 f13 f15 f16 f17 f22 f23 f25 f27) H → va_D A (mX T o a 0 (nI pn) (nI nn) z14 z18 z19 z20 z21 z24 z26 f1 g4 (upd f5 nn (nI pn)) f6 f7 f8 f9 f10 f11 f12 f13 f15 f16 f17 f22 f23 f25 f27) → va_S A s.heap H locs → ∀ (ls : Array Slot), lv_has ls 4 [(0, .ref o), (1, .int 1), (2, .int (nI nn)), (3, .int (nI k))] → pn - k < nc → W p l e (headSpec (Cond.code y_M_name b_M_name 4 (some .int) :: bg_W) ({ frames := 2, cells := 0, slots := 0, locals := 42 })).room s m ([.ref o] : List Value).toArray below meth c H locs 0 0 (MQ below (va_Qi (fun (r : Int32) (u : Int32 × Int32 × Int32 × (Nat → Int32) × (Nat → Int32)) => match u with | (w0, w2, w3, g4, g5) => (¬ j_gd f1 pn ∧ r = 0 ∧ w0 = 1 ∧ w2 = nI pn ∧ w3 = nI nn ∧ g4 = f4 ∧ g5 = f5) ∨ (j_gd f1 pn ∧ (∃ i, i < nn ∧ j_mt f1 f4 ln pn 0 i ∧ r = nI i) ∧ w0 = 0 ∧ w2 = 0 ∧ w3 = nI nn ∧ g4 = f4 ∧ g5 = f5) ∨ (j_gd f1 pn ∧ (∀ i, i < nn → ¬ j_mt f1 f4 ln pn 0 i) ∧ nn = 24 ∧ r = 0 ∧ w0 = 2 ∧ w2 = nI pn ∧ w3 = nI nn ∧ g4 = f4 ∧ g5 = f5) ∨ (j_gd f1 pn ∧ (∀ i, i < nn → ¬ j_mt f1 f4 ln pn 0 i) ∧ nn < 24 ∧ r = nI nn ∧ w0 = 0 ∧ w2 = 0 ∧ w3 = nI (nn + 1) ∧ cpI f4 f1 g4 (8 * nn) pn ∧ g5 = upd f5 nn (nI pn))) (qB D T A (fun u : Int32 × Int32 × Int32 × (Nat → Int32) × (Nat → Int32) => match u with | (w0, w2, w3, g4, g5) => mX T o a w0 w2 w3 z14 z18 z19 z20 z21 z24 z26 f1 g4 g5 f6 f7 f8 f9 f10 f11 f12 f13 f15 f16 f17 f22 f23 f25 f27)) A) ([.ref o] : List Value).toArray s 0 0 A) (F0 m 110 ls []) := by
                  intro nc
                  induction nc with
                  | zero => intro k g4 hk hC H locs hP hD hS ls hl hm; exact absurd hm (Nat.not_lt_zero _)
                  | succ nc ihc =>
                    intro k g4 hk hC H locs hP hD hS ls hl hm
                    refine lv_iload_n hx hb d_M_name_110 rfl (lv_at hl 3 rfl) ?_
                    refine lv_aload_n hx hb d_M_name_111 rfl (lv_at hl 0 rfl) ?_
                    refine va_get (D := D) (ci := 6) (v := .int (nI pn)) (C := "TimeWordsModel") (T := F_M) (N := 28) hx hb hw in_M hown hK hP 0 rfl rfl 2 (by decide) (hw _ fl_M_93) (fun _ h9 => h9) rfl d_M_name_112 ?_
                    refine lv_icmp_ge (tgt := 141) hx hb d_M_name_115 (by decide) (fun c27 => ?_) (fun c27 => ?_)
                    · have c27 := nc_le (a := pn) (b := k) c27 (by omega) (by omega)
                      refine lv_aload_n hx hb d_M_name_141 rfl (lv_at hl 0 rfl) ?_
                      refine lv_dup hx hb d_M_name_142 rfl ?_
                      refine va_get (D := D) (ci := 6) (v := .int (nI nn)) (C := "TimeWordsModel") (T := F_M) (N := 28) hx hb hw in_M hown hK hP 0 rfl rfl 3 (by decide) (hw _ fl_M_76) (fun _ h9 => h9) rfl d_M_name_143 ?_
                      refine lv_iconst (v := 1) hx hb d_M_name_146 (by decide) ?_
                      refine lv_iadd hx hb d_M_name_147 ?_
                      rw [nI_1]
                      refine va_put (D := D) (ci := 6) (v := .int (nI (nn + 1))) (ty := .int) (C := "TimeWordsModel") (T := F_M) (N := 28) hx hb hw in_M ty_M ty_M_ok n_M hown hK hP hD hS 0 rfl rfl 3 (by decide) (hw _ fl_M_76) (fun _ h9 => h9) rfl (by decide +kernel) rfl rfl (Nat.le_of_ble_eq_true rfl) d_M_name_148 (fun H locs hP hD hS => ?_)
                      have hP : va_P D gC (mX T o a 0 (nI pn) (nI (nn + 1)) z14 z18 z19 z20 z21 z24 z26 f1 g4 (upd f5 nn (nI pn)) f6 f7 f8 f9 f10 f11 f12 f13 f15 f16 f17 f22 f23 f25 f27) H := hP
                      have hD : va_D A (mX T o a 0 (nI pn) (nI (nn + 1)) z14 z18 z19 z20 z21 z24 z26 f1 g4 (upd f5 nn (nI pn)) f6 f7 f8 f9 f10 f11 f12 f13 f15 f16 f17 f22 f23 f25 f27) := hD
                      refine lv_aload_n hx hb d_M_name_151 rfl (lv_at hl 0 rfl) ?_
                      refine lv_iconst (v := 0) hx hb d_M_name_152 (by decide) ?_
                      refine va_put (D := D) (ci := 6) (v := .int 0) (ty := .int) (C := "TimeWordsModel") (T := F_M) (N := 28) hx hb hw in_M ty_M ty_M_ok n_M hown hK hP hD hS 0 rfl rfl 2 (by decide) (hw _ fl_M_93) (fun _ h9 => h9) rfl (by decide +kernel) rfl rfl (Nat.le_of_ble_eq_true rfl) d_M_name_153 (fun H locs hP hD hS => ?_)
                      have hP : va_P D gC (mX T o a 0 0 (nI (nn + 1)) z14 z18 z19 z20 z21 z24 z26 f1 g4 (upd f5 nn (nI pn)) f6 f7 f8 f9 f10 f11 f12 f13 f15 f16 f17 f22 f23 f25 f27) H := hP
                      have hD : va_D A (mX T o a 0 0 (nI (nn + 1)) z14 z18 z19 z20 z21 z24 z26 f1 g4 (upd f5 nn (nI pn)) f6 f7 f8 f9 f10 f11 f12 f13 f15 f16 f17 f22 f23 f25 f27) := hD
                      refine lv_iload_n hx hb d_M_name_156 rfl (lv_at hl 2 rfl) ?_
                      exact W.iret (v := nI nn) hx hb hr (fun t ht hW => ⟨⟨nI nn, (0, 0, nI (nn + 1), g4, upd f5 nn (nI pn)), rfl, (Or.inr (Or.inr (Or.inr ⟨hgood (by omega), hno, hlt, rfl, rfl, rfl, rfl, by have e9 : k = pn := (by omega); rw [← e9]; rw [e9] at hC ⊢; exact hC, rfl⟩))), by rw [ht]; exact hP, va_K.moved hW.alike hK, hD⟩, hS.F ht⟩) hS.2.2 d_M_name_157
                    · have c27 := nc_nle (a := pn) (b := k) c27 (by omega) (by omega)
                      refine lv_aload_n hx hb d_M_name_118 rfl (lv_at hl 0 rfl) ?_
                      refine va_get (D := D) (ci := 6) (v := .ref (a 4)) (C := "TimeWordsModel") (T := F_M) (N := 28) hx hb hw in_M hown hK hP 0 rfl rfl 4 (by decide) (hw _ fl_M_13) (fun _ h9 => h9) rfl d_M_name_119 ?_
                      refine lv_bipush (v := 8) hx hb d_M_name_122 (by decide) ?_
                      refine lv_iload_n hx hb d_M_name_124 rfl (lv_at hl 2 rfl) ?_
                      refine lv_imul hx hb d_M_name_125 ?_
                      rw [show 8 * (nI nn) = nI (8 * nn) from pk_mul 8 nn]
                      refine lv_iload_n hx hb d_M_name_126 rfl (lv_at hl 3 rfl) ?_
                      refine lv_iadd hx hb d_M_name_127 ?_
                      rw [show (nI (8 * nn)) + (nI k) = nI (8 * nn + k) from nI_add (8 * nn) k]
                      refine lv_aload_n hx hb d_M_name_128 rfl (lv_at hl 0 rfl) ?_
                      refine va_get (D := D) (ci := 6) (v := .ref (a 1)) (C := "TimeWordsModel") (T := F_M) (N := 28) hx hb hw in_M hown hK hP 0 rfl rfl 1 (by decide) (hw _ fl_M_7) (fun _ h9 => h9) rfl d_M_name_129 ?_
                      refine lv_iload_n hx hb d_M_name_132 rfl (lv_at hl 3 rfl) ?_
                      refine va_iald hx hb hK hP 1 0 rfl rfl (by first | assumption | exact vp_in_nI (by omega) (by omega)) d_M_name_133 ?_
                      rw [show (nI k).toNatClampNeg = k from nI_clamp (by omega)]
                      refine va_iast hx hb hK hP hD hS 2 0 rfl rfl (by first | assumption | exact vp_in_nI (by omega) (by omega)) d_M_name_134 (fun H locs hP hD hS => ?_)
                      rw [show (nI (8 * nn + k)).toNatClampNeg = (8 * nn + k) from nI_clamp (by omega)] at hP hD
                      have hP : va_P D gC (mX T o a 0 (nI pn) (nI nn) z14 z18 z19 z20 z21 z24 z26 f1 (upd g4 (8 * nn + k) (f1 k)) (upd f5 nn (nI pn)) f6 f7 f8 f9 f10 f11 f12 f13 f15 f16 f17 f22 f23 f25 f27) H := hP
                      have hD : va_D A (mX T o a 0 (nI pn) (nI nn) z14 z18 z19 z20 z21 z24 z26 f1 (upd g4 (8 * nn + k) (f1 k)) (upd f5 nn (nI pn)) f6 f7 f8 f9 f10 f11 f12 f13 f15 f16 f17 f22 f23 f25 f27) := hD
                      refine lv_iinc (v := nI (k + 1)) (lv' := [(3, .int (nI (k + 1))), (0, .ref o), (1, .int 1), (2, .int (nI nn))]) hx hb d_M_name_135 hl (k := 3) rfl (nI_add k 1) (by decide) rfl (fun ls hl => ?_)
                      refine lv_goto (tgt := 110) hx hb d_M_name_138 (by decide) ?_
                      exact ihc (k + 1) (upd g4 (8 * nn + k) (f1 k)) (by omega) (cpI_s hC) _ _ hP hD hS ls (lv_sub hl [1, 2, 3, 0] rfl) (by omega)
                exact lopc ((pn - 0) + 1) 0 f4 (Nat.zero_le _) cpI_0 _ _ hP hD hS ls (lv_sub hl [2, 3, 1, 0] rfl) (Nat.lt_succ_self _)
              · have c25 := nc_eq (a := nn) (b := 24) c25 (by omega) (by omega)
                refine lv_aload_n hx hb d_M_name_78 rfl (lv_at hl 1 rfl) ?_
                refine lv_iconst (v := 2) hx hb d_M_name_79 (by decide) ?_
                refine g_calli (va_runV (As := [.int 2]) (rest := []) ⟨hx, hb, hml, hown, hw⟩ (k_M_fails l D T o a z0 (nI pn) (nI nn) z14 z18 z19 z20 z21 z24 z26 f1 f4 f5 f6 f7 f8 f9 f10 f11 f12 f13 f15 f16 f17 f22 f23 f25 f27 H.size 2) (cwV 1 hw (bg_V ml_M_89 wi_M_fails wv_M_fails wz_M wc_M_fails) rfl rfl rfl (by decide +kernel) ⟨Nat.le_of_ble_eq_true rfl, Nat.le_of_ble_eq_true rfl⟩) ⟨qP_b, va_recv hK hP (ci := 6) (q0 := 0) rfl rfl, qP_p hP hK hD⟩ rfl rfl hl.1 rfl (lv_room (Nat.le_of_ble_eq_true rfl)) d_M_name_80 ⟨Nat.le_of_ble_eq_true rfl, Nat.le_of_ble_eq_true rfl⟩) hD hS hA (fun r28 u29 H locs hr28 hP hD hS => ?_)
                obtain ⟨q0, q1⟩ := hr28
                replace q0 := q0.symm; subst q0; replace q1 := q1.symm; subst q1
                have hP : va_P D gC (mX T o a 2 (nI pn) (nI nn) z14 z18 z19 z20 z21 z24 z26 f1 f4 f5 f6 f7 f8 f9 f10 f11 f12 f13 f15 f16 f17 f22 f23 f25 f27) H := hP
                have hD : va_D A (mX T o a 2 (nI pn) (nI nn) z14 z18 z19 z20 z21 z24 z26 f1 f4 f5 f6 f7 f8 f9 f10 f11 f12 f13 f15 f16 f17 f22 f23 f25 f27) := hD
                exact W.iret (v := 0) hx hb hr (fun t ht hW => ⟨⟨0, (2, nI pn, nI nn, f4, f5), rfl, (Or.inr (Or.inr (Or.inl ⟨hgood (by omega), hno, c25, rfl, rfl, rfl, rfl, rfl, rfl⟩))), by rw [ht]; exact hP, va_K.moved hW.alike hK, hD⟩, hS.F ht⟩) hS.2.2 d_M_name_83
            · obtain ⟨i9, hi9, hm1, hyes⟩ := hm9
              subst hm1
              refine lv_istore_n (lv' := [(2, .int (nI i9)), (0, .ref o), (1, .int 1)]) hx hb d_M_name_64 rfl hl (by decide) rfl (fun ls hl => ?_)
              refine lv_iload_n hx hb d_M_name_65 rfl (lv_at hl 0 rfl) ?_
              refine lv_if_ge (tgt := 84) hx hb d_M_name_66 (by decide) (fun c30 => ?_) (fun c30 => absurd (nI_pos' (by omega)) c30)
              refine lv_aload_n hx hb d_M_name_84 rfl (lv_at hl 1 rfl) ?_
              refine lv_iconst (v := 0) hx hb d_M_name_85 (by decide) ?_
              refine va_put (D := D) (ci := 6) (v := .int 0) (ty := .int) (C := "TimeWordsModel") (T := F_M) (N := 28) hx hb hw in_M ty_M ty_M_ok n_M hown hK hP hD hS 0 rfl rfl 0 (by decide) (hw _ fl_M_69) (fun _ h9 => h9) rfl (by decide +kernel) rfl rfl (Nat.le_of_ble_eq_true rfl) d_M_name_86 (fun H locs hP hD hS => ?_)
              have hP : va_P D gC (mX T o a 0 (nI pn) (nI nn) z14 z18 z19 z20 z21 z24 z26 f1 f4 f5 f6 f7 f8 f9 f10 f11 f12 f13 f15 f16 f17 f22 f23 f25 f27) H := hP
              have hD : va_D A (mX T o a 0 (nI pn) (nI nn) z14 z18 z19 z20 z21 z24 z26 f1 f4 f5 f6 f7 f8 f9 f10 f11 f12 f13 f15 f16 f17 f22 f23 f25 f27) := hD
              refine lv_iload_n hx hb d_M_name_89 rfl (lv_at hl 0 rfl) ?_
              refine lv_if_ge (tgt := 151) hx hb d_M_name_90 (by decide) (fun c31 => ?_) (fun c31 => absurd (nI_pos' (by omega)) c31)
              refine lv_aload_n hx hb d_M_name_151 rfl (lv_at hl 1 rfl) ?_
              refine lv_iconst (v := 0) hx hb d_M_name_152 (by decide) ?_
              refine va_put (D := D) (ci := 6) (v := .int 0) (ty := .int) (C := "TimeWordsModel") (T := F_M) (N := 28) hx hb hw in_M ty_M ty_M_ok n_M hown hK hP hD hS 0 rfl rfl 2 (by decide) (hw _ fl_M_93) (fun _ h9 => h9) rfl (by decide +kernel) rfl rfl (Nat.le_of_ble_eq_true rfl) d_M_name_153 (fun H locs hP hD hS => ?_)
              have hP : va_P D gC (mX T o a 0 0 (nI nn) z14 z18 z19 z20 z21 z24 z26 f1 f4 f5 f6 f7 f8 f9 f10 f11 f12 f13 f15 f16 f17 f22 f23 f25 f27) H := hP
              have hD : va_D A (mX T o a 0 0 (nI nn) z14 z18 z19 z20 z21 z24 z26 f1 f4 f5 f6 f7 f8 f9 f10 f11 f12 f13 f15 f16 f17 f22 f23 f25 f27) := hD
              refine lv_iload_n hx hb d_M_name_156 rfl (lv_at hl 0 rfl) ?_
              exact W.iret (v := nI i9) hx hb hr (fun t ht hW => ⟨⟨nI i9, (0, 0, nI nn, f4, f5), rfl, (Or.inr (Or.inl ⟨hgood (by omega), ⟨i9, hi9, hyes, rfl⟩, rfl, rfl, rfl, rfl, rfl⟩)), by rw [ht]; exact hP, va_K.moved hW.alike hK, hD⟩, hS.F ht⟩) hS.2.2 d_M_name_157
          · have c21 := nc_nle (a := pn) (b := k) c21 (by omega) (by omega)
            refine lv_iload_n hx hb d_M_name_21 rfl (lv_at hl 1 rfl) ?_
            refine lv_if_eq (tgt := 41) hx hb d_M_name_22 (by decide) (fun c32 => absurd c32 (by decide)) (fun c32 => ?_)
            refine lv_aload_n hx hb d_M_name_25 rfl (lv_at hl 0 rfl) ?_
            refine va_get (D := D) (ci := 6) (v := .ref (a 1)) (C := "TimeWordsModel") (T := F_M) (N := 28) hx hb hw in_M hown hK hP 0 rfl rfl 1 (by decide) (hw _ fl_M_7) (fun _ h9 => h9) rfl d_M_name_26 ?_
            refine lv_iload_n hx hb d_M_name_29 rfl (lv_at hl 2 rfl) ?_
            refine va_iald hx hb hK hP 1 0 rfl rfl (by first | assumption | exact vp_in_nI (by omega) (by omega)) d_M_name_30 ?_
            rw [show (nI k).toNatClampNeg = k from nI_clamp (by omega)]
            refine vp_callSi (va_Run.run (va_runS (As := [.int (f1 k)]) (rest := []) ⟨hx, hb, hml, hown, hw⟩ (k_M_isLetter l (f1 k)) (va_cwS 1 hw (bg_S ml_M_82 wt_M_isLetter wz_M wc_M_isLetter) rfl rfl rfl (by decide +kernel) ⟨Nat.le_of_ble_eq_true rfl, Nat.le_of_ble_eq_true rfl⟩) ⟨nP_b, nP_p⟩ rfl rfl hl.1 rfl (lv_room (Nat.le_of_ble_eq_true rfl)) d_M_name_31 ⟨Nat.le_of_ble_eq_true rfl, Nat.le_of_ble_eq_true rfl⟩)) (fun r33 hr33 => ?_)
            replace hr33 := hr33.symm; subst hr33
            refine lv_if_eq (tgt := 41) hx hb d_M_name_34 (by decide) (fun c34 => ?_) (fun c34 => ?_)
            · have c34 := b2i_f c34
              refine lv_iconst (v := 0) hx hb d_M_name_41 (by decide) ?_
              refine lv_istore_n (lv' := [(1, .int 0), (0, .ref o), (2, .int (nI k))]) hx hb d_M_name_42 rfl hl (by decide) rfl (fun ls hl => ?_)
              refine lv_iinc (v := nI (k + 1)) (lv' := [(2, .int (nI (k + 1))), (1, .int 0), (0, .ref o)]) hx hb d_M_name_43 hl (k := 2) rfl (nI_add k 1) (by decide) rfl (fun ls hl => ?_)
              refine lv_goto (tgt := 13) hx hb d_M_name_46 (by decide) ?_
              exact ih (k + 1) 0 (by omega) (Or.inr ⟨rfl, fun q => by rw [q.2.2 k (by omega)] at c34; cases c34⟩) _ _ hP hD hS ls (lv_sub hl [2, 1, 0] rfl) (by omega)
            · have c34 := b2i_t c34
              refine lv_iconst (v := 1) hx hb d_M_name_37 (by decide) ?_
              refine lv_goto (tgt := 42) hx hb d_M_name_38 (by decide) ?_
              refine lv_istore_n (lv' := [(1, .int 1), (0, .ref o), (2, .int (nI k))]) hx hb d_M_name_42 rfl hl (by decide) rfl (fun ls hl => ?_)
              refine lv_iinc (v := nI (k + 1)) (lv' := [(2, .int (nI (k + 1))), (1, .int 1), (0, .ref o)]) hx hb d_M_name_43 hl (k := 2) rfl (nI_add k 1) (by decide) rfl (fun ls hl => ?_)
              refine lv_goto (tgt := 13) hx hb d_M_name_46 (by decide) ?_
              exact ih (k + 1) 1 (by omega) (Or.inl ⟨rfl, h2, lt_s h3 c34⟩) _ _ hP hD hS ls (lv_sub hl [2, 1, 0] rfl) (by omega)
        · subst h1
          refine lv_iload_n hx hb d_M_name_13 rfl (lv_at hl 2 rfl) ?_
          refine lv_aload_n hx hb d_M_name_14 rfl (lv_at hl 0 rfl) ?_
          refine va_get (D := D) (ci := 6) (v := .int (nI pn)) (C := "TimeWordsModel") (T := F_M) (N := 28) hx hb hw in_M hown hK hP 0 rfl rfl 2 (by decide) (hw _ fl_M_93) (fun _ h9 => h9) rfl d_M_name_15 ?_
          refine lv_icmp_ge (tgt := 49) hx hb d_M_name_18 (by decide) (fun c35 => ?_) (fun c35 => ?_)
          · have c35 := nc_le (a := pn) (b := k) c35 (by omega) (by omega)
            refine lv_iload_n hx hb d_M_name_49 rfl (lv_at hl 1 rfl) ?_
            refine lv_if_ne (tgt := 59) hx hb d_M_name_50 (by decide) (fun c36 => absurd c36 (by decide)) (fun c36 => ?_)
            refine lv_aload_n hx hb d_M_name_53 rfl (lv_at hl 0 rfl) ?_
            refine lv_iconst (v := 1) hx hb d_M_name_54 (by decide) ?_
            refine g_calli (va_runV (As := [.int 1]) (rest := []) ⟨hx, hb, hml, hown, hw⟩ (k_M_fails l D T o a z0 (nI pn) (nI nn) z14 z18 z19 z20 z21 z24 z26 f1 f4 f5 f6 f7 f8 f9 f10 f11 f12 f13 f15 f16 f17 f22 f23 f25 f27 H.size 1) (cwV 1 hw (bg_V ml_M_89 wi_M_fails wv_M_fails wz_M wc_M_fails) rfl rfl rfl (by decide +kernel) ⟨Nat.le_of_ble_eq_true rfl, Nat.le_of_ble_eq_true rfl⟩) ⟨qP_b, va_recv hK hP (ci := 6) (q0 := 0) rfl rfl, qP_p hP hK hD⟩ rfl rfl hl.1 rfl (lv_room (Nat.le_of_ble_eq_true rfl)) d_M_name_55 ⟨Nat.le_of_ble_eq_true rfl, Nat.le_of_ble_eq_true rfl⟩) hD hS hA (fun r37 u38 H locs hr37 hP hD hS => ?_)
            obtain ⟨q0, q1⟩ := hr37
            replace q0 := q0.symm; subst q0; replace q1 := q1.symm; subst q1
            have hP : va_P D gC (mX T o a 1 (nI pn) (nI nn) z14 z18 z19 z20 z21 z24 z26 f1 f4 f5 f6 f7 f8 f9 f10 f11 f12 f13 f15 f16 f17 f22 f23 f25 f27) H := hP
            have hD : va_D A (mX T o a 1 (nI pn) (nI nn) z14 z18 z19 z20 z21 z24 z26 f1 f4 f5 f6 f7 f8 f9 f10 f11 f12 f13 f15 f16 f17 f22 f23 f25 f27) := hD
            exact W.iret (v := 0) hx hb hr (fun t ht hW => ⟨⟨0, (1, nI pn, nI nn, f4, f5), rfl, (Or.inl ⟨h2, rfl, rfl, rfl, rfl, rfl, rfl⟩), by rw [ht]; exact hP, va_K.moved hW.alike hK, hD⟩, hS.F ht⟩) hS.2.2 d_M_name_58
          · have c35 := nc_nle (a := pn) (b := k) c35 (by omega) (by omega)
            refine lv_iload_n hx hb d_M_name_21 rfl (lv_at hl 1 rfl) ?_
            refine lv_if_eq (tgt := 41) hx hb d_M_name_22 (by decide) (fun c39 => ?_) (fun c39 => absurd c39 (by decide))
            refine lv_iconst (v := 0) hx hb d_M_name_41 (by decide) ?_
            refine lv_istore_n (lv' := [(1, .int 0), (0, .ref o), (2, .int (nI k))]) hx hb d_M_name_42 rfl hl (by decide) rfl (fun ls hl => ?_)
            refine lv_iinc (v := nI (k + 1)) (lv' := [(2, .int (nI (k + 1))), (1, .int 0), (0, .ref o)]) hx hb d_M_name_43 hl (k := 2) rfl (nI_add k 1) (by decide) rfl (fun ls hl => ?_)
            refine lv_goto (tgt := 13) hx hb d_M_name_46 (by decide) ?_
            exact ih (k + 1) 0 (by omega) (Or.inr ⟨rfl, h2⟩) _ _ hP hD hS ls (lv_sub hl [2, 1, 0] rfl) (by omega)
    exact loop ((pn - 0) + 1) 0 0 (Nat.zero_le _) (Or.inr ⟨rfl, fun q => by rw [(in_1_8 hy0).mpr ⟨q.1, q.2.1⟩] at hb9; cases hb9⟩) _ _ hP hD hS ls (lv_sub hl [2, 1, 0] rfl) (Nat.lt_succ_self _)
