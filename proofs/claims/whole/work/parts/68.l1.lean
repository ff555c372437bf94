set_option maxHeartbeats 4000000 in
set_option maxRecDepth 100000 in
theorem k_L_unit (l : Launch) (hl9 : l.stackTraces = false) (D : va_G) (T : gT) (κ : gS) (ox : Nat) (ov : Nat → Int64) (aa : Nat → Nat) (zw : Int32) (kp : Nat) (fp : Nat → Int32) (e0 e1 : Int32) (oF oT : Bool) (kt : Nat) (ft : Nat → Int32) (ks : Nat) (fs fc : Nat → Int32) (S : tS) (sz : Nat) (x : Int32) (hy0 : kp ≤ 24) : vx_Met l y_L_unit (Cond.codeWith y_L_unit b_L_unit 4 (some .int) [(0, 9, 12, 13), (0, 9, 15, 15)] :: bg_W) ({ frames := 8, cells := 1, slots := 6, locals := 131 }) (qPf κ D T ([(ox, .inl (T.2.2.1, 1, .inr (.inl ov)))] ++ (cX T aa zw kp fp e0 e1 oF oT kt ft ks fs fc S ++ tl T S)) [.ref (aa 0), .int x, .ref ox] sz) (va_Qi (fun (r : Int32) (u : (Nat → Int64) × Nat × (Nat → Int32)) => match u with | (ov1, kp1, fp1) => (j_sg x = false ∧ r = 1 ∧ kp1 = kp ∧ fp1 = fp) ∨ (j_sg x = true ∧ kp = 24 ∧ r = 2 ∧ kp1 = kp ∧ fp1 = fp) ∨ (j_sg x = true ∧ kp < 24 ∧ r = 0 ∧ (∃ v : Int32, ov1 0 = v.toInt64 ∧ v = nI (kp + 1)) ∧ kp1 = kp + 1 ∧ fp1 = upd fp kp x)) (qB D T (va_A ([(ox, .inl (T.2.2.1, 1, .inr (.inl ov)))] ++ (cX T aa zw kp fp e0 e1 oF oT kt ft ks fs fc S ++ tl T S)) sz) (fun u : (Nat → Int64) × Nat × (Nat → Int32) => match u with | (ov1, kp1, fp1) => [(ox, .inl (T.2.2.1, 1, .inr (.inl ov1)))] ++ (cX T aa zw kp1 fp1 e0 e1 oF oT kt ft ks fs fc S ++ tl T S))) (va_A ([(ox, .inl (T.2.2.1, 1, .inr (.inl ov)))] ++ (cX T aa zw kp fp e0 e1 oF oT kt ft ks fs fc S ++ tl T S)) sz)) xF 1 6 (va_A ([(ox, .inl (T.2.2.1, 1, .inr (.inl ov)))] ++ (cX T aa zw kp fp e0 e1 oF oT kt ft ks fs fc S ++ tl T S)) sz) := by
  refine vx_ofWH (cc := b_L_unit) (maxL := 4) (ret := (some .int)) (hh := [(0, 9, 12, 13), (0, 9, 15, 15)]) (by decide) rfl ?_
  intro p e s m args below meth c s₁ B hml hv
  obtain ⟨rfl, hsz, hP, hK, hD0, hF⟩ := hv
  refine vx_ret ?_
  have hx := B.exec
  have hb := B.bytes
  have hr := B.returns
  have hw : ∀ w ∈ bg_W, w.before ([.ref (aa 0), .int x, .ref ox] : List Value).toArray s = true := fun w h => atoms_spec (ws := (Cond.codeWith y_L_unit b_L_unit 4 (some .int) [(0, 9, 12, 13), (0, 9, 15, 15)] :: bg_W)) B.pre w (List.mem_cons_of_mem _ h)
  have htab := vx_table (x := y_L_unit) B (atoms_spec (ws := (Cond.codeWith y_L_unit b_L_unit 4 (some .int) [(0, 9, 12, 13), (0, 9, 15, 15)] :: bg_W)) B.pre _ List.mem_cons_self)
  have hown : s.vm.findClass "TimeWordsLaw" = some m.cls := findClass_of_methodNamed B.named
  have hlocks := B.notSynchronized
  subst hsz
  have hD := hD0.self (sz := s.heap.size)
  generalize hAe : va_A ([(ox, .inl (T.2.2.1, 1, .inr (.inl ov)))] ++ (cX T aa zw kp fp e0 e1 oF oT kt ft ks fs fc S ++ tl T S)) s.heap.size = A at hD hF ⊢
  have hA : ∀ q : Nat, s.heap.size ≤ q → A q := fun q h => by rw [← hAe]; exact Or.inr h
  have hS : va_S A s.heap s.heap [] := va_S.rf
  have hl := lv_entry ([.ref (aa 0), .int x, .ref ox]) (n := 4) (Nat.le_of_ble_eq_true rfl)
  rw [lg_entry_eq]
  generalize (lg_sl ([.ref (aa 0), .int x, .ref ox]) ++ List.replicate (4 - (lg_sl ([.ref (aa 0), .int x, .ref ox])).length) Slot.unset).toArray = ls at hl ⊢
  have hl : lv_has ls 4 [(0, .ref (aa 0)), (1, .int x), (2, .ref ox)] := hl
  rcases (show j_sg x = false ∨ (j_sg x = true ∧ kp = 24) ∨ (j_sg x = true ∧ kp < 24) from by cases hq : j_sg x; exact Or.inl rfl; exact Or.inr (by rcases Nat.lt_or_ge kp 24 with h | h; exact Or.inr ⟨rfl, h⟩; exact Or.inl ⟨rfl, by omega⟩)) with h1 | ⟨h1, h2⟩ | ⟨h1, h2⟩
  · refine lv_aload_n hx hb d_L_unit_0 rfl (lv_at hl 2 rfl) ?_
    refine lv_iconst (v := 0) hx hb d_L_unit_1 (by decide) ?_
    refine lv_aload_n hx hb d_L_unit_2 rfl (lv_at hl 0 rfl) ?_
    refine lv_iload_n hx hb d_L_unit_3 rfl (lv_at hl 1 rfl) ?_
    have hPc : va_P D gC (cX T aa zw kp fp e0 e1 oF oT kt ft ks fs fc S ++ tl T S) s.heap := hP.rt
    have hDc : va_D A (cX T aa zw kp fp e0 e1 oF oT kt ft ks fs fc S ++ tl T S) := hD.rt
    refine x_try (vx_runV (As := [.int x]) (rest := [.int 0, .ref ox]) ⟨hx, hb, hml, hown, hw⟩ (k_T_unit_x l hl9 D T κ A aa zw kp fp e0 e1 oF oT kt ft ks fs fc S s.heap.size x h1) (cwV 1 hw (bg_V ml_L_7 wi_T_unit wv_T_unit wz_T wc_T_unit) rfl rfl rfl (by decide +kernel) ⟨Nat.le_of_ble_eq_true rfl, Nat.le_of_ble_eq_true rfl⟩) ⟨xPf_b, va_recv hK hPc (ci := 5) (q0 := 0) rfl rfl, xPf_p hPc hK hF hS⟩ rfl rfl hl.1 rfl (lv_room (Nat.le_of_ble_eq_true rfl)) d_L_unit_4 ⟨Nat.le_of_ble_eq_true rfl, Nat.le_of_ble_eq_true rfl⟩) hP hS hA (fun ce q9 H locs hP hS k1 k2 k3 => ?_)
    refine vx_catch (E := "java/lang/IllegalArgumentException") (name := "java/lang/IllegalArgumentException") hown [] ⟨0, 9, 12, 13⟩ [⟨0, 9, 15, 15⟩] htab (fun _ h => absurd h List.not_mem_nil) rfl (by decide) (hw _ kl_L_13) (Nw_at (w := Cond.castable "java/lang/IllegalArgumentException" "java/lang/IllegalArgumentException") (hF.2.2.2.1 _ (by simp [sC])) rfl) k1 k2 k3 ?_
    refine lv_astore_n (lv' := [(3, .ref q9), (0, .ref (aa 0)), (1, .int x), (2, .ref ox)]) hx hb d_L_unit_12 rfl hl (by decide) rfl (fun ls hl => ?_)
    refine lv_iconst (v := 1) hx hb d_L_unit_13 (by decide) ?_
    exact W.iret (v := 1) hx hb hr (fun t ht hW => ⟨⟨1, (ov, kp, fp), rfl, Or.inl (⟨h1, rfl, rfl, rfl⟩), by rw [ht]; exact hP, va_K.moved hW.alike hK, hD⟩, hS.F ht⟩) hS.2.2 d_L_unit_14
  · refine lv_aload_n hx hb d_L_unit_0 rfl (lv_at hl 2 rfl) ?_
    refine lv_iconst (v := 0) hx hb d_L_unit_1 (by decide) ?_
    refine lv_aload_n hx hb d_L_unit_2 rfl (lv_at hl 0 rfl) ?_
    refine lv_iload_n hx hb d_L_unit_3 rfl (lv_at hl 1 rfl) ?_
    have hPc : va_P D gC (cX T aa zw kp fp e0 e1 oF oT kt ft ks fs fc S ++ tl T S) s.heap := hP.rt
    have hDc : va_D A (cX T aa zw kp fp e0 e1 oF oT kt ft ks fs fc S ++ tl T S) := hD.rt
    refine x_try (vx_runV (As := [.int x]) (rest := [.int 0, .ref ox]) ⟨hx, hb, hml, hown, hw⟩ (k_T_unit_y l hl9 D T κ A aa zw kp fp e0 e1 oF oT kt ft ks fs fc S s.heap.size x h1 h2) (cwV 1 hw (bg_V ml_L_7 wi_T_unit wv_T_unit wz_T wc_T_unit) rfl rfl rfl (by decide +kernel) ⟨Nat.le_of_ble_eq_true rfl, Nat.le_of_ble_eq_true rfl⟩) ⟨xPf_b, va_recv hK hPc (ci := 5) (q0 := 0) rfl rfl, xPf_p hPc hK hF hS⟩ rfl rfl hl.1 rfl (lv_room (Nat.le_of_ble_eq_true rfl)) d_L_unit_4 ⟨Nat.le_of_ble_eq_true rfl, Nat.le_of_ble_eq_true rfl⟩) hP hS hA (fun ce q9 H locs hP hS k1 k2 k3 => ?_)
    refine vx_catch (E := "java/lang/IllegalStateException") (name := "java/lang/IllegalStateException") hown [⟨0, 9, 12, 13⟩] ⟨0, 9, 15, 15⟩ [] htab (List.forall_mem_cons.mpr ⟨Or.inr ⟨by decide, "java/lang/IllegalArgumentException", hw _ kl_L_13, hF.2.2.1.2.2.2 ("java/lang/IllegalStateException", "java/lang/IllegalArgumentException") (by simp [sN])⟩, fun _ h => absurd h List.not_mem_nil⟩) rfl (by decide) (hw _ kl_L_15) (Nw_at (w := Cond.castable "java/lang/IllegalStateException" "java/lang/IllegalStateException") (hF.2.2.2.1 _ (by simp [sC])) rfl) k1 k2 k3 ?_
    refine lv_astore_n (lv' := [(3, .ref q9), (0, .ref (aa 0)), (1, .int x), (2, .ref ox)]) hx hb d_L_unit_15 rfl hl (by decide) rfl (fun ls hl => ?_)
    refine lv_iconst (v := 2) hx hb d_L_unit_16 (by decide) ?_
    exact W.iret (v := 2) hx hb hr (fun t ht hW => ⟨⟨2, (ov, kp, fp), rfl, Or.inr (Or.inl (⟨h1, h2, rfl, rfl, rfl⟩)), by rw [ht]; exact hP, va_K.moved hW.alike hK, hD⟩, hS.F ht⟩) hS.2.2 d_L_unit_17
  · refine lv_aload_n hx hb d_L_unit_0 rfl (lv_at hl 2 rfl) ?_
    refine lv_iconst (v := 0) hx hb d_L_unit_1 (by decide) ?_
    refine lv_aload_n hx hb d_L_unit_2 rfl (lv_at hl 0 rfl) ?_
    refine lv_iload_n hx hb d_L_unit_3 rfl (lv_at hl 1 rfl) ?_
    have hPc : va_P D gC (cX T aa zw kp fp e0 e1 oF oT kt ft ks fs fc S ++ tl T S) s.heap := hP.rt
    have hDc : va_D A (cX T aa zw kp fp e0 e1 oF oT kt ft ks fs fc S ++ tl T S) := hD.rt
    refine g_blki (B := [(ox, .inl (T.2.2.1, 1, .inr (.inl ov)))]) (C := cX T aa zw kp fp e0 e1 oF oT kt ft ks fs fc S ++ tl T S) (va_runV (As := [.int x]) (rest := [.int 0, .ref ox]) ⟨hx, hb, hml, hown, hw⟩ (k_T_unit l D T κ aa zw kp fp e0 e1 oF oT kt ft ks fs fc S s.heap.size x h1 h2) (cwV 1 hw (bg_V ml_L_7 wi_T_unit wv_T_unit wz_T wc_T_unit) rfl rfl rfl (by decide +kernel) ⟨Nat.le_of_ble_eq_true rfl, Nat.le_of_ble_eq_true rfl⟩) ⟨qPf_b, va_recv hK hPc (ci := 5) (q0 := 0) rfl rfl, qPf_p hPc hK hDc hF hS (g_free hDc hS hA)⟩ rfl rfl hl.1 rfl (lv_room (Nat.le_of_ble_eq_true rfl)) d_L_unit_4 ⟨Nat.le_of_ble_eq_true rfl, Nat.le_of_ble_eq_true rfl⟩) hP hD hS hA (fun r3 u9 H locs hr3 hP hD hS => ?_)
    obtain ⟨u4, u5⟩ := u9
    dsimp only at hr3 hP hD
    have hP : va_P D gC ([(ox, .inl (T.2.2.1, 1, .inr (.inl ov)))] ++ (cX T aa zw u4 u5 e0 e1 oF oT kt ft ks fs fc S ++ tl T S)) H := hP
    have hD : va_D A ([(ox, .inl (T.2.2.1, 1, .inr (.inl ov)))] ++ (cX T aa zw u4 u5 e0 e1 oF oT kt ft ks fs fc S ++ tl T S)) := hD
    refine lv_i2l hx hb d_L_unit_7 rfl ?_
    refine va_last hx hb hK hP hD hS 0 2 rfl rfl (vp_in_nI (n := 0) (by decide) (by decide)) d_L_unit_8 (fun H locs hP hD hS => ?_)
    rw [show (0 : Int32).toNatClampNeg = 0 from by decide] at hP hD
    have hP : va_P D gC ([(ox, .inl (T.2.2.1, 1, .inr (.inl (vp_updL ov 0 r3.toInt64))))] ++ (cX T aa zw u4 u5 e0 e1 oF oT kt ft ks fs fc S ++ tl T S)) H := hP
    have hD : va_D A ([(ox, .inl (T.2.2.1, 1, .inr (.inl (vp_updL ov 0 r3.toInt64))))] ++ (cX T aa zw u4 u5 e0 e1 oF oT kt ft ks fs fc S ++ tl T S)) := hD
    refine lv_goto (tgt := 18) hx hb d_L_unit_9 (by decide) ?_
    refine lv_iconst (v := 0) hx hb d_L_unit_18 (by decide) ?_
    refine W.widen (k := 1) (n := 6) (by omega) (by omega) ?_
    exact W.iret (v := 0) hx hb hr (fun t ht hW => ⟨⟨0, (vp_updL ov 0 r3.toInt64, u4, u5), rfl, Or.inr (Or.inr (⟨h1, h2, rfl, ⟨_, lup0, hr3.1⟩, hr3.2.1, hr3.2.2⟩)), by rw [ht]; exact hP, va_K.moved hW.alike hK, hD⟩, hS.F ht⟩) hS.2.2 d_L_unit_19

set_option maxHeartbeats 4000000 in
set_option maxRecDepth 100000 in
theorem k_L_name (l : Launch) (hl9 : l.stackTraces = false) (D : va_G) (T : gT) (κ : gS) (ox : Nat) (ov : Nat → Int64) (aa : Nat → Nat) (zw : Int32) (kp : Nat) (fp : Nat → Int32) (e0 e1 : Int32) (oF oT : Bool) (kt : Nat) (ft : Nat → Int32) (ks : Nat) (fs fc : Nat → Int32) (S : tS) (sz : Nat) (hy0 : tOk κ S) (hy1 : kp ≤ 24) : vx_Met l y_L_name (Cond.codeWith y_L_name b_L_name 3 (some .int) [(0, 8, 11, 13), (0, 8, 14, 15)] :: bg_W) ({ frames := 8, cells := 5, slots := 106, locals := 192 }) (qPf κ D T ([(ox, .inl (T.2.2.1, 1, .inr (.inl ov)))] ++ (cX T aa zw kp fp e0 e1 oF oT kt ft ks fs fc S ++ tl T S)) [.ref (aa 0), .ref ox] sz) (va_Qi (fun (r : Int32) (u : (Nat → Int64) × Nat × tS) => match u with | (ov1, kp1, S1) => (¬ j_gd fp kp ∧ r = 1 ∧ kp1 = kp ∧ S1 = S) ∨ (j_gd fp kp ∧ (∀ (i : Nat) (n : nmD), S.2.1[i]? = some n → ¬ c_mt fp kp 0 n) ∧ S.2.1.length = 24 ∧ r = 2 ∧ kp1 = kp ∧ S1 = S) ∨ (j_gd fp kp ∧ r = 0 ∧ kp1 = 0 ∧ ∃ v : Int32, ov1 0 = v.toInt64 ∧ ((∃ (i : Nat) (n : nmD), v = nI i ∧ S.2.1[i]? = some n ∧ c_mt fp kp 0 n ∧ S1 = S) ∨ ((∀ (i : Nat) (n : nmD), S.2.1[i]? = some n → ¬ c_mt fp kp 0 n) ∧ S.2.1.length < 24 ∧ v = nI S.2.1.length ∧ nmP κ S fp kp S1)))) (qB D T (va_A ([(ox, .inl (T.2.2.1, 1, .inr (.inl ov)))] ++ (cX T aa zw kp fp e0 e1 oF oT kt ft ks fs fc S ++ tl T S)) sz) (fun u : (Nat → Int64) × Nat × tS => match u with | (ov1, kp1, S1) => [(ox, .inl (T.2.2.1, 1, .inr (.inl ov1)))] ++ (cX T aa zw kp1 fp e0 e1 oF oT kt ft ks fs fc S1 ++ tl T S1))) (va_A ([(ox, .inl (T.2.2.1, 1, .inr (.inl ov)))] ++ (cX T aa zw kp fp e0 e1 oF oT kt ft ks fs fc S ++ tl T S)) sz)) xF 5 106 (va_A ([(ox, .inl (T.2.2.1, 1, .inr (.inl ov)))] ++ (cX T aa zw kp fp e0 e1 oF oT kt ft ks fs fc S ++ tl T S)) sz) := by
  refine vx_ofWH (cc := b_L_name) (maxL := 3) (ret := (some .int)) (hh := [(0, 8, 11, 13), (0, 8, 14, 15)]) (by decide) rfl ?_
  intro p e s m args below meth c s₁ B hml hv
  obtain ⟨rfl, hsz, hP, hK, hD0, hF⟩ := hv
  refine vx_ret ?_
  have hx := B.exec
  have hb := B.bytes
  have hr := B.returns
  have hw : ∀ w ∈ bg_W, w.before ([.ref (aa 0), .ref ox] : List Value).toArray s = true := fun w h => atoms_spec (ws := (Cond.codeWith y_L_name b_L_name 3 (some .int) [(0, 8, 11, 13), (0, 8, 14, 15)] :: bg_W)) B.pre w (List.mem_cons_of_mem _ h)
  have htab := vx_table (x := y_L_name) B (atoms_spec (ws := (Cond.codeWith y_L_name b_L_name 3 (some .int) [(0, 8, 11, 13), (0, 8, 14, 15)] :: bg_W)) B.pre _ List.mem_cons_self)
  have hown : s.vm.findClass "TimeWordsLaw" = some m.cls := findClass_of_methodNamed B.named
  have hlocks := B.notSynchronized
  subst hsz
  have hD := hD0.self (sz := s.heap.size)
  generalize hAe : va_A ([(ox, .inl (T.2.2.1, 1, .inr (.inl ov)))] ++ (cX T aa zw kp fp e0 e1 oF oT kt ft ks fs fc S ++ tl T S)) s.heap.size = A at hD hF ⊢
  have hA : ∀ q : Nat, s.heap.size ≤ q → A q := fun q h => by rw [← hAe]; exact Or.inr h
  have hS : va_S A s.heap s.heap [] := va_S.rf
  have hl := lv_entry ([.ref (aa 0), .ref ox]) (n := 3) (Nat.le_of_ble_eq_true rfl)
  rw [lg_entry_eq]
  generalize (lg_sl ([.ref (aa 0), .ref ox]) ++ List.replicate (3 - (lg_sl ([.ref (aa 0), .ref ox])).length) Slot.unset).toArray = ls at hl ⊢
  have hl : lv_has ls 3 [(0, .ref (aa 0)), (1, .ref ox)] := hl
  rcases (show ¬ j_gd fp kp ∨ (j_gd fp kp ∧ (∀ (i : Nat) (n : nmD), S.2.1[i]? = some n → ¬ c_mt fp kp 0 n) ∧ S.2.1.length = 24) ∨ (j_gd fp kp ∧ ((∀ (i : Nat) (n : nmD), S.2.1[i]? = some n → ¬ c_mt fp kp 0 n) → S.2.1.length < 24)) from by by_cases hg : j_gd fp kp; exact Or.inr (by by_cases hq : (∀ (i : Nat) (n : nmD), S.2.1[i]? = some n → ¬ c_mt fp kp 0 n) ∧ S.2.1.length = 24; exact Or.inl ⟨hg, hq⟩; exact Or.inr ⟨hg, fun h => by have := hy0.2.2.2.1; rcases Nat.lt_or_ge S.2.1.length 24 with h9 | h9; exact h9; exact absurd ⟨h, by omega⟩ hq⟩); exact Or.inl hg) with h1 | ⟨h1, h2, h3⟩ | ⟨h1, h2⟩
  · refine lv_aload_n hx hb d_L_name_0 rfl (lv_at hl 1 rfl) ?_
    refine lv_iconst (v := 0) hx hb d_L_name_1 (by decide) ?_
    refine lv_aload_n hx hb d_L_name_2 rfl (lv_at hl 0 rfl) ?_
    have hPc : va_P D gC (cX T aa zw kp fp e0 e1 oF oT kt ft ks fs fc S ++ tl T S) s.heap := hP.rt
    have hDc : va_D A (cX T aa zw kp fp e0 e1 oF oT kt ft ks fs fc S ++ tl T S) := hD.rt
    refine x_try (vx_runV (As := []) (rest := [.int 0, .ref ox]) ⟨hx, hb, hml, hown, hw⟩ (k_T_name_x l hl9 D T κ A aa zw kp fp e0 e1 oF oT kt ft ks fs fc S s.heap.size hy0 h1 hy1) (cwV 0 hw (bg_V ml_L_17 wi_T_name wv_T_name wz_T wc_T_name) rfl rfl rfl (by decide +kernel) ⟨Nat.le_of_ble_eq_true rfl, Nat.le_of_ble_eq_true rfl⟩) ⟨xPf_b, va_recv hK hPc (ci := 5) (q0 := 0) rfl rfl, xPf_p hPc hK hF hS⟩ rfl rfl hl.1 rfl (lv_room (Nat.le_of_ble_eq_true rfl)) d_L_name_3 ⟨Nat.le_of_ble_eq_true rfl, Nat.le_of_ble_eq_true rfl⟩) hP hS hA (fun ce q9 H locs hP hS k1 k2 k3 => ?_)
    refine vx_catch (E := "java/lang/IllegalArgumentException") (name := "java/lang/IllegalArgumentException") hown [] ⟨0, 8, 11, 13⟩ [⟨0, 8, 14, 15⟩] htab (fun _ h => absurd h List.not_mem_nil) rfl (by decide) (hw _ kl_L_13) (Nw_at (w := Cond.castable "java/lang/IllegalArgumentException" "java/lang/IllegalArgumentException") (hF.2.2.2.1 _ (by simp [sC])) rfl) k1 k2 k3 ?_
    refine lv_astore_n (lv' := [(2, .ref q9), (0, .ref (aa 0)), (1, .ref ox)]) hx hb d_L_name_11 rfl hl (by decide) rfl (fun ls hl => ?_)
    refine lv_iconst (v := 1) hx hb d_L_name_12 (by decide) ?_
    refine W.widen (k := 5) (n := 106) (by omega) (by omega) ?_
    exact W.iret (v := 1) hx hb hr (fun t ht hW => ⟨⟨1, (ov, kp, S), rfl, Or.inl (⟨h1, rfl, rfl, rfl⟩), by rw [ht]; exact hP, va_K.moved hW.alike hK, hD⟩, hS.F ht⟩) hS.2.2 d_L_name_13
  · refine lv_aload_n hx hb d_L_name_0 rfl (lv_at hl 1 rfl) ?_
    refine lv_iconst (v := 0) hx hb d_L_name_1 (by decide) ?_
    refine lv_aload_n hx hb d_L_name_2 rfl (lv_at hl 0 rfl) ?_
    have hPc : va_P D gC (cX T aa zw kp fp e0 e1 oF oT kt ft ks fs fc S ++ tl T S) s.heap := hP.rt
    have hDc : va_D A (cX T aa zw kp fp e0 e1 oF oT kt ft ks fs fc S ++ tl T S) := hD.rt
    refine x_try (vx_runV (As := []) (rest := [.int 0, .ref ox]) ⟨hx, hb, hml, hown, hw⟩ (k_T_name_y l hl9 D T κ A aa zw kp fp e0 e1 oF oT kt ft ks fs fc S s.heap.size hy0 hy1 h1 h2 h3) (cwV 0 hw (bg_V ml_L_17 wi_T_name wv_T_name wz_T wc_T_name) rfl rfl rfl (by decide +kernel) ⟨Nat.le_of_ble_eq_true rfl, Nat.le_of_ble_eq_true rfl⟩) ⟨xPf_b, va_recv hK hPc (ci := 5) (q0 := 0) rfl rfl, xPf_p hPc hK hF hS⟩ rfl rfl hl.1 rfl (lv_room (Nat.le_of_ble_eq_true rfl)) d_L_name_3 ⟨Nat.le_of_ble_eq_true rfl, Nat.le_of_ble_eq_true rfl⟩) hP hS hA (fun ce q9 H locs hP hS k1 k2 k3 => ?_)
    refine vx_catch (E := "java/lang/IllegalStateException") (name := "java/lang/IllegalStateException") hown [⟨0, 8, 11, 13⟩] ⟨0, 8, 14, 15⟩ [] htab (List.forall_mem_cons.mpr ⟨Or.inr ⟨by decide, "java/lang/IllegalArgumentException", hw _ kl_L_13, hF.2.2.1.2.2.2 ("java/lang/IllegalStateException", "java/lang/IllegalArgumentException") (by simp [sN])⟩, fun _ h => absurd h List.not_mem_nil⟩) rfl (by decide) (hw _ kl_L_15) (Nw_at (w := Cond.castable "java/lang/IllegalStateException" "java/lang/IllegalStateException") (hF.2.2.2.1 _ (by simp [sC])) rfl) k1 k2 k3 ?_
    refine lv_astore_n (lv' := [(2, .ref q9), (0, .ref (aa 0)), (1, .ref ox)]) hx hb d_L_name_14 rfl hl (by decide) rfl (fun ls hl => ?_)
    refine lv_iconst (v := 2) hx hb d_L_name_15 (by decide) ?_
    refine W.widen (k := 5) (n := 106) (by omega) (by omega) ?_
    exact W.iret (v := 2) hx hb hr (fun t ht hW => ⟨⟨2, (ov, kp, S), rfl, Or.inr (Or.inl (⟨h1, h2, h3, rfl, rfl, rfl⟩)), by rw [ht]; exact hP, va_K.moved hW.alike hK, hD⟩, hS.F ht⟩) hS.2.2 d_L_name_16
  · refine lv_aload_n hx hb d_L_name_0 rfl (lv_at hl 1 rfl) ?_
    refine lv_iconst (v := 0) hx hb d_L_name_1 (by decide) ?_
    refine lv_aload_n hx hb d_L_name_2 rfl (lv_at hl 0 rfl) ?_
    have hPc : va_P D gC (cX T aa zw kp fp e0 e1 oF oT kt ft ks fs fc S ++ tl T S) s.heap := hP.rt
    have hDc : va_D A (cX T aa zw kp fp e0 e1 oF oT kt ft ks fs fc S ++ tl T S) := hD.rt
    refine g_blki (B := [(ox, .inl (T.2.2.1, 1, .inr (.inl ov)))]) (C := cX T aa zw kp fp e0 e1 oF oT kt ft ks fs fc S ++ tl T S) (va_runV (As := []) (rest := [.int 0, .ref ox]) ⟨hx, hb, hml, hown, hw⟩ (k_T_name l D T κ aa zw kp fp e0 e1 oF oT kt ft ks fs fc S s.heap.size hy0 hy1 h1 h2) (cwV 0 hw (bg_V ml_L_17 wi_T_name wv_T_name wz_T wc_T_name) rfl rfl rfl (by decide +kernel) ⟨Nat.le_of_ble_eq_true rfl, Nat.le_of_ble_eq_true rfl⟩) ⟨qPf_b, va_recv hK hPc (ci := 5) (q0 := 0) rfl rfl, qPf_p hPc hK hDc hF hS (g_free hDc hS hA)⟩ rfl rfl hl.1 rfl (lv_room (Nat.le_of_ble_eq_true rfl)) d_L_name_3 ⟨Nat.le_of_ble_eq_true rfl, Nat.le_of_ble_eq_true rfl⟩) hP hD hS hA (fun r3 u9 H locs hr3 hP hD hS => ?_)
    obtain ⟨u4, u5⟩ := u9
    dsimp only at hr3 hP hD
    have hP : va_P D gC ([(ox, .inl (T.2.2.1, 1, .inr (.inl ov)))] ++ (cX T aa zw u4 fp e0 e1 oF oT kt ft ks fs fc u5 ++ tl T u5)) H := hP
    have hD : va_D A ([(ox, .inl (T.2.2.1, 1, .inr (.inl ov)))] ++ (cX T aa zw u4 fp e0 e1 oF oT kt ft ks fs fc u5 ++ tl T u5)) := hD
    refine lv_i2l hx hb d_L_name_6 rfl ?_
    refine va_last hx hb hK hP hD hS 0 2 rfl rfl (vp_in_nI (n := 0) (by decide) (by decide)) d_L_name_7 (fun H locs hP hD hS => ?_)
    rw [show (0 : Int32).toNatClampNeg = 0 from by decide] at hP hD
    have hP : va_P D gC ([(ox, .inl (T.2.2.1, 1, .inr (.inl (vp_updL ov 0 r3.toInt64))))] ++ (cX T aa zw u4 fp e0 e1 oF oT kt ft ks fs fc u5 ++ tl T u5)) H := hP
    have hD : va_D A ([(ox, .inl (T.2.2.1, 1, .inr (.inl (vp_updL ov 0 r3.toInt64))))] ++ (cX T aa zw u4 fp e0 e1 oF oT kt ft ks fs fc u5 ++ tl T u5)) := hD
    refine lv_goto (tgt := 17) hx hb d_L_name_8 (by decide) ?_
    refine lv_iconst (v := 0) hx hb d_L_name_17 (by decide) ?_
    exact W.iret (v := 0) hx hb hr (fun t ht hW => ⟨⟨0, (vp_updL ov 0 r3.toInt64, u4, u5), rfl, Or.inr (Or.inr (⟨h1, rfl, hr3.1, _, lup0, hr3.2.imp id (fun z => ⟨z.1, h2 z.1, z.2⟩)⟩)), by rw [ht]; exact hP, va_K.moved hW.alike hK, hD⟩, hS.F ht⟩) hS.2.2 d_L_name_18

theorem lx_n {κ : gS} {S : tS} (h : tOk κ S) (x : Int32) : j_ix x (nI S.2.1.length) = false ∨ ∃ (j : Nat) (n : nmD), x = nI j ∧ S.2.1[j]? = some n := by
  cases hq : j_ix x (nI S.2.1.length)
  · exact Or.inl rfl
  · obtain ⟨j, hj, e⟩ := ix_t hq (by have := h.2.2.2.1; omega)
    exact Or.inr ⟨j, _, e, List.getElem?_eq_getElem hj⟩
theorem lx_s {κ : gS} {S : tS} (h : tOk κ S) (x : Int32) : j_ix x (nI S.2.2.2.length) = false ∨ ∃ (j : Nat) (q : spD), x = nI j ∧ S.2.2.2[j]? = some q := by
  cases hq : j_ix x (nI S.2.2.2.length)
  · exact Or.inl rfl
  · obtain ⟨j, hj, e⟩ := ix_t hq (by have := h.2.2.2.2; omega)
    exact Or.inr ⟨j, _, e, List.getElem?_eq_getElem hj⟩
theorem bo_f {b : Bool} : b = false ∨ b = true := by cases b <;> simp
set_option maxHeartbeats 4000000 in
set_option maxRecDepth 100000 in
theorem k_L_reign (l : Launch) (hl9 : l.stackTraces = false) (D : va_G) (T : gT) (κ : gS) (ox : Nat) (ov : Nat → Int64) (aa : Nat → Nat) (zw : Int32) (kp : Nat) (fp : Nat → Int32) (e0 e1 : Int32) (oF oT : Bool) (kt : Nat) (ft : Nat → Int32) (ks : Nat) (fs fc : Nat → Int32) (S : tS) (sz : Nat) (xn x y : Int32) (hy0 : tOk κ S) : vx_Met l y_L_reign (Cond.codeWith y_L_reign b_L_reign 6 (some .int) [(0, 19, 22, 25), (0, 19, 26, 13)] :: bg_W) ({ frames := 9, cells := 1, slots := 6, locals := 156 }) (qPf κ D T ([(ox, .inl (T.2.2.1, 1, .inr (.inl ov)))] ++ (cX T aa zw kp fp e0 e1 oF oT kt ft ks fs fc S ++ tl T S)) [.ref (aa 0), .int xn, .int x, .int y, .ref ox] sz) (va_Qi (fun (r : Int32) (u : (Nat → Int64) × tS) => match u with | (ov1, S1) => (j_ix xn (nI S.2.1.length) = false ∧ r = 1 ∧ S1 = S) ∨ (∃ (j : Nat) (n : nmD), xn = nI j ∧ S.2.1[j]? = some n ∧ ((j_yy x y = false ∧ r = 2 ∧ S1 = S) ∨ (j_yy x y = true ∧ r = 0 ∧ ∃ v : Int32, ov1 0 = (if v = 0 then 0 else 1) ∧ v = b2i (decide (nG n = none)) ∧ rgP κ S j n x y S1)))) (qB D T (va_A ([(ox, .inl (T.2.2.1, 1, .inr (.inl ov)))] ++ (cX T aa zw kp fp e0 e1 oF oT kt ft ks fs fc S ++ tl T S)) sz) (fun u : (Nat → Int64) × tS => match u with | (ov1, S1) => [(ox, .inl (T.2.2.1, 1, .inr (.inl ov1)))] ++ (cX T aa zw kp fp e0 e1 oF oT kt ft ks fs fc S1 ++ tl T S1))) (va_A ([(ox, .inl (T.2.2.1, 1, .inr (.inl ov)))] ++ (cX T aa zw kp fp e0 e1 oF oT kt ft ks fs fc S ++ tl T S)) sz)) xF 1 6 (va_A ([(ox, .inl (T.2.2.1, 1, .inr (.inl ov)))] ++ (cX T aa zw kp fp e0 e1 oF oT kt ft ks fs fc S ++ tl T S)) sz) := by
  refine vx_ofWH (cc := b_L_reign) (maxL := 6) (ret := (some .int)) (hh := [(0, 19, 22, 25), (0, 19, 26, 13)]) (by decide) rfl ?_
  intro p e s m args below meth c s₁ B hml hv
  obtain ⟨rfl, hsz, hP, hK, hD0, hF⟩ := hv
  refine vx_ret ?_
  have hx := B.exec
  have hb := B.bytes
  have hr := B.returns
  have hw : ∀ w ∈ bg_W, w.before ([.ref (aa 0), .int xn, .int x, .int y, .ref ox] : List Value).toArray s = true := fun w h => atoms_spec (ws := (Cond.codeWith y_L_reign b_L_reign 6 (some .int) [(0, 19, 22, 25), (0, 19, 26, 13)] :: bg_W)) B.pre w (List.mem_cons_of_mem _ h)
  have htab := vx_table (x := y_L_reign) B (atoms_spec (ws := (Cond.codeWith y_L_reign b_L_reign 6 (some .int) [(0, 19, 22, 25), (0, 19, 26, 13)] :: bg_W)) B.pre _ List.mem_cons_self)
  have hown : s.vm.findClass "TimeWordsLaw" = some m.cls := findClass_of_methodNamed B.named
  have hlocks := B.notSynchronized
  subst hsz
  have hD := hD0.self (sz := s.heap.size)
  generalize hAe : va_A ([(ox, .inl (T.2.2.1, 1, .inr (.inl ov)))] ++ (cX T aa zw kp fp e0 e1 oF oT kt ft ks fs fc S ++ tl T S)) s.heap.size = A at hD hF ⊢
  have hA : ∀ q : Nat, s.heap.size ≤ q → A q := fun q h => by rw [← hAe]; exact Or.inr h
  have hS : va_S A s.heap s.heap [] := va_S.rf
  have hl := lv_entry ([.ref (aa 0), .int xn, .int x, .int y, .ref ox]) (n := 6) (Nat.le_of_ble_eq_true rfl)
  rw [lg_entry_eq]
  generalize (lg_sl ([.ref (aa 0), .int xn, .int x, .int y, .ref ox]) ++ List.replicate (6 - (lg_sl ([.ref (aa 0), .int xn, .int x, .int y, .ref ox])).length) Slot.unset).toArray = ls at hl ⊢
  have hl : lv_has ls 6 [(0, .ref (aa 0)), (1, .int xn), (2, .int x), (3, .int y), (4, .ref ox)] := hl
  rcases lx_n hy0 xn with h0 | ⟨j, n, rfl, hj⟩
  · refine lv_aload hx hb d_L_reign_0 (lv_at hl 4 rfl) ?_
    refine lv_iconst (v := 0) hx hb d_L_reign_2 (by decide) ?_
    refine lv_aload_n hx hb d_L_reign_3 rfl (lv_at hl 0 rfl) ?_
    refine lv_iload_n hx hb d_L_reign_4 rfl (lv_at hl 1 rfl) ?_
    refine lv_iload_n hx hb d_L_reign_5 rfl (lv_at hl 2 rfl) ?_
    refine lv_iload_n hx hb d_L_reign_6 rfl (lv_at hl 3 rfl) ?_
    have hPc : va_P D gC (cX T aa zw kp fp e0 e1 oF oT kt ft ks fs fc S ++ tl T S) s.heap := hP.rt
    have hDc : va_D A (cX T aa zw kp fp e0 e1 oF oT kt ft ks fs fc S ++ tl T S) := hD.rt
    refine x_try (vx_runV (As := [.int xn, .int x, .int y]) (rest := [.int 0, .ref ox]) ⟨hx, hb, hml, hown, hw⟩ (k_T_reign_x l hl9 D T κ A aa zw kp fp e0 e1 oF oT kt ft ks fs fc S s.heap.size xn x y h0) (cwV 3 hw (bg_V ml_L_21 wi_T_reign wv_T_reign wz_T wc_T_reign) rfl rfl rfl (by decide +kernel) ⟨Nat.le_of_ble_eq_true rfl, Nat.le_of_ble_eq_true rfl⟩) ⟨xPf_b, va_recv hK hPc (ci := 5) (q0 := 0) rfl rfl, xPf_p hPc hK hF hS⟩ rfl rfl hl.1 rfl (lv_room (Nat.le_of_ble_eq_true rfl)) d_L_reign_7 ⟨Nat.le_of_ble_eq_true rfl, Nat.le_of_ble_eq_true rfl⟩) hP hS hA (fun ce q9 H locs hP hS k1 k2 k3 => ?_)
    refine vx_catch (E := "java/lang/IndexOutOfBoundsException") (name := "java/lang/IndexOutOfBoundsException") hown [] ⟨0, 19, 22, 25⟩ [⟨0, 19, 26, 13⟩] htab (fun _ h => absurd h List.not_mem_nil) rfl (by decide) (hw _ kl_L_25) (Nw_at (w := Cond.castable "java/lang/IndexOutOfBoundsException" "java/lang/IndexOutOfBoundsException") (hF.2.2.2.1 _ (by simp [sC])) rfl) k1 k2 k3 ?_
    refine lv_astore (lv' := [(5, .ref q9), (0, .ref (aa 0)), (1, .int xn), (2, .int x), (3, .int y), (4, .ref ox)]) hx hb d_L_reign_22 hl (by decide) rfl (fun ls hl => ?_)
    refine lv_iconst (v := 1) hx hb d_L_reign_24 (by decide) ?_
    exact W.iret (v := 1) hx hb hr (fun t ht hW => ⟨⟨1, (ov, S), rfl, Or.inl (⟨h0, rfl, rfl⟩), by rw [ht]; exact hP, va_K.moved hW.alike hK, hD⟩, hS.F ht⟩) hS.2.2 d_L_reign_25
  · rcases bo_f (b := j_yy x y) with h1 | h1
    · refine lv_aload hx hb d_L_reign_0 (lv_at hl 4 rfl) ?_
      refine lv_iconst (v := 0) hx hb d_L_reign_2 (by decide) ?_
      refine lv_aload_n hx hb d_L_reign_3 rfl (lv_at hl 0 rfl) ?_
      refine lv_iload_n hx hb d_L_reign_4 rfl (lv_at hl 1 rfl) ?_
      refine lv_iload_n hx hb d_L_reign_5 rfl (lv_at hl 2 rfl) ?_
      refine lv_iload_n hx hb d_L_reign_6 rfl (lv_at hl 3 rfl) ?_
      have hPc : va_P D gC (cX T aa zw kp fp e0 e1 oF oT kt ft ks fs fc S ++ tl T S) s.heap := hP.rt
      have hDc : va_D A (cX T aa zw kp fp e0 e1 oF oT kt ft ks fs fc S ++ tl T S) := hD.rt
      refine x_try (vx_runV (As := [.int (nI j), .int x, .int y]) (rest := [.int 0, .ref ox]) ⟨hx, hb, hml, hown, hw⟩ (k_T_reign_y l hl9 D T κ A aa zw kp fp e0 e1 oF oT kt ft ks fs fc S s.heap.size j n x y hy0 hj h1) (cwV 3 hw (bg_V ml_L_21 wi_T_reign wv_T_reign wz_T wc_T_reign) rfl rfl rfl (by decide +kernel) ⟨Nat.le_of_ble_eq_true rfl, Nat.le_of_ble_eq_true rfl⟩) ⟨xPf_b, va_recv hK hPc (ci := 5) (q0 := 0) rfl rfl, xPf_p hPc hK hF hS⟩ rfl rfl hl.1 rfl (lv_room (Nat.le_of_ble_eq_true rfl)) d_L_reign_7 ⟨Nat.le_of_ble_eq_true rfl, Nat.le_of_ble_eq_true rfl⟩) hP hS hA (fun ce q9 H locs hP hS k1 k2 k3 => ?_)
      refine vx_catch (E := "java/lang/IllegalArgumentException") (name := "java/lang/IllegalArgumentException") hown [⟨0, 19, 22, 25⟩] ⟨0, 19, 26, 13⟩ [] htab (List.forall_mem_cons.mpr ⟨Or.inr ⟨by decide, "java/lang/IndexOutOfBoundsException", hw _ kl_L_25, hF.2.2.1.2.2.2 ("java/lang/IllegalArgumentException", "java/lang/IndexOutOfBoundsException") (by simp [sN])⟩, fun _ h => absurd h List.not_mem_nil⟩) rfl (by decide) (hw _ kl_L_13) (Nw_at (w := Cond.castable "java/lang/IllegalArgumentException" "java/lang/IllegalArgumentException") (hF.2.2.2.1 _ (by simp [sC])) rfl) k1 k2 k3 ?_
      refine lv_astore (lv' := [(5, .ref q9), (0, .ref (aa 0)), (1, .int (nI j)), (2, .int x), (3, .int y), (4, .ref ox)]) hx hb d_L_reign_26 hl (by decide) rfl (fun ls hl => ?_)
      refine lv_iconst (v := 2) hx hb d_L_reign_28 (by decide) ?_
      exact W.iret (v := 2) hx hb hr (fun t ht hW => ⟨⟨2, (ov, S), rfl, Or.inr (⟨j, n, rfl, hj, Or.inl ⟨h1, rfl, rfl⟩⟩), by rw [ht]; exact hP, va_K.moved hW.alike hK, hD⟩, hS.F ht⟩) hS.2.2 d_L_reign_29
    · refine lv_aload hx hb d_L_reign_0 (lv_at hl 4 rfl) ?_
      refine lv_iconst (v := 0) hx hb d_L_reign_2 (by decide) ?_
      refine lv_aload_n hx hb d_L_reign_3 rfl (lv_at hl 0 rfl) ?_
      refine lv_iload_n hx hb d_L_reign_4 rfl (lv_at hl 1 rfl) ?_
      refine lv_iload_n hx hb d_L_reign_5 rfl (lv_at hl 2 rfl) ?_
      refine lv_iload_n hx hb d_L_reign_6 rfl (lv_at hl 3 rfl) ?_
      have hPc : va_P D gC (cX T aa zw kp fp e0 e1 oF oT kt ft ks fs fc S ++ tl T S) s.heap := hP.rt
      have hDc : va_D A (cX T aa zw kp fp e0 e1 oF oT kt ft ks fs fc S ++ tl T S) := hD.rt
      refine g_blki (B := [(ox, .inl (T.2.2.1, 1, .inr (.inl ov)))]) (C := cX T aa zw kp fp e0 e1 oF oT kt ft ks fs fc S ++ tl T S) (va_runV (As := [.int (nI j), .int x, .int y]) (rest := [.int 0, .ref ox]) ⟨hx, hb, hml, hown, hw⟩ (k_T_reign l D T κ aa zw kp fp e0 e1 oF oT kt ft ks fs fc S s.heap.size j n x y hy0 hj h1) (cwV 3 hw (bg_V ml_L_21 wi_T_reign wv_T_reign wz_T wc_T_reign) rfl rfl rfl (by decide +kernel) ⟨Nat.le_of_ble_eq_true rfl, Nat.le_of_ble_eq_true rfl⟩) ⟨qPf_b, va_recv hK hPc (ci := 5) (q0 := 0) rfl rfl, qPf_p hPc hK hDc hF hS (g_free hDc hS hA)⟩ rfl rfl hl.1 rfl (lv_room (Nat.le_of_ble_eq_true rfl)) d_L_reign_7 ⟨Nat.le_of_ble_eq_true rfl, Nat.le_of_ble_eq_true rfl⟩) hP hD hS hA (fun r3 u4 H locs hr3 hP hD hS => ?_)
      have hP : va_P D gC ([(ox, .inl (T.2.2.1, 1, .inr (.inl ov)))] ++ (cX T aa zw kp fp e0 e1 oF oT kt ft ks fs fc u4 ++ tl T u4)) H := hP
      have hD : va_D A ([(ox, .inl (T.2.2.1, 1, .inr (.inl ov)))] ++ (cX T aa zw kp fp e0 e1 oF oT kt ft ks fs fc u4 ++ tl T u4)) := hD
      refine lv_if_eq (tgt := 17) hx hb d_L_reign_10 (by decide) (fun c5 => ?_) (fun c5 => ?_)
      · refine lv_lconst (v := 0) hx hb d_L_reign_17 (by decide) ?_
        refine va_last hx hb hK hP hD hS 0 2 rfl rfl (vp_in_nI (n := 0) (by decide) (by decide)) d_L_reign_18 (fun H locs hP hD hS => ?_)
        rw [show (0 : Int32).toNatClampNeg = 0 from by decide] at hP hD
        have hP : va_P D gC ([(ox, .inl (T.2.2.1, 1, .inr (.inl (vp_updL ov 0 0))))] ++ (cX T aa zw kp fp e0 e1 oF oT kt ft ks fs fc u4 ++ tl T u4)) H := hP
        have hD : va_D A ([(ox, .inl (T.2.2.1, 1, .inr (.inl (vp_updL ov 0 0))))] ++ (cX T aa zw kp fp e0 e1 oF oT kt ft ks fs fc u4 ++ tl T u4)) := hD
        refine lv_goto (tgt := 30) hx hb d_L_reign_19 (by decide) ?_
        refine lv_iconst (v := 0) hx hb d_L_reign_30 (by decide) ?_
        refine W.widen (k := 1) (n := 6) (by omega) (by omega) ?_
        exact W.iret (v := 0) hx hb hr (fun t ht hW => ⟨⟨0, (vp_updL ov 0 0, u4), rfl, Or.inr (⟨j, n, rfl, hj, Or.inr ⟨h1, rfl, _, lup0.trans (if_pos c5).symm, hr3.1, hr3.2⟩⟩), by rw [ht]; exact hP, va_K.moved hW.alike hK, hD⟩, hS.F ht⟩) hS.2.2 d_L_reign_31
      · refine lv_lconst (v := 1) hx hb d_L_reign_13 (by decide) ?_
        refine lv_goto (tgt := 18) hx hb d_L_reign_14 (by decide) ?_
        refine va_last hx hb hK hP hD hS 0 2 rfl rfl (vp_in_nI (n := 0) (by decide) (by decide)) d_L_reign_18 (fun H locs hP hD hS => ?_)
        rw [show (0 : Int32).toNatClampNeg = 0 from by decide] at hP hD
        have hP : va_P D gC ([(ox, .inl (T.2.2.1, 1, .inr (.inl (vp_updL ov 0 1))))] ++ (cX T aa zw kp fp e0 e1 oF oT kt ft ks fs fc u4 ++ tl T u4)) H := hP
        have hD : va_D A ([(ox, .inl (T.2.2.1, 1, .inr (.inl (vp_updL ov 0 1))))] ++ (cX T aa zw kp fp e0 e1 oF oT kt ft ks fs fc u4 ++ tl T u4)) := hD
        refine lv_goto (tgt := 30) hx hb d_L_reign_19 (by decide) ?_
        refine lv_iconst (v := 0) hx hb d_L_reign_30 (by decide) ?_
        refine W.widen (k := 1) (n := 6) (by omega) (by omega) ?_
        exact W.iret (v := 0) hx hb hr (fun t ht hW => ⟨⟨0, (vp_updL ov 0 1, u4), rfl, Or.inr (⟨j, n, rfl, hj, Or.inr ⟨h1, rfl, _, lup0.trans (if_neg c5).symm, hr3.1, hr3.2⟩⟩), by rw [ht]; exact hP, va_K.moved hW.alike hK, hD⟩, hS.F ht⟩) hS.2.2 d_L_reign_31

set_option maxHeartbeats 4000000 in
set_option maxRecDepth 100000 in
theorem k_L_phase (l : Launch) (hl9 : l.stackTraces = false) (D : va_G) (T : gT) (κ : gS) (ox : Nat) (ov : Nat → Int64) (aa : Nat → Nat) (zw : Int32) (kp : Nat) (fp : Nat → Int32) (e0 e1 : Int32) (oF oT : Bool) (kt : Nat) (ft : Nat → Int32) (ks : Nat) (fs fc : Nat → Int32) (S : tS) (sz : Nat) (xn pz x y dy : Int32) (hy0 : tOk κ S) : vx_Met l y_L_phase (Cond.codeWith y_L_phase b_L_phase 8 (some .int) [(0, 16, 19, 25), (0, 16, 23, 13), (0, 16, 27, 15)] :: bg_W) ({ frames := 9, cells := 3, slots := 97, locals := 197 }) (qPf κ D T ([(ox, .inl (T.2.2.1, 1, .inr (.inl ov)))] ++ (cX T aa zw kp fp e0 e1 oF oT kt ft ks fs fc S ++ tl T S)) [.ref (aa 0), .int xn, .int pz, .int x, .int y, .int dy, .ref ox] sz) (va_Qi (fun (r : Int32) (u : (Nat → Int64) × tS) => match u with | (ov1, S1) => (j_ix xn (nI S.2.1.length) = false ∧ r = 1 ∧ S1 = S) ∨ (∃ (j : Nat) (n : nmD), xn = nI j ∧ S.2.1[j]? = some n ∧ ((j_in pz 0 7 = false ∧ r = 1 ∧ S1 = S) ∨ (j_in pz 0 7 = true ∧ j_yy x y = false ∧ r = 2 ∧ S1 = S) ∨ (j_in pz 0 7 = true ∧ j_yy x y = true ∧ j_in dy 0 100000 = false ∧ r = 2 ∧ S1 = S) ∨ (j_in pz 0 7 = true ∧ j_yy x y = true ∧ j_in dy 0 100000 = true ∧ (nH n).length = 6 ∧ r = 3 ∧ S1 = S) ∨ (j_in pz 0 7 = true ∧ j_yy x y = true ∧ j_in dy 0 100000 = true ∧ (nH n).length < 6 ∧ r = 0 ∧ ∃ v : Int32, ov1 0 = v.toInt64 ∧ v = nI ((nH n).length + 1) ∧ phP κ S j n pz dy x y S1)))) (qB D T (va_A ([(ox, .inl (T.2.2.1, 1, .inr (.inl ov)))] ++ (cX T aa zw kp fp e0 e1 oF oT kt ft ks fs fc S ++ tl T S)) sz) (fun u : (Nat → Int64) × tS => match u with | (ov1, S1) => [(ox, .inl (T.2.2.1, 1, .inr (.inl ov1)))] ++ (cX T aa zw kp fp e0 e1 oF oT kt ft ks fs fc S1 ++ tl T S1))) (va_A ([(ox, .inl (T.2.2.1, 1, .inr (.inl ov)))] ++ (cX T aa zw kp fp e0 e1 oF oT kt ft ks fs fc S ++ tl T S)) sz)) xF 3 97 (va_A ([(ox, .inl (T.2.2.1, 1, .inr (.inl ov)))] ++ (cX T aa zw kp fp e0 e1 oF oT kt ft ks fs fc S ++ tl T S)) sz) := by
  refine vx_ofWH (cc := b_L_phase) (maxL := 8) (ret := (some .int)) (hh := [(0, 16, 19, 25), (0, 16, 23, 13), (0, 16, 27, 15)]) (by decide) rfl ?_
  intro p e s m args below meth c s₁ B hml hv
  obtain ⟨rfl, hsz, hP, hK, hD0, hF⟩ := hv
  refine vx_ret ?_
  have hx := B.exec
  have hb := B.bytes
  have hr := B.returns
  have hw : ∀ w ∈ bg_W, w.before ([.ref (aa 0), .int xn, .int pz, .int x, .int y, .int dy, .ref ox] : List Value).toArray s = true := fun w h => atoms_spec (ws := (Cond.codeWith y_L_phase b_L_phase 8 (some .int) [(0, 16, 19, 25), (0, 16, 23, 13), (0, 16, 27, 15)] :: bg_W)) B.pre w (List.mem_cons_of_mem _ h)
  have htab := vx_table (x := y_L_phase) B (atoms_spec (ws := (Cond.codeWith y_L_phase b_L_phase 8 (some .int) [(0, 16, 19, 25), (0, 16, 23, 13), (0, 16, 27, 15)] :: bg_W)) B.pre _ List.mem_cons_self)
  have hown : s.vm.findClass "TimeWordsLaw" = some m.cls := findClass_of_methodNamed B.named
  have hlocks := B.notSynchronized
  subst hsz
  have hD := hD0.self (sz := s.heap.size)
  generalize hAe : va_A ([(ox, .inl (T.2.2.1, 1, .inr (.inl ov)))] ++ (cX T aa zw kp fp e0 e1 oF oT kt ft ks fs fc S ++ tl T S)) s.heap.size = A at hD hF ⊢
  have hA : ∀ q : Nat, s.heap.size ≤ q → A q := fun q h => by rw [← hAe]; exact Or.inr h
  have hS : va_S A s.heap s.heap [] := va_S.rf
  have hl := lv_entry ([.ref (aa 0), .int xn, .int pz, .int x, .int y, .int dy, .ref ox]) (n := 8) (Nat.le_of_ble_eq_true rfl)
  rw [lg_entry_eq]
  generalize (lg_sl ([.ref (aa 0), .int xn, .int pz, .int x, .int y, .int dy, .ref ox]) ++ List.replicate (8 - (lg_sl ([.ref (aa 0), .int xn, .int pz, .int x, .int y, .int dy, .ref ox])).length) Slot.unset).toArray = ls at hl ⊢
  have hl : lv_has ls 8 [(0, .ref (aa 0)), (1, .int xn), (2, .int pz), (3, .int x), (4, .int y), (5, .int dy), (6, .ref ox)] := hl
  rcases lx_n hy0 xn with h0 | ⟨j, n, rfl, hj⟩
  · refine lv_aload hx hb d_L_phase_0 (lv_at hl 6 rfl) ?_
    refine lv_iconst (v := 0) hx hb d_L_phase_2 (by decide) ?_
    refine lv_aload_n hx hb d_L_phase_3 rfl (lv_at hl 0 rfl) ?_
    refine lv_iload_n hx hb d_L_phase_4 rfl (lv_at hl 1 rfl) ?_
    refine lv_iload_n hx hb d_L_phase_5 rfl (lv_at hl 2 rfl) ?_
    refine lv_iload_n hx hb d_L_phase_6 rfl (lv_at hl 3 rfl) ?_
    refine lv_iload hx hb d_L_phase_7 (lv_at hl 4 rfl) ?_
    refine lv_iload hx hb d_L_phase_9 (lv_at hl 5 rfl) ?_
    have hPc : va_P D gC (cX T aa zw kp fp e0 e1 oF oT kt ft ks fs fc S ++ tl T S) s.heap := hP.rt
    have hDc : va_D A (cX T aa zw kp fp e0 e1 oF oT kt ft ks fs fc S ++ tl T S) := hD.rt
    refine x_try (vx_runV (As := [.int xn, .int pz, .int x, .int y, .int dy]) (rest := [.int 0, .ref ox]) ⟨hx, hb, hml, hown, hw⟩ (k_T_phase_x l hl9 D T κ A aa zw kp fp e0 e1 oF oT kt ft ks fs fc S s.heap.size xn pz x y dy h0) (cwV 5 hw (bg_V ml_L_27 wi_T_phase wv_T_phase wz_T wc_T_phase) rfl rfl rfl (by decide +kernel) ⟨Nat.le_of_ble_eq_true rfl, Nat.le_of_ble_eq_true rfl⟩) ⟨xPf_b, va_recv hK hPc (ci := 5) (q0 := 0) rfl rfl, xPf_p hPc hK hF hS⟩ rfl rfl hl.1 rfl (lv_room (Nat.le_of_ble_eq_true rfl)) d_L_phase_11 ⟨Nat.le_of_ble_eq_true rfl, Nat.le_of_ble_eq_true rfl⟩) hP hS hA (fun ce q9 H locs hP hS k1 k2 k3 => ?_)
    refine vx_catch (E := "java/lang/IndexOutOfBoundsException") (name := "java/lang/IndexOutOfBoundsException") hown [] ⟨0, 16, 19, 25⟩ [⟨0, 16, 23, 13⟩, ⟨0, 16, 27, 15⟩] htab (fun _ h => absurd h List.not_mem_nil) rfl (by decide) (hw _ kl_L_25) (Nw_at (w := Cond.castable "java/lang/IndexOutOfBoundsException" "java/lang/IndexOutOfBoundsException") (hF.2.2.2.1 _ (by simp [sC])) rfl) k1 k2 k3 ?_
    refine lv_astore (lv' := [(7, .ref q9), (0, .ref (aa 0)), (1, .int xn), (2, .int pz), (3, .int x), (4, .int y), (5, .int dy), (6, .ref ox)]) hx hb d_L_phase_19 hl (by decide) rfl (fun ls hl => ?_)
    refine lv_iconst (v := 1) hx hb d_L_phase_21 (by decide) ?_
    refine W.widen (k := 3) (n := 97) (by omega) (by omega) ?_
    exact W.iret (v := 1) hx hb hr (fun t ht hW => ⟨⟨1, (ov, S), rfl, Or.inl (⟨h0, rfl, rfl⟩), by rw [ht]; exact hP, va_K.moved hW.alike hK, hD⟩, hS.F ht⟩) hS.2.2 d_L_phase_22
  · rcases bo_f (b := j_in pz 0 7) with h1 | h1
    · refine lv_aload hx hb d_L_phase_0 (lv_at hl 6 rfl) ?_
      refine lv_iconst (v := 0) hx hb d_L_phase_2 (by decide) ?_
      refine lv_aload_n hx hb d_L_phase_3 rfl (lv_at hl 0 rfl) ?_
      refine lv_iload_n hx hb d_L_phase_4 rfl (lv_at hl 1 rfl) ?_
      refine lv_iload_n hx hb d_L_phase_5 rfl (lv_at hl 2 rfl) ?_
      refine lv_iload_n hx hb d_L_phase_6 rfl (lv_at hl 3 rfl) ?_
      refine lv_iload hx hb d_L_phase_7 (lv_at hl 4 rfl) ?_
      refine lv_iload hx hb d_L_phase_9 (lv_at hl 5 rfl) ?_
      have hPc : va_P D gC (cX T aa zw kp fp e0 e1 oF oT kt ft ks fs fc S ++ tl T S) s.heap := hP.rt
      have hDc : va_D A (cX T aa zw kp fp e0 e1 oF oT kt ft ks fs fc S ++ tl T S) := hD.rt
      refine x_try (vx_runV (As := [.int (nI j), .int pz, .int x, .int y, .int dy]) (rest := [.int 0, .ref ox]) ⟨hx, hb, hml, hown, hw⟩ (k_T_phase_y l hl9 D T κ A aa zw kp fp e0 e1 oF oT kt ft ks fs fc S s.heap.size j n pz x y dy hy0 hj h1) (cwV 5 hw (bg_V ml_L_27 wi_T_phase wv_T_phase wz_T wc_T_phase) rfl rfl rfl (by decide +kernel) ⟨Nat.le_of_ble_eq_true rfl, Nat.le_of_ble_eq_true rfl⟩) ⟨xPf_b, va_recv hK hPc (ci := 5) (q0 := 0) rfl rfl, xPf_p hPc hK hF hS⟩ rfl rfl hl.1 rfl (lv_room (Nat.le_of_ble_eq_true rfl)) d_L_phase_11 ⟨Nat.le_of_ble_eq_true rfl, Nat.le_of_ble_eq_true rfl⟩) hP hS hA (fun ce q9 H locs hP hS k1 k2 k3 => ?_)
      refine vx_catch (E := "java/lang/IndexOutOfBoundsException") (name := "java/lang/IndexOutOfBoundsException") hown [] ⟨0, 16, 19, 25⟩ [⟨0, 16, 23, 13⟩, ⟨0, 16, 27, 15⟩] htab (fun _ h => absurd h List.not_mem_nil) rfl (by decide) (hw _ kl_L_25) (Nw_at (w := Cond.castable "java/lang/IndexOutOfBoundsException" "java/lang/IndexOutOfBoundsException") (hF.2.2.2.1 _ (by simp [sC])) rfl) k1 k2 k3 ?_
      refine lv_astore (lv' := [(7, .ref q9), (0, .ref (aa 0)), (1, .int (nI j)), (2, .int pz), (3, .int x), (4, .int y), (5, .int dy), (6, .ref ox)]) hx hb d_L_phase_19 hl (by decide) rfl (fun ls hl => ?_)
      refine lv_iconst (v := 1) hx hb d_L_phase_21 (by decide) ?_
      refine W.widen (k := 3) (n := 97) (by omega) (by omega) ?_
      exact W.iret (v := 1) hx hb hr (fun t ht hW => ⟨⟨1, (ov, S), rfl, Or.inr (⟨j, n, rfl, hj, Or.inl (⟨h1, rfl, rfl⟩)⟩), by rw [ht]; exact hP, va_K.moved hW.alike hK, hD⟩, hS.F ht⟩) hS.2.2 d_L_phase_22
    · rcases bo_f (b := j_yy x y) with h2 | h2
      · refine lv_aload hx hb d_L_phase_0 (lv_at hl 6 rfl) ?_
        refine lv_iconst (v := 0) hx hb d_L_phase_2 (by decide) ?_
        refine lv_aload_n hx hb d_L_phase_3 rfl (lv_at hl 0 rfl) ?_
        refine lv_iload_n hx hb d_L_phase_4 rfl (lv_at hl 1 rfl) ?_
        refine lv_iload_n hx hb d_L_phase_5 rfl (lv_at hl 2 rfl) ?_
        refine lv_iload_n hx hb d_L_phase_6 rfl (lv_at hl 3 rfl) ?_
        refine lv_iload hx hb d_L_phase_7 (lv_at hl 4 rfl) ?_
        refine lv_iload hx hb d_L_phase_9 (lv_at hl 5 rfl) ?_
        have hPc : va_P D gC (cX T aa zw kp fp e0 e1 oF oT kt ft ks fs fc S ++ tl T S) s.heap := hP.rt
        have hDc : va_D A (cX T aa zw kp fp e0 e1 oF oT kt ft ks fs fc S ++ tl T S) := hD.rt
        refine x_try (vx_runV (As := [.int (nI j), .int pz, .int x, .int y, .int dy]) (rest := [.int 0, .ref ox]) ⟨hx, hb, hml, hown, hw⟩ (k_T_phase_z l hl9 D T κ A aa zw kp fp e0 e1 oF oT kt ft ks fs fc S s.heap.size j n pz x y dy hy0 hj h1 h2) (cwV 5 hw (bg_V ml_L_27 wi_T_phase wv_T_phase wz_T wc_T_phase) rfl rfl rfl (by decide +kernel) ⟨Nat.le_of_ble_eq_true rfl, Nat.le_of_ble_eq_true rfl⟩) ⟨xPf_b, va_recv hK hPc (ci := 5) (q0 := 0) rfl rfl, xPf_p hPc hK hF hS⟩ rfl rfl hl.1 rfl (lv_room (Nat.le_of_ble_eq_true rfl)) d_L_phase_11 ⟨Nat.le_of_ble_eq_true rfl, Nat.le_of_ble_eq_true rfl⟩) hP hS hA (fun ce q9 H locs hP hS k1 k2 k3 => ?_)
        refine vx_catch (E := "java/lang/IllegalArgumentException") (name := "java/lang/IllegalArgumentException") hown [⟨0, 16, 19, 25⟩] ⟨0, 16, 23, 13⟩ [⟨0, 16, 27, 15⟩] htab (List.forall_mem_cons.mpr ⟨Or.inr ⟨by decide, "java/lang/IndexOutOfBoundsException", hw _ kl_L_25, hF.2.2.1.2.2.2 ("java/lang/IllegalArgumentException", "java/lang/IndexOutOfBoundsException") (by simp [sN])⟩, fun _ h => absurd h List.not_mem_nil⟩) rfl (by decide) (hw _ kl_L_13) (Nw_at (w := Cond.castable "java/lang/IllegalArgumentException" "java/lang/IllegalArgumentException") (hF.2.2.2.1 _ (by simp [sC])) rfl) k1 k2 k3 ?_
        refine lv_astore (lv' := [(7, .ref q9), (0, .ref (aa 0)), (1, .int (nI j)), (2, .int pz), (3, .int x), (4, .int y), (5, .int dy), (6, .ref ox)]) hx hb d_L_phase_23 hl (by decide) rfl (fun ls hl => ?_)
        refine lv_iconst (v := 2) hx hb d_L_phase_25 (by decide) ?_
        refine W.widen (k := 3) (n := 97) (by omega) (by omega) ?_
        exact W.iret (v := 2) hx hb hr (fun t ht hW => ⟨⟨2, (ov, S), rfl, Or.inr (⟨j, n, rfl, hj, Or.inr (Or.inl (⟨h1, h2, rfl, rfl⟩))⟩), by rw [ht]; exact hP, va_K.moved hW.alike hK, hD⟩, hS.F ht⟩) hS.2.2 d_L_phase_26
      · rcases bo_f (b := j_in dy 0 100000) with h3 | h3
        · refine lv_aload hx hb d_L_phase_0 (lv_at hl 6 rfl) ?_
          refine lv_iconst (v := 0) hx hb d_L_phase_2 (by decide) ?_
          refine lv_aload_n hx hb d_L_phase_3 rfl (lv_at hl 0 rfl) ?_
          refine lv_iload_n hx hb d_L_phase_4 rfl (lv_at hl 1 rfl) ?_
          refine lv_iload_n hx hb d_L_phase_5 rfl (lv_at hl 2 rfl) ?_
          refine lv_iload_n hx hb d_L_phase_6 rfl (lv_at hl 3 rfl) ?_
          refine lv_iload hx hb d_L_phase_7 (lv_at hl 4 rfl) ?_
          refine lv_iload hx hb d_L_phase_9 (lv_at hl 5 rfl) ?_
          have hPc : va_P D gC (cX T aa zw kp fp e0 e1 oF oT kt ft ks fs fc S ++ tl T S) s.heap := hP.rt
          have hDc : va_D A (cX T aa zw kp fp e0 e1 oF oT kt ft ks fs fc S ++ tl T S) := hD.rt
          refine x_try (vx_runV (As := [.int (nI j), .int pz, .int x, .int y, .int dy]) (rest := [.int 0, .ref ox]) ⟨hx, hb, hml, hown, hw⟩ (k_T_phase_u l hl9 D T κ A aa zw kp fp e0 e1 oF oT kt ft ks fs fc S s.heap.size j n pz x y dy hy0 hj h1 h2 h3) (cwV 5 hw (bg_V ml_L_27 wi_T_phase wv_T_phase wz_T wc_T_phase) rfl rfl rfl (by decide +kernel) ⟨Nat.le_of_ble_eq_true rfl, Nat.le_of_ble_eq_true rfl⟩) ⟨xPf_b, va_recv hK hPc (ci := 5) (q0 := 0) rfl rfl, xPf_p hPc hK hF hS⟩ rfl rfl hl.1 rfl (lv_room (Nat.le_of_ble_eq_true rfl)) d_L_phase_11 ⟨Nat.le_of_ble_eq_true rfl, Nat.le_of_ble_eq_true rfl⟩) hP hS hA (fun ce q9 H locs hP hS k1 k2 k3 => ?_)
          refine vx_catch (E := "java/lang/IllegalArgumentException") (name := "java/lang/IllegalArgumentException") hown [⟨0, 16, 19, 25⟩] ⟨0, 16, 23, 13⟩ [⟨0, 16, 27, 15⟩] htab (List.forall_mem_cons.mpr ⟨Or.inr ⟨by decide, "java/lang/IndexOutOfBoundsException", hw _ kl_L_25, hF.2.2.1.2.2.2 ("java/lang/IllegalArgumentException", "java/lang/IndexOutOfBoundsException") (by simp [sN])⟩, fun _ h => absurd h List.not_mem_nil⟩) rfl (by decide) (hw _ kl_L_13) (Nw_at (w := Cond.castable "java/lang/IllegalArgumentException" "java/lang/IllegalArgumentException") (hF.2.2.2.1 _ (by simp [sC])) rfl) k1 k2 k3 ?_
          refine lv_astore (lv' := [(7, .ref q9), (0, .ref (aa 0)), (1, .int (nI j)), (2, .int pz), (3, .int x), (4, .int y), (5, .int dy), (6, .ref ox)]) hx hb d_L_phase_23 hl (by decide) rfl (fun ls hl => ?_)
          refine lv_iconst (v := 2) hx hb d_L_phase_25 (by decide) ?_
          refine W.widen (k := 3) (n := 97) (by omega) (by omega) ?_
          exact W.iret (v := 2) hx hb hr (fun t ht hW => ⟨⟨2, (ov, S), rfl, Or.inr (⟨j, n, rfl, hj, Or.inr (Or.inr (Or.inl (⟨h1, h2, h3, rfl, rfl⟩)))⟩), by rw [ht]; exact hP, va_K.moved hW.alike hK, hD⟩, hS.F ht⟩) hS.2.2 d_L_phase_26
        · rcases (show (nH n).length = 6 ∨ (nH n).length < 6 from by have := (nm_at hy0 hj).2.2.2.2.2.2.1; omega) with h4 | h4
          · refine lv_aload hx hb d_L_phase_0 (lv_at hl 6 rfl) ?_
            refine lv_iconst (v := 0) hx hb d_L_phase_2 (by decide) ?_
            refine lv_aload_n hx hb d_L_phase_3 rfl (lv_at hl 0 rfl) ?_
            refine lv_iload_n hx hb d_L_phase_4 rfl (lv_at hl 1 rfl) ?_
            refine lv_iload_n hx hb d_L_phase_5 rfl (lv_at hl 2 rfl) ?_
            refine lv_iload_n hx hb d_L_phase_6 rfl (lv_at hl 3 rfl) ?_
            refine lv_iload hx hb d_L_phase_7 (lv_at hl 4 rfl) ?_
            refine lv_iload hx hb d_L_phase_9 (lv_at hl 5 rfl) ?_
            have hPc : va_P D gC (cX T aa zw kp fp e0 e1 oF oT kt ft ks fs fc S ++ tl T S) s.heap := hP.rt
            have hDc : va_D A (cX T aa zw kp fp e0 e1 oF oT kt ft ks fs fc S ++ tl T S) := hD.rt
            refine x_try (vx_runV (As := [.int (nI j), .int pz, .int x, .int y, .int dy]) (rest := [.int 0, .ref ox]) ⟨hx, hb, hml, hown, hw⟩ (k_T_phase_v l hl9 D T κ A aa zw kp fp e0 e1 oF oT kt ft ks fs fc S s.heap.size j n pz x y dy hy0 hj h1 h2 h3 h4) (cwV 5 hw (bg_V ml_L_27 wi_T_phase wv_T_phase wz_T wc_T_phase) rfl rfl rfl (by decide +kernel) ⟨Nat.le_of_ble_eq_true rfl, Nat.le_of_ble_eq_true rfl⟩) ⟨xPf_b, va_recv hK hPc (ci := 5) (q0 := 0) rfl rfl, xPf_p hPc hK hF hS⟩ rfl rfl hl.1 rfl (lv_room (Nat.le_of_ble_eq_true rfl)) d_L_phase_11 ⟨Nat.le_of_ble_eq_true rfl, Nat.le_of_ble_eq_true rfl⟩) hP hS hA (fun ce q9 H locs hP hS k1 k2 k3 => ?_)
            refine vx_catch (E := "java/lang/IllegalStateException") (name := "java/lang/IllegalStateException") hown [⟨0, 16, 19, 25⟩, ⟨0, 16, 23, 13⟩] ⟨0, 16, 27, 15⟩ [] htab (List.forall_mem_cons.mpr ⟨Or.inr ⟨by decide, "java/lang/IndexOutOfBoundsException", hw _ kl_L_25, hF.2.2.1.2.2.2 ("java/lang/IllegalStateException", "java/lang/IndexOutOfBoundsException") (by simp [sN])⟩, List.forall_mem_cons.mpr ⟨Or.inr ⟨by decide, "java/lang/IllegalArgumentException", hw _ kl_L_13, hF.2.2.1.2.2.2 ("java/lang/IllegalStateException", "java/lang/IllegalArgumentException") (by simp [sN])⟩, fun _ h => absurd h List.not_mem_nil⟩⟩) rfl (by decide) (hw _ kl_L_15) (Nw_at (w := Cond.castable "java/lang/IllegalStateException" "java/lang/IllegalStateException") (hF.2.2.2.1 _ (by simp [sC])) rfl) k1 k2 k3 ?_
            refine lv_astore (lv' := [(7, .ref q9), (0, .ref (aa 0)), (1, .int (nI j)), (2, .int pz), (3, .int x), (4, .int y), (5, .int dy), (6, .ref ox)]) hx hb d_L_phase_27 hl (by decide) rfl (fun ls hl => ?_)
            refine lv_iconst (v := 3) hx hb d_L_phase_29 (by decide) ?_
            refine W.widen (k := 3) (n := 97) (by omega) (by omega) ?_
            exact W.iret (v := 3) hx hb hr (fun t ht hW => ⟨⟨3, (ov, S), rfl, Or.inr (⟨j, n, rfl, hj, Or.inr (Or.inr (Or.inr (Or.inl (⟨h1, h2, h3, h4, rfl, rfl⟩))))⟩), by rw [ht]; exact hP, va_K.moved hW.alike hK, hD⟩, hS.F ht⟩) hS.2.2 d_L_phase_30
          · refine lv_aload hx hb d_L_phase_0 (lv_at hl 6 rfl) ?_
            refine lv_iconst (v := 0) hx hb d_L_phase_2 (by decide) ?_
            refine lv_aload_n hx hb d_L_phase_3 rfl (lv_at hl 0 rfl) ?_
            refine lv_iload_n hx hb d_L_phase_4 rfl (lv_at hl 1 rfl) ?_
            refine lv_iload_n hx hb d_L_phase_5 rfl (lv_at hl 2 rfl) ?_
            refine lv_iload_n hx hb d_L_phase_6 rfl (lv_at hl 3 rfl) ?_
            refine lv_iload hx hb d_L_phase_7 (lv_at hl 4 rfl) ?_
            refine lv_iload hx hb d_L_phase_9 (lv_at hl 5 rfl) ?_
            have hPc : va_P D gC (cX T aa zw kp fp e0 e1 oF oT kt ft ks fs fc S ++ tl T S) s.heap := hP.rt
            have hDc : va_D A (cX T aa zw kp fp e0 e1 oF oT kt ft ks fs fc S ++ tl T S) := hD.rt
            refine g_blki (B := [(ox, .inl (T.2.2.1, 1, .inr (.inl ov)))]) (C := cX T aa zw kp fp e0 e1 oF oT kt ft ks fs fc S ++ tl T S) (va_runV (As := [.int (nI j), .int pz, .int x, .int y, .int dy]) (rest := [.int 0, .ref ox]) ⟨hx, hb, hml, hown, hw⟩ (k_T_phase l D T κ aa zw kp fp e0 e1 oF oT kt ft ks fs fc S s.heap.size j n pz x y dy hy0 hj h1 h2 h3 h4) (cwV 5 hw (bg_V ml_L_27 wi_T_phase wv_T_phase wz_T wc_T_phase) rfl rfl rfl (by decide +kernel) ⟨Nat.le_of_ble_eq_true rfl, Nat.le_of_ble_eq_true rfl⟩) ⟨qPf_b, va_recv hK hPc (ci := 5) (q0 := 0) rfl rfl, qPf_p hPc hK hDc hF hS (g_free hDc hS hA)⟩ rfl rfl hl.1 rfl (lv_room (Nat.le_of_ble_eq_true rfl)) d_L_phase_11 ⟨Nat.le_of_ble_eq_true rfl, Nat.le_of_ble_eq_true rfl⟩) hP hD hS hA (fun r6 u7 H locs hr6 hP hD hS => ?_)
            have hP : va_P D gC ([(ox, .inl (T.2.2.1, 1, .inr (.inl ov)))] ++ (cX T aa zw kp fp e0 e1 oF oT kt ft ks fs fc u7 ++ tl T u7)) H := hP
            have hD : va_D A ([(ox, .inl (T.2.2.1, 1, .inr (.inl ov)))] ++ (cX T aa zw kp fp e0 e1 oF oT kt ft ks fs fc u7 ++ tl T u7)) := hD
            refine lv_i2l hx hb d_L_phase_14 rfl ?_
            refine va_last hx hb hK hP hD hS 0 2 rfl rfl (vp_in_nI (n := 0) (by decide) (by decide)) d_L_phase_15 (fun H locs hP hD hS => ?_)
            rw [show (0 : Int32).toNatClampNeg = 0 from by decide] at hP hD
            have hP : va_P D gC ([(ox, .inl (T.2.2.1, 1, .inr (.inl (vp_updL ov 0 r6.toInt64))))] ++ (cX T aa zw kp fp e0 e1 oF oT kt ft ks fs fc u7 ++ tl T u7)) H := hP
            have hD : va_D A ([(ox, .inl (T.2.2.1, 1, .inr (.inl (vp_updL ov 0 r6.toInt64))))] ++ (cX T aa zw kp fp e0 e1 oF oT kt ft ks fs fc u7 ++ tl T u7)) := hD
            refine lv_goto (tgt := 31) hx hb d_L_phase_16 (by decide) ?_
            refine lv_iconst (v := 0) hx hb d_L_phase_31 (by decide) ?_
            exact W.iret (v := 0) hx hb hr (fun t ht hW => ⟨⟨0, (vp_updL ov 0 r6.toInt64, u7), rfl, Or.inr (⟨j, n, rfl, hj, Or.inr (Or.inr (Or.inr (Or.inr (⟨h1, h2, h3, h4, rfl, _, lup0, hr6.1, hr6.2⟩))))⟩), by rw [ht]; exact hP, va_K.moved hW.alike hK, hD⟩, hS.F ht⟩) hS.2.2 d_L_phase_32

set_option maxHeartbeats 4000000 in
set_option maxRecDepth 100000 in
theorem k_L_width (l : Launch) (hl9 : l.stackTraces = false) (D : va_G) (T : gT) (κ : gS) (ox : Nat) (ov : Nat → Int64) (aa : Nat → Nat) (zw : Int32) (kp : Nat) (fp : Nat → Int32) (e0 e1 : Int32) (oF oT : Bool) (kt : Nat) (ft : Nat → Int32) (ks : Nat) (fs fc : Nat → Int32) (S : tS) (sz : Nat) (x : Int32) : vx_Met l y_L_width (Cond.codeWith y_L_width b_L_width 4 (some .int) [(0, 9, 12, 13)] :: bg_W) ({ frames := 8, cells := 1, slots := 6, locals := 132 }) (qPf κ D T ([(ox, .inl (T.2.2.1, 1, .inr (.inl ov)))] ++ (cX T aa zw kp fp e0 e1 oF oT kt ft ks fs fc S ++ tl T S)) [.ref (aa 0), .int x, .ref ox] sz) (va_Qi (fun (r : Int32) (u : (Nat → Int64) × Int32) => match u with | (ov1, w3) => (j_in x 0 1000 = false ∧ r = 1 ∧ w3 = zw) ∨ (j_in x 0 1000 = true ∧ (r = 0 ∧ ∃ v : Int32, ov1 0 = v.toInt64 ∧ v = zw) ∧ w3 = x)) (qB D T (va_A ([(ox, .inl (T.2.2.1, 1, .inr (.inl ov)))] ++ (cX T aa zw kp fp e0 e1 oF oT kt ft ks fs fc S ++ tl T S)) sz) (fun u : (Nat → Int64) × Int32 => match u with | (ov1, w3) => [(ox, .inl (T.2.2.1, 1, .inr (.inl ov1)))] ++ (cX T aa w3 kp fp e0 e1 oF oT kt ft ks fs fc S ++ tl T S))) (va_A ([(ox, .inl (T.2.2.1, 1, .inr (.inl ov)))] ++ (cX T aa zw kp fp e0 e1 oF oT kt ft ks fs fc S ++ tl T S)) sz)) xF 1 6 (va_A ([(ox, .inl (T.2.2.1, 1, .inr (.inl ov)))] ++ (cX T aa zw kp fp e0 e1 oF oT kt ft ks fs fc S ++ tl T S)) sz) := by
  refine vx_ofWH (cc := b_L_width) (maxL := 4) (ret := (some .int)) (hh := [(0, 9, 12, 13)]) (by decide) rfl ?_
  intro p e s m args below meth c s₁ B hml hv
  obtain ⟨rfl, hsz, hP, hK, hD0, hF⟩ := hv
  refine vx_ret ?_
  have hx := B.exec
  have hb := B.bytes
  have hr := B.returns
  have hw : ∀ w ∈ bg_W, w.before ([.ref (aa 0), .int x, .ref ox] : List Value).toArray s = true := fun w h => atoms_spec (ws := (Cond.codeWith y_L_width b_L_width 4 (some .int) [(0, 9, 12, 13)] :: bg_W)) B.pre w (List.mem_cons_of_mem _ h)
  have htab := vx_table (x := y_L_width) B (atoms_spec (ws := (Cond.codeWith y_L_width b_L_width 4 (some .int) [(0, 9, 12, 13)] :: bg_W)) B.pre _ List.mem_cons_self)
  have hown : s.vm.findClass "TimeWordsLaw" = some m.cls := findClass_of_methodNamed B.named
  have hlocks := B.notSynchronized
  subst hsz
  have hD := hD0.self (sz := s.heap.size)
  generalize hAe : va_A ([(ox, .inl (T.2.2.1, 1, .inr (.inl ov)))] ++ (cX T aa zw kp fp e0 e1 oF oT kt ft ks fs fc S ++ tl T S)) s.heap.size = A at hD hF ⊢
  have hA : ∀ q : Nat, s.heap.size ≤ q → A q := fun q h => by rw [← hAe]; exact Or.inr h
  have hS : va_S A s.heap s.heap [] := va_S.rf
  have hl := lv_entry ([.ref (aa 0), .int x, .ref ox]) (n := 4) (Nat.le_of_ble_eq_true rfl)
  rw [lg_entry_eq]
  generalize (lg_sl ([.ref (aa 0), .int x, .ref ox]) ++ List.replicate (4 - (lg_sl ([.ref (aa 0), .int x, .ref ox])).length) Slot.unset).toArray = ls at hl ⊢
  have hl : lv_has ls 4 [(0, .ref (aa 0)), (1, .int x), (2, .ref ox)] := hl
  rcases bo_f (b := j_in x 0 1000) with h1 | h1
  · refine lv_aload_n hx hb d_L_width_0 rfl (lv_at hl 2 rfl) ?_
    refine lv_iconst (v := 0) hx hb d_L_width_1 (by decide) ?_
    refine lv_aload_n hx hb d_L_width_2 rfl (lv_at hl 0 rfl) ?_
    refine lv_iload_n hx hb d_L_width_3 rfl (lv_at hl 1 rfl) ?_
    have hPc : va_P D gC (cX T aa zw kp fp e0 e1 oF oT kt ft ks fs fc S ++ tl T S) s.heap := hP.rt
    have hDc : va_D A (cX T aa zw kp fp e0 e1 oF oT kt ft ks fs fc S ++ tl T S) := hD.rt
    refine x_try (vx_runV (As := [.int x]) (rest := [.int 0, .ref ox]) ⟨hx, hb, hml, hown, hw⟩ (k_T_width_x l hl9 D T κ A aa zw kp fp e0 e1 oF oT kt ft ks fs fc S s.heap.size x h1) (cwV 1 hw (bg_V ml_L_31 wi_T_width wv_T_width wz_T wc_T_width) rfl rfl rfl (by decide +kernel) ⟨Nat.le_of_ble_eq_true rfl, Nat.le_of_ble_eq_true rfl⟩) ⟨xPf_b, va_recv hK hPc (ci := 5) (q0 := 0) rfl rfl, xPf_p hPc hK hF hS⟩ rfl rfl hl.1 rfl (lv_room (Nat.le_of_ble_eq_true rfl)) d_L_width_4 ⟨Nat.le_of_ble_eq_true rfl, Nat.le_of_ble_eq_true rfl⟩) hP hS hA (fun ce q9 H locs hP hS k1 k2 k3 => ?_)
    refine vx_catch (E := "java/lang/IllegalArgumentException") (name := "java/lang/IllegalArgumentException") hown [] ⟨0, 9, 12, 13⟩ [] htab (fun _ h => absurd h List.not_mem_nil) rfl (by decide) (hw _ kl_L_13) (Nw_at (w := Cond.castable "java/lang/IllegalArgumentException" "java/lang/IllegalArgumentException") (hF.2.2.2.1 _ (by simp [sC])) rfl) k1 k2 k3 ?_
    refine lv_astore_n (lv' := [(3, .ref q9), (0, .ref (aa 0)), (1, .int x), (2, .ref ox)]) hx hb d_L_width_12 rfl hl (by decide) rfl (fun ls hl => ?_)
    refine lv_iconst (v := 1) hx hb d_L_width_13 (by decide) ?_
    exact W.iret (v := 1) hx hb hr (fun t ht hW => ⟨⟨1, (ov, zw), rfl, Or.inl (⟨h1, rfl, rfl⟩), by rw [ht]; exact hP, va_K.moved hW.alike hK, hD⟩, hS.F ht⟩) hS.2.2 d_L_width_14
  · refine lv_aload_n hx hb d_L_width_0 rfl (lv_at hl 2 rfl) ?_
    refine lv_iconst (v := 0) hx hb d_L_width_1 (by decide) ?_
    refine lv_aload_n hx hb d_L_width_2 rfl (lv_at hl 0 rfl) ?_
    refine lv_iload_n hx hb d_L_width_3 rfl (lv_at hl 1 rfl) ?_
    have hPc : va_P D gC (cX T aa zw kp fp e0 e1 oF oT kt ft ks fs fc S ++ tl T S) s.heap := hP.rt
    have hDc : va_D A (cX T aa zw kp fp e0 e1 oF oT kt ft ks fs fc S ++ tl T S) := hD.rt
    refine g_blki (B := [(ox, .inl (T.2.2.1, 1, .inr (.inl ov)))]) (C := cX T aa zw kp fp e0 e1 oF oT kt ft ks fs fc S ++ tl T S) (va_runV (As := [.int x]) (rest := [.int 0, .ref ox]) ⟨hx, hb, hml, hown, hw⟩ (k_T_width l D T κ aa zw kp fp e0 e1 oF oT kt ft ks fs fc S s.heap.size x h1) (cwV 1 hw (bg_V ml_L_31 wi_T_width wv_T_width wz_T wc_T_width) rfl rfl rfl (by decide +kernel) ⟨Nat.le_of_ble_eq_true rfl, Nat.le_of_ble_eq_true rfl⟩) ⟨qPf_b, va_recv hK hPc (ci := 5) (q0 := 0) rfl rfl, qPf_p hPc hK hDc hF hS (g_free hDc hS hA)⟩ rfl rfl hl.1 rfl (lv_room (Nat.le_of_ble_eq_true rfl)) d_L_width_4 ⟨Nat.le_of_ble_eq_true rfl, Nat.le_of_ble_eq_true rfl⟩) hP hD hS hA (fun r2 u3 H locs hr2 hP hD hS => ?_)
    have hP : va_P D gC ([(ox, .inl (T.2.2.1, 1, .inr (.inl ov)))] ++ (cX T aa u3 kp fp e0 e1 oF oT kt ft ks fs fc S ++ tl T S)) H := hP
    have hD : va_D A ([(ox, .inl (T.2.2.1, 1, .inr (.inl ov)))] ++ (cX T aa u3 kp fp e0 e1 oF oT kt ft ks fs fc S ++ tl T S)) := hD
    refine lv_i2l hx hb d_L_width_7 rfl ?_
    refine va_last hx hb hK hP hD hS 0 2 rfl rfl (vp_in_nI (n := 0) (by decide) (by decide)) d_L_width_8 (fun H locs hP hD hS => ?_)
    rw [show (0 : Int32).toNatClampNeg = 0 from by decide] at hP hD
    have hP : va_P D gC ([(ox, .inl (T.2.2.1, 1, .inr (.inl (vp_updL ov 0 r2.toInt64))))] ++ (cX T aa u3 kp fp e0 e1 oF oT kt ft ks fs fc S ++ tl T S)) H := hP
    have hD : va_D A ([(ox, .inl (T.2.2.1, 1, .inr (.inl (vp_updL ov 0 r2.toInt64))))] ++ (cX T aa u3 kp fp e0 e1 oF oT kt ft ks fs fc S ++ tl T S)) := hD
    refine lv_goto (tgt := 15) hx hb d_L_width_9 (by decide) ?_
    refine lv_iconst (v := 0) hx hb d_L_width_15 (by decide) ?_
    refine W.widen (k := 1) (n := 6) (by omega) (by omega) ?_
    exact W.iret (v := 0) hx hb hr (fun t ht hW => ⟨⟨0, (vp_updL ov 0 r2.toInt64, u3), rfl, Or.inr (⟨h1, ⟨rfl, _, lup0, hr2.1⟩, hr2.2⟩), by rw [ht]; exact hP, va_K.moved hW.alike hK, hD⟩, hS.F ht⟩) hS.2.2 d_L_width_16

set_option maxHeartbeats 4000000 in
set_option maxRecDepth 100000 in
theorem k_L_read (l : Launch) (hl9 : l.stackTraces = false) (D : va_G) (T : gT) (κ : gS) (ox : Nat) (ov : Nat → Int64) (aa : Nat → Nat) (zw : Int32) (kp : Nat) (fp : Nat → Int32) (e0 e1 : Int32) (oF oT : Bool) (kt : Nat) (ft : Nat → Int32) (ks : Nat) (fs fc : Nat → Int32) (S : tS) (sz : Nat) (x y : Int32) (co : Nat → Option jS) (hy0 : tOk κ S) (hy1 : kp ≤ 24) (hy2 : lOk S) (hy3 : 0 ≤ zw.toInt) (hy4 : zw.toInt ≤ 1000) (hy5 : c_co fp kp S x y co) : vx_Met l y_L_read (Cond.codeWith y_L_read b_L_read 5 (some .int) [(0, 10, 13, 25), (0, 10, 17, 13), (0, 10, 21, 15)] :: bg_W) ({ frames := 13, cells := 2, slots := 94, locals := 311 }) (qPf κ D T ([(ox, .inl (T.2.2.1, 1, .inr (.inl ov)))] ++ (cX T aa zw kp fp e0 e1 oF oT kt ft ks fs fc S ++ tl T S)) [.ref (aa 0), .int x, .int y, .ref ox] sz) (va_Qi (fun (r : Int32) (u : (Nat → Int64) × Int32 × Int32 × Bool × Bool × Nat × tS) => match u with | (ov1, w0, w1, v2, v3, kp1, S1) => (j_in x 0 7 = false ∧ r = 1 ∧ kp1 = kp ∧ S1 = S) ∨ (j_in x 0 7 = true ∧ j_in y 0 100000 = false ∧ r = 2 ∧ kp1 = kp ∧ S1 = S) ∨ (j_in x 0 7 = true ∧ j_in y 0 100000 = true ∧ S.2.2.2.length = 60 ∧ r = 3 ∧ kp1 = kp ∧ S1 = S) ∨ (j_in x 0 7 = true ∧ j_in y 0 100000 = true ∧ S.2.2.2.length < 60 ∧ r = 0 ∧ ∃ v : Int32, ov1 0 = v.toInt64 ∧ (kp1 = 0 ∧ ((∃ uj, j_wd (j_fb fp kp) co (j_ap zw) 5 0 = some uj ∧ jOk uj ∧ v = nI S.2.2.2.length ∧ spP κ S (j_lo uj.2.2 uj.1) (j_hi uj.2.2 uj.2.1) (j_op uj.2.2 0) (j_op uj.2.2 1) S1) ∨ (j_wd (j_fb fp kp) co (j_ap zw) 5 0 = none ∧ v = -1 ∧ S1 = S))))) (qB D T (va_A ([(ox, .inl (T.2.2.1, 1, .inr (.inl ov)))] ++ (cX T aa zw kp fp e0 e1 oF oT kt ft ks fs fc S ++ tl T S)) sz) (fun u : (Nat → Int64) × Int32 × Int32 × Bool × Bool × Nat × tS => match u with | (ov1, w0, w1, v2, v3, kp1, S1) => [(ox, .inl (T.2.2.1, 1, .inr (.inl ov1)))] ++ (cX T aa zw kp1 fp w0 w1 v2 v3 kt ft ks fs fc S1 ++ tl T S1))) (va_A ([(ox, .inl (T.2.2.1, 1, .inr (.inl ov)))] ++ (cX T aa zw kp fp e0 e1 oF oT kt ft ks fs fc S ++ tl T S)) sz)) xF 2 94 (va_A ([(ox, .inl (T.2.2.1, 1, .inr (.inl ov)))] ++ (cX T aa zw kp fp e0 e1 oF oT kt ft ks fs fc S ++ tl T S)) sz) := by
  refine vx_ofWH (cc := b_L_read) (maxL := 5) (ret := (some .int)) (hh := [(0, 10, 13, 25), (0, 10, 17, 13), (0, 10, 21, 15)]) (by decide) rfl ?_
  intro p e s m args below meth c s₁ B hml hv
  obtain ⟨rfl, hsz, hP, hK, hD0, hF⟩ := hv
  refine vx_ret ?_
  have hx := B.exec
  have hb := B.bytes
  have hr := B.returns
  have hw : ∀ w ∈ bg_W, w.before ([.ref (aa 0), .int x, .int y, .ref ox] : List Value).toArray s = true := fun w h => atoms_spec (ws := (Cond.codeWith y_L_read b_L_read 5 (some .int) [(0, 10, 13, 25), (0, 10, 17, 13), (0, 10, 21, 15)] :: bg_W)) B.pre w (List.mem_cons_of_mem _ h)
  have htab := vx_table (x := y_L_read) B (atoms_spec (ws := (Cond.codeWith y_L_read b_L_read 5 (some .int) [(0, 10, 13, 25), (0, 10, 17, 13), (0, 10, 21, 15)] :: bg_W)) B.pre _ List.mem_cons_self)
  have hown : s.vm.findClass "TimeWordsLaw" = some m.cls := findClass_of_methodNamed B.named
  have hlocks := B.notSynchronized
  subst hsz
  have hD := hD0.self (sz := s.heap.size)
  generalize hAe : va_A ([(ox, .inl (T.2.2.1, 1, .inr (.inl ov)))] ++ (cX T aa zw kp fp e0 e1 oF oT kt ft ks fs fc S ++ tl T S)) s.heap.size = A at hD hF ⊢
  have hA : ∀ q : Nat, s.heap.size ≤ q → A q := fun q h => by rw [← hAe]; exact Or.inr h
  have hS : va_S A s.heap s.heap [] := va_S.rf
  have hl := lv_entry ([.ref (aa 0), .int x, .int y, .ref ox]) (n := 5) (Nat.le_of_ble_eq_true rfl)
  rw [lg_entry_eq]
  generalize (lg_sl ([.ref (aa 0), .int x, .int y, .ref ox]) ++ List.replicate (5 - (lg_sl ([.ref (aa 0), .int x, .int y, .ref ox])).length) Slot.unset).toArray = ls at hl ⊢
  have hl : lv_has ls 5 [(0, .ref (aa 0)), (1, .int x), (2, .int y), (3, .ref ox)] := hl
  rcases bo_f (b := j_in x 0 7) with h1 | h1
  · refine lv_aload_n hx hb d_L_read_0 rfl (lv_at hl 3 rfl) ?_
    refine lv_iconst (v := 0) hx hb d_L_read_1 (by decide) ?_
    refine lv_aload_n hx hb d_L_read_2 rfl (lv_at hl 0 rfl) ?_
    refine lv_iload_n hx hb d_L_read_3 rfl (lv_at hl 1 rfl) ?_
    refine lv_iload_n hx hb d_L_read_4 rfl (lv_at hl 2 rfl) ?_
    have hPc : va_P D gC (cX T aa zw kp fp e0 e1 oF oT kt ft ks fs fc S ++ tl T S) s.heap := hP.rt
    have hDc : va_D A (cX T aa zw kp fp e0 e1 oF oT kt ft ks fs fc S ++ tl T S) := hD.rt
    refine x_try (vx_runV (As := [.int x, .int y]) (rest := [.int 0, .ref ox]) ⟨hx, hb, hml, hown, hw⟩ (k_T_read_x l hl9 D T κ A aa zw kp fp e0 e1 oF oT kt ft ks fs fc S s.heap.size x y h1) (cwV 2 hw (bg_V ml_L_34 wi_T_read wv_T_read wz_T wc_T_read) rfl rfl rfl (by decide +kernel) ⟨Nat.le_of_ble_eq_true rfl, Nat.le_of_ble_eq_true rfl⟩) ⟨xPf_b, va_recv hK hPc (ci := 5) (q0 := 0) rfl rfl, xPf_p hPc hK hF hS⟩ rfl rfl hl.1 rfl (lv_room (Nat.le_of_ble_eq_true rfl)) d_L_read_5 ⟨Nat.le_of_ble_eq_true rfl, Nat.le_of_ble_eq_true rfl⟩) hP hS hA (fun ce q9 H locs hP hS k1 k2 k3 => ?_)
    refine vx_catch (E := "java/lang/IndexOutOfBoundsException") (name := "java/lang/IndexOutOfBoundsException") hown [] ⟨0, 10, 13, 25⟩ [⟨0, 10, 17, 13⟩, ⟨0, 10, 21, 15⟩] htab (fun _ h => absurd h List.not_mem_nil) rfl (by decide) (hw _ kl_L_25) (Nw_at (w := Cond.castable "java/lang/IndexOutOfBoundsException" "java/lang/IndexOutOfBoundsException") (hF.2.2.2.1 _ (by simp [sC])) rfl) k1 k2 k3 ?_
    refine lv_astore (lv' := [(4, .ref q9), (0, .ref (aa 0)), (1, .int x), (2, .int y), (3, .ref ox)]) hx hb d_L_read_13 hl (by decide) rfl (fun ls hl => ?_)
    refine lv_iconst (v := 1) hx hb d_L_read_15 (by decide) ?_
    refine W.widen (k := 2) (n := 94) (by omega) (by omega) ?_
    exact W.iret (v := 1) hx hb hr (fun t ht hW => ⟨⟨1, (ov, e0, e1, oF, oT, kp, S), rfl, Or.inl (⟨h1, rfl, rfl, rfl⟩), by rw [ht]; exact hP, va_K.moved hW.alike hK, hD⟩, hS.F ht⟩) hS.2.2 d_L_read_16
  · rcases bo_f (b := j_in y 0 100000) with h2 | h2
    · refine lv_aload_n hx hb d_L_read_0 rfl (lv_at hl 3 rfl) ?_
      refine lv_iconst (v := 0) hx hb d_L_read_1 (by decide) ?_
      refine lv_aload_n hx hb d_L_read_2 rfl (lv_at hl 0 rfl) ?_
      refine lv_iload_n hx hb d_L_read_3 rfl (lv_at hl 1 rfl) ?_
      refine lv_iload_n hx hb d_L_read_4 rfl (lv_at hl 2 rfl) ?_
      have hPc : va_P D gC (cX T aa zw kp fp e0 e1 oF oT kt ft ks fs fc S ++ tl T S) s.heap := hP.rt
      have hDc : va_D A (cX T aa zw kp fp e0 e1 oF oT kt ft ks fs fc S ++ tl T S) := hD.rt
      refine x_try (vx_runV (As := [.int x, .int y]) (rest := [.int 0, .ref ox]) ⟨hx, hb, hml, hown, hw⟩ (k_T_read_y l hl9 D T κ A aa zw kp fp e0 e1 oF oT kt ft ks fs fc S s.heap.size x y h1 h2) (cwV 2 hw (bg_V ml_L_34 wi_T_read wv_T_read wz_T wc_T_read) rfl rfl rfl (by decide +kernel) ⟨Nat.le_of_ble_eq_true rfl, Nat.le_of_ble_eq_true rfl⟩) ⟨xPf_b, va_recv hK hPc (ci := 5) (q0 := 0) rfl rfl, xPf_p hPc hK hF hS⟩ rfl rfl hl.1 rfl (lv_room (Nat.le_of_ble_eq_true rfl)) d_L_read_5 ⟨Nat.le_of_ble_eq_true rfl, Nat.le_of_ble_eq_true rfl⟩) hP hS hA (fun ce q9 H locs hP hS k1 k2 k3 => ?_)
      refine vx_catch (E := "java/lang/IllegalArgumentException") (name := "java/lang/IllegalArgumentException") hown [⟨0, 10, 13, 25⟩] ⟨0, 10, 17, 13⟩ [⟨0, 10, 21, 15⟩] htab (List.forall_mem_cons.mpr ⟨Or.inr ⟨by decide, "java/lang/IndexOutOfBoundsException", hw _ kl_L_25, hF.2.2.1.2.2.2 ("java/lang/IllegalArgumentException", "java/lang/IndexOutOfBoundsException") (by simp [sN])⟩, fun _ h => absurd h List.not_mem_nil⟩) rfl (by decide) (hw _ kl_L_13) (Nw_at (w := Cond.castable "java/lang/IllegalArgumentException" "java/lang/IllegalArgumentException") (hF.2.2.2.1 _ (by simp [sC])) rfl) k1 k2 k3 ?_
      refine lv_astore (lv' := [(4, .ref q9), (0, .ref (aa 0)), (1, .int x), (2, .int y), (3, .ref ox)]) hx hb d_L_read_17 hl (by decide) rfl (fun ls hl => ?_)
      refine lv_iconst (v := 2) hx hb d_L_read_19 (by decide) ?_
      refine W.widen (k := 2) (n := 94) (by omega) (by omega) ?_
      exact W.iret (v := 2) hx hb hr (fun t ht hW => ⟨⟨2, (ov, e0, e1, oF, oT, kp, S), rfl, Or.inr (Or.inl (⟨h1, h2, rfl, rfl, rfl⟩)), by rw [ht]; exact hP, va_K.moved hW.alike hK, hD⟩, hS.F ht⟩) hS.2.2 d_L_read_20
    · rcases (show S.2.2.2.length = 60 ∨ S.2.2.2.length < 60 from by have := hy0.2.2.2.2; omega) with h3 | h3
      · refine lv_aload_n hx hb d_L_read_0 rfl (lv_at hl 3 rfl) ?_
        refine lv_iconst (v := 0) hx hb d_L_read_1 (by decide) ?_
        refine lv_aload_n hx hb d_L_read_2 rfl (lv_at hl 0 rfl) ?_
        refine lv_iload_n hx hb d_L_read_3 rfl (lv_at hl 1 rfl) ?_
        refine lv_iload_n hx hb d_L_read_4 rfl (lv_at hl 2 rfl) ?_
        have hPc : va_P D gC (cX T aa zw kp fp e0 e1 oF oT kt ft ks fs fc S ++ tl T S) s.heap := hP.rt
        have hDc : va_D A (cX T aa zw kp fp e0 e1 oF oT kt ft ks fs fc S ++ tl T S) := hD.rt
        refine x_try (vx_runV (As := [.int x, .int y]) (rest := [.int 0, .ref ox]) ⟨hx, hb, hml, hown, hw⟩ (k_T_read_z l hl9 D T κ A aa zw kp fp e0 e1 oF oT kt ft ks fs fc S s.heap.size x y h1 h2 h3) (cwV 2 hw (bg_V ml_L_34 wi_T_read wv_T_read wz_T wc_T_read) rfl rfl rfl (by decide +kernel) ⟨Nat.le_of_ble_eq_true rfl, Nat.le_of_ble_eq_true rfl⟩) ⟨xPf_b, va_recv hK hPc (ci := 5) (q0 := 0) rfl rfl, xPf_p hPc hK hF hS⟩ rfl rfl hl.1 rfl (lv_room (Nat.le_of_ble_eq_true rfl)) d_L_read_5 ⟨Nat.le_of_ble_eq_true rfl, Nat.le_of_ble_eq_true rfl⟩) hP hS hA (fun ce q9 H locs hP hS k1 k2 k3 => ?_)
        refine vx_catch (E := "java/lang/IllegalStateException") (name := "java/lang/IllegalStateException") hown [⟨0, 10, 13, 25⟩, ⟨0, 10, 17, 13⟩] ⟨0, 10, 21, 15⟩ [] htab (List.forall_mem_cons.mpr ⟨Or.inr ⟨by decide, "java/lang/IndexOutOfBoundsException", hw _ kl_L_25, hF.2.2.1.2.2.2 ("java/lang/IllegalStateException", "java/lang/IndexOutOfBoundsException") (by simp [sN])⟩, List.forall_mem_cons.mpr ⟨Or.inr ⟨by decide, "java/lang/IllegalArgumentException", hw _ kl_L_13, hF.2.2.1.2.2.2 ("java/lang/IllegalStateException", "java/lang/IllegalArgumentException") (by simp [sN])⟩, fun _ h => absurd h List.not_mem_nil⟩⟩) rfl (by decide) (hw _ kl_L_15) (Nw_at (w := Cond.castable "java/lang/IllegalStateException" "java/lang/IllegalStateException") (hF.2.2.2.1 _ (by simp [sC])) rfl) k1 k2 k3 ?_
        refine lv_astore (lv' := [(4, .ref q9), (0, .ref (aa 0)), (1, .int x), (2, .int y), (3, .ref ox)]) hx hb d_L_read_21 hl (by decide) rfl (fun ls hl => ?_)
        refine lv_iconst (v := 3) hx hb d_L_read_23 (by decide) ?_
        refine W.widen (k := 2) (n := 94) (by omega) (by omega) ?_
        exact W.iret (v := 3) hx hb hr (fun t ht hW => ⟨⟨3, (ov, e0, e1, oF, oT, kp, S), rfl, Or.inr (Or.inr (Or.inl (⟨h1, h2, h3, rfl, rfl, rfl⟩))), by rw [ht]; exact hP, va_K.moved hW.alike hK, hD⟩, hS.F ht⟩) hS.2.2 d_L_read_24
      · refine lv_aload_n hx hb d_L_read_0 rfl (lv_at hl 3 rfl) ?_
        refine lv_iconst (v := 0) hx hb d_L_read_1 (by decide) ?_
        refine lv_aload_n hx hb d_L_read_2 rfl (lv_at hl 0 rfl) ?_
        refine lv_iload_n hx hb d_L_read_3 rfl (lv_at hl 1 rfl) ?_
        refine lv_iload_n hx hb d_L_read_4 rfl (lv_at hl 2 rfl) ?_
        have hPc : va_P D gC (cX T aa zw kp fp e0 e1 oF oT kt ft ks fs fc S ++ tl T S) s.heap := hP.rt
        have hDc : va_D A (cX T aa zw kp fp e0 e1 oF oT kt ft ks fs fc S ++ tl T S) := hD.rt
        refine g_blki (B := [(ox, .inl (T.2.2.1, 1, .inr (.inl ov)))]) (C := cX T aa zw kp fp e0 e1 oF oT kt ft ks fs fc S ++ tl T S) (va_runV (As := [.int x, .int y]) (rest := [.int 0, .ref ox]) ⟨hx, hb, hml, hown, hw⟩ (k_T_read l D T κ aa zw kp fp e0 e1 oF oT kt ft ks fs fc S s.heap.size x y co hy0 h1 h2 h3 hy1 hy2 hy3 hy4 hy5) (cwV 2 hw (bg_V ml_L_34 wi_T_read wv_T_read wz_T wc_T_read) rfl rfl rfl (by decide +kernel) ⟨Nat.le_of_ble_eq_true rfl, Nat.le_of_ble_eq_true rfl⟩) ⟨qPf_b, va_recv hK hPc (ci := 5) (q0 := 0) rfl rfl, qPf_p hPc hK hDc hF hS (g_free hDc hS hA)⟩ rfl rfl hl.1 rfl (lv_room (Nat.le_of_ble_eq_true rfl)) d_L_read_5 ⟨Nat.le_of_ble_eq_true rfl, Nat.le_of_ble_eq_true rfl⟩) hP hD hS hA (fun r4 u9 H locs hr4 hP hD hS => ?_)
        obtain ⟨u5, u6, u7, u8, u9, u10⟩ := u9
        dsimp only at hr4 hP hD
        have hP : va_P D gC ([(ox, .inl (T.2.2.1, 1, .inr (.inl ov)))] ++ (cX T aa zw u9 fp u5 u6 u7 u8 kt ft ks fs fc u10 ++ tl T u10)) H := hP
        have hD : va_D A ([(ox, .inl (T.2.2.1, 1, .inr (.inl ov)))] ++ (cX T aa zw u9 fp u5 u6 u7 u8 kt ft ks fs fc u10 ++ tl T u10)) := hD
        refine lv_i2l hx hb d_L_read_8 rfl ?_
        refine va_last hx hb hK hP hD hS 0 2 rfl rfl (vp_in_nI (n := 0) (by decide) (by decide)) d_L_read_9 (fun H locs hP hD hS => ?_)
        rw [show (0 : Int32).toNatClampNeg = 0 from by decide] at hP hD
        have hP : va_P D gC ([(ox, .inl (T.2.2.1, 1, .inr (.inl (vp_updL ov 0 r4.toInt64))))] ++ (cX T aa zw u9 fp u5 u6 u7 u8 kt ft ks fs fc u10 ++ tl T u10)) H := hP
        have hD : va_D A ([(ox, .inl (T.2.2.1, 1, .inr (.inl (vp_updL ov 0 r4.toInt64))))] ++ (cX T aa zw u9 fp u5 u6 u7 u8 kt ft ks fs fc u10 ++ tl T u10)) := hD
        refine lv_goto (tgt := 25) hx hb d_L_read_10 (by decide) ?_
        refine lv_iconst (v := 0) hx hb d_L_read_25 (by decide) ?_
        exact W.iret (v := 0) hx hb hr (fun t ht hW => ⟨⟨0, (vp_updL ov 0 r4.toInt64, u5, u6, u7, u8, u9, u10), rfl, Or.inr (Or.inr (Or.inr (⟨h1, h2, h3, rfl, _, lup0, hr4⟩))), by rw [ht]; exact hP, va_K.moved hW.alike hK, hD⟩, hS.F ht⟩) hS.2.2 d_L_read_26

set_option maxHeartbeats 4000000 in
set_option maxRecDepth 100000 in
theorem k_L_span (l : Launch) (hl9 : l.stackTraces = false) (D : va_G) (T : gT) (κ : gS) (ox : Nat) (ov : Nat → Int64) (aa : Nat → Nat) (zw : Int32) (kp : Nat) (fp : Nat → Int32) (e0 e1 : Int32) (oF oT : Bool) (kt : Nat) (ft : Nat → Int32) (ks : Nat) (fs fc : Nat → Int32) (S : tS) (sz : Nat) (x y : Int32) (hy0 : tOk κ S) : vx_Met l y_L_span (Cond.codeWith y_L_span b_L_span 5 (some .int) [(0, 10, 13, 13), (0, 10, 17, 15)] :: bg_W) ({ frames := 9, cells := 2, slots := 94, locals := 214 }) (qPf κ D T ([(ox, .inl (T.2.2.1, 1, .inr (.inl ov)))] ++ (cX T aa zw kp fp e0 e1 oF oT kt ft ks fs fc S ++ tl T S)) [.ref (aa 0), .int x, .int y, .ref ox] sz) (va_Qi (fun (r : Int32) (u : (Nat → Int64) × Int32 × Int32 × Bool × Bool × tS) => match u with | (ov1, w0, w1, v2, v3, S1) => (j_yy x y = false ∧ r = 1 ∧ S1 = S) ∨ (j_yy x y = true ∧ S.2.2.2.length = 60 ∧ r = 2 ∧ S1 = S) ∨ (j_yy x y = true ∧ S.2.2.2.length < 60 ∧ r = 0 ∧ ∃ v : Int32, ov1 0 = v.toInt64 ∧ v = nI S.2.2.2.length ∧ spP κ S x y false false S1)) (qB D T (va_A ([(ox, .inl (T.2.2.1, 1, .inr (.inl ov)))] ++ (cX T aa zw kp fp e0 e1 oF oT kt ft ks fs fc S ++ tl T S)) sz) (fun u : (Nat → Int64) × Int32 × Int32 × Bool × Bool × tS => match u with | (ov1, w0, w1, v2, v3, S1) => [(ox, .inl (T.2.2.1, 1, .inr (.inl ov1)))] ++ (cX T aa zw kp fp w0 w1 v2 v3 kt ft ks fs fc S1 ++ tl T S1))) (va_A ([(ox, .inl (T.2.2.1, 1, .inr (.inl ov)))] ++ (cX T aa zw kp fp e0 e1 oF oT kt ft ks fs fc S ++ tl T S)) sz)) xF 2 94 (va_A ([(ox, .inl (T.2.2.1, 1, .inr (.inl ov)))] ++ (cX T aa zw kp fp e0 e1 oF oT kt ft ks fs fc S ++ tl T S)) sz) := by
  refine vx_ofWH (cc := b_L_span) (maxL := 5) (ret := (some .int)) (hh := [(0, 10, 13, 13), (0, 10, 17, 15)]) (by decide) rfl ?_
  intro p e s m args below meth c s₁ B hml hv
  obtain ⟨rfl, hsz, hP, hK, hD0, hF⟩ := hv
  refine vx_ret ?_
  have hx := B.exec
  have hb := B.bytes
  have hr := B.returns
  have hw : ∀ w ∈ bg_W, w.before ([.ref (aa 0), .int x, .int y, .ref ox] : List Value).toArray s = true := fun w h => atoms_spec (ws := (Cond.codeWith y_L_span b_L_span 5 (some .int) [(0, 10, 13, 13), (0, 10, 17, 15)] :: bg_W)) B.pre w (List.mem_cons_of_mem _ h)
  have htab := vx_table (x := y_L_span) B (atoms_spec (ws := (Cond.codeWith y_L_span b_L_span 5 (some .int) [(0, 10, 13, 13), (0, 10, 17, 15)] :: bg_W)) B.pre _ List.mem_cons_self)
  have hown : s.vm.findClass "TimeWordsLaw" = some m.cls := findClass_of_methodNamed B.named
  have hlocks := B.notSynchronized
  subst hsz
  have hD := hD0.self (sz := s.heap.size)
  generalize hAe : va_A ([(ox, .inl (T.2.2.1, 1, .inr (.inl ov)))] ++ (cX T aa zw kp fp e0 e1 oF oT kt ft ks fs fc S ++ tl T S)) s.heap.size = A at hD hF ⊢
  have hA : ∀ q : Nat, s.heap.size ≤ q → A q := fun q h => by rw [← hAe]; exact Or.inr h
  have hS : va_S A s.heap s.heap [] := va_S.rf
  have hl := lv_entry ([.ref (aa 0), .int x, .int y, .ref ox]) (n := 5) (Nat.le_of_ble_eq_true rfl)
  rw [lg_entry_eq]
  generalize (lg_sl ([.ref (aa 0), .int x, .int y, .ref ox]) ++ List.replicate (5 - (lg_sl ([.ref (aa 0), .int x, .int y, .ref ox])).length) Slot.unset).toArray = ls at hl ⊢
  have hl : lv_has ls 5 [(0, .ref (aa 0)), (1, .int x), (2, .int y), (3, .ref ox)] := hl
  rcases bo_f (b := j_yy x y) with h1 | h1
  · refine lv_aload_n hx hb d_L_span_0 rfl (lv_at hl 3 rfl) ?_
    refine lv_iconst (v := 0) hx hb d_L_span_1 (by decide) ?_
    refine lv_aload_n hx hb d_L_span_2 rfl (lv_at hl 0 rfl) ?_
    refine lv_iload_n hx hb d_L_span_3 rfl (lv_at hl 1 rfl) ?_
    refine lv_iload_n hx hb d_L_span_4 rfl (lv_at hl 2 rfl) ?_
    have hPc : va_P D gC (cX T aa zw kp fp e0 e1 oF oT kt ft ks fs fc S ++ tl T S) s.heap := hP.rt
    have hDc : va_D A (cX T aa zw kp fp e0 e1 oF oT kt ft ks fs fc S ++ tl T S) := hD.rt
    refine x_try (vx_runV (As := [.int x, .int y]) (rest := [.int 0, .ref ox]) ⟨hx, hb, hml, hown, hw⟩ (k_T_span_x l hl9 D T κ A aa zw kp fp e0 e1 oF oT kt ft ks fs fc S s.heap.size x y h1) (cwV 2 hw (bg_V ml_L_38 wi_T_span wv_T_span wz_T wc_T_span) rfl rfl rfl (by decide +kernel) ⟨Nat.le_of_ble_eq_true rfl, Nat.le_of_ble_eq_true rfl⟩) ⟨xPf_b, va_recv hK hPc (ci := 5) (q0 := 0) rfl rfl, xPf_p hPc hK hF hS⟩ rfl rfl hl.1 rfl (lv_room (Nat.le_of_ble_eq_true rfl)) d_L_span_5 ⟨Nat.le_of_ble_eq_true rfl, Nat.le_of_ble_eq_true rfl⟩) hP hS hA (fun ce q9 H locs hP hS k1 k2 k3 => ?_)
    refine vx_catch (E := "java/lang/IllegalArgumentException") (name := "java/lang/IllegalArgumentException") hown [] ⟨0, 10, 13, 13⟩ [⟨0, 10, 17, 15⟩] htab (fun _ h => absurd h List.not_mem_nil) rfl (by decide) (hw _ kl_L_13) (Nw_at (w := Cond.castable "java/lang/IllegalArgumentException" "java/lang/IllegalArgumentException") (hF.2.2.2.1 _ (by simp [sC])) rfl) k1 k2 k3 ?_
    refine lv_astore (lv' := [(4, .ref q9), (0, .ref (aa 0)), (1, .int x), (2, .int y), (3, .ref ox)]) hx hb d_L_span_13 hl (by decide) rfl (fun ls hl => ?_)
    refine lv_iconst (v := 1) hx hb d_L_span_15 (by decide) ?_
    refine W.widen (k := 2) (n := 94) (by omega) (by omega) ?_
    exact W.iret (v := 1) hx hb hr (fun t ht hW => ⟨⟨1, (ov, e0, e1, oF, oT, S), rfl, Or.inl (⟨h1, rfl, rfl⟩), by rw [ht]; exact hP, va_K.moved hW.alike hK, hD⟩, hS.F ht⟩) hS.2.2 d_L_span_16
  · rcases (show S.2.2.2.length = 60 ∨ S.2.2.2.length < 60 from by have := hy0.2.2.2.2; omega) with h3 | h3
    · refine lv_aload_n hx hb d_L_span_0 rfl (lv_at hl 3 rfl) ?_
      refine lv_iconst (v := 0) hx hb d_L_span_1 (by decide) ?_
      refine lv_aload_n hx hb d_L_span_2 rfl (lv_at hl 0 rfl) ?_
      refine lv_iload_n hx hb d_L_span_3 rfl (lv_at hl 1 rfl) ?_
      refine lv_iload_n hx hb d_L_span_4 rfl (lv_at hl 2 rfl) ?_
      have hPc : va_P D gC (cX T aa zw kp fp e0 e1 oF oT kt ft ks fs fc S ++ tl T S) s.heap := hP.rt
      have hDc : va_D A (cX T aa zw kp fp e0 e1 oF oT kt ft ks fs fc S ++ tl T S) := hD.rt
      refine x_try (vx_runV (As := [.int x, .int y]) (rest := [.int 0, .ref ox]) ⟨hx, hb, hml, hown, hw⟩ (k_T_span_y l hl9 D T κ A aa zw kp fp e0 e1 oF oT kt ft ks fs fc S s.heap.size x y h1 h3) (cwV 2 hw (bg_V ml_L_38 wi_T_span wv_T_span wz_T wc_T_span) rfl rfl rfl (by decide +kernel) ⟨Nat.le_of_ble_eq_true rfl, Nat.le_of_ble_eq_true rfl⟩) ⟨xPf_b, va_recv hK hPc (ci := 5) (q0 := 0) rfl rfl, xPf_p hPc hK hF hS⟩ rfl rfl hl.1 rfl (lv_room (Nat.le_of_ble_eq_true rfl)) d_L_span_5 ⟨Nat.le_of_ble_eq_true rfl, Nat.le_of_ble_eq_true rfl⟩) hP hS hA (fun ce q9 H locs hP hS k1 k2 k3 => ?_)
      refine vx_catch (E := "java/lang/IllegalStateException") (name := "java/lang/IllegalStateException") hown [⟨0, 10, 13, 13⟩] ⟨0, 10, 17, 15⟩ [] htab (List.forall_mem_cons.mpr ⟨Or.inr ⟨by decide, "java/lang/IllegalArgumentException", hw _ kl_L_13, hF.2.2.1.2.2.2 ("java/lang/IllegalStateException", "java/lang/IllegalArgumentException") (by simp [sN])⟩, fun _ h => absurd h List.not_mem_nil⟩) rfl (by decide) (hw _ kl_L_15) (Nw_at (w := Cond.castable "java/lang/IllegalStateException" "java/lang/IllegalStateException") (hF.2.2.2.1 _ (by simp [sC])) rfl) k1 k2 k3 ?_
      refine lv_astore (lv' := [(4, .ref q9), (0, .ref (aa 0)), (1, .int x), (2, .int y), (3, .ref ox)]) hx hb d_L_span_17 hl (by decide) rfl (fun ls hl => ?_)
      refine lv_iconst (v := 2) hx hb d_L_span_19 (by decide) ?_
      refine W.widen (k := 2) (n := 94) (by omega) (by omega) ?_
      exact W.iret (v := 2) hx hb hr (fun t ht hW => ⟨⟨2, (ov, e0, e1, oF, oT, S), rfl, Or.inr (Or.inl (⟨h1, h3, rfl, rfl⟩)), by rw [ht]; exact hP, va_K.moved hW.alike hK, hD⟩, hS.F ht⟩) hS.2.2 d_L_span_20
    · refine lv_aload_n hx hb d_L_span_0 rfl (lv_at hl 3 rfl) ?_
      refine lv_iconst (v := 0) hx hb d_L_span_1 (by decide) ?_
      refine lv_aload_n hx hb d_L_span_2 rfl (lv_at hl 0 rfl) ?_
      refine lv_iload_n hx hb d_L_span_3 rfl (lv_at hl 1 rfl) ?_
      refine lv_iload_n hx hb d_L_span_4 rfl (lv_at hl 2 rfl) ?_
      have hPc : va_P D gC (cX T aa zw kp fp e0 e1 oF oT kt ft ks fs fc S ++ tl T S) s.heap := hP.rt
      have hDc : va_D A (cX T aa zw kp fp e0 e1 oF oT kt ft ks fs fc S ++ tl T S) := hD.rt
      refine g_blki (B := [(ox, .inl (T.2.2.1, 1, .inr (.inl ov)))]) (C := cX T aa zw kp fp e0 e1 oF oT kt ft ks fs fc S ++ tl T S) (va_runV (As := [.int x, .int y]) (rest := [.int 0, .ref ox]) ⟨hx, hb, hml, hown, hw⟩ (k_T_span l D T κ aa zw kp fp e0 e1 oF oT kt ft ks fs fc S s.heap.size x y hy0 h1 h3) (cwV 2 hw (bg_V ml_L_38 wi_T_span wv_T_span wz_T wc_T_span) rfl rfl rfl (by decide +kernel) ⟨Nat.le_of_ble_eq_true rfl, Nat.le_of_ble_eq_true rfl⟩) ⟨qPf_b, va_recv hK hPc (ci := 5) (q0 := 0) rfl rfl, qPf_p hPc hK hDc hF hS (g_free hDc hS hA)⟩ rfl rfl hl.1 rfl (lv_room (Nat.le_of_ble_eq_true rfl)) d_L_span_5 ⟨Nat.le_of_ble_eq_true rfl, Nat.le_of_ble_eq_true rfl⟩) hP hD hS hA (fun r3 u9 H locs hr3 hP hD hS => ?_)
      obtain ⟨u4, u5, u6, u7, u8⟩ := u9
      dsimp only at hr3 hP hD
      have hP : va_P D gC ([(ox, .inl (T.2.2.1, 1, .inr (.inl ov)))] ++ (cX T aa zw kp fp u4 u5 u6 u7 kt ft ks fs fc u8 ++ tl T u8)) H := hP
      have hD : va_D A ([(ox, .inl (T.2.2.1, 1, .inr (.inl ov)))] ++ (cX T aa zw kp fp u4 u5 u6 u7 kt ft ks fs fc u8 ++ tl T u8)) := hD
      refine lv_i2l hx hb d_L_span_8 rfl ?_
      refine va_last hx hb hK hP hD hS 0 2 rfl rfl (vp_in_nI (n := 0) (by decide) (by decide)) d_L_span_9 (fun H locs hP hD hS => ?_)
      rw [show (0 : Int32).toNatClampNeg = 0 from by decide] at hP hD
      have hP : va_P D gC ([(ox, .inl (T.2.2.1, 1, .inr (.inl (vp_updL ov 0 r3.toInt64))))] ++ (cX T aa zw kp fp u4 u5 u6 u7 kt ft ks fs fc u8 ++ tl T u8)) H := hP
      have hD : va_D A ([(ox, .inl (T.2.2.1, 1, .inr (.inl (vp_updL ov 0 r3.toInt64))))] ++ (cX T aa zw kp fp u4 u5 u6 u7 kt ft ks fs fc u8 ++ tl T u8)) := hD
      refine lv_goto (tgt := 21) hx hb d_L_span_10 (by decide) ?_
      refine lv_iconst (v := 0) hx hb d_L_span_21 (by decide) ?_
      exact W.iret (v := 0) hx hb hr (fun t ht hW => ⟨⟨0, (vp_updL ov 0 r3.toInt64, u4, u5, u6, u7, u8), rfl, Or.inr (Or.inr (⟨h1, h3, rfl, _, lup0, hr3.1, hr3.2⟩)), by rw [ht]; exact hP, va_K.moved hW.alike hK, hD⟩, hS.F ht⟩) hS.2.2 d_L_span_22
