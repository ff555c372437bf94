set_option maxHeartbeats 4000000 in
set_option maxRecDepth 100000 in
theorem k_L_end (l : Launch) (hl9 : l.stackTraces = false) (D : va_G) (T : gT) (κ : gS) (ox : Nat) (ov : Nat → Int64) (aa : Nat → Nat) (zw : Int32) (kp : Nat) (fp : Nat → Int32) (e0 e1 : Int32) (oF oT : Bool) (kt : Nat) (ft : Nat → Int32) (ks : Nat) (fs fc : Nat → Int32) (S : tS) (sz : Nat) (xs wh : Int32) (hy0 : tOk κ S) : vx_Met l y_L_end (Cond.codeWith y_L_end b_L_end 5 (some .int) [(0, 10, 13, 25), (0, 10, 17, 15)] :: bg_W) ({ frames := 9, cells := 1, slots := 6, locals := 154 }) (qPf κ D T ([(ox, .inl (T.2.2.1, 1, .inr (.inl ov)))] ++ (cX T aa zw kp fp e0 e1 oF oT kt ft ks fs fc S ++ tl T S)) [.ref (aa 0), .int xs, .int wh, .ref ox] sz) (va_Qi (fun (r : Int32) (ov1 : (Nat → Int64)) => (j_ix xs (nI S.2.2.2.length) = false ∧ r = 1) ∨ (∃ (j : Nat) (q : spD), xs = nI j ∧ S.2.2.2[j]? = some q ∧ ((j_in wh 0 1 = false ∧ r = 1) ∨ (j_in wh 0 1 = true ∧ (if wh = 0 then q.2.2.2.1 else q.2.2.2.2) = true ∧ r = 2) ∨ (j_in wh 0 1 = true ∧ (if wh = 0 then q.2.2.2.1 else q.2.2.2.2) = false ∧ r = 0 ∧ ∃ v : Int32, ov1 0 = v.toInt64 ∧ v = (if wh = 0 then q.2.1 else q.2.2.1))))) (qB D T (va_A ([(ox, .inl (T.2.2.1, 1, .inr (.inl ov)))] ++ (cX T aa zw kp fp e0 e1 oF oT kt ft ks fs fc S ++ tl T S)) sz) (fun ov1 : (Nat → Int64) => [(ox, .inl (T.2.2.1, 1, .inr (.inl ov1)))] ++ (cX T aa zw kp fp e0 e1 oF oT kt ft ks fs fc S ++ tl T S))) (va_A ([(ox, .inl (T.2.2.1, 1, .inr (.inl ov)))] ++ (cX T aa zw kp fp e0 e1 oF oT kt ft ks fs fc S ++ tl T S)) sz)) xF 1 6 (va_A ([(ox, .inl (T.2.2.1, 1, .inr (.inl ov)))] ++ (cX T aa zw kp fp e0 e1 oF oT kt ft ks fs fc S ++ tl T S)) sz) := by
  refine vx_ofWH (cc := b_L_end) (maxL := 5) (ret := (some .int)) (hh := [(0, 10, 13, 25), (0, 10, 17, 15)]) (by decide) rfl ?_
  intro p e s m args below meth c s₁ B hml hv
  obtain ⟨rfl, hsz, hP, hK, hD0, hF⟩ := hv
  refine vx_ret ?_
  have hx := B.exec
  have hb := B.bytes
  have hr := B.returns
  have hw : ∀ w ∈ bg_W, w.before ([.ref (aa 0), .int xs, .int wh, .ref ox] : List Value).toArray s = true := fun w h => atoms_spec (ws := (Cond.codeWith y_L_end b_L_end 5 (some .int) [(0, 10, 13, 25), (0, 10, 17, 15)] :: bg_W)) B.pre w (List.mem_cons_of_mem _ h)
  have htab := vx_table (x := y_L_end) B (atoms_spec (ws := (Cond.codeWith y_L_end b_L_end 5 (some .int) [(0, 10, 13, 25), (0, 10, 17, 15)] :: bg_W)) B.pre _ List.mem_cons_self)
  have hown : s.vm.findClass "TimeWordsLaw" = some m.cls := findClass_of_methodNamed B.named
  have hlocks := B.notSynchronized
  subst hsz
  have hD := hD0.self (sz := s.heap.size)
  generalize hAe : va_A ([(ox, .inl (T.2.2.1, 1, .inr (.inl ov)))] ++ (cX T aa zw kp fp e0 e1 oF oT kt ft ks fs fc S ++ tl T S)) s.heap.size = A at hD hF ⊢
  have hA : ∀ q : Nat, s.heap.size ≤ q → A q := fun q h => by rw [← hAe]; exact Or.inr h
  have hS : va_S A s.heap s.heap [] := va_S.rf
  have hl := lv_entry ([.ref (aa 0), .int xs, .int wh, .ref ox]) (n := 5) (Nat.le_of_ble_eq_true rfl)
  rw [lg_entry_eq]
  generalize (lg_sl ([.ref (aa 0), .int xs, .int wh, .ref ox]) ++ List.replicate (5 - (lg_sl ([.ref (aa 0), .int xs, .int wh, .ref ox])).length) Slot.unset).toArray = ls at hl ⊢
  have hl : lv_has ls 5 [(0, .ref (aa 0)), (1, .int xs), (2, .int wh), (3, .ref ox)] := hl
  rcases lx_s hy0 xs with h0 | ⟨j, q, rfl, hj⟩
  · refine lv_aload_n hx hb d_L_end_0 rfl (lv_at hl 3 rfl) ?_
    refine lv_iconst (v := 0) hx hb d_L_end_1 (by decide) ?_
    refine lv_aload_n hx hb d_L_end_2 rfl (lv_at hl 0 rfl) ?_
    refine lv_iload_n hx hb d_L_end_3 rfl (lv_at hl 1 rfl) ?_
    refine lv_iload_n hx hb d_L_end_4 rfl (lv_at hl 2 rfl) ?_
    have hPc : va_P D gC (cX T aa zw kp fp e0 e1 oF oT kt ft ks fs fc S ++ tl T S) s.heap := hP.rt
    have hDc : va_D A (cX T aa zw kp fp e0 e1 oF oT kt ft ks fs fc S ++ tl T S) := hD.rt
    refine x_try (vx_runV (As := [.int xs, .int wh]) (rest := [.int 0, .ref ox]) ⟨hx, hb, hml, hown, hw⟩ (k_T_end_x l hl9 D T κ A aa zw kp fp e0 e1 oF oT kt ft ks fs fc S s.heap.size xs wh h0) (cwV 2 hw (bg_V ml_L_41 wi_T_end wv_T_end wz_T wc_T_end) rfl rfl rfl (by decide +kernel) ⟨Nat.le_of_ble_eq_true rfl, Nat.le_of_ble_eq_true rfl⟩) ⟨xPf_b, va_recv hK hPc (ci := 5) (q0 := 0) rfl rfl, xPf_p hPc hK hF hS⟩ rfl rfl hl.1 rfl (lv_room (Nat.le_of_ble_eq_true rfl)) d_L_end_5 ⟨Nat.le_of_ble_eq_true rfl, Nat.le_of_ble_eq_true rfl⟩) hP hS hA (fun ce q9 H locs hP hS k1 k2 k3 => ?_)
    refine vx_catch (E := "java/lang/IndexOutOfBoundsException") (name := "java/lang/IndexOutOfBoundsException") hown [] ⟨0, 10, 13, 25⟩ [⟨0, 10, 17, 15⟩] htab (fun _ h => absurd h List.not_mem_nil) rfl (by decide) (hw _ kl_L_25) (Nw_at (w := Cond.castable "java/lang/IndexOutOfBoundsException" "java/lang/IndexOutOfBoundsException") (hF.2.2.2.1 _ (by simp [sC])) rfl) k1 k2 k3 ?_
    refine lv_astore (lv' := [(4, .ref q9), (0, .ref (aa 0)), (1, .int xs), (2, .int wh), (3, .ref ox)]) hx hb d_L_end_13 hl (by decide) rfl (fun ls hl => ?_)
    refine lv_iconst (v := 1) hx hb d_L_end_15 (by decide) ?_
    exact W.iret (v := 1) hx hb hr (fun t ht hW => ⟨⟨1, ov, rfl, Or.inl (⟨h0, rfl⟩), by rw [ht]; exact hP, va_K.moved hW.alike hK, hD⟩, hS.F ht⟩) hS.2.2 d_L_end_16
  · rcases bo_f (b := j_in wh 0 1) with h1 | h1
    · refine lv_aload_n hx hb d_L_end_0 rfl (lv_at hl 3 rfl) ?_
      refine lv_iconst (v := 0) hx hb d_L_end_1 (by decide) ?_
      refine lv_aload_n hx hb d_L_end_2 rfl (lv_at hl 0 rfl) ?_
      refine lv_iload_n hx hb d_L_end_3 rfl (lv_at hl 1 rfl) ?_
      refine lv_iload_n hx hb d_L_end_4 rfl (lv_at hl 2 rfl) ?_
      have hPc : va_P D gC (cX T aa zw kp fp e0 e1 oF oT kt ft ks fs fc S ++ tl T S) s.heap := hP.rt
      have hDc : va_D A (cX T aa zw kp fp e0 e1 oF oT kt ft ks fs fc S ++ tl T S) := hD.rt
      refine x_try (vx_runV (As := [.int (nI j), .int wh]) (rest := [.int 0, .ref ox]) ⟨hx, hb, hml, hown, hw⟩ (k_T_end_y l hl9 D T κ A aa zw kp fp e0 e1 oF oT kt ft ks fs fc S s.heap.size j q wh hy0 hj h1) (cwV 2 hw (bg_V ml_L_41 wi_T_end wv_T_end wz_T wc_T_end) rfl rfl rfl (by decide +kernel) ⟨Nat.le_of_ble_eq_true rfl, Nat.le_of_ble_eq_true rfl⟩) ⟨xPf_b, va_recv hK hPc (ci := 5) (q0 := 0) rfl rfl, xPf_p hPc hK hF hS⟩ rfl rfl hl.1 rfl (lv_room (Nat.le_of_ble_eq_true rfl)) d_L_end_5 ⟨Nat.le_of_ble_eq_true rfl, Nat.le_of_ble_eq_true rfl⟩) hP hS hA (fun ce q9 H locs hP hS k1 k2 k3 => ?_)
      refine vx_catch (E := "java/lang/IndexOutOfBoundsException") (name := "java/lang/IndexOutOfBoundsException") hown [] ⟨0, 10, 13, 25⟩ [⟨0, 10, 17, 15⟩] htab (fun _ h => absurd h List.not_mem_nil) rfl (by decide) (hw _ kl_L_25) (Nw_at (w := Cond.castable "java/lang/IndexOutOfBoundsException" "java/lang/IndexOutOfBoundsException") (hF.2.2.2.1 _ (by simp [sC])) rfl) k1 k2 k3 ?_
      refine lv_astore (lv' := [(4, .ref q9), (0, .ref (aa 0)), (1, .int (nI j)), (2, .int wh), (3, .ref ox)]) hx hb d_L_end_13 hl (by decide) rfl (fun ls hl => ?_)
      refine lv_iconst (v := 1) hx hb d_L_end_15 (by decide) ?_
      exact W.iret (v := 1) hx hb hr (fun t ht hW => ⟨⟨1, ov, rfl, Or.inr (⟨j, q, rfl, hj, Or.inl (⟨h1, rfl⟩)⟩), by rw [ht]; exact hP, va_K.moved hW.alike hK, hD⟩, hS.F ht⟩) hS.2.2 d_L_end_16
    · rcases bo_f (b := (if wh = 0 then q.2.2.2.1 else q.2.2.2.2)) with h2 | h2
      · refine lv_aload_n hx hb d_L_end_0 rfl (lv_at hl 3 rfl) ?_
        refine lv_iconst (v := 0) hx hb d_L_end_1 (by decide) ?_
        refine lv_aload_n hx hb d_L_end_2 rfl (lv_at hl 0 rfl) ?_
        refine lv_iload_n hx hb d_L_end_3 rfl (lv_at hl 1 rfl) ?_
        refine lv_iload_n hx hb d_L_end_4 rfl (lv_at hl 2 rfl) ?_
        have hPc : va_P D gC (cX T aa zw kp fp e0 e1 oF oT kt ft ks fs fc S ++ tl T S) s.heap := hP.rt
        have hDc : va_D A (cX T aa zw kp fp e0 e1 oF oT kt ft ks fs fc S ++ tl T S) := hD.rt
        refine vp_callSi (va_Run.run (va_runV (As := [.int (nI j), .int wh]) (rest := [.int 0, .ref ox]) ⟨hx, hb, hml, hown, hw⟩ (k_T_end l D T κ A aa zw kp fp e0 e1 oF oT kt ft ks fs fc S j q wh hy0 hj h1 h2) (cwV 2 hw (bg_V ml_L_41 wi_T_end wv_T_end wz_T wc_T_end) rfl rfl rfl (by decide +kernel) ⟨Nat.le_of_ble_eq_true rfl, Nat.le_of_ble_eq_true rfl⟩) ⟨sPf_b, va_recv hK hPc (ci := 5) (q0 := 0) rfl rfl, sPf_p hPc hK hF hS⟩ rfl rfl hl.1 rfl (lv_room (Nat.le_of_ble_eq_true rfl)) d_L_end_5 ⟨Nat.le_of_ble_eq_true rfl, Nat.le_of_ble_eq_true rfl⟩)) (fun r3 hr3 => ?_)
        refine lv_i2l hx hb d_L_end_8 rfl ?_
        refine va_last hx hb hK hP hD hS 0 2 rfl rfl (vp_in_nI (n := 0) (by decide) (by decide)) d_L_end_9 (fun H locs hP hD hS => ?_)
        rw [show (0 : Int32).toNatClampNeg = 0 from by decide] at hP hD
        have hP : va_P D gC ([(ox, .inl (T.2.2.1, 1, .inr (.inl (vp_updL ov 0 r3.toInt64))))] ++ (cX T aa zw kp fp e0 e1 oF oT kt ft ks fs fc S ++ tl T S)) H := hP
        have hD : va_D A ([(ox, .inl (T.2.2.1, 1, .inr (.inl (vp_updL ov 0 r3.toInt64))))] ++ (cX T aa zw kp fp e0 e1 oF oT kt ft ks fs fc S ++ tl T S)) := hD
        refine lv_goto (tgt := 21) hx hb d_L_end_10 (by decide) ?_
        refine lv_iconst (v := 0) hx hb d_L_end_21 (by decide) ?_
        refine W.widen (k := 1) (n := 6) (by omega) (by omega) ?_
        exact W.iret (v := 0) hx hb hr (fun t ht hW => ⟨⟨0, vp_updL ov 0 r3.toInt64, rfl, Or.inr (⟨j, q, rfl, hj, Or.inr (Or.inr (⟨h1, h2, rfl, _, lup0, hr3⟩))⟩), by rw [ht]; exact hP, va_K.moved hW.alike hK, hD⟩, hS.F ht⟩) hS.2.2 d_L_end_22
      · refine lv_aload_n hx hb d_L_end_0 rfl (lv_at hl 3 rfl) ?_
        refine lv_iconst (v := 0) hx hb d_L_end_1 (by decide) ?_
        refine lv_aload_n hx hb d_L_end_2 rfl (lv_at hl 0 rfl) ?_
        refine lv_iload_n hx hb d_L_end_3 rfl (lv_at hl 1 rfl) ?_
        refine lv_iload_n hx hb d_L_end_4 rfl (lv_at hl 2 rfl) ?_
        have hPc : va_P D gC (cX T aa zw kp fp e0 e1 oF oT kt ft ks fs fc S ++ tl T S) s.heap := hP.rt
        have hDc : va_D A (cX T aa zw kp fp e0 e1 oF oT kt ft ks fs fc S ++ tl T S) := hD.rt
        refine x_try (vx_runV (As := [.int (nI j), .int wh]) (rest := [.int 0, .ref ox]) ⟨hx, hb, hml, hown, hw⟩ (k_T_end_z l hl9 D T κ A aa zw kp fp e0 e1 oF oT kt ft ks fs fc S s.heap.size j q wh hy0 hj h1 h2) (cwV 2 hw (bg_V ml_L_41 wi_T_end wv_T_end wz_T wc_T_end) rfl rfl rfl (by decide +kernel) ⟨Nat.le_of_ble_eq_true rfl, Nat.le_of_ble_eq_true rfl⟩) ⟨xPf_b, va_recv hK hPc (ci := 5) (q0 := 0) rfl rfl, xPf_p hPc hK hF hS⟩ rfl rfl hl.1 rfl (lv_room (Nat.le_of_ble_eq_true rfl)) d_L_end_5 ⟨Nat.le_of_ble_eq_true rfl, Nat.le_of_ble_eq_true rfl⟩) hP hS hA (fun ce q9 H locs hP hS k1 k2 k3 => ?_)
        refine vx_catch (E := "java/lang/IllegalStateException") (name := "java/lang/IllegalStateException") hown [⟨0, 10, 13, 25⟩] ⟨0, 10, 17, 15⟩ [] htab (List.forall_mem_cons.mpr ⟨Or.inr ⟨by decide, "java/lang/IndexOutOfBoundsException", hw _ kl_L_25, hF.2.2.1.2.2.2 ("java/lang/IllegalStateException", "java/lang/IndexOutOfBoundsException") (by simp [sN])⟩, fun _ h => absurd h List.not_mem_nil⟩) rfl (by decide) (hw _ kl_L_15) (Nw_at (w := Cond.castable "java/lang/IllegalStateException" "java/lang/IllegalStateException") (hF.2.2.2.1 _ (by simp [sC])) rfl) k1 k2 k3 ?_
        refine lv_astore (lv' := [(4, .ref q9), (0, .ref (aa 0)), (1, .int (nI j)), (2, .int wh), (3, .ref ox)]) hx hb d_L_end_17 hl (by decide) rfl (fun ls hl => ?_)
        refine lv_iconst (v := 2) hx hb d_L_end_19 (by decide) ?_
        exact W.iret (v := 2) hx hb hr (fun t ht hW => ⟨⟨2, ov, rfl, Or.inr (⟨j, q, rfl, hj, Or.inr (Or.inl (⟨h1, h2, rfl⟩))⟩), by rw [ht]; exact hP, va_K.moved hW.alike hK, hD⟩, hS.F ht⟩) hS.2.2 d_L_end_20

set_option maxHeartbeats 4000000 in
set_option maxRecDepth 100000 in
theorem k_L_open (l : Launch) (hl9 : l.stackTraces = false) (D : va_G) (T : gT) (κ : gS) (ox : Nat) (ov : Nat → Int64) (aa : Nat → Nat) (zw : Int32) (kp : Nat) (fp : Nat → Int32) (e0 e1 : Int32) (oF oT : Bool) (kt : Nat) (ft : Nat → Int32) (ks : Nat) (fs fc : Nat → Int32) (S : tS) (sz : Nat) (xs wh : Int32) (hy0 : tOk κ S) : vx_Met l y_L_open (Cond.codeWith y_L_open b_L_open 5 (some .int) [(0, 17, 20, 25)] :: bg_W) ({ frames := 9, cells := 1, slots := 6, locals := 154 }) (qPf κ D T ([(ox, .inl (T.2.2.1, 1, .inr (.inl ov)))] ++ (cX T aa zw kp fp e0 e1 oF oT kt ft ks fs fc S ++ tl T S)) [.ref (aa 0), .int xs, .int wh, .ref ox] sz) (va_Qi (fun (r : Int32) (ov1 : (Nat → Int64)) => (j_ix xs (nI S.2.2.2.length) = false ∧ r = 1) ∨ (∃ (j : Nat) (q : spD), xs = nI j ∧ S.2.2.2[j]? = some q ∧ ((j_in wh 0 1 = false ∧ r = 1) ∨ (j_in wh 0 1 = true ∧ r = 0 ∧ ∃ v : Int32, ov1 0 = (if v = 0 then 0 else 1) ∧ v = b2i (if wh = 0 then q.2.2.2.1 else q.2.2.2.2))))) (qB D T (va_A ([(ox, .inl (T.2.2.1, 1, .inr (.inl ov)))] ++ (cX T aa zw kp fp e0 e1 oF oT kt ft ks fs fc S ++ tl T S)) sz) (fun ov1 : (Nat → Int64) => [(ox, .inl (T.2.2.1, 1, .inr (.inl ov1)))] ++ (cX T aa zw kp fp e0 e1 oF oT kt ft ks fs fc S ++ tl T S))) (va_A ([(ox, .inl (T.2.2.1, 1, .inr (.inl ov)))] ++ (cX T aa zw kp fp e0 e1 oF oT kt ft ks fs fc S ++ tl T S)) sz)) xF 1 6 (va_A ([(ox, .inl (T.2.2.1, 1, .inr (.inl ov)))] ++ (cX T aa zw kp fp e0 e1 oF oT kt ft ks fs fc S ++ tl T S)) sz) := by
  refine vx_ofWH (cc := b_L_open) (maxL := 5) (ret := (some .int)) (hh := [(0, 17, 20, 25)]) (by decide) rfl ?_
  intro p e s m args below meth c s₁ B hml hv
  obtain ⟨rfl, hsz, hP, hK, hD0, hF⟩ := hv
  refine vx_ret ?_
  have hx := B.exec
  have hb := B.bytes
  have hr := B.returns
  have hw : ∀ w ∈ bg_W, w.before ([.ref (aa 0), .int xs, .int wh, .ref ox] : List Value).toArray s = true := fun w h => atoms_spec (ws := (Cond.codeWith y_L_open b_L_open 5 (some .int) [(0, 17, 20, 25)] :: bg_W)) B.pre w (List.mem_cons_of_mem _ h)
  have htab := vx_table (x := y_L_open) B (atoms_spec (ws := (Cond.codeWith y_L_open b_L_open 5 (some .int) [(0, 17, 20, 25)] :: bg_W)) B.pre _ List.mem_cons_self)
  have hown : s.vm.findClass "TimeWordsLaw" = some m.cls := findClass_of_methodNamed B.named
  have hlocks := B.notSynchronized
  subst hsz
  have hD := hD0.self (sz := s.heap.size)
  generalize hAe : va_A ([(ox, .inl (T.2.2.1, 1, .inr (.inl ov)))] ++ (cX T aa zw kp fp e0 e1 oF oT kt ft ks fs fc S ++ tl T S)) s.heap.size = A at hD hF ⊢
  have hA : ∀ q : Nat, s.heap.size ≤ q → A q := fun q h => by rw [← hAe]; exact Or.inr h
  have hS : va_S A s.heap s.heap [] := va_S.rf
  have hl := lv_entry ([.ref (aa 0), .int xs, .int wh, .ref ox]) (n := 5) (Nat.le_of_ble_eq_true rfl)
  rw [lg_entry_eq]
  generalize (lg_sl ([.ref (aa 0), .int xs, .int wh, .ref ox]) ++ List.replicate (5 - (lg_sl ([.ref (aa 0), .int xs, .int wh, .ref ox])).length) Slot.unset).toArray = ls at hl ⊢
  have hl : lv_has ls 5 [(0, .ref (aa 0)), (1, .int xs), (2, .int wh), (3, .ref ox)] := hl
  rcases lx_s hy0 xs with h0 | ⟨j, q, rfl, hj⟩
  · refine lv_aload_n hx hb d_L_open_0 rfl (lv_at hl 3 rfl) ?_
    refine lv_iconst (v := 0) hx hb d_L_open_1 (by decide) ?_
    refine lv_aload_n hx hb d_L_open_2 rfl (lv_at hl 0 rfl) ?_
    refine lv_iload_n hx hb d_L_open_3 rfl (lv_at hl 1 rfl) ?_
    refine lv_iload_n hx hb d_L_open_4 rfl (lv_at hl 2 rfl) ?_
    have hPc : va_P D gC (cX T aa zw kp fp e0 e1 oF oT kt ft ks fs fc S ++ tl T S) s.heap := hP.rt
    have hDc : va_D A (cX T aa zw kp fp e0 e1 oF oT kt ft ks fs fc S ++ tl T S) := hD.rt
    refine x_try (vx_runV (As := [.int xs, .int wh]) (rest := [.int 0, .ref ox]) ⟨hx, hb, hml, hown, hw⟩ (k_T_open_x l hl9 D T κ A aa zw kp fp e0 e1 oF oT kt ft ks fs fc S s.heap.size xs wh h0) (cwV 2 hw (bg_V ml_L_44 wi_T_open wv_T_open wz_T wc_T_open) rfl rfl rfl (by decide +kernel) ⟨Nat.le_of_ble_eq_true rfl, Nat.le_of_ble_eq_true rfl⟩) ⟨xPf_b, va_recv hK hPc (ci := 5) (q0 := 0) rfl rfl, xPf_p hPc hK hF hS⟩ rfl rfl hl.1 rfl (lv_room (Nat.le_of_ble_eq_true rfl)) d_L_open_5 ⟨Nat.le_of_ble_eq_true rfl, Nat.le_of_ble_eq_true rfl⟩) hP hS hA (fun ce q9 H locs hP hS k1 k2 k3 => ?_)
    refine vx_catch (E := "java/lang/IndexOutOfBoundsException") (name := "java/lang/IndexOutOfBoundsException") hown [] ⟨0, 17, 20, 25⟩ [] htab (fun _ h => absurd h List.not_mem_nil) rfl (by decide) (hw _ kl_L_25) (Nw_at (w := Cond.castable "java/lang/IndexOutOfBoundsException" "java/lang/IndexOutOfBoundsException") (hF.2.2.2.1 _ (by simp [sC])) rfl) k1 k2 k3 ?_
    refine lv_astore (lv' := [(4, .ref q9), (0, .ref (aa 0)), (1, .int xs), (2, .int wh), (3, .ref ox)]) hx hb d_L_open_20 hl (by decide) rfl (fun ls hl => ?_)
    refine lv_iconst (v := 1) hx hb d_L_open_22 (by decide) ?_
    exact W.iret (v := 1) hx hb hr (fun t ht hW => ⟨⟨1, ov, rfl, Or.inl (⟨h0, rfl⟩), by rw [ht]; exact hP, va_K.moved hW.alike hK, hD⟩, hS.F ht⟩) hS.2.2 d_L_open_23
  · rcases bo_f (b := j_in wh 0 1) with h1 | h1
    · refine lv_aload_n hx hb d_L_open_0 rfl (lv_at hl 3 rfl) ?_
      refine lv_iconst (v := 0) hx hb d_L_open_1 (by decide) ?_
      refine lv_aload_n hx hb d_L_open_2 rfl (lv_at hl 0 rfl) ?_
      refine lv_iload_n hx hb d_L_open_3 rfl (lv_at hl 1 rfl) ?_
      refine lv_iload_n hx hb d_L_open_4 rfl (lv_at hl 2 rfl) ?_
      have hPc : va_P D gC (cX T aa zw kp fp e0 e1 oF oT kt ft ks fs fc S ++ tl T S) s.heap := hP.rt
      have hDc : va_D A (cX T aa zw kp fp e0 e1 oF oT kt ft ks fs fc S ++ tl T S) := hD.rt
      refine x_try (vx_runV (As := [.int (nI j), .int wh]) (rest := [.int 0, .ref ox]) ⟨hx, hb, hml, hown, hw⟩ (k_T_open_y l hl9 D T κ A aa zw kp fp e0 e1 oF oT kt ft ks fs fc S s.heap.size j q wh hy0 hj h1) (cwV 2 hw (bg_V ml_L_44 wi_T_open wv_T_open wz_T wc_T_open) rfl rfl rfl (by decide +kernel) ⟨Nat.le_of_ble_eq_true rfl, Nat.le_of_ble_eq_true rfl⟩) ⟨xPf_b, va_recv hK hPc (ci := 5) (q0 := 0) rfl rfl, xPf_p hPc hK hF hS⟩ rfl rfl hl.1 rfl (lv_room (Nat.le_of_ble_eq_true rfl)) d_L_open_5 ⟨Nat.le_of_ble_eq_true rfl, Nat.le_of_ble_eq_true rfl⟩) hP hS hA (fun ce q9 H locs hP hS k1 k2 k3 => ?_)
      refine vx_catch (E := "java/lang/IndexOutOfBoundsException") (name := "java/lang/IndexOutOfBoundsException") hown [] ⟨0, 17, 20, 25⟩ [] htab (fun _ h => absurd h List.not_mem_nil) rfl (by decide) (hw _ kl_L_25) (Nw_at (w := Cond.castable "java/lang/IndexOutOfBoundsException" "java/lang/IndexOutOfBoundsException") (hF.2.2.2.1 _ (by simp [sC])) rfl) k1 k2 k3 ?_
      refine lv_astore (lv' := [(4, .ref q9), (0, .ref (aa 0)), (1, .int (nI j)), (2, .int wh), (3, .ref ox)]) hx hb d_L_open_20 hl (by decide) rfl (fun ls hl => ?_)
      refine lv_iconst (v := 1) hx hb d_L_open_22 (by decide) ?_
      exact W.iret (v := 1) hx hb hr (fun t ht hW => ⟨⟨1, ov, rfl, Or.inr (⟨j, q, rfl, hj, Or.inl (⟨h1, rfl⟩)⟩), by rw [ht]; exact hP, va_K.moved hW.alike hK, hD⟩, hS.F ht⟩) hS.2.2 d_L_open_23
    · refine lv_aload_n hx hb d_L_open_0 rfl (lv_at hl 3 rfl) ?_
      refine lv_iconst (v := 0) hx hb d_L_open_1 (by decide) ?_
      refine lv_aload_n hx hb d_L_open_2 rfl (lv_at hl 0 rfl) ?_
      refine lv_iload_n hx hb d_L_open_3 rfl (lv_at hl 1 rfl) ?_
      refine lv_iload_n hx hb d_L_open_4 rfl (lv_at hl 2 rfl) ?_
      have hPc : va_P D gC (cX T aa zw kp fp e0 e1 oF oT kt ft ks fs fc S ++ tl T S) s.heap := hP.rt
      have hDc : va_D A (cX T aa zw kp fp e0 e1 oF oT kt ft ks fs fc S ++ tl T S) := hD.rt
      refine vp_callSi (va_Run.run (va_runV (As := [.int (nI j), .int wh]) (rest := [.int 0, .ref ox]) ⟨hx, hb, hml, hown, hw⟩ (k_T_open l D T κ A aa zw kp fp e0 e1 oF oT kt ft ks fs fc S j q wh hy0 hj h1) (cwV 2 hw (bg_V ml_L_44 wi_T_open wv_T_open wz_T wc_T_open) rfl rfl rfl (by decide +kernel) ⟨Nat.le_of_ble_eq_true rfl, Nat.le_of_ble_eq_true rfl⟩) ⟨sPf_b, va_recv hK hPc (ci := 5) (q0 := 0) rfl rfl, sPf_p hPc hK hF hS⟩ rfl rfl hl.1 rfl (lv_room (Nat.le_of_ble_eq_true rfl)) d_L_open_5 ⟨Nat.le_of_ble_eq_true rfl, Nat.le_of_ble_eq_true rfl⟩)) (fun r3 hr3 => ?_)
      refine lv_if_eq (tgt := 15) hx hb d_L_open_8 (by decide) (fun c4 => ?_) (fun c4 => ?_)
      · refine lv_lconst (v := 0) hx hb d_L_open_15 (by decide) ?_
        refine va_last hx hb hK hP hD hS 0 2 rfl rfl (vp_in_nI (n := 0) (by decide) (by decide)) d_L_open_16 (fun H locs hP hD hS => ?_)
        rw [show (0 : Int32).toNatClampNeg = 0 from by decide] at hP hD
        have hP : va_P D gC ([(ox, .inl (T.2.2.1, 1, .inr (.inl (vp_updL ov 0 0))))] ++ (cX T aa zw kp fp e0 e1 oF oT kt ft ks fs fc S ++ tl T S)) H := hP
        have hD : va_D A ([(ox, .inl (T.2.2.1, 1, .inr (.inl (vp_updL ov 0 0))))] ++ (cX T aa zw kp fp e0 e1 oF oT kt ft ks fs fc S ++ tl T S)) := hD
        refine lv_goto (tgt := 24) hx hb d_L_open_17 (by decide) ?_
        refine lv_iconst (v := 0) hx hb d_L_open_24 (by decide) ?_
        refine W.widen (k := 1) (n := 6) (by omega) (by omega) ?_
        exact W.iret (v := 0) hx hb hr (fun t ht hW => ⟨⟨0, vp_updL ov 0 0, rfl, Or.inr (⟨j, q, rfl, hj, Or.inr (⟨h1, rfl, _, lup0.trans (if_pos c4).symm, hr3⟩)⟩), by rw [ht]; exact hP, va_K.moved hW.alike hK, hD⟩, hS.F ht⟩) hS.2.2 d_L_open_25
      · refine lv_lconst (v := 1) hx hb d_L_open_11 (by decide) ?_
        refine lv_goto (tgt := 16) hx hb d_L_open_12 (by decide) ?_
        refine va_last hx hb hK hP hD hS 0 2 rfl rfl (vp_in_nI (n := 0) (by decide) (by decide)) d_L_open_16 (fun H locs hP hD hS => ?_)
        rw [show (0 : Int32).toNatClampNeg = 0 from by decide] at hP hD
        have hP : va_P D gC ([(ox, .inl (T.2.2.1, 1, .inr (.inl (vp_updL ov 0 1))))] ++ (cX T aa zw kp fp e0 e1 oF oT kt ft ks fs fc S ++ tl T S)) H := hP
        have hD : va_D A ([(ox, .inl (T.2.2.1, 1, .inr (.inl (vp_updL ov 0 1))))] ++ (cX T aa zw kp fp e0 e1 oF oT kt ft ks fs fc S ++ tl T S)) := hD
        refine lv_goto (tgt := 24) hx hb d_L_open_17 (by decide) ?_
        refine lv_iconst (v := 0) hx hb d_L_open_24 (by decide) ?_
        refine W.widen (k := 1) (n := 6) (by omega) (by omega) ?_
        exact W.iret (v := 0) hx hb hr (fun t ht hW => ⟨⟨0, vp_updL ov 0 1, rfl, Or.inr (⟨j, q, rfl, hj, Or.inr (⟨h1, rfl, _, lup0.trans (if_neg c4).symm, hr3⟩)⟩), by rw [ht]; exact hP, va_K.moved hW.alike hK, hD⟩, hS.F ht⟩) hS.2.2 d_L_open_25

set_option maxHeartbeats 4000000 in
set_option maxRecDepth 100000 in
theorem k_L_join (l : Launch) (hl9 : l.stackTraces = false) (D : va_G) (T : gT) (κ : gS) (ox : Nat) (ov : Nat → Int64) (aa : Nat → Nat) (zw : Int32) (kp : Nat) (fp : Nat → Int32) (e0 e1 : Int32) (oF oT : Bool) (kt : Nat) (ft : Nat → Int32) (ks : Nat) (fs fc : Nat → Int32) (S : tS) (sz : Nat) (xs ys : Int32) (hy0 : tOk κ S) : vx_Met l y_L_join (Cond.codeWith y_L_join b_L_join 5 (some .int) [(0, 10, 13, 25), (0, 10, 17, 15)] :: bg_W) ({ frames := 9, cells := 2, slots := 94, locals := 216 }) (qPf κ D T ([(ox, .inl (T.2.2.1, 1, .inr (.inl ov)))] ++ (cX T aa zw kp fp e0 e1 oF oT kt ft ks fs fc S ++ tl T S)) [.ref (aa 0), .int xs, .int ys, .ref ox] sz) (va_Qi (fun (r : Int32) (u : (Nat → Int64) × Int32 × Int32 × Bool × Bool × tS) => match u with | (ov1, w0, w1, v2, v3, S1) => (j_ix xs (nI S.2.2.2.length) = false ∧ r = 1 ∧ S1 = S) ∨ (∃ (j : Nat) (q : spD), xs = nI j ∧ S.2.2.2[j]? = some q ∧ ((j_ix ys (nI S.2.2.2.length) = false ∧ r = 1 ∧ S1 = S) ∨ (∃ (j2 : Nat) (q2 : spD), ys = nI j2 ∧ S.2.2.2[j2]? = some q2 ∧ ((S.2.2.2.length = 60 ∧ r = 2 ∧ S1 = S) ∨ (S.2.2.2.length < 60 ∧ r = 0 ∧ ∃ v : Int32, ov1 0 = v.toInt64 ∧ v = nI S.2.2.2.length ∧ spP κ S (if q2.2.1 < q.2.1 then q2.2.1 else q.2.1) (if q.2.2.1 < q2.2.2.1 then q2.2.2.1 else q.2.2.1) (q.2.2.2.1 || q2.2.2.2.1) (q.2.2.2.2 || q2.2.2.2.2) S1)))))) (qB D T (va_A ([(ox, .inl (T.2.2.1, 1, .inr (.inl ov)))] ++ (cX T aa zw kp fp e0 e1 oF oT kt ft ks fs fc S ++ tl T S)) sz) (fun u : (Nat → Int64) × Int32 × Int32 × Bool × Bool × tS => match u with | (ov1, w0, w1, v2, v3, S1) => [(ox, .inl (T.2.2.1, 1, .inr (.inl ov1)))] ++ (cX T aa zw kp fp w0 w1 v2 v3 kt ft ks fs fc S1 ++ tl T S1))) (va_A ([(ox, .inl (T.2.2.1, 1, .inr (.inl ov)))] ++ (cX T aa zw kp fp e0 e1 oF oT kt ft ks fs fc S ++ tl T S)) sz)) xF 2 94 (va_A ([(ox, .inl (T.2.2.1, 1, .inr (.inl ov)))] ++ (cX T aa zw kp fp e0 e1 oF oT kt ft ks fs fc S ++ tl T S)) sz) := by
  refine vx_ofWH (cc := b_L_join) (maxL := 5) (ret := (some .int)) (hh := [(0, 10, 13, 25), (0, 10, 17, 15)]) (by decide) rfl ?_
  intro p e s m args below meth c s₁ B hml hv
  obtain ⟨rfl, hsz, hP, hK, hD0, hF⟩ := hv
  refine vx_ret ?_
  have hx := B.exec
  have hb := B.bytes
  have hr := B.returns
  have hw : ∀ w ∈ bg_W, w.before ([.ref (aa 0), .int xs, .int ys, .ref ox] : List Value).toArray s = true := fun w h => atoms_spec (ws := (Cond.codeWith y_L_join b_L_join 5 (some .int) [(0, 10, 13, 25), (0, 10, 17, 15)] :: bg_W)) B.pre w (List.mem_cons_of_mem _ h)
  have htab := vx_table (x := y_L_join) B (atoms_spec (ws := (Cond.codeWith y_L_join b_L_join 5 (some .int) [(0, 10, 13, 25), (0, 10, 17, 15)] :: bg_W)) B.pre _ List.mem_cons_self)
  have hown : s.vm.findClass "TimeWordsLaw" = some m.cls := findClass_of_methodNamed B.named
  have hlocks := B.notSynchronized
  subst hsz
  have hD := hD0.self (sz := s.heap.size)
  generalize hAe : va_A ([(ox, .inl (T.2.2.1, 1, .inr (.inl ov)))] ++ (cX T aa zw kp fp e0 e1 oF oT kt ft ks fs fc S ++ tl T S)) s.heap.size = A at hD hF ⊢
  have hA : ∀ q : Nat, s.heap.size ≤ q → A q := fun q h => by rw [← hAe]; exact Or.inr h
  have hS : va_S A s.heap s.heap [] := va_S.rf
  have hl := lv_entry ([.ref (aa 0), .int xs, .int ys, .ref ox]) (n := 5) (Nat.le_of_ble_eq_true rfl)
  rw [lg_entry_eq]
  generalize (lg_sl ([.ref (aa 0), .int xs, .int ys, .ref ox]) ++ List.replicate (5 - (lg_sl ([.ref (aa 0), .int xs, .int ys, .ref ox])).length) Slot.unset).toArray = ls at hl ⊢
  have hl : lv_has ls 5 [(0, .ref (aa 0)), (1, .int xs), (2, .int ys), (3, .ref ox)] := hl
  rcases lx_s hy0 xs with h0 | ⟨j, q, rfl, hj⟩
  · refine lv_aload_n hx hb d_L_join_0 rfl (lv_at hl 3 rfl) ?_
    refine lv_iconst (v := 0) hx hb d_L_join_1 (by decide) ?_
    refine lv_aload_n hx hb d_L_join_2 rfl (lv_at hl 0 rfl) ?_
    refine lv_iload_n hx hb d_L_join_3 rfl (lv_at hl 1 rfl) ?_
    refine lv_iload_n hx hb d_L_join_4 rfl (lv_at hl 2 rfl) ?_
    have hPc : va_P D gC (cX T aa zw kp fp e0 e1 oF oT kt ft ks fs fc S ++ tl T S) s.heap := hP.rt
    have hDc : va_D A (cX T aa zw kp fp e0 e1 oF oT kt ft ks fs fc S ++ tl T S) := hD.rt
    refine x_try (vx_runV (As := [.int xs, .int ys]) (rest := [.int 0, .ref ox]) ⟨hx, hb, hml, hown, hw⟩ (k_T_join_x l hl9 D T κ A aa zw kp fp e0 e1 oF oT kt ft ks fs fc S s.heap.size xs ys h0) (cwV 2 hw (bg_V ml_L_48 wi_T_join wv_T_join wz_T wc_T_join) rfl rfl rfl (by decide +kernel) ⟨Nat.le_of_ble_eq_true rfl, Nat.le_of_ble_eq_true rfl⟩) ⟨xPf_b, va_recv hK hPc (ci := 5) (q0 := 0) rfl rfl, xPf_p hPc hK hF hS⟩ rfl rfl hl.1 rfl (lv_room (Nat.le_of_ble_eq_true rfl)) d_L_join_5 ⟨Nat.le_of_ble_eq_true rfl, Nat.le_of_ble_eq_true rfl⟩) hP hS hA (fun ce q9 H locs hP hS k1 k2 k3 => ?_)
    refine vx_catch (E := "java/lang/IndexOutOfBoundsException") (name := "java/lang/IndexOutOfBoundsException") hown [] ⟨0, 10, 13, 25⟩ [⟨0, 10, 17, 15⟩] htab (fun _ h => absurd h List.not_mem_nil) rfl (by decide) (hw _ kl_L_25) (Nw_at (w := Cond.castable "java/lang/IndexOutOfBoundsException" "java/lang/IndexOutOfBoundsException") (hF.2.2.2.1 _ (by simp [sC])) rfl) k1 k2 k3 ?_
    refine lv_astore (lv' := [(4, .ref q9), (0, .ref (aa 0)), (1, .int xs), (2, .int ys), (3, .ref ox)]) hx hb d_L_join_13 hl (by decide) rfl (fun ls hl => ?_)
    refine lv_iconst (v := 1) hx hb d_L_join_15 (by decide) ?_
    refine W.widen (k := 2) (n := 94) (by omega) (by omega) ?_
    exact W.iret (v := 1) hx hb hr (fun t ht hW => ⟨⟨1, (ov, e0, e1, oF, oT, S), rfl, Or.inl (⟨h0, rfl, rfl⟩), by rw [ht]; exact hP, va_K.moved hW.alike hK, hD⟩, hS.F ht⟩) hS.2.2 d_L_join_16
  · rcases lx_s hy0 ys with h0 | ⟨j2, q2, rfl, hj2⟩
    · refine lv_aload_n hx hb d_L_join_0 rfl (lv_at hl 3 rfl) ?_
      refine lv_iconst (v := 0) hx hb d_L_join_1 (by decide) ?_
      refine lv_aload_n hx hb d_L_join_2 rfl (lv_at hl 0 rfl) ?_
      refine lv_iload_n hx hb d_L_join_3 rfl (lv_at hl 1 rfl) ?_
      refine lv_iload_n hx hb d_L_join_4 rfl (lv_at hl 2 rfl) ?_
      have hPc : va_P D gC (cX T aa zw kp fp e0 e1 oF oT kt ft ks fs fc S ++ tl T S) s.heap := hP.rt
      have hDc : va_D A (cX T aa zw kp fp e0 e1 oF oT kt ft ks fs fc S ++ tl T S) := hD.rt
      refine x_try (vx_runV (As := [.int (nI j), .int ys]) (rest := [.int 0, .ref ox]) ⟨hx, hb, hml, hown, hw⟩ (k_T_join_y l hl9 D T κ A aa zw kp fp e0 e1 oF oT kt ft ks fs fc S s.heap.size j q ys hy0 hj h0) (cwV 2 hw (bg_V ml_L_48 wi_T_join wv_T_join wz_T wc_T_join) rfl rfl rfl (by decide +kernel) ⟨Nat.le_of_ble_eq_true rfl, Nat.le_of_ble_eq_true rfl⟩) ⟨xPf_b, va_recv hK hPc (ci := 5) (q0 := 0) rfl rfl, xPf_p hPc hK hF hS⟩ rfl rfl hl.1 rfl (lv_room (Nat.le_of_ble_eq_true rfl)) d_L_join_5 ⟨Nat.le_of_ble_eq_true rfl, Nat.le_of_ble_eq_true rfl⟩) hP hS hA (fun ce q9 H locs hP hS k1 k2 k3 => ?_)
      refine vx_catch (E := "java/lang/IndexOutOfBoundsException") (name := "java/lang/IndexOutOfBoundsException") hown [] ⟨0, 10, 13, 25⟩ [⟨0, 10, 17, 15⟩] htab (fun _ h => absurd h List.not_mem_nil) rfl (by decide) (hw _ kl_L_25) (Nw_at (w := Cond.castable "java/lang/IndexOutOfBoundsException" "java/lang/IndexOutOfBoundsException") (hF.2.2.2.1 _ (by simp [sC])) rfl) k1 k2 k3 ?_
      refine lv_astore (lv' := [(4, .ref q9), (0, .ref (aa 0)), (1, .int (nI j)), (2, .int ys), (3, .ref ox)]) hx hb d_L_join_13 hl (by decide) rfl (fun ls hl => ?_)
      refine lv_iconst (v := 1) hx hb d_L_join_15 (by decide) ?_
      refine W.widen (k := 2) (n := 94) (by omega) (by omega) ?_
      exact W.iret (v := 1) hx hb hr (fun t ht hW => ⟨⟨1, (ov, e0, e1, oF, oT, S), rfl, Or.inr (⟨j, q, rfl, hj, Or.inl (⟨h0, rfl, rfl⟩)⟩), by rw [ht]; exact hP, va_K.moved hW.alike hK, hD⟩, hS.F ht⟩) hS.2.2 d_L_join_16
    · rcases (show S.2.2.2.length = 60 ∨ S.2.2.2.length < 60 from by have := hy0.2.2.2.2; omega) with h3 | h3
      · refine lv_aload_n hx hb d_L_join_0 rfl (lv_at hl 3 rfl) ?_
        refine lv_iconst (v := 0) hx hb d_L_join_1 (by decide) ?_
        refine lv_aload_n hx hb d_L_join_2 rfl (lv_at hl 0 rfl) ?_
        refine lv_iload_n hx hb d_L_join_3 rfl (lv_at hl 1 rfl) ?_
        refine lv_iload_n hx hb d_L_join_4 rfl (lv_at hl 2 rfl) ?_
        have hPc : va_P D gC (cX T aa zw kp fp e0 e1 oF oT kt ft ks fs fc S ++ tl T S) s.heap := hP.rt
        have hDc : va_D A (cX T aa zw kp fp e0 e1 oF oT kt ft ks fs fc S ++ tl T S) := hD.rt
        refine x_try (vx_runV (As := [.int (nI j), .int (nI j2)]) (rest := [.int 0, .ref ox]) ⟨hx, hb, hml, hown, hw⟩ (k_T_join_z l hl9 D T κ A aa zw kp fp e0 e1 oF oT kt ft ks fs fc S s.heap.size j q j2 q2 hy0 hj hj2 h3) (cwV 2 hw (bg_V ml_L_48 wi_T_join wv_T_join wz_T wc_T_join) rfl rfl rfl (by decide +kernel) ⟨Nat.le_of_ble_eq_true rfl, Nat.le_of_ble_eq_true rfl⟩) ⟨xPf_b, va_recv hK hPc (ci := 5) (q0 := 0) rfl rfl, xPf_p hPc hK hF hS⟩ rfl rfl hl.1 rfl (lv_room (Nat.le_of_ble_eq_true rfl)) d_L_join_5 ⟨Nat.le_of_ble_eq_true rfl, Nat.le_of_ble_eq_true rfl⟩) hP hS hA (fun ce q9 H locs hP hS k1 k2 k3 => ?_)
        refine vx_catch (E := "java/lang/IllegalStateException") (name := "java/lang/IllegalStateException") hown [⟨0, 10, 13, 25⟩] ⟨0, 10, 17, 15⟩ [] htab (List.forall_mem_cons.mpr ⟨Or.inr ⟨by decide, "java/lang/IndexOutOfBoundsException", hw _ kl_L_25, hF.2.2.1.2.2.2 ("java/lang/IllegalStateException", "java/lang/IndexOutOfBoundsException") (by simp [sN])⟩, fun _ h => absurd h List.not_mem_nil⟩) rfl (by decide) (hw _ kl_L_15) (Nw_at (w := Cond.castable "java/lang/IllegalStateException" "java/lang/IllegalStateException") (hF.2.2.2.1 _ (by simp [sC])) rfl) k1 k2 k3 ?_
        refine lv_astore (lv' := [(4, .ref q9), (0, .ref (aa 0)), (1, .int (nI j)), (2, .int (nI j2)), (3, .ref ox)]) hx hb d_L_join_17 hl (by decide) rfl (fun ls hl => ?_)
        refine lv_iconst (v := 2) hx hb d_L_join_19 (by decide) ?_
        refine W.widen (k := 2) (n := 94) (by omega) (by omega) ?_
        exact W.iret (v := 2) hx hb hr (fun t ht hW => ⟨⟨2, (ov, e0, e1, oF, oT, S), rfl, Or.inr (⟨j, q, rfl, hj, Or.inr (⟨j2, q2, rfl, hj2, Or.inl ⟨h3, rfl, rfl⟩⟩)⟩), by rw [ht]; exact hP, va_K.moved hW.alike hK, hD⟩, hS.F ht⟩) hS.2.2 d_L_join_20
      · refine lv_aload_n hx hb d_L_join_0 rfl (lv_at hl 3 rfl) ?_
        refine lv_iconst (v := 0) hx hb d_L_join_1 (by decide) ?_
        refine lv_aload_n hx hb d_L_join_2 rfl (lv_at hl 0 rfl) ?_
        refine lv_iload_n hx hb d_L_join_3 rfl (lv_at hl 1 rfl) ?_
        refine lv_iload_n hx hb d_L_join_4 rfl (lv_at hl 2 rfl) ?_
        have hPc : va_P D gC (cX T aa zw kp fp e0 e1 oF oT kt ft ks fs fc S ++ tl T S) s.heap := hP.rt
        have hDc : va_D A (cX T aa zw kp fp e0 e1 oF oT kt ft ks fs fc S ++ tl T S) := hD.rt
        refine g_blki (B := [(ox, .inl (T.2.2.1, 1, .inr (.inl ov)))]) (C := cX T aa zw kp fp e0 e1 oF oT kt ft ks fs fc S ++ tl T S) (va_runV (As := [.int (nI j), .int (nI j2)]) (rest := [.int 0, .ref ox]) ⟨hx, hb, hml, hown, hw⟩ (k_T_join l D T κ aa zw kp fp e0 e1 oF oT kt ft ks fs fc S s.heap.size j q j2 q2 hy0 hj hj2 h3) (cwV 2 hw (bg_V ml_L_48 wi_T_join wv_T_join wz_T wc_T_join) rfl rfl rfl (by decide +kernel) ⟨Nat.le_of_ble_eq_true rfl, Nat.le_of_ble_eq_true rfl⟩) ⟨qPf_b, va_recv hK hPc (ci := 5) (q0 := 0) rfl rfl, qPf_p hPc hK hDc hF hS (g_free hDc hS hA)⟩ rfl rfl hl.1 rfl (lv_room (Nat.le_of_ble_eq_true rfl)) d_L_join_5 ⟨Nat.le_of_ble_eq_true rfl, Nat.le_of_ble_eq_true rfl⟩) hP hD hS hA (fun r4 u9 H locs hr4 hP hD hS => ?_)
        obtain ⟨u5, u6, u7, u8, u9⟩ := u9
        dsimp only at hr4 hP hD
        have hP : va_P D gC ([(ox, .inl (T.2.2.1, 1, .inr (.inl ov)))] ++ (cX T aa zw kp fp u5 u6 u7 u8 kt ft ks fs fc u9 ++ tl T u9)) H := hP
        have hD : va_D A ([(ox, .inl (T.2.2.1, 1, .inr (.inl ov)))] ++ (cX T aa zw kp fp u5 u6 u7 u8 kt ft ks fs fc u9 ++ tl T u9)) := hD
        refine lv_i2l hx hb d_L_join_8 rfl ?_
        refine va_last hx hb hK hP hD hS 0 2 rfl rfl (vp_in_nI (n := 0) (by decide) (by decide)) d_L_join_9 (fun H locs hP hD hS => ?_)
        rw [show (0 : Int32).toNatClampNeg = 0 from by decide] at hP hD
        have hP : va_P D gC ([(ox, .inl (T.2.2.1, 1, .inr (.inl (vp_updL ov 0 r4.toInt64))))] ++ (cX T aa zw kp fp u5 u6 u7 u8 kt ft ks fs fc u9 ++ tl T u9)) H := hP
        have hD : va_D A ([(ox, .inl (T.2.2.1, 1, .inr (.inl (vp_updL ov 0 r4.toInt64))))] ++ (cX T aa zw kp fp u5 u6 u7 u8 kt ft ks fs fc u9 ++ tl T u9)) := hD
        refine lv_goto (tgt := 21) hx hb d_L_join_10 (by decide) ?_
        refine lv_iconst (v := 0) hx hb d_L_join_21 (by decide) ?_
        exact W.iret (v := 0) hx hb hr (fun t ht hW => ⟨⟨0, (vp_updL ov 0 r4.toInt64, u5, u6, u7, u8, u9), rfl, Or.inr (⟨j, q, rfl, hj, Or.inr (⟨j2, q2, rfl, hj2, Or.inr ⟨h3, rfl, _, lup0, hr4.1, hr4.2⟩⟩)⟩), by rw [ht]; exact hP, va_K.moved hW.alike hK, hD⟩, hS.F ht⟩) hS.2.2 d_L_join_22

set_option maxHeartbeats 4000000 in
set_option maxRecDepth 100000 in
theorem k_L_relations (l : Launch) (hl9 : l.stackTraces = false) (D : va_G) (T : gT) (κ : gS) (ox : Nat) (ov : Nat → Int64) (aa : Nat → Nat) (zw : Int32) (kp : Nat) (fp : Nat → Int32) (e0 e1 : Int32) (oF oT : Bool) (kt : Nat) (ft : Nat → Int32) (ks : Nat) (fs fc : Nat → Int32) (S : tS) (sz : Nat) (xs ys : Int32) (hy0 : tOk κ S) : vx_Met l y_L_relations (Cond.codeWith y_L_relations b_L_relations 5 (some .int) [(0, 10, 13, 25)] :: bg_W) ({ frames := 9, cells := 1, slots := 6, locals := 156 }) (qPf κ D T ([(ox, .inl (T.2.2.1, 1, .inr (.inl ov)))] ++ (cX T aa zw kp fp e0 e1 oF oT kt ft ks fs fc S ++ tl T S)) [.ref (aa 0), .int xs, .int ys, .ref ox] sz) (va_Qi (fun (r : Int32) (ov1 : (Nat → Int64)) => (j_ix xs (nI S.2.2.2.length) = false ∧ r = 1) ∨ (∃ (j : Nat) (q : spD), xs = nI j ∧ S.2.2.2[j]? = some q ∧ ((j_ix ys (nI S.2.2.2.length) = false ∧ r = 1) ∨ (∃ (j2 : Nat) (q2 : spD), ys = nI j2 ∧ S.2.2.2[j2]? = some q2 ∧ (r = 0 ∧ ∃ v : Int32, ov1 0 = v.toInt64 ∧ v = c_rs q.2.1 q.2.2.1 q2.2.1 q2.2.2.1))))) (qB D T (va_A ([(ox, .inl (T.2.2.1, 1, .inr (.inl ov)))] ++ (cX T aa zw kp fp e0 e1 oF oT kt ft ks fs fc S ++ tl T S)) sz) (fun ov1 : (Nat → Int64) => [(ox, .inl (T.2.2.1, 1, .inr (.inl ov1)))] ++ (cX T aa zw kp fp e0 e1 oF oT kt ft ks fs fc S ++ tl T S))) (va_A ([(ox, .inl (T.2.2.1, 1, .inr (.inl ov)))] ++ (cX T aa zw kp fp e0 e1 oF oT kt ft ks fs fc S ++ tl T S)) sz)) xF 1 6 (va_A ([(ox, .inl (T.2.2.1, 1, .inr (.inl ov)))] ++ (cX T aa zw kp fp e0 e1 oF oT kt ft ks fs fc S ++ tl T S)) sz) := by
  refine vx_ofWH (cc := b_L_relations) (maxL := 5) (ret := (some .int)) (hh := [(0, 10, 13, 25)]) (by decide) rfl ?_
  intro p e s m args below meth c s₁ B hml hv
  obtain ⟨rfl, hsz, hP, hK, hD0, hF⟩ := hv
  refine vx_ret ?_
  have hx := B.exec
  have hb := B.bytes
  have hr := B.returns
  have hw : ∀ w ∈ bg_W, w.before ([.ref (aa 0), .int xs, .int ys, .ref ox] : List Value).toArray s = true := fun w h => atoms_spec (ws := (Cond.codeWith y_L_relations b_L_relations 5 (some .int) [(0, 10, 13, 25)] :: bg_W)) B.pre w (List.mem_cons_of_mem _ h)
  have htab := vx_table (x := y_L_relations) B (atoms_spec (ws := (Cond.codeWith y_L_relations b_L_relations 5 (some .int) [(0, 10, 13, 25)] :: bg_W)) B.pre _ List.mem_cons_self)
  have hown : s.vm.findClass "TimeWordsLaw" = some m.cls := findClass_of_methodNamed B.named
  have hlocks := B.notSynchronized
  subst hsz
  have hD := hD0.self (sz := s.heap.size)
  generalize hAe : va_A ([(ox, .inl (T.2.2.1, 1, .inr (.inl ov)))] ++ (cX T aa zw kp fp e0 e1 oF oT kt ft ks fs fc S ++ tl T S)) s.heap.size = A at hD hF ⊢
  have hA : ∀ q : Nat, s.heap.size ≤ q → A q := fun q h => by rw [← hAe]; exact Or.inr h
  have hS : va_S A s.heap s.heap [] := va_S.rf
  have hl := lv_entry ([.ref (aa 0), .int xs, .int ys, .ref ox]) (n := 5) (Nat.le_of_ble_eq_true rfl)
  rw [lg_entry_eq]
  generalize (lg_sl ([.ref (aa 0), .int xs, .int ys, .ref ox]) ++ List.replicate (5 - (lg_sl ([.ref (aa 0), .int xs, .int ys, .ref ox])).length) Slot.unset).toArray = ls at hl ⊢
  have hl : lv_has ls 5 [(0, .ref (aa 0)), (1, .int xs), (2, .int ys), (3, .ref ox)] := hl
  rcases lx_s hy0 xs with h0 | ⟨j, q, rfl, hj⟩
  · refine lv_aload_n hx hb d_L_relations_0 rfl (lv_at hl 3 rfl) ?_
    refine lv_iconst (v := 0) hx hb d_L_relations_1 (by decide) ?_
    refine lv_aload_n hx hb d_L_relations_2 rfl (lv_at hl 0 rfl) ?_
    refine lv_iload_n hx hb d_L_relations_3 rfl (lv_at hl 1 rfl) ?_
    refine lv_iload_n hx hb d_L_relations_4 rfl (lv_at hl 2 rfl) ?_
    have hPc : va_P D gC (cX T aa zw kp fp e0 e1 oF oT kt ft ks fs fc S ++ tl T S) s.heap := hP.rt
    have hDc : va_D A (cX T aa zw kp fp e0 e1 oF oT kt ft ks fs fc S ++ tl T S) := hD.rt
    refine x_try (vx_runV (As := [.int xs, .int ys]) (rest := [.int 0, .ref ox]) ⟨hx, hb, hml, hown, hw⟩ (k_T_relations_x l hl9 D T κ A aa zw kp fp e0 e1 oF oT kt ft ks fs fc S s.heap.size xs ys h0) (cwV 2 hw (bg_V ml_L_51 wi_T_relations wv_T_relations wz_T wc_T_relations) rfl rfl rfl (by decide +kernel) ⟨Nat.le_of_ble_eq_true rfl, Nat.le_of_ble_eq_true rfl⟩) ⟨xPf_b, va_recv hK hPc (ci := 5) (q0 := 0) rfl rfl, xPf_p hPc hK hF hS⟩ rfl rfl hl.1 rfl (lv_room (Nat.le_of_ble_eq_true rfl)) d_L_relations_5 ⟨Nat.le_of_ble_eq_true rfl, Nat.le_of_ble_eq_true rfl⟩) hP hS hA (fun ce q9 H locs hP hS k1 k2 k3 => ?_)
    refine vx_catch (E := "java/lang/IndexOutOfBoundsException") (name := "java/lang/IndexOutOfBoundsException") hown [] ⟨0, 10, 13, 25⟩ [] htab (fun _ h => absurd h List.not_mem_nil) rfl (by decide) (hw _ kl_L_25) (Nw_at (w := Cond.castable "java/lang/IndexOutOfBoundsException" "java/lang/IndexOutOfBoundsException") (hF.2.2.2.1 _ (by simp [sC])) rfl) k1 k2 k3 ?_
    refine lv_astore (lv' := [(4, .ref q9), (0, .ref (aa 0)), (1, .int xs), (2, .int ys), (3, .ref ox)]) hx hb d_L_relations_13 hl (by decide) rfl (fun ls hl => ?_)
    refine lv_iconst (v := 1) hx hb d_L_relations_15 (by decide) ?_
    exact W.iret (v := 1) hx hb hr (fun t ht hW => ⟨⟨1, ov, rfl, Or.inl (⟨h0, rfl⟩), by rw [ht]; exact hP, va_K.moved hW.alike hK, hD⟩, hS.F ht⟩) hS.2.2 d_L_relations_16
  · rcases lx_s hy0 ys with h0 | ⟨j2, q2, rfl, hj2⟩
    · refine lv_aload_n hx hb d_L_relations_0 rfl (lv_at hl 3 rfl) ?_
      refine lv_iconst (v := 0) hx hb d_L_relations_1 (by decide) ?_
      refine lv_aload_n hx hb d_L_relations_2 rfl (lv_at hl 0 rfl) ?_
      refine lv_iload_n hx hb d_L_relations_3 rfl (lv_at hl 1 rfl) ?_
      refine lv_iload_n hx hb d_L_relations_4 rfl (lv_at hl 2 rfl) ?_
      have hPc : va_P D gC (cX T aa zw kp fp e0 e1 oF oT kt ft ks fs fc S ++ tl T S) s.heap := hP.rt
      have hDc : va_D A (cX T aa zw kp fp e0 e1 oF oT kt ft ks fs fc S ++ tl T S) := hD.rt
      refine x_try (vx_runV (As := [.int (nI j), .int ys]) (rest := [.int 0, .ref ox]) ⟨hx, hb, hml, hown, hw⟩ (k_T_relations_y l hl9 D T κ A aa zw kp fp e0 e1 oF oT kt ft ks fs fc S s.heap.size j q ys hy0 hj h0) (cwV 2 hw (bg_V ml_L_51 wi_T_relations wv_T_relations wz_T wc_T_relations) rfl rfl rfl (by decide +kernel) ⟨Nat.le_of_ble_eq_true rfl, Nat.le_of_ble_eq_true rfl⟩) ⟨xPf_b, va_recv hK hPc (ci := 5) (q0 := 0) rfl rfl, xPf_p hPc hK hF hS⟩ rfl rfl hl.1 rfl (lv_room (Nat.le_of_ble_eq_true rfl)) d_L_relations_5 ⟨Nat.le_of_ble_eq_true rfl, Nat.le_of_ble_eq_true rfl⟩) hP hS hA (fun ce q9 H locs hP hS k1 k2 k3 => ?_)
      refine vx_catch (E := "java/lang/IndexOutOfBoundsException") (name := "java/lang/IndexOutOfBoundsException") hown [] ⟨0, 10, 13, 25⟩ [] htab (fun _ h => absurd h List.not_mem_nil) rfl (by decide) (hw _ kl_L_25) (Nw_at (w := Cond.castable "java/lang/IndexOutOfBoundsException" "java/lang/IndexOutOfBoundsException") (hF.2.2.2.1 _ (by simp [sC])) rfl) k1 k2 k3 ?_
      refine lv_astore (lv' := [(4, .ref q9), (0, .ref (aa 0)), (1, .int (nI j)), (2, .int ys), (3, .ref ox)]) hx hb d_L_relations_13 hl (by decide) rfl (fun ls hl => ?_)
      refine lv_iconst (v := 1) hx hb d_L_relations_15 (by decide) ?_
      exact W.iret (v := 1) hx hb hr (fun t ht hW => ⟨⟨1, ov, rfl, Or.inr (⟨j, q, rfl, hj, Or.inl (⟨h0, rfl⟩)⟩), by rw [ht]; exact hP, va_K.moved hW.alike hK, hD⟩, hS.F ht⟩) hS.2.2 d_L_relations_16
    · refine lv_aload_n hx hb d_L_relations_0 rfl (lv_at hl 3 rfl) ?_
      refine lv_iconst (v := 0) hx hb d_L_relations_1 (by decide) ?_
      refine lv_aload_n hx hb d_L_relations_2 rfl (lv_at hl 0 rfl) ?_
      refine lv_iload_n hx hb d_L_relations_3 rfl (lv_at hl 1 rfl) ?_
      refine lv_iload_n hx hb d_L_relations_4 rfl (lv_at hl 2 rfl) ?_
      have hPc : va_P D gC (cX T aa zw kp fp e0 e1 oF oT kt ft ks fs fc S ++ tl T S) s.heap := hP.rt
      have hDc : va_D A (cX T aa zw kp fp e0 e1 oF oT kt ft ks fs fc S ++ tl T S) := hD.rt
      refine vp_callSi (va_Run.run (va_runV (As := [.int (nI j), .int (nI j2)]) (rest := [.int 0, .ref ox]) ⟨hx, hb, hml, hown, hw⟩ (k_T_relations l D T κ A aa zw kp fp e0 e1 oF oT kt ft ks fs fc S j q j2 q2 hy0 hj hj2) (cwV 2 hw (bg_V ml_L_51 wi_T_relations wv_T_relations wz_T wc_T_relations) rfl rfl rfl (by decide +kernel) ⟨Nat.le_of_ble_eq_true rfl, Nat.le_of_ble_eq_true rfl⟩) ⟨sPf_b, va_recv hK hPc (ci := 5) (q0 := 0) rfl rfl, sPf_p hPc hK hF hS⟩ rfl rfl hl.1 rfl (lv_room (Nat.le_of_ble_eq_true rfl)) d_L_relations_5 ⟨Nat.le_of_ble_eq_true rfl, Nat.le_of_ble_eq_true rfl⟩)) (fun r3 hr3 => ?_)
      refine lv_i2l hx hb d_L_relations_8 rfl ?_
      refine va_last hx hb hK hP hD hS 0 2 rfl rfl (vp_in_nI (n := 0) (by decide) (by decide)) d_L_relations_9 (fun H locs hP hD hS => ?_)
      rw [show (0 : Int32).toNatClampNeg = 0 from by decide] at hP hD
      have hP : va_P D gC ([(ox, .inl (T.2.2.1, 1, .inr (.inl (vp_updL ov 0 r3.toInt64))))] ++ (cX T aa zw kp fp e0 e1 oF oT kt ft ks fs fc S ++ tl T S)) H := hP
      have hD : va_D A ([(ox, .inl (T.2.2.1, 1, .inr (.inl (vp_updL ov 0 r3.toInt64))))] ++ (cX T aa zw kp fp e0 e1 oF oT kt ft ks fs fc S ++ tl T S)) := hD
      refine lv_goto (tgt := 17) hx hb d_L_relations_10 (by decide) ?_
      refine lv_iconst (v := 0) hx hb d_L_relations_17 (by decide) ?_
      refine W.widen (k := 1) (n := 6) (by omega) (by omega) ?_
      exact W.iret (v := 0) hx hb hr (fun t ht hW => ⟨⟨0, vp_updL ov 0 r3.toInt64, rfl, Or.inr (⟨j, q, rfl, hj, Or.inr (⟨j2, q2, rfl, hj2, ⟨rfl, _, lup0, hr3⟩⟩)⟩), by rw [ht]; exact hP, va_K.moved hW.alike hK, hD⟩, hS.F ht⟩) hS.2.2 d_L_relations_18

theorem oo_f {a b : Bool} (h : (a || b) = false) : a = false ∧ b = false := by cases a <;> simp_all
set_option maxHeartbeats 4000000 in
set_option maxRecDepth 100000 in
theorem k_L_relation (l : Launch) (hl9 : l.stackTraces = false) (D : va_G) (T : gT) (κ : gS) (ox : Nat) (ov : Nat → Int64) (aa : Nat → Nat) (zw : Int32) (kp : Nat) (fp : Nat → Int32) (e0 e1 : Int32) (oF oT : Bool) (kt : Nat) (ft : Nat → Int32) (ks : Nat) (fs fc : Nat → Int32) (S : tS) (sz : Nat) (xs ys : Int32) (hy0 : tOk κ S) : vx_Met l y_L_relation (Cond.codeWith y_L_relation b_L_relation 5 (some .int) [(0, 10, 13, 25), (0, 10, 17, 15)] :: bg_W) ({ frames := 9, cells := 1, slots := 6, locals := 155 }) (qPf κ D T ([(ox, .inl (T.2.2.1, 1, .inr (.inl ov)))] ++ (cX T aa zw kp fp e0 e1 oF oT kt ft ks fs fc S ++ tl T S)) [.ref (aa 0), .int xs, .int ys, .ref ox] sz) (va_Qi (fun (r : Int32) (ov1 : (Nat → Int64)) => (j_ix xs (nI S.2.2.2.length) = false ∧ r = 1) ∨ (∃ (j : Nat) (q : spD), xs = nI j ∧ S.2.2.2[j]? = some q ∧ ((j_ix ys (nI S.2.2.2.length) = false ∧ r = 1) ∨ (∃ (j2 : Nat) (q2 : spD), ys = nI j2 ∧ S.2.2.2[j2]? = some q2 ∧ ((((q.2.2.2.1 || q.2.2.2.2) || (q2.2.2.2.1 || q2.2.2.2.2)) = true ∧ r = 2) ∨ (((q.2.2.2.1 || q.2.2.2.2) || (q2.2.2.2.1 || q2.2.2.2.2)) = false ∧ r = 0 ∧ ∃ v : Int32, ov1 0 = v.toInt64 ∧ v = c_rl q.2.1 q.2.2.1 q2.2.1 q2.2.2.1)))))) (qB D T (va_A ([(ox, .inl (T.2.2.1, 1, .inr (.inl ov)))] ++ (cX T aa zw kp fp e0 e1 oF oT kt ft ks fs fc S ++ tl T S)) sz) (fun ov1 : (Nat → Int64) => [(ox, .inl (T.2.2.1, 1, .inr (.inl ov1)))] ++ (cX T aa zw kp fp e0 e1 oF oT kt ft ks fs fc S ++ tl T S))) (va_A ([(ox, .inl (T.2.2.1, 1, .inr (.inl ov)))] ++ (cX T aa zw kp fp e0 e1 oF oT kt ft ks fs fc S ++ tl T S)) sz)) xF 1 6 (va_A ([(ox, .inl (T.2.2.1, 1, .inr (.inl ov)))] ++ (cX T aa zw kp fp e0 e1 oF oT kt ft ks fs fc S ++ tl T S)) sz) := by
  refine vx_ofWH (cc := b_L_relation) (maxL := 5) (ret := (some .int)) (hh := [(0, 10, 13, 25), (0, 10, 17, 15)]) (by decide) rfl ?_
  intro p e s m args below meth c s₁ B hml hv
  obtain ⟨rfl, hsz, hP, hK, hD0, hF⟩ := hv
  refine vx_ret ?_
  have hx := B.exec
  have hb := B.bytes
  have hr := B.returns
  have hw : ∀ w ∈ bg_W, w.before ([.ref (aa 0), .int xs, .int ys, .ref ox] : List Value).toArray s = true := fun w h => atoms_spec (ws := (Cond.codeWith y_L_relation b_L_relation 5 (some .int) [(0, 10, 13, 25), (0, 10, 17, 15)] :: bg_W)) B.pre w (List.mem_cons_of_mem _ h)
  have htab := vx_table (x := y_L_relation) B (atoms_spec (ws := (Cond.codeWith y_L_relation b_L_relation 5 (some .int) [(0, 10, 13, 25), (0, 10, 17, 15)] :: bg_W)) B.pre _ List.mem_cons_self)
  have hown : s.vm.findClass "TimeWordsLaw" = some m.cls := findClass_of_methodNamed B.named
  have hlocks := B.notSynchronized
  subst hsz
  have hD := hD0.self (sz := s.heap.size)
  generalize hAe : va_A ([(ox, .inl (T.2.2.1, 1, .inr (.inl ov)))] ++ (cX T aa zw kp fp e0 e1 oF oT kt ft ks fs fc S ++ tl T S)) s.heap.size = A at hD hF ⊢
  have hA : ∀ q : Nat, s.heap.size ≤ q → A q := fun q h => by rw [← hAe]; exact Or.inr h
  have hS : va_S A s.heap s.heap [] := va_S.rf
  have hl := lv_entry ([.ref (aa 0), .int xs, .int ys, .ref ox]) (n := 5) (Nat.le_of_ble_eq_true rfl)
  rw [lg_entry_eq]
  generalize (lg_sl ([.ref (aa 0), .int xs, .int ys, .ref ox]) ++ List.replicate (5 - (lg_sl ([.ref (aa 0), .int xs, .int ys, .ref ox])).length) Slot.unset).toArray = ls at hl ⊢
  have hl : lv_has ls 5 [(0, .ref (aa 0)), (1, .int xs), (2, .int ys), (3, .ref ox)] := hl
  rcases lx_s hy0 xs with h0 | ⟨j, q, rfl, hj⟩
  · refine lv_aload_n hx hb d_L_relation_0 rfl (lv_at hl 3 rfl) ?_
    refine lv_iconst (v := 0) hx hb d_L_relation_1 (by decide) ?_
    refine lv_aload_n hx hb d_L_relation_2 rfl (lv_at hl 0 rfl) ?_
    refine lv_iload_n hx hb d_L_relation_3 rfl (lv_at hl 1 rfl) ?_
    refine lv_iload_n hx hb d_L_relation_4 rfl (lv_at hl 2 rfl) ?_
    have hPc : va_P D gC (cX T aa zw kp fp e0 e1 oF oT kt ft ks fs fc S ++ tl T S) s.heap := hP.rt
    have hDc : va_D A (cX T aa zw kp fp e0 e1 oF oT kt ft ks fs fc S ++ tl T S) := hD.rt
    refine x_try (vx_runV (As := [.int xs, .int ys]) (rest := [.int 0, .ref ox]) ⟨hx, hb, hml, hown, hw⟩ (k_T_relation_x l hl9 D T κ A aa zw kp fp e0 e1 oF oT kt ft ks fs fc S s.heap.size xs ys h0) (cwV 2 hw (bg_V ml_L_54 wi_T_relation wv_T_relation wz_T wc_T_relation) rfl rfl rfl (by decide +kernel) ⟨Nat.le_of_ble_eq_true rfl, Nat.le_of_ble_eq_true rfl⟩) ⟨xPf_b, va_recv hK hPc (ci := 5) (q0 := 0) rfl rfl, xPf_p hPc hK hF hS⟩ rfl rfl hl.1 rfl (lv_room (Nat.le_of_ble_eq_true rfl)) d_L_relation_5 ⟨Nat.le_of_ble_eq_true rfl, Nat.le_of_ble_eq_true rfl⟩) hP hS hA (fun ce q9 H locs hP hS k1 k2 k3 => ?_)
    refine vx_catch (E := "java/lang/IndexOutOfBoundsException") (name := "java/lang/IndexOutOfBoundsException") hown [] ⟨0, 10, 13, 25⟩ [⟨0, 10, 17, 15⟩] htab (fun _ h => absurd h List.not_mem_nil) rfl (by decide) (hw _ kl_L_25) (Nw_at (w := Cond.castable "java/lang/IndexOutOfBoundsException" "java/lang/IndexOutOfBoundsException") (hF.2.2.2.1 _ (by simp [sC])) rfl) k1 k2 k3 ?_
    refine lv_astore (lv' := [(4, .ref q9), (0, .ref (aa 0)), (1, .int xs), (2, .int ys), (3, .ref ox)]) hx hb d_L_relation_13 hl (by decide) rfl (fun ls hl => ?_)
    refine lv_iconst (v := 1) hx hb d_L_relation_15 (by decide) ?_
    exact W.iret (v := 1) hx hb hr (fun t ht hW => ⟨⟨1, ov, rfl, Or.inl (⟨h0, rfl⟩), by rw [ht]; exact hP, va_K.moved hW.alike hK, hD⟩, hS.F ht⟩) hS.2.2 d_L_relation_16
  · rcases lx_s hy0 ys with h0 | ⟨j2, q2, rfl, hj2⟩
    · refine lv_aload_n hx hb d_L_relation_0 rfl (lv_at hl 3 rfl) ?_
      refine lv_iconst (v := 0) hx hb d_L_relation_1 (by decide) ?_
      refine lv_aload_n hx hb d_L_relation_2 rfl (lv_at hl 0 rfl) ?_
      refine lv_iload_n hx hb d_L_relation_3 rfl (lv_at hl 1 rfl) ?_
      refine lv_iload_n hx hb d_L_relation_4 rfl (lv_at hl 2 rfl) ?_
      have hPc : va_P D gC (cX T aa zw kp fp e0 e1 oF oT kt ft ks fs fc S ++ tl T S) s.heap := hP.rt
      have hDc : va_D A (cX T aa zw kp fp e0 e1 oF oT kt ft ks fs fc S ++ tl T S) := hD.rt
      refine x_try (vx_runV (As := [.int (nI j), .int ys]) (rest := [.int 0, .ref ox]) ⟨hx, hb, hml, hown, hw⟩ (k_T_relation_y l hl9 D T κ A aa zw kp fp e0 e1 oF oT kt ft ks fs fc S s.heap.size j q ys hy0 hj h0) (cwV 2 hw (bg_V ml_L_54 wi_T_relation wv_T_relation wz_T wc_T_relation) rfl rfl rfl (by decide +kernel) ⟨Nat.le_of_ble_eq_true rfl, Nat.le_of_ble_eq_true rfl⟩) ⟨xPf_b, va_recv hK hPc (ci := 5) (q0 := 0) rfl rfl, xPf_p hPc hK hF hS⟩ rfl rfl hl.1 rfl (lv_room (Nat.le_of_ble_eq_true rfl)) d_L_relation_5 ⟨Nat.le_of_ble_eq_true rfl, Nat.le_of_ble_eq_true rfl⟩) hP hS hA (fun ce q9 H locs hP hS k1 k2 k3 => ?_)
      refine vx_catch (E := "java/lang/IndexOutOfBoundsException") (name := "java/lang/IndexOutOfBoundsException") hown [] ⟨0, 10, 13, 25⟩ [⟨0, 10, 17, 15⟩] htab (fun _ h => absurd h List.not_mem_nil) rfl (by decide) (hw _ kl_L_25) (Nw_at (w := Cond.castable "java/lang/IndexOutOfBoundsException" "java/lang/IndexOutOfBoundsException") (hF.2.2.2.1 _ (by simp [sC])) rfl) k1 k2 k3 ?_
      refine lv_astore (lv' := [(4, .ref q9), (0, .ref (aa 0)), (1, .int (nI j)), (2, .int ys), (3, .ref ox)]) hx hb d_L_relation_13 hl (by decide) rfl (fun ls hl => ?_)
      refine lv_iconst (v := 1) hx hb d_L_relation_15 (by decide) ?_
      exact W.iret (v := 1) hx hb hr (fun t ht hW => ⟨⟨1, ov, rfl, Or.inr (⟨j, q, rfl, hj, Or.inl (⟨h0, rfl⟩)⟩), by rw [ht]; exact hP, va_K.moved hW.alike hK, hD⟩, hS.F ht⟩) hS.2.2 d_L_relation_16
    · rcases bo_f (b := ((q.2.2.2.1 || q.2.2.2.2) || (q2.2.2.2.1 || q2.2.2.2.2))) with h3 | h3
      · refine lv_aload_n hx hb d_L_relation_0 rfl (lv_at hl 3 rfl) ?_
        refine lv_iconst (v := 0) hx hb d_L_relation_1 (by decide) ?_
        refine lv_aload_n hx hb d_L_relation_2 rfl (lv_at hl 0 rfl) ?_
        refine lv_iload_n hx hb d_L_relation_3 rfl (lv_at hl 1 rfl) ?_
        refine lv_iload_n hx hb d_L_relation_4 rfl (lv_at hl 2 rfl) ?_
        have hPc : va_P D gC (cX T aa zw kp fp e0 e1 oF oT kt ft ks fs fc S ++ tl T S) s.heap := hP.rt
        have hDc : va_D A (cX T aa zw kp fp e0 e1 oF oT kt ft ks fs fc S ++ tl T S) := hD.rt
        refine vp_callSi (va_Run.run (va_runV (As := [.int (nI j), .int (nI j2)]) (rest := [.int 0, .ref ox]) ⟨hx, hb, hml, hown, hw⟩ (k_T_relation l D T κ A aa zw kp fp e0 e1 oF oT kt ft ks fs fc S j q j2 q2 hy0 hj hj2 ((oo_f h3).1) ((oo_f h3).2)) (cwV 2 hw (bg_V ml_L_54 wi_T_relation wv_T_relation wz_T wc_T_relation) rfl rfl rfl (by decide +kernel) ⟨Nat.le_of_ble_eq_true rfl, Nat.le_of_ble_eq_true rfl⟩) ⟨sPf_b, va_recv hK hPc (ci := 5) (q0 := 0) rfl rfl, sPf_p hPc hK hF hS⟩ rfl rfl hl.1 rfl (lv_room (Nat.le_of_ble_eq_true rfl)) d_L_relation_5 ⟨Nat.le_of_ble_eq_true rfl, Nat.le_of_ble_eq_true rfl⟩)) (fun r3 hr3 => ?_)
        refine lv_i2l hx hb d_L_relation_8 rfl ?_
        refine va_last hx hb hK hP hD hS 0 2 rfl rfl (vp_in_nI (n := 0) (by decide) (by decide)) d_L_relation_9 (fun H locs hP hD hS => ?_)
        rw [show (0 : Int32).toNatClampNeg = 0 from by decide] at hP hD
        have hP : va_P D gC ([(ox, .inl (T.2.2.1, 1, .inr (.inl (vp_updL ov 0 r3.toInt64))))] ++ (cX T aa zw kp fp e0 e1 oF oT kt ft ks fs fc S ++ tl T S)) H := hP
        have hD : va_D A ([(ox, .inl (T.2.2.1, 1, .inr (.inl (vp_updL ov 0 r3.toInt64))))] ++ (cX T aa zw kp fp e0 e1 oF oT kt ft ks fs fc S ++ tl T S)) := hD
        refine lv_goto (tgt := 21) hx hb d_L_relation_10 (by decide) ?_
        refine lv_iconst (v := 0) hx hb d_L_relation_21 (by decide) ?_
        refine W.widen (k := 1) (n := 6) (by omega) (by omega) ?_
        exact W.iret (v := 0) hx hb hr (fun t ht hW => ⟨⟨0, vp_updL ov 0 r3.toInt64, rfl, Or.inr (⟨j, q, rfl, hj, Or.inr (⟨j2, q2, rfl, hj2, Or.inr ⟨h3, rfl, _, lup0, hr3⟩⟩)⟩), by rw [ht]; exact hP, va_K.moved hW.alike hK, hD⟩, hS.F ht⟩) hS.2.2 d_L_relation_22
      · refine lv_aload_n hx hb d_L_relation_0 rfl (lv_at hl 3 rfl) ?_
        refine lv_iconst (v := 0) hx hb d_L_relation_1 (by decide) ?_
        refine lv_aload_n hx hb d_L_relation_2 rfl (lv_at hl 0 rfl) ?_
        refine lv_iload_n hx hb d_L_relation_3 rfl (lv_at hl 1 rfl) ?_
        refine lv_iload_n hx hb d_L_relation_4 rfl (lv_at hl 2 rfl) ?_
        have hPc : va_P D gC (cX T aa zw kp fp e0 e1 oF oT kt ft ks fs fc S ++ tl T S) s.heap := hP.rt
        have hDc : va_D A (cX T aa zw kp fp e0 e1 oF oT kt ft ks fs fc S ++ tl T S) := hD.rt
        refine x_try (vx_runV (As := [.int (nI j), .int (nI j2)]) (rest := [.int 0, .ref ox]) ⟨hx, hb, hml, hown, hw⟩ (k_T_relation_z l hl9 D T κ A aa zw kp fp e0 e1 oF oT kt ft ks fs fc S s.heap.size j q j2 q2 hy0 hj hj2 h3) (cwV 2 hw (bg_V ml_L_54 wi_T_relation wv_T_relation wz_T wc_T_relation) rfl rfl rfl (by decide +kernel) ⟨Nat.le_of_ble_eq_true rfl, Nat.le_of_ble_eq_true rfl⟩) ⟨xPf_b, va_recv hK hPc (ci := 5) (q0 := 0) rfl rfl, xPf_p hPc hK hF hS⟩ rfl rfl hl.1 rfl (lv_room (Nat.le_of_ble_eq_true rfl)) d_L_relation_5 ⟨Nat.le_of_ble_eq_true rfl, Nat.le_of_ble_eq_true rfl⟩) hP hS hA (fun ce q9 H locs hP hS k1 k2 k3 => ?_)
        refine vx_catch (E := "java/lang/IllegalStateException") (name := "java/lang/IllegalStateException") hown [⟨0, 10, 13, 25⟩] ⟨0, 10, 17, 15⟩ [] htab (List.forall_mem_cons.mpr ⟨Or.inr ⟨by decide, "java/lang/IndexOutOfBoundsException", hw _ kl_L_25, hF.2.2.1.2.2.2 ("java/lang/IllegalStateException", "java/lang/IndexOutOfBoundsException") (by simp [sN])⟩, fun _ h => absurd h List.not_mem_nil⟩) rfl (by decide) (hw _ kl_L_15) (Nw_at (w := Cond.castable "java/lang/IllegalStateException" "java/lang/IllegalStateException") (hF.2.2.2.1 _ (by simp [sC])) rfl) k1 k2 k3 ?_
        refine lv_astore (lv' := [(4, .ref q9), (0, .ref (aa 0)), (1, .int (nI j)), (2, .int (nI j2)), (3, .ref ox)]) hx hb d_L_relation_17 hl (by decide) rfl (fun ls hl => ?_)
        refine lv_iconst (v := 2) hx hb d_L_relation_19 (by decide) ?_
        exact W.iret (v := 2) hx hb hr (fun t ht hW => ⟨⟨2, ov, rfl, Or.inr (⟨j, q, rfl, hj, Or.inr (⟨j2, q2, rfl, hj2, Or.inl ⟨h3, rfl⟩⟩)⟩), by rw [ht]; exact hP, va_K.moved hW.alike hK, hD⟩, hS.F ht⟩) hS.2.2 d_L_relation_20

set_option maxHeartbeats 4000000 in
set_option maxRecDepth 100000 in
theorem k_L_word (l : Launch) (hl9 : l.stackTraces = false) (D : va_G) (T : gT) (κ : gS) (ox : Nat) (ov : Nat → Int64) (aa : Nat → Nat) (zw : Int32) (kp : Nat) (fp : Nat → Int32) (e0 e1 : Int32) (oF oT : Bool) (kt : Nat) (ft : Nat → Int32) (ks : Nat) (fs fc : Nat → Int32) (S : tS) (sz : Nat) (xs ii : Int32) (hy0 : tOk κ S) (hy1 : ∀ {j : Nat} (q : spD), S.2.2.2[j]? = some q → ∀ k, k < (c_wl zw q S).length → ¬ nI k = -1) : vx_Met l y_L_word (Cond.codeWith y_L_word b_L_word 5 (some .int) [(0, 10, 13, 25)] :: bg_W) ({ frames := 9, cells := 1, slots := 6, locals := 197 }) (qPf κ D T ([(ox, .inl (T.2.2.1, 1, .inr (.inl ov)))] ++ (cX T aa zw kp fp e0 e1 oF oT kt ft ks fs fc S ++ tl T S)) [.ref (aa 0), .int xs, .int ii, .ref ox] sz) (va_Qi (fun (r : Int32) (u : (Nat → Int64) × Int32 × Int32 × Bool × Bool × Nat × (Nat → Int32) × Nat × (Nat → Int32)) => match u with | (ov1, w0, w1, v2, v3, kt1, ft1, ks1, fs1) => (j_ix xs (nI S.2.2.2.length) = false ∧ r = 1) ∨ (∃ (j : Nat) (q : spD), xs = nI j ∧ S.2.2.2[j]? = some q ∧ ((ii = -1 ∧ r = 0 ∧ ∃ v : Int32, ov1 0 = v.toInt64 ∧ v = (if (c_wl zw q S).length = 0 then -1 else nI (c_wl zw q S).length)) ∨ (¬ ii = -1 ∧ r = 0 ∧ ∃ v : Int32, ov1 0 = v.toInt64 ∧ ∃ k9, ii = nI k9 ∧ (c_wl zw q S)[k9]? = some v) ∨ (¬ ii = -1 ∧ (∀ i, i < (c_wl zw q S).length → ¬ ii = nI i) ∧ r = 1)))) (qB D T (va_A ([(ox, .inl (T.2.2.1, 1, .inr (.inl ov)))] ++ (cX T aa zw kp fp e0 e1 oF oT kt ft ks fs fc S ++ tl T S)) sz) (fun u : (Nat → Int64) × Int32 × Int32 × Bool × Bool × Nat × (Nat → Int32) × Nat × (Nat → Int32) => match u with | (ov1, w0, w1, v2, v3, kt1, ft1, ks1, fs1) => [(ox, .inl (T.2.2.1, 1, .inr (.inl ov1)))] ++ (cX T aa zw kp fp w0 w1 v2 v3 kt1 ft1 ks1 fs1 fc S ++ tl T S))) (va_A ([(ox, .inl (T.2.2.1, 1, .inr (.inl ov)))] ++ (cX T aa zw kp fp e0 e1 oF oT kt ft ks fs fc S ++ tl T S)) sz)) xF 1 6 (va_A ([(ox, .inl (T.2.2.1, 1, .inr (.inl ov)))] ++ (cX T aa zw kp fp e0 e1 oF oT kt ft ks fs fc S ++ tl T S)) sz) := by
  refine vx_ofWH (cc := b_L_word) (maxL := 5) (ret := (some .int)) (hh := [(0, 10, 13, 25)]) (by decide) rfl ?_
  intro p e s m args below meth c s₁ B hml hv
  obtain ⟨rfl, hsz, hP, hK, hD0, hF⟩ := hv
  refine vx_ret ?_
  have hx := B.exec
  have hb := B.bytes
  have hr := B.returns
  have hw : ∀ w ∈ bg_W, w.before ([.ref (aa 0), .int xs, .int ii, .ref ox] : List Value).toArray s = true := fun w h => atoms_spec (ws := (Cond.codeWith y_L_word b_L_word 5 (some .int) [(0, 10, 13, 25)] :: bg_W)) B.pre w (List.mem_cons_of_mem _ h)
  have htab := vx_table (x := y_L_word) B (atoms_spec (ws := (Cond.codeWith y_L_word b_L_word 5 (some .int) [(0, 10, 13, 25)] :: bg_W)) B.pre _ List.mem_cons_self)
  have hown : s.vm.findClass "TimeWordsLaw" = some m.cls := findClass_of_methodNamed B.named
  have hlocks := B.notSynchronized
  subst hsz
  have hD := hD0.self (sz := s.heap.size)
  generalize hAe : va_A ([(ox, .inl (T.2.2.1, 1, .inr (.inl ov)))] ++ (cX T aa zw kp fp e0 e1 oF oT kt ft ks fs fc S ++ tl T S)) s.heap.size = A at hD hF ⊢
  have hA : ∀ q : Nat, s.heap.size ≤ q → A q := fun q h => by rw [← hAe]; exact Or.inr h
  have hS : va_S A s.heap s.heap [] := va_S.rf
  have hl := lv_entry ([.ref (aa 0), .int xs, .int ii, .ref ox]) (n := 5) (Nat.le_of_ble_eq_true rfl)
  rw [lg_entry_eq]
  generalize (lg_sl ([.ref (aa 0), .int xs, .int ii, .ref ox]) ++ List.replicate (5 - (lg_sl ([.ref (aa 0), .int xs, .int ii, .ref ox])).length) Slot.unset).toArray = ls at hl ⊢
  have hl : lv_has ls 5 [(0, .ref (aa 0)), (1, .int xs), (2, .int ii), (3, .ref ox)] := hl
  rcases lx_s hy0 xs with h0 | ⟨j, q, rfl, hj⟩
  · refine lv_aload_n hx hb d_L_word_0 rfl (lv_at hl 3 rfl) ?_
    refine lv_iconst (v := 0) hx hb d_L_word_1 (by decide) ?_
    refine lv_aload_n hx hb d_L_word_2 rfl (lv_at hl 0 rfl) ?_
    refine lv_iload_n hx hb d_L_word_3 rfl (lv_at hl 1 rfl) ?_
    refine lv_iload_n hx hb d_L_word_4 rfl (lv_at hl 2 rfl) ?_
    have hPc : va_P D gC (cX T aa zw kp fp e0 e1 oF oT kt ft ks fs fc S ++ tl T S) s.heap := hP.rt
    have hDc : va_D A (cX T aa zw kp fp e0 e1 oF oT kt ft ks fs fc S ++ tl T S) := hD.rt
    refine x_try (vx_runV (As := [.int xs, .int ii]) (rest := [.int 0, .ref ox]) ⟨hx, hb, hml, hown, hw⟩ (k_T_word_x l hl9 D T κ A aa zw kp fp e0 e1 oF oT kt ft ks fs fc S s.heap.size xs ii h0) (cwV 2 hw (bg_V ml_L_57 wi_T_word wv_T_word wz_T wc_T_word) rfl rfl rfl (by decide +kernel) ⟨Nat.le_of_ble_eq_true rfl, Nat.le_of_ble_eq_true rfl⟩) ⟨xPf_b, va_recv hK hPc (ci := 5) (q0 := 0) rfl rfl, xPf_p hPc hK hF hS⟩ rfl rfl hl.1 rfl (lv_room (Nat.le_of_ble_eq_true rfl)) d_L_word_5 ⟨Nat.le_of_ble_eq_true rfl, Nat.le_of_ble_eq_true rfl⟩) hP hS hA (fun ce q9 H locs hP hS k1 k2 k3 => ?_)
    refine vx_catch (E := "java/lang/IndexOutOfBoundsException") (name := "java/lang/IndexOutOfBoundsException") hown [] ⟨0, 10, 13, 25⟩ [] htab (fun _ h => absurd h List.not_mem_nil) rfl (by decide) (hw _ kl_L_25) (Nw_at (w := Cond.castable "java/lang/IndexOutOfBoundsException" "java/lang/IndexOutOfBoundsException") (hF.2.2.2.1 _ (by simp [sC])) rfl) k1 k2 k3 ?_
    refine lv_astore (lv' := [(4, .ref q9), (0, .ref (aa 0)), (1, .int xs), (2, .int ii), (3, .ref ox)]) hx hb d_L_word_13 hl (by decide) rfl (fun ls hl => ?_)
    refine lv_iconst (v := 1) hx hb d_L_word_15 (by decide) ?_
    exact W.iret (v := 1) hx hb hr (fun t ht hW => ⟨⟨1, (ov, e0, e1, oF, oT, kt, ft, ks, fs), rfl, Or.inl (⟨h0, rfl⟩), by rw [ht]; exact hP, va_K.moved hW.alike hK, hD⟩, hS.F ht⟩) hS.2.2 d_L_word_16
  · rcases (show ii = -1 ∨ (∃ k9, k9 < (c_wl zw q S).length ∧ ii = nI k9) ∨ (¬ ii = -1 ∧ ∀ i, i < (c_wl zw q S).length → ¬ ii = nI i) from by by_cases h9 : ii = -1; exact Or.inl h9; exact Or.inr (by by_cases h8 : ∃ k9, k9 < (c_wl zw q S).length ∧ ii = nI k9; exact Or.inl h8; exact Or.inr ⟨h9, fun i h7 h6 => h8 ⟨i, h7, h6⟩⟩)) with rfl | ⟨k9, h2, rfl⟩ | ⟨h1, h2⟩
    · refine lv_aload_n hx hb d_L_word_0 rfl (lv_at hl 3 rfl) ?_
      refine lv_iconst (v := 0) hx hb d_L_word_1 (by decide) ?_
      refine lv_aload_n hx hb d_L_word_2 rfl (lv_at hl 0 rfl) ?_
      refine lv_iload_n hx hb d_L_word_3 rfl (lv_at hl 1 rfl) ?_
      refine lv_iload_n hx hb d_L_word_4 rfl (lv_at hl 2 rfl) ?_
      have hPc : va_P D gC (cX T aa zw kp fp e0 e1 oF oT kt ft ks fs fc S ++ tl T S) s.heap := hP.rt
      have hDc : va_D A (cX T aa zw kp fp e0 e1 oF oT kt ft ks fs fc S ++ tl T S) := hD.rt
      refine g_blki (B := [(ox, .inl (T.2.2.1, 1, .inr (.inl ov)))]) (C := cX T aa zw kp fp e0 e1 oF oT kt ft ks fs fc S ++ tl T S) (va_runV (As := [.int (nI j), .int (-1)]) (rest := [.int 0, .ref ox]) ⟨hx, hb, hml, hown, hw⟩ (k_T_word l D T κ aa zw kp fp e0 e1 oF oT kt ft ks fs fc S s.heap.size j q hy0 hj) (cwV 2 hw (bg_V ml_L_57 wi_T_word wv_T_word wz_T wc_T_word) rfl rfl rfl (by decide +kernel) ⟨Nat.le_of_ble_eq_true rfl, Nat.le_of_ble_eq_true rfl⟩) ⟨qPf_b, va_recv hK hPc (ci := 5) (q0 := 0) rfl rfl, qPf_p hPc hK hDc hF hS (g_free hDc hS hA)⟩ rfl rfl hl.1 rfl (lv_room (Nat.le_of_ble_eq_true rfl)) d_L_word_5 ⟨Nat.le_of_ble_eq_true rfl, Nat.le_of_ble_eq_true rfl⟩) hP hD hS hA (fun r2 u9 H locs hr2 hP hD hS => ?_)
      obtain ⟨u3, u4, u5, u6, u7, u8, u9, u10⟩ := u9
      dsimp only at hr2 hP hD
      have hP : va_P D gC ([(ox, .inl (T.2.2.1, 1, .inr (.inl ov)))] ++ (cX T aa zw kp fp u3 u4 u5 u6 u7 u8 u9 u10 fc S ++ tl T S)) H := hP
      have hD : va_D A ([(ox, .inl (T.2.2.1, 1, .inr (.inl ov)))] ++ (cX T aa zw kp fp u3 u4 u5 u6 u7 u8 u9 u10 fc S ++ tl T S)) := hD
      refine lv_i2l hx hb d_L_word_8 rfl ?_
      refine va_last hx hb hK hP hD hS 0 2 rfl rfl (vp_in_nI (n := 0) (by decide) (by decide)) d_L_word_9 (fun H locs hP hD hS => ?_)
      rw [show (0 : Int32).toNatClampNeg = 0 from by decide] at hP hD
      have hP : va_P D gC ([(ox, .inl (T.2.2.1, 1, .inr (.inl (vp_updL ov 0 r2.toInt64))))] ++ (cX T aa zw kp fp u3 u4 u5 u6 u7 u8 u9 u10 fc S ++ tl T S)) H := hP
      have hD : va_D A ([(ox, .inl (T.2.2.1, 1, .inr (.inl (vp_updL ov 0 r2.toInt64))))] ++ (cX T aa zw kp fp u3 u4 u5 u6 u7 u8 u9 u10 fc S ++ tl T S)) := hD
      refine lv_goto (tgt := 17) hx hb d_L_word_10 (by decide) ?_
      refine lv_iconst (v := 0) hx hb d_L_word_17 (by decide) ?_
      refine W.widen (k := 1) (n := 6) (by omega) (by omega) ?_
      exact W.iret (v := 0) hx hb hr (fun t ht hW => ⟨⟨0, (vp_updL ov 0 r2.toInt64, u3, u4, u5, u6, u7, u8, u9, u10), rfl, Or.inr (⟨j, q, rfl, hj, Or.inl (⟨rfl, rfl, _, lup0, hr2⟩)⟩), by rw [ht]; exact hP, va_K.moved hW.alike hK, hD⟩, hS.F ht⟩) hS.2.2 d_L_word_18
    · refine lv_aload_n hx hb d_L_word_0 rfl (lv_at hl 3 rfl) ?_
      refine lv_iconst (v := 0) hx hb d_L_word_1 (by decide) ?_
      refine lv_aload_n hx hb d_L_word_2 rfl (lv_at hl 0 rfl) ?_
      refine lv_iload_n hx hb d_L_word_3 rfl (lv_at hl 1 rfl) ?_
      refine lv_iload_n hx hb d_L_word_4 rfl (lv_at hl 2 rfl) ?_
      have hPc : va_P D gC (cX T aa zw kp fp e0 e1 oF oT kt ft ks fs fc S ++ tl T S) s.heap := hP.rt
      have hDc : va_D A (cX T aa zw kp fp e0 e1 oF oT kt ft ks fs fc S ++ tl T S) := hD.rt
      refine g_blki (B := [(ox, .inl (T.2.2.1, 1, .inr (.inl ov)))]) (C := cX T aa zw kp fp e0 e1 oF oT kt ft ks fs fc S ++ tl T S) (va_runV (As := [.int (nI j), .int (nI k9)]) (rest := [.int 0, .ref ox]) ⟨hx, hb, hml, hown, hw⟩ (k_T_word_k l D T κ aa zw kp fp e0 e1 oF oT kt ft ks fs fc S s.heap.size j q k9 hy0 hj h2) (cwV 2 hw (bg_V ml_L_57 wi_T_word wv_T_word wz_T wc_T_word) rfl rfl rfl (by decide +kernel) ⟨Nat.le_of_ble_eq_true rfl, Nat.le_of_ble_eq_true rfl⟩) ⟨qPf_b, va_recv hK hPc (ci := 5) (q0 := 0) rfl rfl, qPf_p hPc hK hDc hF hS (g_free hDc hS hA)⟩ rfl rfl hl.1 rfl (lv_room (Nat.le_of_ble_eq_true rfl)) d_L_word_5 ⟨Nat.le_of_ble_eq_true rfl, Nat.le_of_ble_eq_true rfl⟩) hP hD hS hA (fun r11 u9 H locs hr11 hP hD hS => ?_)
      obtain ⟨u12, u13, u14, u15, u16, u17, u18, u19⟩ := u9
      dsimp only at hr11 hP hD
      have hP : va_P D gC ([(ox, .inl (T.2.2.1, 1, .inr (.inl ov)))] ++ (cX T aa zw kp fp u12 u13 u14 u15 u16 u17 u18 u19 fc S ++ tl T S)) H := hP
      have hD : va_D A ([(ox, .inl (T.2.2.1, 1, .inr (.inl ov)))] ++ (cX T aa zw kp fp u12 u13 u14 u15 u16 u17 u18 u19 fc S ++ tl T S)) := hD
      refine lv_i2l hx hb d_L_word_8 rfl ?_
      refine va_last hx hb hK hP hD hS 0 2 rfl rfl (vp_in_nI (n := 0) (by decide) (by decide)) d_L_word_9 (fun H locs hP hD hS => ?_)
      rw [show (0 : Int32).toNatClampNeg = 0 from by decide] at hP hD
      have hP : va_P D gC ([(ox, .inl (T.2.2.1, 1, .inr (.inl (vp_updL ov 0 r11.toInt64))))] ++ (cX T aa zw kp fp u12 u13 u14 u15 u16 u17 u18 u19 fc S ++ tl T S)) H := hP
      have hD : va_D A ([(ox, .inl (T.2.2.1, 1, .inr (.inl (vp_updL ov 0 r11.toInt64))))] ++ (cX T aa zw kp fp u12 u13 u14 u15 u16 u17 u18 u19 fc S ++ tl T S)) := hD
      refine lv_goto (tgt := 17) hx hb d_L_word_10 (by decide) ?_
      refine lv_iconst (v := 0) hx hb d_L_word_17 (by decide) ?_
      refine W.widen (k := 1) (n := 6) (by omega) (by omega) ?_
      exact W.iret (v := 0) hx hb hr (fun t ht hW => ⟨⟨0, (vp_updL ov 0 r11.toInt64, u12, u13, u14, u15, u16, u17, u18, u19), rfl, Or.inr (⟨j, q, rfl, hj, Or.inr (Or.inl (⟨hy1 q hj k9 h2, rfl, _, lup0, k9, rfl, hr11⟩))⟩), by rw [ht]; exact hP, va_K.moved hW.alike hK, hD⟩, hS.F ht⟩) hS.2.2 d_L_word_18
    · refine lv_aload_n hx hb d_L_word_0 rfl (lv_at hl 3 rfl) ?_
      refine lv_iconst (v := 0) hx hb d_L_word_1 (by decide) ?_
      refine lv_aload_n hx hb d_L_word_2 rfl (lv_at hl 0 rfl) ?_
      refine lv_iload_n hx hb d_L_word_3 rfl (lv_at hl 1 rfl) ?_
      refine lv_iload_n hx hb d_L_word_4 rfl (lv_at hl 2 rfl) ?_
      have hPc : va_P D gC (cX T aa zw kp fp e0 e1 oF oT kt ft ks fs fc S ++ tl T S) s.heap := hP.rt
      have hDc : va_D A (cX T aa zw kp fp e0 e1 oF oT kt ft ks fs fc S ++ tl T S) := hD.rt
      refine y_try (B := [(ox, .inl (T.2.2.1, 1, .inr (.inl ov)))]) (C := cX T aa zw kp fp e0 e1 oF oT kt ft ks fs fc S ++ tl T S) (vx_runV (As := [.int (nI j), .int ii]) (rest := [.int 0, .ref ox]) ⟨hx, hb, hml, hown, hw⟩ (k_T_word_y l hl9 D T κ aa zw kp fp e0 e1 oF oT kt ft ks fs fc S s.heap.size j q ii hy0 hj h1 h2) (cwV 2 hw (bg_V ml_L_57 wi_T_word wv_T_word wz_T wc_T_word) rfl rfl rfl (by decide +kernel) ⟨Nat.le_of_ble_eq_true rfl, Nat.le_of_ble_eq_true rfl⟩) ⟨qPf_b, va_recv hK hPc (ci := 5) (q0 := 0) rfl rfl, qPf_p hPc hK hDc hF hS (g_free hDc hS hA)⟩ rfl rfl hl.1 rfl (lv_room (Nat.le_of_ble_eq_true rfl)) d_L_word_5 ⟨Nat.le_of_ble_eq_true rfl, Nat.le_of_ble_eq_true rfl⟩) hP hD hS hA (fun u9 ce q9 H locs hP hD hS k1 k2 k3 => ?_)
      obtain ⟨u21, u22, u23, u24, u25, u26, u27, u28⟩ := u9
      dsimp only at hP hD
      have hP : va_P D gC ([(ox, .inl (T.2.2.1, 1, .inr (.inl ov)))] ++ (cX T aa zw kp fp u21 u22 u23 u24 u25 u26 u27 u28 fc S ++ tl T S)) H := hP
      have hD : va_D A ([(ox, .inl (T.2.2.1, 1, .inr (.inl ov)))] ++ (cX T aa zw kp fp u21 u22 u23 u24 u25 u26 u27 u28 fc S ++ tl T S)) := hD
      refine vx_catch (E := "java/lang/IndexOutOfBoundsException") (name := "java/lang/IndexOutOfBoundsException") hown [] ⟨0, 10, 13, 25⟩ [] htab (fun _ h => absurd h List.not_mem_nil) rfl (by decide) (hw _ kl_L_25) (Nw_at (w := Cond.castable "java/lang/IndexOutOfBoundsException" "java/lang/IndexOutOfBoundsException") (hF.2.2.2.1 _ (by simp [sC])) rfl) k1 k2 k3 ?_
      refine lv_astore (lv' := [(4, .ref q9), (0, .ref (aa 0)), (1, .int (nI j)), (2, .int ii), (3, .ref ox)]) hx hb d_L_word_13 hl (by decide) rfl (fun ls hl => ?_)
      refine lv_iconst (v := 1) hx hb d_L_word_15 (by decide) ?_
      exact W.iret (v := 1) hx hb hr (fun t ht hW => ⟨⟨1, (ov, u21, u22, u23, u24, u25, u26, u27, u28), rfl, Or.inr (⟨j, q, rfl, hj, Or.inr (Or.inr (⟨h1, h2, rfl⟩))⟩), by rw [ht]; exact hP, va_K.moved hW.alike hK, hD⟩, hS.F ht⟩) hS.2.2 d_L_word_16

theorem lf_m {x mo wk : Int32} (h : (j_in x (-9999) 9999 && (j_in mo 1 12 && j_in wk 0 6)) = true) : j_in x (-9999) 9999 = true ∧ j_in wk 0 6 = true ∧ ∃ mm, 1 ≤ mm ∧ mm ≤ 12 ∧ mo = nI mm := by
  simp only [Bool.and_eq_true] at h
  refine ⟨h.1, h.2.2, ?_⟩
  obtain ⟨h1, h2⟩ : ¬ mo < 1 ∧ ¬ 12 < mo := by simpa [j_in] using h.2.1
  have c1 : (1 : Int32).toInt = 1 := by decide
  have c2 : (12 : Int32).toInt = 12 := by decide
  rw [ii_lt, c1] at h1
  rw [ii_lt, c2] at h2
  refine ⟨mo.toInt.toNat, by omega, by omega, ?_⟩
  rw [ii_eq, nI_toInt (by omega)]
  omega
set_option maxHeartbeats 4000000 in
set_option maxRecDepth 100000 in
theorem k_L_feast (l : Launch) (hl9 : l.stackTraces = false) (D : va_G) (T : gT) (κ : gS) (ox : Nat) (ov : Nat → Int64) (aa : Nat → Nat) (zw : Int32) (kp : Nat) (fp : Nat → Int32) (e0 e1 : Int32) (oF oT : Bool) (kt : Nat) (ft : Nat → Int32) (ks : Nat) (fs fc : Nat → Int32) (S : tS) (sz : Nat) (x mo wk kk : Int32) : vx_Met l y_L_feast (Cond.codeWith y_L_feast b_L_feast 7 (some .int) [(0, 14, 17, 13)] :: bg_W) ({ frames := 8, cells := 1, slots := 6, locals := 137 }) (qPf κ D T ([(ox, .inl (T.2.2.1, 1, .inr (.inl ov)))] ++ (cX T aa zw kp fp e0 e1 oF oT kt ft ks fs fc S ++ tl T S)) [.ref (aa 0), .int x, .int mo, .int wk, .int kk, .ref ox] sz) (va_Qi (fun (r : Int32) (ov1 : (Nat → Int64)) => ((j_in x (-9999) 9999 && (j_in mo 1 12 && j_in wk 0 6)) = false ∧ r = 1) ∨ ((j_in x (-9999) 9999 && (j_in mo 1 12 && j_in wk 0 6)) = true ∧ (decide (kk = -1) || j_in kk 1 5) = false ∧ r = 1) ∨ ((j_in x (-9999) 9999 && (j_in mo 1 12 && j_in wk 0 6)) = true ∧ (decide (kk = -1) || j_in kk 1 5) = true ∧ ∃ mm, 1 ≤ mm ∧ mm ≤ 12 ∧ mo = nI mm ∧ r = 0 ∧ ∃ v : Int32, ov1 0 = v.toInt64 ∧ v = c_ff x mm wk kk)) (qB D T (va_A ([(ox, .inl (T.2.2.1, 1, .inr (.inl ov)))] ++ (cX T aa zw kp fp e0 e1 oF oT kt ft ks fs fc S ++ tl T S)) sz) (fun ov1 : (Nat → Int64) => [(ox, .inl (T.2.2.1, 1, .inr (.inl ov1)))] ++ (cX T aa zw kp fp e0 e1 oF oT kt ft ks fs fc S ++ tl T S))) (va_A ([(ox, .inl (T.2.2.1, 1, .inr (.inl ov)))] ++ (cX T aa zw kp fp e0 e1 oF oT kt ft ks fs fc S ++ tl T S)) sz)) xF 1 6 (va_A ([(ox, .inl (T.2.2.1, 1, .inr (.inl ov)))] ++ (cX T aa zw kp fp e0 e1 oF oT kt ft ks fs fc S ++ tl T S)) sz) := by
  refine vx_ofWH (cc := b_L_feast) (maxL := 7) (ret := (some .int)) (hh := [(0, 14, 17, 13)]) (by decide) rfl ?_
  intro p e s m args below meth c s₁ B hml hv
  obtain ⟨rfl, hsz, hP, hK, hD0, hF⟩ := hv
  refine vx_ret ?_
  have hx := B.exec
  have hb := B.bytes
  have hr := B.returns
  have hw : ∀ w ∈ bg_W, w.before ([.ref (aa 0), .int x, .int mo, .int wk, .int kk, .ref ox] : List Value).toArray s = true := fun w h => atoms_spec (ws := (Cond.codeWith y_L_feast b_L_feast 7 (some .int) [(0, 14, 17, 13)] :: bg_W)) B.pre w (List.mem_cons_of_mem _ h)
  have htab := vx_table (x := y_L_feast) B (atoms_spec (ws := (Cond.codeWith y_L_feast b_L_feast 7 (some .int) [(0, 14, 17, 13)] :: bg_W)) B.pre _ List.mem_cons_self)
  have hown : s.vm.findClass "TimeWordsLaw" = some m.cls := findClass_of_methodNamed B.named
  have hlocks := B.notSynchronized
  subst hsz
  have hD := hD0.self (sz := s.heap.size)
  generalize hAe : va_A ([(ox, .inl (T.2.2.1, 1, .inr (.inl ov)))] ++ (cX T aa zw kp fp e0 e1 oF oT kt ft ks fs fc S ++ tl T S)) s.heap.size = A at hD hF ⊢
  have hA : ∀ q : Nat, s.heap.size ≤ q → A q := fun q h => by rw [← hAe]; exact Or.inr h
  have hS : va_S A s.heap s.heap [] := va_S.rf
  have hl := lv_entry ([.ref (aa 0), .int x, .int mo, .int wk, .int kk, .ref ox]) (n := 7) (Nat.le_of_ble_eq_true rfl)
  rw [lg_entry_eq]
  generalize (lg_sl ([.ref (aa 0), .int x, .int mo, .int wk, .int kk, .ref ox]) ++ List.replicate (7 - (lg_sl ([.ref (aa 0), .int x, .int mo, .int wk, .int kk, .ref ox])).length) Slot.unset).toArray = ls at hl ⊢
  have hl : lv_has ls 7 [(0, .ref (aa 0)), (1, .int x), (2, .int mo), (3, .int wk), (4, .int kk), (5, .ref ox)] := hl
  rcases bo_f (b := (j_in x (-9999) 9999 && (j_in mo 1 12 && j_in wk 0 6))) with h1 | h1
  · refine lv_aload hx hb d_L_feast_0 (lv_at hl 5 rfl) ?_
    refine lv_iconst (v := 0) hx hb d_L_feast_2 (by decide) ?_
    refine lv_aload_n hx hb d_L_feast_3 rfl (lv_at hl 0 rfl) ?_
    refine lv_iload_n hx hb d_L_feast_4 rfl (lv_at hl 1 rfl) ?_
    refine lv_iload_n hx hb d_L_feast_5 rfl (lv_at hl 2 rfl) ?_
    refine lv_iload_n hx hb d_L_feast_6 rfl (lv_at hl 3 rfl) ?_
    refine lv_iload hx hb d_L_feast_7 (lv_at hl 4 rfl) ?_
    have hPc : va_P D gC (cX T aa zw kp fp e0 e1 oF oT kt ft ks fs fc S ++ tl T S) s.heap := hP.rt
    have hDc : va_D A (cX T aa zw kp fp e0 e1 oF oT kt ft ks fs fc S ++ tl T S) := hD.rt
    refine x_try (vx_runV (As := [.int x, .int mo, .int wk, .int kk]) (rest := [.int 0, .ref ox]) ⟨hx, hb, hml, hown, hw⟩ (k_T_feast_x l hl9 D T κ A aa zw kp fp e0 e1 oF oT kt ft ks fs fc S s.heap.size x mo wk kk h1) (cwV 4 hw (bg_V ml_L_60 wi_T_feast wv_T_feast wz_T wc_T_feast) rfl rfl rfl (by decide +kernel) ⟨Nat.le_of_ble_eq_true rfl, Nat.le_of_ble_eq_true rfl⟩) ⟨xPf_b, va_recv hK hPc (ci := 5) (q0 := 0) rfl rfl, xPf_p hPc hK hF hS⟩ rfl rfl hl.1 rfl (lv_room (Nat.le_of_ble_eq_true rfl)) d_L_feast_9 ⟨Nat.le_of_ble_eq_true rfl, Nat.le_of_ble_eq_true rfl⟩) hP hS hA (fun ce q9 H locs hP hS k1 k2 k3 => ?_)
    refine vx_catch (E := "java/lang/IllegalArgumentException") (name := "java/lang/IllegalArgumentException") hown [] ⟨0, 14, 17, 13⟩ [] htab (fun _ h => absurd h List.not_mem_nil) rfl (by decide) (hw _ kl_L_13) (Nw_at (w := Cond.castable "java/lang/IllegalArgumentException" "java/lang/IllegalArgumentException") (hF.2.2.2.1 _ (by simp [sC])) rfl) k1 k2 k3 ?_
    refine lv_astore (lv' := [(6, .ref q9), (0, .ref (aa 0)), (1, .int x), (2, .int mo), (3, .int wk), (4, .int kk), (5, .ref ox)]) hx hb d_L_feast_17 hl (by decide) rfl (fun ls hl => ?_)
    refine lv_iconst (v := 1) hx hb d_L_feast_19 (by decide) ?_
    exact W.iret (v := 1) hx hb hr (fun t ht hW => ⟨⟨1, ov, rfl, Or.inl (⟨h1, rfl⟩), by rw [ht]; exact hP, va_K.moved hW.alike hK, hD⟩, hS.F ht⟩) hS.2.2 d_L_feast_20
  · rcases bo_f (b := (decide (kk = -1) || j_in kk 1 5)) with h2 | h2
    · refine lv_aload hx hb d_L_feast_0 (lv_at hl 5 rfl) ?_
      refine lv_iconst (v := 0) hx hb d_L_feast_2 (by decide) ?_
      refine lv_aload_n hx hb d_L_feast_3 rfl (lv_at hl 0 rfl) ?_
      refine lv_iload_n hx hb d_L_feast_4 rfl (lv_at hl 1 rfl) ?_
      refine lv_iload_n hx hb d_L_feast_5 rfl (lv_at hl 2 rfl) ?_
      refine lv_iload_n hx hb d_L_feast_6 rfl (lv_at hl 3 rfl) ?_
      refine lv_iload hx hb d_L_feast_7 (lv_at hl 4 rfl) ?_
      have hPc : va_P D gC (cX T aa zw kp fp e0 e1 oF oT kt ft ks fs fc S ++ tl T S) s.heap := hP.rt
      have hDc : va_D A (cX T aa zw kp fp e0 e1 oF oT kt ft ks fs fc S ++ tl T S) := hD.rt
      refine x_try (vx_runV (As := [.int x, .int mo, .int wk, .int kk]) (rest := [.int 0, .ref ox]) ⟨hx, hb, hml, hown, hw⟩ (k_T_feast_y l hl9 D T κ A aa zw kp fp e0 e1 oF oT kt ft ks fs fc S s.heap.size x mo wk kk h1 h2) (cwV 4 hw (bg_V ml_L_60 wi_T_feast wv_T_feast wz_T wc_T_feast) rfl rfl rfl (by decide +kernel) ⟨Nat.le_of_ble_eq_true rfl, Nat.le_of_ble_eq_true rfl⟩) ⟨xPf_b, va_recv hK hPc (ci := 5) (q0 := 0) rfl rfl, xPf_p hPc hK hF hS⟩ rfl rfl hl.1 rfl (lv_room (Nat.le_of_ble_eq_true rfl)) d_L_feast_9 ⟨Nat.le_of_ble_eq_true rfl, Nat.le_of_ble_eq_true rfl⟩) hP hS hA (fun ce q9 H locs hP hS k1 k2 k3 => ?_)
      refine vx_catch (E := "java/lang/IllegalArgumentException") (name := "java/lang/IllegalArgumentException") hown [] ⟨0, 14, 17, 13⟩ [] htab (fun _ h => absurd h List.not_mem_nil) rfl (by decide) (hw _ kl_L_13) (Nw_at (w := Cond.castable "java/lang/IllegalArgumentException" "java/lang/IllegalArgumentException") (hF.2.2.2.1 _ (by simp [sC])) rfl) k1 k2 k3 ?_
      refine lv_astore (lv' := [(6, .ref q9), (0, .ref (aa 0)), (1, .int x), (2, .int mo), (3, .int wk), (4, .int kk), (5, .ref ox)]) hx hb d_L_feast_17 hl (by decide) rfl (fun ls hl => ?_)
      refine lv_iconst (v := 1) hx hb d_L_feast_19 (by decide) ?_
      exact W.iret (v := 1) hx hb hr (fun t ht hW => ⟨⟨1, ov, rfl, Or.inr (Or.inl (⟨h1, h2, rfl⟩)), by rw [ht]; exact hP, va_K.moved hW.alike hK, hD⟩, hS.F ht⟩) hS.2.2 d_L_feast_20
    · obtain ⟨h3, h4, mm, h5, h6, rfl⟩ := lf_m h1
      refine lv_aload hx hb d_L_feast_0 (lv_at hl 5 rfl) ?_
      refine lv_iconst (v := 0) hx hb d_L_feast_2 (by decide) ?_
      refine lv_aload_n hx hb d_L_feast_3 rfl (lv_at hl 0 rfl) ?_
      refine lv_iload_n hx hb d_L_feast_4 rfl (lv_at hl 1 rfl) ?_
      refine lv_iload_n hx hb d_L_feast_5 rfl (lv_at hl 2 rfl) ?_
      refine lv_iload_n hx hb d_L_feast_6 rfl (lv_at hl 3 rfl) ?_
      refine lv_iload hx hb d_L_feast_7 (lv_at hl 4 rfl) ?_
      have hPc : va_P D gC (cX T aa zw kp fp e0 e1 oF oT kt ft ks fs fc S ++ tl T S) s.heap := hP.rt
      have hDc : va_D A (cX T aa zw kp fp e0 e1 oF oT kt ft ks fs fc S ++ tl T S) := hD.rt
      refine vp_callSi (va_Run.run (va_runV (As := [.int x, .int (nI mm), .int wk, .int kk]) (rest := [.int 0, .ref ox]) ⟨hx, hb, hml, hown, hw⟩ (k_T_feast l D T κ A aa zw kp fp e0 e1 oF oT kt ft ks fs fc S x mm wk kk h3 h5 h6 h4 h2) (cwV 4 hw (bg_V ml_L_60 wi_T_feast wv_T_feast wz_T wc_T_feast) rfl rfl rfl (by decide +kernel) ⟨Nat.le_of_ble_eq_true rfl, Nat.le_of_ble_eq_true rfl⟩) ⟨sPf_b, va_recv hK hPc (ci := 5) (q0 := 0) rfl rfl, sPf_p hPc hK hF hS⟩ rfl rfl hl.1 rfl (lv_room (Nat.le_of_ble_eq_true rfl)) d_L_feast_9 ⟨Nat.le_of_ble_eq_true rfl, Nat.le_of_ble_eq_true rfl⟩)) (fun r3 hr3 => ?_)
      refine lv_i2l hx hb d_L_feast_12 rfl ?_
      refine va_last hx hb hK hP hD hS 0 2 rfl rfl (vp_in_nI (n := 0) (by decide) (by decide)) d_L_feast_13 (fun H locs hP hD hS => ?_)
      rw [show (0 : Int32).toNatClampNeg = 0 from by decide] at hP hD
      have hP : va_P D gC ([(ox, .inl (T.2.2.1, 1, .inr (.inl (vp_updL ov 0 r3.toInt64))))] ++ (cX T aa zw kp fp e0 e1 oF oT kt ft ks fs fc S ++ tl T S)) H := hP
      have hD : va_D A ([(ox, .inl (T.2.2.1, 1, .inr (.inl (vp_updL ov 0 r3.toInt64))))] ++ (cX T aa zw kp fp e0 e1 oF oT kt ft ks fs fc S ++ tl T S)) := hD
      refine lv_goto (tgt := 21) hx hb d_L_feast_14 (by decide) ?_
      refine lv_iconst (v := 0) hx hb d_L_feast_21 (by decide) ?_
      refine W.widen (k := 1) (n := 6) (by omega) (by omega) ?_
      exact W.iret (v := 0) hx hb hr (fun t ht hW => ⟨⟨0, vp_updL ov 0 r3.toInt64, rfl, Or.inr (Or.inr (⟨h1, h2, mm, h5, h6, rfl, rfl, _, lup0, hr3⟩)), by rw [ht]; exact hP, va_K.moved hW.alike hK, hD⟩, hS.F ht⟩) hS.2.2 d_L_feast_22

set_option maxHeartbeats 4000000 in
set_option maxRecDepth 100000 in
theorem k_L_regnal (l : Launch) (hl9 : l.stackTraces = false) (D : va_G) (T : gT) (κ : gS) (ox : Nat) (ov : Nat → Int64) (aa : Nat → Nat) (zw : Int32) (kp : Nat) (fp : Nat → Int32) (e0 e1 : Int32) (oF oT : Bool) (kt : Nat) (ft : Nat → Int32) (ks : Nat) (fs fc : Nat → Int32) (S : tS) (sz : Nat) (xn x : Int32) (hy0 : tOk κ S) : vx_Met l y_L_regnal (Cond.codeWith y_L_regnal b_L_regnal 5 (some .int) [(0, 10, 13, 25), (0, 10, 17, 13), (0, 10, 21, 15)] :: bg_W) ({ frames := 9, cells := 1, slots := 6, locals := 154 }) (qPf κ D T ([(ox, .inl (T.2.2.1, 1, .inr (.inl ov)))] ++ (cX T aa zw kp fp e0 e1 oF oT kt ft ks fs fc S ++ tl T S)) [.ref (aa 0), .int xn, .int x, .ref ox] sz) (va_Qi (fun (r : Int32) (ov1 : (Nat → Int64)) => (j_ix xn (nI S.2.1.length) = false ∧ r = 1) ∨ (∃ (j : Nat) (n : nmD), xn = nI j ∧ S.2.1[j]? = some n ∧ ((¬ 1 ≤ x ∧ r = 2) ∨ (1 ≤ x ∧ nG n = none ∧ r = 3) ∨ (1 ≤ x ∧ ∃ r9, nG n = some r9 ∧ ¬ x ≤ r9.2.2 - r9.2.1 + 1 ∧ r = 3) ∨ (1 ≤ x ∧ ∃ r9, nG n = some r9 ∧ x ≤ r9.2.2 - r9.2.1 + 1 ∧ r = 0 ∧ ∃ v : Int32, ov1 0 = v.toInt64 ∧ v = r9.2.1 + x - 1)))) (qB D T (va_A ([(ox, .inl (T.2.2.1, 1, .inr (.inl ov)))] ++ (cX T aa zw kp fp e0 e1 oF oT kt ft ks fs fc S ++ tl T S)) sz) (fun ov1 : (Nat → Int64) => [(ox, .inl (T.2.2.1, 1, .inr (.inl ov1)))] ++ (cX T aa zw kp fp e0 e1 oF oT kt ft ks fs fc S ++ tl T S))) (va_A ([(ox, .inl (T.2.2.1, 1, .inr (.inl ov)))] ++ (cX T aa zw kp fp e0 e1 oF oT kt ft ks fs fc S ++ tl T S)) sz)) xF 1 6 (va_A ([(ox, .inl (T.2.2.1, 1, .inr (.inl ov)))] ++ (cX T aa zw kp fp e0 e1 oF oT kt ft ks fs fc S ++ tl T S)) sz) := by
  refine vx_ofWH (cc := b_L_regnal) (maxL := 5) (ret := (some .int)) (hh := [(0, 10, 13, 25), (0, 10, 17, 13), (0, 10, 21, 15)]) (by decide) rfl ?_
  intro p e s m args below meth c s₁ B hml hv
  obtain ⟨rfl, hsz, hP, hK, hD0, hF⟩ := hv
  refine vx_ret ?_
  have hx := B.exec
  have hb := B.bytes
  have hr := B.returns
  have hw : ∀ w ∈ bg_W, w.before ([.ref (aa 0), .int xn, .int x, .ref ox] : List Value).toArray s = true := fun w h => atoms_spec (ws := (Cond.codeWith y_L_regnal b_L_regnal 5 (some .int) [(0, 10, 13, 25), (0, 10, 17, 13), (0, 10, 21, 15)] :: bg_W)) B.pre w (List.mem_cons_of_mem _ h)
  have htab := vx_table (x := y_L_regnal) B (atoms_spec (ws := (Cond.codeWith y_L_regnal b_L_regnal 5 (some .int) [(0, 10, 13, 25), (0, 10, 17, 13), (0, 10, 21, 15)] :: bg_W)) B.pre _ List.mem_cons_self)
  have hown : s.vm.findClass "TimeWordsLaw" = some m.cls := findClass_of_methodNamed B.named
  have hlocks := B.notSynchronized
  subst hsz
  have hD := hD0.self (sz := s.heap.size)
  generalize hAe : va_A ([(ox, .inl (T.2.2.1, 1, .inr (.inl ov)))] ++ (cX T aa zw kp fp e0 e1 oF oT kt ft ks fs fc S ++ tl T S)) s.heap.size = A at hD hF ⊢
  have hA : ∀ q : Nat, s.heap.size ≤ q → A q := fun q h => by rw [← hAe]; exact Or.inr h
  have hS : va_S A s.heap s.heap [] := va_S.rf
  have hl := lv_entry ([.ref (aa 0), .int xn, .int x, .ref ox]) (n := 5) (Nat.le_of_ble_eq_true rfl)
  rw [lg_entry_eq]
  generalize (lg_sl ([.ref (aa 0), .int xn, .int x, .ref ox]) ++ List.replicate (5 - (lg_sl ([.ref (aa 0), .int xn, .int x, .ref ox])).length) Slot.unset).toArray = ls at hl ⊢
  have hl : lv_has ls 5 [(0, .ref (aa 0)), (1, .int xn), (2, .int x), (3, .ref ox)] := hl
  rcases lx_n hy0 xn with h0 | ⟨j, n, rfl, hj⟩
  · refine lv_aload_n hx hb d_L_regnal_0 rfl (lv_at hl 3 rfl) ?_
    refine lv_iconst (v := 0) hx hb d_L_regnal_1 (by decide) ?_
    refine lv_aload_n hx hb d_L_regnal_2 rfl (lv_at hl 0 rfl) ?_
    refine lv_iload_n hx hb d_L_regnal_3 rfl (lv_at hl 1 rfl) ?_
    refine lv_iload_n hx hb d_L_regnal_4 rfl (lv_at hl 2 rfl) ?_
    have hPc : va_P D gC (cX T aa zw kp fp e0 e1 oF oT kt ft ks fs fc S ++ tl T S) s.heap := hP.rt
    have hDc : va_D A (cX T aa zw kp fp e0 e1 oF oT kt ft ks fs fc S ++ tl T S) := hD.rt
    refine x_try (vx_runV (As := [.int xn, .int x]) (rest := [.int 0, .ref ox]) ⟨hx, hb, hml, hown, hw⟩ (k_T_regnal_x l hl9 D T κ A aa zw kp fp e0 e1 oF oT kt ft ks fs fc S s.heap.size xn x h0) (cwV 2 hw (bg_V ml_L_64 wi_T_regnal wv_T_regnal wz_T wc_T_regnal) rfl rfl rfl (by decide +kernel) ⟨Nat.le_of_ble_eq_true rfl, Nat.le_of_ble_eq_true rfl⟩) ⟨xPf_b, va_recv hK hPc (ci := 5) (q0 := 0) rfl rfl, xPf_p hPc hK hF hS⟩ rfl rfl hl.1 rfl (lv_room (Nat.le_of_ble_eq_true rfl)) d_L_regnal_5 ⟨Nat.le_of_ble_eq_true rfl, Nat.le_of_ble_eq_true rfl⟩) hP hS hA (fun ce q9 H locs hP hS k1 k2 k3 => ?_)
    refine vx_catch (E := "java/lang/IndexOutOfBoundsException") (name := "java/lang/IndexOutOfBoundsException") hown [] ⟨0, 10, 13, 25⟩ [⟨0, 10, 17, 13⟩, ⟨0, 10, 21, 15⟩] htab (fun _ h => absurd h List.not_mem_nil) rfl (by decide) (hw _ kl_L_25) (Nw_at (w := Cond.castable "java/lang/IndexOutOfBoundsException" "java/lang/IndexOutOfBoundsException") (hF.2.2.2.1 _ (by simp [sC])) rfl) k1 k2 k3 ?_
    refine lv_astore (lv' := [(4, .ref q9), (0, .ref (aa 0)), (1, .int xn), (2, .int x), (3, .ref ox)]) hx hb d_L_regnal_13 hl (by decide) rfl (fun ls hl => ?_)
    refine lv_iconst (v := 1) hx hb d_L_regnal_15 (by decide) ?_
    exact W.iret (v := 1) hx hb hr (fun t ht hW => ⟨⟨1, ov, rfl, Or.inl (⟨h0, rfl⟩), by rw [ht]; exact hP, va_K.moved hW.alike hK, hD⟩, hS.F ht⟩) hS.2.2 d_L_regnal_16
  · rcases (show ¬ 1 ≤ x ∨ 1 ≤ x from by by_cases h : 1 ≤ x; exact Or.inr h; exact Or.inl h) with h1 | h1
    · refine lv_aload_n hx hb d_L_regnal_0 rfl (lv_at hl 3 rfl) ?_
      refine lv_iconst (v := 0) hx hb d_L_regnal_1 (by decide) ?_
      refine lv_aload_n hx hb d_L_regnal_2 rfl (lv_at hl 0 rfl) ?_
      refine lv_iload_n hx hb d_L_regnal_3 rfl (lv_at hl 1 rfl) ?_
      refine lv_iload_n hx hb d_L_regnal_4 rfl (lv_at hl 2 rfl) ?_
      have hPc : va_P D gC (cX T aa zw kp fp e0 e1 oF oT kt ft ks fs fc S ++ tl T S) s.heap := hP.rt
      have hDc : va_D A (cX T aa zw kp fp e0 e1 oF oT kt ft ks fs fc S ++ tl T S) := hD.rt
      refine x_try (vx_runV (As := [.int (nI j), .int x]) (rest := [.int 0, .ref ox]) ⟨hx, hb, hml, hown, hw⟩ (k_T_regnal_y l hl9 D T κ A aa zw kp fp e0 e1 oF oT kt ft ks fs fc S s.heap.size j n x hy0 hj h1) (cwV 2 hw (bg_V ml_L_64 wi_T_regnal wv_T_regnal wz_T wc_T_regnal) rfl rfl rfl (by decide +kernel) ⟨Nat.le_of_ble_eq_true rfl, Nat.le_of_ble_eq_true rfl⟩) ⟨xPf_b, va_recv hK hPc (ci := 5) (q0 := 0) rfl rfl, xPf_p hPc hK hF hS⟩ rfl rfl hl.1 rfl (lv_room (Nat.le_of_ble_eq_true rfl)) d_L_regnal_5 ⟨Nat.le_of_ble_eq_true rfl, Nat.le_of_ble_eq_true rfl⟩) hP hS hA (fun ce q9 H locs hP hS k1 k2 k3 => ?_)
      refine vx_catch (E := "java/lang/IllegalArgumentException") (name := "java/lang/IllegalArgumentException") hown [⟨0, 10, 13, 25⟩] ⟨0, 10, 17, 13⟩ [⟨0, 10, 21, 15⟩] htab (List.forall_mem_cons.mpr ⟨Or.inr ⟨by decide, "java/lang/IndexOutOfBoundsException", hw _ kl_L_25, hF.2.2.1.2.2.2 ("java/lang/IllegalArgumentException", "java/lang/IndexOutOfBoundsException") (by simp [sN])⟩, fun _ h => absurd h List.not_mem_nil⟩) rfl (by decide) (hw _ kl_L_13) (Nw_at (w := Cond.castable "java/lang/IllegalArgumentException" "java/lang/IllegalArgumentException") (hF.2.2.2.1 _ (by simp [sC])) rfl) k1 k2 k3 ?_
      refine lv_astore (lv' := [(4, .ref q9), (0, .ref (aa 0)), (1, .int (nI j)), (2, .int x), (3, .ref ox)]) hx hb d_L_regnal_17 hl (by decide) rfl (fun ls hl => ?_)
      refine lv_iconst (v := 2) hx hb d_L_regnal_19 (by decide) ?_
      exact W.iret (v := 2) hx hb hr (fun t ht hW => ⟨⟨2, ov, rfl, Or.inr (⟨j, n, rfl, hj, Or.inl (⟨h1, rfl⟩)⟩), by rw [ht]; exact hP, va_K.moved hW.alike hK, hD⟩, hS.F ht⟩) hS.2.2 d_L_regnal_20
    · rcases hG : nG n with _ | r9
      · refine lv_aload_n hx hb d_L_regnal_0 rfl (lv_at hl 3 rfl) ?_
        refine lv_iconst (v := 0) hx hb d_L_regnal_1 (by decide) ?_
        refine lv_aload_n hx hb d_L_regnal_2 rfl (lv_at hl 0 rfl) ?_
        refine lv_iload_n hx hb d_L_regnal_3 rfl (lv_at hl 1 rfl) ?_
        refine lv_iload_n hx hb d_L_regnal_4 rfl (lv_at hl 2 rfl) ?_
        have hPc : va_P D gC (cX T aa zw kp fp e0 e1 oF oT kt ft ks fs fc S ++ tl T S) s.heap := hP.rt
        have hDc : va_D A (cX T aa zw kp fp e0 e1 oF oT kt ft ks fs fc S ++ tl T S) := hD.rt
        refine x_try (vx_runV (As := [.int (nI j), .int x]) (rest := [.int 0, .ref ox]) ⟨hx, hb, hml, hown, hw⟩ (k_T_regnal_z l hl9 D T κ A aa zw kp fp e0 e1 oF oT kt ft ks fs fc S s.heap.size j n x hy0 hj h1 hG) (cwV 2 hw (bg_V ml_L_64 wi_T_regnal wv_T_regnal wz_T wc_T_regnal) rfl rfl rfl (by decide +kernel) ⟨Nat.le_of_ble_eq_true rfl, Nat.le_of_ble_eq_true rfl⟩) ⟨xPf_b, va_recv hK hPc (ci := 5) (q0 := 0) rfl rfl, xPf_p hPc hK hF hS⟩ rfl rfl hl.1 rfl (lv_room (Nat.le_of_ble_eq_true rfl)) d_L_regnal_5 ⟨Nat.le_of_ble_eq_true rfl, Nat.le_of_ble_eq_true rfl⟩) hP hS hA (fun ce q9 H locs hP hS k1 k2 k3 => ?_)
        refine vx_catch (E := "java/lang/IllegalStateException") (name := "java/lang/IllegalStateException") hown [⟨0, 10, 13, 25⟩, ⟨0, 10, 17, 13⟩] ⟨0, 10, 21, 15⟩ [] htab (List.forall_mem_cons.mpr ⟨Or.inr ⟨by decide, "java/lang/IndexOutOfBoundsException", hw _ kl_L_25, hF.2.2.1.2.2.2 ("java/lang/IllegalStateException", "java/lang/IndexOutOfBoundsException") (by simp [sN])⟩, List.forall_mem_cons.mpr ⟨Or.inr ⟨by decide, "java/lang/IllegalArgumentException", hw _ kl_L_13, hF.2.2.1.2.2.2 ("java/lang/IllegalStateException", "java/lang/IllegalArgumentException") (by simp [sN])⟩, fun _ h => absurd h List.not_mem_nil⟩⟩) rfl (by decide) (hw _ kl_L_15) (Nw_at (w := Cond.castable "java/lang/IllegalStateException" "java/lang/IllegalStateException") (hF.2.2.2.1 _ (by simp [sC])) rfl) k1 k2 k3 ?_
        refine lv_astore (lv' := [(4, .ref q9), (0, .ref (aa 0)), (1, .int (nI j)), (2, .int x), (3, .ref ox)]) hx hb d_L_regnal_21 hl (by decide) rfl (fun ls hl => ?_)
        refine lv_iconst (v := 3) hx hb d_L_regnal_23 (by decide) ?_
        exact W.iret (v := 3) hx hb hr (fun t ht hW => ⟨⟨3, ov, rfl, Or.inr (⟨j, n, rfl, hj, Or.inr (Or.inl (⟨h1, hG, rfl⟩))⟩), by rw [ht]; exact hP, va_K.moved hW.alike hK, hD⟩, hS.F ht⟩) hS.2.2 d_L_regnal_24
      · rcases (show ¬ x ≤ r9.2.2 - r9.2.1 + 1 ∨ x ≤ r9.2.2 - r9.2.1 + 1 from by by_cases h : x ≤ r9.2.2 - r9.2.1 + 1; exact Or.inr h; exact Or.inl h) with h2 | h2
        · refine lv_aload_n hx hb d_L_regnal_0 rfl (lv_at hl 3 rfl) ?_
          refine lv_iconst (v := 0) hx hb d_L_regnal_1 (by decide) ?_
          refine lv_aload_n hx hb d_L_regnal_2 rfl (lv_at hl 0 rfl) ?_
          refine lv_iload_n hx hb d_L_regnal_3 rfl (lv_at hl 1 rfl) ?_
          refine lv_iload_n hx hb d_L_regnal_4 rfl (lv_at hl 2 rfl) ?_
          have hPc : va_P D gC (cX T aa zw kp fp e0 e1 oF oT kt ft ks fs fc S ++ tl T S) s.heap := hP.rt
          have hDc : va_D A (cX T aa zw kp fp e0 e1 oF oT kt ft ks fs fc S ++ tl T S) := hD.rt
          refine x_try (vx_runV (As := [.int (nI j), .int x]) (rest := [.int 0, .ref ox]) ⟨hx, hb, hml, hown, hw⟩ (k_T_regnal_u l hl9 D T κ A aa zw kp fp e0 e1 oF oT kt ft ks fs fc S s.heap.size j n x r9 hy0 hj h1 hG h2) (cwV 2 hw (bg_V ml_L_64 wi_T_regnal wv_T_regnal wz_T wc_T_regnal) rfl rfl rfl (by decide +kernel) ⟨Nat.le_of_ble_eq_true rfl, Nat.le_of_ble_eq_true rfl⟩) ⟨xPf_b, va_recv hK hPc (ci := 5) (q0 := 0) rfl rfl, xPf_p hPc hK hF hS⟩ rfl rfl hl.1 rfl (lv_room (Nat.le_of_ble_eq_true rfl)) d_L_regnal_5 ⟨Nat.le_of_ble_eq_true rfl, Nat.le_of_ble_eq_true rfl⟩) hP hS hA (fun ce q9 H locs hP hS k1 k2 k3 => ?_)
          refine vx_catch (E := "java/lang/IllegalStateException") (name := "java/lang/IllegalStateException") hown [⟨0, 10, 13, 25⟩, ⟨0, 10, 17, 13⟩] ⟨0, 10, 21, 15⟩ [] htab (List.forall_mem_cons.mpr ⟨Or.inr ⟨by decide, "java/lang/IndexOutOfBoundsException", hw _ kl_L_25, hF.2.2.1.2.2.2 ("java/lang/IllegalStateException", "java/lang/IndexOutOfBoundsException") (by simp [sN])⟩, List.forall_mem_cons.mpr ⟨Or.inr ⟨by decide, "java/lang/IllegalArgumentException", hw _ kl_L_13, hF.2.2.1.2.2.2 ("java/lang/IllegalStateException", "java/lang/IllegalArgumentException") (by simp [sN])⟩, fun _ h => absurd h List.not_mem_nil⟩⟩) rfl (by decide) (hw _ kl_L_15) (Nw_at (w := Cond.castable "java/lang/IllegalStateException" "java/lang/IllegalStateException") (hF.2.2.2.1 _ (by simp [sC])) rfl) k1 k2 k3 ?_
          refine lv_astore (lv' := [(4, .ref q9), (0, .ref (aa 0)), (1, .int (nI j)), (2, .int x), (3, .ref ox)]) hx hb d_L_regnal_21 hl (by decide) rfl (fun ls hl => ?_)
          refine lv_iconst (v := 3) hx hb d_L_regnal_23 (by decide) ?_
          exact W.iret (v := 3) hx hb hr (fun t ht hW => ⟨⟨3, ov, rfl, Or.inr (⟨j, n, rfl, hj, Or.inr (Or.inr (Or.inl (⟨h1, r9, hG, h2, rfl⟩)))⟩), by rw [ht]; exact hP, va_K.moved hW.alike hK, hD⟩, hS.F ht⟩) hS.2.2 d_L_regnal_24
        · refine lv_aload_n hx hb d_L_regnal_0 rfl (lv_at hl 3 rfl) ?_
          refine lv_iconst (v := 0) hx hb d_L_regnal_1 (by decide) ?_
          refine lv_aload_n hx hb d_L_regnal_2 rfl (lv_at hl 0 rfl) ?_
          refine lv_iload_n hx hb d_L_regnal_3 rfl (lv_at hl 1 rfl) ?_
          refine lv_iload_n hx hb d_L_regnal_4 rfl (lv_at hl 2 rfl) ?_
          have hPc : va_P D gC (cX T aa zw kp fp e0 e1 oF oT kt ft ks fs fc S ++ tl T S) s.heap := hP.rt
          have hDc : va_D A (cX T aa zw kp fp e0 e1 oF oT kt ft ks fs fc S ++ tl T S) := hD.rt
          refine vp_callSi (va_Run.run (va_runV (As := [.int (nI j), .int x]) (rest := [.int 0, .ref ox]) ⟨hx, hb, hml, hown, hw⟩ (k_T_regnal l D T κ A aa zw kp fp e0 e1 oF oT kt ft ks fs fc S j n x r9 hy0 hj h1 hG h2) (cwV 2 hw (bg_V ml_L_64 wi_T_regnal wv_T_regnal wz_T wc_T_regnal) rfl rfl rfl (by decide +kernel) ⟨Nat.le_of_ble_eq_true rfl, Nat.le_of_ble_eq_true rfl⟩) ⟨sPf_b, va_recv hK hPc (ci := 5) (q0 := 0) rfl rfl, sPf_p hPc hK hF hS⟩ rfl rfl hl.1 rfl (lv_room (Nat.le_of_ble_eq_true rfl)) d_L_regnal_5 ⟨Nat.le_of_ble_eq_true rfl, Nat.le_of_ble_eq_true rfl⟩)) (fun r5 hr5 => ?_)
          refine lv_i2l hx hb d_L_regnal_8 rfl ?_
          refine va_last hx hb hK hP hD hS 0 2 rfl rfl (vp_in_nI (n := 0) (by decide) (by decide)) d_L_regnal_9 (fun H locs hP hD hS => ?_)
          rw [show (0 : Int32).toNatClampNeg = 0 from by decide] at hP hD
          have hP : va_P D gC ([(ox, .inl (T.2.2.1, 1, .inr (.inl (vp_updL ov 0 r5.toInt64))))] ++ (cX T aa zw kp fp e0 e1 oF oT kt ft ks fs fc S ++ tl T S)) H := hP
          have hD : va_D A ([(ox, .inl (T.2.2.1, 1, .inr (.inl (vp_updL ov 0 r5.toInt64))))] ++ (cX T aa zw kp fp e0 e1 oF oT kt ft ks fs fc S ++ tl T S)) := hD
          refine lv_goto (tgt := 25) hx hb d_L_regnal_10 (by decide) ?_
          refine lv_iconst (v := 0) hx hb d_L_regnal_25 (by decide) ?_
          refine W.widen (k := 1) (n := 6) (by omega) (by omega) ?_
          exact W.iret (v := 0) hx hb hr (fun t ht hW => ⟨⟨0, vp_updL ov 0 r5.toInt64, rfl, Or.inr (⟨j, n, rfl, hj, Or.inr (Or.inr (Or.inr (⟨h1, r9, hG, h2, rfl, _, lup0, hr5⟩)))⟩), by rw [ht]; exact hP, va_K.moved hW.alike hK, hD⟩, hS.F ht⟩) hS.2.2 d_L_regnal_26

set_option maxHeartbeats 4000000 in
set_option maxRecDepth 100000 in
theorem k_L_count (l : Launch) (hl9 : l.stackTraces = false) (D : va_G) (T : gT) (κ : gS) (ox : Nat) (ov : Nat → Int64) (aa : Nat → Nat) (zw : Int32) (kp : Nat) (fp : Nat → Int32) (e0 e1 : Int32) (oF oT : Bool) (kt : Nat) (ft : Nat → Int32) (ks : Nat) (fs fc : Nat → Int32) (S : tS) (sz : Nat) (x : Int32) : vx_Met l y_L_count (Cond.codeWith y_L_count b_L_count 4 (some .int) [(0, 9, 12, 25)] :: bg_W) ({ frames := 8, cells := 1, slots := 6, locals := 131 }) (qPf κ D T ([(ox, .inl (T.2.2.1, 1, .inr (.inl ov)))] ++ (cX T aa zw kp fp e0 e1 oF oT kt ft ks fs fc S ++ tl T S)) [.ref (aa 0), .int x, .ref ox] sz) (va_Qi (fun (r : Int32) (ov1 : (Nat → Int64)) => (j_in x 0 2 = false ∧ r = 1) ∨ (j_in x 0 2 = true ∧ r = 0 ∧ ∃ v : Int32, ov1 0 = v.toInt64 ∧ v = (if x = 0 then nI kp else if x = 1 then nI S.2.1.length else nI S.2.2.2.length))) (qB D T (va_A ([(ox, .inl (T.2.2.1, 1, .inr (.inl ov)))] ++ (cX T aa zw kp fp e0 e1 oF oT kt ft ks fs fc S ++ tl T S)) sz) (fun ov1 : (Nat → Int64) => [(ox, .inl (T.2.2.1, 1, .inr (.inl ov1)))] ++ (cX T aa zw kp fp e0 e1 oF oT kt ft ks fs fc S ++ tl T S))) (va_A ([(ox, .inl (T.2.2.1, 1, .inr (.inl ov)))] ++ (cX T aa zw kp fp e0 e1 oF oT kt ft ks fs fc S ++ tl T S)) sz)) xF 1 6 (va_A ([(ox, .inl (T.2.2.1, 1, .inr (.inl ov)))] ++ (cX T aa zw kp fp e0 e1 oF oT kt ft ks fs fc S ++ tl T S)) sz) := by
  refine vx_ofWH (cc := b_L_count) (maxL := 4) (ret := (some .int)) (hh := [(0, 9, 12, 25)]) (by decide) rfl ?_
  intro p e s m args below meth c s₁ B hml hv
  obtain ⟨rfl, hsz, hP, hK, hD0, hF⟩ := hv
  refine vx_ret ?_
  have hx := B.exec
  have hb := B.bytes
  have hr := B.returns
  have hw : ∀ w ∈ bg_W, w.before ([.ref (aa 0), .int x, .ref ox] : List Value).toArray s = true := fun w h => atoms_spec (ws := (Cond.codeWith y_L_count b_L_count 4 (some .int) [(0, 9, 12, 25)] :: bg_W)) B.pre w (List.mem_cons_of_mem _ h)
  have htab := vx_table (x := y_L_count) B (atoms_spec (ws := (Cond.codeWith y_L_count b_L_count 4 (some .int) [(0, 9, 12, 25)] :: bg_W)) B.pre _ List.mem_cons_self)
  have hown : s.vm.findClass "TimeWordsLaw" = some m.cls := findClass_of_methodNamed B.named
  have hlocks := B.notSynchronized
  subst hsz
  have hD := hD0.self (sz := s.heap.size)
  generalize hAe : va_A ([(ox, .inl (T.2.2.1, 1, .inr (.inl ov)))] ++ (cX T aa zw kp fp e0 e1 oF oT kt ft ks fs fc S ++ tl T S)) s.heap.size = A at hD hF ⊢
  have hA : ∀ q : Nat, s.heap.size ≤ q → A q := fun q h => by rw [← hAe]; exact Or.inr h
  have hS : va_S A s.heap s.heap [] := va_S.rf
  have hl := lv_entry ([.ref (aa 0), .int x, .ref ox]) (n := 4) (Nat.le_of_ble_eq_true rfl)
  rw [lg_entry_eq]
  generalize (lg_sl ([.ref (aa 0), .int x, .ref ox]) ++ List.replicate (4 - (lg_sl ([.ref (aa 0), .int x, .ref ox])).length) Slot.unset).toArray = ls at hl ⊢
  have hl : lv_has ls 4 [(0, .ref (aa 0)), (1, .int x), (2, .ref ox)] := hl
  rcases bo_f (b := j_in x 0 2) with h1 | h1
  · refine lv_aload_n hx hb d_L_count_0 rfl (lv_at hl 2 rfl) ?_
    refine lv_iconst (v := 0) hx hb d_L_count_1 (by decide) ?_
    refine lv_aload_n hx hb d_L_count_2 rfl (lv_at hl 0 rfl) ?_
    refine lv_iload_n hx hb d_L_count_3 rfl (lv_at hl 1 rfl) ?_
    have hPc : va_P D gC (cX T aa zw kp fp e0 e1 oF oT kt ft ks fs fc S ++ tl T S) s.heap := hP.rt
    have hDc : va_D A (cX T aa zw kp fp e0 e1 oF oT kt ft ks fs fc S ++ tl T S) := hD.rt
    refine x_try (vx_runV (As := [.int x]) (rest := [.int 0, .ref ox]) ⟨hx, hb, hml, hown, hw⟩ (k_T_count_x l hl9 D T κ A aa zw kp fp e0 e1 oF oT kt ft ks fs fc S s.heap.size x h1) (cwV 1 hw (bg_V ml_L_67 wi_T_count wv_T_count wz_T wc_T_count) rfl rfl rfl (by decide +kernel) ⟨Nat.le_of_ble_eq_true rfl, Nat.le_of_ble_eq_true rfl⟩) ⟨xPf_b, va_recv hK hPc (ci := 5) (q0 := 0) rfl rfl, xPf_p hPc hK hF hS⟩ rfl rfl hl.1 rfl (lv_room (Nat.le_of_ble_eq_true rfl)) d_L_count_4 ⟨Nat.le_of_ble_eq_true rfl, Nat.le_of_ble_eq_true rfl⟩) hP hS hA (fun ce q9 H locs hP hS k1 k2 k3 => ?_)
    refine vx_catch (E := "java/lang/IndexOutOfBoundsException") (name := "java/lang/IndexOutOfBoundsException") hown [] ⟨0, 9, 12, 25⟩ [] htab (fun _ h => absurd h List.not_mem_nil) rfl (by decide) (hw _ kl_L_25) (Nw_at (w := Cond.castable "java/lang/IndexOutOfBoundsException" "java/lang/IndexOutOfBoundsException") (hF.2.2.2.1 _ (by simp [sC])) rfl) k1 k2 k3 ?_
    refine lv_astore_n (lv' := [(3, .ref q9), (0, .ref (aa 0)), (1, .int x), (2, .ref ox)]) hx hb d_L_count_12 rfl hl (by decide) rfl (fun ls hl => ?_)
    refine lv_iconst (v := 1) hx hb d_L_count_13 (by decide) ?_
    exact W.iret (v := 1) hx hb hr (fun t ht hW => ⟨⟨1, ov, rfl, Or.inl (⟨h1, rfl⟩), by rw [ht]; exact hP, va_K.moved hW.alike hK, hD⟩, hS.F ht⟩) hS.2.2 d_L_count_14
  · refine lv_aload_n hx hb d_L_count_0 rfl (lv_at hl 2 rfl) ?_
    refine lv_iconst (v := 0) hx hb d_L_count_1 (by decide) ?_
    refine lv_aload_n hx hb d_L_count_2 rfl (lv_at hl 0 rfl) ?_
    refine lv_iload_n hx hb d_L_count_3 rfl (lv_at hl 1 rfl) ?_
    have hPc : va_P D gC (cX T aa zw kp fp e0 e1 oF oT kt ft ks fs fc S ++ tl T S) s.heap := hP.rt
    have hDc : va_D A (cX T aa zw kp fp e0 e1 oF oT kt ft ks fs fc S ++ tl T S) := hD.rt
    refine vp_callSi (va_Run.run (va_runV (As := [.int x]) (rest := [.int 0, .ref ox]) ⟨hx, hb, hml, hown, hw⟩ (k_T_count l D T κ A aa zw kp fp e0 e1 oF oT kt ft ks fs fc S x h1) (cwV 1 hw (bg_V ml_L_67 wi_T_count wv_T_count wz_T wc_T_count) rfl rfl rfl (by decide +kernel) ⟨Nat.le_of_ble_eq_true rfl, Nat.le_of_ble_eq_true rfl⟩) ⟨sPf_b, va_recv hK hPc (ci := 5) (q0 := 0) rfl rfl, sPf_p hPc hK hF hS⟩ rfl rfl hl.1 rfl (lv_room (Nat.le_of_ble_eq_true rfl)) d_L_count_4 ⟨Nat.le_of_ble_eq_true rfl, Nat.le_of_ble_eq_true rfl⟩)) (fun r2 hr2 => ?_)
    refine lv_i2l hx hb d_L_count_7 rfl ?_
    refine va_last hx hb hK hP hD hS 0 2 rfl rfl (vp_in_nI (n := 0) (by decide) (by decide)) d_L_count_8 (fun H locs hP hD hS => ?_)
    rw [show (0 : Int32).toNatClampNeg = 0 from by decide] at hP hD
    have hP : va_P D gC ([(ox, .inl (T.2.2.1, 1, .inr (.inl (vp_updL ov 0 r2.toInt64))))] ++ (cX T aa zw kp fp e0 e1 oF oT kt ft ks fs fc S ++ tl T S)) H := hP
    have hD : va_D A ([(ox, .inl (T.2.2.1, 1, .inr (.inl (vp_updL ov 0 r2.toInt64))))] ++ (cX T aa zw kp fp e0 e1 oF oT kt ft ks fs fc S ++ tl T S)) := hD
    refine lv_goto (tgt := 15) hx hb d_L_count_9 (by decide) ?_
    refine lv_iconst (v := 0) hx hb d_L_count_15 (by decide) ?_
    refine W.widen (k := 1) (n := 6) (by omega) (by omega) ?_
    exact W.iret (v := 0) hx hb hr (fun t ht hW => ⟨⟨0, vp_updL ov 0 r2.toInt64, rfl, Or.inr (⟨h1, rfl, _, lup0, hr2⟩), by rw [ht]; exact hP, va_K.moved hW.alike hK, hD⟩, hS.F ht⟩) hS.2.2 d_L_count_16
