set_option maxHeartbeats 4000000 in
set_option maxRecDepth 100000 in
theorem k_Y_turnBefore_b (l : Launch) (D : va_G) (T : gT) (yo : Nat) (e0 e1 : Int32) (oF oT : Bool) (sz : Nat) : Met l y_Y_turnBefore (Cond.code y_Y_turnBefore b_Y_turnBefore 1 (some .boolean) :: bg_W) ({ frames := 1, cells := 0, slots := 0, locals := 20 }) (qP D T ([(yo, .inr (2, [.int e0, .int e1, .int (b2i oF), .int (b2i oT)]))]) [.ref yo] sz) (va_Qi (fun (r : Int32) (u : Int32 × Int32 × Bool) => match u with | (w0, w1, v2) => ((oF || oT) = false ∧ ¬ e0 = -9999 ∧ r = 1 ∧ w0 = -9999 ∧ w1 = e0 - 1 ∧ v2 = true) ∨ (((oF || oT) = true ∨ e0 = -9999) ∧ r = 0 ∧ w0 = e0 ∧ w1 = e1 ∧ v2 = oF)) (qB D T (va_A ([(yo, .inr (2, [.int e0, .int e1, .int (b2i oF), .int (b2i oT)]))]) sz) (fun u : Int32 × Int32 × Bool => match u with | (w0, w1, v2) => [(yo, .inr (2, [.int w0, .int w1, .int (b2i v2), .int (b2i oT)]))])) (va_A ([(yo, .inr (2, [.int e0, .int e1, .int (b2i oF), .int (b2i oT)]))]) sz)) 0 0 (va_A ([(yo, .inr (2, [.int e0, .int e1, .int (b2i oF), .int (b2i oT)]))]) sz) := by
  refine Met.ofW (cc := b_Y_turnBefore) (maxL := 1) (ret := (some .boolean)) (by decide) rfl ?_
  intro p e s m args below meth c s₁ B hml hv
  obtain ⟨rfl, hsz, hP, hK, hD0⟩ := hv
  have hx := B.exec
  have hb := B.bytes
  have hr := B.returns
  have hw : ∀ w ∈ bg_W, w.before ([.ref yo] : List Value).toArray s = true := fun w h => atoms_spec (ws := (Cond.code y_Y_turnBefore b_Y_turnBefore 1 (some .boolean) :: bg_W)) B.pre w (List.mem_cons_of_mem _ h)
  have hown : s.vm.findClass "TimeWords$Years" = some m.cls := findClass_of_methodNamed B.named
  have hlocks := B.notSynchronized
  subst hsz
  have hD := hD0.self (sz := s.heap.size)
  generalize hAe : va_A ([(yo, .inr (2, [.int e0, .int e1, .int (b2i oF), .int (b2i oT)]))]) s.heap.size = A at hD ⊢
  have hA : ∀ q : Nat, s.heap.size ≤ q → A q := fun q h => by rw [← hAe]; exact Or.inr h
  have hS : va_S A s.heap s.heap [] := va_S.rf
  have hl := lv_entry ([.ref yo]) (n := 1) (Nat.le_of_ble_eq_true rfl)
  rw [lg_entry_eq]
  generalize (lg_sl ([.ref yo]) ++ List.replicate (1 - (lg_sl ([.ref yo])).length) Slot.unset).toArray = ls at hl ⊢
  have hl : lv_has ls 1 [(0, .ref yo)] := hl
  refine lv_aload_n hx hb d_Y_turnBefore_0 rfl (lv_at hl 0 rfl) ?_
  have hPc : va_P D gC ([(yo, .inr (2, [.int e0, .int e1, .int (b2i oF), .int (b2i oT)]))]) s.heap := (pc1 (hP 0 _ rfl) pc0)
  refine vp_callSi (va_Run.run (va_runV (As := []) (rest := []) ⟨hx, hb, hml, hown, hw⟩ (k_Y_isOpen l D T yo e0 e1 oF oT) (cwV 0 hw (bg_V ml_Y_38 wi_Y_isOpen wv_Y_isOpen wz_Y wc_Y_isOpen) rfl rfl rfl (by decide +kernel) ⟨Nat.le_of_ble_eq_true rfl, Nat.le_of_ble_eq_true rfl⟩) ⟨sP_b, va_recv hK hPc (ci := 2) (q0 := 0) rfl rfl, sP_p hPc hK⟩ rfl rfl hl.1 rfl (lv_room (Nat.le_of_ble_eq_true rfl)) d_Y_turnBefore_1 ⟨Nat.le_of_ble_eq_true rfl, Nat.le_of_ble_eq_true rfl⟩)) (fun r1 hr1 => ?_)
  replace hr1 := hr1.symm; subst hr1
  refine lv_if_ne (tgt := 17) hx hb d_Y_turnBefore_4 (by decide) (fun c2 => ?_) (fun c2 => ?_)
  · have c2 := b2i_t c2
    refine lv_iconst (v := 0) hx hb d_Y_turnBefore_17 (by decide) ?_
    exact W.zret (v := 0) hx hb hr rfl (fun t ht hW => ⟨⟨0, (e0, e1, oF), rfl, (Or.inr ⟨Or.inl c2, rfl, rfl, rfl, rfl⟩), by rw [ht]; exact hP, va_K.moved hW.alike hK, hD⟩, hS.F ht⟩) hS.2.2 d_Y_turnBefore_18
  · have c2 := b2i_f c2
    refine lv_aload_n hx hb d_Y_turnBefore_7 rfl (lv_at hl 0 rfl) ?_
    refine va_get (D := D) (ci := 2) (v := .int e0) (C := "TimeWords$Years") (T := F_Y) (N := 4) hx hb hw in_Y hown hK hP 0 rfl rfl 0 (by decide) (hw _ fl_Y_9) (fun _ h9 => h9) rfl d_Y_turnBefore_8 ?_
    refine lv_sipush (v := (-9999)) hx hb d_Y_turnBefore_11 (by decide) ?_
    refine lv_icmp_ne (tgt := 19) hx hb d_Y_turnBefore_14 (by decide) (fun c3 => ?_) (fun c3 => ?_)
    · refine lv_aload_n hx hb d_Y_turnBefore_19 rfl (lv_at hl 0 rfl) ?_
      refine lv_aload_n hx hb d_Y_turnBefore_20 rfl (lv_at hl 0 rfl) ?_
      refine va_get (D := D) (ci := 2) (v := .int e0) (C := "TimeWords$Years") (T := F_Y) (N := 4) hx hb hw in_Y hown hK hP 0 rfl rfl 0 (by decide) (hw _ fl_Y_9) (fun _ h9 => h9) rfl d_Y_turnBefore_21 ?_
      refine lv_iconst (v := 1) hx hb d_Y_turnBefore_24 (by decide) ?_
      refine lv_isub hx hb d_Y_turnBefore_25 ?_
      refine va_put (D := D) (ci := 2) (v := .int (e0 - 1)) (ty := .int) (C := "TimeWords$Years") (T := F_Y) (N := 4) hx hb hw in_Y ty_Y ty_Y_ok n_Y hown hK hP hD hS 0 rfl rfl 1 (by decide) (hw _ fl_Y_15) (fun _ h9 => h9) rfl (by decide +kernel) rfl rfl (Nat.le_of_ble_eq_true rfl) d_Y_turnBefore_26 (fun H locs hP hD hS => ?_)
      have hP : va_P D gC ([(yo, .inr (2, [.int e0, .int (e0 - 1), .int (b2i oF), .int (b2i oT)]))]) H := hP
      have hD : va_D A ([(yo, .inr (2, [.int e0, .int (e0 - 1), .int (b2i oF), .int (b2i oT)]))]) := hD
      refine lv_aload_n hx hb d_Y_turnBefore_29 rfl (lv_at hl 0 rfl) ?_
      refine lv_sipush (v := (-9999)) hx hb d_Y_turnBefore_30 (by decide) ?_
      refine va_put (D := D) (ci := 2) (v := .int (-9999)) (ty := .int) (C := "TimeWords$Years") (T := F_Y) (N := 4) hx hb hw in_Y ty_Y ty_Y_ok n_Y hown hK hP hD hS 0 rfl rfl 0 (by decide) (hw _ fl_Y_9) (fun _ h9 => h9) rfl (by decide +kernel) rfl rfl (Nat.le_of_ble_eq_true rfl) d_Y_turnBefore_33 (fun H locs hP hD hS => ?_)
      have hP : va_P D gC ([(yo, .inr (2, [.int (-9999), .int (e0 - 1), .int (b2i oF), .int (b2i oT)]))]) H := hP
      have hD : va_D A ([(yo, .inr (2, [.int (-9999), .int (e0 - 1), .int (b2i oF), .int (b2i oT)]))]) := hD
      refine lv_aload_n hx hb d_Y_turnBefore_36 rfl (lv_at hl 0 rfl) ?_
      refine lv_iconst (v := 1) hx hb d_Y_turnBefore_37 (by decide) ?_
      refine va_put (D := D) (ci := 2) (v := .int 1) (ty := .boolean) (C := "TimeWords$Years") (T := F_Y) (N := 4) hx hb hw in_Y ty_Y ty_Y_ok n_Y hown hK hP hD hS 0 rfl rfl 2 (by decide) (hw _ fl_Y_18) (fun _ h9 => h9) rfl (by decide +kernel) rfl rfl (Nat.le_of_ble_eq_true rfl) d_Y_turnBefore_38 (fun H locs hP hD hS => ?_)
      have hP : va_P D gC ([(yo, .inr (2, [.int (-9999), .int (e0 - 1), .int 1, .int (b2i oT)]))]) H := hP
      have hD : va_D A ([(yo, .inr (2, [.int (-9999), .int (e0 - 1), .int 1, .int (b2i oT)]))]) := hD
      refine lv_iconst (v := 1) hx hb d_Y_turnBefore_41 (by decide) ?_
      exact W.zret (v := 1) hx hb hr rfl (fun t ht hW => ⟨⟨1, ((-9999), e0 - 1, true), rfl, (Or.inl ⟨c2, c3, rfl, rfl, rfl, rfl⟩), by rw [ht]; exact hP, va_K.moved hW.alike hK, hD⟩, hS.F ht⟩) hS.2.2 d_Y_turnBefore_42
    · refine lv_iconst (v := 0) hx hb d_Y_turnBefore_17 (by decide) ?_
      exact W.zret (v := 0) hx hb hr rfl (fun t ht hW => ⟨⟨0, (e0, e1, oF), rfl, (Or.inr ⟨Or.inr c3, rfl, rfl, rfl, rfl⟩), by rw [ht]; exact hP, va_K.moved hW.alike hK, hD⟩, hS.F ht⟩) hS.2.2 d_Y_turnBefore_18

set_option maxHeartbeats 4000000 in
set_option maxRecDepth 100000 in
theorem k_Y_turnAfter_b (l : Launch) (D : va_G) (T : gT) (yo : Nat) (e0 e1 : Int32) (oF oT : Bool) (sz : Nat) : Met l y_Y_turnAfter (Cond.code y_Y_turnAfter b_Y_turnAfter 1 (some .boolean) :: bg_W) ({ frames := 1, cells := 0, slots := 0, locals := 20 }) (qP D T ([(yo, .inr (2, [.int e0, .int e1, .int (b2i oF), .int (b2i oT)]))]) [.ref yo] sz) (va_Qi (fun (r : Int32) (u : Int32 × Int32 × Bool) => match u with | (w0, w1, v3) => ((oF || oT) = false ∧ ¬ e1 = 9999 ∧ r = 1 ∧ w0 = e1 + 1 ∧ w1 = 9999 ∧ v3 = true) ∨ (((oF || oT) = true ∨ e1 = 9999) ∧ r = 0 ∧ w0 = e0 ∧ w1 = e1 ∧ v3 = oT)) (qB D T (va_A ([(yo, .inr (2, [.int e0, .int e1, .int (b2i oF), .int (b2i oT)]))]) sz) (fun u : Int32 × Int32 × Bool => match u with | (w0, w1, v3) => [(yo, .inr (2, [.int w0, .int w1, .int (b2i oF), .int (b2i v3)]))])) (va_A ([(yo, .inr (2, [.int e0, .int e1, .int (b2i oF), .int (b2i oT)]))]) sz)) 0 0 (va_A ([(yo, .inr (2, [.int e0, .int e1, .int (b2i oF), .int (b2i oT)]))]) sz) := by
  refine Met.ofW (cc := b_Y_turnAfter) (maxL := 1) (ret := (some .boolean)) (by decide) rfl ?_
  intro p e s m args below meth c s₁ B hml hv
  obtain ⟨rfl, hsz, hP, hK, hD0⟩ := hv
  have hx := B.exec
  have hb := B.bytes
  have hr := B.returns
  have hw : ∀ w ∈ bg_W, w.before ([.ref yo] : List Value).toArray s = true := fun w h => atoms_spec (ws := (Cond.code y_Y_turnAfter b_Y_turnAfter 1 (some .boolean) :: bg_W)) B.pre w (List.mem_cons_of_mem _ h)
  have hown : s.vm.findClass "TimeWords$Years" = some m.cls := findClass_of_methodNamed B.named
  have hlocks := B.notSynchronized
  subst hsz
  have hD := hD0.self (sz := s.heap.size)
  generalize hAe : va_A ([(yo, .inr (2, [.int e0, .int e1, .int (b2i oF), .int (b2i oT)]))]) s.heap.size = A at hD ⊢
  have hA : ∀ q : Nat, s.heap.size ≤ q → A q := fun q h => by rw [← hAe]; exact Or.inr h
  have hS : va_S A s.heap s.heap [] := va_S.rf
  have hl := lv_entry ([.ref yo]) (n := 1) (Nat.le_of_ble_eq_true rfl)
  rw [lg_entry_eq]
  generalize (lg_sl ([.ref yo]) ++ List.replicate (1 - (lg_sl ([.ref yo])).length) Slot.unset).toArray = ls at hl ⊢
  have hl : lv_has ls 1 [(0, .ref yo)] := hl
  refine lv_aload_n hx hb d_Y_turnAfter_0 rfl (lv_at hl 0 rfl) ?_
  have hPc : va_P D gC ([(yo, .inr (2, [.int e0, .int e1, .int (b2i oF), .int (b2i oT)]))]) s.heap := (pc1 (hP 0 _ rfl) pc0)
  refine vp_callSi (va_Run.run (va_runV (As := []) (rest := []) ⟨hx, hb, hml, hown, hw⟩ (k_Y_isOpen l D T yo e0 e1 oF oT) (cwV 0 hw (bg_V ml_Y_38 wi_Y_isOpen wv_Y_isOpen wz_Y wc_Y_isOpen) rfl rfl rfl (by decide +kernel) ⟨Nat.le_of_ble_eq_true rfl, Nat.le_of_ble_eq_true rfl⟩) ⟨sP_b, va_recv hK hPc (ci := 2) (q0 := 0) rfl rfl, sP_p hPc hK⟩ rfl rfl hl.1 rfl (lv_room (Nat.le_of_ble_eq_true rfl)) d_Y_turnAfter_1 ⟨Nat.le_of_ble_eq_true rfl, Nat.le_of_ble_eq_true rfl⟩)) (fun r1 hr1 => ?_)
  replace hr1 := hr1.symm; subst hr1
  refine lv_if_ne (tgt := 17) hx hb d_Y_turnAfter_4 (by decide) (fun c2 => ?_) (fun c2 => ?_)
  · have c2 := b2i_t c2
    refine lv_iconst (v := 0) hx hb d_Y_turnAfter_17 (by decide) ?_
    exact W.zret (v := 0) hx hb hr rfl (fun t ht hW => ⟨⟨0, (e0, e1, oT), rfl, (Or.inr ⟨Or.inl c2, rfl, rfl, rfl, rfl⟩), by rw [ht]; exact hP, va_K.moved hW.alike hK, hD⟩, hS.F ht⟩) hS.2.2 d_Y_turnAfter_18
  · have c2 := b2i_f c2
    refine lv_aload_n hx hb d_Y_turnAfter_7 rfl (lv_at hl 0 rfl) ?_
    refine va_get (D := D) (ci := 2) (v := .int e1) (C := "TimeWords$Years") (T := F_Y) (N := 4) hx hb hw in_Y hown hK hP 0 rfl rfl 1 (by decide) (hw _ fl_Y_15) (fun _ h9 => h9) rfl d_Y_turnAfter_8 ?_
    refine lv_sipush (v := 9999) hx hb d_Y_turnAfter_11 (by decide) ?_
    refine lv_icmp_ne (tgt := 19) hx hb d_Y_turnAfter_14 (by decide) (fun c3 => ?_) (fun c3 => ?_)
    · refine lv_aload_n hx hb d_Y_turnAfter_19 rfl (lv_at hl 0 rfl) ?_
      refine lv_aload_n hx hb d_Y_turnAfter_20 rfl (lv_at hl 0 rfl) ?_
      refine va_get (D := D) (ci := 2) (v := .int e1) (C := "TimeWords$Years") (T := F_Y) (N := 4) hx hb hw in_Y hown hK hP 0 rfl rfl 1 (by decide) (hw _ fl_Y_15) (fun _ h9 => h9) rfl d_Y_turnAfter_21 ?_
      refine lv_iconst (v := 1) hx hb d_Y_turnAfter_24 (by decide) ?_
      refine lv_iadd hx hb d_Y_turnAfter_25 ?_
      refine va_put (D := D) (ci := 2) (v := .int (e1 + 1)) (ty := .int) (C := "TimeWords$Years") (T := F_Y) (N := 4) hx hb hw in_Y ty_Y ty_Y_ok n_Y hown hK hP hD hS 0 rfl rfl 0 (by decide) (hw _ fl_Y_9) (fun _ h9 => h9) rfl (by decide +kernel) rfl rfl (Nat.le_of_ble_eq_true rfl) d_Y_turnAfter_26 (fun H locs hP hD hS => ?_)
      have hP : va_P D gC ([(yo, .inr (2, [.int (e1 + 1), .int e1, .int (b2i oF), .int (b2i oT)]))]) H := hP
      have hD : va_D A ([(yo, .inr (2, [.int (e1 + 1), .int e1, .int (b2i oF), .int (b2i oT)]))]) := hD
      refine lv_aload_n hx hb d_Y_turnAfter_29 rfl (lv_at hl 0 rfl) ?_
      refine lv_sipush (v := 9999) hx hb d_Y_turnAfter_30 (by decide) ?_
      refine va_put (D := D) (ci := 2) (v := .int 9999) (ty := .int) (C := "TimeWords$Years") (T := F_Y) (N := 4) hx hb hw in_Y ty_Y ty_Y_ok n_Y hown hK hP hD hS 0 rfl rfl 1 (by decide) (hw _ fl_Y_15) (fun _ h9 => h9) rfl (by decide +kernel) rfl rfl (Nat.le_of_ble_eq_true rfl) d_Y_turnAfter_33 (fun H locs hP hD hS => ?_)
      have hP : va_P D gC ([(yo, .inr (2, [.int (e1 + 1), .int 9999, .int (b2i oF), .int (b2i oT)]))]) H := hP
      have hD : va_D A ([(yo, .inr (2, [.int (e1 + 1), .int 9999, .int (b2i oF), .int (b2i oT)]))]) := hD
      refine lv_aload_n hx hb d_Y_turnAfter_36 rfl (lv_at hl 0 rfl) ?_
      refine lv_iconst (v := 1) hx hb d_Y_turnAfter_37 (by decide) ?_
      refine va_put (D := D) (ci := 2) (v := .int 1) (ty := .boolean) (C := "TimeWords$Years") (T := F_Y) (N := 4) hx hb hw in_Y ty_Y ty_Y_ok n_Y hown hK hP hD hS 0 rfl rfl 3 (by decide) (hw _ fl_Y_22) (fun _ h9 => h9) rfl (by decide +kernel) rfl rfl (Nat.le_of_ble_eq_true rfl) d_Y_turnAfter_38 (fun H locs hP hD hS => ?_)
      have hP : va_P D gC ([(yo, .inr (2, [.int (e1 + 1), .int 9999, .int (b2i oF), .int 1]))]) H := hP
      have hD : va_D A ([(yo, .inr (2, [.int (e1 + 1), .int 9999, .int (b2i oF), .int 1]))]) := hD
      refine lv_iconst (v := 1) hx hb d_Y_turnAfter_41 (by decide) ?_
      exact W.zret (v := 1) hx hb hr rfl (fun t ht hW => ⟨⟨1, (e1 + 1, 9999, true), rfl, (Or.inl ⟨c2, c3, rfl, rfl, rfl, rfl⟩), by rw [ht]; exact hP, va_K.moved hW.alike hK, hD⟩, hS.F ht⟩) hS.2.2 d_Y_turnAfter_42
    · refine lv_iconst (v := 0) hx hb d_Y_turnAfter_17 (by decide) ?_
      exact W.zret (v := 0) hx hb hr rfl (fun t ht hW => ⟨⟨0, (e0, e1, oT), rfl, (Or.inr ⟨Or.inr c3, rfl, rfl, rfl, rfl⟩), by rw [ht]; exact hP, va_K.moved hW.alike hK, hD⟩, hS.F ht⟩) hS.2.2 d_Y_turnAfter_18

set_option maxHeartbeats 4000000 in
set_option maxRecDepth 100000 in
theorem k_T_findCentury (l : Launch) (D : va_G) (T : gT) (κ : gS) (aa : Nat → Nat) (zw : Int32) (kp : Nat) (fp : Nat → Int32) (e0 e1 : Int32) (oF oT : Bool) (kt : Nat) (ft : Nat → Int32) (ks : Nat) (fs fc : Nat → Int32) (S : tS) (sz : Nat) (x : Int32) : Met l y_T_findCentury (Cond.code y_T_findCentury b_T_findCentury 2 (some .boolean) :: bg_W) ({ frames := 1, cells := 0, slots := 0, locals := 22 }) (qPf κ D T (cX T aa zw kp fp e0 e1 oF oT kt ft ks fs fc S ++ tl T S) [.ref (aa 0), .int x] sz) (va_Qi (fun (r : Int32) (u : Int32 × Int32 × Bool × Bool) => match u with | (w0, w1, v2, v3) => (j_in x 1 99 = true ∧ r = 1 ∧ w0 = 100 * (x - 1) + 1 ∧ w1 = 100 * x ∧ v2 = false ∧ v3 = false) ∨ (j_in x 1 99 = false ∧ r = 0 ∧ w0 = e0 ∧ w1 = e1 ∧ v2 = oF ∧ v3 = oT)) (qB D T (va_A (cX T aa zw kp fp e0 e1 oF oT kt ft ks fs fc S ++ tl T S) sz) (fun u : Int32 × Int32 × Bool × Bool => match u with | (w0, w1, v2, v3) => cX T aa zw kp fp w0 w1 v2 v3 kt ft ks fs fc S ++ tl T S)) (va_A (cX T aa zw kp fp e0 e1 oF oT kt ft ks fs fc S ++ tl T S) sz)) 0 0 (va_A (cX T aa zw kp fp e0 e1 oF oT kt ft ks fs fc S ++ tl T S) sz) := by
  refine Met.ofW (cc := b_T_findCentury) (maxL := 2) (ret := (some .boolean)) (by decide) rfl ?_
  intro p e s m args below meth c s₁ B hml hv
  obtain ⟨rfl, hsz, hP, hK, hD0, hF⟩ := hv
  have hx := B.exec
  have hb := B.bytes
  have hr := B.returns
  have hw : ∀ w ∈ bg_W, w.before ([.ref (aa 0), .int x] : List Value).toArray s = true := fun w h => atoms_spec (ws := (Cond.code y_T_findCentury b_T_findCentury 2 (some .boolean) :: bg_W)) B.pre w (List.mem_cons_of_mem _ h)
  have hown : s.vm.findClass "TimeWords" = some m.cls := findClass_of_methodNamed B.named
  have hlocks := B.notSynchronized
  subst hsz
  have hD := hD0.self (sz := s.heap.size)
  generalize hAe : va_A (cX T aa zw kp fp e0 e1 oF oT kt ft ks fs fc S ++ tl T S) s.heap.size = A at hD hF ⊢
  have hA : ∀ q : Nat, s.heap.size ≤ q → A q := fun q h => by rw [← hAe]; exact Or.inr h
  have hS : va_S A s.heap s.heap [] := va_S.rf
  have hl := lv_entry ([.ref (aa 0), .int x]) (n := 2) (Nat.le_of_ble_eq_true rfl)
  rw [lg_entry_eq]
  generalize (lg_sl ([.ref (aa 0), .int x]) ++ List.replicate (2 - (lg_sl ([.ref (aa 0), .int x])).length) Slot.unset).toArray = ls at hl ⊢
  have hl : lv_has ls 2 [(0, .ref (aa 0)), (1, .int x)] := hl
  refine lv_iload_n hx hb d_T_findCentury_0 rfl (lv_at hl 1 rfl) ?_
  refine lv_iconst (v := 1) hx hb d_T_findCentury_1 (by decide) ?_
  refine lv_icmp_lt (tgt := 11) hx hb d_T_findCentury_2 (by decide) (fun c1 => ?_) (fun c1 => ?_)
  · refine lv_iconst (v := 0) hx hb d_T_findCentury_11 (by decide) ?_
    exact W.zret (v := 0) hx hb hr rfl (fun t ht hW => ⟨⟨0, (e0, e1, oF, oT), rfl, (Or.inr ⟨by simp [j_in, *], rfl, rfl, rfl, rfl, rfl⟩), by rw [ht]; exact hP, va_K.moved hW.alike hK, hD⟩, hS.F ht⟩) hS.2.2 d_T_findCentury_12
  · refine lv_iload_n hx hb d_T_findCentury_5 rfl (lv_at hl 1 rfl) ?_
    refine lv_bipush (v := 99) hx hb d_T_findCentury_6 (by decide) ?_
    refine lv_icmp_le (tgt := 13) hx hb d_T_findCentury_8 (by decide) (fun c2 => ?_) (fun c2 => ?_)
    · refine lv_aload_n hx hb d_T_findCentury_13 rfl (lv_at hl 0 rfl) ?_
      refine va_get (D := D) (ci := 5) (v := .ref (aa 3)) (C := "TimeWords") (T := F_T) (N := 8) hx hb hw in_T hown hK hP 0 rfl rfl 4 (by decide) (hw _ fl_T_37) (fun _ h9 => h9) rfl d_T_findCentury_14 ?_
      refine lv_bipush (v := 100) hx hb d_T_findCentury_17 (by decide) ?_
      refine lv_iload_n hx hb d_T_findCentury_19 rfl (lv_at hl 1 rfl) ?_
      refine lv_iconst (v := 1) hx hb d_T_findCentury_20 (by decide) ?_
      refine lv_isub hx hb d_T_findCentury_21 ?_
      refine lv_imul hx hb d_T_findCentury_22 ?_
      refine lv_iconst (v := 1) hx hb d_T_findCentury_23 (by decide) ?_
      refine lv_iadd hx hb d_T_findCentury_24 ?_
      refine lv_bipush (v := 100) hx hb d_T_findCentury_25 (by decide) ?_
      refine lv_iload_n hx hb d_T_findCentury_27 rfl (lv_at hl 1 rfl) ?_
      refine lv_imul hx hb d_T_findCentury_28 ?_
      have hPc : va_P D gC ([(aa 3, .inr (2, [.int e0, .int e1, .int (b2i oF), .int (b2i oT)]))]) s.heap := (pc1 (hP 3 _ rfl) pc0)
      have hDc : va_D A ([(aa 3, .inr (2, [.int e0, .int e1, .int (b2i oF), .int (b2i oT)]))]) := by have h9 := hD.part (cx := [(aa 3, .inr (2, [.int e0, .int e1, .int (b2i oF), .int (b2i oT)]))]) [3] (by decide) rfl; exact dl_l h9
      refine g_subv (X := cX T aa zw kp fp e0 e1 oF oT kt ft ks fs fc S) (pl := tl T S) (wr := [(aa 0, .inr (5, [.ref (aa 1), .ref S.1.1, .ref S.2.2.1.1, .int zw, .ref (aa 3), .ref (aa 4), .ref (aa 6), .ref (aa 8)])), (aa 1, .inr (1, [.ref (aa 2), .int (nI kp)])), (aa 2, .inl (T.1, 24, .inl fp)), (aa 4, .inr (1, [.ref (aa 5), .int (nI kt)])), (aa 5, .inl (T.1, 24, .inl ft)), (aa 6, .inr (1, [.ref (aa 7), .int (nI ks)])), (aa 7, .inl (T.1, 24, .inl fs)), (aa 8, .inl (T.1, 9, .inl fc)), (S.1.1, .inr (0, [.ref S.1.2.1, .int (nI S.2.1.length), .int S.1.2.2.1])), (S.2.2.1.1, .inr (0, [.ref S.2.2.1.2.1, .int (nI S.2.2.2.length), .int S.2.2.1.2.2.1]))]) (cx := [(aa 3, .inr (2, [.int e0, .int e1, .int (b2i oF), .int (b2i oT)]))]) (va_runV (As := [.int ((100 * (x - 1)) + 1), .int (100 * x)]) (rest := []) ⟨hx, hb, hml, hown, hw⟩ (k_Y_become l D T (aa 3) e0 e1 (b2i oF) (b2i oT) s.heap.size ((100 * (x - 1)) + 1) (100 * x)) (cwV 2 hw (bg_V ml_T_138 wi_Y_become wv_Y_become wz_Y wc_Y_become) rfl rfl rfl (by decide +kernel) ⟨Nat.le_of_ble_eq_true rfl, Nat.le_of_ble_eq_true rfl⟩) ⟨qP_b, va_recv hK hPc (ci := 2) (q0 := 0) rfl rfl, qP_p hPc hK hDc⟩ rfl rfl hl.1 rfl (lv_room (Nat.le_of_ble_eq_true rfl)) d_T_findCentury_29 ⟨Nat.le_of_ble_eq_true rfl, Nat.le_of_ble_eq_true rfl⟩) hP hD hS hA [3] [0, 1, 2, 4, 5, 6, 7, 8, 9, 10] rfl rfl (by decide) (by decide) (fun u9 H locs hr3 hP hD hS => ?_)
      obtain ⟨u4, u5, u6, u7⟩ := u9
      dsimp only at hr3 hP hD
      obtain ⟨q0, q1, q2, q3⟩ := hr3
      replace q0 := q0.symm; subst q0; replace q1 := q1.symm; subst q1; replace q2 := q2.symm; subst q2; replace q3 := q3.symm; subst q3
      have hP : va_P D gC (cX T aa zw kp fp ((100 * (x - 1)) + 1) (100 * x) false false kt ft ks fs fc S ++ tl T S) H := hP.part (cx := cX T aa zw kp fp ((100 * (x - 1)) + 1) (100 * x) false false kt ft ks fs fc S) [0, 1, 2, 10, 3, 4, 5, 6, 7, 8, 9] rfl
      have hD : va_D A (cX T aa zw kp fp ((100 * (x - 1)) + 1) (100 * x) false false kt ft ks fs fc S ++ tl T S) := hD.part (cx := cX T aa zw kp fp ((100 * (x - 1)) + 1) (100 * x) false false kt ft ks fs fc S) [0, 1, 2, 10, 3, 4, 5, 6, 7, 8, 9] (by decide) rfl
      refine lv_iconst (v := 1) hx hb d_T_findCentury_32 (by decide) ?_
      exact W.zret (v := 1) hx hb hr rfl (fun t ht hW => ⟨⟨1, ((100 * (x - 1)) + 1, 100 * x, false, false), rfl, (Or.inl ⟨by simp [j_in, Int32.not_lt.mpr, *], rfl, rfl, rfl, rfl, rfl⟩), by rw [ht]; exact hP, va_K.moved hW.alike hK, hD⟩, hS.F ht⟩) hS.2.2 d_T_findCentury_33
    · refine lv_iconst (v := 0) hx hb d_T_findCentury_11 (by decide) ?_
      exact W.zret (v := 0) hx hb hr rfl (fun t ht hW => ⟨⟨0, (e0, e1, oF, oT), rfl, (Or.inr ⟨by simp [j_in, Int32.not_le.mp c2], rfl, rfl, rfl, rfl, rfl⟩), by rw [ht]; exact hP, va_K.moved hW.alike hK, hD⟩, hS.F ht⟩) hS.2.2 d_T_findCentury_12

set_option maxHeartbeats 4000000 in
set_option maxRecDepth 100000 in
theorem k_T_findCenturyFrom (l : Launch) (D : va_G) (T : gT) (κ : gS) (aa : Nat → Nat) (zw : Int32) (kp : Nat) (fp : Nat → Int32) (e0 e1 : Int32) (oF oT : Bool) (kt : Nat) (ft : Nat → Int32) (ks : Nat) (fs fc : Nat → Int32) (S : tS) (sz : Nat) (t9 : Nat) (hy0 : kp ≤ 24) (hy1 : t9 ≤ kp) : Met l y_T_findCenturyFrom (Cond.code y_T_findCenturyFrom b_T_findCenturyFrom 6 (some .boolean) :: bg_W) ({ frames := 2, cells := 0, slots := 0, locals := 43 }) (qPf κ D T (cX T aa zw kp fp e0 e1 oF oT kt ft ks fs fc S ++ tl T S) [.ref (aa 0), .int (nI t9)] sz) (va_Qi (fun (r : Int32) (u : Int32 × Int32 × Bool × Bool) => match u with | (w0, w1, v2, v3) => (j_ce fp kp t9 = true ∧ ¬ j_cv fp kp t9 ≤ 0 ∧ r = 1 ∧ w0 = 100 * (j_cv fp kp t9 - 1) + 1 ∧ w1 = 100 * j_cv fp kp t9 ∧ v2 = false ∧ v3 = false) ∨ ((j_ce fp kp t9 = false ∨ j_cv fp kp t9 ≤ 0) ∧ r = 0)) (qB D T (va_A (cX T aa zw kp fp e0 e1 oF oT kt ft ks fs fc S ++ tl T S) sz) (fun u : Int32 × Int32 × Bool × Bool => match u with | (w0, w1, v2, v3) => cX T aa zw kp fp w0 w1 v2 v3 kt ft ks fs fc S ++ tl T S)) (va_A (cX T aa zw kp fp e0 e1 oF oT kt ft ks fs fc S ++ tl T S) sz)) 0 0 (va_A (cX T aa zw kp fp e0 e1 oF oT kt ft ks fs fc S ++ tl T S) sz) := by
  refine Met.ofW (cc := b_T_findCenturyFrom) (maxL := 6) (ret := (some .boolean)) (by decide) rfl ?_
  intro p e s m args below meth c s₁ B hml hv
  obtain ⟨rfl, hsz, hP, hK, hD0, hF⟩ := hv
  have hx := B.exec
  have hb := B.bytes
  have hr := B.returns
  have hw : ∀ w ∈ bg_W, w.before ([.ref (aa 0), .int (nI t9)] : List Value).toArray s = true := fun w h => atoms_spec (ws := (Cond.code y_T_findCenturyFrom b_T_findCenturyFrom 6 (some .boolean) :: bg_W)) B.pre w (List.mem_cons_of_mem _ h)
  have hown : s.vm.findClass "TimeWords" = some m.cls := findClass_of_methodNamed B.named
  have hlocks := B.notSynchronized
  subst hsz
  have hD := hD0.self (sz := s.heap.size)
  generalize hAe : va_A (cX T aa zw kp fp e0 e1 oF oT kt ft ks fs fc S ++ tl T S) s.heap.size = A at hD hF ⊢
  have hA : ∀ q : Nat, s.heap.size ≤ q → A q := fun q h => by rw [← hAe]; exact Or.inr h
  have hS : va_S A s.heap s.heap [] := va_S.rf
  have hl := lv_entry ([.ref (aa 0), .int (nI t9)]) (n := 6) (Nat.le_of_ble_eq_true rfl)
  rw [lg_entry_eq]
  generalize (lg_sl ([.ref (aa 0), .int (nI t9)]) ++ List.replicate (6 - (lg_sl ([.ref (aa 0), .int (nI t9)])).length) Slot.unset).toArray = ls at hl ⊢
  have hl : lv_has ls 6 [(0, .ref (aa 0)), (1, .int (nI t9))] := hl
  have hd : kp = t9 + 2 ∨ kp = t9 + 3 ∨ (¬ kp = t9 + 2 ∧ ¬ kp = t9 + 3) := by omega
  rcases hd with hd | hd | ⟨hd2, hd3⟩
  · subst hd
    refine lv_aload_n hx hb d_T_findCenturyFrom_0 rfl (lv_at hl 0 rfl) ?_
    refine va_get (D := D) (ci := 5) (v := .ref (aa 1)) (C := "TimeWords") (T := F_T) (N := 8) hx hb hw in_T hown hK hP 0 rfl rfl 0 (by decide) (hw _ fl_T_14) (fun _ h9 => h9) rfl d_T_findCenturyFrom_1 ?_
    refine va_get (D := D) (ci := 1) (v := .int (nI (t9 + 2))) (C := "TimeWords$Row") (T := F_R) (N := 2) hx hb hw in_R hown hK hP 1 rfl rfl 1 (by decide) (hw _ fl_T_62) (fun _ h9 => h9) rfl d_T_findCenturyFrom_4 ?_
    refine lv_iconst (v := 1) hx hb d_T_findCenturyFrom_7 (by decide) ?_
    refine lv_isub hx hb d_T_findCenturyFrom_8 ?_
    rw [show nI (t9 + 2) - 1 = nI (t9 + 1) from nI_pred (n := t9 + 1)]
    refine lv_istore_n (lv' := [(2, .int (nI (t9 + 1))), (0, .ref (aa 0)), (1, .int (nI t9))]) hx hb d_T_findCenturyFrom_9 rfl hl (by decide) rfl (fun ls hl => ?_)
    refine lv_iload_n hx hb d_T_findCenturyFrom_10 rfl (lv_at hl 0 rfl) ?_
    refine lv_iload_n hx hb d_T_findCenturyFrom_11 rfl (lv_at hl 2 rfl) ?_
    refine lv_isub hx hb d_T_findCenturyFrom_12 ?_
    rw [nl_sub]
    refine lv_istore_n (lv' := [(3, .int 1), (2, .int (nI (t9 + 1))), (0, .ref (aa 0)), (1, .int (nI t9))]) hx hb d_T_findCenturyFrom_13 rfl hl (by decide) rfl (fun ls hl => ?_)
    refine lv_iload_n hx hb d_T_findCenturyFrom_14 rfl (lv_at hl 0 rfl) ?_
    refine lv_iconst (v := 1) hx hb d_T_findCenturyFrom_15 (by decide) ?_
    refine lv_icmp_lt (tgt := 37) hx hb d_T_findCenturyFrom_16 (by decide) (fun c1 => absurd c1 (by decide)) (fun c1 => ?_)
    refine lv_iload_n hx hb d_T_findCenturyFrom_19 rfl (lv_at hl 0 rfl) ?_
    refine lv_iconst (v := 2) hx hb d_T_findCenturyFrom_20 (by decide) ?_
    refine lv_icmp_gt (tgt := 37) hx hb d_T_findCenturyFrom_21 (by decide) (fun c2 => absurd c2 (by decide)) (fun c2 => ?_)
    refine lv_aload_n hx hb d_T_findCenturyFrom_24 rfl (lv_at hl 2 rfl) ?_
    refine va_get (D := D) (ci := 5) (v := .ref (aa 1)) (C := "TimeWords") (T := F_T) (N := 8) hx hb hw in_T hown hK hP 0 rfl rfl 0 (by decide) (hw _ fl_T_14) (fun _ h9 => h9) rfl d_T_findCenturyFrom_25 ?_
    refine lv_iload_n hx hb d_T_findCenturyFrom_28 rfl (lv_at hl 1 rfl) ?_
    have hPc : va_P D gC ([(aa 1, .inr (1, [.ref (aa 2), .int (nI (t9 + 2))])), (aa 2, .inl (T.1, 24, .inl fp))]) s.heap := (pc1 (hP 1 _ rfl) (pc1 (hP 2 _ rfl) pc0))
    refine vp_callSi (va_Run.run (va_runV (As := [.int (nI (t9 + 1))]) (rest := []) ⟨hx, hb, hml, hown, hw⟩ (k_R_at l D T (aa 1) (aa 2) (t9 + 2) 24 fp (nI (t9 + 1)) (by omega) (by decide)) (cwV 1 hw (bg_V ml_T_189 wi_R_at wv_R_at wz_R wc_R_at) rfl rfl rfl (by decide +kernel) ⟨Nat.le_of_ble_eq_true rfl, Nat.le_of_ble_eq_true rfl⟩) ⟨sP_b, va_recv hK hPc (ci := 1) (q0 := 0) rfl rfl, sP_p hPc hK⟩ rfl rfl hl.1 rfl (lv_room (Nat.le_of_ble_eq_true rfl)) d_T_findCenturyFrom_29 ⟨Nat.le_of_ble_eq_true rfl, Nat.le_of_ble_eq_true rfl⟩)) (fun r3 hr3 => ?_)
    replace hr3 := hr3.symm; subst hr3
    rw [at_in (by omega) (by omega)]
    refine lv_bipush (v := 99) hx hb d_T_findCenturyFrom_32 (by decide) ?_
    refine lv_icmp_eq (tgt := 39) hx hb d_T_findCenturyFrom_34 (by decide) (fun c4 => ?_) (fun c4 => ?_)
    · refine lv_iconst (v := 0) hx hb d_T_findCenturyFrom_39 (by decide) ?_
      refine lv_istore (lv' := [(4, .int 0), (3, .int 1), (2, .int (nI (t9 + 1))), (0, .ref (aa 0)), (1, .int (nI t9))]) hx hb d_T_findCenturyFrom_40 hl (by decide) rfl (fun ls hl => ?_)
      refine lv_iload_n hx hb d_T_findCenturyFrom_42 rfl (lv_at hl 4 rfl) ?_
      refine lv_istore (lv' := [(5, .int (nI t9)), (4, .int 0), (3, .int 1), (2, .int (nI (t9 + 1))), (0, .ref (aa 0)), (1, .int (nI t9))]) hx hb d_T_findCenturyFrom_43 hl (by decide) rfl (fun ls hl => ?_)
      refine lv_iload hx hb d_T_findCenturyFrom_45 (lv_at hl 0 rfl) ?_
      refine lv_iload_n hx hb d_T_findCenturyFrom_47 rfl (lv_at hl 3 rfl) ?_
      refine lv_icmp_ge (tgt := 94) hx hb d_T_findCenturyFrom_48 (by decide) (fun c5 => absurd c5 ((nI_ge (by omega) (by omega)))) (fun c5 => ?_)
      refine lv_aload_n hx hb d_T_findCenturyFrom_51 rfl (lv_at hl 4 rfl) ?_
      refine va_get (D := D) (ci := 5) (v := .ref (aa 1)) (C := "TimeWords") (T := F_T) (N := 8) hx hb hw in_T hown hK hP 0 rfl rfl 0 (by decide) (hw _ fl_T_14) (fun _ h9 => h9) rfl d_T_findCenturyFrom_52 ?_
      refine lv_iload hx hb d_T_findCenturyFrom_55 (lv_at hl 0 rfl) ?_
      have hPc : va_P D gC ([(aa 1, .inr (1, [.ref (aa 2), .int (nI (t9 + 2))])), (aa 2, .inl (T.1, 24, .inl fp))]) s.heap := (pc1 (hP 1 _ rfl) (pc1 (hP 2 _ rfl) pc0))
      refine vp_callSi (va_Run.run (va_runV (As := [.int (nI t9)]) (rest := []) ⟨hx, hb, hml, hown, hw⟩ (k_R_at l D T (aa 1) (aa 2) (t9 + 2) 24 fp (nI t9) (by omega) (by decide)) (cwV 1 hw (bg_V ml_T_189 wi_R_at wv_R_at wz_R wc_R_at) rfl rfl rfl (by decide +kernel) ⟨Nat.le_of_ble_eq_true rfl, Nat.le_of_ble_eq_true rfl⟩) ⟨sP_b, va_recv hK hPc (ci := 1) (q0 := 0) rfl rfl, sP_p hPc hK⟩ rfl rfl hl.1 rfl (lv_room (Nat.le_of_ble_eq_true rfl)) d_T_findCenturyFrom_57 ⟨Nat.le_of_ble_eq_true rfl, Nat.le_of_ble_eq_true rfl⟩)) (fun r6 hr6 => ?_)
      replace hr6 := hr6.symm; subst hr6
      rw [at_in (by omega) (by omega)]
      refine vp_callSi (va_Run.run (va_runS (As := [.int (fp t9)]) (rest := []) ⟨hx, hb, hml, hown, hw⟩ (k_T_isDigit l (fp t9)) (va_cwS 1 hw (bg_S ml_T_251 wt_T_isDigit wz_T wc_T_isDigit) rfl rfl rfl (by decide +kernel) ⟨Nat.le_of_ble_eq_true rfl, Nat.le_of_ble_eq_true rfl⟩) ⟨nP_b, nP_p⟩ rfl rfl hl.1 rfl (lv_room (Nat.le_of_ble_eq_true rfl)) d_T_findCenturyFrom_60 ⟨Nat.le_of_ble_eq_true rfl, Nat.le_of_ble_eq_true rfl⟩)) (fun r7 hr7 => ?_)
      replace hr7 := hr7.symm; subst hr7
      refine lv_if_ne (tgt := 68) hx hb d_T_findCenturyFrom_63 (by decide) (fun c8 => ?_) (fun c8 => ?_)
      · have c8 := b2i_t c8
        refine lv_bipush (v := 10) hx hb d_T_findCenturyFrom_68 (by decide) ?_
        refine lv_iload hx hb d_T_findCenturyFrom_70 (lv_at hl 1 rfl) ?_
        refine lv_imul hx hb d_T_findCenturyFrom_72 ?_
        refine lv_aload_n hx hb d_T_findCenturyFrom_73 rfl (lv_at hl 4 rfl) ?_
        refine va_get (D := D) (ci := 5) (v := .ref (aa 1)) (C := "TimeWords") (T := F_T) (N := 8) hx hb hw in_T hown hK hP 0 rfl rfl 0 (by decide) (hw _ fl_T_14) (fun _ h9 => h9) rfl d_T_findCenturyFrom_74 ?_
        refine lv_iload hx hb d_T_findCenturyFrom_77 (lv_at hl 0 rfl) ?_
        have hPc : va_P D gC ([(aa 1, .inr (1, [.ref (aa 2), .int (nI (t9 + 2))])), (aa 2, .inl (T.1, 24, .inl fp))]) s.heap := (pc1 (hP 1 _ rfl) (pc1 (hP 2 _ rfl) pc0))
        refine vp_callSi (va_Run.run (va_runV (As := [.int (nI t9)]) (rest := [.int (10 * 0)]) ⟨hx, hb, hml, hown, hw⟩ (k_R_at l D T (aa 1) (aa 2) (t9 + 2) 24 fp (nI t9) (by omega) (by decide)) (cwV 1 hw (bg_V ml_T_189 wi_R_at wv_R_at wz_R wc_R_at) rfl rfl rfl (by decide +kernel) ⟨Nat.le_of_ble_eq_true rfl, Nat.le_of_ble_eq_true rfl⟩) ⟨sP_b, va_recv hK hPc (ci := 1) (q0 := 0) rfl rfl, sP_p hPc hK⟩ rfl rfl hl.1 rfl (lv_room (Nat.le_of_ble_eq_true rfl)) d_T_findCenturyFrom_79 ⟨Nat.le_of_ble_eq_true rfl, Nat.le_of_ble_eq_true rfl⟩)) (fun r9 hr9 => ?_)
        replace hr9 := hr9.symm; subst hr9
        rw [at_in (by omega) (by omega)]
        refine lv_iadd hx hb d_T_findCenturyFrom_82 ?_
        refine lv_bipush (v := 48) hx hb d_T_findCenturyFrom_83 (by decide) ?_
        refine lv_isub hx hb d_T_findCenturyFrom_85 ?_
        rw [nb_1]
        refine lv_istore (lv' := [(4, .int (fp t9 - 48)), (5, .int (nI t9)), (3, .int 1), (2, .int (nI (t9 + 1))), (0, .ref (aa 0)), (1, .int (nI t9))]) hx hb d_T_findCenturyFrom_86 hl (by decide) rfl (fun ls hl => ?_)
        refine lv_iinc (v := nI (t9 + 1)) (lv' := [(5, .int (nI (t9 + 1))), (4, .int (fp t9 - 48)), (3, .int 1), (2, .int (nI (t9 + 1))), (0, .ref (aa 0)), (1, .int (nI t9))]) hx hb d_T_findCenturyFrom_88 hl (k := 1) rfl (nI_add t9 1) (by decide) rfl (fun ls hl => ?_)
        refine lv_goto (tgt := 45) hx hb d_T_findCenturyFrom_91 (by decide) ?_
        refine lv_iload hx hb d_T_findCenturyFrom_45 (lv_at hl 0 rfl) ?_
        refine lv_iload_n hx hb d_T_findCenturyFrom_47 rfl (lv_at hl 3 rfl) ?_
        refine lv_icmp_ge (tgt := 94) hx hb d_T_findCenturyFrom_48 (by decide) (fun c10 => ?_) (fun c10 => absurd ((Int32.le_refl _)) c10)
        refine lv_aload_n hx hb d_T_findCenturyFrom_94 rfl (lv_at hl 4 rfl) ?_
        refine lv_iload hx hb d_T_findCenturyFrom_95 (lv_at hl 1 rfl) ?_
        refine g_calli (va_runV (As := [.int (fp t9 - 48)]) (rest := []) ⟨hx, hb, hml, hown, hw⟩ (k_T_findCentury l D T κ aa zw (t9 + 2) fp e0 e1 oF oT kt ft ks fs fc S s.heap.size (fp t9 - 48)) (cwV 1 hw (bg_V ml_T_308 wi_T_findCentury wv_T_findCentury wz_T wc_T_findCentury) rfl rfl rfl (by decide +kernel) ⟨Nat.le_of_ble_eq_true rfl, Nat.le_of_ble_eq_true rfl⟩) ⟨qPf_b, va_recv hK hP (ci := 5) (q0 := 0) rfl rfl, qPf_p hP hK hD hF hS (g_free hD hS hA)⟩ rfl rfl hl.1 rfl (lv_room (Nat.le_of_ble_eq_true rfl)) d_T_findCenturyFrom_97 ⟨Nat.le_of_ble_eq_true rfl, Nat.le_of_ble_eq_true rfl⟩) hD hS hA (fun r11 u9 H locs hr11 hP hD hS => ?_)
        obtain ⟨u12, u13, u14, u15⟩ := u9
        dsimp only at hr11 hP hD
        have hP : va_P D gC (cX T aa zw (t9 + 2) fp u12 u13 u14 u15 kt ft ks fs fc S ++ tl T S) H := hP
        have hD : va_D A (cX T aa zw (t9 + 2) fp u12 u13 u14 u15 kt ft ks fs fc S ++ tl T S) := hD
        have hce := ce_2 c4 c8
        have hcv := cv_in hce
        rw [← cv_2] at hr11
        rcases hr11 with ⟨g1, g2, g3, g4, g5, g6⟩ | ⟨g1, g2, -⟩
        · subst g2
          rw [g1] at hcv
          exact W.zret (v := 1) hx hb hr rfl (fun t ht hW => ⟨⟨1, (u12, u13, u14, u15), rfl, (Or.inl ⟨hce, of_decide_eq_false (by simpa using hcv.symm), rfl, g3, g4, g5, g6⟩), by rw [ht]; exact hP, va_K.moved hW.alike hK, hD⟩, hS.F ht⟩) hS.2.2 d_T_findCenturyFrom_100
        · subst g2
          rw [g1] at hcv
          exact W.zret (v := 0) hx hb hr rfl (fun t ht hW => ⟨⟨0, (u12, u13, u14, u15), rfl, (Or.inr ⟨Or.inr (of_decide_eq_true (by simpa using hcv.symm)), rfl⟩), by rw [ht]; exact hP, va_K.moved hW.alike hK, hD⟩, hS.F ht⟩) hS.2.2 d_T_findCenturyFrom_100
      · have c8 := b2i_f c8
        refine lv_iconst (v := 0) hx hb d_T_findCenturyFrom_66 (by decide) ?_
        exact W.zret (v := 0) hx hb hr rfl (fun t ht hW => ⟨⟨0, (e0, e1, oF, oT), rfl, (Or.inr ⟨Or.inl (ce_d c8), rfl⟩), by rw [ht]; exact hP, va_K.moved hW.alike hK, hD⟩, hS.F ht⟩) hS.2.2 d_T_findCenturyFrom_67
    · refine lv_iconst (v := 0) hx hb d_T_findCenturyFrom_37 (by decide) ?_
      exact W.zret (v := 0) hx hb hr rfl (fun t ht hW => ⟨⟨0, (e0, e1, oF, oT), rfl, (Or.inr ⟨Or.inl (ce_c c4), rfl⟩), by rw [ht]; exact hP, va_K.moved hW.alike hK, hD⟩, hS.F ht⟩) hS.2.2 d_T_findCenturyFrom_38
  · subst hd
    refine lv_aload_n hx hb d_T_findCenturyFrom_0 rfl (lv_at hl 0 rfl) ?_
    refine va_get (D := D) (ci := 5) (v := .ref (aa 1)) (C := "TimeWords") (T := F_T) (N := 8) hx hb hw in_T hown hK hP 0 rfl rfl 0 (by decide) (hw _ fl_T_14) (fun _ h9 => h9) rfl d_T_findCenturyFrom_1 ?_
    refine va_get (D := D) (ci := 1) (v := .int (nI (t9 + 3))) (C := "TimeWords$Row") (T := F_R) (N := 2) hx hb hw in_R hown hK hP 1 rfl rfl 1 (by decide) (hw _ fl_T_62) (fun _ h9 => h9) rfl d_T_findCenturyFrom_4 ?_
    refine lv_iconst (v := 1) hx hb d_T_findCenturyFrom_7 (by decide) ?_
    refine lv_isub hx hb d_T_findCenturyFrom_8 ?_
    rw [show nI (t9 + 3) - 1 = nI (t9 + 2) from nI_pred (n := t9 + 2)]
    refine lv_istore_n (lv' := [(2, .int (nI (t9 + 2))), (0, .ref (aa 0)), (1, .int (nI t9))]) hx hb d_T_findCenturyFrom_9 rfl hl (by decide) rfl (fun ls hl => ?_)
    refine lv_iload_n hx hb d_T_findCenturyFrom_10 rfl (lv_at hl 0 rfl) ?_
    refine lv_iload_n hx hb d_T_findCenturyFrom_11 rfl (lv_at hl 2 rfl) ?_
    refine lv_isub hx hb d_T_findCenturyFrom_12 ?_
    rw [nl_sub2]
    refine lv_istore_n (lv' := [(3, .int 2), (2, .int (nI (t9 + 2))), (0, .ref (aa 0)), (1, .int (nI t9))]) hx hb d_T_findCenturyFrom_13 rfl hl (by decide) rfl (fun ls hl => ?_)
    refine lv_iload_n hx hb d_T_findCenturyFrom_14 rfl (lv_at hl 0 rfl) ?_
    refine lv_iconst (v := 1) hx hb d_T_findCenturyFrom_15 (by decide) ?_
    refine lv_icmp_lt (tgt := 37) hx hb d_T_findCenturyFrom_16 (by decide) (fun c16 => absurd c16 (by decide)) (fun c16 => ?_)
    refine lv_iload_n hx hb d_T_findCenturyFrom_19 rfl (lv_at hl 0 rfl) ?_
    refine lv_iconst (v := 2) hx hb d_T_findCenturyFrom_20 (by decide) ?_
    refine lv_icmp_gt (tgt := 37) hx hb d_T_findCenturyFrom_21 (by decide) (fun c17 => absurd c17 (by decide)) (fun c17 => ?_)
    refine lv_aload_n hx hb d_T_findCenturyFrom_24 rfl (lv_at hl 2 rfl) ?_
    refine va_get (D := D) (ci := 5) (v := .ref (aa 1)) (C := "TimeWords") (T := F_T) (N := 8) hx hb hw in_T hown hK hP 0 rfl rfl 0 (by decide) (hw _ fl_T_14) (fun _ h9 => h9) rfl d_T_findCenturyFrom_25 ?_
    refine lv_iload_n hx hb d_T_findCenturyFrom_28 rfl (lv_at hl 1 rfl) ?_
    have hPc : va_P D gC ([(aa 1, .inr (1, [.ref (aa 2), .int (nI (t9 + 3))])), (aa 2, .inl (T.1, 24, .inl fp))]) s.heap := (pc1 (hP 1 _ rfl) (pc1 (hP 2 _ rfl) pc0))
    refine vp_callSi (va_Run.run (va_runV (As := [.int (nI (t9 + 2))]) (rest := []) ⟨hx, hb, hml, hown, hw⟩ (k_R_at l D T (aa 1) (aa 2) (t9 + 3) 24 fp (nI (t9 + 2)) (by omega) (by decide)) (cwV 1 hw (bg_V ml_T_189 wi_R_at wv_R_at wz_R wc_R_at) rfl rfl rfl (by decide +kernel) ⟨Nat.le_of_ble_eq_true rfl, Nat.le_of_ble_eq_true rfl⟩) ⟨sP_b, va_recv hK hPc (ci := 1) (q0 := 0) rfl rfl, sP_p hPc hK⟩ rfl rfl hl.1 rfl (lv_room (Nat.le_of_ble_eq_true rfl)) d_T_findCenturyFrom_29 ⟨Nat.le_of_ble_eq_true rfl, Nat.le_of_ble_eq_true rfl⟩)) (fun r18 hr18 => ?_)
    replace hr18 := hr18.symm; subst hr18
    rw [at_in (by omega) (by omega)]
    refine lv_bipush (v := 99) hx hb d_T_findCenturyFrom_32 (by decide) ?_
    refine lv_icmp_eq (tgt := 39) hx hb d_T_findCenturyFrom_34 (by decide) (fun c19 => ?_) (fun c19 => ?_)
    · refine lv_iconst (v := 0) hx hb d_T_findCenturyFrom_39 (by decide) ?_
      refine lv_istore (lv' := [(4, .int 0), (3, .int 2), (2, .int (nI (t9 + 2))), (0, .ref (aa 0)), (1, .int (nI t9))]) hx hb d_T_findCenturyFrom_40 hl (by decide) rfl (fun ls hl => ?_)
      refine lv_iload_n hx hb d_T_findCenturyFrom_42 rfl (lv_at hl 4 rfl) ?_
      refine lv_istore (lv' := [(5, .int (nI t9)), (4, .int 0), (3, .int 2), (2, .int (nI (t9 + 2))), (0, .ref (aa 0)), (1, .int (nI t9))]) hx hb d_T_findCenturyFrom_43 hl (by decide) rfl (fun ls hl => ?_)
      refine lv_iload hx hb d_T_findCenturyFrom_45 (lv_at hl 0 rfl) ?_
      refine lv_iload_n hx hb d_T_findCenturyFrom_47 rfl (lv_at hl 3 rfl) ?_
      refine lv_icmp_ge (tgt := 94) hx hb d_T_findCenturyFrom_48 (by decide) (fun c20 => absurd c20 ((nI_ge (by omega) (by omega)))) (fun c20 => ?_)
      refine lv_aload_n hx hb d_T_findCenturyFrom_51 rfl (lv_at hl 4 rfl) ?_
      refine va_get (D := D) (ci := 5) (v := .ref (aa 1)) (C := "TimeWords") (T := F_T) (N := 8) hx hb hw in_T hown hK hP 0 rfl rfl 0 (by decide) (hw _ fl_T_14) (fun _ h9 => h9) rfl d_T_findCenturyFrom_52 ?_
      refine lv_iload hx hb d_T_findCenturyFrom_55 (lv_at hl 0 rfl) ?_
      have hPc : va_P D gC ([(aa 1, .inr (1, [.ref (aa 2), .int (nI (t9 + 3))])), (aa 2, .inl (T.1, 24, .inl fp))]) s.heap := (pc1 (hP 1 _ rfl) (pc1 (hP 2 _ rfl) pc0))
      refine vp_callSi (va_Run.run (va_runV (As := [.int (nI t9)]) (rest := []) ⟨hx, hb, hml, hown, hw⟩ (k_R_at l D T (aa 1) (aa 2) (t9 + 3) 24 fp (nI t9) (by omega) (by decide)) (cwV 1 hw (bg_V ml_T_189 wi_R_at wv_R_at wz_R wc_R_at) rfl rfl rfl (by decide +kernel) ⟨Nat.le_of_ble_eq_true rfl, Nat.le_of_ble_eq_true rfl⟩) ⟨sP_b, va_recv hK hPc (ci := 1) (q0 := 0) rfl rfl, sP_p hPc hK⟩ rfl rfl hl.1 rfl (lv_room (Nat.le_of_ble_eq_true rfl)) d_T_findCenturyFrom_57 ⟨Nat.le_of_ble_eq_true rfl, Nat.le_of_ble_eq_true rfl⟩)) (fun r21 hr21 => ?_)
      replace hr21 := hr21.symm; subst hr21
      rw [at_in (by omega) (by omega)]
      refine vp_callSi (va_Run.run (va_runS (As := [.int (fp t9)]) (rest := []) ⟨hx, hb, hml, hown, hw⟩ (k_T_isDigit l (fp t9)) (va_cwS 1 hw (bg_S ml_T_251 wt_T_isDigit wz_T wc_T_isDigit) rfl rfl rfl (by decide +kernel) ⟨Nat.le_of_ble_eq_true rfl, Nat.le_of_ble_eq_true rfl⟩) ⟨nP_b, nP_p⟩ rfl rfl hl.1 rfl (lv_room (Nat.le_of_ble_eq_true rfl)) d_T_findCenturyFrom_60 ⟨Nat.le_of_ble_eq_true rfl, Nat.le_of_ble_eq_true rfl⟩)) (fun r22 hr22 => ?_)
      replace hr22 := hr22.symm; subst hr22
      refine lv_if_ne (tgt := 68) hx hb d_T_findCenturyFrom_63 (by decide) (fun c23 => ?_) (fun c23 => ?_)
      · have c23 := b2i_t c23
        refine lv_bipush (v := 10) hx hb d_T_findCenturyFrom_68 (by decide) ?_
        refine lv_iload hx hb d_T_findCenturyFrom_70 (lv_at hl 1 rfl) ?_
        refine lv_imul hx hb d_T_findCenturyFrom_72 ?_
        refine lv_aload_n hx hb d_T_findCenturyFrom_73 rfl (lv_at hl 4 rfl) ?_
        refine va_get (D := D) (ci := 5) (v := .ref (aa 1)) (C := "TimeWords") (T := F_T) (N := 8) hx hb hw in_T hown hK hP 0 rfl rfl 0 (by decide) (hw _ fl_T_14) (fun _ h9 => h9) rfl d_T_findCenturyFrom_74 ?_
        refine lv_iload hx hb d_T_findCenturyFrom_77 (lv_at hl 0 rfl) ?_
        have hPc : va_P D gC ([(aa 1, .inr (1, [.ref (aa 2), .int (nI (t9 + 3))])), (aa 2, .inl (T.1, 24, .inl fp))]) s.heap := (pc1 (hP 1 _ rfl) (pc1 (hP 2 _ rfl) pc0))
        refine vp_callSi (va_Run.run (va_runV (As := [.int (nI t9)]) (rest := [.int (10 * 0)]) ⟨hx, hb, hml, hown, hw⟩ (k_R_at l D T (aa 1) (aa 2) (t9 + 3) 24 fp (nI t9) (by omega) (by decide)) (cwV 1 hw (bg_V ml_T_189 wi_R_at wv_R_at wz_R wc_R_at) rfl rfl rfl (by decide +kernel) ⟨Nat.le_of_ble_eq_true rfl, Nat.le_of_ble_eq_true rfl⟩) ⟨sP_b, va_recv hK hPc (ci := 1) (q0 := 0) rfl rfl, sP_p hPc hK⟩ rfl rfl hl.1 rfl (lv_room (Nat.le_of_ble_eq_true rfl)) d_T_findCenturyFrom_79 ⟨Nat.le_of_ble_eq_true rfl, Nat.le_of_ble_eq_true rfl⟩)) (fun r24 hr24 => ?_)
        replace hr24 := hr24.symm; subst hr24
        rw [at_in (by omega) (by omega)]
        refine lv_iadd hx hb d_T_findCenturyFrom_82 ?_
        refine lv_bipush (v := 48) hx hb d_T_findCenturyFrom_83 (by decide) ?_
        refine lv_isub hx hb d_T_findCenturyFrom_85 ?_
        rw [nb_1]
        refine lv_istore (lv' := [(4, .int (fp t9 - 48)), (5, .int (nI t9)), (3, .int 2), (2, .int (nI (t9 + 2))), (0, .ref (aa 0)), (1, .int (nI t9))]) hx hb d_T_findCenturyFrom_86 hl (by decide) rfl (fun ls hl => ?_)
        refine lv_iinc (v := nI (t9 + 1)) (lv' := [(5, .int (nI (t9 + 1))), (4, .int (fp t9 - 48)), (3, .int 2), (2, .int (nI (t9 + 2))), (0, .ref (aa 0)), (1, .int (nI t9))]) hx hb d_T_findCenturyFrom_88 hl (k := 1) rfl (nI_add t9 1) (by decide) rfl (fun ls hl => ?_)
        refine lv_goto (tgt := 45) hx hb d_T_findCenturyFrom_91 (by decide) ?_
        refine lv_iload hx hb d_T_findCenturyFrom_45 (lv_at hl 0 rfl) ?_
        refine lv_iload_n hx hb d_T_findCenturyFrom_47 rfl (lv_at hl 3 rfl) ?_
        refine lv_icmp_ge (tgt := 94) hx hb d_T_findCenturyFrom_48 (by decide) (fun c25 => absurd c25 ((nI_ge (by omega) (by omega)))) (fun c25 => ?_)
        refine lv_aload_n hx hb d_T_findCenturyFrom_51 rfl (lv_at hl 4 rfl) ?_
        refine va_get (D := D) (ci := 5) (v := .ref (aa 1)) (C := "TimeWords") (T := F_T) (N := 8) hx hb hw in_T hown hK hP 0 rfl rfl 0 (by decide) (hw _ fl_T_14) (fun _ h9 => h9) rfl d_T_findCenturyFrom_52 ?_
        refine lv_iload hx hb d_T_findCenturyFrom_55 (lv_at hl 0 rfl) ?_
        have hPc : va_P D gC ([(aa 1, .inr (1, [.ref (aa 2), .int (nI (t9 + 3))])), (aa 2, .inl (T.1, 24, .inl fp))]) s.heap := (pc1 (hP 1 _ rfl) (pc1 (hP 2 _ rfl) pc0))
        refine vp_callSi (va_Run.run (va_runV (As := [.int (nI (t9 + 1))]) (rest := []) ⟨hx, hb, hml, hown, hw⟩ (k_R_at l D T (aa 1) (aa 2) (t9 + 3) 24 fp (nI (t9 + 1)) (by omega) (by decide)) (cwV 1 hw (bg_V ml_T_189 wi_R_at wv_R_at wz_R wc_R_at) rfl rfl rfl (by decide +kernel) ⟨Nat.le_of_ble_eq_true rfl, Nat.le_of_ble_eq_true rfl⟩) ⟨sP_b, va_recv hK hPc (ci := 1) (q0 := 0) rfl rfl, sP_p hPc hK⟩ rfl rfl hl.1 rfl (lv_room (Nat.le_of_ble_eq_true rfl)) d_T_findCenturyFrom_57 ⟨Nat.le_of_ble_eq_true rfl, Nat.le_of_ble_eq_true rfl⟩)) (fun r26 hr26 => ?_)
        replace hr26 := hr26.symm; subst hr26
        rw [at_in (by omega) (by omega)]
        refine vp_callSi (va_Run.run (va_runS (As := [.int (fp (t9 + 1))]) (rest := []) ⟨hx, hb, hml, hown, hw⟩ (k_T_isDigit l (fp (t9 + 1))) (va_cwS 1 hw (bg_S ml_T_251 wt_T_isDigit wz_T wc_T_isDigit) rfl rfl rfl (by decide +kernel) ⟨Nat.le_of_ble_eq_true rfl, Nat.le_of_ble_eq_true rfl⟩) ⟨nP_b, nP_p⟩ rfl rfl hl.1 rfl (lv_room (Nat.le_of_ble_eq_true rfl)) d_T_findCenturyFrom_60 ⟨Nat.le_of_ble_eq_true rfl, Nat.le_of_ble_eq_true rfl⟩)) (fun r27 hr27 => ?_)
        replace hr27 := hr27.symm; subst hr27
        refine lv_if_ne (tgt := 68) hx hb d_T_findCenturyFrom_63 (by decide) (fun c28 => ?_) (fun c28 => ?_)
        · have c28 := b2i_t c28
          refine lv_bipush (v := 10) hx hb d_T_findCenturyFrom_68 (by decide) ?_
          refine lv_iload hx hb d_T_findCenturyFrom_70 (lv_at hl 1 rfl) ?_
          refine lv_imul hx hb d_T_findCenturyFrom_72 ?_
          refine lv_aload_n hx hb d_T_findCenturyFrom_73 rfl (lv_at hl 4 rfl) ?_
          refine va_get (D := D) (ci := 5) (v := .ref (aa 1)) (C := "TimeWords") (T := F_T) (N := 8) hx hb hw in_T hown hK hP 0 rfl rfl 0 (by decide) (hw _ fl_T_14) (fun _ h9 => h9) rfl d_T_findCenturyFrom_74 ?_
          refine lv_iload hx hb d_T_findCenturyFrom_77 (lv_at hl 0 rfl) ?_
          have hPc : va_P D gC ([(aa 1, .inr (1, [.ref (aa 2), .int (nI (t9 + 3))])), (aa 2, .inl (T.1, 24, .inl fp))]) s.heap := (pc1 (hP 1 _ rfl) (pc1 (hP 2 _ rfl) pc0))
          refine vp_callSi (va_Run.run (va_runV (As := [.int (nI (t9 + 1))]) (rest := [.int (10 * (fp t9 - 48))]) ⟨hx, hb, hml, hown, hw⟩ (k_R_at l D T (aa 1) (aa 2) (t9 + 3) 24 fp (nI (t9 + 1)) (by omega) (by decide)) (cwV 1 hw (bg_V ml_T_189 wi_R_at wv_R_at wz_R wc_R_at) rfl rfl rfl (by decide +kernel) ⟨Nat.le_of_ble_eq_true rfl, Nat.le_of_ble_eq_true rfl⟩) ⟨sP_b, va_recv hK hPc (ci := 1) (q0 := 0) rfl rfl, sP_p hPc hK⟩ rfl rfl hl.1 rfl (lv_room (Nat.le_of_ble_eq_true rfl)) d_T_findCenturyFrom_79 ⟨Nat.le_of_ble_eq_true rfl, Nat.le_of_ble_eq_true rfl⟩)) (fun r29 hr29 => ?_)
          replace hr29 := hr29.symm; subst hr29
          rw [at_in (by omega) (by omega)]
          refine lv_iadd hx hb d_T_findCenturyFrom_82 ?_
          refine lv_bipush (v := 48) hx hb d_T_findCenturyFrom_83 (by decide) ?_
          refine lv_isub hx hb d_T_findCenturyFrom_85 ?_
          refine lv_istore (lv' := [(4, .int (((10 * (fp t9 - 48)) + (fp (t9 + 1))) - 48)), (5, .int (nI (t9 + 1))), (3, .int 2), (2, .int (nI (t9 + 2))), (0, .ref (aa 0)), (1, .int (nI t9))]) hx hb d_T_findCenturyFrom_86 hl (by decide) rfl (fun ls hl => ?_)
          refine lv_iinc (v := nI (t9 + 1 + 1)) (lv' := [(5, .int (nI (t9 + 1 + 1))), (4, .int (((10 * (fp t9 - 48)) + (fp (t9 + 1))) - 48)), (3, .int 2), (2, .int (nI (t9 + 2))), (0, .ref (aa 0)), (1, .int (nI t9))]) hx hb d_T_findCenturyFrom_88 hl (k := 1) rfl (nI_add (t9 + 1) 1) (by decide) rfl (fun ls hl => ?_)
          refine lv_goto (tgt := 45) hx hb d_T_findCenturyFrom_91 (by decide) ?_
          refine lv_iload hx hb d_T_findCenturyFrom_45 (lv_at hl 0 rfl) ?_
          refine lv_iload_n hx hb d_T_findCenturyFrom_47 rfl (lv_at hl 3 rfl) ?_
          refine lv_icmp_ge (tgt := 94) hx hb d_T_findCenturyFrom_48 (by decide) (fun c30 => ?_) (fun c30 => absurd ((Int32.le_refl _)) c30)
          refine lv_aload_n hx hb d_T_findCenturyFrom_94 rfl (lv_at hl 4 rfl) ?_
          refine lv_iload hx hb d_T_findCenturyFrom_95 (lv_at hl 1 rfl) ?_
          refine g_calli (va_runV (As := [.int (((10 * (fp t9 - 48)) + (fp (t9 + 1))) - 48)]) (rest := []) ⟨hx, hb, hml, hown, hw⟩ (k_T_findCentury l D T κ aa zw (t9 + 3) fp e0 e1 oF oT kt ft ks fs fc S s.heap.size (((10 * (fp t9 - 48)) + (fp (t9 + 1))) - 48)) (cwV 1 hw (bg_V ml_T_308 wi_T_findCentury wv_T_findCentury wz_T wc_T_findCentury) rfl rfl rfl (by decide +kernel) ⟨Nat.le_of_ble_eq_true rfl, Nat.le_of_ble_eq_true rfl⟩) ⟨qPf_b, va_recv hK hP (ci := 5) (q0 := 0) rfl rfl, qPf_p hP hK hD hF hS (g_free hD hS hA)⟩ rfl rfl hl.1 rfl (lv_room (Nat.le_of_ble_eq_true rfl)) d_T_findCenturyFrom_97 ⟨Nat.le_of_ble_eq_true rfl, Nat.le_of_ble_eq_true rfl⟩) hD hS hA (fun r31 u9 H locs hr31 hP hD hS => ?_)
          obtain ⟨u32, u33, u34, u35⟩ := u9
          dsimp only at hr31 hP hD
          have hP : va_P D gC (cX T aa zw (t9 + 3) fp u32 u33 u34 u35 kt ft ks fs fc S ++ tl T S) H := hP
          have hD : va_D A (cX T aa zw (t9 + 3) fp u32 u33 u34 u35 kt ft ks fs fc S ++ tl T S) := hD
          have hce := ce_3 c19 c23 c28
          have hcv := cv_in hce
          rw [← cv_3] at hr31
          rcases hr31 with ⟨g1, g2, g3, g4, g5, g6⟩ | ⟨g1, g2, -⟩
          · subst g2
            rw [g1] at hcv
            exact W.zret (v := 1) hx hb hr rfl (fun t ht hW => ⟨⟨1, (u32, u33, u34, u35), rfl, (Or.inl ⟨hce, of_decide_eq_false (by simpa using hcv.symm), rfl, g3, g4, g5, g6⟩), by rw [ht]; exact hP, va_K.moved hW.alike hK, hD⟩, hS.F ht⟩) hS.2.2 d_T_findCenturyFrom_100
          · subst g2
            rw [g1] at hcv
            exact W.zret (v := 0) hx hb hr rfl (fun t ht hW => ⟨⟨0, (u32, u33, u34, u35), rfl, (Or.inr ⟨Or.inr (of_decide_eq_true (by simpa using hcv.symm)), rfl⟩), by rw [ht]; exact hP, va_K.moved hW.alike hK, hD⟩, hS.F ht⟩) hS.2.2 d_T_findCenturyFrom_100
        · have c28 := b2i_f c28
          refine lv_iconst (v := 0) hx hb d_T_findCenturyFrom_66 (by decide) ?_
          exact W.zret (v := 0) hx hb hr rfl (fun t ht hW => ⟨⟨0, (e0, e1, oF, oT), rfl, (Or.inr ⟨Or.inl (ce_e c28), rfl⟩), by rw [ht]; exact hP, va_K.moved hW.alike hK, hD⟩, hS.F ht⟩) hS.2.2 d_T_findCenturyFrom_67
      · have c23 := b2i_f c23
        refine lv_iconst (v := 0) hx hb d_T_findCenturyFrom_66 (by decide) ?_
        exact W.zret (v := 0) hx hb hr rfl (fun t ht hW => ⟨⟨0, (e0, e1, oF, oT), rfl, (Or.inr ⟨Or.inl (ce_d c23), rfl⟩), by rw [ht]; exact hP, va_K.moved hW.alike hK, hD⟩, hS.F ht⟩) hS.2.2 d_T_findCenturyFrom_67
    · refine lv_iconst (v := 0) hx hb d_T_findCenturyFrom_37 (by decide) ?_
      exact W.zret (v := 0) hx hb hr rfl (fun t ht hW => ⟨⟨0, (e0, e1, oF, oT), rfl, (Or.inr ⟨Or.inl (ce_c c19), rfl⟩), by rw [ht]; exact hP, va_K.moved hW.alike hK, hD⟩, hS.F ht⟩) hS.2.2 d_T_findCenturyFrom_38
  · refine lv_aload_n hx hb d_T_findCenturyFrom_0 rfl (lv_at hl 0 rfl) ?_
    refine va_get (D := D) (ci := 5) (v := .ref (aa 1)) (C := "TimeWords") (T := F_T) (N := 8) hx hb hw in_T hown hK hP 0 rfl rfl 0 (by decide) (hw _ fl_T_14) (fun _ h9 => h9) rfl d_T_findCenturyFrom_1 ?_
    refine va_get (D := D) (ci := 1) (v := .int (nI kp)) (C := "TimeWords$Row") (T := F_R) (N := 2) hx hb hw in_R hown hK hP 1 rfl rfl 1 (by decide) (hw _ fl_T_62) (fun _ h9 => h9) rfl d_T_findCenturyFrom_4 ?_
    refine lv_iconst (v := 1) hx hb d_T_findCenturyFrom_7 (by decide) ?_
    refine lv_isub hx hb d_T_findCenturyFrom_8 ?_
    refine lv_istore_n (lv' := [(2, .int ((nI kp) - 1)), (0, .ref (aa 0)), (1, .int (nI t9))]) hx hb d_T_findCenturyFrom_9 rfl hl (by decide) rfl (fun ls hl => ?_)
    refine lv_iload_n hx hb d_T_findCenturyFrom_10 rfl (lv_at hl 0 rfl) ?_
    refine lv_iload_n hx hb d_T_findCenturyFrom_11 rfl (lv_at hl 2 rfl) ?_
    refine lv_isub hx hb d_T_findCenturyFrom_12 ?_
    refine lv_istore_n (lv' := [(3, .int (((nI kp) - 1) - (nI t9))), (2, .int ((nI kp) - 1)), (0, .ref (aa 0)), (1, .int (nI t9))]) hx hb d_T_findCenturyFrom_13 rfl hl (by decide) rfl (fun ls hl => ?_)
    refine lv_iload_n hx hb d_T_findCenturyFrom_14 rfl (lv_at hl 0 rfl) ?_
    refine lv_iconst (v := 1) hx hb d_T_findCenturyFrom_15 (by decide) ?_
    refine lv_icmp_lt (tgt := 37) hx hb d_T_findCenturyFrom_16 (by decide) (fun c36 => ?_) (fun c36 => ?_)
    · refine lv_iconst (v := 0) hx hb d_T_findCenturyFrom_37 (by decide) ?_
      exact W.zret (v := 0) hx hb hr rfl (fun t ht hW => ⟨⟨0, (e0, e1, oF, oT), rfl, (Or.inr ⟨Or.inl (ce_len hd2 hd3), rfl⟩), by rw [ht]; exact hP, va_K.moved hW.alike hK, hD⟩, hS.F ht⟩) hS.2.2 d_T_findCenturyFrom_38
    · refine lv_iload_n hx hb d_T_findCenturyFrom_19 rfl (lv_at hl 0 rfl) ?_
      refine lv_iconst (v := 2) hx hb d_T_findCenturyFrom_20 (by decide) ?_
      refine lv_icmp_gt (tgt := 37) hx hb d_T_findCenturyFrom_21 (by decide) (fun c37 => ?_) (fun c37 => ?_)
      · refine lv_iconst (v := 0) hx hb d_T_findCenturyFrom_37 (by decide) ?_
        exact W.zret (v := 0) hx hb hr rfl (fun t ht hW => ⟨⟨0, (e0, e1, oF, oT), rfl, (Or.inr ⟨Or.inl (ce_len hd2 hd3), rfl⟩), by rw [ht]; exact hP, va_K.moved hW.alike hK, hD⟩, hS.F ht⟩) hS.2.2 d_T_findCenturyFrom_38
      · exact False.elim (dg_no hy0 hy1 hd2 hd3 c36 c37)

set_option maxHeartbeats 4000000 in
set_option maxRecDepth 100000 in
theorem k_T_findName (l : Launch) (D : va_G) (T : gT) (κ : gS) (aa : Nat → Nat) (zw : Int32) (kp : Nat) (fp : Nat → Int32) (e0 e1 : Int32) (oF oT : Bool) (kt : Nat) (ft : Nat → Int32) (ks : Nat) (fs fc : Nat → Int32) (S : tS) (sz : Nat) (n : nmD) (x y : Int32) (hy0 : n ∈ S.2.1) (hy1 : nmOk κ n) : Met l y_T_findName (Cond.code y_T_findName b_T_findName 5 (some .boolean) :: bg_W) ({ frames := 4, cells := 0, slots := 0, locals := 90 }) (qPf κ D T (cX T aa zw kp fp e0 e1 oF oT kt ft ks fs fc S ++ tl T S) [.ref (aa 0), .ref (nA n), .int x, .int y] sz) (va_Qi (fun (r : Int32) (u : Int32 × Int32 × Bool × Bool) => match u with | (w0, w1, v2, v3) => (r = 1 ∧ ∃ r9, (ya x y n).1 = some r9 ∧ w0 = r9.2.1 ∧ w1 = r9.2.2 ∧ v2 = false ∧ v3 = false) ∨ (r = 0 ∧ (ya x y n).1 = none)) (qB D T (va_A (cX T aa zw kp fp e0 e1 oF oT kt ft ks fs fc S ++ tl T S) sz) (fun u : Int32 × Int32 × Bool × Bool => match u with | (w0, w1, v2, v3) => cX T aa zw kp fp w0 w1 v2 v3 kt ft ks fs fc S ++ tl T S)) (va_A (cX T aa zw kp fp e0 e1 oF oT kt ft ks fs fc S ++ tl T S) sz)) 0 0 (va_A (cX T aa zw kp fp e0 e1 oF oT kt ft ks fs fc S ++ tl T S) sz) := by
  refine Met.ofW (cc := b_T_findName) (maxL := 5) (ret := (some .boolean)) (by decide) rfl ?_
  intro p e s m args below meth c s₁ B hml hv
  obtain ⟨rfl, hsz, hP, hK, hD0, hF⟩ := hv
  have hx := B.exec
  have hb := B.bytes
  have hr := B.returns
  have hw : ∀ w ∈ bg_W, w.before ([.ref (aa 0), .ref (nA n), .int x, .int y] : List Value).toArray s = true := fun w h => atoms_spec (ws := (Cond.code y_T_findName b_T_findName 5 (some .boolean) :: bg_W)) B.pre w (List.mem_cons_of_mem _ h)
  have hown : s.vm.findClass "TimeWords" = some m.cls := findClass_of_methodNamed B.named
  have hlocks := B.notSynchronized
  subst hsz
  have hD := hD0.self (sz := s.heap.size)
  generalize hAe : va_A (cX T aa zw kp fp e0 e1 oF oT kt ft ks fs fc S ++ tl T S) s.heap.size = A at hD hF ⊢
  have hA : ∀ q : Nat, s.heap.size ≤ q → A q := fun q h => by rw [← hAe]; exact Or.inr h
  have hS : va_S A s.heap s.heap [] := va_S.rf
  have hl := lv_entry ([.ref (aa 0), .ref (nA n), .int x, .int y]) (n := 5) (Nat.le_of_ble_eq_true rfl)
  rw [lg_entry_eq]
  generalize (lg_sl ([.ref (aa 0), .ref (nA n), .int x, .int y]) ++ List.replicate (5 - (lg_sl ([.ref (aa 0), .ref (nA n), .int x, .int y])).length) Slot.unset).toArray = ls at hl ⊢
  have hl : lv_has ls 5 [(0, .ref (aa 0)), (1, .ref (nA n)), (2, .int x), (3, .int y)] := hl
  refine lv_aload_n hx hb d_T_findName_0 rfl (lv_at hl 1 rfl) ?_
  refine lv_iload_n hx hb d_T_findName_1 rfl (lv_at hl 2 rfl) ?_
  refine lv_iload_n hx hb d_T_findName_2 rfl (lv_at hl 3 rfl) ?_
  have hPc : va_P D gC ([] ++ nmW T n) s.heap := (va_P.of (fun q9 h9 => hP.mem (List.mem_append_right _ (tl_nm hy0 (by rw [List.nil_append] at h9; exact h9)))))
  refine va_csq (va_Run.run (va_runV (As := [.int x, .int y]) (rest := []) ⟨hx, hb, hml, hown, hw⟩ (k_N_yearsAt l D T κ A n x y hy1) (cwV 2 hw (bg_V ml_T_315 wi_N_yearsAt wv_N_yearsAt wz_N wc_N_yearsAt) rfl rfl rfl (by decide +kernel) ⟨Nat.le_of_ble_eq_true rfl, Nat.le_of_ble_eq_true rfl⟩) ⟨sPf_b, va_recv hK (pc1 (hPc.mem (List.mem_append_right _ nmm_o)) pc0) (ci := 4) (q0 := 0) rfl rfl, sPf_p hPc hK hF hS⟩ rfl rfl hl.1 rfl (lv_room (Nat.le_of_ble_eq_true rfl)) d_T_findName_3 ⟨Nat.le_of_ble_eq_true rfl, Nat.le_of_ble_eq_true rfl⟩)) (fun r1 hr1 => ?_)
  replace hr1 := hr1.symm; subst hr1
  rcases hyG : (ya x y n).1 with _ | r9
  · refine W.eq (g2 := F0 m 6 ls [.null]) rfl ?_
    refine lv_astoreN (lv' := [(4, .null), (0, .ref (aa 0)), (1, .ref (nA n)), (2, .int x), (3, .int y)]) hx hb d_T_findName_6 hl (by decide) rfl (fun ls hl => ?_)
    refine lv_aloadN hx hb d_T_findName_8 (lv_at hl 0 rfl) ?_
    refine lv_ifnonnullN hx hb d_T_findName_10 ?_
    refine lv_iconst (v := 0) hx hb d_T_findName_13 (by decide) ?_
    exact W.zret (v := 0) hx hb hr rfl (fun t ht hW => ⟨⟨0, (e0, e1, oF, oT), rfl, (Or.inr ⟨rfl, rfl⟩), by rw [ht]; exact hP, va_K.moved hW.alike hK, hD⟩, hS.F ht⟩) hS.2.2 d_T_findName_14
  · refine W.eq (g2 := F0 m 6 ls [.ref r9.1]) rfl ?_
    refine lv_astore (lv' := [(4, .ref r9.1), (0, .ref (aa 0)), (1, .ref (nA n)), (2, .int x), (3, .int y)]) hx hb d_T_findName_6 hl (by decide) rfl (fun ls hl => ?_)
    refine lv_aload hx hb d_T_findName_8 (lv_at hl 0 rfl) ?_
    refine lv_ifnonnull (tgt := 15) hx hb d_T_findName_10 (by decide) ?_
    refine lv_aload_n hx hb d_T_findName_15 rfl (lv_at hl 1 rfl) ?_
    refine va_get (D := D) (ci := 5) (v := .ref (aa 3)) (C := "TimeWords") (T := F_T) (N := 8) hx hb hw in_T hown hK hP 0 rfl rfl 4 (by decide) (hw _ fl_T_37) (fun _ h9 => h9) rfl d_T_findName_16 ?_
    refine lv_aload hx hb d_T_findName_19 (lv_at hl 0 rfl) ?_
    obtain ⟨rs2, hrs2, hP, hD⟩ := op_1 (X := cX T aa zw kp fp e0 e1 oF oT kt ft ks fs fc S) (pl := tl T S) (q := (r9.1, .inr (2, [.int r9.2.1, .int r9.2.2, .int 0, .int 0]))) hP hD (tl_nm hy0 (ya_mem hyG))
    have hP : va_P D gC ([(aa 0, .inr (5, [.ref (aa 1), .ref S.1.1, .ref S.2.2.1.1, .int zw, .ref (aa 3), .ref (aa 4), .ref (aa 6), .ref (aa 8)])), (aa 1, .inr (1, [.ref (aa 2), .int (nI kp)])), (aa 2, .inl (T.1, 24, .inl fp)), (aa 3, .inr (2, [.int e0, .int e1, .int (b2i oF), .int (b2i oT)])), (aa 4, .inr (1, [.ref (aa 5), .int (nI kt)])), (aa 5, .inl (T.1, 24, .inl ft)), (aa 6, .inr (1, [.ref (aa 7), .int (nI ks)])), (aa 7, .inl (T.1, 24, .inl fs)), (aa 8, .inl (T.1, 9, .inl fc)), (S.1.1, .inr (0, [.ref S.1.2.1, .int (nI S.2.1.length), .int S.1.2.2.1])), (S.2.2.1.1, .inr (0, [.ref S.2.2.1.2.1, .int (nI S.2.2.2.length), .int S.2.2.1.2.2.1])), (r9.1, .inr (2, [.int r9.2.1, .int r9.2.2, .int 0, .int 0]))] ++ rs2) s.heap := hP
    have hD : va_D A ([(aa 0, .inr (5, [.ref (aa 1), .ref S.1.1, .ref S.2.2.1.1, .int zw, .ref (aa 3), .ref (aa 4), .ref (aa 6), .ref (aa 8)])), (aa 1, .inr (1, [.ref (aa 2), .int (nI kp)])), (aa 2, .inl (T.1, 24, .inl fp)), (aa 3, .inr (2, [.int e0, .int e1, .int (b2i oF), .int (b2i oT)])), (aa 4, .inr (1, [.ref (aa 5), .int (nI kt)])), (aa 5, .inl (T.1, 24, .inl ft)), (aa 6, .inr (1, [.ref (aa 7), .int (nI ks)])), (aa 7, .inl (T.1, 24, .inl fs)), (aa 8, .inl (T.1, 9, .inl fc)), (S.1.1, .inr (0, [.ref S.1.2.1, .int (nI S.2.1.length), .int S.1.2.2.1])), (S.2.2.1.1, .inr (0, [.ref S.2.2.1.2.1, .int (nI S.2.2.2.length), .int S.2.2.1.2.2.1])), (r9.1, .inr (2, [.int r9.2.1, .int r9.2.2, .int 0, .int 0]))] ++ rs2) := hD
    have hPc : va_P D gC ([(aa 3, .inr (2, [.int e0, .int e1, .int (b2i oF), .int (b2i oT)])), (r9.1, .inr (2, [.int r9.2.1, .int r9.2.2, .int 0, .int 0]))]) s.heap := (pc1 (hP 3 _ rfl) (pc1 (hP 11 _ rfl) pc0))
    have hDc : va_D A ([(aa 3, .inr (2, [.int e0, .int e1, .int (b2i oF), .int (b2i oT)])), (r9.1, .inr (2, [.int r9.2.1, .int r9.2.2, .int 0, .int 0]))]) := by have h9 := hD.part (cx := [(aa 3, .inr (2, [.int e0, .int e1, .int (b2i oF), .int (b2i oT)])), (r9.1, .inr (2, [.int r9.2.1, .int r9.2.2, .int 0, .int 0]))]) [3, 11] (by decide) rfl; exact dl_l h9
    refine g_subv (X := [(aa 0, .inr (5, [.ref (aa 1), .ref S.1.1, .ref S.2.2.1.1, .int zw, .ref (aa 3), .ref (aa 4), .ref (aa 6), .ref (aa 8)])), (aa 1, .inr (1, [.ref (aa 2), .int (nI kp)])), (aa 2, .inl (T.1, 24, .inl fp)), (aa 3, .inr (2, [.int e0, .int e1, .int (b2i oF), .int (b2i oT)])), (aa 4, .inr (1, [.ref (aa 5), .int (nI kt)])), (aa 5, .inl (T.1, 24, .inl ft)), (aa 6, .inr (1, [.ref (aa 7), .int (nI ks)])), (aa 7, .inl (T.1, 24, .inl fs)), (aa 8, .inl (T.1, 9, .inl fc)), (S.1.1, .inr (0, [.ref S.1.2.1, .int (nI S.2.1.length), .int S.1.2.2.1])), (S.2.2.1.1, .inr (0, [.ref S.2.2.1.2.1, .int (nI S.2.2.2.length), .int S.2.2.1.2.2.1])), (r9.1, .inr (2, [.int r9.2.1, .int r9.2.2, .int 0, .int 0]))]) (pl := rs2) (wr := [(aa 0, .inr (5, [.ref (aa 1), .ref S.1.1, .ref S.2.2.1.1, .int zw, .ref (aa 3), .ref (aa 4), .ref (aa 6), .ref (aa 8)])), (aa 1, .inr (1, [.ref (aa 2), .int (nI kp)])), (aa 2, .inl (T.1, 24, .inl fp)), (aa 4, .inr (1, [.ref (aa 5), .int (nI kt)])), (aa 5, .inl (T.1, 24, .inl ft)), (aa 6, .inr (1, [.ref (aa 7), .int (nI ks)])), (aa 7, .inl (T.1, 24, .inl fs)), (aa 8, .inl (T.1, 9, .inl fc)), (S.1.1, .inr (0, [.ref S.1.2.1, .int (nI S.2.1.length), .int S.1.2.2.1])), (S.2.2.1.1, .inr (0, [.ref S.2.2.1.2.1, .int (nI S.2.2.2.length), .int S.2.2.1.2.2.1]))]) (cx := [(aa 3, .inr (2, [.int e0, .int e1, .int (b2i oF), .int (b2i oT)])), (r9.1, .inr (2, [.int r9.2.1, .int r9.2.2, .int 0, .int 0]))]) (va_runV (As := [.ref r9.1]) (rest := []) ⟨hx, hb, hml, hown, hw⟩ (k_Y_copyOf l D T (aa 3) e0 e1 oF oT r9.1 r9.2.1 r9.2.2 false false s.heap.size) (cwV 1 hw (bg_V ml_T_159 wi_Y_copyOf wv_Y_copyOf wz_Y wc_Y_copyOf) rfl rfl rfl (by decide +kernel) ⟨Nat.le_of_ble_eq_true rfl, Nat.le_of_ble_eq_true rfl⟩) ⟨qP_b, va_recv hK hPc (ci := 2) (q0 := 0) rfl rfl, qP_p hPc hK hDc⟩ rfl rfl hl.1 rfl (lv_room (Nat.le_of_ble_eq_true rfl)) d_T_findName_21 ⟨Nat.le_of_ble_eq_true rfl, Nat.le_of_ble_eq_true rfl⟩) hP hD hS hA [3, 11] [0, 1, 2, 4, 5, 6, 7, 8, 9, 10] rfl rfl (by decide) (by decide) (fun u9 H locs hr3 hP hD hS => ?_)
    obtain ⟨u4, u5, u6, u7⟩ := u9
    dsimp only at hr3 hP hD
    obtain ⟨q0, q1, q2, q3⟩ := hr3
    replace q0 := q0.symm; subst q0; replace q1 := q1.symm; subst q1; replace q2 := q2.symm; subst q2; replace q3 := q3.symm; subst q3
    have hP : va_P D gC ([(aa 0, .inr (5, [.ref (aa 1), .ref S.1.1, .ref S.2.2.1.1, .int zw, .ref (aa 3), .ref (aa 4), .ref (aa 6), .ref (aa 8)])), (aa 1, .inr (1, [.ref (aa 2), .int (nI kp)])), (aa 2, .inl (T.1, 24, .inl fp)), (aa 3, .inr (2, [.int r9.2.1, .int r9.2.2, .int (b2i false), .int (b2i false)])), (aa 4, .inr (1, [.ref (aa 5), .int (nI kt)])), (aa 5, .inl (T.1, 24, .inl ft)), (aa 6, .inr (1, [.ref (aa 7), .int (nI ks)])), (aa 7, .inl (T.1, 24, .inl fs)), (aa 8, .inl (T.1, 9, .inl fc)), (S.1.1, .inr (0, [.ref S.1.2.1, .int (nI S.2.1.length), .int S.1.2.2.1])), (S.2.2.1.1, .inr (0, [.ref S.2.2.1.2.1, .int (nI S.2.2.2.length), .int S.2.2.1.2.2.1])), (r9.1, .inr (2, [.int r9.2.1, .int r9.2.2, .int 0, .int 0]))] ++ rs2) H := hP.part (cx := [(aa 0, .inr (5, [.ref (aa 1), .ref S.1.1, .ref S.2.2.1.1, .int zw, .ref (aa 3), .ref (aa 4), .ref (aa 6), .ref (aa 8)])), (aa 1, .inr (1, [.ref (aa 2), .int (nI kp)])), (aa 2, .inl (T.1, 24, .inl fp)), (aa 3, .inr (2, [.int r9.2.1, .int r9.2.2, .int (b2i false), .int (b2i false)])), (aa 4, .inr (1, [.ref (aa 5), .int (nI kt)])), (aa 5, .inl (T.1, 24, .inl ft)), (aa 6, .inr (1, [.ref (aa 7), .int (nI ks)])), (aa 7, .inl (T.1, 24, .inl fs)), (aa 8, .inl (T.1, 9, .inl fc)), (S.1.1, .inr (0, [.ref S.1.2.1, .int (nI S.2.1.length), .int S.1.2.2.1])), (S.2.2.1.1, .inr (0, [.ref S.2.2.1.2.1, .int (nI S.2.2.2.length), .int S.2.2.1.2.2.1])), (r9.1, .inr (2, [.int r9.2.1, .int r9.2.2, .int 0, .int 0]))]) [0, 1, 2, 10, 3, 4, 5, 6, 7, 8, 9, 11] rfl
    have hD : va_D A ([(aa 0, .inr (5, [.ref (aa 1), .ref S.1.1, .ref S.2.2.1.1, .int zw, .ref (aa 3), .ref (aa 4), .ref (aa 6), .ref (aa 8)])), (aa 1, .inr (1, [.ref (aa 2), .int (nI kp)])), (aa 2, .inl (T.1, 24, .inl fp)), (aa 3, .inr (2, [.int r9.2.1, .int r9.2.2, .int (b2i false), .int (b2i false)])), (aa 4, .inr (1, [.ref (aa 5), .int (nI kt)])), (aa 5, .inl (T.1, 24, .inl ft)), (aa 6, .inr (1, [.ref (aa 7), .int (nI ks)])), (aa 7, .inl (T.1, 24, .inl fs)), (aa 8, .inl (T.1, 9, .inl fc)), (S.1.1, .inr (0, [.ref S.1.2.1, .int (nI S.2.1.length), .int S.1.2.2.1])), (S.2.2.1.1, .inr (0, [.ref S.2.2.1.2.1, .int (nI S.2.2.2.length), .int S.2.2.1.2.2.1])), (r9.1, .inr (2, [.int r9.2.1, .int r9.2.2, .int 0, .int 0]))] ++ rs2) := hD.part (cx := [(aa 0, .inr (5, [.ref (aa 1), .ref S.1.1, .ref S.2.2.1.1, .int zw, .ref (aa 3), .ref (aa 4), .ref (aa 6), .ref (aa 8)])), (aa 1, .inr (1, [.ref (aa 2), .int (nI kp)])), (aa 2, .inl (T.1, 24, .inl fp)), (aa 3, .inr (2, [.int r9.2.1, .int r9.2.2, .int (b2i false), .int (b2i false)])), (aa 4, .inr (1, [.ref (aa 5), .int (nI kt)])), (aa 5, .inl (T.1, 24, .inl ft)), (aa 6, .inr (1, [.ref (aa 7), .int (nI ks)])), (aa 7, .inl (T.1, 24, .inl fs)), (aa 8, .inl (T.1, 9, .inl fc)), (S.1.1, .inr (0, [.ref S.1.2.1, .int (nI S.2.1.length), .int S.1.2.2.1])), (S.2.2.1.1, .inr (0, [.ref S.2.2.1.2.1, .int (nI S.2.2.2.length), .int S.2.2.1.2.2.1])), (r9.1, .inr (2, [.int r9.2.1, .int r9.2.2, .int 0, .int 0]))]) [0, 1, 2, 10, 3, 4, 5, 6, 7, 8, 9, 11] (by decide) rfl
    have hP : va_P D gC (cX T aa zw kp fp r9.2.1 r9.2.2 false false kt ft ks fs fc S ++ tl T S) H := cl_P1 (X := cX T aa zw kp fp r9.2.1 r9.2.2 false false kt ft ks fs fc S) hrs2 hP
    have hD : va_D A (cX T aa zw kp fp r9.2.1 r9.2.2 false false kt ft ks fs fc S ++ tl T S) := cl_D1 (X := cX T aa zw kp fp r9.2.1 r9.2.2 false false kt ft ks fs fc S) hrs2 hD
    refine lv_iconst (v := 1) hx hb d_T_findName_24 (by decide) ?_
    exact W.zret (v := 1) hx hb hr rfl (fun t ht hW => ⟨⟨1, (r9.2.1, r9.2.2, false, false), rfl, (Or.inl ⟨rfl, r9, rfl, rfl, rfl, rfl, rfl⟩), by rw [ht]; exact hP, va_K.moved hW.alike hK, hD⟩, hS.F ht⟩) hS.2.2 d_T_findName_25

set_option maxHeartbeats 4000000 in
set_option maxRecDepth 100000 in
theorem k_T_findNameFrom (l : Launch) (D : va_G) (T : gT) (κ : gS) (aa : Nat → Nat) (zw : Int32) (kp : Nat) (fp : Nat → Int32) (e0 e1 : Int32) (oF oT : Bool) (kt : Nat) (ft : Nat → Int32) (ks : Nat) (fs fc : Nat → Int32) (S : tS) (sz : Nat) (t9 : Nat) (x y : Int32) (hy0 : tOk κ S) (hy1 : kp ≤ 24) (hy2 : t9 ≤ kp) : Met l y_T_findNameFrom (Cond.code y_T_findNameFrom b_T_findNameFrom 5 (some .boolean) :: bg_W) ({ frames := 5, cells := 0, slots := 0, locals := 114 }) (qPf κ D T (cX T aa zw kp fp e0 e1 oF oT kt ft ks fs fc S ++ tl T S) [.ref (aa 0), .int (nI t9), .int x, .int y] sz) (va_Qi (fun (r : Int32) (u : Int32 × Int32 × Bool × Bool) => match u with | (w0, w1, v2, v3) => (r = 1 ∧ ∃ (i : Nat) (n : nmD) (r9 : Nat × Int32 × Int32), S.2.1[i]? = some n ∧ c_mt fp kp t9 n ∧ (ya x y n).1 = some r9 ∧ w0 = r9.2.1 ∧ w1 = r9.2.2 ∧ v2 = false ∧ v3 = false) ∨ (r = 0 ∧ ((∀ (i : Nat) (n : nmD), S.2.1[i]? = some n → ¬ c_mt fp kp t9 n) ∨ ∃ (i : Nat) (n : nmD), S.2.1[i]? = some n ∧ c_mt fp kp t9 n ∧ (ya x y n).1 = none))) (qB D T (va_A (cX T aa zw kp fp e0 e1 oF oT kt ft ks fs fc S ++ tl T S) sz) (fun u : Int32 × Int32 × Bool × Bool => match u with | (w0, w1, v2, v3) => cX T aa zw kp fp w0 w1 v2 v3 kt ft ks fs fc S ++ tl T S)) (va_A (cX T aa zw kp fp e0 e1 oF oT kt ft ks fs fc S ++ tl T S) sz)) 0 0 (va_A (cX T aa zw kp fp e0 e1 oF oT kt ft ks fs fc S ++ tl T S) sz) := by
  refine Met.ofW (cc := b_T_findNameFrom) (maxL := 5) (ret := (some .boolean)) (by decide) rfl ?_
  intro p e s m args below meth c s₁ B hml hv
  obtain ⟨rfl, hsz, hP, hK, hD0, hF⟩ := hv
  have hx := B.exec
  have hb := B.bytes
  have hr := B.returns
  have hw : ∀ w ∈ bg_W, w.before ([.ref (aa 0), .int (nI t9), .int x, .int y] : List Value).toArray s = true := fun w h => atoms_spec (ws := (Cond.code y_T_findNameFrom b_T_findNameFrom 5 (some .boolean) :: bg_W)) B.pre w (List.mem_cons_of_mem _ h)
  have hown : s.vm.findClass "TimeWords" = some m.cls := findClass_of_methodNamed B.named
  have hlocks := B.notSynchronized
  subst hsz
  have hD := hD0.self (sz := s.heap.size)
  generalize hAe : va_A (cX T aa zw kp fp e0 e1 oF oT kt ft ks fs fc S ++ tl T S) s.heap.size = A at hD hF ⊢
  have hA : ∀ q : Nat, s.heap.size ≤ q → A q := fun q h => by rw [← hAe]; exact Or.inr h
  have hS : va_S A s.heap s.heap [] := va_S.rf
  have hl := lv_entry ([.ref (aa 0), .int (nI t9), .int x, .int y]) (n := 5) (Nat.le_of_ble_eq_true rfl)
  rw [lg_entry_eq]
  generalize (lg_sl ([.ref (aa 0), .int (nI t9), .int x, .int y]) ++ List.replicate (5 - (lg_sl ([.ref (aa 0), .int (nI t9), .int x, .int y])).length) Slot.unset).toArray = ls at hl ⊢
  have hl : lv_has ls 5 [(0, .ref (aa 0)), (1, .int (nI t9)), (2, .int x), (3, .int y)] := hl
  have hL1 : S.2.1.length ≤ 24 := hy0.2.2.2.1
  have hL2 : S.2.2.2.length ≤ 60 := hy0.2.2.2.2
  refine lv_aload_n hx hb d_T_findNameFrom_0 rfl (lv_at hl 0 rfl) ?_
  refine lv_iload_n hx hb d_T_findNameFrom_1 rfl (lv_at hl 1 rfl) ?_
  refine vp_callSi (va_Run.run (va_runV (As := [.int (nI t9)]) (rest := []) ⟨hx, hb, hml, hown, hw⟩ (k_T_nameFrom l D T κ A aa zw kp fp e0 e1 oF oT kt ft ks fs fc S t9 hy0 hy1 hy2) (cwV 1 hw (bg_V ml_T_82 wi_T_nameFrom wv_T_nameFrom wz_T wc_T_nameFrom) rfl rfl rfl (by decide +kernel) ⟨Nat.le_of_ble_eq_true rfl, Nat.le_of_ble_eq_true rfl⟩) ⟨sPf_b, va_recv hK hP (ci := 5) (q0 := 0) rfl rfl, sPf_p hP hK hF hS⟩ rfl rfl hl.1 rfl (lv_room (Nat.le_of_ble_eq_true rfl)) d_T_findNameFrom_2 ⟨Nat.le_of_ble_eq_true rfl, Nat.le_of_ble_eq_true rfl⟩)) (fun r1 hr1 => ?_)
  rcases hr1 with ⟨hr0, hr1⟩ | ⟨i, n, hr0, hr1, hr2⟩
  · subst hr0
    refine lv_istore (lv' := [(4, .int (-1)), (0, .ref (aa 0)), (1, .int (nI t9)), (2, .int x), (3, .int y)]) hx hb d_T_findNameFrom_5 hl (by decide) rfl (fun ls hl => ?_)
    refine lv_iload hx hb d_T_findNameFrom_7 (lv_at hl 0 rfl) ?_
    refine lv_iconst (v := (-1)) hx hb d_T_findNameFrom_9 (by decide) ?_
    refine lv_icmp_eq (tgt := 38) hx hb d_T_findNameFrom_10 (by decide) (fun c2 => ?_) (fun c2 => absurd c2 (by decide))
    refine lv_iconst (v := 0) hx hb d_T_findNameFrom_38 (by decide) ?_
    exact W.zret (v := 0) hx hb hr rfl (fun t ht hW => ⟨⟨0, (e0, e1, oF, oT), rfl, (Or.inr ⟨rfl, Or.inl hr1⟩), by rw [ht]; exact hP, va_K.moved hW.alike hK, hD⟩, hS.F ht⟩) hS.2.2 d_T_findNameFrom_39
  · subst hr0
    obtain ⟨hn1, hn2, hn3, hn4, hn5, hn6⟩ := nm_at hy0 hr1
    refine lv_istore (lv' := [(4, .int (nI i)), (0, .ref (aa 0)), (1, .int (nI t9)), (2, .int x), (3, .int y)]) hx hb d_T_findNameFrom_5 hl (by decide) rfl (fun ls hl => ?_)
    refine lv_iload hx hb d_T_findNameFrom_7 (lv_at hl 0 rfl) ?_
    refine lv_iconst (v := (-1)) hx hb d_T_findNameFrom_9 (by decide) ?_
    refine lv_icmp_eq (tgt := 38) hx hb d_T_findNameFrom_10 (by decide) (fun c3 => absurd c3 ((nI_m1 (by omega)))) (fun c3 => ?_)
    refine lv_aload_n hx hb d_T_findNameFrom_13 rfl (lv_at hl 1 rfl) ?_
    refine lv_aload_n hx hb d_T_findNameFrom_14 rfl (lv_at hl 1 rfl) ?_
    refine va_get (D := D) (ci := 5) (v := .ref S.1.1) (C := "TimeWords") (T := F_T) (N := 8) hx hb hw in_T hown hK hP 0 rfl rfl 1 (by decide) (hw _ fl_T_21) (fun _ h9 => h9) rfl d_T_findNameFrom_15 ?_
    refine lv_iload hx hb d_T_findNameFrom_18 (lv_at hl 0 rfl) ?_
    have hPc : va_P D gC ([(S.1.1, .inr (0, [.ref S.1.2.1, .int (nI S.2.1.length), .int S.1.2.2.1])), (S.1.2.1, .inl (T.2.2.2, S.1.2.2.2.1, .inr (.inr (.inr (.inr S.1.2.2.2.2)))))]) s.heap := (pc1 (hP 9 _ rfl) (pc1 (hP.mem (List.mem_append_right _ (tl_na (by omega)))) pc0))
    refine va_csq (va_Run.run (va_runV (As := [.int (nI i)]) (rest := [.ref (aa 0)]) ⟨hx, hb, hml, hown, hw⟩ (k_A_get l D T S.1.1 S.1.2.1 S.2.1.length S.1.2.2.1 S.1.2.2.2.1 S.1.2.2.2.2 i hn4 hn2 (by omega)) (cwV 1 hw (bg_V ml_T_192 wi_A_get wv_A_get wz_A wc_A_get) rfl rfl rfl (by decide +kernel) ⟨Nat.le_of_ble_eq_true rfl, Nat.le_of_ble_eq_true rfl⟩) ⟨sP_b, va_recv hK hPc (ci := 0) (q0 := 0) rfl rfl, sP_p hPc hK⟩ rfl rfl hl.1 rfl (lv_room (Nat.le_of_ble_eq_true rfl)) d_T_findNameFrom_20 ⟨Nat.le_of_ble_eq_true rfl, Nat.le_of_ble_eq_true rfl⟩)) (fun r4 hr4 => ?_)
    replace hr4 := hr4.symm; subst hr4
    rw [hn1]
    refine W.eq (g2 := F0 m 23 ls [.ref (nA n), .ref (aa 0)]) rfl ?_
    refine va_castY (C := "TimeWords$Name") hx hb hown (hw _ kl_T_92) (hF.2.2.2.1 _ (by simp [sC])) (va_recv hK (pc1 (hP.mem (List.mem_append_right _ (tl_nm hn5 nmm_o))) pc0) (ci := 4) (q0 := 0) rfl rfl) d_T_findNameFrom_23 ?_
    refine lv_iload_n hx hb d_T_findNameFrom_26 rfl (lv_at hl 3 rfl) ?_
    refine lv_iload_n hx hb d_T_findNameFrom_27 rfl (lv_at hl 4 rfl) ?_
    refine g_calli (va_runV (As := [.ref (nA n), .int x, .int y]) (rest := []) ⟨hx, hb, hml, hown, hw⟩ (k_T_findName l D T κ aa zw kp fp e0 e1 oF oT kt ft ks fs fc S s.heap.size n x y hn5 hn6) (cwV 3 hw (bg_V ml_T_311 wi_T_findName wv_T_findName wz_T wc_T_findName) rfl rfl rfl (by decide +kernel) ⟨Nat.le_of_ble_eq_true rfl, Nat.le_of_ble_eq_true rfl⟩) ⟨qPf_b, va_recv hK hP (ci := 5) (q0 := 0) rfl rfl, qPf_p hP hK hD hF hS (g_free hD hS hA)⟩ rfl rfl hl.1 rfl (lv_room (Nat.le_of_ble_eq_true rfl)) d_T_findNameFrom_28 ⟨Nat.le_of_ble_eq_true rfl, Nat.le_of_ble_eq_true rfl⟩) hD hS hA (fun r5 u9 H locs hr5 hP hD hS => ?_)
    obtain ⟨u6, u7, u8, u9⟩ := u9
    dsimp only at hr5 hP hD
    have hP : va_P D gC (cX T aa zw kp fp u6 u7 u8 u9 kt ft ks fs fc S ++ tl T S) H := hP
    have hD : va_D A (cX T aa zw kp fp u6 u7 u8 u9 kt ft ks fs fc S ++ tl T S) := hD
    rcases hr5 with ⟨hs0, r9, hs1, hs2, hs3, hs4, hs5⟩ | ⟨hs0, hs1⟩
    · subst hs0
      refine lv_if_eq (tgt := 38) hx hb d_T_findNameFrom_31 (by decide) (fun c10 => absurd c10 (by decide)) (fun c10 => ?_)
      refine lv_iconst (v := 1) hx hb d_T_findNameFrom_34 (by decide) ?_
      refine lv_goto (tgt := 39) hx hb d_T_findNameFrom_35 (by decide) ?_
      exact W.zret (v := 1) hx hb hr rfl (fun t ht hW => ⟨⟨1, (u6, u7, u8, u9), rfl, (Or.inl ⟨rfl, i, n, r9, hr1, hr2, hs1, hs2, hs3, hs4, hs5⟩), by rw [ht]; exact hP, va_K.moved hW.alike hK, hD⟩, hS.F ht⟩) hS.2.2 d_T_findNameFrom_39
    · subst hs0
      refine lv_if_eq (tgt := 38) hx hb d_T_findNameFrom_31 (by decide) (fun c11 => ?_) (fun c11 => absurd c11 (by decide))
      refine lv_iconst (v := 0) hx hb d_T_findNameFrom_38 (by decide) ?_
      exact W.zret (v := 0) hx hb hr rfl (fun t ht hW => ⟨⟨0, (u6, u7, u8, u9), rfl, (Or.inr ⟨rfl, Or.inr ⟨i, n, hr1, hr2, hs1⟩⟩), by rw [ht]; exact hP, va_K.moved hW.alike hK, hD⟩, hS.F ht⟩) hS.2.2 d_T_findNameFrom_39

set_option maxHeartbeats 4000000 in
set_option maxRecDepth 100000 in
theorem k_T_beginningAt (l : Launch) (D : va_G) (T : gT) (κ : gS) (A : Nat → Prop) (aa : Nat → Nat) (zw : Int32) (kp : Nat) (fp : Nat → Int32) (e0 e1 : Int32) (oF oT : Bool) (kt : Nat) (ft : Nat → Int32) (ks : Nat) (fs fc : Nat → Int32) (S : tS) (t9 : Nat) (hy0 : kp ≤ 24) (hy1 : t9 ≤ 24) : Met l y_T_beginningAt (Cond.code y_T_beginningAt b_T_beginningAt 3 (some .int) :: bg_W) ({ frames := 5, cells := 0, slots := 0, locals := 108 }) (sPf κ A D T (cX T aa zw kp fp e0 e1 oF oT kt ft ks fs fc S ++ tl T S) [.ref (aa 0), .int (nI t9)]) (vp_Si (fun r : Int32 => r = j_oi (j_fb fp kp t9))) 0 0 (fun _ => False) := by
  refine Met.ofW (cc := b_T_beginningAt) (maxL := 3) (ret := (some .int)) (by decide) rfl ?_
  intro p e s m args below meth c s₁ B hml hv
  obtain ⟨rfl, hP, hK, hF⟩ := hv
  have hx := B.exec
  have hb := B.bytes
  have hr := B.returns
  have hw : ∀ w ∈ bg_W, w.before ([.ref (aa 0), .int (nI t9)] : List Value).toArray s = true := fun w h => atoms_spec (ws := (Cond.code y_T_beginningAt b_T_beginningAt 3 (some .int) :: bg_W)) B.pre w (List.mem_cons_of_mem _ h)
  have hown : s.vm.findClass "TimeWords" = some m.cls := findClass_of_methodNamed B.named
  have hlocks := B.notSynchronized
  have hS : va_S A s.heap s.heap [] := va_S.rf
  have hl := lv_entry ([.ref (aa 0), .int (nI t9)]) (n := 3) (Nat.le_of_ble_eq_true rfl)
  rw [lg_entry_eq]
  generalize (lg_sl ([.ref (aa 0), .int (nI t9)]) ++ List.replicate (3 - (lg_sl ([.ref (aa 0), .int (nI t9)])).length) Slot.unset).toArray = ls at hl ⊢
  have hl : lv_has ls 3 [(0, .ref (aa 0)), (1, .int (nI t9))] := hl
  refine lv_iconst (v := 0) hx hb d_T_beginningAt_0 (by decide) ?_
  refine lv_istore_n (lv' := [(2, .int 0), (0, .ref (aa 0)), (1, .int (nI t9))]) hx hb d_T_beginningAt_1 rfl hl (by decide) rfl (fun ls hl => ?_)
  have loop : ∀ (nf : Nat) (j : Nat), (j ≤ 6) → (∀ i, i < j → ¬ j_bp fp kp t9 i) → ∀ (ls : Array Slot), lv_has ls 3 [(0, .ref (aa 0)), (1, .int (nI t9)), (2, .int (nI j))] → 6 - j < nf → W p l e (headSpec (Cond.code y_T_beginningAt b_T_beginningAt 3 (some .int) :: bg_W) ({ frames := 5, cells := 0, slots := 0, locals := 108 })).room s m ([.ref (aa 0), .int (nI t9)] : List Value).toArray below meth c s.heap [] 0 0 (MQ below (vp_Si (fun r : Int32 => r = j_oi (j_fb fp kp t9))) ([.ref (aa 0), .int (nI t9)] : List Value).toArray s 0 0 (fun _ => False)) (F0 m 2 ls []) := by
    intro nf
    induction nf with
    | zero => intro j hj hE ls hl hm; exact absurd hm (Nat.not_lt_zero _)
    | succ nf ih =>
      intro j hj hE ls hl hm
      refine lv_iload_n hx hb d_T_beginningAt_2 rfl (lv_at hl 2 rfl) ?_
      refine lv_bipush (v := 6) hx hb d_T_beginningAt_3 (by decide) ?_
      refine lv_icmp_ge (tgt := 31) hx hb d_T_beginningAt_5 (by decide) (fun c1 => ?_) (fun c1 => ?_)
      · have c1 := nc_le (a := 6) (b := j) c1 (by omega) (by omega)
        refine lv_iconst (v := (-1)) hx hb d_T_beginningAt_31 (by decide) ?_
        exact W.iret (v := (-1)) hx hb hr (fun t ht hW => ⟨(-1), rfl, (by rw [j_fb_none (fun b hb => hE b (by omega))]; rfl), ht⟩) (fun _ h => nomatch h) d_T_beginningAt_32
      · have c1 := nc_nle (a := 6) (b := j) c1 (by omega) (by omega)
        refine lv_aload_n hx hb d_T_beginningAt_8 rfl (lv_at hl 0 rfl) ?_
        refine va_get (D := D) (ci := 5) (v := .ref (aa 1)) (C := "TimeWords") (T := F_T) (N := 8) hx hb hw in_T hown hK hP 0 rfl rfl 0 (by decide) (hw _ fl_T_14) (fun _ h9 => h9) rfl d_T_beginningAt_9 ?_
        refine lv_iload_n hx hb d_T_beginningAt_12 rfl (lv_at hl 1 rfl) ?_
        refine lv_iload_n hx hb d_T_beginningAt_13 rfl (lv_at hl 2 rfl) ?_
        have hPc : va_P D gC ([]) s.heap := pc0
        refine va_csq (va_Run.run (va_runS (As := [.int (nI j)]) (rest := [.int (nI t9), .ref (aa 1)]) ⟨hx, hb, hml, hown, hw⟩ (k_T_beginning l D T κ A j (by omega)) (va_cwS 1 hw (bg_S ml_T_268 wt_T_beginning wz_T wc_T_beginning) rfl rfl rfl (by decide +kernel) ⟨Nat.le_of_ble_eq_true rfl, Nat.le_of_ble_eq_true rfl⟩) ⟨sPf_b, sPf_p hPc hK hF hS⟩ rfl rfl hl.1 rfl (lv_room (Nat.le_of_ble_eq_true rfl)) d_T_beginningAt_14 ⟨Nat.le_of_ble_eq_true rfl, Nat.le_of_ble_eq_true rfl⟩)) (fun r2 hr2 => ?_)
        replace hr2 := hr2.symm; subst hr2
        refine W.eq (g2 := F0 m 17 ls [.ref (κ.1 (282 + 2 * j)), .int (nI t9), .ref (aa 1)]) rfl ?_
        have hPc : va_P D gC ([(aa 1, .inr (1, [.ref (aa 2), .int (nI kp)])), (aa 2, .inl (T.1, 24, .inl fp))]) s.heap := (pc1 (hP 1 _ rfl) (pc1 (hP 2 _ rfl) pc0))
        refine vp_callSi (va_Run.run (va_runV (As := [.int (nI t9), .ref (κ.1 (282 + 2 * j))]) (rest := []) ⟨hx, hb, hml, hown, hw⟩ (k_R_holds l D T κ A (aa 1) (aa 2) kp 24 fp t9 j hy0 (by decide) (by omega) hy1) (cwV 2 hw (bg_V ml_T_278 wi_R_holds wv_R_holds wz_R wc_R_holds) rfl rfl rfl (by decide +kernel) ⟨Nat.le_of_ble_eq_true rfl, Nat.le_of_ble_eq_true rfl⟩) ⟨sPf_b, va_recv hK hPc (ci := 1) (q0 := 0) rfl rfl, sPf_p hPc hK hF hS⟩ rfl rfl hl.1 rfl (lv_room (Nat.le_of_ble_eq_true rfl)) d_T_beginningAt_17 ⟨Nat.le_of_ble_eq_true rfl, Nat.le_of_ble_eq_true rfl⟩)) (fun r3 hr3 => ?_)
        rcases hr3 with ⟨hs0, hs1⟩ | ⟨hs0, hs1⟩
        · subst hs0
          refine lv_if_eq (tgt := 25) hx hb d_T_beginningAt_20 (by decide) (fun c4 => absurd c4 (by decide)) (fun c4 => ?_)
          refine lv_iload_n hx hb d_T_beginningAt_23 rfl (lv_at hl 2 rfl) ?_
          exact W.iret (v := nI j) hx hb hr (fun t ht hW => ⟨nI j, rfl, (by rw [j_fb_some (by omega) hE ((c_bp_j (by omega)).mp hs1)]; rfl), ht⟩) (fun _ h => nomatch h) d_T_beginningAt_24
        · subst hs0
          refine lv_if_eq (tgt := 25) hx hb d_T_beginningAt_20 (by decide) (fun c5 => ?_) (fun c5 => absurd c5 (by decide))
          refine lv_iinc (v := nI (j + 1)) (lv' := [(2, .int (nI (j + 1))), (0, .ref (aa 0)), (1, .int (nI t9))]) hx hb d_T_beginningAt_25 hl (k := 2) rfl (nI_add j 1) (by decide) rfl (fun ls hl => ?_)
          refine lv_goto (tgt := 2) hx hb d_T_beginningAt_28 (by decide) ?_
          exact ih (j + 1) (by omega) (lt_s hE (fun q => hs1 ((c_bp_j (by omega)).mpr q))) ls (lv_sub hl [1, 2, 0] rfl) (by omega)
  exact loop ((6 - 0) + 1) 0 (Nat.zero_le _) lt_0 ls (lv_sub hl [1, 2, 0] rfl) (Nat.lt_succ_self _)
