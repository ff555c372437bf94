set_option maxHeartbeats 4000000 in
set_option maxRecDepth 100000 in
theorem k_AC_init (l : Launch) (D : va_G) (T : gT) (lo : Nat) : Met l y_AC_init (Cond.code y_AC_init b_AC_init 1 none :: bg_W) ({ frames := 1, cells := 0, slots := 0, locals := 12 }) (sP D T ([]) [.ref lo]) (va_Sv (fun _ => True)) 0 0 (fun _ => False) := by
  refine Met.ofW (cc := b_AC_init) (maxL := 1) (ret := none) (by decide) rfl ?_
  intro p e s m args below meth c s₁ B hml hv
  obtain ⟨rfl, hP, hK⟩ := hv
  have hx := B.exec
  have hb := B.bytes
  have hr := B.returns
  have hw : ∀ w ∈ bg_W, w.before ([.ref lo] : List Value).toArray s = true := fun w h => atoms_spec (ws := (Cond.code y_AC_init b_AC_init 1 none :: bg_W)) B.pre w (List.mem_cons_of_mem _ h)
  have hown : s.vm.findClass "java/util/AbstractCollection" = some m.cls := findClass_of_methodNamed B.named
  have hlocks := B.notSynchronized
  have hl := lv_entry ([.ref lo]) (n := 1) (Nat.le_of_ble_eq_true rfl)
  rw [lg_entry_eq]
  generalize (lg_sl ([.ref lo]) ++ List.replicate (1 - (lg_sl ([.ref lo])).length) Slot.unset).toArray = ls at hl ⊢
  have hl : lv_has ls 1 [(0, .ref lo)] := hl
  have hin : meth.name = "<init>" := (name_of_methodNamed B.named B.method).1
  refine lv_aload_n hx hb d_AC_init_0 rfl (lv_at hl 0 rfl) ?_
  refine W.objInit hx hb hown (hw _ ml_AC_1) (hw _ wi_OB_init) (hw _ wc_OB_init) rfl (by rw [hml]; exact hl.1) rfl d_AC_init_1 (Nat.le_of_ble_eq_true rfl) (Nat.le_of_ble_eq_true rfl) ?_
  refine W.eq (g2 := F0 m 4 ls []) rfl ?_
  exact W.vret hx hb hr (fun t ht hW => ⟨rfl, trivial, ht⟩) (fun _ h => nomatch h) d_AC_init_4

set_option maxHeartbeats 4000000 in
set_option maxRecDepth 100000 in
theorem k_AL_init (l : Launch) (D : va_G) (T : gT) (lo : Nat) (sz : Nat) : Met l y_AL_init (Cond.code y_AL_init b_AL_init 1 none :: bg_W) ({ frames := 2, cells := 0, slots := 0, locals := 32 }) (qP D T ([(lo, .inr (0, [.null, .int 0, .int 0]))]) [.ref lo] sz) (va_Qv (fun _u : Unit => True) (qB D T (va_A ([(lo, .inr (0, [.null, .int 0, .int 0]))]) sz) (fun _u : Unit => [(lo, .inr (0, [.null, .int 0, .int 0]))])) (va_A ([(lo, .inr (0, [.null, .int 0, .int 0]))]) sz)) 0 0 (va_A ([(lo, .inr (0, [.null, .int 0, .int 0]))]) sz) := by
  refine Met.ofW (cc := b_AL_init) (maxL := 1) (ret := none) (by decide) rfl ?_
  intro p e s m args below meth c s₁ B hml hv
  obtain ⟨rfl, hsz, hP, hK, hD0⟩ := hv
  have hx := B.exec
  have hb := B.bytes
  have hr := B.returns
  have hw : ∀ w ∈ bg_W, w.before ([.ref lo] : List Value).toArray s = true := fun w h => atoms_spec (ws := (Cond.code y_AL_init b_AL_init 1 none :: bg_W)) B.pre w (List.mem_cons_of_mem _ h)
  have hown : s.vm.findClass "java/util/AbstractList" = some m.cls := findClass_of_methodNamed B.named
  have hlocks := B.notSynchronized
  subst hsz
  have hD := hD0.self (sz := s.heap.size)
  generalize hAe : va_A ([(lo, .inr (0, [.null, .int 0, .int 0]))]) s.heap.size = A at hD ⊢
  have hA : ∀ q : Nat, s.heap.size ≤ q → A q := fun q h => by rw [← hAe]; exact Or.inr h
  have hS : va_S A s.heap s.heap [] := va_S.rf
  have hl := lv_entry ([.ref lo]) (n := 1) (Nat.le_of_ble_eq_true rfl)
  rw [lg_entry_eq]
  generalize (lg_sl ([.ref lo]) ++ List.replicate (1 - (lg_sl ([.ref lo])).length) Slot.unset).toArray = ls at hl ⊢
  have hl : lv_has ls 1 [(0, .ref lo)] := hl
  have hin : meth.name = "<init>" := (name_of_methodNamed B.named B.method).1
  refine lv_aload_n hx hb d_AL_init_0 rfl (lv_at hl 0 rfl) ?_
  have hPc : va_P D gC ([]) s.heap := pc0
  refine va_csv (va_Run.run (va_runI (As := []) (rest := []) ⟨hx, hb, hml, hown, hw⟩ (k_AC_init l D T lo) (cwI 0 hw (bg_c wc_AC_init) rfl rfl rfl (hw _ wz_AC) (hw _ ml_AL_1) (hw _ wi_AC_init) rfl (by decide +kernel) ⟨Nat.le_of_ble_eq_true rfl, Nat.le_of_ble_eq_true rfl⟩) ⟨sP_b, sP_p hPc hK⟩ rfl rfl hl.1 rfl (lv_room (Nat.le_of_ble_eq_true rfl)) d_AL_init_1 ⟨Nat.le_of_ble_eq_true rfl, Nat.le_of_ble_eq_true rfl⟩)) (fun hr1 => ?_)
  refine lv_aload_n hx hb d_AL_init_4 rfl (lv_at hl 0 rfl) ?_
  refine lv_iconst (v := 0) hx hb d_AL_init_5 (by decide) ?_
  refine va_put (D := D) (ci := 0) (v := .int 0) (ty := .int) (C := "java/util/ArrayList") (T := F_A) (N := 3) hx hb hw in_A ty_A ty_A_ok n_A hown hK hP hD hS 0 rfl rfl 2 (by decide) (hw _ fl_AL_7) (fun _ h9 => h9) rfl (by decide +kernel) rfl rfl (Nat.le_of_ble_eq_true rfl) d_AL_init_6 (fun H locs hP hD hS => ?_)
  have hP : va_P D gC ([(lo, .inr (0, [.null, .int 0, .int 0]))]) H := hP
  have hD : va_D A ([(lo, .inr (0, [.null, .int 0, .int 0]))]) := hD
  exact W.vret hx hb hr (fun t ht hW => ⟨⟨(), rfl, trivial, by rw [ht]; exact hP, va_K.moved hW.alike hK, hD⟩, hS.F ht⟩) hS.2.2 d_AL_init_9

set_option maxHeartbeats 4000000 in
set_option maxRecDepth 100000 in
theorem k_A_init (l : Launch) (D : va_G) (T : gT) (κ : gS) (lo : Nat) (sz : Nat) : Met l y_A_init (Cond.code y_A_init b_A_init 1 none :: bg_W) ({ frames := 3, cells := 0, slots := 0, locals := 52 }) (qPf κ D T ([(lo, .inr (0, [.null, .int 0, .int 0]))]) [.ref lo] sz) (va_Qv (fun _u : Unit => True) (qB D T (va_A ([(lo, .inr (0, [.null, .int 0, .int 0]))]) sz) (fun _u : Unit => [(lo, .inr (0, [.ref κ.2.2.1, .int 0, .int 0]))])) (va_A ([(lo, .inr (0, [.null, .int 0, .int 0]))]) sz)) 0 0 (va_A ([(lo, .inr (0, [.null, .int 0, .int 0]))]) sz) := by
  refine Met.ofW (cc := b_A_init) (maxL := 1) (ret := none) (by decide) rfl ?_
  intro p e s m args below meth c s₁ B hml hv
  obtain ⟨rfl, hsz, hP, hK, hD0, hF⟩ := hv
  have hx := B.exec
  have hb := B.bytes
  have hr := B.returns
  have hw : ∀ w ∈ bg_W, w.before ([.ref lo] : List Value).toArray s = true := fun w h => atoms_spec (ws := (Cond.code y_A_init b_A_init 1 none :: bg_W)) B.pre w (List.mem_cons_of_mem _ h)
  have hown : s.vm.findClass "java/util/ArrayList" = some m.cls := findClass_of_methodNamed B.named
  have hlocks := B.notSynchronized
  subst hsz
  have hD := hD0.self (sz := s.heap.size)
  generalize hAe : va_A ([(lo, .inr (0, [.null, .int 0, .int 0]))]) s.heap.size = A at hD hF ⊢
  have hA : ∀ q : Nat, s.heap.size ≤ q → A q := fun q h => by rw [← hAe]; exact Or.inr h
  have hS : va_S A s.heap s.heap [] := va_S.rf
  have hl := lv_entry ([.ref lo]) (n := 1) (Nat.le_of_ble_eq_true rfl)
  rw [lg_entry_eq]
  generalize (lg_sl ([.ref lo]) ++ List.replicate (1 - (lg_sl ([.ref lo])).length) Slot.unset).toArray = ls at hl ⊢
  have hl : lv_has ls 1 [(0, .ref lo)] := hl
  have hin : meth.name = "<init>" := (name_of_methodNamed B.named B.method).1
  refine lv_aload_n hx hb d_A_init_0 rfl (lv_at hl 0 rfl) ?_
  have hPc : va_P D gC ([(lo, .inr (0, [.null, .int 0, .int 0]))]) s.heap := (pc1 (hP 0 _ rfl) pc0)
  have hDc : va_D A ([(lo, .inr (0, [.null, .int 0, .int 0]))]) := hD.sub (ws' := [(lo, .inr (0, [.null, .int 0, .int 0]))]) [0] (by decide) rfl
  refine g_subv (X := [(lo, .inr (0, [.null, .int 0, .int 0]))]) (pl := []) (wr := []) (cx := [(lo, .inr (0, [.null, .int 0, .int 0]))]) (va_runI (As := []) (rest := []) ⟨hx, hb, hml, hown, hw⟩ (k_AL_init l D T lo s.heap.size) (cwI 0 hw (bg_c wc_AL_init) rfl rfl rfl (hw _ wz_AL) (hw _ ml_A_1) (hw _ wi_AL_init) rfl (by decide +kernel) ⟨Nat.le_of_ble_eq_true rfl, Nat.le_of_ble_eq_true rfl⟩) ⟨qP_b, qP_p hPc hK hDc⟩ rfl rfl hl.1 rfl (lv_room (Nat.le_of_ble_eq_true rfl)) d_A_init_1 ⟨Nat.le_of_ble_eq_true rfl, Nat.le_of_ble_eq_true rfl⟩) (by rw [List.append_nil]; exact hP) (by rw [List.append_nil]; exact hD) hS hA [0] [] rfl rfl (by decide) (by decide) (fun _ H locs hr1 hP hD hS => ?_)
  have hP : va_P D gC ([(lo, .inr (0, [.null, .int 0, .int 0]))]) H := (by rw [List.append_nil] at hP; exact hP.sub [0] rfl)
  have hD : va_D A ([(lo, .inr (0, [.null, .int 0, .int 0]))]) := (by rw [List.append_nil] at hD; exact hD.sub [0] (by decide) rfl)
  refine lv_aload_n hx hb d_A_init_4 rfl (lv_at hl 0 rfl) ?_
  refine va_gets (v := .ref κ.2.2.1) hx hb hF.2.1.2.1 hS hown (hw _ fl_A_39) (fun _ h9 => h9) d_A_init_5 ?_
  refine va_put (D := D) (ci := 0) (v := .ref κ.2.2.1) (ty := .array (.object "java/lang/Object")) (C := "java/util/ArrayList") (T := F_A) (N := 3) hx hb hw in_A ty_A ty_A_ok n_A hown hK hP hD hS 0 rfl rfl 0 (by decide) (hw _ fl_A_9) (fun _ h9 => h9) rfl (by decide +kernel) rfl rfl (Nat.le_of_ble_eq_true rfl) d_A_init_8 (fun H locs hP hD hS => ?_)
  have hP : va_P D gC ([(lo, .inr (0, [.ref κ.2.2.1, .int 0, .int 0]))]) H := hP
  have hD : va_D A ([(lo, .inr (0, [.ref κ.2.2.1, .int 0, .int 0]))]) := hD
  exact W.vret hx hb hr (fun t ht hW => ⟨⟨(), rfl, trivial, by rw [ht]; exact hP, va_K.moved hW.alike hK, hD⟩, hS.F ht⟩) hS.2.2 d_A_init_11

set_option maxHeartbeats 4000000 in
set_option maxRecDepth 100000 in
theorem k_A_size (l : Launch) (D : va_G) (T : gT) (lo ea k : Nat) (md : Int32) : Met l y_A_size (Cond.code y_A_size b_A_size 1 (some .int) :: bg_W) ({ frames := 0, cells := 0, slots := 0, locals := 0 }) (sP D T ([(lo, .inr (0, [.ref ea, .int (nI k), .int md]))]) [.ref lo]) (vp_Si (fun r : Int32 => r = nI k)) 0 0 (fun _ => False) := by
  refine Met.ofW (cc := b_A_size) (maxL := 1) (ret := (some .int)) (by decide) rfl ?_
  intro p e s m args below meth c s₁ B hml hv
  obtain ⟨rfl, hP, hK⟩ := hv
  have hx := B.exec
  have hb := B.bytes
  have hr := B.returns
  have hw : ∀ w ∈ bg_W, w.before ([.ref lo] : List Value).toArray s = true := fun w h => atoms_spec (ws := (Cond.code y_A_size b_A_size 1 (some .int) :: bg_W)) B.pre w (List.mem_cons_of_mem _ h)
  have hown : s.vm.findClass "java/util/ArrayList" = some m.cls := findClass_of_methodNamed B.named
  have hlocks := B.notSynchronized
  have hl := lv_entry ([.ref lo]) (n := 1) (Nat.le_of_ble_eq_true rfl)
  rw [lg_entry_eq]
  generalize (lg_sl ([.ref lo]) ++ List.replicate (1 - (lg_sl ([.ref lo])).length) Slot.unset).toArray = ls at hl ⊢
  have hl : lv_has ls 1 [(0, .ref lo)] := hl
  refine lv_aload_n hx hb d_A_size_0 rfl (lv_at hl 0 rfl) ?_
  refine va_get (D := D) (ci := 0) (v := .int (nI k)) (C := "java/util/ArrayList") (T := F_A) (N := 3) hx hb hw in_A hown hK hP 0 rfl rfl 1 (by decide) (hw _ fl_A_48) (fun _ h9 => h9) rfl d_A_size_1 ?_
  exact W.iret (v := nI k) hx hb hr (fun t ht hW => ⟨nI k, rfl, rfl, ht⟩) (fun _ h => nomatch h) d_A_size_4

set_option maxHeartbeats 4000000 in
set_option maxRecDepth 100000 in
theorem k_A_elementData (l : Launch) (D : va_G) (T : gT) (lo ea k : Nat) (md : Int32) (n : Nat) (f : Nat → Option Nat) (j : Nat) (hy0 : j < n) (hy1 : n < 1000) : Met l y_A_elementData (Cond.code y_A_elementData b_A_elementData 2 (some (.object "java/lang/Object")) :: bg_W) ({ frames := 0, cells := 0, slots := 0, locals := 0 }) (sP D T ([(lo, .inr (0, [.ref ea, .int (nI k), .int md])), (ea, .inl (T.2.2.2, n, .inr (.inr (.inr (.inr f)))))]) [.ref lo, .int (nI j)]) (va_Sq (fun r : Option Nat => r = f j)) 0 0 (fun _ => False) := by
  refine Met.ofW (cc := b_A_elementData) (maxL := 2) (ret := (some (.object "java/lang/Object"))) (by decide) rfl ?_
  intro p e s m args below meth c s₁ B hml hv
  obtain ⟨rfl, hP, hK⟩ := hv
  have hx := B.exec
  have hb := B.bytes
  have hr := B.returns
  have hw : ∀ w ∈ bg_W, w.before ([.ref lo, .int (nI j)] : List Value).toArray s = true := fun w h => atoms_spec (ws := (Cond.code y_A_elementData b_A_elementData 2 (some (.object "java/lang/Object")) :: bg_W)) B.pre w (List.mem_cons_of_mem _ h)
  have hown : s.vm.findClass "java/util/ArrayList" = some m.cls := findClass_of_methodNamed B.named
  have hlocks := B.notSynchronized
  have hl := lv_entry ([.ref lo, .int (nI j)]) (n := 2) (Nat.le_of_ble_eq_true rfl)
  rw [lg_entry_eq]
  generalize (lg_sl ([.ref lo, .int (nI j)]) ++ List.replicate (2 - (lg_sl ([.ref lo, .int (nI j)])).length) Slot.unset).toArray = ls at hl ⊢
  have hl : lv_has ls 2 [(0, .ref lo), (1, .int (nI j))] := hl
  refine lv_aload_n hx hb d_A_elementData_0 rfl (lv_at hl 0 rfl) ?_
  refine va_get (D := D) (ci := 0) (v := .ref ea) (C := "java/util/ArrayList") (T := F_A) (N := 3) hx hb hw in_A hown hK hP 0 rfl rfl 0 (by decide) (hw _ fl_A_9) (fun _ h9 => h9) rfl d_A_elementData_1 ?_
  refine lv_iload_n hx hb d_A_elementData_4 rfl (lv_at hl 1 rfl) ?_
  refine va_aldq hx hb hK hP 1 3 rfl rfl (by first | assumption | exact vp_in_nI (by omega) (by omega)) d_A_elementData_5 ?_
  rw [show (nI j).toNatClampNeg = j from nI_clamp (by omega)]
  exact W.aret (v := va_rf (f j)) hx hb hr (Or.inl ⟨_, rfl⟩) (va_rfor _) (fun t ht hW => ⟨f j, rfl, rfl, ht⟩) (fun _ h => nomatch h) d_A_elementData_6

set_option maxHeartbeats 4000000 in
set_option maxRecDepth 100000 in
theorem k_A_get (l : Launch) (D : va_G) (T : gT) (lo ea k : Nat) (md : Int32) (n : Nat) (f : Nat → Option Nat) (j : Nat) (hy0 : j < k) (hy1 : k ≤ n) (hy2 : n < 1000) : Met l y_A_get (Cond.code y_A_get b_A_get 2 (some (.object "java/lang/Object")) :: bg_W) ({ frames := 2, cells := 0, slots := 0, locals := 43 }) (sP D T ([(lo, .inr (0, [.ref ea, .int (nI k), .int md])), (ea, .inl (T.2.2.2, n, .inr (.inr (.inr (.inr f)))))]) [.ref lo, .int (nI j)]) (va_Sq (fun r : Option Nat => r = f j)) 0 0 (fun _ => False) := by
  refine Met.ofW (cc := b_A_get) (maxL := 2) (ret := (some (.object "java/lang/Object"))) (by decide) rfl ?_
  intro p e s m args below meth c s₁ B hml hv
  obtain ⟨rfl, hP, hK⟩ := hv
  have hx := B.exec
  have hb := B.bytes
  have hr := B.returns
  have hw : ∀ w ∈ bg_W, w.before ([.ref lo, .int (nI j)] : List Value).toArray s = true := fun w h => atoms_spec (ws := (Cond.code y_A_get b_A_get 2 (some (.object "java/lang/Object")) :: bg_W)) B.pre w (List.mem_cons_of_mem _ h)
  have hown : s.vm.findClass "java/util/ArrayList" = some m.cls := findClass_of_methodNamed B.named
  have hlocks := B.notSynchronized
  have hl := lv_entry ([.ref lo, .int (nI j)]) (n := 2) (Nat.le_of_ble_eq_true rfl)
  rw [lg_entry_eq]
  generalize (lg_sl ([.ref lo, .int (nI j)]) ++ List.replicate (2 - (lg_sl ([.ref lo, .int (nI j)])).length) Slot.unset).toArray = ls at hl ⊢
  have hl : lv_has ls 2 [(0, .ref lo), (1, .int (nI j))] := hl
  refine lv_iload_n hx hb d_A_get_0 rfl (lv_at hl 1 rfl) ?_
  refine lv_aload_n hx hb d_A_get_1 rfl (lv_at hl 0 rfl) ?_
  refine va_get (D := D) (ci := 0) (v := .int (nI k)) (C := "java/util/ArrayList") (T := F_A) (N := 3) hx hb hw in_A hown hK hP 0 rfl rfl 1 (by decide) (hw _ fl_A_48) (fun _ h9 => h9) rfl d_A_get_2 ?_
  refine vp_callSi (va_Run.run (va_runS (As := [.int (nI j), .int (nI k)]) (rest := []) ⟨hx, hb, hml, hown, hw⟩ (k_O_checkIndex l j k hy0 (by omega)) (va_cwS 2 hw (bg_S ml_A_118 wt_O_checkIndex wz_O wc_O_checkIndex) rfl rfl rfl (by decide +kernel) ⟨Nat.le_of_ble_eq_true rfl, Nat.le_of_ble_eq_true rfl⟩) ⟨nP_b, nP_p⟩ rfl rfl hl.1 rfl (lv_room (Nat.le_of_ble_eq_true rfl)) d_A_get_5 ⟨Nat.le_of_ble_eq_true rfl, Nat.le_of_ble_eq_true rfl⟩)) (fun r1 hr1 => ?_)
  replace hr1 := hr1.symm; subst hr1
  refine lv_pop hx hb d_A_get_8 rfl ?_
  refine lv_aload_n hx hb d_A_get_9 rfl (lv_at hl 0 rfl) ?_
  refine lv_iload_n hx hb d_A_get_10 rfl (lv_at hl 1 rfl) ?_
  have hPc : va_P D gC ([(lo, .inr (0, [.ref ea, .int (nI k), .int md])), (ea, .inl (T.2.2.2, n, .inr (.inr (.inr (.inr f)))))]) s.heap := (pc1 (hP 0 _ rfl) (pc1 (hP 1 _ rfl) pc0))
  refine va_csq (va_Run.run (va_runV (As := [.int (nI j)]) (rest := []) ⟨hx, hb, hml, hown, hw⟩ (k_A_elementData l D T lo ea k md n f j (by omega) hy2) (cwV 1 hw (bg_V ml_A_123 wi_A_elementData wv_A_elementData wz_A wc_A_elementData) rfl rfl rfl (by decide +kernel) ⟨Nat.le_of_ble_eq_true rfl, Nat.le_of_ble_eq_true rfl⟩) ⟨sP_b, va_recv hK hPc (ci := 0) (q0 := 0) rfl rfl, sP_p hPc hK⟩ rfl rfl hl.1 rfl (lv_room (Nat.le_of_ble_eq_true rfl)) d_A_get_11 ⟨Nat.le_of_ble_eq_true rfl, Nat.le_of_ble_eq_true rfl⟩)) (fun r2 hr2 => ?_)
  replace hr2 := hr2.symm; subst hr2
  exact W.aret (v := va_rf (f j)) hx hb hr (Or.inl ⟨_, rfl⟩) (va_rfor _) (fun t ht hW => ⟨f j, rfl, rfl, ht⟩) (fun _ h => nomatch h) d_A_get_14

set_option maxHeartbeats 4000000 in
set_option maxRecDepth 100000 in
theorem k_A_grow_1_f (l : Launch) (D : va_G) (T : gT) (κ : gS) (lo : Nat) (md : Int32) (sz : Nat) : Met l y_A_grow_1 (Cond.code y_A_grow_1 b_A_grow_1 4 (some (.array (.object "java/lang/Object"))) :: bg_W) ({ frames := 1, cells := 1, slots := 10, locals := 17 }) (qPf κ D T ([(lo, .inr (0, [.ref κ.2.2.1, .int 0, .int md]))]) [.ref lo, .int 1] sz) (va_Qr (fun _u : Unit => True) (fun u9 ra t => qB D T (va_A ([(lo, .inr (0, [.ref κ.2.2.1, .int 0, .int md]))]) sz) (fun _u : Unit => [(lo, .inr (0, [.ref ra, .int 0, .int md])), (ra, .inl (T.2.2.2, 10, .inr (.inr (.inr (.inr (fun _ => none))))))]) u9 t) (va_A ([(lo, .inr (0, [.ref κ.2.2.1, .int 0, .int md]))]) sz)) 1 10 (va_A ([(lo, .inr (0, [.ref κ.2.2.1, .int 0, .int md]))]) sz) := by
  refine Met.ofW (cc := b_A_grow_1) (maxL := 4) (ret := (some (.array (.object "java/lang/Object")))) (by decide) rfl ?_
  intro p e s m args below meth c s₁ B hml hv
  obtain ⟨rfl, hsz, hP, hK, hD0, hF⟩ := hv
  have hx := B.exec
  have hb := B.bytes
  have hr := B.returns
  have hw : ∀ w ∈ bg_W, w.before ([.ref lo, .int 1] : List Value).toArray s = true := fun w h => atoms_spec (ws := (Cond.code y_A_grow_1 b_A_grow_1 4 (some (.array (.object "java/lang/Object"))) :: bg_W)) B.pre w (List.mem_cons_of_mem _ h)
  have hown : s.vm.findClass "java/util/ArrayList" = some m.cls := findClass_of_methodNamed B.named
  have hlocks := B.notSynchronized
  subst hsz
  have hD := hD0.self (sz := s.heap.size)
  generalize hAe : va_A ([(lo, .inr (0, [.ref κ.2.2.1, .int 0, .int md]))]) s.heap.size = A at hD hF ⊢
  have hA : ∀ q : Nat, s.heap.size ≤ q → A q := fun q h => by rw [← hAe]; exact Or.inr h
  have hS : va_S A s.heap s.heap [] := va_S.rf
  have hl := lv_entry ([.ref lo, .int 1]) (n := 4) (Nat.le_of_ble_eq_true rfl)
  rw [lg_entry_eq]
  generalize (lg_sl ([.ref lo, .int 1]) ++ List.replicate (4 - (lg_sl ([.ref lo, .int 1])).length) Slot.unset).toArray = ls at hl ⊢
  have hl : lv_has ls 4 [(0, .ref lo), (1, .int 1)] := hl
  refine lv_aload_n hx hb d_A_grow_1_0 rfl (lv_at hl 0 rfl) ?_
  refine va_get (D := D) (ci := 0) (v := .ref κ.2.2.1) (C := "java/util/ArrayList") (T := F_A) (N := 3) hx hb hw in_A hown hK hP 0 rfl rfl 0 (by decide) (hw _ fl_A_9) (fun _ h9 => h9) rfl d_A_grow_1_1 ?_
  refine va_tlen (v := 0) hx hb hF.2.1.2.2.1 hS rfl d_A_grow_1_4 ?_
  refine lv_istore_n (lv' := [(2, .int 0), (0, .ref lo), (1, .int 1)]) hx hb d_A_grow_1_5 rfl hl (by decide) rfl (fun ls hl => ?_)
  refine lv_iload_n hx hb d_A_grow_1_6 rfl (lv_at hl 0 rfl) ?_
  refine lv_if_gt (tgt := 20) hx hb d_A_grow_1_7 (by decide) (fun c1 => absurd c1 (by decide)) (fun c1 => ?_)
  refine lv_aload_n hx hb d_A_grow_1_10 rfl (lv_at hl 1 rfl) ?_
  refine va_get (D := D) (ci := 0) (v := .ref κ.2.2.1) (C := "java/util/ArrayList") (T := F_A) (N := 3) hx hb hw in_A hown hK hP 0 rfl rfl 0 (by decide) (hw _ fl_A_9) (fun _ h9 => h9) rfl d_A_grow_1_11 ?_
  refine va_gets (v := .ref κ.2.2.1) hx hb hF.2.1.2.1 hS hown (hw _ fl_A_39) (fun _ h9 => h9) d_A_grow_1_14 ?_
  refine lv_acmp_eq (rx := some κ.2.2.1) (ry := some κ.2.2.1) (tgt := 45) hx hb d_A_grow_1_17 (by decide) (fun _ => ?_) (fun h9 => absurd rfl h9)
  refine lv_aload_n hx hb d_A_grow_1_45 rfl (lv_at hl 1 rfl) ?_
  refine lv_bipush (v := 10) hx hb d_A_grow_1_46 (by decide) ?_
  refine lv_iload_n hx hb d_A_grow_1_48 rfl (lv_at hl 2 rfl) ?_
  refine va_mmax hx hb (hml.trans hl.1.symm) hown (hw _ ml_A_79) (hw _ wt_MA_max) (hw _ wz_MA) (hw _ wc_MA_max) (Nat.le_of_ble_eq_true rfl) (Nat.le_of_ble_eq_true rfl) (Nat.le_of_ble_eq_true rfl) (Nat.le_of_ble_eq_true rfl) d_A_grow_1_49 ?_
  rw [show (if (10 : Int32) < 1 then (1 : Int32) else 10) = 10 from by decide]
  refine g_newq (N' := 10) hx hb hown (hw _ kl_A_7) hF.2.2.1.2.1 hK hP hD hS hA (by decide) (by decide) (by decide) (Nat.le_of_ble_eq_true rfl) (Nat.le_of_ble_eq_true rfl) d_A_grow_1_52 (fun q2 H hP hD hS => ?_)
  have hP : va_P D gC ([(lo, .inr (0, [.ref κ.2.2.1, .int 0, .int md])), (q2, .inl (T.2.2.2, 10, .inr (.inr (.inr (.inr (fun _ => none))))))]) H := hP
  have hD : va_D A ([(lo, .inr (0, [.ref κ.2.2.1, .int 0, .int md])), (q2, .inl (T.2.2.2, 10, .inr (.inr (.inr (.inr (fun _ => none))))))]) := hD
  refine W.widen (k := 1) (n := 10) (by omega) (by omega) ?_
  refine lv_dup_x1 hx hb d_A_grow_1_55 rfl rfl ?_
  refine va_put (D := D) (ci := 0) (v := .ref q2) (ty := .array (.object "java/lang/Object")) (C := "java/util/ArrayList") (T := F_A) (N := 3) hx hb hw in_A ty_A ty_A_ok n_A hown hK hP hD hS 0 rfl rfl 0 (by decide) (hw _ fl_A_9) (fun _ h9 => h9) rfl (by decide +kernel) rfl rfl (Nat.le_of_ble_eq_true rfl) d_A_grow_1_56 (fun H locs hP hD hS => ?_)
  have hP : va_P D gC ([(lo, .inr (0, [.ref q2, .int 0, .int md])), (q2, .inl (T.2.2.2, 10, .inr (.inr (.inr (.inr (fun _ => none))))))]) H := hP
  have hD : va_D A ([(lo, .inr (0, [.ref q2, .int 0, .int md])), (q2, .inl (T.2.2.2, 10, .inr (.inr (.inr (.inr (fun _ => none))))))]) := hD
  exact W.aret (v := .ref q2) hx hb hr (Or.inr ⟨_, rfl⟩) (Or.inr ⟨_, rfl⟩) (fun t ht hW => ⟨⟨(), q2, rfl, trivial, by rw [ht]; exact hP, va_K.moved hW.alike hK, hD⟩, hS.F ht⟩) hS.2.2 d_A_grow_1_59

set_option maxHeartbeats 4000000 in
set_option maxRecDepth 100000 in
theorem k_A_grow_0_f (l : Launch) (D : va_G) (T : gT) (κ : gS) (lo : Nat) (md : Int32) (sz : Nat) : Met l y_A_grow_0 (Cond.code y_A_grow_0 b_A_grow_0 1 (some (.array (.object "java/lang/Object"))) :: bg_W) ({ frames := 2, cells := 1, slots := 10, locals := 40 }) (qPf κ D T ([(lo, .inr (0, [.ref κ.2.2.1, .int 0, .int md]))]) [.ref lo] sz) (va_Qr (fun _u : Unit => True) (fun u9 ra t => qB D T (va_A ([(lo, .inr (0, [.ref κ.2.2.1, .int 0, .int md]))]) sz) (fun _u : Unit => [(lo, .inr (0, [.ref ra, .int 0, .int md])), (ra, .inl (T.2.2.2, 10, .inr (.inr (.inr (.inr (fun _ => none))))))]) u9 t) (va_A ([(lo, .inr (0, [.ref κ.2.2.1, .int 0, .int md]))]) sz)) 1 10 (va_A ([(lo, .inr (0, [.ref κ.2.2.1, .int 0, .int md]))]) sz) := by
  refine Met.ofW (cc := b_A_grow_0) (maxL := 1) (ret := (some (.array (.object "java/lang/Object")))) (by decide) rfl ?_
  intro p e s m args below meth c s₁ B hml hv
  obtain ⟨rfl, hsz, hP, hK, hD0, hF⟩ := hv
  have hx := B.exec
  have hb := B.bytes
  have hr := B.returns
  have hw : ∀ w ∈ bg_W, w.before ([.ref lo] : List Value).toArray s = true := fun w h => atoms_spec (ws := (Cond.code y_A_grow_0 b_A_grow_0 1 (some (.array (.object "java/lang/Object"))) :: bg_W)) B.pre w (List.mem_cons_of_mem _ h)
  have hown : s.vm.findClass "java/util/ArrayList" = some m.cls := findClass_of_methodNamed B.named
  have hlocks := B.notSynchronized
  subst hsz
  have hD := hD0.self (sz := s.heap.size)
  generalize hAe : va_A ([(lo, .inr (0, [.ref κ.2.2.1, .int 0, .int md]))]) s.heap.size = A at hD hF ⊢
  have hA : ∀ q : Nat, s.heap.size ≤ q → A q := fun q h => by rw [← hAe]; exact Or.inr h
  have hS : va_S A s.heap s.heap [] := va_S.rf
  have hl := lv_entry ([.ref lo]) (n := 1) (Nat.le_of_ble_eq_true rfl)
  rw [lg_entry_eq]
  generalize (lg_sl ([.ref lo]) ++ List.replicate (1 - (lg_sl ([.ref lo])).length) Slot.unset).toArray = ls at hl ⊢
  have hl : lv_has ls 1 [(0, .ref lo)] := hl
  refine lv_aload_n hx hb d_A_grow_0_0 rfl (lv_at hl 0 rfl) ?_
  refine lv_aload_n hx hb d_A_grow_0_1 rfl (lv_at hl 0 rfl) ?_
  refine va_get (D := D) (ci := 0) (v := .int 0) (C := "java/util/ArrayList") (T := F_A) (N := 3) hx hb hw in_A hown hK hP 0 rfl rfl 1 (by decide) (hw _ fl_A_48) (fun _ h9 => h9) rfl d_A_grow_0_2 ?_
  refine lv_iconst (v := 1) hx hb d_A_grow_0_5 (by decide) ?_
  refine lv_iadd hx hb d_A_grow_0_6 ?_
  rw [show (0 : Int32) + 1 = 1 from by decide]
  have hPc : va_P D gC ([(lo, .inr (0, [.ref κ.2.2.1, .int 0, .int md]))]) s.heap := (pc1 (hP 0 _ rfl) pc0)
  have hDc : va_D A ([(lo, .inr (0, [.ref κ.2.2.1, .int 0, .int md]))]) := hD.sub (ws' := [(lo, .inr (0, [.ref κ.2.2.1, .int 0, .int md]))]) [0] (by decide) rfl
  refine g_subr (X := [(lo, .inr (0, [.ref κ.2.2.1, .int 0, .int md]))]) (pl := []) (wr := []) (cx := [(lo, .inr (0, [.ref κ.2.2.1, .int 0, .int md]))]) (va_runV (As := [.int 1]) (rest := []) ⟨hx, hb, hml, hown, hw⟩ (k_A_grow_1_f l D T κ lo md s.heap.size) (cwV 1 hw (bg_V ml_A_69 wi_A_grow_1 wv_A_grow_1 wz_A wc_A_grow_1) rfl rfl rfl (by decide +kernel) ⟨Nat.le_of_ble_eq_true rfl, Nat.le_of_ble_eq_true rfl⟩) ⟨qPf_b, va_recv hK hPc (ci := 0) (q0 := 0) rfl rfl, qPf_p hPc hK hDc hF hS (g_free hDc hS hA)⟩ rfl rfl hl.1 rfl (lv_room (Nat.le_of_ble_eq_true rfl)) d_A_grow_0_7 ⟨Nat.le_of_ble_eq_true rfl, Nat.le_of_ble_eq_true rfl⟩) (by rw [List.append_nil]; exact hP) (by rw [List.append_nil]; exact hD) hS hA [0] [] rfl rfl (by decide) (by decide) (fun _ r1 H locs hr1 hP hD hS => ?_)
  have hP : va_P D gC ([(lo, .inr (0, [.ref r1, .int 0, .int md])), (r1, .inl (T.2.2.2, 10, .inr (.inr (.inr (.inr (fun _ => none))))))]) H := (by rw [List.append_nil] at hP; exact hP.sub [0, 1] rfl)
  have hD : va_D A ([(lo, .inr (0, [.ref r1, .int 0, .int md])), (r1, .inl (T.2.2.2, 10, .inr (.inr (.inr (.inr (fun _ => none))))))]) := (by rw [List.append_nil] at hD; exact hD.sub [0, 1] (by decide) rfl)
  exact W.aret (v := .ref r1) hx hb hr (Or.inr ⟨_, rfl⟩) (Or.inr ⟨_, rfl⟩) (fun t ht hW => ⟨⟨(), r1, rfl, trivial, by rw [ht]; exact hP, va_K.moved hW.alike hK, hD⟩, hS.F ht⟩) hS.2.2 d_A_grow_0_10

set_option maxHeartbeats 4000000 in
set_option maxRecDepth 100000 in
theorem k_A_add_1_f (l : Launch) (D : va_G) (T : gT) (κ : gS) (lo : Nat) (md : Int32) (pl : va_W) (sz : Nat) (qe : Nat) (hy0 : isOb pl qe) : Met l y_A_add_1 (Cond.code y_A_add_1 b_A_add_1 4 none :: bg_W) ({ frames := 3, cells := 1, slots := 10, locals := 60 }) (qPf κ D T ([(lo, .inr (0, [.ref κ.2.2.1, .int 0, .int md]))] ++ pl) [.ref lo, .ref qe, .ref κ.2.2.1, .int 0] sz) (va_Qv (fun ra : Nat => True) (qB D T (va_A ([(lo, .inr (0, [.ref κ.2.2.1, .int 0, .int md]))] ++ pl) sz) (fun ra : Nat => [(lo, .inr (0, [.ref ra, .int 1, .int md])), (ra, .inl (T.2.2.2, 10, .inr (.inr (.inr (.inr (va_up (fun _ => none) 0 (some qe)))))))] ++ pl)) (va_A ([(lo, .inr (0, [.ref κ.2.2.1, .int 0, .int md]))] ++ pl) sz)) 1 10 (va_A ([(lo, .inr (0, [.ref κ.2.2.1, .int 0, .int md]))] ++ pl) sz) := by
  refine Met.ofW (cc := b_A_add_1) (maxL := 4) (ret := none) (by decide) rfl ?_
  intro p e s m args below meth c s₁ B hml hv
  obtain ⟨rfl, hsz, hP, hK, hD0, hF⟩ := hv
  have hx := B.exec
  have hb := B.bytes
  have hr := B.returns
  have hw : ∀ w ∈ bg_W, w.before ([.ref lo, .ref qe, .ref κ.2.2.1, .int 0] : List Value).toArray s = true := fun w h => atoms_spec (ws := (Cond.code y_A_add_1 b_A_add_1 4 none :: bg_W)) B.pre w (List.mem_cons_of_mem _ h)
  have hown : s.vm.findClass "java/util/ArrayList" = some m.cls := findClass_of_methodNamed B.named
  have hlocks := B.notSynchronized
  subst hsz
  have hD := hD0.self (sz := s.heap.size)
  generalize hAe : va_A ([(lo, .inr (0, [.ref κ.2.2.1, .int 0, .int md]))] ++ pl) s.heap.size = A at hD hF ⊢
  have hA : ∀ q : Nat, s.heap.size ≤ q → A q := fun q h => by rw [← hAe]; exact Or.inr h
  have hS : va_S A s.heap s.heap [] := va_S.rf
  have hl := lv_entry ([.ref lo, .ref qe, .ref κ.2.2.1, .int 0]) (n := 4) (Nat.le_of_ble_eq_true rfl)
  rw [lg_entry_eq]
  generalize (lg_sl ([.ref lo, .ref qe, .ref κ.2.2.1, .int 0]) ++ List.replicate (4 - (lg_sl ([.ref lo, .ref qe, .ref κ.2.2.1, .int 0])).length) Slot.unset).toArray = ls at hl ⊢
  have hl : lv_has ls 4 [(0, .ref lo), (1, .ref qe), (2, .ref κ.2.2.1), (3, .int 0)] := hl
  refine lv_iload_n hx hb d_A_add_1_0 rfl (lv_at hl 3 rfl) ?_
  refine lv_aload_n hx hb d_A_add_1_1 rfl (lv_at hl 2 rfl) ?_
  refine va_tlen (v := 0) hx hb hF.2.1.2.2.1 hS rfl d_A_add_1_2 ?_
  refine lv_icmp_ne (tgt := 11) hx hb d_A_add_1_3 (by decide) (fun c1 => absurd c1 (by decide)) (fun c1 => ?_)
  refine lv_aload_n hx hb d_A_add_1_6 rfl (lv_at hl 0 rfl) ?_
  have hPc : va_P D gC ([(lo, .inr (0, [.ref κ.2.2.1, .int 0, .int md]))]) s.heap := (pc1 (hP 0 _ rfl) pc0)
  have hDc : va_D A ([(lo, .inr (0, [.ref κ.2.2.1, .int 0, .int md]))]) := by have h9 := hD.part (cx := [(lo, .inr (0, [.ref κ.2.2.1, .int 0, .int md]))]) [0] (by decide) rfl; exact dl_l h9
  refine g_subr (X := [(lo, .inr (0, [.ref κ.2.2.1, .int 0, .int md]))]) (pl := pl) (wr := []) (cx := [(lo, .inr (0, [.ref κ.2.2.1, .int 0, .int md]))]) (va_runV (As := []) (rest := []) ⟨hx, hb, hml, hown, hw⟩ (k_A_grow_0_f l D T κ lo md s.heap.size) (cwV 0 hw (bg_V ml_A_129 wi_A_grow_0 wv_A_grow_0 wz_A wc_A_grow_0) rfl rfl rfl (by decide +kernel) ⟨Nat.le_of_ble_eq_true rfl, Nat.le_of_ble_eq_true rfl⟩) ⟨qPf_b, va_recv hK hPc (ci := 0) (q0 := 0) rfl rfl, qPf_p hPc hK hDc hF hS (g_free hDc hS hA)⟩ rfl rfl hl.1 rfl (lv_room (Nat.le_of_ble_eq_true rfl)) d_A_add_1_7 ⟨Nat.le_of_ble_eq_true rfl, Nat.le_of_ble_eq_true rfl⟩) hP hD hS hA [0] [] rfl rfl (by decide) (by decide) (fun _ r2 H locs hr2 hP hD hS => ?_)
  have hP : va_P D gC ([(lo, .inr (0, [.ref r2, .int 0, .int md])), (r2, .inl (T.2.2.2, 10, .inr (.inr (.inr (.inr (fun _ => none))))))] ++ pl) H := hP.part (cx := [(lo, .inr (0, [.ref r2, .int 0, .int md])), (r2, .inl (T.2.2.2, 10, .inr (.inr (.inr (.inr (fun _ => none))))))]) [0, 1] rfl
  have hD : va_D A ([(lo, .inr (0, [.ref r2, .int 0, .int md])), (r2, .inl (T.2.2.2, 10, .inr (.inr (.inr (.inr (fun _ => none))))))] ++ pl) := hD.part (cx := [(lo, .inr (0, [.ref r2, .int 0, .int md])), (r2, .inl (T.2.2.2, 10, .inr (.inr (.inr (.inr (fun _ => none))))))]) [0, 1] (by decide) rfl
  refine lv_astore_n (lv' := [(2, .ref r2), (0, .ref lo), (1, .ref qe), (3, .int 0)]) hx hb d_A_add_1_10 rfl hl (by decide) rfl (fun ls hl => ?_)
  refine lv_aload_n hx hb d_A_add_1_11 rfl (lv_at hl 0 rfl) ?_
  refine lv_iload_n hx hb d_A_add_1_12 rfl (lv_at hl 3 rfl) ?_
  refine lv_aload_n hx hb d_A_add_1_13 rfl (lv_at hl 2 rfl) ?_
  refine va_astqM hx hb hK hP hD hS 1 3 rfl rfl (ob_any hK hF hP (fun q9 h9 => List.mem_append_right _ h9) hy0) (vp_in_nI (n := 0) (by decide) (by decide)) d_A_add_1_14 (fun H locs hP hD hS => ?_)
  rw [show (0 : Int32).toNatClampNeg = 0 from by decide] at hP hD
  have hP : va_P D gC ([(lo, .inr (0, [.ref r2, .int 0, .int md])), (r2, .inl (T.2.2.2, 10, .inr (.inr (.inr (.inr (va_up (fun _ => none) 0 (some qe)))))))] ++ pl) H := hP
  have hD : va_D A ([(lo, .inr (0, [.ref r2, .int 0, .int md])), (r2, .inl (T.2.2.2, 10, .inr (.inr (.inr (.inr (va_up (fun _ => none) 0 (some qe)))))))] ++ pl) := hD
  refine lv_aload_n hx hb d_A_add_1_15 rfl (lv_at hl 1 rfl) ?_
  refine lv_iload_n hx hb d_A_add_1_16 rfl (lv_at hl 3 rfl) ?_
  refine lv_iconst (v := 1) hx hb d_A_add_1_17 (by decide) ?_
  refine lv_iadd hx hb d_A_add_1_18 ?_
  rw [show (0 : Int32) + 1 = 1 from by decide]
  refine va_put (D := D) (ci := 0) (v := .int 1) (ty := .int) (C := "java/util/ArrayList") (T := F_A) (N := 3) hx hb hw in_A ty_A ty_A_ok n_A hown hK hP hD hS 0 rfl rfl 1 (by decide) (hw _ fl_A_48) (fun _ h9 => h9) rfl (by decide +kernel) rfl rfl (Nat.le_of_ble_eq_true rfl) d_A_add_1_19 (fun H locs hP hD hS => ?_)
  have hP : va_P D gC ([(lo, .inr (0, [.ref r2, .int 1, .int md])), (r2, .inl (T.2.2.2, 10, .inr (.inr (.inr (.inr (va_up (fun _ => none) 0 (some qe)))))))] ++ pl) H := hP
  have hD : va_D A ([(lo, .inr (0, [.ref r2, .int 1, .int md])), (r2, .inl (T.2.2.2, 10, .inr (.inr (.inr (.inr (va_up (fun _ => none) 0 (some qe)))))))] ++ pl) := hD
  exact W.vret hx hb hr (fun t ht hW => ⟨⟨r2, rfl, trivial, by rw [ht]; exact hP, va_K.moved hW.alike hK, hD⟩, hS.F ht⟩) hS.2.2 d_A_add_1_22

set_option maxHeartbeats 4000000 in
set_option maxRecDepth 100000 in
theorem k_A_add_1_r (l : Launch) (D : va_G) (T : gT) (κ : gS) (lo ea k : Nat) (md : Int32) (n : Nat) (f : Nat → Option Nat) (pl : va_W) (sz : Nat) (qe : Nat) (hy0 : isOb pl qe) (hy1 : k < n) (hy2 : n < 1000) : Met l y_A_add_1 (Cond.code y_A_add_1 b_A_add_1 4 none :: bg_W) ({ frames := 0, cells := 0, slots := 0, locals := 0 }) (qPf κ D T ([(lo, .inr (0, [.ref ea, .int (nI k), .int md])), (ea, .inl (T.2.2.2, n, .inr (.inr (.inr (.inr f)))))] ++ pl) [.ref lo, .ref qe, .ref ea, .int (nI k)] sz) (va_Qv (fun _u : Unit => True) (qB D T (va_A ([(lo, .inr (0, [.ref ea, .int (nI k), .int md])), (ea, .inl (T.2.2.2, n, .inr (.inr (.inr (.inr f)))))] ++ pl) sz) (fun _u : Unit => [(lo, .inr (0, [.ref ea, .int (nI (k + 1)), .int md])), (ea, .inl (T.2.2.2, n, .inr (.inr (.inr (.inr (va_up f k (some qe)))))))] ++ pl)) (va_A ([(lo, .inr (0, [.ref ea, .int (nI k), .int md])), (ea, .inl (T.2.2.2, n, .inr (.inr (.inr (.inr f)))))] ++ pl) sz)) 0 0 (va_A ([(lo, .inr (0, [.ref ea, .int (nI k), .int md])), (ea, .inl (T.2.2.2, n, .inr (.inr (.inr (.inr f)))))] ++ pl) sz) := by
  refine Met.ofW (cc := b_A_add_1) (maxL := 4) (ret := none) (by decide) rfl ?_
  intro p e s m args below meth c s₁ B hml hv
  obtain ⟨rfl, hsz, hP, hK, hD0, hF⟩ := hv
  have hx := B.exec
  have hb := B.bytes
  have hr := B.returns
  have hw : ∀ w ∈ bg_W, w.before ([.ref lo, .ref qe, .ref ea, .int (nI k)] : List Value).toArray s = true := fun w h => atoms_spec (ws := (Cond.code y_A_add_1 b_A_add_1 4 none :: bg_W)) B.pre w (List.mem_cons_of_mem _ h)
  have hown : s.vm.findClass "java/util/ArrayList" = some m.cls := findClass_of_methodNamed B.named
  have hlocks := B.notSynchronized
  subst hsz
  have hD := hD0.self (sz := s.heap.size)
  generalize hAe : va_A ([(lo, .inr (0, [.ref ea, .int (nI k), .int md])), (ea, .inl (T.2.2.2, n, .inr (.inr (.inr (.inr f)))))] ++ pl) s.heap.size = A at hD hF ⊢
  have hA : ∀ q : Nat, s.heap.size ≤ q → A q := fun q h => by rw [← hAe]; exact Or.inr h
  have hS : va_S A s.heap s.heap [] := va_S.rf
  have hl := lv_entry ([.ref lo, .ref qe, .ref ea, .int (nI k)]) (n := 4) (Nat.le_of_ble_eq_true rfl)
  rw [lg_entry_eq]
  generalize (lg_sl ([.ref lo, .ref qe, .ref ea, .int (nI k)]) ++ List.replicate (4 - (lg_sl ([.ref lo, .ref qe, .ref ea, .int (nI k)])).length) Slot.unset).toArray = ls at hl ⊢
  have hl : lv_has ls 4 [(0, .ref lo), (1, .ref qe), (2, .ref ea), (3, .int (nI k))] := hl
  refine lv_iload_n hx hb d_A_add_1_0 rfl (lv_at hl 3 rfl) ?_
  refine lv_aload_n hx hb d_A_add_1_1 rfl (lv_at hl 2 rfl) ?_
  refine va_alen hx hb hK hP 1 3 rfl rfl (v := nI n) rfl d_A_add_1_2 ?_
  refine lv_icmp_ne (tgt := 11) hx hb d_A_add_1_3 (by decide) (fun c1 => ?_) (fun c1 => absurd c1 ((fun h9 => absurd ((nI_eq (by omega) (by omega)).mp h9) (by omega))))
  refine lv_aload_n hx hb d_A_add_1_11 rfl (lv_at hl 2 rfl) ?_
  refine lv_iload_n hx hb d_A_add_1_12 rfl (lv_at hl 3 rfl) ?_
  refine lv_aload_n hx hb d_A_add_1_13 rfl (lv_at hl 1 rfl) ?_
  refine va_astqM hx hb hK hP hD hS 1 3 rfl rfl (ob_any hK hF hP (fun q9 h9 => List.mem_append_right _ h9) hy0) (by first | assumption | exact vp_in_nI (by omega) (by omega)) d_A_add_1_14 (fun H locs hP hD hS => ?_)
  rw [show (nI k).toNatClampNeg = k from nI_clamp (by omega)] at hP hD
  have hP : va_P D gC ([(lo, .inr (0, [.ref ea, .int (nI k), .int md])), (ea, .inl (T.2.2.2, n, .inr (.inr (.inr (.inr (va_up f k (some qe)))))))] ++ pl) H := hP
  have hD : va_D A ([(lo, .inr (0, [.ref ea, .int (nI k), .int md])), (ea, .inl (T.2.2.2, n, .inr (.inr (.inr (.inr (va_up f k (some qe)))))))] ++ pl) := hD
  refine lv_aload_n hx hb d_A_add_1_15 rfl (lv_at hl 0 rfl) ?_
  refine lv_iload_n hx hb d_A_add_1_16 rfl (lv_at hl 3 rfl) ?_
  refine lv_iconst (v := 1) hx hb d_A_add_1_17 (by decide) ?_
  refine lv_iadd hx hb d_A_add_1_18 ?_
  rw [nI_1]
  refine va_put (D := D) (ci := 0) (v := .int (nI (k + 1))) (ty := .int) (C := "java/util/ArrayList") (T := F_A) (N := 3) hx hb hw in_A ty_A ty_A_ok n_A hown hK hP hD hS 0 rfl rfl 1 (by decide) (hw _ fl_A_48) (fun _ h9 => h9) rfl (by decide +kernel) rfl rfl (Nat.le_of_ble_eq_true rfl) d_A_add_1_19 (fun H locs hP hD hS => ?_)
  have hP : va_P D gC ([(lo, .inr (0, [.ref ea, .int (nI (k + 1)), .int md])), (ea, .inl (T.2.2.2, n, .inr (.inr (.inr (.inr (va_up f k (some qe)))))))] ++ pl) H := hP
  have hD : va_D A ([(lo, .inr (0, [.ref ea, .int (nI (k + 1)), .int md])), (ea, .inl (T.2.2.2, n, .inr (.inr (.inr (.inr (va_up f k (some qe)))))))] ++ pl) := hD
  exact W.vret hx hb hr (fun t ht hW => ⟨⟨(), rfl, trivial, by rw [ht]; exact hP, va_K.moved hW.alike hK, hD⟩, hS.F ht⟩) hS.2.2 d_A_add_1_22

set_option maxHeartbeats 4000000 in
set_option maxRecDepth 100000 in
theorem k_AS_newLength (l : Launch) (n : Nat) (hy0 : 10 ≤ n) (hy1 : n ≤ 100) : Met l y_AS_newLength (Cond.code y_AS_newLength b_AS_newLength 4 (some .int) :: bg_W) ({ frames := 1, cells := 0, slots := 0, locals := 17 }) (nP [.int (nI n), .int 1, .int (nI (n / 2))]) (vp_Si (fun r : Int32 => r = nI (n + n / 2))) 0 0 (fun _ => False) := by
  refine Met.ofW (cc := b_AS_newLength) (maxL := 4) (ret := (some .int)) (by decide) rfl ?_
  intro p e s m args below meth c s₁ B hml hv
  obtain ⟨rfl, -⟩ := hv
  have hx := B.exec
  have hb := B.bytes
  have hr := B.returns
  have hw : ∀ w ∈ bg_W, w.before ([.int (nI n), .int 1, .int (nI (n / 2))] : List Value).toArray s = true := fun w h => atoms_spec (ws := (Cond.code y_AS_newLength b_AS_newLength 4 (some .int) :: bg_W)) B.pre w (List.mem_cons_of_mem _ h)
  have hown : s.vm.findClass "jdk/internal/util/ArraysSupport" = some m.cls := findClass_of_methodNamed B.named
  have hlocks := B.notSynchronized
  have hl := lv_entry ([.int (nI n), .int 1, .int (nI (n / 2))]) (n := 4) (Nat.le_of_ble_eq_true rfl)
  rw [lg_entry_eq]
  generalize (lg_sl ([.int (nI n), .int 1, .int (nI (n / 2))]) ++ List.replicate (4 - (lg_sl ([.int (nI n), .int 1, .int (nI (n / 2))])).length) Slot.unset).toArray = ls at hl ⊢
  have hl : lv_has ls 4 [(0, .int (nI n)), (1, .int 1), (2, .int (nI (n / 2)))] := hl
  refine lv_iload_n hx hb d_AS_newLength_0 rfl (lv_at hl 0 rfl) ?_
  refine lv_iload_n hx hb d_AS_newLength_1 rfl (lv_at hl 1 rfl) ?_
  refine lv_iload_n hx hb d_AS_newLength_2 rfl (lv_at hl 2 rfl) ?_
  refine va_mmax hx hb (hml.trans hl.1.symm) hown (hw _ ml_AS_194) (hw _ wt_MA_max) (hw _ wz_MA) (hw _ wc_MA_max) (Nat.le_of_ble_eq_true rfl) (Nat.le_of_ble_eq_true rfl) (Nat.le_of_ble_eq_true rfl) (Nat.le_of_ble_eq_true rfl) d_AS_newLength_3 ?_
  rw [nl_max hy0 hy1]
  refine lv_iadd hx hb d_AS_newLength_6 ?_
  rw [show (nI n) + (nI (n / 2)) = nI (n + (n / 2)) from nI_add n (n / 2)]
  refine lv_istore_n (lv' := [(3, .int (nI (n + (n / 2)))), (0, .int (nI n)), (1, .int 1), (2, .int (nI (n / 2)))]) hx hb d_AS_newLength_7 rfl hl (by decide) rfl (fun ls hl => ?_)
  refine lv_iconst (v := 0) hx hb d_AS_newLength_8 (by decide) ?_
  refine lv_iload_n hx hb d_AS_newLength_9 rfl (lv_at hl 0 rfl) ?_
  refine lv_icmp_ge (tgt := 21) hx hb d_AS_newLength_10 (by decide) (fun c1 => absurd c1 ((show ¬ nI (n + n / 2) ≤ nI 0 from nI_nle (by omega) (by omega)))) (fun c1 => ?_)
  refine lv_iload_n hx hb d_AS_newLength_13 rfl (lv_at hl 0 rfl) ?_
  refine lv_ldc (v := 2147483639) hx hb hown (hw _ ci_AS_200) d_AS_newLength_14 ?_
  refine lv_icmp_gt (tgt := 21) hx hb d_AS_newLength_16 (by decide) (fun c2 => absurd c2 ((nI_nlt (a := 2147483639) (by omega) (by decide)))) (fun c2 => ?_)
  refine lv_iload_n hx hb d_AS_newLength_19 rfl (lv_at hl 0 rfl) ?_
  exact W.iret (v := nI (n + (n / 2))) hx hb hr (fun t ht hW => ⟨nI (n + (n / 2)), rfl, rfl, ht⟩) (fun _ h => nomatch h) d_AS_newLength_20

theorem ob_arr {D : va_G} {T : gT} {s : State} {H : Heap} {ea n : Nat} {f : Nat → Option Nat} (hK : gK D T s) (h : va_at D gC (ea, .inl (T.2.2.2, n, .inr (.inr (.inr (.inr f))))) H) : ∃ cell : Cell, H[ea]? = some cell ∧ cell.vm.isStatics = false ∧ s.vm.findClass "[Ljava/lang/Object;" = some cell.cls := by
  obtain ⟨-, -, -, -, -, e1⟩ := (hK.2 3 _ rfl).2
  exact ⟨_, h, rfl, e1⟩
set_option maxHeartbeats 4000000 in
set_option maxRecDepth 100000 in
theorem k_AR_copyOf_1 (l : Launch) (D : va_G) (T : gT) (κ : gS) (lo ea k : Nat) (md : Int32) (n : Nat) (f : Nat → Option Nat) (pl : va_W) (sz : Nat) (hy0 : 10 ≤ n) (hy1 : n ≤ 60) (hy2 : ∀ i, i < n → ∀ y, f i = some y → isOb pl y) : Met l y_AR_copyOf_1 (Cond.code y_AR_copyOf_1 b_AR_copyOf_1 4 (some (.array (.object "java/lang/Object"))) :: bg_W) ({ frames := 1, cells := 1, slots := 90, locals := 40 }) (qPf κ D T ([(lo, .inr (0, [.ref ea, .int (nI k), .int md])), (ea, .inl (T.2.2.2, n, .inr (.inr (.inr (.inr f)))))] ++ pl) [.ref ea, .int (nI (n + n / 2)), .ref κ.2.2.2.2] sz) (va_Qr (fun _u : Unit => True) (fun u9 ra t => qB D T (va_A ([(lo, .inr (0, [.ref ea, .int (nI k), .int md])), (ea, .inl (T.2.2.2, n, .inr (.inr (.inr (.inr f)))))] ++ pl) sz) (fun _u : Unit => [(lo, .inr (0, [.ref ea, .int (nI k), .int md])), (ea, .inl (T.2.2.2, n, .inr (.inr (.inr (.inr f))))), (ra, .inl (T.2.2.2, (n + n / 2), .inr (.inr (.inr (.inr (va_cpy f (fun _ => none) 0 0 n))))))] ++ pl) u9 t) (va_A ([(lo, .inr (0, [.ref ea, .int (nI k), .int md])), (ea, .inl (T.2.2.2, n, .inr (.inr (.inr (.inr f)))))] ++ pl) sz)) 1 90 (va_A ([(lo, .inr (0, [.ref ea, .int (nI k), .int md])), (ea, .inl (T.2.2.2, n, .inr (.inr (.inr (.inr f)))))] ++ pl) sz) := by
  refine Met.ofW (cc := b_AR_copyOf_1) (maxL := 4) (ret := (some (.array (.object "java/lang/Object")))) (by decide) rfl ?_
  intro p e s m args below meth c s₁ B hml hv
  obtain ⟨rfl, hsz, hP, hK, hD0, hF⟩ := hv
  have hx := B.exec
  have hb := B.bytes
  have hr := B.returns
  have hw : ∀ w ∈ bg_W, w.before ([.ref ea, .int (nI (n + n / 2)), .ref κ.2.2.2.2] : List Value).toArray s = true := fun w h => atoms_spec (ws := (Cond.code y_AR_copyOf_1 b_AR_copyOf_1 4 (some (.array (.object "java/lang/Object"))) :: bg_W)) B.pre w (List.mem_cons_of_mem _ h)
  have hown : s.vm.findClass "java/util/Arrays" = some m.cls := findClass_of_methodNamed B.named
  have hlocks := B.notSynchronized
  subst hsz
  have hD := hD0.self (sz := s.heap.size)
  generalize hAe : va_A ([(lo, .inr (0, [.ref ea, .int (nI k), .int md])), (ea, .inl (T.2.2.2, n, .inr (.inr (.inr (.inr f)))))] ++ pl) s.heap.size = A at hD hF ⊢
  have hA : ∀ q : Nat, s.heap.size ≤ q → A q := fun q h => by rw [← hAe]; exact Or.inr h
  have hS : va_S A s.heap s.heap [] := va_S.rf
  have hl := lv_entry ([.ref ea, .int (nI (n + n / 2)), .ref κ.2.2.2.2]) (n := 4) (Nat.le_of_ble_eq_true rfl)
  rw [lg_entry_eq]
  generalize (lg_sl ([.ref ea, .int (nI (n + n / 2)), .ref κ.2.2.2.2]) ++ List.replicate (4 - (lg_sl ([.ref ea, .int (nI (n + n / 2)), .ref κ.2.2.2.2])).length) Slot.unset).toArray = ls at hl ⊢
  have hl : lv_has ls 4 [(0, .ref ea), (1, .int (nI (n + n / 2))), (2, .ref κ.2.2.2.2)] := hl
  refine lv_aload_n hx hb d_AR_copyOf_1_0 rfl (lv_at hl 2 rfl) ?_
  refine va_ldcM (mi := κ.2.2.2.2) hx hb hown (hw _ kl_AR_110) hF.2.2.1.1 d_AR_copyOf_1_1 ?_
  refine lv_acmp_ne (rx := some κ.2.2.2.2) (ry := some κ.2.2.2.2) (tgt := 13) hx hb d_AR_copyOf_1_3 (by decide) (fun h9 => absurd rfl h9) (fun _ => ?_)
  refine lv_iload_n hx hb d_AR_copyOf_1_6 rfl (lv_at hl 1 rfl) ?_
  refine g_newq (N' := (n + n / 2)) hx hb hown (hw _ kl_AR_2) hF.2.2.1.2.1 hK hP hD hS hA (nI_pos (by omega)) (nI_clamp (by omega)) (by omega) (Nat.le_of_ble_eq_true rfl) (by show 0 + (n + n / 2) ≤ 90; omega) d_AR_copyOf_1_7 (fun q1 H hP hD hS => ?_)
  replace hP := hP.perm nw_pm; replace hD := hD.perm nw_pm
  have hP : va_P D gC ([(lo, .inr (0, [.ref ea, .int (nI k), .int md])), (ea, .inl (T.2.2.2, n, .inr (.inr (.inr (.inr f))))), (q1, .inl (T.2.2.2, (n + n / 2), .inr (.inr (.inr (.inr (fun _ => none))))))] ++ pl) H := hP
  have hD : va_D A ([(lo, .inr (0, [.ref ea, .int (nI k), .int md])), (ea, .inl (T.2.2.2, n, .inr (.inr (.inr (.inr f))))), (q1, .inl (T.2.2.2, (n + n / 2), .inr (.inr (.inr (.inr (fun _ => none))))))] ++ pl) := hD
  refine W.widen (k := 1) (n := 90) (by omega) (by omega) ?_
  refine lv_goto (tgt := 24) hx hb d_AR_copyOf_1_10 (by decide) ?_
  refine lv_astore_n (lv' := [(3, .ref q1), (0, .ref ea), (1, .int (nI (n + n / 2))), (2, .ref κ.2.2.2.2)]) hx hb d_AR_copyOf_1_24 rfl hl (by decide) rfl (fun ls hl => ?_)
  refine lv_aload_n hx hb d_AR_copyOf_1_25 rfl (lv_at hl 1 rfl) ?_
  refine lv_iconst (v := 0) hx hb d_AR_copyOf_1_26 (by decide) ?_
  refine lv_aload_n hx hb d_AR_copyOf_1_27 rfl (lv_at hl 0 rfl) ?_
  refine lv_iconst (v := 0) hx hb d_AR_copyOf_1_28 (by decide) ?_
  refine lv_aload_n hx hb d_AR_copyOf_1_29 rfl (lv_at hl 1 rfl) ?_
  refine va_alen hx hb hK hP 1 3 rfl rfl (v := nI n) rfl d_AR_copyOf_1_30 ?_
  refine lv_iload_n hx hb d_AR_copyOf_1_31 rfl (lv_at hl 2 rfl) ?_
  refine va_mmin hx hb (hml.trans hl.1.symm) hown (hw _ ml_AR_304) (hw _ wt_MA_min) (hw _ wz_MA) (hw _ wc_MA_min) (Nat.le_of_ble_eq_true rfl) (Nat.le_of_ble_eq_true rfl) (Nat.le_of_ble_eq_true rfl) (Nat.le_of_ble_eq_true rfl) d_AR_copyOf_1_32 ?_
  rw [nl_min (n := n) (m := n + n / 2) (by omega) (by omega)]
  refine va_copyM hx hb (hml.trans hl.1.symm) hown (hw _ ml_AR_150) (hw _ wx_375) (hw _ wt_SY_arraycopy) (hw _ wz_SY) hK hP hD hS 1 2 3 3 rfl rfl rfl rfl (by decide) (by decide) (nI_pos (by omega)) (by rw [nI_clamp (by omega), sb_cl0]; omega) (by rw [nI_clamp (by omega), sb_cl0]; omega) (fun i hi y hy => ob_any hK hF hP (fun q9 h9 => List.mem_append_right _ h9) (hy2 i (by rw [nI_clamp (by omega)] at hi; exact hi) y (by rw [sb_cl0, Nat.zero_add] at hy; exact hy))) (Nat.le_of_ble_eq_true rfl) (by decide +kernel) d_AR_copyOf_1_35 (fun H locs hP hD hS => ?_)
  rw [show (nI n).toNatClampNeg = n from nI_clamp (by omega), sb_cl0] at hP hD
  have hP : va_P D gC ([(lo, .inr (0, [.ref ea, .int (nI k), .int md])), (ea, .inl (T.2.2.2, n, .inr (.inr (.inr (.inr f))))), (q1, .inl (T.2.2.2, (n + n / 2), .inr (.inr (.inr (.inr (va_cpy f (fun _ => none) 0 0 n))))))] ++ pl) H := hP
  have hD : va_D A ([(lo, .inr (0, [.ref ea, .int (nI k), .int md])), (ea, .inl (T.2.2.2, n, .inr (.inr (.inr (.inr f))))), (q1, .inl (T.2.2.2, (n + n / 2), .inr (.inr (.inr (.inr (va_cpy f (fun _ => none) 0 0 n))))))] ++ pl) := hD
  refine lv_aload_n hx hb d_AR_copyOf_1_38 rfl (lv_at hl 0 rfl) ?_
  exact W.aret (v := .ref q1) hx hb hr (Or.inr ⟨_, rfl⟩) (Or.inr ⟨_, rfl⟩) (fun t ht hW => ⟨⟨(), q1, rfl, trivial, by rw [ht]; exact hP, va_K.moved hW.alike hK, hD⟩, hS.F ht⟩) hS.2.2 d_AR_copyOf_1_39

set_option maxHeartbeats 4000000 in
set_option maxRecDepth 100000 in
theorem k_AR_copyOf_0 (l : Launch) (D : va_G) (T : gT) (κ : gS) (lo ea k : Nat) (md : Int32) (n : Nat) (f : Nat → Option Nat) (pl : va_W) (sz : Nat) (hy0 : 10 ≤ n) (hy1 : n ≤ 60) (hy2 : ∀ i, i < n → ∀ y, f i = some y → isOb pl y) : Met l y_AR_copyOf_0 (Cond.code y_AR_copyOf_0 b_AR_copyOf_0 2 (some (.array (.object "java/lang/Object"))) :: bg_W) ({ frames := 2, cells := 1, slots := 90, locals := 63 }) (qPf κ D T ([(lo, .inr (0, [.ref ea, .int (nI k), .int md])), (ea, .inl (T.2.2.2, n, .inr (.inr (.inr (.inr f)))))] ++ pl) [.ref ea, .int (nI (n + n / 2))] sz) (va_Qr (fun _u : Unit => True) (fun u9 ra t => qB D T (va_A ([(lo, .inr (0, [.ref ea, .int (nI k), .int md])), (ea, .inl (T.2.2.2, n, .inr (.inr (.inr (.inr f)))))] ++ pl) sz) (fun _u : Unit => [(lo, .inr (0, [.ref ea, .int (nI k), .int md])), (ea, .inl (T.2.2.2, n, .inr (.inr (.inr (.inr f))))), (ra, .inl (T.2.2.2, (n + n / 2), .inr (.inr (.inr (.inr (va_cpy f (fun _ => none) 0 0 n))))))] ++ pl) u9 t) (va_A ([(lo, .inr (0, [.ref ea, .int (nI k), .int md])), (ea, .inl (T.2.2.2, n, .inr (.inr (.inr (.inr f)))))] ++ pl) sz)) 1 90 (va_A ([(lo, .inr (0, [.ref ea, .int (nI k), .int md])), (ea, .inl (T.2.2.2, n, .inr (.inr (.inr (.inr f)))))] ++ pl) sz) := by
  refine Met.ofW (cc := b_AR_copyOf_0) (maxL := 2) (ret := (some (.array (.object "java/lang/Object")))) (by decide) rfl ?_
  intro p e s m args below meth c s₁ B hml hv
  obtain ⟨rfl, hsz, hP, hK, hD0, hF⟩ := hv
  have hx := B.exec
  have hb := B.bytes
  have hr := B.returns
  have hw : ∀ w ∈ bg_W, w.before ([.ref ea, .int (nI (n + n / 2))] : List Value).toArray s = true := fun w h => atoms_spec (ws := (Cond.code y_AR_copyOf_0 b_AR_copyOf_0 2 (some (.array (.object "java/lang/Object"))) :: bg_W)) B.pre w (List.mem_cons_of_mem _ h)
  have hown : s.vm.findClass "java/util/Arrays" = some m.cls := findClass_of_methodNamed B.named
  have hlocks := B.notSynchronized
  subst hsz
  have hD := hD0.self (sz := s.heap.size)
  generalize hAe : va_A ([(lo, .inr (0, [.ref ea, .int (nI k), .int md])), (ea, .inl (T.2.2.2, n, .inr (.inr (.inr (.inr f)))))] ++ pl) s.heap.size = A at hD hF ⊢
  have hA : ∀ q : Nat, s.heap.size ≤ q → A q := fun q h => by rw [← hAe]; exact Or.inr h
  have hS : va_S A s.heap s.heap [] := va_S.rf
  have hl := lv_entry ([.ref ea, .int (nI (n + n / 2))]) (n := 2) (Nat.le_of_ble_eq_true rfl)
  rw [lg_entry_eq]
  generalize (lg_sl ([.ref ea, .int (nI (n + n / 2))]) ++ List.replicate (2 - (lg_sl ([.ref ea, .int (nI (n + n / 2))])).length) Slot.unset).toArray = ls at hl ⊢
  have hl : lv_has ls 2 [(0, .ref ea), (1, .int (nI (n + n / 2)))] := hl
  refine lv_aload_n hx hb d_AR_copyOf_0_0 rfl (lv_at hl 0 rfl) ?_
  refine lv_iload_n hx hb d_AR_copyOf_0_1 rfl (lv_at hl 1 rfl) ?_
  refine lv_aload_n hx hb d_AR_copyOf_0_2 rfl (lv_at hl 0 rfl) ?_
  refine va_getC (mi := κ.2.2.2.2) hx hb (hml.trans hl.1.symm) hown (hw _ ml_AR_86) (va_Dc.use hF.2.2.1.2.2.1) (hw _ wx_1058) (hw _ wi_OB_getClass) (hw _ wx_365) hF.2.2.1.1 (ob_arr hK (hP 1 _ rfl)) (Nat.le_of_ble_eq_true rfl) (Nat.le_of_ble_eq_true rfl) d_AR_copyOf_0_3 ?_
  refine g_callr (va_runS (As := [.ref ea, .int (nI (n + n / 2)), .ref κ.2.2.2.2]) (rest := []) ⟨hx, hb, hml, hown, hw⟩ (k_AR_copyOf_1 l D T κ lo ea k md n f pl s.heap.size (by assumption) (by assumption) (by assumption)) (va_cwS 3 hw (bg_S ml_AR_300 wt_AR_copyOf_1 wz_AR wc_AR_copyOf_1) rfl rfl rfl (by decide +kernel) ⟨Nat.le_of_ble_eq_true rfl, Nat.le_of_ble_eq_true rfl⟩) ⟨qPf_b, qPf_p hP hK hD hF hS (g_free hD hS hA)⟩ rfl rfl hl.1 rfl (lv_room (Nat.le_of_ble_eq_true rfl)) d_AR_copyOf_0_6 ⟨Nat.le_of_ble_eq_true rfl, Nat.le_of_ble_eq_true rfl⟩) hD hS hA (fun _ r1 H locs hr1 hP hD hS => ?_)
  have hP : va_P D gC ([(lo, .inr (0, [.ref ea, .int (nI k), .int md])), (ea, .inl (T.2.2.2, n, .inr (.inr (.inr (.inr f))))), (r1, .inl (T.2.2.2, (n + n / 2), .inr (.inr (.inr (.inr (va_cpy f (fun _ => none) 0 0 n))))))] ++ pl) H := hP
  have hD : va_D A ([(lo, .inr (0, [.ref ea, .int (nI k), .int md])), (ea, .inl (T.2.2.2, n, .inr (.inr (.inr (.inr f))))), (r1, .inl (T.2.2.2, (n + n / 2), .inr (.inr (.inr (.inr (va_cpy f (fun _ => none) 0 0 n))))))] ++ pl) := hD
  exact W.aret (v := .ref r1) hx hb hr (Or.inr ⟨_, rfl⟩) (Or.inr ⟨_, rfl⟩) (fun t ht hW => ⟨⟨(), r1, rfl, trivial, by rw [ht]; exact hP, va_K.moved hW.alike hK, hD⟩, hS.F ht⟩) hS.2.2 d_AR_copyOf_0_9

set_option maxHeartbeats 4000000 in
set_option maxRecDepth 100000 in
theorem k_A_grow_1_g (l : Launch) (D : va_G) (T : gT) (κ : gS) (lo ea k : Nat) (md : Int32) (n : Nat) (f : Nat → Option Nat) (pl : va_W) (sz : Nat) (hy0 : 10 ≤ n) (hy1 : n ≤ 60) (hy2 : ∀ i, i < n → ∀ y, f i = some y → isOb pl y) : Met l y_A_grow_1 (Cond.code y_A_grow_1 b_A_grow_1 4 (some (.array (.object "java/lang/Object"))) :: bg_W) ({ frames := 3, cells := 1, slots := 90, locals := 84 }) (qPf κ D T ([(lo, .inr (0, [.ref ea, .int (nI k), .int md])), (ea, .inl (T.2.2.2, n, .inr (.inr (.inr (.inr f)))))] ++ pl) [.ref lo, .int (nI (n + 1))] sz) (va_Qr (fun _u : Unit => True) (fun u9 ra t => qB D T (va_A ([(lo, .inr (0, [.ref ea, .int (nI k), .int md])), (ea, .inl (T.2.2.2, n, .inr (.inr (.inr (.inr f)))))] ++ pl) sz) (fun _u : Unit => [(lo, .inr (0, [.ref ra, .int (nI k), .int md])), (ea, .inl (T.2.2.2, n, .inr (.inr (.inr (.inr f))))), (ra, .inl (T.2.2.2, (n + n / 2), .inr (.inr (.inr (.inr (va_cpy f (fun _ => none) 0 0 n))))))] ++ pl) u9 t) (va_A ([(lo, .inr (0, [.ref ea, .int (nI k), .int md])), (ea, .inl (T.2.2.2, n, .inr (.inr (.inr (.inr f)))))] ++ pl) sz)) 1 90 (va_A ([(lo, .inr (0, [.ref ea, .int (nI k), .int md])), (ea, .inl (T.2.2.2, n, .inr (.inr (.inr (.inr f)))))] ++ pl) sz) := by
  refine Met.ofW (cc := b_A_grow_1) (maxL := 4) (ret := (some (.array (.object "java/lang/Object")))) (by decide) rfl ?_
  intro p e s m args below meth c s₁ B hml hv
  obtain ⟨rfl, hsz, hP, hK, hD0, hF⟩ := hv
  have hx := B.exec
  have hb := B.bytes
  have hr := B.returns
  have hw : ∀ w ∈ bg_W, w.before ([.ref lo, .int (nI (n + 1))] : List Value).toArray s = true := fun w h => atoms_spec (ws := (Cond.code y_A_grow_1 b_A_grow_1 4 (some (.array (.object "java/lang/Object"))) :: bg_W)) B.pre w (List.mem_cons_of_mem _ h)
  have hown : s.vm.findClass "java/util/ArrayList" = some m.cls := findClass_of_methodNamed B.named
  have hlocks := B.notSynchronized
  subst hsz
  have hD := hD0.self (sz := s.heap.size)
  generalize hAe : va_A ([(lo, .inr (0, [.ref ea, .int (nI k), .int md])), (ea, .inl (T.2.2.2, n, .inr (.inr (.inr (.inr f)))))] ++ pl) s.heap.size = A at hD hF ⊢
  have hA : ∀ q : Nat, s.heap.size ≤ q → A q := fun q h => by rw [← hAe]; exact Or.inr h
  have hS : va_S A s.heap s.heap [] := va_S.rf
  have hl := lv_entry ([.ref lo, .int (nI (n + 1))]) (n := 4) (Nat.le_of_ble_eq_true rfl)
  rw [lg_entry_eq]
  generalize (lg_sl ([.ref lo, .int (nI (n + 1))]) ++ List.replicate (4 - (lg_sl ([.ref lo, .int (nI (n + 1))])).length) Slot.unset).toArray = ls at hl ⊢
  have hl : lv_has ls 4 [(0, .ref lo), (1, .int (nI (n + 1)))] := hl
  refine lv_aload_n hx hb d_A_grow_1_0 rfl (lv_at hl 0 rfl) ?_
  refine va_get (D := D) (ci := 0) (v := .ref ea) (C := "java/util/ArrayList") (T := F_A) (N := 3) hx hb hw in_A hown hK hP 0 rfl rfl 0 (by decide) (hw _ fl_A_9) (fun _ h9 => h9) rfl d_A_grow_1_1 ?_
  refine va_alen hx hb hK hP 1 3 rfl rfl (v := nI n) rfl d_A_grow_1_4 ?_
  refine lv_istore_n (lv' := [(2, .int (nI n)), (0, .ref lo), (1, .int (nI (n + 1)))]) hx hb d_A_grow_1_5 rfl hl (by decide) rfl (fun ls hl => ?_)
  refine lv_iload_n hx hb d_A_grow_1_6 rfl (lv_at hl 0 rfl) ?_
  refine lv_if_gt (tgt := 20) hx hb d_A_grow_1_7 (by decide) (fun c1 => ?_) (fun c1 => absurd ((show nI 0 < nI n from nI_lt (by omega) (by omega))) c1)
  refine lv_iload_n hx hb d_A_grow_1_20 rfl (lv_at hl 0 rfl) ?_
  refine lv_iload_n hx hb d_A_grow_1_21 rfl (lv_at hl 2 rfl) ?_
  refine lv_iload_n hx hb d_A_grow_1_22 rfl (lv_at hl 0 rfl) ?_
  refine lv_isub hx hb d_A_grow_1_23 ?_
  rw [nl_sub]
  refine lv_iload_n hx hb d_A_grow_1_24 rfl (lv_at hl 0 rfl) ?_
  refine lv_iconst (v := 1) hx hb d_A_grow_1_25 (by decide) ?_
  refine lv_ishr hx hb d_A_grow_1_26 ?_
  rw [nl_shr (by omega)]
  refine vp_callSi (va_Run.run (va_runS (As := [.int (nI n), .int 1, .int (nI (n / 2))]) (rest := []) ⟨hx, hb, hml, hown, hw⟩ (k_AS_newLength l n hy0 (by omega)) (va_cwS 3 hw (bg_S ml_A_73 wt_AS_newLength wz_AS wc_AS_newLength) rfl rfl rfl (by decide +kernel) ⟨Nat.le_of_ble_eq_true rfl, Nat.le_of_ble_eq_true rfl⟩) ⟨nP_b, nP_p⟩ rfl rfl hl.1 rfl (lv_room (Nat.le_of_ble_eq_true rfl)) d_A_grow_1_27 ⟨Nat.le_of_ble_eq_true rfl, Nat.le_of_ble_eq_true rfl⟩)) (fun r2 hr2 => ?_)
  replace hr2 := hr2.symm; subst hr2
  refine lv_istore_n (lv' := [(3, .int (nI (n + n / 2))), (2, .int (nI n)), (0, .ref lo), (1, .int (nI (n + 1)))]) hx hb d_A_grow_1_30 rfl hl (by decide) rfl (fun ls hl => ?_)
  refine lv_aload_n hx hb d_A_grow_1_31 rfl (lv_at hl 2 rfl) ?_
  refine lv_aload_n hx hb d_A_grow_1_32 rfl (lv_at hl 2 rfl) ?_
  refine va_get (D := D) (ci := 0) (v := .ref ea) (C := "java/util/ArrayList") (T := F_A) (N := 3) hx hb hw in_A hown hK hP 0 rfl rfl 0 (by decide) (hw _ fl_A_9) (fun _ h9 => h9) rfl d_A_grow_1_33 ?_
  refine lv_iload_n hx hb d_A_grow_1_36 rfl (lv_at hl 0 rfl) ?_
  refine g_callr (va_runS (As := [.ref ea, .int (nI (n + n / 2))]) (rest := [.ref lo]) ⟨hx, hb, hml, hown, hw⟩ (k_AR_copyOf_0 l D T κ lo ea k md n f pl s.heap.size (by assumption) (by assumption) (by assumption)) (va_cwS 2 hw (bg_S ml_A_66 wt_AR_copyOf_0 wz_AR wc_AR_copyOf_0) rfl rfl rfl (by decide +kernel) ⟨Nat.le_of_ble_eq_true rfl, Nat.le_of_ble_eq_true rfl⟩) ⟨qPf_b, qPf_p hP hK hD hF hS (g_free hD hS hA)⟩ rfl rfl hl.1 rfl (lv_room (Nat.le_of_ble_eq_true rfl)) d_A_grow_1_37 ⟨Nat.le_of_ble_eq_true rfl, Nat.le_of_ble_eq_true rfl⟩) hD hS hA (fun _ r3 H locs hr3 hP hD hS => ?_)
  have hP : va_P D gC ([(lo, .inr (0, [.ref ea, .int (nI k), .int md])), (ea, .inl (T.2.2.2, n, .inr (.inr (.inr (.inr f))))), (r3, .inl (T.2.2.2, (n + n / 2), .inr (.inr (.inr (.inr (va_cpy f (fun _ => none) 0 0 n))))))] ++ pl) H := hP
  have hD : va_D A ([(lo, .inr (0, [.ref ea, .int (nI k), .int md])), (ea, .inl (T.2.2.2, n, .inr (.inr (.inr (.inr f))))), (r3, .inl (T.2.2.2, (n + n / 2), .inr (.inr (.inr (.inr (va_cpy f (fun _ => none) 0 0 n))))))] ++ pl) := hD
  refine lv_dup_x1 hx hb d_A_grow_1_40 rfl rfl ?_
  refine va_put (D := D) (ci := 0) (v := .ref r3) (ty := .array (.object "java/lang/Object")) (C := "java/util/ArrayList") (T := F_A) (N := 3) hx hb hw in_A ty_A ty_A_ok n_A hown hK hP hD hS 0 rfl rfl 0 (by decide) (hw _ fl_A_9) (fun _ h9 => h9) rfl (by decide +kernel) rfl rfl (Nat.le_of_ble_eq_true rfl) d_A_grow_1_41 (fun H locs hP hD hS => ?_)
  have hP : va_P D gC ([(lo, .inr (0, [.ref r3, .int (nI k), .int md])), (ea, .inl (T.2.2.2, n, .inr (.inr (.inr (.inr f))))), (r3, .inl (T.2.2.2, (n + n / 2), .inr (.inr (.inr (.inr (va_cpy f (fun _ => none) 0 0 n))))))] ++ pl) H := hP
  have hD : va_D A ([(lo, .inr (0, [.ref r3, .int (nI k), .int md])), (ea, .inl (T.2.2.2, n, .inr (.inr (.inr (.inr f))))), (r3, .inl (T.2.2.2, (n + n / 2), .inr (.inr (.inr (.inr (va_cpy f (fun _ => none) 0 0 n))))))] ++ pl) := hD
  exact W.aret (v := .ref r3) hx hb hr (Or.inr ⟨_, rfl⟩) (Or.inr ⟨_, rfl⟩) (fun t ht hW => ⟨⟨(), r3, rfl, trivial, by rw [ht]; exact hP, va_K.moved hW.alike hK, hD⟩, hS.F ht⟩) hS.2.2 d_A_grow_1_44

set_option maxHeartbeats 4000000 in
set_option maxRecDepth 100000 in
theorem k_A_grow_0_g (l : Launch) (D : va_G) (T : gT) (κ : gS) (lo ea : Nat) (md : Int32) (n : Nat) (f : Nat → Option Nat) (pl : va_W) (sz : Nat) (hy0 : 10 ≤ n) (hy1 : n ≤ 60) (hy2 : ∀ i, i < n → ∀ y, f i = some y → isOb pl y) : Met l y_A_grow_0 (Cond.code y_A_grow_0 b_A_grow_0 1 (some (.array (.object "java/lang/Object"))) :: bg_W) ({ frames := 4, cells := 1, slots := 90, locals := 107 }) (qPf κ D T ([(lo, .inr (0, [.ref ea, .int (nI n), .int md])), (ea, .inl (T.2.2.2, n, .inr (.inr (.inr (.inr f)))))] ++ pl) [.ref lo] sz) (va_Qr (fun _u : Unit => True) (fun u9 ra t => qB D T (va_A ([(lo, .inr (0, [.ref ea, .int (nI n), .int md])), (ea, .inl (T.2.2.2, n, .inr (.inr (.inr (.inr f)))))] ++ pl) sz) (fun _u : Unit => [(lo, .inr (0, [.ref ra, .int (nI n), .int md])), (ea, .inl (T.2.2.2, n, .inr (.inr (.inr (.inr f))))), (ra, .inl (T.2.2.2, (n + n / 2), .inr (.inr (.inr (.inr (va_cpy f (fun _ => none) 0 0 n))))))] ++ pl) u9 t) (va_A ([(lo, .inr (0, [.ref ea, .int (nI n), .int md])), (ea, .inl (T.2.2.2, n, .inr (.inr (.inr (.inr f)))))] ++ pl) sz)) 1 90 (va_A ([(lo, .inr (0, [.ref ea, .int (nI n), .int md])), (ea, .inl (T.2.2.2, n, .inr (.inr (.inr (.inr f)))))] ++ pl) sz) := by
  refine Met.ofW (cc := b_A_grow_0) (maxL := 1) (ret := (some (.array (.object "java/lang/Object")))) (by decide) rfl ?_
  intro p e s m args below meth c s₁ B hml hv
  obtain ⟨rfl, hsz, hP, hK, hD0, hF⟩ := hv
  have hx := B.exec
  have hb := B.bytes
  have hr := B.returns
  have hw : ∀ w ∈ bg_W, w.before ([.ref lo] : List Value).toArray s = true := fun w h => atoms_spec (ws := (Cond.code y_A_grow_0 b_A_grow_0 1 (some (.array (.object "java/lang/Object"))) :: bg_W)) B.pre w (List.mem_cons_of_mem _ h)
  have hown : s.vm.findClass "java/util/ArrayList" = some m.cls := findClass_of_methodNamed B.named
  have hlocks := B.notSynchronized
  subst hsz
  have hD := hD0.self (sz := s.heap.size)
  generalize hAe : va_A ([(lo, .inr (0, [.ref ea, .int (nI n), .int md])), (ea, .inl (T.2.2.2, n, .inr (.inr (.inr (.inr f)))))] ++ pl) s.heap.size = A at hD hF ⊢
  have hA : ∀ q : Nat, s.heap.size ≤ q → A q := fun q h => by rw [← hAe]; exact Or.inr h
  have hS : va_S A s.heap s.heap [] := va_S.rf
  have hl := lv_entry ([.ref lo]) (n := 1) (Nat.le_of_ble_eq_true rfl)
  rw [lg_entry_eq]
  generalize (lg_sl ([.ref lo]) ++ List.replicate (1 - (lg_sl ([.ref lo])).length) Slot.unset).toArray = ls at hl ⊢
  have hl : lv_has ls 1 [(0, .ref lo)] := hl
  refine lv_aload_n hx hb d_A_grow_0_0 rfl (lv_at hl 0 rfl) ?_
  refine lv_aload_n hx hb d_A_grow_0_1 rfl (lv_at hl 0 rfl) ?_
  refine va_get (D := D) (ci := 0) (v := .int (nI n)) (C := "java/util/ArrayList") (T := F_A) (N := 3) hx hb hw in_A hown hK hP 0 rfl rfl 1 (by decide) (hw _ fl_A_48) (fun _ h9 => h9) rfl d_A_grow_0_2 ?_
  refine lv_iconst (v := 1) hx hb d_A_grow_0_5 (by decide) ?_
  refine lv_iadd hx hb d_A_grow_0_6 ?_
  rw [nI_1]
  refine g_callr (va_runV (As := [.int (nI (n + 1))]) (rest := []) ⟨hx, hb, hml, hown, hw⟩ (k_A_grow_1_g l D T κ lo ea n md n f pl s.heap.size (by assumption) (by assumption) (by assumption)) (cwV 1 hw (bg_V ml_A_69 wi_A_grow_1 wv_A_grow_1 wz_A wc_A_grow_1) rfl rfl rfl (by decide +kernel) ⟨Nat.le_of_ble_eq_true rfl, Nat.le_of_ble_eq_true rfl⟩) ⟨qPf_b, va_recv hK hP (ci := 0) (q0 := 0) rfl rfl, qPf_p hP hK hD hF hS (g_free hD hS hA)⟩ rfl rfl hl.1 rfl (lv_room (Nat.le_of_ble_eq_true rfl)) d_A_grow_0_7 ⟨Nat.le_of_ble_eq_true rfl, Nat.le_of_ble_eq_true rfl⟩) hD hS hA (fun _ r1 H locs hr1 hP hD hS => ?_)
  have hP : va_P D gC ([(lo, .inr (0, [.ref r1, .int (nI n), .int md])), (ea, .inl (T.2.2.2, n, .inr (.inr (.inr (.inr f))))), (r1, .inl (T.2.2.2, (n + n / 2), .inr (.inr (.inr (.inr (va_cpy f (fun _ => none) 0 0 n))))))] ++ pl) H := hP
  have hD : va_D A ([(lo, .inr (0, [.ref r1, .int (nI n), .int md])), (ea, .inl (T.2.2.2, n, .inr (.inr (.inr (.inr f))))), (r1, .inl (T.2.2.2, (n + n / 2), .inr (.inr (.inr (.inr (va_cpy f (fun _ => none) 0 0 n))))))] ++ pl) := hD
  exact W.aret (v := .ref r1) hx hb hr (Or.inr ⟨_, rfl⟩) (Or.inr ⟨_, rfl⟩) (fun t ht hW => ⟨⟨(), r1, rfl, trivial, by rw [ht]; exact hP, va_K.moved hW.alike hK, hD⟩, hS.F ht⟩) hS.2.2 d_A_grow_0_10

set_option maxHeartbeats 4000000 in
set_option maxRecDepth 100000 in
theorem k_A_add_1_g (l : Launch) (D : va_G) (T : gT) (κ : gS) (lo ea : Nat) (md : Int32) (n : Nat) (f : Nat → Option Nat) (pl : va_W) (sz : Nat) (qe : Nat) (hy0 : 10 ≤ n) (hy1 : n ≤ 60) (hy2 : ∀ i, i < n → ∀ y, f i = some y → isOb pl y) (hy3 : isOb pl qe) : Met l y_A_add_1 (Cond.code y_A_add_1 b_A_add_1 4 none :: bg_W) ({ frames := 5, cells := 1, slots := 90, locals := 127 }) (qPf κ D T ([(lo, .inr (0, [.ref ea, .int (nI n), .int md])), (ea, .inl (T.2.2.2, n, .inr (.inr (.inr (.inr f)))))] ++ pl) [.ref lo, .ref qe, .ref ea, .int (nI n)] sz) (va_Qv (fun ra : Nat => True) (qB D T (va_A ([(lo, .inr (0, [.ref ea, .int (nI n), .int md])), (ea, .inl (T.2.2.2, n, .inr (.inr (.inr (.inr f)))))] ++ pl) sz) (fun ra : Nat => [(lo, .inr (0, [.ref ra, .int (nI (n + 1)), .int md])), (ea, .inl (T.2.2.2, n, .inr (.inr (.inr (.inr f))))), (ra, .inl (T.2.2.2, (n + n / 2), .inr (.inr (.inr (.inr (va_up (va_cpy f (fun _ => none) 0 0 n) n (some qe)))))))] ++ pl)) (va_A ([(lo, .inr (0, [.ref ea, .int (nI n), .int md])), (ea, .inl (T.2.2.2, n, .inr (.inr (.inr (.inr f)))))] ++ pl) sz)) 1 90 (va_A ([(lo, .inr (0, [.ref ea, .int (nI n), .int md])), (ea, .inl (T.2.2.2, n, .inr (.inr (.inr (.inr f)))))] ++ pl) sz) := by
  refine Met.ofW (cc := b_A_add_1) (maxL := 4) (ret := none) (by decide) rfl ?_
  intro p e s m args below meth c s₁ B hml hv
  obtain ⟨rfl, hsz, hP, hK, hD0, hF⟩ := hv
  have hx := B.exec
  have hb := B.bytes
  have hr := B.returns
  have hw : ∀ w ∈ bg_W, w.before ([.ref lo, .ref qe, .ref ea, .int (nI n)] : List Value).toArray s = true := fun w h => atoms_spec (ws := (Cond.code y_A_add_1 b_A_add_1 4 none :: bg_W)) B.pre w (List.mem_cons_of_mem _ h)
  have hown : s.vm.findClass "java/util/ArrayList" = some m.cls := findClass_of_methodNamed B.named
  have hlocks := B.notSynchronized
  subst hsz
  have hD := hD0.self (sz := s.heap.size)
  generalize hAe : va_A ([(lo, .inr (0, [.ref ea, .int (nI n), .int md])), (ea, .inl (T.2.2.2, n, .inr (.inr (.inr (.inr f)))))] ++ pl) s.heap.size = A at hD hF ⊢
  have hA : ∀ q : Nat, s.heap.size ≤ q → A q := fun q h => by rw [← hAe]; exact Or.inr h
  have hS : va_S A s.heap s.heap [] := va_S.rf
  have hl := lv_entry ([.ref lo, .ref qe, .ref ea, .int (nI n)]) (n := 4) (Nat.le_of_ble_eq_true rfl)
  rw [lg_entry_eq]
  generalize (lg_sl ([.ref lo, .ref qe, .ref ea, .int (nI n)]) ++ List.replicate (4 - (lg_sl ([.ref lo, .ref qe, .ref ea, .int (nI n)])).length) Slot.unset).toArray = ls at hl ⊢
  have hl : lv_has ls 4 [(0, .ref lo), (1, .ref qe), (2, .ref ea), (3, .int (nI n))] := hl
  refine lv_iload_n hx hb d_A_add_1_0 rfl (lv_at hl 3 rfl) ?_
  refine lv_aload_n hx hb d_A_add_1_1 rfl (lv_at hl 2 rfl) ?_
  refine va_alen hx hb hK hP 1 3 rfl rfl (v := nI n) rfl d_A_add_1_2 ?_
  refine lv_icmp_ne (tgt := 11) hx hb d_A_add_1_3 (by decide) (fun c1 => absurd c1 ((fun h9 => h9 rfl))) (fun c1 => ?_)
  refine lv_aload_n hx hb d_A_add_1_6 rfl (lv_at hl 0 rfl) ?_
  refine g_callr (va_runV (As := []) (rest := []) ⟨hx, hb, hml, hown, hw⟩ (k_A_grow_0_g l D T κ lo ea md n f pl s.heap.size (by assumption) (by assumption) (by assumption)) (cwV 0 hw (bg_V ml_A_129 wi_A_grow_0 wv_A_grow_0 wz_A wc_A_grow_0) rfl rfl rfl (by decide +kernel) ⟨Nat.le_of_ble_eq_true rfl, Nat.le_of_ble_eq_true rfl⟩) ⟨qPf_b, va_recv hK hP (ci := 0) (q0 := 0) rfl rfl, qPf_p hP hK hD hF hS (g_free hD hS hA)⟩ rfl rfl hl.1 rfl (lv_room (Nat.le_of_ble_eq_true rfl)) d_A_add_1_7 ⟨Nat.le_of_ble_eq_true rfl, Nat.le_of_ble_eq_true rfl⟩) hD hS hA (fun _ r2 H locs hr2 hP hD hS => ?_)
  have hP : va_P D gC ([(lo, .inr (0, [.ref r2, .int (nI n), .int md])), (ea, .inl (T.2.2.2, n, .inr (.inr (.inr (.inr f))))), (r2, .inl (T.2.2.2, (n + n / 2), .inr (.inr (.inr (.inr (va_cpy f (fun _ => none) 0 0 n))))))] ++ pl) H := hP
  have hD : va_D A ([(lo, .inr (0, [.ref r2, .int (nI n), .int md])), (ea, .inl (T.2.2.2, n, .inr (.inr (.inr (.inr f))))), (r2, .inl (T.2.2.2, (n + n / 2), .inr (.inr (.inr (.inr (va_cpy f (fun _ => none) 0 0 n))))))] ++ pl) := hD
  refine lv_astore_n (lv' := [(2, .ref r2), (0, .ref lo), (1, .ref qe), (3, .int (nI n))]) hx hb d_A_add_1_10 rfl hl (by decide) rfl (fun ls hl => ?_)
  refine lv_aload_n hx hb d_A_add_1_11 rfl (lv_at hl 0 rfl) ?_
  refine lv_iload_n hx hb d_A_add_1_12 rfl (lv_at hl 3 rfl) ?_
  refine lv_aload_n hx hb d_A_add_1_13 rfl (lv_at hl 2 rfl) ?_
  refine va_astqM hx hb hK hP hD hS 2 3 rfl rfl (ob_any hK hF hP (fun q9 h9 => List.mem_append_right _ h9) hy3) (by first | assumption | exact vp_in_nI (by omega) (by omega)) d_A_add_1_14 (fun H locs hP hD hS => ?_)
  rw [show (nI n).toNatClampNeg = n from nI_clamp (by omega)] at hP hD
  have hP : va_P D gC ([(lo, .inr (0, [.ref r2, .int (nI n), .int md])), (ea, .inl (T.2.2.2, n, .inr (.inr (.inr (.inr f))))), (r2, .inl (T.2.2.2, (n + n / 2), .inr (.inr (.inr (.inr (va_up (va_cpy f (fun _ => none) 0 0 n) n (some qe)))))))] ++ pl) H := hP
  have hD : va_D A ([(lo, .inr (0, [.ref r2, .int (nI n), .int md])), (ea, .inl (T.2.2.2, n, .inr (.inr (.inr (.inr f))))), (r2, .inl (T.2.2.2, (n + n / 2), .inr (.inr (.inr (.inr (va_up (va_cpy f (fun _ => none) 0 0 n) n (some qe)))))))] ++ pl) := hD
  refine lv_aload_n hx hb d_A_add_1_15 rfl (lv_at hl 1 rfl) ?_
  refine lv_iload_n hx hb d_A_add_1_16 rfl (lv_at hl 3 rfl) ?_
  refine lv_iconst (v := 1) hx hb d_A_add_1_17 (by decide) ?_
  refine lv_iadd hx hb d_A_add_1_18 ?_
  rw [nI_1]
  refine va_put (D := D) (ci := 0) (v := .int (nI (n + 1))) (ty := .int) (C := "java/util/ArrayList") (T := F_A) (N := 3) hx hb hw in_A ty_A ty_A_ok n_A hown hK hP hD hS 0 rfl rfl 1 (by decide) (hw _ fl_A_48) (fun _ h9 => h9) rfl (by decide +kernel) rfl rfl (Nat.le_of_ble_eq_true rfl) d_A_add_1_19 (fun H locs hP hD hS => ?_)
  have hP : va_P D gC ([(lo, .inr (0, [.ref r2, .int (nI (n + 1)), .int md])), (ea, .inl (T.2.2.2, n, .inr (.inr (.inr (.inr f))))), (r2, .inl (T.2.2.2, (n + n / 2), .inr (.inr (.inr (.inr (va_up (va_cpy f (fun _ => none) 0 0 n) n (some qe)))))))] ++ pl) H := hP
  have hD : va_D A ([(lo, .inr (0, [.ref r2, .int (nI (n + 1)), .int md])), (ea, .inl (T.2.2.2, n, .inr (.inr (.inr (.inr f))))), (r2, .inl (T.2.2.2, (n + n / 2), .inr (.inr (.inr (.inr (va_up (va_cpy f (fun _ => none) 0 0 n) n (some qe)))))))] ++ pl) := hD
  exact W.vret hx hb hr (fun t ht hW => ⟨⟨r2, rfl, trivial, by rw [ht]; exact hP, va_K.moved hW.alike hK, hD⟩, hS.F ht⟩) hS.2.2 d_A_add_1_22
