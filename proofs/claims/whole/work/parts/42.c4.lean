set_option maxHeartbeats 4000000 in
set_option maxRecDepth 100000 in
theorem k_A_add_0 (l : Launch) (D : va_G) (T : gT) (κ : gS) (d : liD) (pl : va_W) (sz : Nat) (xs : List Nat) (qe : Nat) (hy0 : liOk κ d xs) (hy1 : xs.length ≤ 59) (hy2 : isOb pl qe) (hy3 : ∀ x ∈ xs, isOb pl x) : Met l y_A_add_0 (Cond.code y_A_add_0 b_A_add_0 2 (some .boolean) :: bg_W) ({ frames := 6, cells := 1, slots := 90, locals := 150 }) (qPf κ D T (liO d xs.length :: (liB T d xs.length ++ pl)) [.ref d.1, .ref qe] sz) (va_Qi (fun (r : Int32) (d1 : liD) => r = 1 ∧ liOk κ d1 (xs ++ [qe]) ∧ d1.1 = d.1) (qB D T (va_A (liO d xs.length :: (liB T d xs.length ++ pl)) sz) (fun d1 : liD => liO d1 (xs.length + 1) :: (liB T d1 (xs.length + 1) ++ pl))) (va_A (liO d xs.length :: (liB T d xs.length ++ pl)) sz)) 1 90 (va_A (liO d xs.length :: (liB T d xs.length ++ pl)) sz) := by
  refine Met.ofW (cc := b_A_add_0) (maxL := 2) (ret := (some .boolean)) (by decide) rfl ?_
  intro p e s m args below meth c s₁ B hml hv
  obtain ⟨rfl, hsz, hP, hK, hD0, hF⟩ := hv
  have hx := B.exec
  have hb := B.bytes
  have hr := B.returns
  have hw : ∀ w ∈ bg_W, w.before ([.ref d.1, .ref qe] : List Value).toArray s = true := fun w h => atoms_spec (ws := (Cond.code y_A_add_0 b_A_add_0 2 (some .boolean) :: bg_W)) B.pre w (List.mem_cons_of_mem _ h)
  have hown : s.vm.findClass "java/util/ArrayList" = some m.cls := findClass_of_methodNamed B.named
  have hlocks := B.notSynchronized
  subst hsz
  have hD := hD0.self (sz := s.heap.size)
  generalize hAe : va_A (liO d xs.length :: (liB T d xs.length ++ pl)) s.heap.size = A at hD hF ⊢
  have hA : ∀ q : Nat, s.heap.size ≤ q → A q := fun q h => by rw [← hAe]; exact Or.inr h
  have hS : va_S A s.heap s.heap [] := va_S.rf
  have hl := lv_entry ([.ref d.1, .ref qe]) (n := 2) (Nat.le_of_ble_eq_true rfl)
  rw [lg_entry_eq]
  generalize (lg_sl ([.ref d.1, .ref qe]) ++ List.replicate (2 - (lg_sl ([.ref d.1, .ref qe])).length) Slot.unset).toArray = ls at hl ⊢
  have hl : lv_has ls 2 [(0, .ref d.1), (1, .ref qe)] := hl
  rcases li_cases hy0 with ⟨g1, g2⟩ | ⟨g1, g2, g3⟩ | ⟨g1, g2, g3⟩
  · subst g1
    rw [li_w0 g2] at hP hD
    refine lv_aload_n hx hb d_A_add_0_0 rfl (lv_at hl 0 rfl) ?_
    refine lv_dup hx hb d_A_add_0_1 rfl ?_
    refine va_get (D := D) (ci := 0) (v := .int d.2.2.1) (C := "java/util/ArrayList") (T := F_A) (N := 3) hx hb hw in_A hown hK hP 0 rfl rfl 2 (by decide) (hw _ fl_A_63) (u_same (hw _ wx_66)) rfl d_A_add_0_2 ?_
    refine lv_iconst (v := 1) hx hb d_A_add_0_5 (by decide) ?_
    refine lv_iadd hx hb d_A_add_0_6 ?_
    refine va_put (D := D) (ci := 0) (v := .int (d.2.2.1 + 1)) (ty := .int) (C := "java/util/ArrayList") (T := F_A) (N := 3) hx hb hw in_A ty_A ty_A_ok n_A hown hK hP hD hS 0 rfl rfl 2 (by decide) (hw _ fl_A_63) (u_same (hw _ wx_66)) rfl (by decide +kernel) rfl rfl (Nat.le_of_ble_eq_true rfl) d_A_add_0_7 (fun H locs hP hD hS => ?_)
    have hP : va_P D gC ([(d.1, .inr (0, [.ref κ.2.2.1, .int 0, .int (d.2.2.1 + 1)]))] ++ pl) H := hP
    have hD : va_D A ([(d.1, .inr (0, [.ref κ.2.2.1, .int 0, .int (d.2.2.1 + 1)]))] ++ pl) := hD
    refine lv_aload_n hx hb d_A_add_0_10 rfl (lv_at hl 0 rfl) ?_
    refine lv_aload_n hx hb d_A_add_0_11 rfl (lv_at hl 1 rfl) ?_
    refine lv_aload_n hx hb d_A_add_0_12 rfl (lv_at hl 0 rfl) ?_
    refine va_get (D := D) (ci := 0) (v := .ref κ.2.2.1) (C := "java/util/ArrayList") (T := F_A) (N := 3) hx hb hw in_A hown hK hP 0 rfl rfl 0 (by decide) (hw _ fl_A_9) (fun _ h9 => h9) rfl d_A_add_0_13 ?_
    refine lv_aload_n hx hb d_A_add_0_16 rfl (lv_at hl 0 rfl) ?_
    refine va_get (D := D) (ci := 0) (v := .int 0) (C := "java/util/ArrayList") (T := F_A) (N := 3) hx hb hw in_A hown hK hP 0 rfl rfl 1 (by decide) (hw _ fl_A_48) (fun _ h9 => h9) rfl d_A_add_0_17 ?_
    refine g_callv (va_runV (As := [.ref qe, .ref κ.2.2.1, .int 0]) (rest := []) ⟨hx, hb, hml, hown, hw⟩ (k_A_add_1_f l D T κ d.1 (d.2.2.1 + 1) pl H.size qe hy2) (cwV 3 hw (bg_V ml_A_131 wi_A_add_1 wv_A_add_1 wz_A wc_A_add_1) rfl rfl rfl (by decide +kernel) ⟨Nat.le_of_ble_eq_true rfl, Nat.le_of_ble_eq_true rfl⟩) ⟨qPf_b, va_recv hK hP (ci := 0) (q0 := 0) rfl rfl, qPf_p hP hK hD hF hS (g_free hD hS hA)⟩ rfl rfl hl.1 rfl (lv_room (Nat.le_of_ble_eq_true rfl)) d_A_add_0_20 ⟨Nat.le_of_ble_eq_true rfl, Nat.le_of_ble_eq_true rfl⟩) hD hS hA (fun u2 H locs hr1 hP hD hS => ?_)
    have hP : va_P D gC ([(d.1, .inr (0, [.ref u2, .int 1, .int (d.2.2.1 + 1)])), (u2, .inl (T.2.2.2, 10, .inr (.inr (.inr (.inr (va_up (fun _ => none) 0 (some qe)))))))] ++ pl) H := hP
    have hD : va_D A ([(d.1, .inr (0, [.ref u2, .int 1, .int (d.2.2.1 + 1)])), (u2, .inl (T.2.2.2, 10, .inr (.inr (.inr (.inr (va_up (fun _ => none) 0 (some qe)))))))] ++ pl) := hD
    refine lv_iconst (v := 1) hx hb d_A_add_0_23 (by decide) ?_
    refine W.widen (k := 1) (n := 90) (by omega) (by omega) ?_
    have hP : va_P D gC (liO (d.1, u2, d.2.2.1 + 1, 10, va_up (fun _ => none) 0 (some qe)) (([] : List Nat).length + 1) :: (liB T (d.1, u2, d.2.2.1 + 1, 10, va_up (fun _ => none) 0 (some qe)) (([] : List Nat).length + 1) ++ pl)) H := by rw [li_w2]; exact hP
    have hD : va_D A (liO (d.1, u2, d.2.2.1 + 1, 10, va_up (fun _ => none) 0 (some qe)) (([] : List Nat).length + 1) :: (liB T (d.1, u2, d.2.2.1 + 1, 10, va_up (fun _ => none) 0 (some qe)) (([] : List Nat).length + 1) ++ pl)) := by rw [li_w2]; exact hD
    exact W.zret (v := 1) hx hb hr rfl (fun t ht hW => ⟨⟨1, (d.1, u2, d.2.2.1 + 1, 10, va_up (fun _ => none) 0 (some qe)), rfl, ⟨rfl, li_ok1, rfl⟩, by rw [ht]; exact hP, va_K.moved hW.alike hK, hD⟩, hS.F ht⟩) hS.2.2 d_A_add_0_24
  · rw [li_w1 g1] at hP hD
    refine lv_aload_n hx hb d_A_add_0_0 rfl (lv_at hl 0 rfl) ?_
    refine lv_dup hx hb d_A_add_0_1 rfl ?_
    refine va_get (D := D) (ci := 0) (v := .int d.2.2.1) (C := "java/util/ArrayList") (T := F_A) (N := 3) hx hb hw in_A hown hK hP 0 rfl rfl 2 (by decide) (hw _ fl_A_63) (u_same (hw _ wx_66)) rfl d_A_add_0_2 ?_
    refine lv_iconst (v := 1) hx hb d_A_add_0_5 (by decide) ?_
    refine lv_iadd hx hb d_A_add_0_6 ?_
    refine va_put (D := D) (ci := 0) (v := .int (d.2.2.1 + 1)) (ty := .int) (C := "java/util/ArrayList") (T := F_A) (N := 3) hx hb hw in_A ty_A ty_A_ok n_A hown hK hP hD hS 0 rfl rfl 2 (by decide) (hw _ fl_A_63) (u_same (hw _ wx_66)) rfl (by decide +kernel) rfl rfl (Nat.le_of_ble_eq_true rfl) d_A_add_0_7 (fun H locs hP hD hS => ?_)
    have hP : va_P D gC ([(d.1, .inr (0, [.ref d.2.1, .int (nI xs.length), .int (d.2.2.1 + 1)])), (d.2.1, .inl (T.2.2.2, d.2.2.2.1, .inr (.inr (.inr (.inr d.2.2.2.2)))))] ++ pl) H := hP
    have hD : va_D A ([(d.1, .inr (0, [.ref d.2.1, .int (nI xs.length), .int (d.2.2.1 + 1)])), (d.2.1, .inl (T.2.2.2, d.2.2.2.1, .inr (.inr (.inr (.inr d.2.2.2.2)))))] ++ pl) := hD
    refine lv_aload_n hx hb d_A_add_0_10 rfl (lv_at hl 0 rfl) ?_
    refine lv_aload_n hx hb d_A_add_0_11 rfl (lv_at hl 1 rfl) ?_
    refine lv_aload_n hx hb d_A_add_0_12 rfl (lv_at hl 0 rfl) ?_
    refine va_get (D := D) (ci := 0) (v := .ref d.2.1) (C := "java/util/ArrayList") (T := F_A) (N := 3) hx hb hw in_A hown hK hP 0 rfl rfl 0 (by decide) (hw _ fl_A_9) (fun _ h9 => h9) rfl d_A_add_0_13 ?_
    refine lv_aload_n hx hb d_A_add_0_16 rfl (lv_at hl 0 rfl) ?_
    refine va_get (D := D) (ci := 0) (v := .int (nI xs.length)) (C := "java/util/ArrayList") (T := F_A) (N := 3) hx hb hw in_A hown hK hP 0 rfl rfl 1 (by decide) (hw _ fl_A_48) (fun _ h9 => h9) rfl d_A_add_0_17 ?_
    refine g_callv (va_runV (As := [.ref qe, .ref d.2.1, .int (nI xs.length)]) (rest := []) ⟨hx, hb, hml, hown, hw⟩ (k_A_add_1_r l D T κ d.1 d.2.1 xs.length (d.2.2.1 + 1) d.2.2.2.1 d.2.2.2.2 pl H.size qe hy2 g2 (by omega)) (cwV 3 hw (bg_V ml_A_131 wi_A_add_1 wv_A_add_1 wz_A wc_A_add_1) rfl rfl rfl (by decide +kernel) ⟨Nat.le_of_ble_eq_true rfl, Nat.le_of_ble_eq_true rfl⟩) ⟨qPf_b, va_recv hK hP (ci := 0) (q0 := 0) rfl rfl, qPf_p hP hK hD hF hS (g_free hD hS hA)⟩ rfl rfl hl.1 rfl (lv_room (Nat.le_of_ble_eq_true rfl)) d_A_add_0_20 ⟨Nat.le_of_ble_eq_true rfl, Nat.le_of_ble_eq_true rfl⟩) hD hS hA (fun _ H locs hr3 hP hD hS => ?_)
    have hP : va_P D gC ([(d.1, .inr (0, [.ref d.2.1, .int (nI (xs.length + 1)), .int (d.2.2.1 + 1)])), (d.2.1, .inl (T.2.2.2, d.2.2.2.1, .inr (.inr (.inr (.inr (va_up d.2.2.2.2 xs.length (some qe)))))))] ++ pl) H := hP
    have hD : va_D A ([(d.1, .inr (0, [.ref d.2.1, .int (nI (xs.length + 1)), .int (d.2.2.1 + 1)])), (d.2.1, .inl (T.2.2.2, d.2.2.2.1, .inr (.inr (.inr (.inr (va_up d.2.2.2.2 xs.length (some qe)))))))] ++ pl) := hD
    refine lv_iconst (v := 1) hx hb d_A_add_0_23 (by decide) ?_
    refine W.widen (k := 1) (n := 90) (by omega) (by omega) ?_
    have hP : va_P D gC (liO (d.1, d.2.1, d.2.2.1 + 1, d.2.2.2.1, va_up d.2.2.2.2 xs.length (some qe)) ((xs : List Nat).length + 1) :: (liB T (d.1, d.2.1, d.2.2.1 + 1, d.2.2.2.1, va_up d.2.2.2.2 xs.length (some qe)) ((xs : List Nat).length + 1) ++ pl)) H := by rw [li_w2]; exact hP
    have hD : va_D A (liO (d.1, d.2.1, d.2.2.1 + 1, d.2.2.2.1, va_up d.2.2.2.2 xs.length (some qe)) ((xs : List Nat).length + 1) :: (liB T (d.1, d.2.1, d.2.2.1 + 1, d.2.2.2.1, va_up d.2.2.2.2 xs.length (some qe)) ((xs : List Nat).length + 1) ++ pl)) := by rw [li_w2]; exact hD
    exact W.zret (v := 1) hx hb hr rfl (fun t ht hW => ⟨⟨1, (d.1, d.2.1, d.2.2.1 + 1, d.2.2.2.1, va_up d.2.2.2.2 xs.length (some qe)), rfl, ⟨rfl, li_ok2 hy0 g1 g2, rfl⟩, by rw [ht]; exact hP, va_K.moved hW.alike hK, hD⟩, hS.F ht⟩) hS.2.2 d_A_add_0_24
  · rw [li_w1 g1, g2] at hP hD
    refine lv_aload_n hx hb d_A_add_0_0 rfl (lv_at hl 0 rfl) ?_
    refine lv_dup hx hb d_A_add_0_1 rfl ?_
    refine va_get (D := D) (ci := 0) (v := .int d.2.2.1) (C := "java/util/ArrayList") (T := F_A) (N := 3) hx hb hw in_A hown hK hP 0 rfl rfl 2 (by decide) (hw _ fl_A_63) (u_same (hw _ wx_66)) rfl d_A_add_0_2 ?_
    refine lv_iconst (v := 1) hx hb d_A_add_0_5 (by decide) ?_
    refine lv_iadd hx hb d_A_add_0_6 ?_
    refine va_put (D := D) (ci := 0) (v := .int (d.2.2.1 + 1)) (ty := .int) (C := "java/util/ArrayList") (T := F_A) (N := 3) hx hb hw in_A ty_A ty_A_ok n_A hown hK hP hD hS 0 rfl rfl 2 (by decide) (hw _ fl_A_63) (u_same (hw _ wx_66)) rfl (by decide +kernel) rfl rfl (Nat.le_of_ble_eq_true rfl) d_A_add_0_7 (fun H locs hP hD hS => ?_)
    have hP : va_P D gC ([(d.1, .inr (0, [.ref d.2.1, .int (nI d.2.2.2.1), .int (d.2.2.1 + 1)])), (d.2.1, .inl (T.2.2.2, d.2.2.2.1, .inr (.inr (.inr (.inr d.2.2.2.2)))))] ++ pl) H := hP
    have hD : va_D A ([(d.1, .inr (0, [.ref d.2.1, .int (nI d.2.2.2.1), .int (d.2.2.1 + 1)])), (d.2.1, .inl (T.2.2.2, d.2.2.2.1, .inr (.inr (.inr (.inr d.2.2.2.2)))))] ++ pl) := hD
    refine lv_aload_n hx hb d_A_add_0_10 rfl (lv_at hl 0 rfl) ?_
    refine lv_aload_n hx hb d_A_add_0_11 rfl (lv_at hl 1 rfl) ?_
    refine lv_aload_n hx hb d_A_add_0_12 rfl (lv_at hl 0 rfl) ?_
    refine va_get (D := D) (ci := 0) (v := .ref d.2.1) (C := "java/util/ArrayList") (T := F_A) (N := 3) hx hb hw in_A hown hK hP 0 rfl rfl 0 (by decide) (hw _ fl_A_9) (fun _ h9 => h9) rfl d_A_add_0_13 ?_
    refine lv_aload_n hx hb d_A_add_0_16 rfl (lv_at hl 0 rfl) ?_
    refine va_get (D := D) (ci := 0) (v := .int (nI d.2.2.2.1)) (C := "java/util/ArrayList") (T := F_A) (N := 3) hx hb hw in_A hown hK hP 0 rfl rfl 1 (by decide) (hw _ fl_A_48) (fun _ h9 => h9) rfl d_A_add_0_17 ?_
    refine g_callv (va_runV (As := [.ref qe, .ref d.2.1, .int (nI d.2.2.2.1)]) (rest := []) ⟨hx, hb, hml, hown, hw⟩ (k_A_add_1_g l D T κ d.1 d.2.1 (d.2.2.1 + 1) d.2.2.2.1 d.2.2.2.2 pl H.size qe g3 (by omega) (li_el hy0 g1 g2 hy3) hy2) (cwV 3 hw (bg_V ml_A_131 wi_A_add_1 wv_A_add_1 wz_A wc_A_add_1) rfl rfl rfl (by decide +kernel) ⟨Nat.le_of_ble_eq_true rfl, Nat.le_of_ble_eq_true rfl⟩) ⟨qPf_b, va_recv hK hP (ci := 0) (q0 := 0) rfl rfl, qPf_p hP hK hD hF hS (g_free hD hS hA)⟩ rfl rfl hl.1 rfl (lv_room (Nat.le_of_ble_eq_true rfl)) d_A_add_0_20 ⟨Nat.le_of_ble_eq_true rfl, Nat.le_of_ble_eq_true rfl⟩) hD hS hA (fun u5 H locs hr4 hP hD hS => ?_)
    have hP : va_P D gC ([(d.1, .inr (0, [.ref u5, .int (nI (d.2.2.2.1 + 1)), .int (d.2.2.1 + 1)])), (d.2.1, .inl (T.2.2.2, d.2.2.2.1, .inr (.inr (.inr (.inr d.2.2.2.2))))), (u5, .inl (T.2.2.2, (d.2.2.2.1 + d.2.2.2.1 / 2), .inr (.inr (.inr (.inr (va_up (va_cpy d.2.2.2.2 (fun _ => none) 0 0 d.2.2.2.1) d.2.2.2.1 (some qe)))))))] ++ pl) H := hP
    have hD : va_D A ([(d.1, .inr (0, [.ref u5, .int (nI (d.2.2.2.1 + 1)), .int (d.2.2.1 + 1)])), (d.2.1, .inl (T.2.2.2, d.2.2.2.1, .inr (.inr (.inr (.inr d.2.2.2.2))))), (u5, .inl (T.2.2.2, (d.2.2.2.1 + d.2.2.2.1 / 2), .inr (.inr (.inr (.inr (va_up (va_cpy d.2.2.2.2 (fun _ => none) 0 0 d.2.2.2.1) d.2.2.2.1 (some qe)))))))] ++ pl) := hD
    refine lv_iconst (v := 1) hx hb d_A_add_0_23 (by decide) ?_
    refine W.widen (k := 1) (n := 90) (by omega) (by omega) ?_
    have hP : va_P D gC (liO (d.1, u5, d.2.2.1 + 1, d.2.2.2.1 + d.2.2.2.1 / 2, va_up (va_cpy d.2.2.2.2 (fun _ => none) 0 0 d.2.2.2.1) d.2.2.2.1 (some qe)) ((xs : List Nat).length + 1) :: (liB T (d.1, u5, d.2.2.1 + 1, d.2.2.2.1 + d.2.2.2.1 / 2, va_up (va_cpy d.2.2.2.2 (fun _ => none) 0 0 d.2.2.2.1) d.2.2.2.1 (some qe)) ((xs : List Nat).length + 1) ++ pl)) H := by rw [li_w2]; have h9 := hP.part (cx := [(d.1, .inr (0, [.ref u5, .int (nI (d.2.2.2.1 + 1)), .int (d.2.2.1 + 1)])), (u5, .inl (T.2.2.2, (d.2.2.2.1 + d.2.2.2.1 / 2), .inr (.inr (.inr (.inr (va_up (va_cpy d.2.2.2.2 (fun _ => none) 0 0 d.2.2.2.1) d.2.2.2.1 (some qe)))))))]) [0, 2] rfl; rw [← g2] at h9; rw [← g2]; exact h9
    have hD : va_D A (liO (d.1, u5, d.2.2.1 + 1, d.2.2.2.1 + d.2.2.2.1 / 2, va_up (va_cpy d.2.2.2.2 (fun _ => none) 0 0 d.2.2.2.1) d.2.2.2.1 (some qe)) ((xs : List Nat).length + 1) :: (liB T (d.1, u5, d.2.2.1 + 1, d.2.2.2.1 + d.2.2.2.1 / 2, va_up (va_cpy d.2.2.2.2 (fun _ => none) 0 0 d.2.2.2.1) d.2.2.2.1 (some qe)) ((xs : List Nat).length + 1) ++ pl)) := by rw [li_w2]; have h9 := hD.part (cx := [(d.1, .inr (0, [.ref u5, .int (nI (d.2.2.2.1 + 1)), .int (d.2.2.1 + 1)])), (u5, .inl (T.2.2.2, (d.2.2.2.1 + d.2.2.2.1 / 2), .inr (.inr (.inr (.inr (va_up (va_cpy d.2.2.2.2 (fun _ => none) 0 0 d.2.2.2.1) d.2.2.2.1 (some qe)))))))]) [0, 2] (by decide) rfl; rw [← g2] at h9; rw [← g2]; exact h9
    exact W.zret (v := 1) hx hb hr rfl (fun t ht hW => ⟨⟨1, (d.1, u5, d.2.2.1 + 1, d.2.2.2.1 + d.2.2.2.1 / 2, va_up (va_cpy d.2.2.2.2 (fun _ => none) 0 0 d.2.2.2.1) d.2.2.2.1 (some qe)), rfl, ⟨rfl, li_ok3 hy0 g1 g2 (by omega), rfl⟩, by rw [ht]; exact hP, va_K.moved hW.alike hK, hD⟩, hS.F ht⟩) hS.2.2 d_A_add_0_24
