set_option maxHeartbeats 4000000 in
set_option maxRecDepth 100000 in
theorem k_R_init_24 (l : Launch) (D : va_G) (T : gT) (ro : Nat) (sz : Nat) : Met l y_R_init (Cond.code y_R_init b_R_init 2 none :: bg_W) ({ frames := 1, cells := 1, slots := 24, locals := 12 }) (qP D T ([(ro, .inr (1, [.null, .int 0]))]) [.ref ro, .int 24] sz) (va_Qv (fun ra : Nat => True) (qB D T (va_A ([(ro, .inr (1, [.null, .int 0]))]) sz) (fun ra : Nat => [(ro, .inr (1, [.ref ra, .int 0])), (ra, .inl (T.1, 24, .inl (fun _ => 0)))])) (va_A ([(ro, .inr (1, [.null, .int 0]))]) sz)) 1 24 (va_A ([(ro, .inr (1, [.null, .int 0]))]) sz) := by
  refine Met.ofW (cc := b_R_init) (maxL := 2) (ret := none) (by decide) rfl ?_
  intro p e s m args below meth c s₁ B hml hv
  obtain ⟨rfl, hsz, hP, hK, hD0⟩ := hv
  have hx := B.exec
  have hb := B.bytes
  have hr := B.returns
  have hw : ∀ w ∈ bg_W, w.before ([.ref ro, .int 24] : List Value).toArray s = true := fun w h => atoms_spec (ws := (Cond.code y_R_init b_R_init 2 none :: bg_W)) B.pre w (List.mem_cons_of_mem _ h)
  have hown : s.vm.findClass "TimeWords$Row" = some m.cls := findClass_of_methodNamed B.named
  have hlocks := B.notSynchronized
  subst hsz
  have hD := hD0.self (sz := s.heap.size)
  generalize hAe : va_A ([(ro, .inr (1, [.null, .int 0]))]) s.heap.size = A at hD ⊢
  have hA : ∀ q : Nat, s.heap.size ≤ q → A q := fun q h => by rw [← hAe]; exact Or.inr h
  have hS : va_S A s.heap s.heap [] := va_S.rf
  have hl := lv_entry ([.ref ro, .int 24]) (n := 2) (Nat.le_of_ble_eq_true rfl)
  rw [lg_entry_eq]
  generalize (lg_sl ([.ref ro, .int 24]) ++ List.replicate (2 - (lg_sl ([.ref ro, .int 24])).length) Slot.unset).toArray = ls at hl ⊢
  have hl : lv_has ls 2 [(0, .ref ro), (1, .int 24)] := hl
  have hin : meth.name = "<init>" := (name_of_methodNamed B.named B.method).1
  refine lv_aload_n hx hb d_R_init_0 rfl (lv_at hl 0 rfl) ?_
  refine W.objInit hx hb hown (hw _ ml_R_3) (hw _ wi_OB_init) (hw _ wc_OB_init) rfl (by rw [hml]; exact hl.1) rfl d_R_init_1 (Nat.le_of_ble_eq_true rfl) (Nat.le_of_ble_eq_true rfl) ?_
  refine W.eq (g2 := F0 m 4 ls []) rfl ?_
  refine lv_aload_n hx hb d_R_init_4 rfl (lv_at hl 0 rfl) ?_
  refine lv_iload_n hx hb d_R_init_5 rfl (lv_at hl 1 rfl) ?_
  refine lv_if_ge (tgt := 13) hx hb d_R_init_6 (by decide) (fun c1 => ?_) (fun c1 => absurd c1 (by decide))
  refine lv_iload_n hx hb d_R_init_13 rfl (lv_at hl 1 rfl) ?_
  refine g_newi (N' := 24) hx hb (hw _ wa_int) hK hP hD hS hA (by decide) (by decide) (by decide) (Nat.le_of_ble_eq_true rfl) (Nat.le_of_ble_eq_true rfl) d_R_init_14 (fun q2 H hP hD hS => ?_)
  have hP : va_P D gC ([(ro, .inr (1, [.null, .int 0])), (q2, .inl (T.1, 24, .inl (fun _ => 0)))]) H := hP
  have hD : va_D A ([(ro, .inr (1, [.null, .int 0])), (q2, .inl (T.1, 24, .inl (fun _ => 0)))]) := hD
  refine W.widen (k := 1) (n := 24) (by omega) (by omega) ?_
  refine va_putF (D := D) (ci := 1) (v := .ref q2) (ty := .array .int) (C := "TimeWords$Row") (T := F_R) (N := 2) hx hb hw in_R ty_R ty_R_ok n_R hown hK hP hD hS 0 rfl rfl 0 (by decide) (hw _ fl_R_9) (fun _ h9 => h9) rfl hin rfl (by decide +kernel) rfl rfl (Nat.le_of_ble_eq_true rfl) d_R_init_16 (fun H locs hP hD hS => ?_)
  have hP : va_P D gC ([(ro, .inr (1, [.ref q2, .int 0])), (q2, .inl (T.1, 24, .inl (fun _ => 0)))]) H := hP
  have hD : va_D A ([(ro, .inr (1, [.ref q2, .int 0])), (q2, .inl (T.1, 24, .inl (fun _ => 0)))]) := hD
  refine lv_aload_n hx hb d_R_init_19 rfl (lv_at hl 0 rfl) ?_
  refine lv_iconst (v := 0) hx hb d_R_init_20 (by decide) ?_
  refine va_put (D := D) (ci := 1) (v := .int 0) (ty := .int) (C := "TimeWords$Row") (T := F_R) (N := 2) hx hb hw in_R ty_R ty_R_ok n_R hown hK hP hD hS 0 rfl rfl 1 (by decide) (hw _ fl_R_15) (fun _ h9 => h9) rfl (by decide +kernel) rfl rfl (Nat.le_of_ble_eq_true rfl) d_R_init_21 (fun H locs hP hD hS => ?_)
  have hP : va_P D gC ([(ro, .inr (1, [.ref q2, .int 0])), (q2, .inl (T.1, 24, .inl (fun _ => 0)))]) H := hP
  have hD : va_D A ([(ro, .inr (1, [.ref q2, .int 0])), (q2, .inl (T.1, 24, .inl (fun _ => 0)))]) := hD
  exact W.vret hx hb hr (fun t ht hW => ⟨⟨q2, rfl, trivial, by rw [ht]; exact hP, va_K.moved hW.alike hK, hD⟩, hS.F ht⟩) hS.2.2 d_R_init_24

set_option maxHeartbeats 4000000 in
set_option maxRecDepth 100000 in
theorem k_R_init_8 (l : Launch) (D : va_G) (T : gT) (ro : Nat) (sz : Nat) : Met l y_R_init (Cond.code y_R_init b_R_init 2 none :: bg_W) ({ frames := 1, cells := 1, slots := 8, locals := 12 }) (qP D T ([(ro, .inr (1, [.null, .int 0]))]) [.ref ro, .int 8] sz) (va_Qv (fun ra : Nat => True) (qB D T (va_A ([(ro, .inr (1, [.null, .int 0]))]) sz) (fun ra : Nat => [(ro, .inr (1, [.ref ra, .int 0])), (ra, .inl (T.1, 8, .inl (fun _ => 0)))])) (va_A ([(ro, .inr (1, [.null, .int 0]))]) sz)) 1 8 (va_A ([(ro, .inr (1, [.null, .int 0]))]) sz) := by
  refine Met.ofW (cc := b_R_init) (maxL := 2) (ret := none) (by decide) rfl ?_
  intro p e s m args below meth c s₁ B hml hv
  obtain ⟨rfl, hsz, hP, hK, hD0⟩ := hv
  have hx := B.exec
  have hb := B.bytes
  have hr := B.returns
  have hw : ∀ w ∈ bg_W, w.before ([.ref ro, .int 8] : List Value).toArray s = true := fun w h => atoms_spec (ws := (Cond.code y_R_init b_R_init 2 none :: bg_W)) B.pre w (List.mem_cons_of_mem _ h)
  have hown : s.vm.findClass "TimeWords$Row" = some m.cls := findClass_of_methodNamed B.named
  have hlocks := B.notSynchronized
  subst hsz
  have hD := hD0.self (sz := s.heap.size)
  generalize hAe : va_A ([(ro, .inr (1, [.null, .int 0]))]) s.heap.size = A at hD ⊢
  have hA : ∀ q : Nat, s.heap.size ≤ q → A q := fun q h => by rw [← hAe]; exact Or.inr h
  have hS : va_S A s.heap s.heap [] := va_S.rf
  have hl := lv_entry ([.ref ro, .int 8]) (n := 2) (Nat.le_of_ble_eq_true rfl)
  rw [lg_entry_eq]
  generalize (lg_sl ([.ref ro, .int 8]) ++ List.replicate (2 - (lg_sl ([.ref ro, .int 8])).length) Slot.unset).toArray = ls at hl ⊢
  have hl : lv_has ls 2 [(0, .ref ro), (1, .int 8)] := hl
  have hin : meth.name = "<init>" := (name_of_methodNamed B.named B.method).1
  refine lv_aload_n hx hb d_R_init_0 rfl (lv_at hl 0 rfl) ?_
  refine W.objInit hx hb hown (hw _ ml_R_3) (hw _ wi_OB_init) (hw _ wc_OB_init) rfl (by rw [hml]; exact hl.1) rfl d_R_init_1 (Nat.le_of_ble_eq_true rfl) (Nat.le_of_ble_eq_true rfl) ?_
  refine W.eq (g2 := F0 m 4 ls []) rfl ?_
  refine lv_aload_n hx hb d_R_init_4 rfl (lv_at hl 0 rfl) ?_
  refine lv_iload_n hx hb d_R_init_5 rfl (lv_at hl 1 rfl) ?_
  refine lv_if_ge (tgt := 13) hx hb d_R_init_6 (by decide) (fun c1 => ?_) (fun c1 => absurd c1 (by decide))
  refine lv_iload_n hx hb d_R_init_13 rfl (lv_at hl 1 rfl) ?_
  refine g_newi (N' := 8) hx hb (hw _ wa_int) hK hP hD hS hA (by decide) (by decide) (by decide) (Nat.le_of_ble_eq_true rfl) (Nat.le_of_ble_eq_true rfl) d_R_init_14 (fun q2 H hP hD hS => ?_)
  have hP : va_P D gC ([(ro, .inr (1, [.null, .int 0])), (q2, .inl (T.1, 8, .inl (fun _ => 0)))]) H := hP
  have hD : va_D A ([(ro, .inr (1, [.null, .int 0])), (q2, .inl (T.1, 8, .inl (fun _ => 0)))]) := hD
  refine W.widen (k := 1) (n := 8) (by omega) (by omega) ?_
  refine va_putF (D := D) (ci := 1) (v := .ref q2) (ty := .array .int) (C := "TimeWords$Row") (T := F_R) (N := 2) hx hb hw in_R ty_R ty_R_ok n_R hown hK hP hD hS 0 rfl rfl 0 (by decide) (hw _ fl_R_9) (fun _ h9 => h9) rfl hin rfl (by decide +kernel) rfl rfl (Nat.le_of_ble_eq_true rfl) d_R_init_16 (fun H locs hP hD hS => ?_)
  have hP : va_P D gC ([(ro, .inr (1, [.ref q2, .int 0])), (q2, .inl (T.1, 8, .inl (fun _ => 0)))]) H := hP
  have hD : va_D A ([(ro, .inr (1, [.ref q2, .int 0])), (q2, .inl (T.1, 8, .inl (fun _ => 0)))]) := hD
  refine lv_aload_n hx hb d_R_init_19 rfl (lv_at hl 0 rfl) ?_
  refine lv_iconst (v := 0) hx hb d_R_init_20 (by decide) ?_
  refine va_put (D := D) (ci := 1) (v := .int 0) (ty := .int) (C := "TimeWords$Row") (T := F_R) (N := 2) hx hb hw in_R ty_R ty_R_ok n_R hown hK hP hD hS 0 rfl rfl 1 (by decide) (hw _ fl_R_15) (fun _ h9 => h9) rfl (by decide +kernel) rfl rfl (Nat.le_of_ble_eq_true rfl) d_R_init_21 (fun H locs hP hD hS => ?_)
  have hP : va_P D gC ([(ro, .inr (1, [.ref q2, .int 0])), (q2, .inl (T.1, 8, .inl (fun _ => 0)))]) H := hP
  have hD : va_D A ([(ro, .inr (1, [.ref q2, .int 0])), (q2, .inl (T.1, 8, .inl (fun _ => 0)))]) := hD
  exact W.vret hx hb hr (fun t ht hW => ⟨⟨q2, rfl, trivial, by rw [ht]; exact hP, va_K.moved hW.alike hK, hD⟩, hS.F ht⟩) hS.2.2 d_R_init_24

set_option maxHeartbeats 4000000 in
set_option maxRecDepth 100000 in
theorem k_R_holds (l : Launch) (D : va_G) (T : gT) (κ : gS) (A : Nat → Prop) (ro ra k n : Nat) (f : Nat → Int32) (t9 si : Nat) (hy0 : k ≤ n) (hy1 : n ≤ 24) (hy2 : si < 6) (hy3 : t9 ≤ 24) : Met l y_R_holds (Cond.code y_R_holds b_R_holds 4 (some .boolean) :: bg_W) ({ frames := 4, cells := 0, slots := 0, locals := 85 }) (sPf κ A D T ([(ro, .inr (1, [.ref ra, .int (nI k)])), (ra, .inl (T.1, n, .inl f))]) [.ref ro, .int (nI t9), .ref (κ.1 (282 + 2 * si))]) (vp_Si (fun r : Int32 => (r = 1 ∧ c_bp f k t9 si) ∨ (r = 0 ∧ ¬ c_bp f k t9 si))) 0 0 (fun _ => False) := by
  refine Met.ofW (cc := b_R_holds) (maxL := 4) (ret := (some .boolean)) (by decide) rfl ?_
  intro p e s m args below meth c s₁ B hml hv
  obtain ⟨rfl, hP, hK, hF⟩ := hv
  have hx := B.exec
  have hb := B.bytes
  have hr := B.returns
  have hw : ∀ w ∈ bg_W, w.before ([.ref ro, .int (nI t9), .ref (κ.1 (282 + 2 * si))] : List Value).toArray s = true := fun w h => atoms_spec (ws := (Cond.code y_R_holds b_R_holds 4 (some .boolean) :: bg_W)) B.pre w (List.mem_cons_of_mem _ h)
  have hown : s.vm.findClass "TimeWords$Row" = some m.cls := findClass_of_methodNamed B.named
  have hlocks := B.notSynchronized
  have hS : va_S A s.heap s.heap [] := va_S.rf
  have hl := lv_entry ([.ref ro, .int (nI t9), .ref (κ.1 (282 + 2 * si))]) (n := 4) (Nat.le_of_ble_eq_true rfl)
  rw [lg_entry_eq]
  generalize (lg_sl ([.ref ro, .int (nI t9), .ref (κ.1 (282 + 2 * si))]) ++ List.replicate (4 - (lg_sl ([.ref ro, .int (nI t9), .ref (κ.1 (282 + 2 * si))])).length) Slot.unset).toArray = ls at hl ⊢
  have hl : lv_has ls 4 [(0, .ref ro), (1, .int (nI t9)), (2, .ref (κ.1 (282 + 2 * si)))] := hl
  have h7 : si < 7 := by omega
  have hL := sx_l si h7
  have hL0 := sx_p si hy2
  refine lv_iconst (v := 0) hx hb d_R_holds_0 (by decide) ?_
  refine lv_istore_n (lv' := [(3, .int 0), (0, .ref ro), (1, .int (nI t9)), (2, .ref (κ.1 (282 + 2 * si)))]) hx hb d_R_holds_1 rfl hl (by decide) rfl (fun ls hl => ?_)
  have loop : ∀ (nf : Nat) (j : Nat), (j ≤ sL.getD si 0) → (j = 0 ∨ t9 + j ≤ k) → (∀ i, i < j → f (t9 + i) = sX si i) → ∀ (ls : Array Slot), lv_has ls 4 [(0, .ref ro), (1, .int (nI t9)), (2, .ref (κ.1 (282 + 2 * si))), (3, .int (nI j))] → sL.getD si 0 - j < nf → W p l e (headSpec (Cond.code y_R_holds b_R_holds 4 (some .boolean) :: bg_W) ({ frames := 4, cells := 0, slots := 0, locals := 85 })).room s m ([.ref ro, .int (nI t9), .ref (κ.1 (282 + 2 * si))] : List Value).toArray below meth c s.heap [] 0 0 (MQ below (vp_Si (fun r : Int32 => (r = 1 ∧ c_bp f k t9 si) ∨ (r = 0 ∧ ¬ c_bp f k t9 si))) ([.ref ro, .int (nI t9), .ref (κ.1 (282 + 2 * si))] : List Value).toArray s 0 0 (fun _ => False)) (F0 m 2 ls []) := by
    intro nf
    induction nf with
    | zero => intro j hj hk hE ls hl hm; exact absurd hm (Nat.not_lt_zero _)
    | succ nf ih =>
      intro j hj hk hE ls hl hm
      refine lv_iload_n hx hb d_R_holds_2 rfl (lv_at hl 3 rfl) ?_
      refine lv_aload_n hx hb d_R_holds_3 rfl (lv_at hl 2 rfl) ?_
      have hPc : va_P D gC ([]) s.heap := pc0
      refine vp_callSi (va_Run.run (va_runV (As := []) (rest := [.int (nI j)]) ⟨hx, hb, hml, hown, hw⟩ (k_S_length l D T κ A si h7) (cwV 0 hw (bg_V ml_R_19 wi_S_length wv_S_length wz_S wc_S_length) rfl rfl rfl (by decide +kernel) ⟨Nat.le_of_ble_eq_true rfl, Nat.le_of_ble_eq_true rfl⟩) ⟨sPf_b, va_Orecv (hF.1 si h7).1 hS, sPf_p hPc hK hF hS⟩ rfl rfl hl.1 rfl (lv_room (Nat.le_of_ble_eq_true rfl)) d_R_holds_4 ⟨Nat.le_of_ble_eq_true rfl, Nat.le_of_ble_eq_true rfl⟩)) (fun r1 hr1 => ?_)
      replace hr1 := hr1.symm; subst hr1
      refine lv_icmp_ge (tgt := 33) hx hb d_R_holds_7 (by decide) (fun c2 => ?_) (fun c2 => ?_)
      · have c2 := nc_le (a := sL.getD si 0) (b := j) c2 (by omega) (by omega)
        refine lv_iconst (v := 1) hx hb d_R_holds_33 (by decide) ?_
        exact W.zret (v := 1) hx hb hr rfl (fun t ht hW => ⟨1, rfl, Or.inl ⟨rfl, by omega, fun i hi => hE i (by omega)⟩, ht⟩) (fun _ h => nomatch h) d_R_holds_34
      · have c2 := nc_nle (a := sL.getD si 0) (b := j) c2 (by omega) (by omega)
        refine lv_aload_n hx hb d_R_holds_10 rfl (lv_at hl 0 rfl) ?_
        refine lv_iload_n hx hb d_R_holds_11 rfl (lv_at hl 1 rfl) ?_
        refine lv_iload_n hx hb d_R_holds_12 rfl (lv_at hl 3 rfl) ?_
        refine lv_iadd hx hb d_R_holds_13 ?_
        rw [show (nI t9) + (nI j) = nI (t9 + j) from nI_add t9 j]
        have hPc : va_P D gC ([(ro, .inr (1, [.ref ra, .int (nI k)])), (ra, .inl (T.1, n, .inl f))]) s.heap := (pc1 (hP 0 _ rfl) (pc1 (hP 1 _ rfl) pc0))
        refine vp_callSi (va_Run.run (va_runV (As := [.int (nI (t9 + j))]) (rest := []) ⟨hx, hb, hml, hown, hw⟩ (k_R_at l D T ro ra k n f (nI (t9 + j)) hy0 hy1) (cwV 1 hw (bg_V ml_R_32 wi_R_at wv_R_at wz_R wc_R_at) rfl rfl rfl (by decide +kernel) ⟨Nat.le_of_ble_eq_true rfl, Nat.le_of_ble_eq_true rfl⟩) ⟨sP_b, va_recv hK hPc (ci := 1) (q0 := 0) rfl rfl, sP_p hPc hK⟩ rfl rfl hl.1 rfl (lv_room (Nat.le_of_ble_eq_true rfl)) d_R_holds_14 ⟨Nat.le_of_ble_eq_true rfl, Nat.le_of_ble_eq_true rfl⟩)) (fun r3 hr3 => ?_)
        replace hr3 := hr3.symm; subst hr3
        by_cases hin : t9 + j < k
        · rw [at_in hin (by omega)]
          refine lv_aload_n hx hb d_R_holds_17 rfl (lv_at hl 2 rfl) ?_
          refine lv_iload_n hx hb d_R_holds_18 rfl (lv_at hl 3 rfl) ?_
          have hPc : va_P D gC ([]) s.heap := pc0
          refine vp_callSi (va_Run.run (va_runV (As := [.int (nI j)]) (rest := [.int (f (t9 + j))]) ⟨hx, hb, hml, hown, hw⟩ (k_S_charAt l D T κ A si j h7 (by omega)) (cwV 1 hw (bg_V ml_R_24 wi_S_charAt wv_S_charAt wz_S wc_S_charAt) rfl rfl rfl (by decide +kernel) ⟨Nat.le_of_ble_eq_true rfl, Nat.le_of_ble_eq_true rfl⟩) ⟨sPf_b, va_Orecv (hF.1 si h7).1 hS, sPf_p hPc hK hF hS⟩ rfl rfl hl.1 rfl (lv_room (Nat.le_of_ble_eq_true rfl)) d_R_holds_19 ⟨Nat.le_of_ble_eq_true rfl, Nat.le_of_ble_eq_true rfl⟩)) (fun r4 hr4 => ?_)
          replace hr4 := hr4.symm; subst hr4
          refine lv_icmp_eq (tgt := 27) hx hb d_R_holds_22 (by decide) (fun c5 => ?_) (fun c5 => ?_)
          · refine lv_iinc (v := nI (j + 1)) (lv' := [(3, .int (nI (j + 1))), (0, .ref ro), (1, .int (nI t9)), (2, .ref (κ.1 (282 + 2 * si)))]) hx hb d_R_holds_27 hl (k := 3) rfl (nI_add j 1) (by decide) rfl (fun ls hl => ?_)
            refine lv_goto (tgt := 2) hx hb d_R_holds_30 (by decide) ?_
            exact ih (j + 1) (by omega) (by omega) (lt_s hE c5) ls (lv_sub hl [1, 2, 3, 0] rfl) (by omega)
          · refine lv_iconst (v := 0) hx hb d_R_holds_25 (by decide) ?_
            exact W.zret (v := 0) hx hb hr rfl (fun t ht hW => ⟨0, rfl, (Or.inr ⟨rfl, fun q => c5 (q.2 j (by omega))⟩), ht⟩) (fun _ h => nomatch h) d_R_holds_26
        · rw [at_out (by omega) (by omega)]
          refine lv_aload_n hx hb d_R_holds_17 rfl (lv_at hl 2 rfl) ?_
          refine lv_iload_n hx hb d_R_holds_18 rfl (lv_at hl 3 rfl) ?_
          have hPc : va_P D gC ([]) s.heap := pc0
          refine vp_callSi (va_Run.run (va_runV (As := [.int (nI j)]) (rest := [.int (-1)]) ⟨hx, hb, hml, hown, hw⟩ (k_S_charAt l D T κ A si j h7 (by omega)) (cwV 1 hw (bg_V ml_R_24 wi_S_charAt wv_S_charAt wz_S wc_S_charAt) rfl rfl rfl (by decide +kernel) ⟨Nat.le_of_ble_eq_true rfl, Nat.le_of_ble_eq_true rfl⟩) ⟨sPf_b, va_Orecv (hF.1 si h7).1 hS, sPf_p hPc hK hF hS⟩ rfl rfl hl.1 rfl (lv_room (Nat.le_of_ble_eq_true rfl)) d_R_holds_19 ⟨Nat.le_of_ble_eq_true rfl, Nat.le_of_ble_eq_true rfl⟩)) (fun r6 hr6 => ?_)
          replace hr6 := hr6.symm; subst hr6
          refine lv_icmp_eq (tgt := 27) hx hb d_R_holds_22 (by decide) (fun c7 => absurd c7 ((sx_m1 si h7 j (by omega)))) (fun c7 => ?_)
          refine lv_iconst (v := 0) hx hb d_R_holds_25 (by decide) ?_
          exact W.zret (v := 0) hx hb hr rfl (fun t ht hW => ⟨0, rfl, (Or.inr ⟨rfl, fun q => by have := q.1; omega⟩), ht⟩) (fun _ h => nomatch h) d_R_holds_26
  exact loop ((sL.getD si 0 - 0) + 1) 0 (Nat.zero_le _) (Or.inl rfl) lt_0 ls (lv_sub hl [1, 2, 3, 0] rfl) (Nat.lt_succ_self _)

set_option maxHeartbeats 4000000 in
set_option maxRecDepth 100000 in
theorem k_R_addText (l : Launch) (D : va_G) (T : gT) (κ : gS) (ro ra k n : Nat) (f : Nat → Int32) (sz : Nat) (si : Nat) (hy0 : k + sL.getD si 0 ≤ n) (hy1 : n ≤ 24) (hy2 : si < 7) : Met l y_R_addText (Cond.code y_R_addText b_R_addText 3 none :: bg_W) ({ frames := 4, cells := 0, slots := 0, locals := 85 }) (qPf κ D T ([(ro, .inr (1, [.ref ra, .int (nI k)])), (ra, .inl (T.1, n, .inl f))]) [.ref ro, .ref (κ.1 (282 + 2 * si))] sz) (va_Qv (fun u : Int32 × (Nat → Int32) => match u with | (w1, g) => w1 = nI (k + sL.getD si 0) ∧ cpI f (sX si) g k (sL.getD si 0)) (qB D T (va_A ([(ro, .inr (1, [.ref ra, .int (nI k)])), (ra, .inl (T.1, n, .inl f))]) sz) (fun u : Int32 × (Nat → Int32) => match u with | (w1, g) => [(ro, .inr (1, [.ref ra, .int w1])), (ra, .inl (T.1, n, .inl g))])) (va_A ([(ro, .inr (1, [.ref ra, .int (nI k)])), (ra, .inl (T.1, n, .inl f))]) sz)) 0 0 (va_A ([(ro, .inr (1, [.ref ra, .int (nI k)])), (ra, .inl (T.1, n, .inl f))]) sz) := by
  refine Met.ofW (cc := b_R_addText) (maxL := 3) (ret := none) (by decide) rfl ?_
  intro p e s m args below meth c s₁ B hml hv
  obtain ⟨rfl, hsz, hP, hK, hD0, hF⟩ := hv
  have hx := B.exec
  have hb := B.bytes
  have hr := B.returns
  have hw : ∀ w ∈ bg_W, w.before ([.ref ro, .ref (κ.1 (282 + 2 * si))] : List Value).toArray s = true := fun w h => atoms_spec (ws := (Cond.code y_R_addText b_R_addText 3 none :: bg_W)) B.pre w (List.mem_cons_of_mem _ h)
  have hown : s.vm.findClass "TimeWords$Row" = some m.cls := findClass_of_methodNamed B.named
  have hlocks := B.notSynchronized
  subst hsz
  have hD := hD0.self (sz := s.heap.size)
  generalize hAe : va_A ([(ro, .inr (1, [.ref ra, .int (nI k)])), (ra, .inl (T.1, n, .inl f))]) s.heap.size = A at hD hF ⊢
  have hA : ∀ q : Nat, s.heap.size ≤ q → A q := fun q h => by rw [← hAe]; exact Or.inr h
  have hS : va_S A s.heap s.heap [] := va_S.rf
  have hl := lv_entry ([.ref ro, .ref (κ.1 (282 + 2 * si))]) (n := 3) (Nat.le_of_ble_eq_true rfl)
  rw [lg_entry_eq]
  generalize (lg_sl ([.ref ro, .ref (κ.1 (282 + 2 * si))]) ++ List.replicate (3 - (lg_sl ([.ref ro, .ref (κ.1 (282 + 2 * si))])).length) Slot.unset).toArray = ls at hl ⊢
  have hl : lv_has ls 3 [(0, .ref ro), (1, .ref (κ.1 (282 + 2 * si)))] := hl
  have hL := sx_l si hy2
  refine lv_iconst (v := 0) hx hb d_R_addText_0 (by decide) ?_
  refine lv_istore_n (lv' := [(2, .int 0), (0, .ref ro), (1, .ref (κ.1 (282 + 2 * si)))]) hx hb d_R_addText_1 rfl hl (by decide) rfl (fun ls hl => ?_)
  have loop : ∀ (nf : Nat) (j : Nat) (g : Nat → Int32), (j ≤ sL.getD si 0) → (cpI f (sX si) g k j) → ∀ (H : Heap) (locs : List Loc), va_P D gC ([(ro, .inr (1, [.ref ra, .int (nI (k + j))])), (ra, .inl (T.1, n, .inl g))]) H → va_D A ([(ro, .inr (1, [.ref ra, .int (nI (k + j))])), (ra, .inl (T.1, n, .inl g))]) → va_S A s.heap H locs → ∀ (ls : Array Slot), lv_has ls 3 [(0, .ref ro), (1, .ref (κ.1 (282 + 2 * si))), (2, .int (nI j))] → sL.getD si 0 - j < nf → W p l e (headSpec (Cond.code y_R_addText b_R_addText 3 none :: bg_W) ({ frames := 4, cells := 0, slots := 0, locals := 85 })).room s m ([.ref ro, .ref (κ.1 (282 + 2 * si))] : List Value).toArray below meth c H locs 0 0 (MQ below (va_Qv (fun u : Int32 × (Nat → Int32) => match u with | (w1, g) => w1 = nI (k + sL.getD si 0) ∧ cpI f (sX si) g k (sL.getD si 0)) (qB D T A (fun u : Int32 × (Nat → Int32) => match u with | (w1, g) => [(ro, .inr (1, [.ref ra, .int w1])), (ra, .inl (T.1, n, .inl g))])) A) ([.ref ro, .ref (κ.1 (282 + 2 * si))] : List Value).toArray s 0 0 A) (F0 m 2 ls []) := by
    intro nf
    induction nf with
    | zero => intro j g hj hC H locs hP hD hS ls hl hm; exact absurd hm (Nat.not_lt_zero _)
    | succ nf ih =>
      intro j g hj hC H locs hP hD hS ls hl hm
      refine lv_iload_n hx hb d_R_addText_2 rfl (lv_at hl 2 rfl) ?_
      refine lv_aload_n hx hb d_R_addText_3 rfl (lv_at hl 1 rfl) ?_
      have hPc : va_P D gC ([]) H := pc0
      refine vp_callSi (va_Run.run (va_runV (As := []) (rest := [.int (nI j)]) ⟨hx, hb, hml, hown, hw⟩ (k_S_length l D T κ A si hy2) (cwV 0 hw (bg_V ml_R_19 wi_S_length wv_S_length wz_S wc_S_length) rfl rfl rfl (by decide +kernel) ⟨Nat.le_of_ble_eq_true rfl, Nat.le_of_ble_eq_true rfl⟩) ⟨sPf_b, va_Orecv (hF.1 si hy2).1 hS, sPf_p hPc hK hF hS⟩ rfl rfl hl.1 rfl (lv_room (Nat.le_of_ble_eq_true rfl)) d_R_addText_4 ⟨Nat.le_of_ble_eq_true rfl, Nat.le_of_ble_eq_true rfl⟩)) (fun r1 hr1 => ?_)
      replace hr1 := hr1.symm; subst hr1
      refine lv_icmp_ge (tgt := 25) hx hb d_R_addText_7 (by decide) (fun c2 => ?_) (fun c2 => ?_)
      · have c2 := nc_le (a := sL.getD si 0) (b := j) c2 (by omega) (by omega)
        exact W.vret hx hb hr (fun t ht hW => ⟨⟨(nI (k + j), g), rfl, (by have e9 : j = sL.getD si 0 := (by omega); rw [e9] at hC; rw [e9]; exact ⟨rfl, hC⟩), by rw [ht]; exact hP, va_K.moved hW.alike hK, hD⟩, hS.F ht⟩) hS.2.2 d_R_addText_25
      · have c2 := nc_nle (a := sL.getD si 0) (b := j) c2 (by omega) (by omega)
        refine lv_aload_n hx hb d_R_addText_10 rfl (lv_at hl 0 rfl) ?_
        refine lv_aload_n hx hb d_R_addText_11 rfl (lv_at hl 1 rfl) ?_
        refine lv_iload_n hx hb d_R_addText_12 rfl (lv_at hl 2 rfl) ?_
        have hPc : va_P D gC ([]) H := pc0
        refine vp_callSi (va_Run.run (va_runV (As := [.int (nI j)]) (rest := [.ref ro]) ⟨hx, hb, hml, hown, hw⟩ (k_S_charAt l D T κ A si j hy2 (by omega)) (cwV 1 hw (bg_V ml_R_24 wi_S_charAt wv_S_charAt wz_S wc_S_charAt) rfl rfl rfl (by decide +kernel) ⟨Nat.le_of_ble_eq_true rfl, Nat.le_of_ble_eq_true rfl⟩) ⟨sPf_b, va_Orecv (hF.1 si hy2).1 hS, sPf_p hPc hK hF hS⟩ rfl rfl hl.1 rfl (lv_room (Nat.le_of_ble_eq_true rfl)) d_R_addText_13 ⟨Nat.le_of_ble_eq_true rfl, Nat.le_of_ble_eq_true rfl⟩)) (fun r3 hr3 => ?_)
        replace hr3 := hr3.symm; subst hr3
        have hPc : va_P D gC ([(ro, .inr (1, [.ref ra, .int (nI (k + j))])), (ra, .inl (T.1, n, .inl g))]) H := (pc1 (hP 0 _ rfl) (pc1 (hP 1 _ rfl) pc0))
        have hDc : va_D A ([(ro, .inr (1, [.ref ra, .int (nI (k + j))])), (ra, .inl (T.1, n, .inl g))]) := hD.sub (ws' := [(ro, .inr (1, [.ref ra, .int (nI (k + j))])), (ra, .inl (T.1, n, .inl g))]) [0, 1] (by decide) rfl
        refine g_subv (X := [(ro, .inr (1, [.ref ra, .int (nI (k + j))])), (ra, .inl (T.1, n, .inl g))]) (pl := []) (wr := []) (cx := [(ro, .inr (1, [.ref ra, .int (nI (k + j))])), (ra, .inl (T.1, n, .inl g))]) (va_runV (As := [.int (sX si j)]) (rest := []) ⟨hx, hb, hml, hown, hw⟩ (k_R_add l D T ro ra (k + j) n g H.size (sX si j) (by omega) hy1) (cwV 1 hw (bg_V ml_R_28 wi_R_add wv_R_add wz_R wc_R_add) rfl rfl rfl (by decide +kernel) ⟨Nat.le_of_ble_eq_true rfl, Nat.le_of_ble_eq_true rfl⟩) ⟨qP_b, va_recv hK hPc (ci := 1) (q0 := 0) rfl rfl, qP_p hPc hK hDc⟩ rfl rfl hl.1 rfl (lv_room (Nat.le_of_ble_eq_true rfl)) d_R_addText_16 ⟨Nat.le_of_ble_eq_true rfl, Nat.le_of_ble_eq_true rfl⟩) (by rw [List.append_nil]; exact hP) (by rw [List.append_nil]; exact hD) hS hA [0, 1] [] rfl rfl (by decide) (by decide) (fun u9 H locs hr4 hP hD hS => ?_)
        obtain ⟨u5, u6⟩ := u9
        dsimp only at hr4 hP hD
        obtain ⟨q0, q1⟩ := hr4
        replace q0 := q0.symm; subst q0; replace q1 := q1.symm; subst q1
        have hP : va_P D gC ([(ro, .inr (1, [.ref ra, .int (nI ((k + j) + 1))])), (ra, .inl (T.1, n, .inl (upd g (k + j) (sX si j))))]) H := (by rw [List.append_nil] at hP; exact hP.sub [0, 1] rfl)
        have hD : va_D A ([(ro, .inr (1, [.ref ra, .int (nI ((k + j) + 1))])), (ra, .inl (T.1, n, .inl (upd g (k + j) (sX si j))))]) := (by rw [List.append_nil] at hD; exact hD.sub [0, 1] (by decide) rfl)
        refine lv_iinc (v := nI (j + 1)) (lv' := [(2, .int (nI (j + 1))), (0, .ref ro), (1, .ref (κ.1 (282 + 2 * si)))]) hx hb d_R_addText_19 hl (k := 2) rfl (nI_add j 1) (by decide) rfl (fun ls hl => ?_)
        refine lv_goto (tgt := 2) hx hb d_R_addText_22 (by decide) ?_
        exact ih (j + 1) (upd g (k + j) (sX si j)) (by omega) (cpI_s hC) _ _ hP hD hS ls (lv_sub hl [1, 2, 0] rfl) (by omega)
  exact loop ((sL.getD si 0 - 0) + 1) 0 f (Nat.zero_le _) cpI_0 _ _ hP hD hS ls (lv_sub hl [1, 2, 0] rfl) (Nat.lt_succ_self _)

set_option maxHeartbeats 4000000 in
set_option maxRecDepth 100000 in
theorem k_MA_floorDiv (l : Launch) (x y : Int32) (hy0 : ¬ y = 0) : Met l y_MA_floorDiv (Cond.code y_MA_floorDiv b_MA_floorDiv 3 (some .int) :: bg_W) ({ frames := 0, cells := 0, slots := 0, locals := 0 }) (nP [.int x, .int y]) (vp_Si (fun r : Int32 => r = c_fd x y)) 0 0 (fun _ => False) := by
  refine met_ofP (cc := b_MA_floorDiv) (maxL := 3) (ret := (some .int)) (Jvm.Free.JP.mathPlain rfl (by decide)) rfl ?_
  intro p e s m args below meth c s₁ B hml hv
  obtain ⟨rfl, -⟩ := hv
  have hx := B.exec
  have hb := B.bytes
  have hr := B.returns
  have hw : ∀ w ∈ bg_W, w.before ([.int x, .int y] : List Value).toArray s = true := fun w h => atoms_spec (ws := (Cond.code y_MA_floorDiv b_MA_floorDiv 3 (some .int) :: bg_W)) B.pre w (List.mem_cons_of_mem _ h)
  have hown : s.vm.findClass "java/lang/Math" = some m.cls := findClass_of_methodNamed B.named
  have hlocks := B.notSynchronized
  have hl := lv_entry ([.int x, .int y]) (n := 3) (Nat.le_of_ble_eq_true rfl)
  rw [lg_entry_eq]
  generalize (lg_sl ([.int x, .int y]) ++ List.replicate (3 - (lg_sl ([.int x, .int y])).length) Slot.unset).toArray = ls at hl ⊢
  have hl : lv_has ls 3 [(0, .int x), (1, .int y)] := hl
  refine lv_iload_n hx hb d_MA_floorDiv_0 rfl (lv_at hl 0 rfl) ?_
  refine lv_iload_n hx hb d_MA_floorDiv_1 rfl (lv_at hl 1 rfl) ?_
  refine lv_idiv hx hb d_MA_floorDiv_2 hy0 ?_
  refine lv_istore_n (lv' := [(2, .int (x / y)), (0, .int x), (1, .int y)]) hx hb d_MA_floorDiv_3 rfl hl (by decide) rfl (fun ls hl => ?_)
  refine lv_iload_n hx hb d_MA_floorDiv_4 rfl (lv_at hl 1 rfl) ?_
  refine lv_iload_n hx hb d_MA_floorDiv_5 rfl (lv_at hl 2 rfl) ?_
  refine lv_ixor hx hb d_MA_floorDiv_6 ?_
  refine lv_if_ge (tgt := 21) hx hb d_MA_floorDiv_7 (by decide) (fun c1 => ?_) (fun c1 => ?_)
  · refine lv_iload_n hx hb d_MA_floorDiv_21 rfl (lv_at hl 0 rfl) ?_
    exact W.iret (v := x / y) hx hb hr (fun t ht hW => ⟨x / y, rfl, (by simp only [c_fd, if_pos c1]), ht⟩) (fun _ h => nomatch h) d_MA_floorDiv_22
  · refine lv_iload_n hx hb d_MA_floorDiv_10 rfl (lv_at hl 0 rfl) ?_
    refine lv_iload_n hx hb d_MA_floorDiv_11 rfl (lv_at hl 2 rfl) ?_
    refine lv_imul hx hb d_MA_floorDiv_12 ?_
    refine lv_iload_n hx hb d_MA_floorDiv_13 rfl (lv_at hl 1 rfl) ?_
    refine lv_icmp_eq (tgt := 21) hx hb d_MA_floorDiv_14 (by decide) (fun c2 => ?_) (fun c2 => ?_)
    · refine lv_iload_n hx hb d_MA_floorDiv_21 rfl (lv_at hl 0 rfl) ?_
      exact W.iret (v := x / y) hx hb hr (fun t ht hW => ⟨x / y, rfl, (by simp only [c_fd, if_neg c1, if_pos c2]), ht⟩) (fun _ h => nomatch h) d_MA_floorDiv_22
    · refine lv_iload_n hx hb d_MA_floorDiv_17 rfl (lv_at hl 0 rfl) ?_
      refine lv_iconst (v := 1) hx hb d_MA_floorDiv_18 (by decide) ?_
      refine lv_isub hx hb d_MA_floorDiv_19 ?_
      exact W.iret (v := (x / y) - 1) hx hb hr (fun t ht hW => ⟨(x / y) - 1, rfl, (by simp only [c_fd, if_neg c1, if_neg c2]), ht⟩) (fun _ h => nomatch h) d_MA_floorDiv_20

set_option maxHeartbeats 4000000 in
set_option maxRecDepth 100000 in
theorem k_MA_floorMod (l : Launch) (x y : Int32) (hy0 : ¬ y = 0) : Met l y_MA_floorMod (Cond.code y_MA_floorMod b_MA_floorMod 3 (some .int) :: bg_W) ({ frames := 0, cells := 0, slots := 0, locals := 0 }) (nP [.int x, .int y]) (vp_Si (fun r : Int32 => r = c_fm x y)) 0 0 (fun _ => False) := by
  refine met_ofP (cc := b_MA_floorMod) (maxL := 3) (ret := (some .int)) (Jvm.Free.JP.mathPlain rfl (by decide)) rfl ?_
  intro p e s m args below meth c s₁ B hml hv
  obtain ⟨rfl, -⟩ := hv
  have hx := B.exec
  have hb := B.bytes
  have hr := B.returns
  have hw : ∀ w ∈ bg_W, w.before ([.int x, .int y] : List Value).toArray s = true := fun w h => atoms_spec (ws := (Cond.code y_MA_floorMod b_MA_floorMod 3 (some .int) :: bg_W)) B.pre w (List.mem_cons_of_mem _ h)
  have hown : s.vm.findClass "java/lang/Math" = some m.cls := findClass_of_methodNamed B.named
  have hlocks := B.notSynchronized
  have hl := lv_entry ([.int x, .int y]) (n := 3) (Nat.le_of_ble_eq_true rfl)
  rw [lg_entry_eq]
  generalize (lg_sl ([.int x, .int y]) ++ List.replicate (3 - (lg_sl ([.int x, .int y])).length) Slot.unset).toArray = ls at hl ⊢
  have hl : lv_has ls 3 [(0, .int x), (1, .int y)] := hl
  refine lv_iload_n hx hb d_MA_floorMod_0 rfl (lv_at hl 0 rfl) ?_
  refine lv_iload_n hx hb d_MA_floorMod_1 rfl (lv_at hl 1 rfl) ?_
  refine lv_irem hx hb d_MA_floorMod_2 hy0 ?_
  refine lv_istore_n (lv' := [(2, .int (x - x / y * y)), (0, .int x), (1, .int y)]) hx hb d_MA_floorMod_3 rfl hl (by decide) rfl (fun ls hl => ?_)
  refine lv_iload_n hx hb d_MA_floorMod_4 rfl (lv_at hl 1 rfl) ?_
  refine lv_iload_n hx hb d_MA_floorMod_5 rfl (lv_at hl 2 rfl) ?_
  refine lv_ixor hx hb d_MA_floorMod_6 ?_
  refine lv_if_ge (tgt := 18) hx hb d_MA_floorMod_7 (by decide) (fun c1 => ?_) (fun c1 => ?_)
  · refine lv_iload_n hx hb d_MA_floorMod_18 rfl (lv_at hl 0 rfl) ?_
    exact W.iret (v := x - x / y * y) hx hb hr (fun t ht hW => ⟨x - x / y * y, rfl, (by simp only [c_fm, if_pos c1]), ht⟩) (fun _ h => nomatch h) d_MA_floorMod_19
  · refine lv_iload_n hx hb d_MA_floorMod_10 rfl (lv_at hl 0 rfl) ?_
    refine lv_if_eq (tgt := 18) hx hb d_MA_floorMod_11 (by decide) (fun c2 => ?_) (fun c2 => ?_)
    · refine lv_iload_n hx hb d_MA_floorMod_18 rfl (lv_at hl 0 rfl) ?_
      exact W.iret (v := x - x / y * y) hx hb hr (fun t ht hW => ⟨x - x / y * y, rfl, (by simp only [c_fm, if_neg c1, if_pos c2]), ht⟩) (fun _ h => nomatch h) d_MA_floorMod_19
    · refine lv_iload_n hx hb d_MA_floorMod_14 rfl (lv_at hl 0 rfl) ?_
      refine lv_iload_n hx hb d_MA_floorMod_15 rfl (lv_at hl 2 rfl) ?_
      refine lv_iadd hx hb d_MA_floorMod_16 ?_
      exact W.iret (v := (x - x / y * y) + y) hx hb hr (fun t ht hW => ⟨(x - x / y * y) + y, rfl, (by simp only [c_fm, if_neg c1, if_neg c2]), ht⟩) (fun _ h => nomatch h) d_MA_floorMod_17

set_option maxHeartbeats 4000000 in
set_option maxRecDepth 100000 in
theorem k_P_init (l : Launch) (D : va_G) (T : gT) (po : Nat) (sz : Nat) (x y : Int32) (yq : Nat) : Met l y_P_init (Cond.code y_P_init b_P_init 4 none :: bg_W) ({ frames := 1, cells := 0, slots := 0, locals := 12 }) (qP D T ([(po, .inr (3, [.int 0, .int 0, .null]))]) [.ref po, .int x, .int y, .ref yq] sz) (va_Qv (fun _u : Unit => True) (qB D T (va_A ([(po, .inr (3, [.int 0, .int 0, .null]))]) sz) (fun _u : Unit => [(po, .inr (3, [.int x, .int y, .ref yq]))])) (va_A ([(po, .inr (3, [.int 0, .int 0, .null]))]) sz)) 0 0 (va_A ([(po, .inr (3, [.int 0, .int 0, .null]))]) sz) := by
  refine Met.ofW (cc := b_P_init) (maxL := 4) (ret := none) (by decide) rfl ?_
  intro p e s m args below meth c s₁ B hml hv
  obtain ⟨rfl, hsz, hP, hK, hD0⟩ := hv
  have hx := B.exec
  have hb := B.bytes
  have hr := B.returns
  have hw : ∀ w ∈ bg_W, w.before ([.ref po, .int x, .int y, .ref yq] : List Value).toArray s = true := fun w h => atoms_spec (ws := (Cond.code y_P_init b_P_init 4 none :: bg_W)) B.pre w (List.mem_cons_of_mem _ h)
  have hown : s.vm.findClass "TimeWords$Phase" = some m.cls := findClass_of_methodNamed B.named
  have hlocks := B.notSynchronized
  subst hsz
  have hD := hD0.self (sz := s.heap.size)
  generalize hAe : va_A ([(po, .inr (3, [.int 0, .int 0, .null]))]) s.heap.size = A at hD ⊢
  have hA : ∀ q : Nat, s.heap.size ≤ q → A q := fun q h => by rw [← hAe]; exact Or.inr h
  have hS : va_S A s.heap s.heap [] := va_S.rf
  have hl := lv_entry ([.ref po, .int x, .int y, .ref yq]) (n := 4) (Nat.le_of_ble_eq_true rfl)
  rw [lg_entry_eq]
  generalize (lg_sl ([.ref po, .int x, .int y, .ref yq]) ++ List.replicate (4 - (lg_sl ([.ref po, .int x, .int y, .ref yq])).length) Slot.unset).toArray = ls at hl ⊢
  have hl : lv_has ls 4 [(0, .ref po), (1, .int x), (2, .int y), (3, .ref yq)] := hl
  have hin : meth.name = "<init>" := (name_of_methodNamed B.named B.method).1
  refine lv_aload_n hx hb d_P_init_0 rfl (lv_at hl 0 rfl) ?_
  refine W.objInit hx hb hown (hw _ ml_P_1) (hw _ wi_OB_init) (hw _ wc_OB_init) rfl (by rw [hml]; exact hl.1) rfl d_P_init_1 (Nat.le_of_ble_eq_true rfl) (Nat.le_of_ble_eq_true rfl) ?_
  refine W.eq (g2 := F0 m 4 ls []) rfl ?_
  refine lv_aload_n hx hb d_P_init_4 rfl (lv_at hl 0 rfl) ?_
  refine lv_iload_n hx hb d_P_init_5 rfl (lv_at hl 1 rfl) ?_
  refine va_putF (D := D) (ci := 3) (v := .int x) (ty := .int) (C := "TimeWords$Phase") (T := F_P) (N := 3) hx hb hw in_P ty_P ty_P_ok n_P hown hK hP hD hS 0 rfl rfl 0 (by decide) (hw _ fl_P_7) (fun _ h9 => h9) rfl hin rfl (by decide +kernel) rfl rfl (Nat.le_of_ble_eq_true rfl) d_P_init_6 (fun H locs hP hD hS => ?_)
  have hP : va_P D gC ([(po, .inr (3, [.int x, .int 0, .null]))]) H := hP
  have hD : va_D A ([(po, .inr (3, [.int x, .int 0, .null]))]) := hD
  refine lv_aload_n hx hb d_P_init_9 rfl (lv_at hl 0 rfl) ?_
  refine lv_iload_n hx hb d_P_init_10 rfl (lv_at hl 2 rfl) ?_
  refine va_putF (D := D) (ci := 3) (v := .int y) (ty := .int) (C := "TimeWords$Phase") (T := F_P) (N := 3) hx hb hw in_P ty_P ty_P_ok n_P hown hK hP hD hS 0 rfl rfl 1 (by decide) (hw _ fl_P_13) (fun _ h9 => h9) rfl hin rfl (by decide +kernel) rfl rfl (Nat.le_of_ble_eq_true rfl) d_P_init_11 (fun H locs hP hD hS => ?_)
  have hP : va_P D gC ([(po, .inr (3, [.int x, .int y, .null]))]) H := hP
  have hD : va_D A ([(po, .inr (3, [.int x, .int y, .null]))]) := hD
  refine lv_aload_n hx hb d_P_init_14 rfl (lv_at hl 0 rfl) ?_
  refine lv_aload_n hx hb d_P_init_15 rfl (lv_at hl 3 rfl) ?_
  refine va_putF (D := D) (ci := 3) (v := .ref yq) (ty := .object "TimeWords$Years") (C := "TimeWords$Phase") (T := F_P) (N := 3) hx hb hw in_P ty_P ty_P_ok n_P hown hK hP hD hS 0 rfl rfl 2 (by decide) (hw _ fl_P_16) (fun _ h9 => h9) rfl hin rfl (by decide +kernel) rfl rfl (Nat.le_of_ble_eq_true rfl) d_P_init_16 (fun H locs hP hD hS => ?_)
  have hP : va_P D gC ([(po, .inr (3, [.int x, .int y, .ref yq]))]) H := hP
  have hD : va_D A ([(po, .inr (3, [.int x, .int y, .ref yq]))]) := hD
  exact W.vret hx hb hr (fun t ht hW => ⟨⟨(), rfl, trivial, by rw [ht]; exact hP, va_K.moved hW.alike hK, hD⟩, hS.F ht⟩) hS.2.2 d_P_init_19

set_option maxHeartbeats 4000000 in
set_option maxRecDepth 100000 in
theorem k_N_init (l : Launch) (D : va_G) (T : gT) (κ : gS) (no ro ra k n : Nat) (f : Nat → Int32) (sz : Nat) (hy0 : k ≤ 8) (hy1 : k ≤ n) (hy2 : n ≤ 24) : Met l y_N_init (Cond.code y_N_init b_N_init 2 none :: bg_W) ({ frames := 4, cells := 3, slots := 13, locals := 72 }) (qPf κ D T ([(no, .inr (4, [.null, .null, .null])), (ro, .inr (1, [.ref ra, .int (nI k)])), (ra, .inl (T.1, n, .inl f))]) [.ref no, .ref ro] sz) (va_Qv (fun u : Nat × Nat × Nat × (Nat → Int32) => match u with | (q1, q2, q3, g) => cpI (fun _ => 0) f g 0 k) (qB D T (va_A ([(no, .inr (4, [.null, .null, .null])), (ro, .inr (1, [.ref ra, .int (nI k)])), (ra, .inl (T.1, n, .inl f))]) sz) (fun u : Nat × Nat × Nat × (Nat → Int32) => match u with | (q1, q2, q3, g) => [(no, .inr (4, [.ref q1, .ref q3, .null])), (ro, .inr (1, [.ref ra, .int (nI k)])), (ra, .inl (T.1, n, .inl f)), (q1, .inr (1, [.ref q2, .int (nI k)])), (q2, .inl (T.1, 8, .inl g)), (q3, .inr (0, [.ref κ.2.2.1, .int 0, .int 0]))])) (va_A ([(no, .inr (4, [.null, .null, .null])), (ro, .inr (1, [.ref ra, .int (nI k)])), (ra, .inl (T.1, n, .inl f))]) sz)) 3 13 (va_A ([(no, .inr (4, [.null, .null, .null])), (ro, .inr (1, [.ref ra, .int (nI k)])), (ra, .inl (T.1, n, .inl f))]) sz) := by
  refine Met.ofW (cc := b_N_init) (maxL := 2) (ret := none) (by decide) rfl ?_
  intro p e s m args below meth c s₁ B hml hv
  obtain ⟨rfl, hsz, hP, hK, hD0, hF⟩ := hv
  have hx := B.exec
  have hb := B.bytes
  have hr := B.returns
  have hw : ∀ w ∈ bg_W, w.before ([.ref no, .ref ro] : List Value).toArray s = true := fun w h => atoms_spec (ws := (Cond.code y_N_init b_N_init 2 none :: bg_W)) B.pre w (List.mem_cons_of_mem _ h)
  have hown : s.vm.findClass "TimeWords$Name" = some m.cls := findClass_of_methodNamed B.named
  have hlocks := B.notSynchronized
  subst hsz
  have hD := hD0.self (sz := s.heap.size)
  generalize hAe : va_A ([(no, .inr (4, [.null, .null, .null])), (ro, .inr (1, [.ref ra, .int (nI k)])), (ra, .inl (T.1, n, .inl f))]) s.heap.size = A at hD hF ⊢
  have hA : ∀ q : Nat, s.heap.size ≤ q → A q := fun q h => by rw [← hAe]; exact Or.inr h
  have hS : va_S A s.heap s.heap [] := va_S.rf
  have hl := lv_entry ([.ref no, .ref ro]) (n := 2) (Nat.le_of_ble_eq_true rfl)
  rw [lg_entry_eq]
  generalize (lg_sl ([.ref no, .ref ro]) ++ List.replicate (2 - (lg_sl ([.ref no, .ref ro])).length) Slot.unset).toArray = ls at hl ⊢
  have hl : lv_has ls 2 [(0, .ref no), (1, .ref ro)] := hl
  have hin : meth.name = "<init>" := (name_of_methodNamed B.named B.method).1
  refine lv_aload_n hx hb d_N_init_0 rfl (lv_at hl 0 rfl) ?_
  refine W.objInit hx hb hown (hw _ ml_N_3) (hw _ wi_OB_init) (hw _ wc_OB_init) rfl (by rw [hml]; exact hl.1) rfl d_N_init_1 (Nat.le_of_ble_eq_true rfl) (Nat.le_of_ble_eq_true rfl) ?_
  refine W.eq (g2 := F0 m 4 ls []) rfl ?_
  refine lv_aload_n hx hb d_N_init_4 rfl (lv_at hl 0 rfl) ?_
  refine va_new (ci := 1) (fs := [.null, .int 0]) (C := "TimeWords$Row") (T := F_R) (N := 2) hx hb hw in_R ty_R ty_R_ok hown (hw _ kl_N_9) (hw _ wn_R) (hw _ wz_R) hK hP hD hS hA rfl (by decide +kernel) (Nat.le_of_ble_eq_true rfl) (Nat.le_of_ble_eq_true rfl) d_N_init_5 (fun q1 H hP hD hS => ?_)
  have hP : va_P D gC ([(no, .inr (4, [.null, .null, .null])), (ro, .inr (1, [.ref ra, .int (nI k)])), (ra, .inl (T.1, n, .inl f)), (q1, .inr (1, [.null, .int 0]))]) H := hP
  have hD : va_D A ([(no, .inr (4, [.null, .null, .null])), (ro, .inr (1, [.ref ra, .int (nI k)])), (ra, .inl (T.1, n, .inl f)), (q1, .inr (1, [.null, .int 0]))]) := hD
  refine W.widen (k := 1) (n := 2) (by omega) (by omega) ?_
  refine lv_dup hx hb d_N_init_8 rfl ?_
  refine lv_bipush (v := 8) hx hb d_N_init_9 (by decide) ?_
  have hPc : va_P D gC ([(q1, .inr (1, [.null, .int 0]))]) H := (pc1 (hP 3 _ rfl) pc0)
  have hDc : va_D A ([(q1, .inr (1, [.null, .int 0]))]) := hD.sub (ws' := [(q1, .inr (1, [.null, .int 0]))]) [3] (by decide) rfl
  refine g_subv (X := [(no, .inr (4, [.null, .null, .null])), (ro, .inr (1, [.ref ra, .int (nI k)])), (ra, .inl (T.1, n, .inl f)), (q1, .inr (1, [.null, .int 0]))]) (pl := []) (wr := [(no, .inr (4, [.null, .null, .null])), (ro, .inr (1, [.ref ra, .int (nI k)])), (ra, .inl (T.1, n, .inl f))]) (cx := [(q1, .inr (1, [.null, .int 0]))]) (va_runI (As := [.int 8]) (rest := [.ref q1, .ref no]) ⟨hx, hb, hml, hown, hw⟩ (k_R_init_8 l D T q1 H.size) (cwI 1 hw (bg_c wc_R_init) rfl rfl rfl (hw _ wz_R) (hw _ ml_N_11) (hw _ wi_R_init) rfl (by decide +kernel) ⟨Nat.le_of_ble_eq_true rfl, Nat.le_of_ble_eq_true rfl⟩) ⟨qP_b, qP_p hPc hK hDc⟩ rfl rfl hl.1 rfl (lv_room (Nat.le_of_ble_eq_true rfl)) d_N_init_11 ⟨Nat.le_of_ble_eq_true rfl, Nat.le_of_ble_eq_true rfl⟩) (by rw [List.append_nil]; exact hP) (by rw [List.append_nil]; exact hD) hS hA [3] [0, 1, 2] rfl rfl (by decide) (by decide) (fun u3 H locs hr2 hP hD hS => ?_)
  have hP : va_P D gC ([(no, .inr (4, [.null, .null, .null])), (ro, .inr (1, [.ref ra, .int (nI k)])), (ra, .inl (T.1, n, .inl f)), (q1, .inr (1, [.ref u3, .int 0])), (u3, .inl (T.1, 8, .inl (fun _ => 0)))]) H := (by rw [List.append_nil] at hP; exact hP.sub [0, 1, 2, 3, 4] rfl)
  have hD : va_D A ([(no, .inr (4, [.null, .null, .null])), (ro, .inr (1, [.ref ra, .int (nI k)])), (ra, .inl (T.1, n, .inl f)), (q1, .inr (1, [.ref u3, .int 0])), (u3, .inl (T.1, 8, .inl (fun _ => 0)))]) := (by rw [List.append_nil] at hD; exact hD.sub [0, 1, 2, 3, 4] (by decide) rfl)
  refine va_putF (D := D) (ci := 4) (v := .ref q1) (ty := .object "TimeWords$Row") (C := "TimeWords$Name") (T := F_N) (N := 3) hx hb hw in_N ty_N ty_N_ok n_N hown hK hP hD hS 0 rfl rfl 0 (by decide) (hw _ fl_N_14) (fun _ h9 => h9) rfl hin rfl (by decide +kernel) rfl rfl (Nat.le_of_ble_eq_true rfl) d_N_init_14 (fun H locs hP hD hS => ?_)
  have hP : va_P D gC ([(no, .inr (4, [.ref q1, .null, .null])), (ro, .inr (1, [.ref ra, .int (nI k)])), (ra, .inl (T.1, n, .inl f)), (q1, .inr (1, [.ref u3, .int 0])), (u3, .inl (T.1, 8, .inl (fun _ => 0)))]) H := hP
  have hD : va_D A ([(no, .inr (4, [.ref q1, .null, .null])), (ro, .inr (1, [.ref ra, .int (nI k)])), (ra, .inl (T.1, n, .inl f)), (q1, .inr (1, [.ref u3, .int 0])), (u3, .inl (T.1, 8, .inl (fun _ => 0)))]) := hD
  refine lv_aload_n hx hb d_N_init_17 rfl (lv_at hl 0 rfl) ?_
  refine va_get (D := D) (ci := 4) (v := .ref q1) (C := "TimeWords$Name") (T := F_N) (N := 3) hx hb hw in_N hown hK hP 0 rfl rfl 0 (by decide) (hw _ fl_N_14) (fun _ h9 => h9) rfl d_N_init_18 ?_
  refine lv_aload_n hx hb d_N_init_21 rfl (lv_at hl 1 rfl) ?_
  have hPc : va_P D gC ([(q1, .inr (1, [.ref u3, .int 0])), (u3, .inl (T.1, 8, .inl (fun _ => 0))), (ro, .inr (1, [.ref ra, .int (nI k)])), (ra, .inl (T.1, n, .inl f))]) H := (pc1 (hP 3 _ rfl) (pc1 (hP 4 _ rfl) (pc1 (hP 1 _ rfl) (pc1 (hP 2 _ rfl) pc0))))
  have hDc : va_D A ([(q1, .inr (1, [.ref u3, .int 0])), (u3, .inl (T.1, 8, .inl (fun _ => 0))), (ro, .inr (1, [.ref ra, .int (nI k)])), (ra, .inl (T.1, n, .inl f))]) := hD.sub (ws' := [(q1, .inr (1, [.ref u3, .int 0])), (u3, .inl (T.1, 8, .inl (fun _ => 0))), (ro, .inr (1, [.ref ra, .int (nI k)])), (ra, .inl (T.1, n, .inl f))]) [3, 4, 1, 2] (by decide) rfl
  refine g_subv (X := [(no, .inr (4, [.ref q1, .null, .null])), (ro, .inr (1, [.ref ra, .int (nI k)])), (ra, .inl (T.1, n, .inl f)), (q1, .inr (1, [.ref u3, .int 0])), (u3, .inl (T.1, 8, .inl (fun _ => 0)))]) (pl := []) (wr := [(no, .inr (4, [.ref q1, .null, .null]))]) (cx := [(q1, .inr (1, [.ref u3, .int 0])), (u3, .inl (T.1, 8, .inl (fun _ => 0))), (ro, .inr (1, [.ref ra, .int (nI k)])), (ra, .inl (T.1, n, .inl f))]) (va_runV (As := [.ref ro]) (rest := []) ⟨hx, hb, hml, hown, hw⟩ (k_R_addRow l D T q1 u3 0 8 (fun _ => 0) ro ra k n f H.size (by omega) (by decide) hy1 hy2) (cwV 1 hw (bg_V ml_N_20 wi_R_addRow wv_R_addRow wz_R wc_R_addRow) rfl rfl rfl (by decide +kernel) ⟨Nat.le_of_ble_eq_true rfl, Nat.le_of_ble_eq_true rfl⟩) ⟨qP_b, va_recv hK hPc (ci := 1) (q0 := 0) rfl rfl, qP_p hPc hK hDc⟩ rfl rfl hl.1 rfl (lv_room (Nat.le_of_ble_eq_true rfl)) d_N_init_22 ⟨Nat.le_of_ble_eq_true rfl, Nat.le_of_ble_eq_true rfl⟩) (by rw [List.append_nil]; exact hP) (by rw [List.append_nil]; exact hD) hS hA [3, 4, 1, 2] [0] rfl rfl (by decide) (by decide) (fun u9 H locs hr4 hP hD hS => ?_)
  obtain ⟨u5, u6⟩ := u9
  dsimp only at hr4 hP hD
  have hP : va_P D gC ([(no, .inr (4, [.ref q1, .null, .null])), (ro, .inr (1, [.ref ra, .int (nI k)])), (ra, .inl (T.1, n, .inl f)), (q1, .inr (1, [.ref u3, .int u5])), (u3, .inl (T.1, 8, .inl u6))]) H := (by rw [List.append_nil] at hP; exact hP.sub [0, 3, 4, 1, 2] rfl)
  have hD : va_D A ([(no, .inr (4, [.ref q1, .null, .null])), (ro, .inr (1, [.ref ra, .int (nI k)])), (ra, .inl (T.1, n, .inl f)), (q1, .inr (1, [.ref u3, .int u5])), (u3, .inl (T.1, 8, .inl u6))]) := (by rw [List.append_nil] at hD; exact hD.sub [0, 3, 4, 1, 2] (by decide) rfl)
  obtain ⟨q0, hcp⟩ := hr4; subst q0
  rw [Nat.zero_add] at hP hD
  refine lv_aload_n hx hb d_N_init_25 rfl (lv_at hl 0 rfl) ?_
  refine va_new (ci := 0) (fs := [.null, .int 0, .int 0]) (C := "java/util/ArrayList") (T := F_A) (N := 3) hx hb hw in_A ty_A ty_A_ok hown (hw _ kl_N_24) (hw _ wn_A) (hw _ wz_A) hK hP hD hS hA rfl (by decide +kernel) (Nat.le_of_ble_eq_true rfl) (Nat.le_of_ble_eq_true rfl) d_N_init_26 (fun q7 H hP hD hS => ?_)
  have hP : va_P D gC ([(no, .inr (4, [.ref q1, .null, .null])), (ro, .inr (1, [.ref ra, .int (nI k)])), (ra, .inl (T.1, n, .inl f)), (q1, .inr (1, [.ref u3, .int (nI k)])), (u3, .inl (T.1, 8, .inl u6)), (q7, .inr (0, [.null, .int 0, .int 0]))]) H := hP
  have hD : va_D A ([(no, .inr (4, [.ref q1, .null, .null])), (ro, .inr (1, [.ref ra, .int (nI k)])), (ra, .inl (T.1, n, .inl f)), (q1, .inr (1, [.ref u3, .int (nI k)])), (u3, .inl (T.1, 8, .inl u6)), (q7, .inr (0, [.null, .int 0, .int 0]))]) := hD
  refine W.widen (k := 3) (n := 13) (by omega) (by omega) ?_
  refine lv_dup hx hb d_N_init_29 rfl ?_
  have hPc : va_P D gC ([(q7, .inr (0, [.null, .int 0, .int 0]))]) H := (pc1 (hP 5 _ rfl) pc0)
  have hDc : va_D A ([(q7, .inr (0, [.null, .int 0, .int 0]))]) := hD.sub (ws' := [(q7, .inr (0, [.null, .int 0, .int 0]))]) [5] (by decide) rfl
  refine g_subv (X := [(no, .inr (4, [.ref q1, .null, .null])), (ro, .inr (1, [.ref ra, .int (nI k)])), (ra, .inl (T.1, n, .inl f)), (q1, .inr (1, [.ref u3, .int (nI k)])), (u3, .inl (T.1, 8, .inl u6)), (q7, .inr (0, [.null, .int 0, .int 0]))]) (pl := []) (wr := [(no, .inr (4, [.ref q1, .null, .null])), (ro, .inr (1, [.ref ra, .int (nI k)])), (ra, .inl (T.1, n, .inl f)), (q1, .inr (1, [.ref u3, .int (nI k)])), (u3, .inl (T.1, 8, .inl u6))]) (cx := [(q7, .inr (0, [.null, .int 0, .int 0]))]) (va_runI (As := []) (rest := [.ref q7, .ref no]) ⟨hx, hb, hml, hown, hw⟩ (k_A_init l D T κ q7 H.size) (cwI 0 hw (bg_c wc_A_init) rfl rfl rfl (hw _ wz_A) (hw _ ml_N_26) (hw _ wi_A_init) rfl (by decide +kernel) ⟨Nat.le_of_ble_eq_true rfl, Nat.le_of_ble_eq_true rfl⟩) ⟨qPf_b, qPf_p hPc hK hDc hF hS (g_free hDc hS hA)⟩ rfl rfl hl.1 rfl (lv_room (Nat.le_of_ble_eq_true rfl)) d_N_init_30 ⟨Nat.le_of_ble_eq_true rfl, Nat.le_of_ble_eq_true rfl⟩) (by rw [List.append_nil]; exact hP) (by rw [List.append_nil]; exact hD) hS hA [5] [0, 1, 2, 3, 4] rfl rfl (by decide) (by decide) (fun _ H locs hr8 hP hD hS => ?_)
  have hP : va_P D gC ([(no, .inr (4, [.ref q1, .null, .null])), (ro, .inr (1, [.ref ra, .int (nI k)])), (ra, .inl (T.1, n, .inl f)), (q1, .inr (1, [.ref u3, .int (nI k)])), (u3, .inl (T.1, 8, .inl u6)), (q7, .inr (0, [.ref κ.2.2.1, .int 0, .int 0]))]) H := (by rw [List.append_nil] at hP; exact hP.sub [0, 1, 2, 3, 4, 5] rfl)
  have hD : va_D A ([(no, .inr (4, [.ref q1, .null, .null])), (ro, .inr (1, [.ref ra, .int (nI k)])), (ra, .inl (T.1, n, .inl f)), (q1, .inr (1, [.ref u3, .int (nI k)])), (u3, .inl (T.1, 8, .inl u6)), (q7, .inr (0, [.ref κ.2.2.1, .int 0, .int 0]))]) := (by rw [List.append_nil] at hD; exact hD.sub [0, 1, 2, 3, 4, 5] (by decide) rfl)
  refine va_putF (D := D) (ci := 4) (v := .ref q7) (ty := .object "java/util/ArrayList") (C := "TimeWords$Name") (T := F_N) (N := 3) hx hb hw in_N ty_N ty_N_ok n_N hown hK hP hD hS 0 rfl rfl 1 (by decide) (hw _ fl_N_27) (fun _ h9 => h9) rfl hin rfl (by decide +kernel) rfl rfl (Nat.le_of_ble_eq_true rfl) d_N_init_33 (fun H locs hP hD hS => ?_)
  have hP : va_P D gC ([(no, .inr (4, [.ref q1, .ref q7, .null])), (ro, .inr (1, [.ref ra, .int (nI k)])), (ra, .inl (T.1, n, .inl f)), (q1, .inr (1, [.ref u3, .int (nI k)])), (u3, .inl (T.1, 8, .inl u6)), (q7, .inr (0, [.ref κ.2.2.1, .int 0, .int 0]))]) H := hP
  have hD : va_D A ([(no, .inr (4, [.ref q1, .ref q7, .null])), (ro, .inr (1, [.ref ra, .int (nI k)])), (ra, .inl (T.1, n, .inl f)), (q1, .inr (1, [.ref u3, .int (nI k)])), (u3, .inl (T.1, 8, .inl u6)), (q7, .inr (0, [.ref κ.2.2.1, .int 0, .int 0]))]) := hD
  refine lv_aload_n hx hb d_N_init_36 rfl (lv_at hl 0 rfl) ?_
  refine lv_null hx hb d_N_init_37 ?_
  refine va_put (D := D) (ci := 4) (v := .null) (ty := .object "TimeWords$Years") (C := "TimeWords$Name") (T := F_N) (N := 3) hx hb hw in_N ty_N ty_N_ok n_N hown hK hP hD hS 0 rfl rfl 2 (by decide) (hw _ fl_N_31) (fun _ h9 => h9) rfl (by decide +kernel) rfl rfl (Nat.le_of_ble_eq_true rfl) d_N_init_38 (fun H locs hP hD hS => ?_)
  have hP : va_P D gC ([(no, .inr (4, [.ref q1, .ref q7, .null])), (ro, .inr (1, [.ref ra, .int (nI k)])), (ra, .inl (T.1, n, .inl f)), (q1, .inr (1, [.ref u3, .int (nI k)])), (u3, .inl (T.1, 8, .inl u6)), (q7, .inr (0, [.ref κ.2.2.1, .int 0, .int 0]))]) H := hP
  have hD : va_D A ([(no, .inr (4, [.ref q1, .ref q7, .null])), (ro, .inr (1, [.ref ra, .int (nI k)])), (ra, .inl (T.1, n, .inl f)), (q1, .inr (1, [.ref u3, .int (nI k)])), (u3, .inl (T.1, 8, .inl u6)), (q7, .inr (0, [.ref κ.2.2.1, .int 0, .int 0]))]) := hD
  exact W.vret hx hb hr (fun t ht hW => ⟨⟨(q1, u3, q7, u6), rfl, hcp, by rw [ht]; exact hP, va_K.moved hW.alike hK, hD⟩, hS.F ht⟩) hS.2.2 d_N_init_41
