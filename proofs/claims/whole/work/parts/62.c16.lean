set_option maxHeartbeats 4000000 in
set_option maxRecDepth 100000 in
theorem k_R_addText_n (l : Launch) (D : va_G) (T : gT) (κ : gS) (ro ra k n : Nat) (f : Nat → Int32) (sz : Nat) (si : Nat) (hy0 : k + sL.getD si 0 ≤ n) (hy1 : n ≤ 24) (hy2 : si < 7) : Met l y_R_addText (Cond.code y_R_addText b_R_addText 3 none :: bg_W) ({ frames := 4, cells := 0, slots := 0, locals := 85 }) (qPf κ D T ([(ro, .inr (1, [.ref ra, .int (nI k)])), (ra, .inl (T.1, n, .inl f))]) [.ref ro, .ref (κ.1 (282 + 2 * si))] sz) (va_Qv (fun u : Nat × (Nat → Int32) => match u with | (k1, g) => k1 = k + sL.getD si 0 ∧ cpI f (sX si) g k (sL.getD si 0)) (qB D T (va_A ([(ro, .inr (1, [.ref ra, .int (nI k)])), (ra, .inl (T.1, n, .inl f))]) sz) (fun u : Nat × (Nat → Int32) => match u with | (k1, g) => [(ro, .inr (1, [.ref ra, .int (nI k1)])), (ra, .inl (T.1, n, .inl g))])) (va_A ([(ro, .inr (1, [.ref ra, .int (nI k)])), (ra, .inl (T.1, n, .inl f))]) sz)) 0 0 (va_A ([(ro, .inr (1, [.ref ra, .int (nI k)])), (ra, .inl (T.1, n, .inl f))]) sz) := by
  refine Met.ofW (cc := b_R_addText) (maxL := 3) (ret := none) (by decide) rfl ?_
  intro p e s m args below meth c s₁ B hml hv
  obtain ⟨rfl, hsz, hP, hK, hD0, hF⟩ := hv
  have hx := B.exec
  have hb := B.bytes
  have hr := B.returns
  have hw : ∀ w ∈ bg_W, w.before ([.ref ro, .ref (κ.1 (282 + 2 * si))] : List Value).toArray s = true := fun w h => atoms_spec (ws := (Cond.code y_R_addText b_R_addText 3 none :: bg_W)) B.pre w (List.mem_cons_of_mem _ h)
  have hown : s.vm.findClass "TimeWords$Row" = some m.cls := findClass_of_methodNamed B.named
  have hlocks := B.notSynchronized
  subst hsz
  have hD := hD0.self (sz := s.heap.size)
  generalize hAe : va_A ([(ro, .inr (1, [.ref ra, .int (nI k)])), (ra, .inl (T.1, n, .inl f))]) s.heap.size = A at hD hF ⊢
  have hA : ∀ q : Nat, s.heap.size ≤ q → A q := fun q h => by rw [← hAe]; exact Or.inr h
  have hS : va_S A s.heap s.heap [] := va_S.rf
  have hl := lv_entry ([.ref ro, .ref (κ.1 (282 + 2 * si))]) (n := 3) (Nat.le_of_ble_eq_true rfl)
  rw [lg_entry_eq]
  generalize (lg_sl ([.ref ro, .ref (κ.1 (282 + 2 * si))]) ++ List.replicate (3 - (lg_sl ([.ref ro, .ref (κ.1 (282 + 2 * si))])).length) Slot.unset).toArray = ls at hl ⊢
  have hl : lv_has ls 3 [(0, .ref ro), (1, .ref (κ.1 (282 + 2 * si)))] := hl
  have hL := sx_l si hy2
  refine lv_iconst (v := 0) hx hb d_R_addText_0 (by decide) ?_
  refine lv_istore_n (lv' := [(2, .int 0), (0, .ref ro), (1, .ref (κ.1 (282 + 2 * si)))]) hx hb d_R_addText_1 rfl hl (by decide) rfl (fun ls hl => ?_)
  have loop : ∀ (nf : Nat) (j : Nat) (g : Nat → Int32), (j ≤ sL.getD si 0) → (cpI f (sX si) g k j) → ∀ (H : Heap) (locs : List Loc), va_P D gC ([(ro, .inr (1, [.ref ra, .int (nI (k + j))])), (ra, .inl (T.1, n, .inl g))]) H → va_D A ([(ro, .inr (1, [.ref ra, .int (nI (k + j))])), (ra, .inl (T.1, n, .inl g))]) → va_S A s.heap H locs → ∀ (ls : Array Slot), lv_has ls 3 [(0, .ref ro), (1, .ref (κ.1 (282 + 2 * si))), (2, .int (nI j))] → sL.getD si 0 - j < nf → W p l e (headSpec (Cond.code y_R_addText b_R_addText 3 none :: bg_W) ({ frames := 4, cells := 0, slots := 0, locals := 85 })).room s m ([.ref ro, .ref (κ.1 (282 + 2 * si))] : List Value).toArray below meth c H locs 0 0 (MQ below (va_Qv (fun u : Nat × (Nat → Int32) => match u with | (k1, g) => k1 = k + sL.getD si 0 ∧ cpI f (sX si) g k (sL.getD si 0)) (qB D T A (fun u : Nat × (Nat → Int32) => match u with | (k1, g) => [(ro, .inr (1, [.ref ra, .int (nI k1)])), (ra, .inl (T.1, n, .inl g))])) A) ([.ref ro, .ref (κ.1 (282 + 2 * si))] : List Value).toArray s 0 0 A) (F0 m 2 ls []) := by
    intro nf
    induction nf with
    | zero => intro j g hj hC H locs hP hD hS ls hl hm; exact absurd hm (Nat.not_lt_zero _)
    | succ nf ih =>
      intro j g hj hC H locs hP hD hS ls hl hm
      refine lv_iload_n hx hb d_R_addText_2 rfl (lv_at hl 2 rfl) ?_
      refine lv_aload_n hx hb d_R_addText_3 rfl (lv_at hl 1 rfl) ?_
      have hPc : va_P D gC ([]) H := pc0
      refine vp_callSi (va_Run.run (va_runV (As := []) (rest := [.int (nI j)]) ⟨hx, hb, hml, hown, hw⟩ (k_S_length l D T κ A si hy2) (cwV 0 hw (bg_V ml_R_19 wi_S_length wv_S_length wz_S wc_S_length) rfl rfl rfl (by decide +kernel) ⟨Nat.le_of_ble_eq_true rfl, Nat.le_of_ble_eq_true rfl⟩) ⟨sPf_b, va_Orecv (hF.1 si hy2).1 hS, sPf_p hPc hK hF hS⟩ rfl rfl hl.1 rfl (lv_room (Nat.le_of_ble_eq_true rfl)) d_R_addText_4 ⟨Nat.le_of_ble_eq_true rfl, Nat.le_of_ble_eq_true rfl⟩)) (fun r1 hr1 => ?_)
      replace hr1 := hr1.symm; subst hr1
      refine lv_icmp_ge (tgt := 25) hx hb d_R_addText_7 (by decide) (fun c2 => ?_) (fun c2 => ?_)
      · have c2 := nc_le (a := sL.getD si 0) (b := j) c2 (by omega) (by omega)
        exact W.vret hx hb hr (fun t ht hW => ⟨⟨(k + j, g), rfl, (by have e9 : j = sL.getD si 0 := (by omega); rw [e9] at hC; exact ⟨by omega, hC⟩), by rw [ht]; exact hP, va_K.moved hW.alike hK, hD⟩, hS.F ht⟩) hS.2.2 d_R_addText_25
      · have c2 := nc_nle (a := sL.getD si 0) (b := j) c2 (by omega) (by omega)
        refine lv_aload_n hx hb d_R_addText_10 rfl (lv_at hl 0 rfl) ?_
        refine lv_aload_n hx hb d_R_addText_11 rfl (lv_at hl 1 rfl) ?_
        refine lv_iload_n hx hb d_R_addText_12 rfl (lv_at hl 2 rfl) ?_
        have hPc : va_P D gC ([]) H := pc0
        refine vp_callSi (va_Run.run (va_runV (As := [.int (nI j)]) (rest := [.ref ro]) ⟨hx, hb, hml, hown, hw⟩ (k_S_charAt l D T κ A si j hy2 (by omega)) (cwV 1 hw (bg_V ml_R_24 wi_S_charAt wv_S_charAt wz_S wc_S_charAt) rfl rfl rfl (by decide +kernel) ⟨Nat.le_of_ble_eq_true rfl, Nat.le_of_ble_eq_true rfl⟩) ⟨sPf_b, va_Orecv (hF.1 si hy2).1 hS, sPf_p hPc hK hF hS⟩ rfl rfl hl.1 rfl (lv_room (Nat.le_of_ble_eq_true rfl)) d_R_addText_13 ⟨Nat.le_of_ble_eq_true rfl, Nat.le_of_ble_eq_true rfl⟩)) (fun r3 hr3 => ?_)
        replace hr3 := hr3.symm; subst hr3
        have hPc : va_P D gC ([(ro, .inr (1, [.ref ra, .int (nI (k + j))])), (ra, .inl (T.1, n, .inl g))]) H := (pc1 (hP 0 _ rfl) (pc1 (hP 1 _ rfl) pc0))
        have hDc : va_D A ([(ro, .inr (1, [.ref ra, .int (nI (k + j))])), (ra, .inl (T.1, n, .inl g))]) := hD.sub (ws' := [(ro, .inr (1, [.ref ra, .int (nI (k + j))])), (ra, .inl (T.1, n, .inl g))]) [0, 1] (by decide) rfl
        refine g_subv (X := [(ro, .inr (1, [.ref ra, .int (nI (k + j))])), (ra, .inl (T.1, n, .inl g))]) (pl := []) (wr := []) (cx := [(ro, .inr (1, [.ref ra, .int (nI (k + j))])), (ra, .inl (T.1, n, .inl g))]) (va_runV (As := [.int (sX si j)]) (rest := []) ⟨hx, hb, hml, hown, hw⟩ (k_R_add l D T ro ra (k + j) n g H.size (sX si j) (by omega) hy1) (cwV 1 hw (bg_V ml_R_28 wi_R_add wv_R_add wz_R wc_R_add) rfl rfl rfl (by decide +kernel) ⟨Nat.le_of_ble_eq_true rfl, Nat.le_of_ble_eq_true rfl⟩) ⟨qP_b, va_recv hK hPc (ci := 1) (q0 := 0) rfl rfl, qP_p hPc hK hDc⟩ rfl rfl hl.1 rfl (lv_room (Nat.le_of_ble_eq_true rfl)) d_R_addText_16 ⟨Nat.le_of_ble_eq_true rfl, Nat.le_of_ble_eq_true rfl⟩) (by rw [List.append_nil]; exact hP) (by rw [List.append_nil]; exact hD) hS hA [0, 1] [] rfl rfl (by decide) (by decide) (fun u9 H locs hr4 hP hD hS => ?_)
        obtain ⟨u5, u6⟩ := u9
        dsimp only at hr4 hP hD
        obtain ⟨q0, q1⟩ := hr4
        replace q0 := q0.symm; subst q0; replace q1 := q1.symm; subst q1
        have hP : va_P D gC ([(ro, .inr (1, [.ref ra, .int (nI ((k + j) + 1))])), (ra, .inl (T.1, n, .inl (upd g (k + j) (sX si j))))]) H := (by rw [List.append_nil] at hP; exact hP.sub [0, 1] rfl)
        have hD : va_D A ([(ro, .inr (1, [.ref ra, .int (nI ((k + j) + 1))])), (ra, .inl (T.1, n, .inl (upd g (k + j) (sX si j))))]) := (by rw [List.append_nil] at hD; exact hD.sub [0, 1] (by decide) rfl)
        refine lv_iinc (v := nI (j + 1)) (lv' := [(2, .int (nI (j + 1))), (0, .ref ro), (1, .ref (κ.1 (282 + 2 * si)))]) hx hb d_R_addText_19 hl (k := 2) rfl (nI_add j 1) (by decide) rfl (fun ls hl => ?_)
        refine lv_goto (tgt := 2) hx hb d_R_addText_22 (by decide) ?_
        exact ih (j + 1) (upd g (k + j) (sX si j)) (by omega) (cpI_s hC) _ _ hP hD hS ls (lv_sub hl [1, 2, 0] rfl) (by omega)
  exact loop ((sL.getD si 0 - 0) + 1) 0 f (Nat.zero_le _) cpI_0 _ _ hP hD hS ls (lv_sub hl [1, 2, 0] rfl) (Nat.lt_succ_self _)

set_option maxHeartbeats 4000000 in
set_option maxRecDepth 100000 in
theorem k_R_addRow_n (l : Launch) (D : va_G) (T : gT) (ro ra k n : Nat) (f : Nat → Int32) (roq raq kq nq : Nat) (fq : Nat → Int32) (sz : Nat) (hy0 : k + kq ≤ n) (hy1 : n ≤ 24) (hy2 : kq ≤ nq) (hy3 : nq ≤ 24) : Met l y_R_addRow (Cond.code y_R_addRow b_R_addRow 3 none :: bg_W) ({ frames := 1, cells := 0, slots := 0, locals := 21 }) (qP D T ([(ro, .inr (1, [.ref ra, .int (nI k)])), (ra, .inl (T.1, n, .inl f)), (roq, .inr (1, [.ref raq, .int (nI kq)])), (raq, .inl (T.1, nq, .inl fq))]) [.ref ro, .ref roq] sz) (va_Qv (fun u : Nat × (Nat → Int32) => match u with | (k1, g) => k1 = k + kq ∧ cpI f fq g k kq) (qB D T (va_A ([(ro, .inr (1, [.ref ra, .int (nI k)])), (ra, .inl (T.1, n, .inl f)), (roq, .inr (1, [.ref raq, .int (nI kq)])), (raq, .inl (T.1, nq, .inl fq))]) sz) (fun u : Nat × (Nat → Int32) => match u with | (k1, g) => [(ro, .inr (1, [.ref ra, .int (nI k1)])), (ra, .inl (T.1, n, .inl g)), (roq, .inr (1, [.ref raq, .int (nI kq)])), (raq, .inl (T.1, nq, .inl fq))])) (va_A ([(ro, .inr (1, [.ref ra, .int (nI k)])), (ra, .inl (T.1, n, .inl f)), (roq, .inr (1, [.ref raq, .int (nI kq)])), (raq, .inl (T.1, nq, .inl fq))]) sz)) 0 0 (va_A ([(ro, .inr (1, [.ref ra, .int (nI k)])), (ra, .inl (T.1, n, .inl f)), (roq, .inr (1, [.ref raq, .int (nI kq)])), (raq, .inl (T.1, nq, .inl fq))]) sz) := by
  refine Met.ofW (cc := b_R_addRow) (maxL := 3) (ret := none) (by decide) rfl ?_
  intro p e s m args below meth c s₁ B hml hv
  obtain ⟨rfl, hsz, hP, hK, hD0⟩ := hv
  have hx := B.exec
  have hb := B.bytes
  have hr := B.returns
  have hw : ∀ w ∈ bg_W, w.before ([.ref ro, .ref roq] : List Value).toArray s = true := fun w h => atoms_spec (ws := (Cond.code y_R_addRow b_R_addRow 3 none :: bg_W)) B.pre w (List.mem_cons_of_mem _ h)
  have hown : s.vm.findClass "TimeWords$Row" = some m.cls := findClass_of_methodNamed B.named
  have hlocks := B.notSynchronized
  subst hsz
  have hD := hD0.self (sz := s.heap.size)
  generalize hAe : va_A ([(ro, .inr (1, [.ref ra, .int (nI k)])), (ra, .inl (T.1, n, .inl f)), (roq, .inr (1, [.ref raq, .int (nI kq)])), (raq, .inl (T.1, nq, .inl fq))]) s.heap.size = A at hD ⊢
  have hA : ∀ q : Nat, s.heap.size ≤ q → A q := fun q h => by rw [← hAe]; exact Or.inr h
  have hS : va_S A s.heap s.heap [] := va_S.rf
  have hl := lv_entry ([.ref ro, .ref roq]) (n := 3) (Nat.le_of_ble_eq_true rfl)
  rw [lg_entry_eq]
  generalize (lg_sl ([.ref ro, .ref roq]) ++ List.replicate (3 - (lg_sl ([.ref ro, .ref roq])).length) Slot.unset).toArray = ls at hl ⊢
  have hl : lv_has ls 3 [(0, .ref ro), (1, .ref roq)] := hl
  refine lv_iconst (v := 0) hx hb d_R_addRow_0 (by decide) ?_
  refine lv_istore_n (lv' := [(2, .int 0), (0, .ref ro), (1, .ref roq)]) hx hb d_R_addRow_1 rfl hl (by decide) rfl (fun ls hl => ?_)
  have loop : ∀ (nf : Nat) (j : Nat) (g : Nat → Int32), (j ≤ kq) → (cpI f fq g k j) → ∀ (H : Heap) (locs : List Loc), va_P D gC ([(ro, .inr (1, [.ref ra, .int (nI (k + j))])), (ra, .inl (T.1, n, .inl g)), (roq, .inr (1, [.ref raq, .int (nI kq)])), (raq, .inl (T.1, nq, .inl fq))]) H → va_D A ([(ro, .inr (1, [.ref ra, .int (nI (k + j))])), (ra, .inl (T.1, n, .inl g)), (roq, .inr (1, [.ref raq, .int (nI kq)])), (raq, .inl (T.1, nq, .inl fq))]) → va_S A s.heap H locs → ∀ (ls : Array Slot), lv_has ls 3 [(0, .ref ro), (1, .ref roq), (2, .int (nI j))] → kq - j < nf → W p l e (headSpec (Cond.code y_R_addRow b_R_addRow 3 none :: bg_W) ({ frames := 1, cells := 0, slots := 0, locals := 21 })).room s m ([.ref ro, .ref roq] : List Value).toArray below meth c H locs 0 0 (MQ below (va_Qv (fun u : Nat × (Nat → Int32) => match u with | (k1, g) => k1 = k + kq ∧ cpI f fq g k kq) (qB D T A (fun u : Nat × (Nat → Int32) => match u with | (k1, g) => [(ro, .inr (1, [.ref ra, .int (nI k1)])), (ra, .inl (T.1, n, .inl g)), (roq, .inr (1, [.ref raq, .int (nI kq)])), (raq, .inl (T.1, nq, .inl fq))])) A) ([.ref ro, .ref roq] : List Value).toArray s 0 0 A) (F0 m 2 ls []) := by
    intro nf
    induction nf with
    | zero => intro j g hj hC H locs hP hD hS ls hl hm; exact absurd hm (Nat.not_lt_zero _)
    | succ nf ih =>
      intro j g hj hC H locs hP hD hS ls hl hm
      refine lv_iload_n hx hb d_R_addRow_2 rfl (lv_at hl 2 rfl) ?_
      refine lv_aload_n hx hb d_R_addRow_3 rfl (lv_at hl 1 rfl) ?_
      refine va_get (D := D) (ci := 1) (v := .int (nI kq)) (C := "TimeWords$Row") (T := F_R) (N := 2) hx hb hw in_R hown hK hP 2 rfl rfl 1 (by decide) (hw _ fl_R_15) (fun _ h9 => h9) rfl d_R_addRow_4 ?_
      refine lv_icmp_ge (tgt := 25) hx hb d_R_addRow_7 (by decide) (fun c1 => ?_) (fun c1 => ?_)
      · have c1 := nc_le (a := kq) (b := j) c1 (by omega) (by omega)
        exact W.vret hx hb hr (fun t ht hW => ⟨⟨(k + j, g), rfl, (by have e9 : j = kq := (by omega); subst e9; exact ⟨rfl, hC⟩), by rw [ht]; exact hP, va_K.moved hW.alike hK, hD⟩, hS.F ht⟩) hS.2.2 d_R_addRow_25
      · have c1 := nc_nle (a := kq) (b := j) c1 (by omega) (by omega)
        refine lv_aload_n hx hb d_R_addRow_10 rfl (lv_at hl 0 rfl) ?_
        refine lv_aload_n hx hb d_R_addRow_11 rfl (lv_at hl 1 rfl) ?_
        refine lv_iload_n hx hb d_R_addRow_12 rfl (lv_at hl 2 rfl) ?_
        have hPc : va_P D gC ([(roq, .inr (1, [.ref raq, .int (nI kq)])), (raq, .inl (T.1, nq, .inl fq))]) H := (pc1 (hP 2 _ rfl) (pc1 (hP 3 _ rfl) pc0))
        refine vp_callSi (va_Run.run (va_runV (As := [.int (nI j)]) (rest := [.ref ro]) ⟨hx, hb, hml, hown, hw⟩ (k_R_at l D T roq raq kq nq fq (nI j) hy2 hy3) (cwV 1 hw (bg_V ml_R_32 wi_R_at wv_R_at wz_R wc_R_at) rfl rfl rfl (by decide +kernel) ⟨Nat.le_of_ble_eq_true rfl, Nat.le_of_ble_eq_true rfl⟩) ⟨sP_b, va_recv hK hPc (ci := 1) (q0 := 0) rfl rfl, sP_p hPc hK⟩ rfl rfl hl.1 rfl (lv_room (Nat.le_of_ble_eq_true rfl)) d_R_addRow_13 ⟨Nat.le_of_ble_eq_true rfl, Nat.le_of_ble_eq_true rfl⟩)) (fun r2 hr2 => ?_)
        replace hr2 := hr2.symm; subst hr2
        rw [at_in (by omega) (by omega)]
        have hPc : va_P D gC ([(ro, .inr (1, [.ref ra, .int (nI (k + j))])), (ra, .inl (T.1, n, .inl g))]) H := (pc1 (hP 0 _ rfl) (pc1 (hP 1 _ rfl) pc0))
        have hDc : va_D A ([(ro, .inr (1, [.ref ra, .int (nI (k + j))])), (ra, .inl (T.1, n, .inl g))]) := hD.sub (ws' := [(ro, .inr (1, [.ref ra, .int (nI (k + j))])), (ra, .inl (T.1, n, .inl g))]) [0, 1] (by decide) rfl
        refine g_subv (X := [(ro, .inr (1, [.ref ra, .int (nI (k + j))])), (ra, .inl (T.1, n, .inl g)), (roq, .inr (1, [.ref raq, .int (nI kq)])), (raq, .inl (T.1, nq, .inl fq))]) (pl := []) (wr := [(roq, .inr (1, [.ref raq, .int (nI kq)])), (raq, .inl (T.1, nq, .inl fq))]) (cx := [(ro, .inr (1, [.ref ra, .int (nI (k + j))])), (ra, .inl (T.1, n, .inl g))]) (va_runV (As := [.int (fq j)]) (rest := []) ⟨hx, hb, hml, hown, hw⟩ (k_R_add l D T ro ra (k + j) n g H.size (fq j) (by omega) hy1) (cwV 1 hw (bg_V ml_R_28 wi_R_add wv_R_add wz_R wc_R_add) rfl rfl rfl (by decide +kernel) ⟨Nat.le_of_ble_eq_true rfl, Nat.le_of_ble_eq_true rfl⟩) ⟨qP_b, va_recv hK hPc (ci := 1) (q0 := 0) rfl rfl, qP_p hPc hK hDc⟩ rfl rfl hl.1 rfl (lv_room (Nat.le_of_ble_eq_true rfl)) d_R_addRow_16 ⟨Nat.le_of_ble_eq_true rfl, Nat.le_of_ble_eq_true rfl⟩) (by rw [List.append_nil]; exact hP) (by rw [List.append_nil]; exact hD) hS hA [0, 1] [2, 3] rfl rfl (by decide) (by decide) (fun u9 H locs hr3 hP hD hS => ?_)
        obtain ⟨u4, u5⟩ := u9
        dsimp only at hr3 hP hD
        obtain ⟨q0, q1⟩ := hr3
        replace q0 := q0.symm; subst q0; replace q1 := q1.symm; subst q1
        have hP : va_P D gC ([(ro, .inr (1, [.ref ra, .int (nI ((k + j) + 1))])), (ra, .inl (T.1, n, .inl (upd g (k + j) (fq j)))), (roq, .inr (1, [.ref raq, .int (nI kq)])), (raq, .inl (T.1, nq, .inl fq))]) H := (by rw [List.append_nil] at hP; exact hP.sub [2, 3, 0, 1] rfl)
        have hD : va_D A ([(ro, .inr (1, [.ref ra, .int (nI ((k + j) + 1))])), (ra, .inl (T.1, n, .inl (upd g (k + j) (fq j)))), (roq, .inr (1, [.ref raq, .int (nI kq)])), (raq, .inl (T.1, nq, .inl fq))]) := (by rw [List.append_nil] at hD; exact hD.sub [2, 3, 0, 1] (by decide) rfl)
        refine lv_iinc (v := nI (j + 1)) (lv' := [(2, .int (nI (j + 1))), (0, .ref ro), (1, .ref roq)]) hx hb d_R_addRow_19 hl (k := 2) rfl (nI_add j 1) (by decide) rfl (fun ls hl => ?_)
        refine lv_goto (tgt := 2) hx hb d_R_addRow_22 (by decide) ?_
        exact ih (j + 1) (upd g (k + j) (fq j)) (by omega) (cpI_s hC) _ _ hP hD hS ls (lv_sub hl [1, 2, 0] rfl) (by omega)
  exact loop ((kq - 0) + 1) 0 f (Nat.zero_le _) cpI_0 _ _ hP hD hS ls (lv_sub hl [1, 2, 0] rfl) (Nat.lt_succ_self _)

set_option maxHeartbeats 4000000 in
set_option maxRecDepth 100000 in
theorem k_T_foundSays (l : Launch) (D : va_G) (T : gT) (κ : gS) (A : Nat → Prop) (aa : Nat → Nat) (zw : Int32) (kp : Nat) (fp : Nat → Int32) (e0 e1 : Int32) (oF oT : Bool) (kt : Nat) (ft : Nat → Int32) (ks : Nat) (fs fc : Nat → Int32) (S : tS) (q : spD) (hy0 : q ∈ S.2.2.2) : Met l y_T_foundSays (Cond.code y_T_foundSays b_T_foundSays 2 (some .boolean) :: bg_W) ({ frames := 0, cells := 0, slots := 0, locals := 0 }) (sPf κ A D T (cX T aa zw kp fp e0 e1 oF oT kt ft ks fs fc S ++ tl T S) [.ref (aa 0), .ref q.1]) (vp_Si (fun r : Int32 => r = b2i (c_fs e0 e1 q))) 0 0 (fun _ => False) := by
  refine Met.ofW (cc := b_T_foundSays) (maxL := 2) (ret := (some .boolean)) (by decide) rfl ?_
  intro p e s m args below meth c s₁ B hml hv
  obtain ⟨rfl, hP, hK, hF⟩ := hv
  have hx := B.exec
  have hb := B.bytes
  have hr := B.returns
  have hw : ∀ w ∈ bg_W, w.before ([.ref (aa 0), .ref q.1] : List Value).toArray s = true := fun w h => atoms_spec (ws := (Cond.code y_T_foundSays b_T_foundSays 2 (some .boolean) :: bg_W)) B.pre w (List.mem_cons_of_mem _ h)
  have hown : s.vm.findClass "TimeWords" = some m.cls := findClass_of_methodNamed B.named
  have hlocks := B.notSynchronized
  have hS : va_S A s.heap s.heap [] := va_S.rf
  have hl := lv_entry ([.ref (aa 0), .ref q.1]) (n := 2) (Nat.le_of_ble_eq_true rfl)
  rw [lg_entry_eq]
  generalize (lg_sl ([.ref (aa 0), .ref q.1]) ++ List.replicate (2 - (lg_sl ([.ref (aa 0), .ref q.1])).length) Slot.unset).toArray = ls at hl ⊢
  have hl : lv_has ls 2 [(0, .ref (aa 0)), (1, .ref q.1)] := hl
  refine lv_aload_n hx hb d_T_foundSays_0 rfl (lv_at hl 1 rfl) ?_
  refine va_get (D := D) (ci := 2) (v := .int (b2i q.2.2.2.1)) (C := "TimeWords$Years") (T := F_Y) (N := 4) hx hb hw in_Y hown hK (pc1 (hP.mem (List.mem_append_right _ (tl_sp hy0))) pc0) 0 rfl rfl 2 (by decide) (hw _ fl_T_319) (fun _ h9 => h9) rfl d_T_foundSays_1 ?_
  refine lv_if_eq (tgt := 29) hx hb d_T_foundSays_4 (by decide) (fun c1 => ?_) (fun c1 => ?_)
  · have c1 := b2i_f c1
    refine lv_aload_n hx hb d_T_foundSays_29 rfl (lv_at hl 1 rfl) ?_
    refine va_get (D := D) (ci := 2) (v := .int (b2i q.2.2.2.2)) (C := "TimeWords$Years") (T := F_Y) (N := 4) hx hb hw in_Y hown hK (pc1 (hP.mem (List.mem_append_right _ (tl_sp hy0))) pc0) 0 rfl rfl 3 (by decide) (hw _ fl_T_323) (fun _ h9 => h9) rfl d_T_foundSays_30 ?_
    refine lv_if_eq (tgt := 58) hx hb d_T_foundSays_33 (by decide) (fun c2 => ?_) (fun c2 => ?_)
    · have c2 := b2i_f c2
      refine lv_aload_n hx hb d_T_foundSays_58 rfl (lv_at hl 0 rfl) ?_
      refine va_get (D := D) (ci := 5) (v := .ref (aa 3)) (C := "TimeWords") (T := F_T) (N := 8) hx hb hw in_T hown hK hP 0 rfl rfl 4 (by decide) (hw _ fl_T_37) (fun _ h9 => h9) rfl d_T_foundSays_59 ?_
      refine va_get (D := D) (ci := 2) (v := .int e0) (C := "TimeWords$Years") (T := F_Y) (N := 4) hx hb hw in_Y hown hK hP 3 rfl rfl 0 (by decide) (hw _ fl_T_153) (fun _ h9 => h9) rfl d_T_foundSays_62 ?_
      refine lv_aload_n hx hb d_T_foundSays_65 rfl (lv_at hl 1 rfl) ?_
      refine va_get (D := D) (ci := 2) (v := .int q.2.1) (C := "TimeWords$Years") (T := F_Y) (N := 4) hx hb hw in_Y hown hK (pc1 (hP.mem (List.mem_append_right _ (tl_sp hy0))) pc0) 0 rfl rfl 0 (by decide) (hw _ fl_T_153) (fun _ h9 => h9) rfl d_T_foundSays_66 ?_
      refine lv_icmp_ne (tgt := 90) hx hb d_T_foundSays_69 (by decide) (fun c3 => ?_) (fun c3 => ?_)
      · refine lv_iconst (v := 0) hx hb d_T_foundSays_90 (by decide) ?_
        exact W.zret (v := 0) hx hb hr rfl (fun t ht hW => ⟨0, rfl, (by simp [c_fs, b2i, *]), ht⟩) (fun _ h => nomatch h) d_T_foundSays_91
      · refine lv_aload_n hx hb d_T_foundSays_72 rfl (lv_at hl 0 rfl) ?_
        refine va_get (D := D) (ci := 5) (v := .ref (aa 3)) (C := "TimeWords") (T := F_T) (N := 8) hx hb hw in_T hown hK hP 0 rfl rfl 4 (by decide) (hw _ fl_T_37) (fun _ h9 => h9) rfl d_T_foundSays_73 ?_
        refine va_get (D := D) (ci := 2) (v := .int e1) (C := "TimeWords$Years") (T := F_Y) (N := 4) hx hb hw in_Y hown hK hP 3 rfl rfl 1 (by decide) (hw _ fl_T_156) (fun _ h9 => h9) rfl d_T_foundSays_76 ?_
        refine lv_aload_n hx hb d_T_foundSays_79 rfl (lv_at hl 1 rfl) ?_
        refine va_get (D := D) (ci := 2) (v := .int q.2.2.1) (C := "TimeWords$Years") (T := F_Y) (N := 4) hx hb hw in_Y hown hK (pc1 (hP.mem (List.mem_append_right _ (tl_sp hy0))) pc0) 0 rfl rfl 1 (by decide) (hw _ fl_T_156) (fun _ h9 => h9) rfl d_T_foundSays_80 ?_
        refine lv_icmp_ne (tgt := 90) hx hb d_T_foundSays_83 (by decide) (fun c4 => ?_) (fun c4 => ?_)
        · refine lv_iconst (v := 0) hx hb d_T_foundSays_90 (by decide) ?_
          exact W.zret (v := 0) hx hb hr rfl (fun t ht hW => ⟨0, rfl, (by simp [c_fs, b2i, *]), ht⟩) (fun _ h => nomatch h) d_T_foundSays_91
        · refine lv_iconst (v := 1) hx hb d_T_foundSays_86 (by decide) ?_
          refine lv_goto (tgt := 91) hx hb d_T_foundSays_87 (by decide) ?_
          exact W.zret (v := 1) hx hb hr rfl (fun t ht hW => ⟨1, rfl, (by simp [c_fs, b2i, *]), ht⟩) (fun _ h => nomatch h) d_T_foundSays_91
    · have c2 := b2i_t c2
      refine lv_aload_n hx hb d_T_foundSays_36 rfl (lv_at hl 0 rfl) ?_
      refine va_get (D := D) (ci := 5) (v := .ref (aa 3)) (C := "TimeWords") (T := F_T) (N := 8) hx hb hw in_T hown hK hP 0 rfl rfl 4 (by decide) (hw _ fl_T_37) (fun _ h9 => h9) rfl d_T_foundSays_37 ?_
      refine va_get (D := D) (ci := 2) (v := .int e1) (C := "TimeWords$Years") (T := F_Y) (N := 4) hx hb hw in_Y hown hK hP 3 rfl rfl 1 (by decide) (hw _ fl_T_156) (fun _ h9 => h9) rfl d_T_foundSays_40 ?_
      refine lv_aload_n hx hb d_T_foundSays_43 rfl (lv_at hl 1 rfl) ?_
      refine va_get (D := D) (ci := 2) (v := .int q.2.1) (C := "TimeWords$Years") (T := F_Y) (N := 4) hx hb hw in_Y hown hK (pc1 (hP.mem (List.mem_append_right _ (tl_sp hy0))) pc0) 0 rfl rfl 0 (by decide) (hw _ fl_T_153) (fun _ h9 => h9) rfl d_T_foundSays_44 ?_
      refine lv_iconst (v := 1) hx hb d_T_foundSays_47 (by decide) ?_
      refine lv_isub hx hb d_T_foundSays_48 ?_
      refine lv_icmp_ne (tgt := 56) hx hb d_T_foundSays_49 (by decide) (fun c5 => ?_) (fun c5 => ?_)
      · refine lv_iconst (v := 0) hx hb d_T_foundSays_56 (by decide) ?_
        exact W.zret (v := 0) hx hb hr rfl (fun t ht hW => ⟨0, rfl, (by simp [c_fs, b2i, *]), ht⟩) (fun _ h => nomatch h) d_T_foundSays_57
      · refine lv_iconst (v := 1) hx hb d_T_foundSays_52 (by decide) ?_
        refine lv_goto (tgt := 57) hx hb d_T_foundSays_53 (by decide) ?_
        exact W.zret (v := 1) hx hb hr rfl (fun t ht hW => ⟨1, rfl, (by simp [c_fs, b2i, *]), ht⟩) (fun _ h => nomatch h) d_T_foundSays_57
  · have c1 := b2i_t c1
    refine lv_aload_n hx hb d_T_foundSays_7 rfl (lv_at hl 0 rfl) ?_
    refine va_get (D := D) (ci := 5) (v := .ref (aa 3)) (C := "TimeWords") (T := F_T) (N := 8) hx hb hw in_T hown hK hP 0 rfl rfl 4 (by decide) (hw _ fl_T_37) (fun _ h9 => h9) rfl d_T_foundSays_8 ?_
    refine va_get (D := D) (ci := 2) (v := .int e0) (C := "TimeWords$Years") (T := F_Y) (N := 4) hx hb hw in_Y hown hK hP 3 rfl rfl 0 (by decide) (hw _ fl_T_153) (fun _ h9 => h9) rfl d_T_foundSays_11 ?_
    refine lv_aload_n hx hb d_T_foundSays_14 rfl (lv_at hl 1 rfl) ?_
    refine va_get (D := D) (ci := 2) (v := .int q.2.2.1) (C := "TimeWords$Years") (T := F_Y) (N := 4) hx hb hw in_Y hown hK (pc1 (hP.mem (List.mem_append_right _ (tl_sp hy0))) pc0) 0 rfl rfl 1 (by decide) (hw _ fl_T_156) (fun _ h9 => h9) rfl d_T_foundSays_15 ?_
    refine lv_iconst (v := 1) hx hb d_T_foundSays_18 (by decide) ?_
    refine lv_iadd hx hb d_T_foundSays_19 ?_
    refine lv_icmp_ne (tgt := 27) hx hb d_T_foundSays_20 (by decide) (fun c6 => ?_) (fun c6 => ?_)
    · refine lv_iconst (v := 0) hx hb d_T_foundSays_27 (by decide) ?_
      exact W.zret (v := 0) hx hb hr rfl (fun t ht hW => ⟨0, rfl, (by simp [c_fs, b2i, *]), ht⟩) (fun _ h => nomatch h) d_T_foundSays_28
    · refine lv_iconst (v := 1) hx hb d_T_foundSays_23 (by decide) ?_
      refine lv_goto (tgt := 28) hx hb d_T_foundSays_24 (by decide) ?_
      exact W.zret (v := 1) hx hb hr rfl (fun t ht hW => ⟨1, rfl, (by simp [c_fs, b2i, *]), ht⟩) (fun _ h => nomatch h) d_T_foundSays_28

set_option maxHeartbeats 4000000 in
set_option maxRecDepth 100000 in
theorem k_T_startTrial (l : Launch) (D : va_G) (T : gT) (κ : gS) (aa : Nat → Nat) (zw : Int32) (kp : Nat) (fp : Nat → Int32) (e0 e1 : Int32) (oF oT : Bool) (kt : Nat) (ft : Nat → Int32) (ks : Nat) (fs fc : Nat → Int32) (S : tS) (sz : Nat) (q : spD) (hy0 : q ∈ S.2.2.2) : Met l y_T_startTrial (Cond.code y_T_startTrial b_T_startTrial 2 none :: bg_W) ({ frames := 5, cells := 0, slots := 0, locals := 107 }) (qPf κ D T (cX T aa zw kp fp e0 e1 oF oT kt ft ks fs fc S ++ tl T S) [.ref (aa 0), .ref q.1] sz) (va_Qv (fun u : Nat × (Nat → Int32) => match u with | (kt1, ft1) => j_ls ft1 kt1 = c_bt q ∧ kt1 ≤ 7) (qB D T (va_A (cX T aa zw kp fp e0 e1 oF oT kt ft ks fs fc S ++ tl T S) sz) (fun u : Nat × (Nat → Int32) => match u with | (kt1, ft1) => cX T aa zw kp fp e0 e1 oF oT kt1 ft1 ks fs fc S ++ tl T S)) (va_A (cX T aa zw kp fp e0 e1 oF oT kt ft ks fs fc S ++ tl T S) sz)) 0 0 (va_A (cX T aa zw kp fp e0 e1 oF oT kt ft ks fs fc S ++ tl T S) sz) := by
  refine Met.ofW (cc := b_T_startTrial) (maxL := 2) (ret := none) (by decide) rfl ?_
  intro p e s m args below meth c s₁ B hml hv
  obtain ⟨rfl, hsz, hP, hK, hD0, hF⟩ := hv
  have hx := B.exec
  have hb := B.bytes
  have hr := B.returns
  have hw : ∀ w ∈ bg_W, w.before ([.ref (aa 0), .ref q.1] : List Value).toArray s = true := fun w h => atoms_spec (ws := (Cond.code y_T_startTrial b_T_startTrial 2 none :: bg_W)) B.pre w (List.mem_cons_of_mem _ h)
  have hown : s.vm.findClass "TimeWords" = some m.cls := findClass_of_methodNamed B.named
  have hlocks := B.notSynchronized
  subst hsz
  have hD := hD0.self (sz := s.heap.size)
  generalize hAe : va_A (cX T aa zw kp fp e0 e1 oF oT kt ft ks fs fc S ++ tl T S) s.heap.size = A at hD hF ⊢
  have hA : ∀ q : Nat, s.heap.size ≤ q → A q := fun q h => by rw [← hAe]; exact Or.inr h
  have hS : va_S A s.heap s.heap [] := va_S.rf
  have hl := lv_entry ([.ref (aa 0), .ref q.1]) (n := 2) (Nat.le_of_ble_eq_true rfl)
  rw [lg_entry_eq]
  generalize (lg_sl ([.ref (aa 0), .ref q.1]) ++ List.replicate (2 - (lg_sl ([.ref (aa 0), .ref q.1])).length) Slot.unset).toArray = ls at hl ⊢
  have hl : lv_has ls 2 [(0, .ref (aa 0)), (1, .ref q.1)] := hl
  refine lv_aload_n hx hb d_T_startTrial_0 rfl (lv_at hl 0 rfl) ?_
  refine va_get (D := D) (ci := 5) (v := .ref (aa 4)) (C := "TimeWords") (T := F_T) (N := 8) hx hb hw in_T hown hK hP 0 rfl rfl 5 (by decide) (hw _ fl_T_41) (fun _ h9 => h9) rfl d_T_startTrial_1 ?_
  have hPc : va_P D gC ([(aa 4, .inr (1, [.ref (aa 5), .int (nI kt)])), (aa 5, .inl (T.1, 24, .inl ft))]) s.heap := (pc1 (hP 4 _ rfl) (pc1 (hP 5 _ rfl) pc0))
  have hDc : va_D A ([(aa 4, .inr (1, [.ref (aa 5), .int (nI kt)])), (aa 5, .inl (T.1, 24, .inl ft))]) := by have h9 := hD.part (cx := [(aa 4, .inr (1, [.ref (aa 5), .int (nI kt)])), (aa 5, .inl (T.1, 24, .inl ft))]) [4, 5] (by decide) rfl; exact dl_l h9
  refine g_subv (X := cX T aa zw kp fp e0 e1 oF oT kt ft ks fs fc S) (pl := tl T S) (wr := [(aa 0, .inr (5, [.ref (aa 1), .ref S.1.1, .ref S.2.2.1.1, .int zw, .ref (aa 3), .ref (aa 4), .ref (aa 6), .ref (aa 8)])), (aa 1, .inr (1, [.ref (aa 2), .int (nI kp)])), (aa 2, .inl (T.1, 24, .inl fp)), (aa 3, .inr (2, [.int e0, .int e1, .int (b2i oF), .int (b2i oT)])), (aa 6, .inr (1, [.ref (aa 7), .int (nI ks)])), (aa 7, .inl (T.1, 24, .inl fs)), (aa 8, .inl (T.1, 9, .inl fc)), (S.1.1, .inr (0, [.ref S.1.2.1, .int (nI S.2.1.length), .int S.1.2.2.1])), (S.2.2.1.1, .inr (0, [.ref S.2.2.1.2.1, .int (nI S.2.2.2.length), .int S.2.2.1.2.2.1]))]) (cx := [(aa 4, .inr (1, [.ref (aa 5), .int (nI kt)])), (aa 5, .inl (T.1, 24, .inl ft))]) (va_runV (As := []) (rest := []) ⟨hx, hb, hml, hown, hw⟩ (k_R_empty l D T (aa 4) (aa 5) kt 24 ft s.heap.size) (cwV 0 hw (bg_V ml_T_73 wi_R_empty wv_R_empty wz_R wc_R_empty) rfl rfl rfl (by decide +kernel) ⟨Nat.le_of_ble_eq_true rfl, Nat.le_of_ble_eq_true rfl⟩) ⟨qP_b, va_recv hK hPc (ci := 1) (q0 := 0) rfl rfl, qP_p hPc hK hDc⟩ rfl rfl hl.1 rfl (lv_room (Nat.le_of_ble_eq_true rfl)) d_T_startTrial_4 ⟨Nat.le_of_ble_eq_true rfl, Nat.le_of_ble_eq_true rfl⟩) hP hD hS hA [4, 5] [0, 1, 2, 3, 6, 7, 8, 9, 10] rfl rfl (by decide) (by decide) (fun u2 H locs hr1 hP hD hS => ?_)
  have q0 := hr1
  replace q0 := q0.symm; subst q0
  have hP : va_P D gC (cX T aa zw kp fp e0 e1 oF oT 0 ft ks fs fc S ++ tl T S) H := hP.part (cx := cX T aa zw kp fp e0 e1 oF oT 0 ft ks fs fc S) [0, 1, 2, 3, 9, 10, 4, 5, 6, 7, 8] rfl
  have hD : va_D A (cX T aa zw kp fp e0 e1 oF oT 0 ft ks fs fc S ++ tl T S) := hD.part (cx := cX T aa zw kp fp e0 e1 oF oT 0 ft ks fs fc S) [0, 1, 2, 3, 9, 10, 4, 5, 6, 7, 8] (by decide) rfl
  refine lv_aload_n hx hb d_T_startTrial_7 rfl (lv_at hl 1 rfl) ?_
  refine va_get (D := D) (ci := 2) (v := .int (b2i q.2.2.2.1)) (C := "TimeWords$Years") (T := F_Y) (N := 4) hx hb hw in_Y hown hK (pc1 (hP.mem (List.mem_append_right _ (tl_sp hy0))) pc0) 0 rfl rfl 2 (by decide) (hw _ fl_T_319) (fun _ h9 => h9) rfl d_T_startTrial_8 ?_
  refine lv_if_eq (tgt := 28) hx hb d_T_startTrial_11 (by decide) (fun c3 => ?_) (fun c3 => ?_)
  · have c3 := b2i_f c3
    refine lv_aload_n hx hb d_T_startTrial_28 rfl (lv_at hl 1 rfl) ?_
    refine va_get (D := D) (ci := 2) (v := .int (b2i q.2.2.2.2)) (C := "TimeWords$Years") (T := F_Y) (N := 4) hx hb hw in_Y hown hK (pc1 (hP.mem (List.mem_append_right _ (tl_sp hy0))) pc0) 0 rfl rfl 3 (by decide) (hw _ fl_T_323) (fun _ h9 => h9) rfl d_T_startTrial_29 ?_
    refine lv_if_eq (tgt := 46) hx hb d_T_startTrial_32 (by decide) (fun c4 => ?_) (fun c4 => ?_)
    · have c4 := b2i_f c4
      exact W.vret hx hb hr (fun t ht hW => ⟨⟨(0, ft), rfl, ⟨by rw [bt_0 c3 c4]; rfl, Nat.zero_le _⟩, by rw [ht]; exact hP, va_K.moved hW.alike hK, hD⟩, hS.F ht⟩) hS.2.2 d_T_startTrial_46
    · have c4 := b2i_t c4
      refine lv_aload_n hx hb d_T_startTrial_35 rfl (lv_at hl 0 rfl) ?_
      refine va_get (D := D) (ci := 5) (v := .ref (aa 4)) (C := "TimeWords") (T := F_T) (N := 8) hx hb hw in_T hown hK hP 0 rfl rfl 5 (by decide) (hw _ fl_T_41) (fun _ h9 => h9) rfl d_T_startTrial_36 ?_
      refine lv_iconst (v := 5) hx hb d_T_startTrial_39 (by decide) ?_
      have hPc : va_P D gC ([]) H := pc0
      refine va_csq (va_Run.run (va_runS (As := [.int 5]) (rest := [.ref (aa 4)]) ⟨hx, hb, hml, hown, hw⟩ (k_T_beginning l D T κ A 5 (by decide)) (va_cwS 1 hw (bg_S ml_T_268 wt_T_beginning wz_T wc_T_beginning) rfl rfl rfl (by decide +kernel) ⟨Nat.le_of_ble_eq_true rfl, Nat.le_of_ble_eq_true rfl⟩) ⟨sPf_b, sPf_p hPc hK hF hS⟩ rfl rfl hl.1 rfl (lv_room (Nat.le_of_ble_eq_true rfl)) d_T_startTrial_40 ⟨Nat.le_of_ble_eq_true rfl, Nat.le_of_ble_eq_true rfl⟩)) (fun r5 hr5 => ?_)
      replace hr5 := hr5.symm; subst hr5
      refine W.eq (g2 := F0 m 43 ls [.ref (κ.1 (282 + 2 * 5)), .ref (aa 4)]) rfl ?_
      have hPc : va_P D gC ([(aa 4, .inr (1, [.ref (aa 5), .int 0])), (aa 5, .inl (T.1, 24, .inl ft))]) H := (pc1 (hP 4 _ rfl) (pc1 (hP 5 _ rfl) pc0))
      have hDc : va_D A ([(aa 4, .inr (1, [.ref (aa 5), .int 0])), (aa 5, .inl (T.1, 24, .inl ft))]) := by have h9 := hD.part (cx := [(aa 4, .inr (1, [.ref (aa 5), .int 0])), (aa 5, .inl (T.1, 24, .inl ft))]) [4, 5] (by decide) rfl; exact dl_l h9
      refine g_subv (X := cX T aa zw kp fp e0 e1 oF oT 0 ft ks fs fc S) (pl := tl T S) (wr := [(aa 0, .inr (5, [.ref (aa 1), .ref S.1.1, .ref S.2.2.1.1, .int zw, .ref (aa 3), .ref (aa 4), .ref (aa 6), .ref (aa 8)])), (aa 1, .inr (1, [.ref (aa 2), .int (nI kp)])), (aa 2, .inl (T.1, 24, .inl fp)), (aa 3, .inr (2, [.int e0, .int e1, .int (b2i oF), .int (b2i oT)])), (aa 6, .inr (1, [.ref (aa 7), .int (nI ks)])), (aa 7, .inl (T.1, 24, .inl fs)), (aa 8, .inl (T.1, 9, .inl fc)), (S.1.1, .inr (0, [.ref S.1.2.1, .int (nI S.2.1.length), .int S.1.2.2.1])), (S.2.2.1.1, .inr (0, [.ref S.2.2.1.2.1, .int (nI S.2.2.2.length), .int S.2.2.1.2.2.1]))]) (cx := [(aa 4, .inr (1, [.ref (aa 5), .int 0])), (aa 5, .inl (T.1, 24, .inl ft))]) (va_runV (As := [.ref (κ.1 (282 + 2 * 5))]) (rest := []) ⟨hx, hb, hml, hown, hw⟩ (k_R_addText_n l D T κ (aa 4) (aa 5) 0 24 ft H.size 5 (by decide) (by decide) (by decide)) (cwV 1 hw (bg_V ml_T_348 wi_R_addText wv_R_addText wz_R wc_R_addText) rfl rfl rfl (by decide +kernel) ⟨Nat.le_of_ble_eq_true rfl, Nat.le_of_ble_eq_true rfl⟩) ⟨qPf_b, va_recv hK hPc (ci := 1) (q0 := 0) rfl rfl, qPf_p hPc hK hDc hF hS (g_free hDc hS hA)⟩ rfl rfl hl.1 rfl (lv_room (Nat.le_of_ble_eq_true rfl)) d_T_startTrial_43 ⟨Nat.le_of_ble_eq_true rfl, Nat.le_of_ble_eq_true rfl⟩) hP hD hS hA [4, 5] [0, 1, 2, 3, 6, 7, 8, 9, 10] rfl rfl (by decide) (by decide) (fun u9 H locs hr6 hP hD hS => ?_)
      obtain ⟨u7, u8⟩ := u9
      dsimp only at hr6 hP hD
      have hP : va_P D gC (cX T aa zw kp fp e0 e1 oF oT u7 u8 ks fs fc S ++ tl T S) H := hP.part (cx := cX T aa zw kp fp e0 e1 oF oT u7 u8 ks fs fc S) [0, 1, 2, 3, 9, 10, 4, 5, 6, 7, 8] rfl
      have hD : va_D A (cX T aa zw kp fp e0 e1 oF oT u7 u8 ks fs fc S ++ tl T S) := hD.part (cx := cX T aa zw kp fp e0 e1 oF oT u7 u8 ks fs fc S) [0, 1, 2, 3, 9, 10, 4, 5, 6, 7, 8] (by decide) rfl
      exact W.vret hx hb hr (fun t ht hW => ⟨⟨(u7, u8), rfl, ⟨by rw [bt_5 c3 c4, hr6.1, Nat.zero_add, ls_cp0 hr6.2]; exact sx_ls 5 (by decide), by rw [hr6.1]; decide⟩, by rw [ht]; exact hP, va_K.moved hW.alike hK, hD⟩, hS.F ht⟩) hS.2.2 d_T_startTrial_46
  · have c3 := b2i_t c3
    refine lv_aload_n hx hb d_T_startTrial_14 rfl (lv_at hl 0 rfl) ?_
    refine va_get (D := D) (ci := 5) (v := .ref (aa 4)) (C := "TimeWords") (T := F_T) (N := 8) hx hb hw in_T hown hK hP 0 rfl rfl 5 (by decide) (hw _ fl_T_41) (fun _ h9 => h9) rfl d_T_startTrial_15 ?_
    refine lv_iconst (v := 4) hx hb d_T_startTrial_18 (by decide) ?_
    have hPc : va_P D gC ([]) H := pc0
    refine va_csq (va_Run.run (va_runS (As := [.int 4]) (rest := [.ref (aa 4)]) ⟨hx, hb, hml, hown, hw⟩ (k_T_beginning l D T κ A 4 (by decide)) (va_cwS 1 hw (bg_S ml_T_268 wt_T_beginning wz_T wc_T_beginning) rfl rfl rfl (by decide +kernel) ⟨Nat.le_of_ble_eq_true rfl, Nat.le_of_ble_eq_true rfl⟩) ⟨sPf_b, sPf_p hPc hK hF hS⟩ rfl rfl hl.1 rfl (lv_room (Nat.le_of_ble_eq_true rfl)) d_T_startTrial_19 ⟨Nat.le_of_ble_eq_true rfl, Nat.le_of_ble_eq_true rfl⟩)) (fun r9 hr9 => ?_)
    replace hr9 := hr9.symm; subst hr9
    refine W.eq (g2 := F0 m 22 ls [.ref (κ.1 (282 + 2 * 4)), .ref (aa 4)]) rfl ?_
    have hPc : va_P D gC ([(aa 4, .inr (1, [.ref (aa 5), .int 0])), (aa 5, .inl (T.1, 24, .inl ft))]) H := (pc1 (hP 4 _ rfl) (pc1 (hP 5 _ rfl) pc0))
    have hDc : va_D A ([(aa 4, .inr (1, [.ref (aa 5), .int 0])), (aa 5, .inl (T.1, 24, .inl ft))]) := by have h9 := hD.part (cx := [(aa 4, .inr (1, [.ref (aa 5), .int 0])), (aa 5, .inl (T.1, 24, .inl ft))]) [4, 5] (by decide) rfl; exact dl_l h9
    refine g_subv (X := cX T aa zw kp fp e0 e1 oF oT 0 ft ks fs fc S) (pl := tl T S) (wr := [(aa 0, .inr (5, [.ref (aa 1), .ref S.1.1, .ref S.2.2.1.1, .int zw, .ref (aa 3), .ref (aa 4), .ref (aa 6), .ref (aa 8)])), (aa 1, .inr (1, [.ref (aa 2), .int (nI kp)])), (aa 2, .inl (T.1, 24, .inl fp)), (aa 3, .inr (2, [.int e0, .int e1, .int (b2i oF), .int (b2i oT)])), (aa 6, .inr (1, [.ref (aa 7), .int (nI ks)])), (aa 7, .inl (T.1, 24, .inl fs)), (aa 8, .inl (T.1, 9, .inl fc)), (S.1.1, .inr (0, [.ref S.1.2.1, .int (nI S.2.1.length), .int S.1.2.2.1])), (S.2.2.1.1, .inr (0, [.ref S.2.2.1.2.1, .int (nI S.2.2.2.length), .int S.2.2.1.2.2.1]))]) (cx := [(aa 4, .inr (1, [.ref (aa 5), .int 0])), (aa 5, .inl (T.1, 24, .inl ft))]) (va_runV (As := [.ref (κ.1 (282 + 2 * 4))]) (rest := []) ⟨hx, hb, hml, hown, hw⟩ (k_R_addText_n l D T κ (aa 4) (aa 5) 0 24 ft H.size 4 (by decide) (by decide) (by decide)) (cwV 1 hw (bg_V ml_T_348 wi_R_addText wv_R_addText wz_R wc_R_addText) rfl rfl rfl (by decide +kernel) ⟨Nat.le_of_ble_eq_true rfl, Nat.le_of_ble_eq_true rfl⟩) ⟨qPf_b, va_recv hK hPc (ci := 1) (q0 := 0) rfl rfl, qPf_p hPc hK hDc hF hS (g_free hDc hS hA)⟩ rfl rfl hl.1 rfl (lv_room (Nat.le_of_ble_eq_true rfl)) d_T_startTrial_22 ⟨Nat.le_of_ble_eq_true rfl, Nat.le_of_ble_eq_true rfl⟩) hP hD hS hA [4, 5] [0, 1, 2, 3, 6, 7, 8, 9, 10] rfl rfl (by decide) (by decide) (fun u9 H locs hr10 hP hD hS => ?_)
    obtain ⟨u11, u12⟩ := u9
    dsimp only at hr10 hP hD
    have hP : va_P D gC (cX T aa zw kp fp e0 e1 oF oT u11 u12 ks fs fc S ++ tl T S) H := hP.part (cx := cX T aa zw kp fp e0 e1 oF oT u11 u12 ks fs fc S) [0, 1, 2, 3, 9, 10, 4, 5, 6, 7, 8] rfl
    have hD : va_D A (cX T aa zw kp fp e0 e1 oF oT u11 u12 ks fs fc S ++ tl T S) := hD.part (cx := cX T aa zw kp fp e0 e1 oF oT u11 u12 ks fs fc S) [0, 1, 2, 3, 9, 10, 4, 5, 6, 7, 8] (by decide) rfl
    refine lv_goto (tgt := 46) hx hb d_T_startTrial_25 (by decide) ?_
    exact W.vret hx hb hr (fun t ht hW => ⟨⟨(u11, u12), rfl, ⟨by rw [bt_4 c3, hr10.1, Nat.zero_add, ls_cp0 hr10.2]; exact sx_ls 4 (by decide), by rw [hr10.1]; decide⟩, by rw [ht]; exact hP, va_K.moved hW.alike hK, hD⟩, hS.F ht⟩) hS.2.2 d_T_startTrial_46

set_option maxHeartbeats 4000000 in
set_option maxRecDepth 100000 in
theorem k_T_keepShorter (l : Launch) (D : va_G) (T : gT) (κ : gS) (aa : Nat → Nat) (zw : Int32) (kp : Nat) (fp : Nat → Int32) (e0 e1 : Int32) (oF oT : Bool) (kt : Nat) (ft : Nat → Int32) (ks : Nat) (fs fc : Nat → Int32) (S : tS) (sz : Nat) (hy0 : kt ≤ 24) (hy1 : ks ≤ 24) : Met l y_T_keepShorter (Cond.code y_T_keepShorter b_T_keepShorter 1 none :: bg_W) ({ frames := 2, cells := 0, slots := 0, locals := 43 }) (qPf κ D T (cX T aa zw kp fp e0 e1 oF oT kt ft ks fs fc S ++ tl T S) [.ref (aa 0)] sz) (va_Qv (fun u : Nat × (Nat → Int32) => match u with | (ks1, fs1) => j_ls fs1 ks1 = j_up (j_ls ft kt) (j_ls fs ks) ∧ ks1 ≤ 24) (qB D T (va_A (cX T aa zw kp fp e0 e1 oF oT kt ft ks fs fc S ++ tl T S) sz) (fun u : Nat × (Nat → Int32) => match u with | (ks1, fs1) => cX T aa zw kp fp e0 e1 oF oT kt ft ks1 fs1 fc S ++ tl T S)) (va_A (cX T aa zw kp fp e0 e1 oF oT kt ft ks fs fc S ++ tl T S) sz)) 0 0 (va_A (cX T aa zw kp fp e0 e1 oF oT kt ft ks fs fc S ++ tl T S) sz) := by
  refine Met.ofW (cc := b_T_keepShorter) (maxL := 1) (ret := none) (by decide) rfl ?_
  intro p e s m args below meth c s₁ B hml hv
  obtain ⟨rfl, hsz, hP, hK, hD0, hF⟩ := hv
  have hx := B.exec
  have hb := B.bytes
  have hr := B.returns
  have hw : ∀ w ∈ bg_W, w.before ([.ref (aa 0)] : List Value).toArray s = true := fun w h => atoms_spec (ws := (Cond.code y_T_keepShorter b_T_keepShorter 1 none :: bg_W)) B.pre w (List.mem_cons_of_mem _ h)
  have hown : s.vm.findClass "TimeWords" = some m.cls := findClass_of_methodNamed B.named
  have hlocks := B.notSynchronized
  subst hsz
  have hD := hD0.self (sz := s.heap.size)
  generalize hAe : va_A (cX T aa zw kp fp e0 e1 oF oT kt ft ks fs fc S ++ tl T S) s.heap.size = A at hD hF ⊢
  have hA : ∀ q : Nat, s.heap.size ≤ q → A q := fun q h => by rw [← hAe]; exact Or.inr h
  have hS : va_S A s.heap s.heap [] := va_S.rf
  have hl := lv_entry ([.ref (aa 0)]) (n := 1) (Nat.le_of_ble_eq_true rfl)
  rw [lg_entry_eq]
  generalize (lg_sl ([.ref (aa 0)]) ++ List.replicate (1 - (lg_sl ([.ref (aa 0)])).length) Slot.unset).toArray = ls at hl ⊢
  have hl : lv_has ls 1 [(0, .ref (aa 0))] := hl
  refine lv_aload_n hx hb d_T_keepShorter_0 rfl (lv_at hl 0 rfl) ?_
  refine va_get (D := D) (ci := 5) (v := .ref (aa 6)) (C := "TimeWords") (T := F_T) (N := 8) hx hb hw in_T hown hK hP 0 rfl rfl 6 (by decide) (hw _ fl_T_44) (fun _ h9 => h9) rfl d_T_keepShorter_1 ?_
  refine va_get (D := D) (ci := 1) (v := .int (nI ks)) (C := "TimeWords$Row") (T := F_R) (N := 2) hx hb hw in_R hown hK hP 6 rfl rfl 1 (by decide) (hw _ fl_T_62) (fun _ h9 => h9) rfl d_T_keepShorter_4 ?_
  refine lv_if_eq (tgt := 24) hx hb d_T_keepShorter_7 (by decide) (fun c1 => ?_) (fun c1 => ?_)
  · have c1 := nc_eq (a := ks) (b := 0) c1 (by omega) (by omega)
    have hyes : ks = 0 ∨ j_sh ft fs kt ks := Or.inl (by omega)
    refine lv_aload_n hx hb d_T_keepShorter_24 rfl (lv_at hl 0 rfl) ?_
    refine va_get (D := D) (ci := 5) (v := .ref (aa 6)) (C := "TimeWords") (T := F_T) (N := 8) hx hb hw in_T hown hK hP 0 rfl rfl 6 (by decide) (hw _ fl_T_44) (fun _ h9 => h9) rfl d_T_keepShorter_25 ?_
    have hPc : va_P D gC ([(aa 6, .inr (1, [.ref (aa 7), .int (nI ks)])), (aa 7, .inl (T.1, 24, .inl fs))]) s.heap := (pc1 (hP 6 _ rfl) (pc1 (hP 7 _ rfl) pc0))
    have hDc : va_D A ([(aa 6, .inr (1, [.ref (aa 7), .int (nI ks)])), (aa 7, .inl (T.1, 24, .inl fs))]) := by have h9 := hD.part (cx := [(aa 6, .inr (1, [.ref (aa 7), .int (nI ks)])), (aa 7, .inl (T.1, 24, .inl fs))]) [6, 7] (by decide) rfl; exact dl_l h9
    refine g_subv (X := cX T aa zw kp fp e0 e1 oF oT kt ft ks fs fc S) (pl := tl T S) (wr := [(aa 0, .inr (5, [.ref (aa 1), .ref S.1.1, .ref S.2.2.1.1, .int zw, .ref (aa 3), .ref (aa 4), .ref (aa 6), .ref (aa 8)])), (aa 1, .inr (1, [.ref (aa 2), .int (nI kp)])), (aa 2, .inl (T.1, 24, .inl fp)), (aa 3, .inr (2, [.int e0, .int e1, .int (b2i oF), .int (b2i oT)])), (aa 4, .inr (1, [.ref (aa 5), .int (nI kt)])), (aa 5, .inl (T.1, 24, .inl ft)), (aa 8, .inl (T.1, 9, .inl fc)), (S.1.1, .inr (0, [.ref S.1.2.1, .int (nI S.2.1.length), .int S.1.2.2.1])), (S.2.2.1.1, .inr (0, [.ref S.2.2.1.2.1, .int (nI S.2.2.2.length), .int S.2.2.1.2.2.1]))]) (cx := [(aa 6, .inr (1, [.ref (aa 7), .int (nI ks)])), (aa 7, .inl (T.1, 24, .inl fs))]) (va_runV (As := []) (rest := []) ⟨hx, hb, hml, hown, hw⟩ (k_R_empty l D T (aa 6) (aa 7) ks 24 fs s.heap.size) (cwV 0 hw (bg_V ml_T_73 wi_R_empty wv_R_empty wz_R wc_R_empty) rfl rfl rfl (by decide +kernel) ⟨Nat.le_of_ble_eq_true rfl, Nat.le_of_ble_eq_true rfl⟩) ⟨qP_b, va_recv hK hPc (ci := 1) (q0 := 0) rfl rfl, qP_p hPc hK hDc⟩ rfl rfl hl.1 rfl (lv_room (Nat.le_of_ble_eq_true rfl)) d_T_keepShorter_28 ⟨Nat.le_of_ble_eq_true rfl, Nat.le_of_ble_eq_true rfl⟩) hP hD hS hA [6, 7] [0, 1, 2, 3, 4, 5, 8, 9, 10] rfl rfl (by decide) (by decide) (fun u3 H locs hr2 hP hD hS => ?_)
    have q0 := hr2
    replace q0 := q0.symm; subst q0
    have hP : va_P D gC (cX T aa zw kp fp e0 e1 oF oT kt ft 0 fs fc S ++ tl T S) H := hP.part (cx := cX T aa zw kp fp e0 e1 oF oT kt ft 0 fs fc S) [0, 1, 2, 3, 4, 5, 9, 10, 6, 7, 8] rfl
    have hD : va_D A (cX T aa zw kp fp e0 e1 oF oT kt ft 0 fs fc S ++ tl T S) := hD.part (cx := cX T aa zw kp fp e0 e1 oF oT kt ft 0 fs fc S) [0, 1, 2, 3, 4, 5, 9, 10, 6, 7, 8] (by decide) rfl
    refine lv_aload_n hx hb d_T_keepShorter_31 rfl (lv_at hl 0 rfl) ?_
    refine va_get (D := D) (ci := 5) (v := .ref (aa 6)) (C := "TimeWords") (T := F_T) (N := 8) hx hb hw in_T hown hK hP 0 rfl rfl 6 (by decide) (hw _ fl_T_44) (fun _ h9 => h9) rfl d_T_keepShorter_32 ?_
    refine lv_aload_n hx hb d_T_keepShorter_35 rfl (lv_at hl 0 rfl) ?_
    refine va_get (D := D) (ci := 5) (v := .ref (aa 4)) (C := "TimeWords") (T := F_T) (N := 8) hx hb hw in_T hown hK hP 0 rfl rfl 5 (by decide) (hw _ fl_T_41) (fun _ h9 => h9) rfl d_T_keepShorter_36 ?_
    have hPc : va_P D gC ([(aa 6, .inr (1, [.ref (aa 7), .int 0])), (aa 7, .inl (T.1, 24, .inl fs)), (aa 4, .inr (1, [.ref (aa 5), .int (nI kt)])), (aa 5, .inl (T.1, 24, .inl ft))]) H := (pc1 (hP 6 _ rfl) (pc1 (hP 7 _ rfl) (pc1 (hP 4 _ rfl) (pc1 (hP 5 _ rfl) pc0))))
    have hDc : va_D A ([(aa 6, .inr (1, [.ref (aa 7), .int 0])), (aa 7, .inl (T.1, 24, .inl fs)), (aa 4, .inr (1, [.ref (aa 5), .int (nI kt)])), (aa 5, .inl (T.1, 24, .inl ft))]) := by have h9 := hD.part (cx := [(aa 6, .inr (1, [.ref (aa 7), .int 0])), (aa 7, .inl (T.1, 24, .inl fs)), (aa 4, .inr (1, [.ref (aa 5), .int (nI kt)])), (aa 5, .inl (T.1, 24, .inl ft))]) [6, 7, 4, 5] (by decide) rfl; exact dl_l h9
    refine g_subv (X := cX T aa zw kp fp e0 e1 oF oT kt ft 0 fs fc S) (pl := tl T S) (wr := [(aa 0, .inr (5, [.ref (aa 1), .ref S.1.1, .ref S.2.2.1.1, .int zw, .ref (aa 3), .ref (aa 4), .ref (aa 6), .ref (aa 8)])), (aa 1, .inr (1, [.ref (aa 2), .int (nI kp)])), (aa 2, .inl (T.1, 24, .inl fp)), (aa 3, .inr (2, [.int e0, .int e1, .int (b2i oF), .int (b2i oT)])), (aa 8, .inl (T.1, 9, .inl fc)), (S.1.1, .inr (0, [.ref S.1.2.1, .int (nI S.2.1.length), .int S.1.2.2.1])), (S.2.2.1.1, .inr (0, [.ref S.2.2.1.2.1, .int (nI S.2.2.2.length), .int S.2.2.1.2.2.1]))]) (cx := [(aa 6, .inr (1, [.ref (aa 7), .int 0])), (aa 7, .inl (T.1, 24, .inl fs)), (aa 4, .inr (1, [.ref (aa 5), .int (nI kt)])), (aa 5, .inl (T.1, 24, .inl ft))]) (va_runV (As := [.ref (aa 4)]) (rest := []) ⟨hx, hb, hml, hown, hw⟩ (k_R_addRow_n l D T (aa 6) (aa 7) 0 24 fs (aa 4) (aa 5) kt 24 ft H.size (by omega) (by decide) hy0 (by decide)) (cwV 1 hw (bg_V ml_T_354 wi_R_addRow wv_R_addRow wz_R wc_R_addRow) rfl rfl rfl (by decide +kernel) ⟨Nat.le_of_ble_eq_true rfl, Nat.le_of_ble_eq_true rfl⟩) ⟨qP_b, va_recv hK hPc (ci := 1) (q0 := 0) rfl rfl, qP_p hPc hK hDc⟩ rfl rfl hl.1 rfl (lv_room (Nat.le_of_ble_eq_true rfl)) d_T_keepShorter_39 ⟨Nat.le_of_ble_eq_true rfl, Nat.le_of_ble_eq_true rfl⟩) hP hD hS hA [6, 7, 4, 5] [0, 1, 2, 3, 8, 9, 10] rfl rfl (by decide) (by decide) (fun u9 H locs hr4 hP hD hS => ?_)
    obtain ⟨u5, u6⟩ := u9
    dsimp only at hr4 hP hD
    have hP : va_P D gC (cX T aa zw kp fp e0 e1 oF oT kt ft u5 u6 fc S ++ tl T S) H := hP.part (cx := cX T aa zw kp fp e0 e1 oF oT kt ft u5 u6 fc S) [0, 1, 2, 3, 9, 10, 7, 8, 4, 5, 6] rfl
    have hD : va_D A (cX T aa zw kp fp e0 e1 oF oT kt ft u5 u6 fc S ++ tl T S) := hD.part (cx := cX T aa zw kp fp e0 e1 oF oT kt ft u5 u6 fc S) [0, 1, 2, 3, 9, 10, 7, 8, 4, 5, 6] (by decide) rfl
    exact W.vret hx hb hr (fun t ht hW => ⟨⟨(u5, u6), rfl, ⟨by rw [hr4.1, Nat.zero_add, ls_cp0 hr4.2]; exact (up_yes rfl rfl hyes).symm, by rw [hr4.1]; omega⟩, by rw [ht]; exact hP, va_K.moved hW.alike hK, hD⟩, hS.F ht⟩) hS.2.2 d_T_keepShorter_42
  · have c1 := nc_ne (a := ks) (b := 0) c1 (by omega) (by omega)
    refine lv_aload_n hx hb d_T_keepShorter_10 rfl (lv_at hl 0 rfl) ?_
    refine va_get (D := D) (ci := 5) (v := .ref (aa 4)) (C := "TimeWords") (T := F_T) (N := 8) hx hb hw in_T hown hK hP 0 rfl rfl 5 (by decide) (hw _ fl_T_41) (fun _ h9 => h9) rfl d_T_keepShorter_11 ?_
    refine lv_aload_n hx hb d_T_keepShorter_14 rfl (lv_at hl 0 rfl) ?_
    refine va_get (D := D) (ci := 5) (v := .ref (aa 6)) (C := "TimeWords") (T := F_T) (N := 8) hx hb hw in_T hown hK hP 0 rfl rfl 6 (by decide) (hw _ fl_T_44) (fun _ h9 => h9) rfl d_T_keepShorter_15 ?_
    have hPc : va_P D gC ([(aa 4, .inr (1, [.ref (aa 5), .int (nI kt)])), (aa 5, .inl (T.1, 24, .inl ft)), (aa 6, .inr (1, [.ref (aa 7), .int (nI ks)])), (aa 7, .inl (T.1, 24, .inl fs))]) s.heap := (pc1 (hP 4 _ rfl) (pc1 (hP 5 _ rfl) (pc1 (hP 6 _ rfl) (pc1 (hP 7 _ rfl) pc0))))
    refine vp_callSi (va_Run.run (va_runV (As := [.ref (aa 6)]) (rest := []) ⟨hx, hb, hml, hown, hw⟩ (k_R_isAheadOf l D T (aa 4) (aa 5) kt 24 ft (aa 6) (aa 7) ks 24 fs hy0 (by decide) hy1 (by decide)) (cwV 1 hw (bg_V ml_T_357 wi_R_isAheadOf wv_R_isAheadOf wz_R wc_R_isAheadOf) rfl rfl rfl (by decide +kernel) ⟨Nat.le_of_ble_eq_true rfl, Nat.le_of_ble_eq_true rfl⟩) ⟨sP_b, va_recv hK hPc (ci := 1) (q0 := 0) rfl rfl, sP_p hPc hK⟩ rfl rfl hl.1 rfl (lv_room (Nat.le_of_ble_eq_true rfl)) d_T_keepShorter_18 ⟨Nat.le_of_ble_eq_true rfl, Nat.le_of_ble_eq_true rfl⟩)) (fun r7 hr7 => ?_)
    rcases hr7 with ⟨g0, g1⟩ | ⟨g0, g1⟩
    · subst g0
      have hyes : ks = 0 ∨ j_sh ft fs kt ks := Or.inr g1
      refine lv_if_eq (tgt := 42) hx hb d_T_keepShorter_21 (by decide) (fun c8 => absurd c8 (by decide)) (fun c8 => ?_)
      refine lv_aload_n hx hb d_T_keepShorter_24 rfl (lv_at hl 0 rfl) ?_
      refine va_get (D := D) (ci := 5) (v := .ref (aa 6)) (C := "TimeWords") (T := F_T) (N := 8) hx hb hw in_T hown hK hP 0 rfl rfl 6 (by decide) (hw _ fl_T_44) (fun _ h9 => h9) rfl d_T_keepShorter_25 ?_
      have hPc : va_P D gC ([(aa 6, .inr (1, [.ref (aa 7), .int (nI ks)])), (aa 7, .inl (T.1, 24, .inl fs))]) s.heap := (pc1 (hP 6 _ rfl) (pc1 (hP 7 _ rfl) pc0))
      have hDc : va_D A ([(aa 6, .inr (1, [.ref (aa 7), .int (nI ks)])), (aa 7, .inl (T.1, 24, .inl fs))]) := by have h9 := hD.part (cx := [(aa 6, .inr (1, [.ref (aa 7), .int (nI ks)])), (aa 7, .inl (T.1, 24, .inl fs))]) [6, 7] (by decide) rfl; exact dl_l h9
      refine g_subv (X := cX T aa zw kp fp e0 e1 oF oT kt ft ks fs fc S) (pl := tl T S) (wr := [(aa 0, .inr (5, [.ref (aa 1), .ref S.1.1, .ref S.2.2.1.1, .int zw, .ref (aa 3), .ref (aa 4), .ref (aa 6), .ref (aa 8)])), (aa 1, .inr (1, [.ref (aa 2), .int (nI kp)])), (aa 2, .inl (T.1, 24, .inl fp)), (aa 3, .inr (2, [.int e0, .int e1, .int (b2i oF), .int (b2i oT)])), (aa 4, .inr (1, [.ref (aa 5), .int (nI kt)])), (aa 5, .inl (T.1, 24, .inl ft)), (aa 8, .inl (T.1, 9, .inl fc)), (S.1.1, .inr (0, [.ref S.1.2.1, .int (nI S.2.1.length), .int S.1.2.2.1])), (S.2.2.1.1, .inr (0, [.ref S.2.2.1.2.1, .int (nI S.2.2.2.length), .int S.2.2.1.2.2.1]))]) (cx := [(aa 6, .inr (1, [.ref (aa 7), .int (nI ks)])), (aa 7, .inl (T.1, 24, .inl fs))]) (va_runV (As := []) (rest := []) ⟨hx, hb, hml, hown, hw⟩ (k_R_empty l D T (aa 6) (aa 7) ks 24 fs s.heap.size) (cwV 0 hw (bg_V ml_T_73 wi_R_empty wv_R_empty wz_R wc_R_empty) rfl rfl rfl (by decide +kernel) ⟨Nat.le_of_ble_eq_true rfl, Nat.le_of_ble_eq_true rfl⟩) ⟨qP_b, va_recv hK hPc (ci := 1) (q0 := 0) rfl rfl, qP_p hPc hK hDc⟩ rfl rfl hl.1 rfl (lv_room (Nat.le_of_ble_eq_true rfl)) d_T_keepShorter_28 ⟨Nat.le_of_ble_eq_true rfl, Nat.le_of_ble_eq_true rfl⟩) hP hD hS hA [6, 7] [0, 1, 2, 3, 4, 5, 8, 9, 10] rfl rfl (by decide) (by decide) (fun u10 H locs hr9 hP hD hS => ?_)
      have q0 := hr9
      replace q0 := q0.symm; subst q0
      have hP : va_P D gC (cX T aa zw kp fp e0 e1 oF oT kt ft 0 fs fc S ++ tl T S) H := hP.part (cx := cX T aa zw kp fp e0 e1 oF oT kt ft 0 fs fc S) [0, 1, 2, 3, 4, 5, 9, 10, 6, 7, 8] rfl
      have hD : va_D A (cX T aa zw kp fp e0 e1 oF oT kt ft 0 fs fc S ++ tl T S) := hD.part (cx := cX T aa zw kp fp e0 e1 oF oT kt ft 0 fs fc S) [0, 1, 2, 3, 4, 5, 9, 10, 6, 7, 8] (by decide) rfl
      refine lv_aload_n hx hb d_T_keepShorter_31 rfl (lv_at hl 0 rfl) ?_
      refine va_get (D := D) (ci := 5) (v := .ref (aa 6)) (C := "TimeWords") (T := F_T) (N := 8) hx hb hw in_T hown hK hP 0 rfl rfl 6 (by decide) (hw _ fl_T_44) (fun _ h9 => h9) rfl d_T_keepShorter_32 ?_
      refine lv_aload_n hx hb d_T_keepShorter_35 rfl (lv_at hl 0 rfl) ?_
      refine va_get (D := D) (ci := 5) (v := .ref (aa 4)) (C := "TimeWords") (T := F_T) (N := 8) hx hb hw in_T hown hK hP 0 rfl rfl 5 (by decide) (hw _ fl_T_41) (fun _ h9 => h9) rfl d_T_keepShorter_36 ?_
      have hPc : va_P D gC ([(aa 6, .inr (1, [.ref (aa 7), .int 0])), (aa 7, .inl (T.1, 24, .inl fs)), (aa 4, .inr (1, [.ref (aa 5), .int (nI kt)])), (aa 5, .inl (T.1, 24, .inl ft))]) H := (pc1 (hP 6 _ rfl) (pc1 (hP 7 _ rfl) (pc1 (hP 4 _ rfl) (pc1 (hP 5 _ rfl) pc0))))
      have hDc : va_D A ([(aa 6, .inr (1, [.ref (aa 7), .int 0])), (aa 7, .inl (T.1, 24, .inl fs)), (aa 4, .inr (1, [.ref (aa 5), .int (nI kt)])), (aa 5, .inl (T.1, 24, .inl ft))]) := by have h9 := hD.part (cx := [(aa 6, .inr (1, [.ref (aa 7), .int 0])), (aa 7, .inl (T.1, 24, .inl fs)), (aa 4, .inr (1, [.ref (aa 5), .int (nI kt)])), (aa 5, .inl (T.1, 24, .inl ft))]) [6, 7, 4, 5] (by decide) rfl; exact dl_l h9
      refine g_subv (X := cX T aa zw kp fp e0 e1 oF oT kt ft 0 fs fc S) (pl := tl T S) (wr := [(aa 0, .inr (5, [.ref (aa 1), .ref S.1.1, .ref S.2.2.1.1, .int zw, .ref (aa 3), .ref (aa 4), .ref (aa 6), .ref (aa 8)])), (aa 1, .inr (1, [.ref (aa 2), .int (nI kp)])), (aa 2, .inl (T.1, 24, .inl fp)), (aa 3, .inr (2, [.int e0, .int e1, .int (b2i oF), .int (b2i oT)])), (aa 8, .inl (T.1, 9, .inl fc)), (S.1.1, .inr (0, [.ref S.1.2.1, .int (nI S.2.1.length), .int S.1.2.2.1])), (S.2.2.1.1, .inr (0, [.ref S.2.2.1.2.1, .int (nI S.2.2.2.length), .int S.2.2.1.2.2.1]))]) (cx := [(aa 6, .inr (1, [.ref (aa 7), .int 0])), (aa 7, .inl (T.1, 24, .inl fs)), (aa 4, .inr (1, [.ref (aa 5), .int (nI kt)])), (aa 5, .inl (T.1, 24, .inl ft))]) (va_runV (As := [.ref (aa 4)]) (rest := []) ⟨hx, hb, hml, hown, hw⟩ (k_R_addRow_n l D T (aa 6) (aa 7) 0 24 fs (aa 4) (aa 5) kt 24 ft H.size (by omega) (by decide) hy0 (by decide)) (cwV 1 hw (bg_V ml_T_354 wi_R_addRow wv_R_addRow wz_R wc_R_addRow) rfl rfl rfl (by decide +kernel) ⟨Nat.le_of_ble_eq_true rfl, Nat.le_of_ble_eq_true rfl⟩) ⟨qP_b, va_recv hK hPc (ci := 1) (q0 := 0) rfl rfl, qP_p hPc hK hDc⟩ rfl rfl hl.1 rfl (lv_room (Nat.le_of_ble_eq_true rfl)) d_T_keepShorter_39 ⟨Nat.le_of_ble_eq_true rfl, Nat.le_of_ble_eq_true rfl⟩) hP hD hS hA [6, 7, 4, 5] [0, 1, 2, 3, 8, 9, 10] rfl rfl (by decide) (by decide) (fun u9 H locs hr11 hP hD hS => ?_)
      obtain ⟨u12, u13⟩ := u9
      dsimp only at hr11 hP hD
      have hP : va_P D gC (cX T aa zw kp fp e0 e1 oF oT kt ft u12 u13 fc S ++ tl T S) H := hP.part (cx := cX T aa zw kp fp e0 e1 oF oT kt ft u12 u13 fc S) [0, 1, 2, 3, 9, 10, 7, 8, 4, 5, 6] rfl
      have hD : va_D A (cX T aa zw kp fp e0 e1 oF oT kt ft u12 u13 fc S ++ tl T S) := hD.part (cx := cX T aa zw kp fp e0 e1 oF oT kt ft u12 u13 fc S) [0, 1, 2, 3, 9, 10, 7, 8, 4, 5, 6] (by decide) rfl
      exact W.vret hx hb hr (fun t ht hW => ⟨⟨(u12, u13), rfl, ⟨by rw [hr11.1, Nat.zero_add, ls_cp0 hr11.2]; exact (up_yes rfl rfl hyes).symm, by rw [hr11.1]; omega⟩, by rw [ht]; exact hP, va_K.moved hW.alike hK, hD⟩, hS.F ht⟩) hS.2.2 d_T_keepShorter_42
    · subst g0
      have hno : ¬ (ks = 0 ∨ j_sh ft fs kt ks) := fun z => z.elim (fun e => by omega) g1
      refine lv_if_eq (tgt := 42) hx hb d_T_keepShorter_21 (by decide) (fun c14 => ?_) (fun c14 => absurd c14 (by decide))
      exact W.vret hx hb hr (fun t ht hW => ⟨⟨(ks, fs), rfl, ⟨(up_no rfl rfl hno).symm, hy1⟩, by rw [ht]; exact hP, va_K.moved hW.alike hK, hD⟩, hS.F ht⟩) hS.2.2 d_T_keepShorter_42

set_option maxHeartbeats 4000000 in
set_option maxRecDepth 100000 in
theorem k_T_tryCentury_n (l : Launch) (D : va_G) (T : gT) (κ : gS) (aa : Nat → Nat) (zw : Int32) (kp : Nat) (fp : Nat → Int32) (e0 e1 : Int32) (oF oT : Bool) (kt : Nat) (ft : Nat → Int32) (ks : Nat) (fs fc : Nat → Int32) (S : tS) (sz : Nat) (q : spD) (x kd : Int32) (hy0 : q ∈ S.2.2.2) (hy1 : j_in x 1 99 = false) : Met l y_T_tryCentury (Cond.code y_T_tryCentury b_T_tryCentury 5 none :: bg_W) ({ frames := 2, cells := 0, slots := 0, locals := 43 }) (qPf κ D T (cX T aa zw kp fp e0 e1 oF oT kt ft ks fs fc S ++ tl T S) [.ref (aa 0), .ref q.1, .int x, .int kd] sz) (va_Qv (fun u : Int32 × Int32 × Bool × Bool => match u with | (w0, w1, v2, v3) => w0 = e0 ∧ w1 = e1 ∧ v2 = oF ∧ v3 = oT) (qB D T (va_A (cX T aa zw kp fp e0 e1 oF oT kt ft ks fs fc S ++ tl T S) sz) (fun u : Int32 × Int32 × Bool × Bool => match u with | (w0, w1, v2, v3) => cX T aa zw kp fp w0 w1 v2 v3 kt ft ks fs fc S ++ tl T S)) (va_A (cX T aa zw kp fp e0 e1 oF oT kt ft ks fs fc S ++ tl T S) sz)) 0 0 (va_A (cX T aa zw kp fp e0 e1 oF oT kt ft ks fs fc S ++ tl T S) sz) := by
  refine Met.ofW (cc := b_T_tryCentury) (maxL := 5) (ret := none) (by decide) rfl ?_
  intro p e s m args below meth c s₁ B hml hv
  obtain ⟨rfl, hsz, hP, hK, hD0, hF⟩ := hv
  have hx := B.exec
  have hb := B.bytes
  have hr := B.returns
  have hw : ∀ w ∈ bg_W, w.before ([.ref (aa 0), .ref q.1, .int x, .int kd] : List Value).toArray s = true := fun w h => atoms_spec (ws := (Cond.code y_T_tryCentury b_T_tryCentury 5 none :: bg_W)) B.pre w (List.mem_cons_of_mem _ h)
  have hown : s.vm.findClass "TimeWords" = some m.cls := findClass_of_methodNamed B.named
  have hlocks := B.notSynchronized
  subst hsz
  have hD := hD0.self (sz := s.heap.size)
  generalize hAe : va_A (cX T aa zw kp fp e0 e1 oF oT kt ft ks fs fc S ++ tl T S) s.heap.size = A at hD hF ⊢
  have hA : ∀ q : Nat, s.heap.size ≤ q → A q := fun q h => by rw [← hAe]; exact Or.inr h
  have hS : va_S A s.heap s.heap [] := va_S.rf
  have hl := lv_entry ([.ref (aa 0), .ref q.1, .int x, .int kd]) (n := 5) (Nat.le_of_ble_eq_true rfl)
  rw [lg_entry_eq]
  generalize (lg_sl ([.ref (aa 0), .ref q.1, .int x, .int kd]) ++ List.replicate (5 - (lg_sl ([.ref (aa 0), .ref q.1, .int x, .int kd])).length) Slot.unset).toArray = ls at hl ⊢
  have hl : lv_has ls 5 [(0, .ref (aa 0)), (1, .ref q.1), (2, .int x), (3, .int kd)] := hl
  refine lv_aload_n hx hb d_T_tryCentury_0 rfl (lv_at hl 0 rfl) ?_
  refine lv_iload_n hx hb d_T_tryCentury_1 rfl (lv_at hl 2 rfl) ?_
  refine g_calli (va_runV (As := [.int x]) (rest := []) ⟨hx, hb, hml, hown, hw⟩ (k_T_findCentury l D T κ aa zw kp fp e0 e1 oF oT kt ft ks fs fc S s.heap.size x) (cwV 1 hw (bg_V ml_T_308 wi_T_findCentury wv_T_findCentury wz_T wc_T_findCentury) rfl rfl rfl (by decide +kernel) ⟨Nat.le_of_ble_eq_true rfl, Nat.le_of_ble_eq_true rfl⟩) ⟨qPf_b, va_recv hK hP (ci := 5) (q0 := 0) rfl rfl, qPf_p hP hK hD hF hS (g_free hD hS hA)⟩ rfl rfl hl.1 rfl (lv_room (Nat.le_of_ble_eq_true rfl)) d_T_tryCentury_2 ⟨Nat.le_of_ble_eq_true rfl, Nat.le_of_ble_eq_true rfl⟩) hD hS hA (fun r1 u9 H locs hr1 hP hD hS => ?_)
  obtain ⟨u2, u3, u4, u5⟩ := u9
  dsimp only at hr1 hP hD
  have hP : va_P D gC (cX T aa zw kp fp u2 u3 u4 u5 kt ft ks fs fc S ++ tl T S) H := hP
  have hD : va_D A (cX T aa zw kp fp u2 u3 u4 u5 kt ft ks fs fc S ++ tl T S) := hD
  rcases hr1 with ⟨g1, g0, g2, g3, g4, g5⟩ | ⟨g1, g0, g2, g3, g4, g5⟩
  · rw [hy1] at g1; cases g1
  · subst g0
    replace g2 := g2.symm; replace g3 := g3.symm; replace g4 := g4.symm; replace g5 := g5.symm
    subst g2
    subst g3
    subst g4
    subst g5
    refine lv_if_eq (tgt := 28) hx hb d_T_tryCentury_5 (by decide) (fun c6 => ?_) (fun c6 => absurd c6 (by decide))
    refine lv_iconst (v := 0) hx hb d_T_tryCentury_28 (by decide) ?_
    refine lv_istore (lv' := [(4, .int 0), (0, .ref (aa 0)), (1, .ref q.1), (2, .int x), (3, .int kd)]) hx hb d_T_tryCentury_29 hl (by decide) rfl (fun ls hl => ?_)
    refine lv_iload hx hb d_T_tryCentury_31 (lv_at hl 0 rfl) ?_
    refine lv_if_eq (tgt := 44) hx hb d_T_tryCentury_33 (by decide) (fun c7 => ?_) (fun c7 => absurd c7 (by decide))
    exact W.vret hx hb hr (fun t ht hW => ⟨⟨(e0, e1, oF, oT), rfl, ⟨rfl, rfl, rfl, rfl⟩, by rw [ht]; exact hP, va_K.moved hW.alike hK, hD⟩, hS.F ht⟩) hS.2.2 d_T_tryCentury_44

set_option maxHeartbeats 4000000 in
set_option maxRecDepth 100000 in
theorem k_T_tryCentury_w (l : Launch) (D : va_G) (T : gT) (κ : gS) (aa : Nat → Nat) (zw : Int32) (kp : Nat) (fp : Nat → Int32) (e0 e1 : Int32) (oF oT : Bool) (kt : Nat) (ft : Nat → Int32) (ks : Nat) (fs fc : Nat → Int32) (S : tS) (sz : Nat) (q : spD) (cn : Nat) (hy0 : q ∈ S.2.2.2) (hy1 : 1 ≤ cn) (hy2 : cn ≤ 99) (hy3 : ks ≤ 24) : Met l y_T_tryCentury (Cond.code y_T_tryCentury b_T_tryCentury 5 none :: bg_W) ({ frames := 6, cells := 0, slots := 0, locals := 128 }) (qPf κ D T (cX T aa zw kp fp e0 e1 oF oT kt ft ks fs fc S ++ tl T S) [.ref (aa 0), .ref q.1, .int (nI cn), .int (-1)] sz) (va_Qv (fun u : Int32 × Int32 × Bool × Bool × Nat × (Nat → Int32) × Nat × (Nat → Int32) => match u with | (w0, w1, v2, v3, kt1, ft1, ks1, fs1) => j_ls fs1 ks1 = c_tc zw q none cn (j_ls fs ks) ∧ ks1 ≤ 24) (qB D T (va_A (cX T aa zw kp fp e0 e1 oF oT kt ft ks fs fc S ++ tl T S) sz) (fun u : Int32 × Int32 × Bool × Bool × Nat × (Nat → Int32) × Nat × (Nat → Int32) => match u with | (w0, w1, v2, v3, kt1, ft1, ks1, fs1) => cX T aa zw kp fp w0 w1 v2 v3 kt1 ft1 ks1 fs1 fc S ++ tl T S)) (va_A (cX T aa zw kp fp e0 e1 oF oT kt ft ks fs fc S ++ tl T S) sz)) 0 0 (va_A (cX T aa zw kp fp e0 e1 oF oT kt ft ks fs fc S ++ tl T S) sz) := by
  refine Met.ofW (cc := b_T_tryCentury) (maxL := 5) (ret := none) (by decide) rfl ?_
  intro p e s m args below meth c s₁ B hml hv
  obtain ⟨rfl, hsz, hP, hK, hD0, hF⟩ := hv
  have hx := B.exec
  have hb := B.bytes
  have hr := B.returns
  have hw : ∀ w ∈ bg_W, w.before ([.ref (aa 0), .ref q.1, .int (nI cn), .int (-1)] : List Value).toArray s = true := fun w h => atoms_spec (ws := (Cond.code y_T_tryCentury b_T_tryCentury 5 none :: bg_W)) B.pre w (List.mem_cons_of_mem _ h)
  have hown : s.vm.findClass "TimeWords" = some m.cls := findClass_of_methodNamed B.named
  have hlocks := B.notSynchronized
  subst hsz
  have hD := hD0.self (sz := s.heap.size)
  generalize hAe : va_A (cX T aa zw kp fp e0 e1 oF oT kt ft ks fs fc S ++ tl T S) s.heap.size = A at hD hF ⊢
  have hA : ∀ q : Nat, s.heap.size ≤ q → A q := fun q h => by rw [← hAe]; exact Or.inr h
  have hS : va_S A s.heap s.heap [] := va_S.rf
  have hl := lv_entry ([.ref (aa 0), .ref q.1, .int (nI cn), .int (-1)]) (n := 5) (Nat.le_of_ble_eq_true rfl)
  rw [lg_entry_eq]
  generalize (lg_sl ([.ref (aa 0), .ref q.1, .int (nI cn), .int (-1)]) ++ List.replicate (5 - (lg_sl ([.ref (aa 0), .ref q.1, .int (nI cn), .int (-1)])).length) Slot.unset).toArray = ls at hl ⊢
  have hl : lv_has ls 5 [(0, .ref (aa 0)), (1, .ref q.1), (2, .int (nI cn)), (3, .int (-1))] := hl
  refine lv_aload_n hx hb d_T_tryCentury_0 rfl (lv_at hl 0 rfl) ?_
  refine lv_iload_n hx hb d_T_tryCentury_1 rfl (lv_at hl 2 rfl) ?_
  refine g_calli (va_runV (As := [.int (nI cn)]) (rest := []) ⟨hx, hb, hml, hown, hw⟩ (k_T_findCentury l D T κ aa zw kp fp e0 e1 oF oT kt ft ks fs fc S s.heap.size (nI cn)) (cwV 1 hw (bg_V ml_T_308 wi_T_findCentury wv_T_findCentury wz_T wc_T_findCentury) rfl rfl rfl (by decide +kernel) ⟨Nat.le_of_ble_eq_true rfl, Nat.le_of_ble_eq_true rfl⟩) ⟨qPf_b, va_recv hK hP (ci := 5) (q0 := 0) rfl rfl, qPf_p hP hK hD hF hS (g_free hD hS hA)⟩ rfl rfl hl.1 rfl (lv_room (Nat.le_of_ble_eq_true rfl)) d_T_tryCentury_2 ⟨Nat.le_of_ble_eq_true rfl, Nat.le_of_ble_eq_true rfl⟩) hD hS hA (fun r1 u9 H locs hr1 hP hD hS => ?_)
  obtain ⟨u2, u3, u4, u5⟩ := u9
  dsimp only at hr1 hP hD
  have hP : va_P D gC (cX T aa zw kp fp u2 u3 u4 u5 kt ft ks fs fc S ++ tl T S) H := hP
  have hD : va_D A (cX T aa zw kp fp u2 u3 u4 u5 kt ft ks fs fc S ++ tl T S) := hD
  rcases hr1 with ⟨g1, g0, g2, g3, g4, g5⟩ | ⟨g1, g0, -⟩
  · subst g0
    subst g2
    subst g3
    subst g4
    subst g5
    refine lv_if_eq (tgt := 28) hx hb d_T_tryCentury_5 (by decide) (fun c6 => absurd c6 (by decide)) (fun c6 => ?_)
    refine lv_iload_n hx hb d_T_tryCentury_8 rfl (lv_at hl 3 rfl) ?_
    refine lv_iconst (v := (-1)) hx hb d_T_tryCentury_9 (by decide) ?_
    refine lv_icmp_eq (tgt := 24) hx hb d_T_tryCentury_10 (by decide) (fun c7 => ?_) (fun c7 => absurd c7 (by decide))
    refine lv_iconst (v := 1) hx hb d_T_tryCentury_24 (by decide) ?_
    refine lv_goto (tgt := 29) hx hb d_T_tryCentury_25 (by decide) ?_
    refine lv_istore (lv' := [(4, .int 1), (0, .ref (aa 0)), (1, .ref q.1), (2, .int (nI cn)), (3, .int (-1))]) hx hb d_T_tryCentury_29 hl (by decide) rfl (fun ls hl => ?_)
    refine lv_iload hx hb d_T_tryCentury_31 (lv_at hl 0 rfl) ?_
    refine lv_if_eq (tgt := 44) hx hb d_T_tryCentury_33 (by decide) (fun c8 => absurd c8 (by decide)) (fun c8 => ?_)
    have hcs : c_cs zw none cn q = c_fs (100 * (nI cn - 1) + 1) (100 * nI cn) q := rfl
    refine lv_aload_n hx hb d_T_tryCentury_36 rfl (lv_at hl 1 rfl) ?_
    refine lv_aload_n hx hb d_T_tryCentury_37 rfl (lv_at hl 2 rfl) ?_
    refine vp_callSi (va_Run.run (va_runV (As := [.ref q.1]) (rest := []) ⟨hx, hb, hml, hown, hw⟩ (k_T_foundSays l D T κ A aa zw kp fp (100 * (nI cn - 1) + 1) (100 * nI cn) false false kt ft ks fs fc S q hy0) (cwV 1 hw (bg_V ml_T_341 wi_T_foundSays wv_T_foundSays wz_T wc_T_foundSays) rfl rfl rfl (by decide +kernel) ⟨Nat.le_of_ble_eq_true rfl, Nat.le_of_ble_eq_true rfl⟩) ⟨sPf_b, va_recv hK hP (ci := 5) (q0 := 0) rfl rfl, sPf_p hP hK hF hS⟩ rfl rfl hl.1 rfl (lv_room (Nat.le_of_ble_eq_true rfl)) d_T_tryCentury_38 ⟨Nat.le_of_ble_eq_true rfl, Nat.le_of_ble_eq_true rfl⟩)) (fun r9 hr9 => ?_)
    replace hr9 := hr9.symm; subst hr9
    refine lv_if_ne (tgt := 45) hx hb d_T_tryCentury_41 (by decide) (fun c10 => ?_) (fun c10 => ?_)
    · have c10 := b2i_t c10
      have hct := hcs.trans c10
      refine lv_aload_n hx hb d_T_tryCentury_45 rfl (lv_at hl 1 rfl) ?_
      refine lv_aload_n hx hb d_T_tryCentury_46 rfl (lv_at hl 2 rfl) ?_
      refine g_callv (va_runV (As := [.ref q.1]) (rest := []) ⟨hx, hb, hml, hown, hw⟩ (k_T_startTrial l D T κ aa zw kp fp (100 * (nI cn - 1) + 1) (100 * nI cn) false false kt ft ks fs fc S H.size q hy0) (cwV 1 hw (bg_V ml_T_345 wi_T_startTrial wv_T_startTrial wz_T wc_T_startTrial) rfl rfl rfl (by decide +kernel) ⟨Nat.le_of_ble_eq_true rfl, Nat.le_of_ble_eq_true rfl⟩) ⟨qPf_b, va_recv hK hP (ci := 5) (q0 := 0) rfl rfl, qPf_p hP hK hD hF hS (g_free hD hS hA)⟩ rfl rfl hl.1 rfl (lv_room (Nat.le_of_ble_eq_true rfl)) d_T_tryCentury_47 ⟨Nat.le_of_ble_eq_true rfl, Nat.le_of_ble_eq_true rfl⟩) hD hS hA (fun u9 H locs hr11 hP hD hS => ?_)
      obtain ⟨u12, u13⟩ := u9
      dsimp only at hr11 hP hD
      have hP : va_P D gC (cX T aa zw kp fp (100 * (nI cn - 1) + 1) (100 * nI cn) false false u12 u13 ks fs fc S ++ tl T S) H := hP
      have hD : va_D A (cX T aa zw kp fp (100 * (nI cn - 1) + 1) (100 * nI cn) false false u12 u13 ks fs fc S ++ tl T S) := hD
      obtain ⟨ha1, ha2⟩ := hr11
      refine lv_aload_n hx hb d_T_tryCentury_50 rfl (lv_at hl 1 rfl) ?_
      refine va_get (D := D) (ci := 5) (v := .ref (aa 4)) (C := "TimeWords") (T := F_T) (N := 8) hx hb hw in_T hown hK hP 0 rfl rfl 5 (by decide) (hw _ fl_T_41) (fun _ h9 => h9) rfl d_T_tryCentury_51 ?_
      refine lv_iload_n hx hb d_T_tryCentury_54 rfl (lv_at hl 4 rfl) ?_
      have hPc : va_P D gC ([]) H := pc0
      refine va_csq (va_Run.run (va_runS (As := [.int (-1)]) (rest := [.ref (aa 4)]) ⟨hx, hb, hml, hown, hw⟩ (k_T_beginning_d l D T κ A) (va_cwS 1 hw (bg_S ml_T_268 wt_T_beginning wz_T wc_T_beginning) rfl rfl rfl (by decide +kernel) ⟨Nat.le_of_ble_eq_true rfl, Nat.le_of_ble_eq_true rfl⟩) ⟨sPf_b, sPf_p hPc hK hF hS⟩ rfl rfl hl.1 rfl (lv_room (Nat.le_of_ble_eq_true rfl)) d_T_tryCentury_55 ⟨Nat.le_of_ble_eq_true rfl, Nat.le_of_ble_eq_true rfl⟩)) (fun r14 hr14 => ?_)
      replace hr14 := hr14.symm; subst hr14
      refine W.eq (g2 := F0 m 58 ls [.ref (κ.1 (282 + 2 * 6)), .ref (aa 4)]) rfl ?_
      have hPc : va_P D gC ([(aa 4, .inr (1, [.ref (aa 5), .int (nI u12)])), (aa 5, .inl (T.1, 24, .inl u13))]) H := (pc1 (hP 4 _ rfl) (pc1 (hP 5 _ rfl) pc0))
      have hDc : va_D A ([(aa 4, .inr (1, [.ref (aa 5), .int (nI u12)])), (aa 5, .inl (T.1, 24, .inl u13))]) := by have h9 := hD.part (cx := [(aa 4, .inr (1, [.ref (aa 5), .int (nI u12)])), (aa 5, .inl (T.1, 24, .inl u13))]) [4, 5] (by decide) rfl; exact dl_l h9
      refine g_subv (X := cX T aa zw kp fp (100 * (nI cn - 1) + 1) (100 * nI cn) false false u12 u13 ks fs fc S) (pl := tl T S) (wr := [(aa 0, .inr (5, [.ref (aa 1), .ref S.1.1, .ref S.2.2.1.1, .int zw, .ref (aa 3), .ref (aa 4), .ref (aa 6), .ref (aa 8)])), (aa 1, .inr (1, [.ref (aa 2), .int (nI kp)])), (aa 2, .inl (T.1, 24, .inl fp)), (aa 3, .inr (2, [.int (100 * (nI cn - 1) + 1), .int (100 * nI cn), .int (b2i false), .int (b2i false)])), (aa 6, .inr (1, [.ref (aa 7), .int (nI ks)])), (aa 7, .inl (T.1, 24, .inl fs)), (aa 8, .inl (T.1, 9, .inl fc)), (S.1.1, .inr (0, [.ref S.1.2.1, .int (nI S.2.1.length), .int S.1.2.2.1])), (S.2.2.1.1, .inr (0, [.ref S.2.2.1.2.1, .int (nI S.2.2.2.length), .int S.2.2.1.2.2.1]))]) (cx := [(aa 4, .inr (1, [.ref (aa 5), .int (nI u12)])), (aa 5, .inl (T.1, 24, .inl u13))]) (va_runV (As := [.ref (κ.1 (282 + 2 * 6))]) (rest := []) ⟨hx, hb, hml, hown, hw⟩ (k_R_addText_n l D T κ (aa 4) (aa 5) u12 24 u13 H.size 6 (by have h9 : sL.getD 6 0 ≤ 7 := (by decide); omega) (by decide) (by decide)) (cwV 1 hw (bg_V ml_T_348 wi_R_addText wv_R_addText wz_R wc_R_addText) rfl rfl rfl (by decide +kernel) ⟨Nat.le_of_ble_eq_true rfl, Nat.le_of_ble_eq_true rfl⟩) ⟨qPf_b, va_recv hK hPc (ci := 1) (q0 := 0) rfl rfl, qPf_p hPc hK hDc hF hS (g_free hDc hS hA)⟩ rfl rfl hl.1 rfl (lv_room (Nat.le_of_ble_eq_true rfl)) d_T_tryCentury_58 ⟨Nat.le_of_ble_eq_true rfl, Nat.le_of_ble_eq_true rfl⟩) hP hD hS hA [4, 5] [0, 1, 2, 3, 6, 7, 8, 9, 10] rfl rfl (by decide) (by decide) (fun u9 H locs hr15 hP hD hS => ?_)
      obtain ⟨u16, u17⟩ := u9
      dsimp only at hr15 hP hD
      have hP : va_P D gC (cX T aa zw kp fp (100 * (nI cn - 1) + 1) (100 * nI cn) false false u16 u17 ks fs fc S ++ tl T S) H := hP.part (cx := cX T aa zw kp fp (100 * (nI cn - 1) + 1) (100 * nI cn) false false u16 u17 ks fs fc S) [0, 1, 2, 3, 9, 10, 4, 5, 6, 7, 8] rfl
      have hD : va_D A (cX T aa zw kp fp (100 * (nI cn - 1) + 1) (100 * nI cn) false false u16 u17 ks fs fc S ++ tl T S) := hD.part (cx := cX T aa zw kp fp (100 * (nI cn - 1) + 1) (100 * nI cn) false false u16 u17 ks fs fc S) [0, 1, 2, 3, 9, 10, 4, 5, 6, 7, 8] (by decide) rfl
      obtain ⟨hb1, hb2⟩ := hr15
      have hb3 : j_ls u17 u16 = c_bt q ++ j_ot none := by rw [hb1, ls_cp hb2, ha1]; rfl
      have hb4 : u16 ≤ 14 := by have h9 : sL.getD 6 0 ≤ 7 := (by decide); omega
      refine lv_iload_n hx hb d_T_tryCentury_61 rfl (lv_at hl 3 rfl) ?_
      refine lv_bipush (v := 10) hx hb d_T_tryCentury_62 (by decide) ?_
      refine lv_icmp_lt (tgt := 81) hx hb d_T_tryCentury_64 (by decide) (fun c18 => ?_) (fun c18 => ?_)
      · have c18 := nc_lt (a := cn) (b := 10) c18 (by omega) (by omega)
        refine lv_aload_n hx hb d_T_tryCentury_81 rfl (lv_at hl 1 rfl) ?_
        refine va_get (D := D) (ci := 5) (v := .ref (aa 4)) (C := "TimeWords") (T := F_T) (N := 8) hx hb hw in_T hown hK hP 0 rfl rfl 5 (by decide) (hw _ fl_T_41) (fun _ h9 => h9) rfl d_T_tryCentury_82 ?_
        refine lv_bipush (v := 48) hx hb d_T_tryCentury_85 (by decide) ?_
        refine lv_iload_n hx hb d_T_tryCentury_87 rfl (lv_at hl 3 rfl) ?_
        refine lv_bipush (v := 10) hx hb d_T_tryCentury_88 (by decide) ?_
        refine lv_irem hx hb d_T_tryCentury_90 (by decide) ?_
        refine lv_iadd hx hb d_T_tryCentury_91 ?_
        rw [ct_u hy2]
        have hPc : va_P D gC ([(aa 4, .inr (1, [.ref (aa 5), .int (nI u16)])), (aa 5, .inl (T.1, 24, .inl u17))]) H := (pc1 (hP 4 _ rfl) (pc1 (hP 5 _ rfl) pc0))
        have hDc : va_D A ([(aa 4, .inr (1, [.ref (aa 5), .int (nI u16)])), (aa 5, .inl (T.1, 24, .inl u17))]) := by have h9 := hD.part (cx := [(aa 4, .inr (1, [.ref (aa 5), .int (nI u16)])), (aa 5, .inl (T.1, 24, .inl u17))]) [4, 5] (by decide) rfl; exact dl_l h9
        refine g_subv (X := cX T aa zw kp fp (100 * (nI cn - 1) + 1) (100 * nI cn) false false u16 u17 ks fs fc S) (pl := tl T S) (wr := [(aa 0, .inr (5, [.ref (aa 1), .ref S.1.1, .ref S.2.2.1.1, .int zw, .ref (aa 3), .ref (aa 4), .ref (aa 6), .ref (aa 8)])), (aa 1, .inr (1, [.ref (aa 2), .int (nI kp)])), (aa 2, .inl (T.1, 24, .inl fp)), (aa 3, .inr (2, [.int (100 * (nI cn - 1) + 1), .int (100 * nI cn), .int (b2i false), .int (b2i false)])), (aa 6, .inr (1, [.ref (aa 7), .int (nI ks)])), (aa 7, .inl (T.1, 24, .inl fs)), (aa 8, .inl (T.1, 9, .inl fc)), (S.1.1, .inr (0, [.ref S.1.2.1, .int (nI S.2.1.length), .int S.1.2.2.1])), (S.2.2.1.1, .inr (0, [.ref S.2.2.1.2.1, .int (nI S.2.2.2.length), .int S.2.2.1.2.2.1]))]) (cx := [(aa 4, .inr (1, [.ref (aa 5), .int (nI u16)])), (aa 5, .inl (T.1, 24, .inl u17))]) (va_runV (As := [.int (nI (48 + cn % 10))]) (rest := []) ⟨hx, hb, hml, hown, hw⟩ (k_R_add l D T (aa 4) (aa 5) u16 24 u17 H.size (nI (48 + cn % 10)) (by omega) (by decide)) (cwV 1 hw (bg_V ml_T_70 wi_R_add wv_R_add wz_R wc_R_add) rfl rfl rfl (by decide +kernel) ⟨Nat.le_of_ble_eq_true rfl, Nat.le_of_ble_eq_true rfl⟩) ⟨qP_b, va_recv hK hPc (ci := 1) (q0 := 0) rfl rfl, qP_p hPc hK hDc⟩ rfl rfl hl.1 rfl (lv_room (Nat.le_of_ble_eq_true rfl)) d_T_tryCentury_92 ⟨Nat.le_of_ble_eq_true rfl, Nat.le_of_ble_eq_true rfl⟩) hP hD hS hA [4, 5] [0, 1, 2, 3, 6, 7, 8, 9, 10] rfl rfl (by decide) (by decide) (fun u9 H locs hr19 hP hD hS => ?_)
        obtain ⟨u20, u21⟩ := u9
        dsimp only at hr19 hP hD
        obtain ⟨q0, q1⟩ := hr19
        replace q0 := q0.symm; subst q0; replace q1 := q1.symm; subst q1
        have hP : va_P D gC (cX T aa zw kp fp (100 * (nI cn - 1) + 1) (100 * nI cn) false false (u16 + 1) (upd u17 u16 (nI (48 + cn % 10))) ks fs fc S ++ tl T S) H := hP.part (cx := cX T aa zw kp fp (100 * (nI cn - 1) + 1) (100 * nI cn) false false (u16 + 1) (upd u17 u16 (nI (48 + cn % 10))) ks fs fc S) [0, 1, 2, 3, 9, 10, 4, 5, 6, 7, 8] rfl
        have hD : va_D A (cX T aa zw kp fp (100 * (nI cn - 1) + 1) (100 * nI cn) false false (u16 + 1) (upd u17 u16 (nI (48 + cn % 10))) ks fs fc S ++ tl T S) := hD.part (cx := cX T aa zw kp fp (100 * (nI cn - 1) + 1) (100 * nI cn) false false (u16 + 1) (upd u17 u16 (nI (48 + cn % 10))) ks fs fc S) [0, 1, 2, 3, 9, 10, 4, 5, 6, 7, 8] (by decide) rfl
        refine lv_aload_n hx hb d_T_tryCentury_95 rfl (lv_at hl 1 rfl) ?_
        refine va_get (D := D) (ci := 5) (v := .ref (aa 4)) (C := "TimeWords") (T := F_T) (N := 8) hx hb hw in_T hown hK hP 0 rfl rfl 5 (by decide) (hw _ fl_T_41) (fun _ h9 => h9) rfl d_T_tryCentury_96 ?_
        refine lv_bipush (v := 99) hx hb d_T_tryCentury_99 (by decide) ?_
        have hPc : va_P D gC ([(aa 4, .inr (1, [.ref (aa 5), .int (nI (u16 + 1))])), (aa 5, .inl (T.1, 24, .inl (upd u17 u16 (nI (48 + cn % 10)))))]) H := (pc1 (hP 4 _ rfl) (pc1 (hP 5 _ rfl) pc0))
        have hDc : va_D A ([(aa 4, .inr (1, [.ref (aa 5), .int (nI (u16 + 1))])), (aa 5, .inl (T.1, 24, .inl (upd u17 u16 (nI (48 + cn % 10)))))]) := by have h9 := hD.part (cx := [(aa 4, .inr (1, [.ref (aa 5), .int (nI (u16 + 1))])), (aa 5, .inl (T.1, 24, .inl (upd u17 u16 (nI (48 + cn % 10)))))]) [4, 5] (by decide) rfl; exact dl_l h9
        refine g_subv (X := cX T aa zw kp fp (100 * (nI cn - 1) + 1) (100 * nI cn) false false (u16 + 1) (upd u17 u16 (nI (48 + cn % 10))) ks fs fc S) (pl := tl T S) (wr := [(aa 0, .inr (5, [.ref (aa 1), .ref S.1.1, .ref S.2.2.1.1, .int zw, .ref (aa 3), .ref (aa 4), .ref (aa 6), .ref (aa 8)])), (aa 1, .inr (1, [.ref (aa 2), .int (nI kp)])), (aa 2, .inl (T.1, 24, .inl fp)), (aa 3, .inr (2, [.int (100 * (nI cn - 1) + 1), .int (100 * nI cn), .int (b2i false), .int (b2i false)])), (aa 6, .inr (1, [.ref (aa 7), .int (nI ks)])), (aa 7, .inl (T.1, 24, .inl fs)), (aa 8, .inl (T.1, 9, .inl fc)), (S.1.1, .inr (0, [.ref S.1.2.1, .int (nI S.2.1.length), .int S.1.2.2.1])), (S.2.2.1.1, .inr (0, [.ref S.2.2.1.2.1, .int (nI S.2.2.2.length), .int S.2.2.1.2.2.1]))]) (cx := [(aa 4, .inr (1, [.ref (aa 5), .int (nI (u16 + 1))])), (aa 5, .inl (T.1, 24, .inl (upd u17 u16 (nI (48 + cn % 10)))))]) (va_runV (As := [.int 99]) (rest := []) ⟨hx, hb, hml, hown, hw⟩ (k_R_add l D T (aa 4) (aa 5) (u16 + 1) 24 (upd u17 u16 (nI (48 + cn % 10))) H.size 99 (by omega) (by decide)) (cwV 1 hw (bg_V ml_T_70 wi_R_add wv_R_add wz_R wc_R_add) rfl rfl rfl (by decide +kernel) ⟨Nat.le_of_ble_eq_true rfl, Nat.le_of_ble_eq_true rfl⟩) ⟨qP_b, va_recv hK hPc (ci := 1) (q0 := 0) rfl rfl, qP_p hPc hK hDc⟩ rfl rfl hl.1 rfl (lv_room (Nat.le_of_ble_eq_true rfl)) d_T_tryCentury_101 ⟨Nat.le_of_ble_eq_true rfl, Nat.le_of_ble_eq_true rfl⟩) hP hD hS hA [4, 5] [0, 1, 2, 3, 6, 7, 8, 9, 10] rfl rfl (by decide) (by decide) (fun u9 H locs hr22 hP hD hS => ?_)
        obtain ⟨u23, u24⟩ := u9
        dsimp only at hr22 hP hD
        obtain ⟨q0, q1⟩ := hr22
        replace q0 := q0.symm; subst q0; replace q1 := q1.symm; subst q1
        have hP : va_P D gC (cX T aa zw kp fp (100 * (nI cn - 1) + 1) (100 * nI cn) false false ((u16 + 1) + 1) (upd (upd u17 u16 (nI (48 + cn % 10))) (u16 + 1) 99) ks fs fc S ++ tl T S) H := hP.part (cx := cX T aa zw kp fp (100 * (nI cn - 1) + 1) (100 * nI cn) false false ((u16 + 1) + 1) (upd (upd u17 u16 (nI (48 + cn % 10))) (u16 + 1) 99) ks fs fc S) [0, 1, 2, 3, 9, 10, 4, 5, 6, 7, 8] rfl
        have hD : va_D A (cX T aa zw kp fp (100 * (nI cn - 1) + 1) (100 * nI cn) false false ((u16 + 1) + 1) (upd (upd u17 u16 (nI (48 + cn % 10))) (u16 + 1) 99) ks fs fc S ++ tl T S) := hD.part (cx := cX T aa zw kp fp (100 * (nI cn - 1) + 1) (100 * nI cn) false false ((u16 + 1) + 1) (upd (upd u17 u16 (nI (48 + cn % 10))) (u16 + 1) 99) ks fs fc S) [0, 1, 2, 3, 9, 10, 4, 5, 6, 7, 8] (by decide) rfl
        refine lv_aload_n hx hb d_T_tryCentury_104 rfl (lv_at hl 1 rfl) ?_
        refine g_callv (va_runV (As := []) (rest := []) ⟨hx, hb, hml, hown, hw⟩ (k_T_keepShorter l D T κ aa zw kp fp (100 * (nI cn - 1) + 1) (100 * nI cn) false false ((u16 + 1) + 1) (upd (upd u17 u16 (nI (48 + cn % 10))) (u16 + 1) 99) ks fs fc S H.size (by omega) hy3) (cwV 0 hw (bg_V ml_T_351 wi_T_keepShorter wv_T_keepShorter wz_T wc_T_keepShorter) rfl rfl rfl (by decide +kernel) ⟨Nat.le_of_ble_eq_true rfl, Nat.le_of_ble_eq_true rfl⟩) ⟨qPf_b, va_recv hK hP (ci := 5) (q0 := 0) rfl rfl, qPf_p hP hK hD hF hS (g_free hD hS hA)⟩ rfl rfl hl.1 rfl (lv_room (Nat.le_of_ble_eq_true rfl)) d_T_tryCentury_105 ⟨Nat.le_of_ble_eq_true rfl, Nat.le_of_ble_eq_true rfl⟩) hD hS hA (fun u9 H locs hr25 hP hD hS => ?_)
        obtain ⟨u26, u27⟩ := u9
        dsimp only at hr25 hP hD
        have hP : va_P D gC (cX T aa zw kp fp (100 * (nI cn - 1) + 1) (100 * nI cn) false false ((u16 + 1) + 1) (upd (upd u17 u16 (nI (48 + cn % 10))) (u16 + 1) 99) u26 u27 fc S ++ tl T S) H := hP
        have hD : va_D A (cX T aa zw kp fp (100 * (nI cn - 1) + 1) (100 * nI cn) false false ((u16 + 1) + 1) (upd (upd u17 u16 (nI (48 + cn % 10))) (u16 + 1) 99) u26 u27 fc S ++ tl T S) := hD
        exact W.vret hx hb hr (fun t ht hW => ⟨⟨(100 * (nI cn - 1) + 1, 100 * nI cn, false, false, (u16 + 1) + 1, upd (upd u17 u16 (nI (48 + cn % 10))) (u16 + 1) 99, u26, u27), rfl, ⟨by rw [hr25.1, c_tc, hct, try_t, ls_put, ls_put, hb3, ct_1' (by omega)]; simp only [List.append_assoc, List.cons_append, List.nil_append], hr25.2⟩, by rw [ht]; exact hP, va_K.moved hW.alike hK, hD⟩, hS.F ht⟩) hS.2.2 d_T_tryCentury_108
      · have c18 := nc_nlt (a := cn) (b := 10) c18 (by omega) (by omega)
        refine lv_aload_n hx hb d_T_tryCentury_67 rfl (lv_at hl 1 rfl) ?_
        refine va_get (D := D) (ci := 5) (v := .ref (aa 4)) (C := "TimeWords") (T := F_T) (N := 8) hx hb hw in_T hown hK hP 0 rfl rfl 5 (by decide) (hw _ fl_T_41) (fun _ h9 => h9) rfl d_T_tryCentury_68 ?_
        refine lv_bipush (v := 48) hx hb d_T_tryCentury_71 (by decide) ?_
        refine lv_iload_n hx hb d_T_tryCentury_73 rfl (lv_at hl 3 rfl) ?_
        refine lv_bipush (v := 10) hx hb d_T_tryCentury_74 (by decide) ?_
        refine lv_idiv hx hb d_T_tryCentury_76 (by decide) ?_
        refine lv_iadd hx hb d_T_tryCentury_77 ?_
        rw [ct_t hy2]
        have hPc : va_P D gC ([(aa 4, .inr (1, [.ref (aa 5), .int (nI u16)])), (aa 5, .inl (T.1, 24, .inl u17))]) H := (pc1 (hP 4 _ rfl) (pc1 (hP 5 _ rfl) pc0))
        have hDc : va_D A ([(aa 4, .inr (1, [.ref (aa 5), .int (nI u16)])), (aa 5, .inl (T.1, 24, .inl u17))]) := by have h9 := hD.part (cx := [(aa 4, .inr (1, [.ref (aa 5), .int (nI u16)])), (aa 5, .inl (T.1, 24, .inl u17))]) [4, 5] (by decide) rfl; exact dl_l h9
        refine g_subv (X := cX T aa zw kp fp (100 * (nI cn - 1) + 1) (100 * nI cn) false false u16 u17 ks fs fc S) (pl := tl T S) (wr := [(aa 0, .inr (5, [.ref (aa 1), .ref S.1.1, .ref S.2.2.1.1, .int zw, .ref (aa 3), .ref (aa 4), .ref (aa 6), .ref (aa 8)])), (aa 1, .inr (1, [.ref (aa 2), .int (nI kp)])), (aa 2, .inl (T.1, 24, .inl fp)), (aa 3, .inr (2, [.int (100 * (nI cn - 1) + 1), .int (100 * nI cn), .int (b2i false), .int (b2i false)])), (aa 6, .inr (1, [.ref (aa 7), .int (nI ks)])), (aa 7, .inl (T.1, 24, .inl fs)), (aa 8, .inl (T.1, 9, .inl fc)), (S.1.1, .inr (0, [.ref S.1.2.1, .int (nI S.2.1.length), .int S.1.2.2.1])), (S.2.2.1.1, .inr (0, [.ref S.2.2.1.2.1, .int (nI S.2.2.2.length), .int S.2.2.1.2.2.1]))]) (cx := [(aa 4, .inr (1, [.ref (aa 5), .int (nI u16)])), (aa 5, .inl (T.1, 24, .inl u17))]) (va_runV (As := [.int (nI (48 + cn / 10))]) (rest := []) ⟨hx, hb, hml, hown, hw⟩ (k_R_add l D T (aa 4) (aa 5) u16 24 u17 H.size (nI (48 + cn / 10)) (by omega) (by decide)) (cwV 1 hw (bg_V ml_T_70 wi_R_add wv_R_add wz_R wc_R_add) rfl rfl rfl (by decide +kernel) ⟨Nat.le_of_ble_eq_true rfl, Nat.le_of_ble_eq_true rfl⟩) ⟨qP_b, va_recv hK hPc (ci := 1) (q0 := 0) rfl rfl, qP_p hPc hK hDc⟩ rfl rfl hl.1 rfl (lv_room (Nat.le_of_ble_eq_true rfl)) d_T_tryCentury_78 ⟨Nat.le_of_ble_eq_true rfl, Nat.le_of_ble_eq_true rfl⟩) hP hD hS hA [4, 5] [0, 1, 2, 3, 6, 7, 8, 9, 10] rfl rfl (by decide) (by decide) (fun u9 H locs hr28 hP hD hS => ?_)
        obtain ⟨u29, u30⟩ := u9
        dsimp only at hr28 hP hD
        obtain ⟨q0, q1⟩ := hr28
        replace q0 := q0.symm; subst q0; replace q1 := q1.symm; subst q1
        have hP : va_P D gC (cX T aa zw kp fp (100 * (nI cn - 1) + 1) (100 * nI cn) false false (u16 + 1) (upd u17 u16 (nI (48 + cn / 10))) ks fs fc S ++ tl T S) H := hP.part (cx := cX T aa zw kp fp (100 * (nI cn - 1) + 1) (100 * nI cn) false false (u16 + 1) (upd u17 u16 (nI (48 + cn / 10))) ks fs fc S) [0, 1, 2, 3, 9, 10, 4, 5, 6, 7, 8] rfl
        have hD : va_D A (cX T aa zw kp fp (100 * (nI cn - 1) + 1) (100 * nI cn) false false (u16 + 1) (upd u17 u16 (nI (48 + cn / 10))) ks fs fc S ++ tl T S) := hD.part (cx := cX T aa zw kp fp (100 * (nI cn - 1) + 1) (100 * nI cn) false false (u16 + 1) (upd u17 u16 (nI (48 + cn / 10))) ks fs fc S) [0, 1, 2, 3, 9, 10, 4, 5, 6, 7, 8] (by decide) rfl
        refine lv_aload_n hx hb d_T_tryCentury_81 rfl (lv_at hl 1 rfl) ?_
        refine va_get (D := D) (ci := 5) (v := .ref (aa 4)) (C := "TimeWords") (T := F_T) (N := 8) hx hb hw in_T hown hK hP 0 rfl rfl 5 (by decide) (hw _ fl_T_41) (fun _ h9 => h9) rfl d_T_tryCentury_82 ?_
        refine lv_bipush (v := 48) hx hb d_T_tryCentury_85 (by decide) ?_
        refine lv_iload_n hx hb d_T_tryCentury_87 rfl (lv_at hl 3 rfl) ?_
        refine lv_bipush (v := 10) hx hb d_T_tryCentury_88 (by decide) ?_
        refine lv_irem hx hb d_T_tryCentury_90 (by decide) ?_
        refine lv_iadd hx hb d_T_tryCentury_91 ?_
        rw [ct_u hy2]
        have hPc : va_P D gC ([(aa 4, .inr (1, [.ref (aa 5), .int (nI (u16 + 1))])), (aa 5, .inl (T.1, 24, .inl (upd u17 u16 (nI (48 + cn / 10)))))]) H := (pc1 (hP 4 _ rfl) (pc1 (hP 5 _ rfl) pc0))
        have hDc : va_D A ([(aa 4, .inr (1, [.ref (aa 5), .int (nI (u16 + 1))])), (aa 5, .inl (T.1, 24, .inl (upd u17 u16 (nI (48 + cn / 10)))))]) := by have h9 := hD.part (cx := [(aa 4, .inr (1, [.ref (aa 5), .int (nI (u16 + 1))])), (aa 5, .inl (T.1, 24, .inl (upd u17 u16 (nI (48 + cn / 10)))))]) [4, 5] (by decide) rfl; exact dl_l h9
        refine g_subv (X := cX T aa zw kp fp (100 * (nI cn - 1) + 1) (100 * nI cn) false false (u16 + 1) (upd u17 u16 (nI (48 + cn / 10))) ks fs fc S) (pl := tl T S) (wr := [(aa 0, .inr (5, [.ref (aa 1), .ref S.1.1, .ref S.2.2.1.1, .int zw, .ref (aa 3), .ref (aa 4), .ref (aa 6), .ref (aa 8)])), (aa 1, .inr (1, [.ref (aa 2), .int (nI kp)])), (aa 2, .inl (T.1, 24, .inl fp)), (aa 3, .inr (2, [.int (100 * (nI cn - 1) + 1), .int (100 * nI cn), .int (b2i false), .int (b2i false)])), (aa 6, .inr (1, [.ref (aa 7), .int (nI ks)])), (aa 7, .inl (T.1, 24, .inl fs)), (aa 8, .inl (T.1, 9, .inl fc)), (S.1.1, .inr (0, [.ref S.1.2.1, .int (nI S.2.1.length), .int S.1.2.2.1])), (S.2.2.1.1, .inr (0, [.ref S.2.2.1.2.1, .int (nI S.2.2.2.length), .int S.2.2.1.2.2.1]))]) (cx := [(aa 4, .inr (1, [.ref (aa 5), .int (nI (u16 + 1))])), (aa 5, .inl (T.1, 24, .inl (upd u17 u16 (nI (48 + cn / 10)))))]) (va_runV (As := [.int (nI (48 + cn % 10))]) (rest := []) ⟨hx, hb, hml, hown, hw⟩ (k_R_add l D T (aa 4) (aa 5) (u16 + 1) 24 (upd u17 u16 (nI (48 + cn / 10))) H.size (nI (48 + cn % 10)) (by omega) (by decide)) (cwV 1 hw (bg_V ml_T_70 wi_R_add wv_R_add wz_R wc_R_add) rfl rfl rfl (by decide +kernel) ⟨Nat.le_of_ble_eq_true rfl, Nat.le_of_ble_eq_true rfl⟩) ⟨qP_b, va_recv hK hPc (ci := 1) (q0 := 0) rfl rfl, qP_p hPc hK hDc⟩ rfl rfl hl.1 rfl (lv_room (Nat.le_of_ble_eq_true rfl)) d_T_tryCentury_92 ⟨Nat.le_of_ble_eq_true rfl, Nat.le_of_ble_eq_true rfl⟩) hP hD hS hA [4, 5] [0, 1, 2, 3, 6, 7, 8, 9, 10] rfl rfl (by decide) (by decide) (fun u9 H locs hr31 hP hD hS => ?_)
        obtain ⟨u32, u33⟩ := u9
        dsimp only at hr31 hP hD
        obtain ⟨q0, q1⟩ := hr31
        replace q0 := q0.symm; subst q0; replace q1 := q1.symm; subst q1
        have hP : va_P D gC (cX T aa zw kp fp (100 * (nI cn - 1) + 1) (100 * nI cn) false false ((u16 + 1) + 1) (upd (upd u17 u16 (nI (48 + cn / 10))) (u16 + 1) (nI (48 + cn % 10))) ks fs fc S ++ tl T S) H := hP.part (cx := cX T aa zw kp fp (100 * (nI cn - 1) + 1) (100 * nI cn) false false ((u16 + 1) + 1) (upd (upd u17 u16 (nI (48 + cn / 10))) (u16 + 1) (nI (48 + cn % 10))) ks fs fc S) [0, 1, 2, 3, 9, 10, 4, 5, 6, 7, 8] rfl
        have hD : va_D A (cX T aa zw kp fp (100 * (nI cn - 1) + 1) (100 * nI cn) false false ((u16 + 1) + 1) (upd (upd u17 u16 (nI (48 + cn / 10))) (u16 + 1) (nI (48 + cn % 10))) ks fs fc S ++ tl T S) := hD.part (cx := cX T aa zw kp fp (100 * (nI cn - 1) + 1) (100 * nI cn) false false ((u16 + 1) + 1) (upd (upd u17 u16 (nI (48 + cn / 10))) (u16 + 1) (nI (48 + cn % 10))) ks fs fc S) [0, 1, 2, 3, 9, 10, 4, 5, 6, 7, 8] (by decide) rfl
        refine lv_aload_n hx hb d_T_tryCentury_95 rfl (lv_at hl 1 rfl) ?_
        refine va_get (D := D) (ci := 5) (v := .ref (aa 4)) (C := "TimeWords") (T := F_T) (N := 8) hx hb hw in_T hown hK hP 0 rfl rfl 5 (by decide) (hw _ fl_T_41) (fun _ h9 => h9) rfl d_T_tryCentury_96 ?_
        refine lv_bipush (v := 99) hx hb d_T_tryCentury_99 (by decide) ?_
        have hPc : va_P D gC ([(aa 4, .inr (1, [.ref (aa 5), .int (nI ((u16 + 1) + 1))])), (aa 5, .inl (T.1, 24, .inl (upd (upd u17 u16 (nI (48 + cn / 10))) (u16 + 1) (nI (48 + cn % 10)))))]) H := (pc1 (hP 4 _ rfl) (pc1 (hP 5 _ rfl) pc0))
        have hDc : va_D A ([(aa 4, .inr (1, [.ref (aa 5), .int (nI ((u16 + 1) + 1))])), (aa 5, .inl (T.1, 24, .inl (upd (upd u17 u16 (nI (48 + cn / 10))) (u16 + 1) (nI (48 + cn % 10)))))]) := by have h9 := hD.part (cx := [(aa 4, .inr (1, [.ref (aa 5), .int (nI ((u16 + 1) + 1))])), (aa 5, .inl (T.1, 24, .inl (upd (upd u17 u16 (nI (48 + cn / 10))) (u16 + 1) (nI (48 + cn % 10)))))]) [4, 5] (by decide) rfl; exact dl_l h9
        refine g_subv (X := cX T aa zw kp fp (100 * (nI cn - 1) + 1) (100 * nI cn) false false ((u16 + 1) + 1) (upd (upd u17 u16 (nI (48 + cn / 10))) (u16 + 1) (nI (48 + cn % 10))) ks fs fc S) (pl := tl T S) (wr := [(aa 0, .inr (5, [.ref (aa 1), .ref S.1.1, .ref S.2.2.1.1, .int zw, .ref (aa 3), .ref (aa 4), .ref (aa 6), .ref (aa 8)])), (aa 1, .inr (1, [.ref (aa 2), .int (nI kp)])), (aa 2, .inl (T.1, 24, .inl fp)), (aa 3, .inr (2, [.int (100 * (nI cn - 1) + 1), .int (100 * nI cn), .int (b2i false), .int (b2i false)])), (aa 6, .inr (1, [.ref (aa 7), .int (nI ks)])), (aa 7, .inl (T.1, 24, .inl fs)), (aa 8, .inl (T.1, 9, .inl fc)), (S.1.1, .inr (0, [.ref S.1.2.1, .int (nI S.2.1.length), .int S.1.2.2.1])), (S.2.2.1.1, .inr (0, [.ref S.2.2.1.2.1, .int (nI S.2.2.2.length), .int S.2.2.1.2.2.1]))]) (cx := [(aa 4, .inr (1, [.ref (aa 5), .int (nI ((u16 + 1) + 1))])), (aa 5, .inl (T.1, 24, .inl (upd (upd u17 u16 (nI (48 + cn / 10))) (u16 + 1) (nI (48 + cn % 10)))))]) (va_runV (As := [.int 99]) (rest := []) ⟨hx, hb, hml, hown, hw⟩ (k_R_add l D T (aa 4) (aa 5) ((u16 + 1) + 1) 24 (upd (upd u17 u16 (nI (48 + cn / 10))) (u16 + 1) (nI (48 + cn % 10))) H.size 99 (by omega) (by decide)) (cwV 1 hw (bg_V ml_T_70 wi_R_add wv_R_add wz_R wc_R_add) rfl rfl rfl (by decide +kernel) ⟨Nat.le_of_ble_eq_true rfl, Nat.le_of_ble_eq_true rfl⟩) ⟨qP_b, va_recv hK hPc (ci := 1) (q0 := 0) rfl rfl, qP_p hPc hK hDc⟩ rfl rfl hl.1 rfl (lv_room (Nat.le_of_ble_eq_true rfl)) d_T_tryCentury_101 ⟨Nat.le_of_ble_eq_true rfl, Nat.le_of_ble_eq_true rfl⟩) hP hD hS hA [4, 5] [0, 1, 2, 3, 6, 7, 8, 9, 10] rfl rfl (by decide) (by decide) (fun u9 H locs hr34 hP hD hS => ?_)
        obtain ⟨u35, u36⟩ := u9
        dsimp only at hr34 hP hD
        obtain ⟨q0, q1⟩ := hr34
        replace q0 := q0.symm; subst q0; replace q1 := q1.symm; subst q1
        have hP : va_P D gC (cX T aa zw kp fp (100 * (nI cn - 1) + 1) (100 * nI cn) false false (((u16 + 1) + 1) + 1) (upd (upd (upd u17 u16 (nI (48 + cn / 10))) (u16 + 1) (nI (48 + cn % 10))) ((u16 + 1) + 1) 99) ks fs fc S ++ tl T S) H := hP.part (cx := cX T aa zw kp fp (100 * (nI cn - 1) + 1) (100 * nI cn) false false (((u16 + 1) + 1) + 1) (upd (upd (upd u17 u16 (nI (48 + cn / 10))) (u16 + 1) (nI (48 + cn % 10))) ((u16 + 1) + 1) 99) ks fs fc S) [0, 1, 2, 3, 9, 10, 4, 5, 6, 7, 8] rfl
        have hD : va_D A (cX T aa zw kp fp (100 * (nI cn - 1) + 1) (100 * nI cn) false false (((u16 + 1) + 1) + 1) (upd (upd (upd u17 u16 (nI (48 + cn / 10))) (u16 + 1) (nI (48 + cn % 10))) ((u16 + 1) + 1) 99) ks fs fc S ++ tl T S) := hD.part (cx := cX T aa zw kp fp (100 * (nI cn - 1) + 1) (100 * nI cn) false false (((u16 + 1) + 1) + 1) (upd (upd (upd u17 u16 (nI (48 + cn / 10))) (u16 + 1) (nI (48 + cn % 10))) ((u16 + 1) + 1) 99) ks fs fc S) [0, 1, 2, 3, 9, 10, 4, 5, 6, 7, 8] (by decide) rfl
        refine lv_aload_n hx hb d_T_tryCentury_104 rfl (lv_at hl 1 rfl) ?_
        refine g_callv (va_runV (As := []) (rest := []) ⟨hx, hb, hml, hown, hw⟩ (k_T_keepShorter l D T κ aa zw kp fp (100 * (nI cn - 1) + 1) (100 * nI cn) false false (((u16 + 1) + 1) + 1) (upd (upd (upd u17 u16 (nI (48 + cn / 10))) (u16 + 1) (nI (48 + cn % 10))) ((u16 + 1) + 1) 99) ks fs fc S H.size (by omega) hy3) (cwV 0 hw (bg_V ml_T_351 wi_T_keepShorter wv_T_keepShorter wz_T wc_T_keepShorter) rfl rfl rfl (by decide +kernel) ⟨Nat.le_of_ble_eq_true rfl, Nat.le_of_ble_eq_true rfl⟩) ⟨qPf_b, va_recv hK hP (ci := 5) (q0 := 0) rfl rfl, qPf_p hP hK hD hF hS (g_free hD hS hA)⟩ rfl rfl hl.1 rfl (lv_room (Nat.le_of_ble_eq_true rfl)) d_T_tryCentury_105 ⟨Nat.le_of_ble_eq_true rfl, Nat.le_of_ble_eq_true rfl⟩) hD hS hA (fun u9 H locs hr37 hP hD hS => ?_)
        obtain ⟨u38, u39⟩ := u9
        dsimp only at hr37 hP hD
        have hP : va_P D gC (cX T aa zw kp fp (100 * (nI cn - 1) + 1) (100 * nI cn) false false (((u16 + 1) + 1) + 1) (upd (upd (upd u17 u16 (nI (48 + cn / 10))) (u16 + 1) (nI (48 + cn % 10))) ((u16 + 1) + 1) 99) u38 u39 fc S ++ tl T S) H := hP
        have hD : va_D A (cX T aa zw kp fp (100 * (nI cn - 1) + 1) (100 * nI cn) false false (((u16 + 1) + 1) + 1) (upd (upd (upd u17 u16 (nI (48 + cn / 10))) (u16 + 1) (nI (48 + cn % 10))) ((u16 + 1) + 1) 99) u38 u39 fc S ++ tl T S) := hD
        exact W.vret hx hb hr (fun t ht hW => ⟨⟨(100 * (nI cn - 1) + 1, 100 * nI cn, false, false, ((u16 + 1) + 1) + 1, upd (upd (upd u17 u16 (nI (48 + cn / 10))) (u16 + 1) (nI (48 + cn % 10))) ((u16 + 1) + 1) 99, u38, u39), rfl, ⟨by rw [hr37.1, c_tc, hct, try_t, ls_put, ls_put, ls_put, hb3, ct_2 (by omega)]; simp only [List.append_assoc, List.cons_append, List.nil_append], hr37.2⟩, by rw [ht]; exact hP, va_K.moved hW.alike hK, hD⟩, hS.F ht⟩) hS.2.2 d_T_tryCentury_108
    · have c10 := b2i_f c10
      exact W.vret hx hb hr (fun t ht hW => ⟨⟨(100 * (nI cn - 1) + 1, 100 * nI cn, false, false, kt, ft, ks, fs), rfl, ⟨by rw [c_tc, hcs, c10, try_f], hy3⟩, by rw [ht]; exact hP, va_K.moved hW.alike hK, hD⟩, hS.F ht⟩) hS.2.2 d_T_tryCentury_44
  · rw [in_199 hy1 hy2] at g1; cases g1

set_option maxHeartbeats 4000000 in
set_option maxRecDepth 100000 in
theorem k_T_tryCentury_0 (l : Launch) (D : va_G) (T : gT) (κ : gS) (aa : Nat → Nat) (zw : Int32) (kp : Nat) (fp : Nat → Int32) (e0 e1 : Int32) (oF oT : Bool) (kt : Nat) (ft : Nat → Int32) (ks : Nat) (fs fc : Nat → Int32) (S : tS) (sz : Nat) (q : spD) (cn : Nat) (hy0 : q ∈ S.2.2.2) (hy1 : 1 ≤ cn) (hy2 : cn ≤ 99) (hy3 : ks ≤ 24) : Met l y_T_tryCentury (Cond.code y_T_tryCentury b_T_tryCentury 5 none :: bg_W) ({ frames := 6, cells := 0, slots := 0, locals := 128 }) (qPf κ D T (cX T aa zw kp fp e0 e1 oF oT kt ft ks fs fc S ++ tl T S) [.ref (aa 0), .ref q.1, .int (nI cn), .int 0] sz) (va_Qv (fun u : Int32 × Int32 × Bool × Bool × Nat × (Nat → Int32) × Nat × (Nat → Int32) => match u with | (w0, w1, v2, v3, kt1, ft1, ks1, fs1) => j_ls fs1 ks1 = c_tc zw q (some 0) cn (j_ls fs ks) ∧ ks1 ≤ 24) (qB D T (va_A (cX T aa zw kp fp e0 e1 oF oT kt ft ks fs fc S ++ tl T S) sz) (fun u : Int32 × Int32 × Bool × Bool × Nat × (Nat → Int32) × Nat × (Nat → Int32) => match u with | (w0, w1, v2, v3, kt1, ft1, ks1, fs1) => cX T aa zw kp fp w0 w1 v2 v3 kt1 ft1 ks1 fs1 fc S ++ tl T S)) (va_A (cX T aa zw kp fp e0 e1 oF oT kt ft ks fs fc S ++ tl T S) sz)) 0 0 (va_A (cX T aa zw kp fp e0 e1 oF oT kt ft ks fs fc S ++ tl T S) sz) := by
  refine Met.ofW (cc := b_T_tryCentury) (maxL := 5) (ret := none) (by decide) rfl ?_
  intro p e s m args below meth c s₁ B hml hv
  obtain ⟨rfl, hsz, hP, hK, hD0, hF⟩ := hv
  have hx := B.exec
  have hb := B.bytes
  have hr := B.returns
  have hw : ∀ w ∈ bg_W, w.before ([.ref (aa 0), .ref q.1, .int (nI cn), .int 0] : List Value).toArray s = true := fun w h => atoms_spec (ws := (Cond.code y_T_tryCentury b_T_tryCentury 5 none :: bg_W)) B.pre w (List.mem_cons_of_mem _ h)
  have hown : s.vm.findClass "TimeWords" = some m.cls := findClass_of_methodNamed B.named
  have hlocks := B.notSynchronized
  subst hsz
  have hD := hD0.self (sz := s.heap.size)
  generalize hAe : va_A (cX T aa zw kp fp e0 e1 oF oT kt ft ks fs fc S ++ tl T S) s.heap.size = A at hD hF ⊢
  have hA : ∀ q : Nat, s.heap.size ≤ q → A q := fun q h => by rw [← hAe]; exact Or.inr h
  have hS : va_S A s.heap s.heap [] := va_S.rf
  have hl := lv_entry ([.ref (aa 0), .ref q.1, .int (nI cn), .int 0]) (n := 5) (Nat.le_of_ble_eq_true rfl)
  rw [lg_entry_eq]
  generalize (lg_sl ([.ref (aa 0), .ref q.1, .int (nI cn), .int 0]) ++ List.replicate (5 - (lg_sl ([.ref (aa 0), .ref q.1, .int (nI cn), .int 0])).length) Slot.unset).toArray = ls at hl ⊢
  have hl : lv_has ls 5 [(0, .ref (aa 0)), (1, .ref q.1), (2, .int (nI cn)), (3, .int 0)] := hl
  refine lv_aload_n hx hb d_T_tryCentury_0 rfl (lv_at hl 0 rfl) ?_
  refine lv_iload_n hx hb d_T_tryCentury_1 rfl (lv_at hl 2 rfl) ?_
  refine g_calli (va_runV (As := [.int (nI cn)]) (rest := []) ⟨hx, hb, hml, hown, hw⟩ (k_T_findCentury l D T κ aa zw kp fp e0 e1 oF oT kt ft ks fs fc S s.heap.size (nI cn)) (cwV 1 hw (bg_V ml_T_308 wi_T_findCentury wv_T_findCentury wz_T wc_T_findCentury) rfl rfl rfl (by decide +kernel) ⟨Nat.le_of_ble_eq_true rfl, Nat.le_of_ble_eq_true rfl⟩) ⟨qPf_b, va_recv hK hP (ci := 5) (q0 := 0) rfl rfl, qPf_p hP hK hD hF hS (g_free hD hS hA)⟩ rfl rfl hl.1 rfl (lv_room (Nat.le_of_ble_eq_true rfl)) d_T_tryCentury_2 ⟨Nat.le_of_ble_eq_true rfl, Nat.le_of_ble_eq_true rfl⟩) hD hS hA (fun r1 u9 H locs hr1 hP hD hS => ?_)
  obtain ⟨u2, u3, u4, u5⟩ := u9
  dsimp only at hr1 hP hD
  have hP : va_P D gC (cX T aa zw kp fp u2 u3 u4 u5 kt ft ks fs fc S ++ tl T S) H := hP
  have hD : va_D A (cX T aa zw kp fp u2 u3 u4 u5 kt ft ks fs fc S ++ tl T S) := hD
  rcases hr1 with ⟨g1, g0, g2, g3, g4, g5⟩ | ⟨g1, g0, -⟩
  · subst g0
    subst g2
    subst g3
    subst g4
    subst g5
    refine lv_if_eq (tgt := 28) hx hb d_T_tryCentury_5 (by decide) (fun c6 => absurd c6 (by decide)) (fun c6 => ?_)
    refine lv_iload_n hx hb d_T_tryCentury_8 rfl (lv_at hl 3 rfl) ?_
    refine lv_iconst (v := (-1)) hx hb d_T_tryCentury_9 (by decide) ?_
    refine lv_icmp_eq (tgt := 24) hx hb d_T_tryCentury_10 (by decide) (fun c7 => absurd c7 (by decide)) (fun c7 => ?_)
    refine lv_aload_n hx hb d_T_tryCentury_13 rfl (lv_at hl 0 rfl) ?_
    refine va_get (D := D) (ci := 5) (v := .ref (aa 3)) (C := "TimeWords") (T := F_T) (N := 8) hx hb hw in_T hown hK hP 0 rfl rfl 4 (by decide) (hw _ fl_T_37) (fun _ h9 => h9) rfl d_T_tryCentury_14 ?_
    refine lv_iload_n hx hb d_T_tryCentury_17 rfl (lv_at hl 3 rfl) ?_
    have hPc : va_P D gC ([(aa 3, .inr (2, [.int (100 * (nI cn - 1) + 1), .int (100 * nI cn), .int (b2i false), .int (b2i false)]))]) H := (pc1 (hP 3 _ rfl) pc0)
    have hDc : va_D A ([(aa 3, .inr (2, [.int (100 * (nI cn - 1) + 1), .int (100 * nI cn), .int (b2i false), .int (b2i false)]))]) := by have h9 := hD.part (cx := [(aa 3, .inr (2, [.int (100 * (nI cn - 1) + 1), .int (100 * nI cn), .int (b2i false), .int (b2i false)]))]) [3] (by decide) rfl; exact dl_l h9
    refine g_subi (X := cX T aa zw kp fp (100 * (nI cn - 1) + 1) (100 * nI cn) false false kt ft ks fs fc S) (pl := tl T S) (wr := [(aa 0, .inr (5, [.ref (aa 1), .ref S.1.1, .ref S.2.2.1.1, .int zw, .ref (aa 3), .ref (aa 4), .ref (aa 6), .ref (aa 8)])), (aa 1, .inr (1, [.ref (aa 2), .int (nI kp)])), (aa 2, .inl (T.1, 24, .inl fp)), (aa 4, .inr (1, [.ref (aa 5), .int (nI kt)])), (aa 5, .inl (T.1, 24, .inl ft)), (aa 6, .inr (1, [.ref (aa 7), .int (nI ks)])), (aa 7, .inl (T.1, 24, .inl fs)), (aa 8, .inl (T.1, 9, .inl fc)), (S.1.1, .inr (0, [.ref S.1.2.1, .int (nI S.2.1.length), .int S.1.2.2.1])), (S.2.2.1.1, .inr (0, [.ref S.2.2.1.2.1, .int (nI S.2.2.2.length), .int S.2.2.1.2.2.1]))]) (cx := [(aa 3, .inr (2, [.int (100 * (nI cn - 1) + 1), .int (100 * nI cn), .int (b2i false), .int (b2i false)]))]) (va_runV (As := [.int 0]) (rest := []) ⟨hx, hb, hml, hown, hw⟩ (k_Y_takeThird l D T (aa 3) (100 * (nI cn - 1) + 1) (100 * nI cn) false false H.size 0 (by decide) (by decide)) (cwV 1 hw (bg_V ml_T_305 wi_Y_takeThird wv_Y_takeThird wz_Y wc_Y_takeThird) rfl rfl rfl (by decide +kernel) ⟨Nat.le_of_ble_eq_true rfl, Nat.le_of_ble_eq_true rfl⟩) ⟨qP_b, va_recv hK hPc (ci := 2) (q0 := 0) rfl rfl, qP_p hPc hK hDc⟩ rfl rfl hl.1 rfl (lv_room (Nat.le_of_ble_eq_true rfl)) d_T_tryCentury_18 ⟨Nat.le_of_ble_eq_true rfl, Nat.le_of_ble_eq_true rfl⟩) hP hD hS hA [3] [0, 1, 2, 4, 5, 6, 7, 8, 9, 10] rfl rfl (by decide) (by decide) (fun r8 u9 H locs hr8 hP hD hS => ?_)
    obtain ⟨u9, u10⟩ := u9
    dsimp only at hr8 hP hD
    have hP : va_P D gC (cX T aa zw kp fp u9 u10 false false kt ft ks fs fc S ++ tl T S) H := hP.part (cx := cX T aa zw kp fp u9 u10 false false kt ft ks fs fc S) [0, 1, 2, 10, 3, 4, 5, 6, 7, 8, 9] rfl
    have hD : va_D A (cX T aa zw kp fp u9 u10 false false kt ft ks fs fc S ++ tl T S) := hD.part (cx := cX T aa zw kp fp u9 u10 false false kt ft ks fs fc S) [0, 1, 2, 10, 3, 4, 5, 6, 7, 8, 9] (by decide) rfl
    have hq := bg_th (wd := zw) (b := 0) (by decide) (qc_ok hy1 hy2) (show fnd (j_qc cn) (100 * (nI cn - 1) + 1) (100 * nI cn) false false from fnd_of) hr8
    rcases hq with ⟨k0, u1, k1, k2, k3⟩ | ⟨k0, k1⟩
    · subst k0
      obtain ⟨k3, k4, -, -⟩ := fnd_0 k3 (ap_0 (by decide) k1)
      subst k3
      subst k4
      have hcs := cs_t (q := q) k1
      refine lv_if_eq (tgt := 28) hx hb d_T_tryCentury_21 (by decide) (fun c11 => absurd c11 (by decide)) (fun c11 => ?_)
      refine lv_iconst (v := 1) hx hb d_T_tryCentury_24 (by decide) ?_
      refine lv_goto (tgt := 29) hx hb d_T_tryCentury_25 (by decide) ?_
      refine lv_istore (lv' := [(4, .int 1), (0, .ref (aa 0)), (1, .ref q.1), (2, .int (nI cn)), (3, .int 0)]) hx hb d_T_tryCentury_29 hl (by decide) rfl (fun ls hl => ?_)
      refine lv_iload hx hb d_T_tryCentury_31 (lv_at hl 0 rfl) ?_
      refine lv_if_eq (tgt := 44) hx hb d_T_tryCentury_33 (by decide) (fun c12 => absurd c12 (by decide)) (fun c12 => ?_)
      refine lv_aload_n hx hb d_T_tryCentury_36 rfl (lv_at hl 1 rfl) ?_
      refine lv_aload_n hx hb d_T_tryCentury_37 rfl (lv_at hl 2 rfl) ?_
      refine vp_callSi (va_Run.run (va_runV (As := [.ref q.1]) (rest := []) ⟨hx, hb, hml, hown, hw⟩ (k_T_foundSays l D T κ A aa zw kp fp u1.1 u1.2.1 false false kt ft ks fs fc S q hy0) (cwV 1 hw (bg_V ml_T_341 wi_T_foundSays wv_T_foundSays wz_T wc_T_foundSays) rfl rfl rfl (by decide +kernel) ⟨Nat.le_of_ble_eq_true rfl, Nat.le_of_ble_eq_true rfl⟩) ⟨sPf_b, va_recv hK hP (ci := 5) (q0 := 0) rfl rfl, sPf_p hP hK hF hS⟩ rfl rfl hl.1 rfl (lv_room (Nat.le_of_ble_eq_true rfl)) d_T_tryCentury_38 ⟨Nat.le_of_ble_eq_true rfl, Nat.le_of_ble_eq_true rfl⟩)) (fun r13 hr13 => ?_)
      replace hr13 := hr13.symm; subst hr13
      refine lv_if_ne (tgt := 45) hx hb d_T_tryCentury_41 (by decide) (fun c14 => ?_) (fun c14 => ?_)
      · have c14 := b2i_t c14
        have hct := hcs.trans c14
        refine lv_aload_n hx hb d_T_tryCentury_45 rfl (lv_at hl 1 rfl) ?_
        refine lv_aload_n hx hb d_T_tryCentury_46 rfl (lv_at hl 2 rfl) ?_
        refine g_callv (va_runV (As := [.ref q.1]) (rest := []) ⟨hx, hb, hml, hown, hw⟩ (k_T_startTrial l D T κ aa zw kp fp u1.1 u1.2.1 false false kt ft ks fs fc S H.size q hy0) (cwV 1 hw (bg_V ml_T_345 wi_T_startTrial wv_T_startTrial wz_T wc_T_startTrial) rfl rfl rfl (by decide +kernel) ⟨Nat.le_of_ble_eq_true rfl, Nat.le_of_ble_eq_true rfl⟩) ⟨qPf_b, va_recv hK hP (ci := 5) (q0 := 0) rfl rfl, qPf_p hP hK hD hF hS (g_free hD hS hA)⟩ rfl rfl hl.1 rfl (lv_room (Nat.le_of_ble_eq_true rfl)) d_T_tryCentury_47 ⟨Nat.le_of_ble_eq_true rfl, Nat.le_of_ble_eq_true rfl⟩) hD hS hA (fun u9 H locs hr15 hP hD hS => ?_)
        obtain ⟨u16, u17⟩ := u9
        dsimp only at hr15 hP hD
        have hP : va_P D gC (cX T aa zw kp fp u1.1 u1.2.1 false false u16 u17 ks fs fc S ++ tl T S) H := hP
        have hD : va_D A (cX T aa zw kp fp u1.1 u1.2.1 false false u16 u17 ks fs fc S ++ tl T S) := hD
        obtain ⟨ha1, ha2⟩ := hr15
        refine lv_aload_n hx hb d_T_tryCentury_50 rfl (lv_at hl 1 rfl) ?_
        refine va_get (D := D) (ci := 5) (v := .ref (aa 4)) (C := "TimeWords") (T := F_T) (N := 8) hx hb hw in_T hown hK hP 0 rfl rfl 5 (by decide) (hw _ fl_T_41) (fun _ h9 => h9) rfl d_T_tryCentury_51 ?_
        refine lv_iload_n hx hb d_T_tryCentury_54 rfl (lv_at hl 4 rfl) ?_
        have hPc : va_P D gC ([]) H := pc0
        refine va_csq (va_Run.run (va_runS (As := [.int 0]) (rest := [.ref (aa 4)]) ⟨hx, hb, hml, hown, hw⟩ (k_T_beginning l D T κ A 0 (by decide)) (va_cwS 1 hw (bg_S ml_T_268 wt_T_beginning wz_T wc_T_beginning) rfl rfl rfl (by decide +kernel) ⟨Nat.le_of_ble_eq_true rfl, Nat.le_of_ble_eq_true rfl⟩) ⟨sPf_b, sPf_p hPc hK hF hS⟩ rfl rfl hl.1 rfl (lv_room (Nat.le_of_ble_eq_true rfl)) d_T_tryCentury_55 ⟨Nat.le_of_ble_eq_true rfl, Nat.le_of_ble_eq_true rfl⟩)) (fun r18 hr18 => ?_)
        replace hr18 := hr18.symm; subst hr18
        refine W.eq (g2 := F0 m 58 ls [.ref (κ.1 (282 + 2 * 0)), .ref (aa 4)]) rfl ?_
        have hPc : va_P D gC ([(aa 4, .inr (1, [.ref (aa 5), .int (nI u16)])), (aa 5, .inl (T.1, 24, .inl u17))]) H := (pc1 (hP 4 _ rfl) (pc1 (hP 5 _ rfl) pc0))
        have hDc : va_D A ([(aa 4, .inr (1, [.ref (aa 5), .int (nI u16)])), (aa 5, .inl (T.1, 24, .inl u17))]) := by have h9 := hD.part (cx := [(aa 4, .inr (1, [.ref (aa 5), .int (nI u16)])), (aa 5, .inl (T.1, 24, .inl u17))]) [4, 5] (by decide) rfl; exact dl_l h9
        refine g_subv (X := cX T aa zw kp fp u1.1 u1.2.1 false false u16 u17 ks fs fc S) (pl := tl T S) (wr := [(aa 0, .inr (5, [.ref (aa 1), .ref S.1.1, .ref S.2.2.1.1, .int zw, .ref (aa 3), .ref (aa 4), .ref (aa 6), .ref (aa 8)])), (aa 1, .inr (1, [.ref (aa 2), .int (nI kp)])), (aa 2, .inl (T.1, 24, .inl fp)), (aa 3, .inr (2, [.int u1.1, .int u1.2.1, .int (b2i false), .int (b2i false)])), (aa 6, .inr (1, [.ref (aa 7), .int (nI ks)])), (aa 7, .inl (T.1, 24, .inl fs)), (aa 8, .inl (T.1, 9, .inl fc)), (S.1.1, .inr (0, [.ref S.1.2.1, .int (nI S.2.1.length), .int S.1.2.2.1])), (S.2.2.1.1, .inr (0, [.ref S.2.2.1.2.1, .int (nI S.2.2.2.length), .int S.2.2.1.2.2.1]))]) (cx := [(aa 4, .inr (1, [.ref (aa 5), .int (nI u16)])), (aa 5, .inl (T.1, 24, .inl u17))]) (va_runV (As := [.ref (κ.1 (282 + 2 * 0))]) (rest := []) ⟨hx, hb, hml, hown, hw⟩ (k_R_addText_n l D T κ (aa 4) (aa 5) u16 24 u17 H.size 0 (by have h9 : sL.getD 0 0 ≤ 7 := (by decide); omega) (by decide) (by decide)) (cwV 1 hw (bg_V ml_T_348 wi_R_addText wv_R_addText wz_R wc_R_addText) rfl rfl rfl (by decide +kernel) ⟨Nat.le_of_ble_eq_true rfl, Nat.le_of_ble_eq_true rfl⟩) ⟨qPf_b, va_recv hK hPc (ci := 1) (q0 := 0) rfl rfl, qPf_p hPc hK hDc hF hS (g_free hDc hS hA)⟩ rfl rfl hl.1 rfl (lv_room (Nat.le_of_ble_eq_true rfl)) d_T_tryCentury_58 ⟨Nat.le_of_ble_eq_true rfl, Nat.le_of_ble_eq_true rfl⟩) hP hD hS hA [4, 5] [0, 1, 2, 3, 6, 7, 8, 9, 10] rfl rfl (by decide) (by decide) (fun u9 H locs hr19 hP hD hS => ?_)
        obtain ⟨u20, u21⟩ := u9
        dsimp only at hr19 hP hD
        have hP : va_P D gC (cX T aa zw kp fp u1.1 u1.2.1 false false u20 u21 ks fs fc S ++ tl T S) H := hP.part (cx := cX T aa zw kp fp u1.1 u1.2.1 false false u20 u21 ks fs fc S) [0, 1, 2, 3, 9, 10, 4, 5, 6, 7, 8] rfl
        have hD : va_D A (cX T aa zw kp fp u1.1 u1.2.1 false false u20 u21 ks fs fc S ++ tl T S) := hD.part (cx := cX T aa zw kp fp u1.1 u1.2.1 false false u20 u21 ks fs fc S) [0, 1, 2, 3, 9, 10, 4, 5, 6, 7, 8] (by decide) rfl
        obtain ⟨hb1, hb2⟩ := hr19
        have hb3 : j_ls u21 u20 = c_bt q ++ j_ot (some 0) := by rw [hb1, ls_cp hb2, ha1, sx_ls 0 (by decide)]; rfl
        have hb4 : u20 ≤ 14 := by have h9 : sL.getD 0 0 ≤ 7 := (by decide); omega
        refine lv_iload_n hx hb d_T_tryCentury_61 rfl (lv_at hl 3 rfl) ?_
        refine lv_bipush (v := 10) hx hb d_T_tryCentury_62 (by decide) ?_
        refine lv_icmp_lt (tgt := 81) hx hb d_T_tryCentury_64 (by decide) (fun c22 => ?_) (fun c22 => ?_)
        · have c22 := nc_lt (a := cn) (b := 10) c22 (by omega) (by omega)
          refine lv_aload_n hx hb d_T_tryCentury_81 rfl (lv_at hl 1 rfl) ?_
          refine va_get (D := D) (ci := 5) (v := .ref (aa 4)) (C := "TimeWords") (T := F_T) (N := 8) hx hb hw in_T hown hK hP 0 rfl rfl 5 (by decide) (hw _ fl_T_41) (fun _ h9 => h9) rfl d_T_tryCentury_82 ?_
          refine lv_bipush (v := 48) hx hb d_T_tryCentury_85 (by decide) ?_
          refine lv_iload_n hx hb d_T_tryCentury_87 rfl (lv_at hl 3 rfl) ?_
          refine lv_bipush (v := 10) hx hb d_T_tryCentury_88 (by decide) ?_
          refine lv_irem hx hb d_T_tryCentury_90 (by decide) ?_
          refine lv_iadd hx hb d_T_tryCentury_91 ?_
          rw [ct_u hy2]
          have hPc : va_P D gC ([(aa 4, .inr (1, [.ref (aa 5), .int (nI u20)])), (aa 5, .inl (T.1, 24, .inl u21))]) H := (pc1 (hP 4 _ rfl) (pc1 (hP 5 _ rfl) pc0))
          have hDc : va_D A ([(aa 4, .inr (1, [.ref (aa 5), .int (nI u20)])), (aa 5, .inl (T.1, 24, .inl u21))]) := by have h9 := hD.part (cx := [(aa 4, .inr (1, [.ref (aa 5), .int (nI u20)])), (aa 5, .inl (T.1, 24, .inl u21))]) [4, 5] (by decide) rfl; exact dl_l h9
          refine g_subv (X := cX T aa zw kp fp u1.1 u1.2.1 false false u20 u21 ks fs fc S) (pl := tl T S) (wr := [(aa 0, .inr (5, [.ref (aa 1), .ref S.1.1, .ref S.2.2.1.1, .int zw, .ref (aa 3), .ref (aa 4), .ref (aa 6), .ref (aa 8)])), (aa 1, .inr (1, [.ref (aa 2), .int (nI kp)])), (aa 2, .inl (T.1, 24, .inl fp)), (aa 3, .inr (2, [.int u1.1, .int u1.2.1, .int (b2i false), .int (b2i false)])), (aa 6, .inr (1, [.ref (aa 7), .int (nI ks)])), (aa 7, .inl (T.1, 24, .inl fs)), (aa 8, .inl (T.1, 9, .inl fc)), (S.1.1, .inr (0, [.ref S.1.2.1, .int (nI S.2.1.length), .int S.1.2.2.1])), (S.2.2.1.1, .inr (0, [.ref S.2.2.1.2.1, .int (nI S.2.2.2.length), .int S.2.2.1.2.2.1]))]) (cx := [(aa 4, .inr (1, [.ref (aa 5), .int (nI u20)])), (aa 5, .inl (T.1, 24, .inl u21))]) (va_runV (As := [.int (nI (48 + cn % 10))]) (rest := []) ⟨hx, hb, hml, hown, hw⟩ (k_R_add l D T (aa 4) (aa 5) u20 24 u21 H.size (nI (48 + cn % 10)) (by omega) (by decide)) (cwV 1 hw (bg_V ml_T_70 wi_R_add wv_R_add wz_R wc_R_add) rfl rfl rfl (by decide +kernel) ⟨Nat.le_of_ble_eq_true rfl, Nat.le_of_ble_eq_true rfl⟩) ⟨qP_b, va_recv hK hPc (ci := 1) (q0 := 0) rfl rfl, qP_p hPc hK hDc⟩ rfl rfl hl.1 rfl (lv_room (Nat.le_of_ble_eq_true rfl)) d_T_tryCentury_92 ⟨Nat.le_of_ble_eq_true rfl, Nat.le_of_ble_eq_true rfl⟩) hP hD hS hA [4, 5] [0, 1, 2, 3, 6, 7, 8, 9, 10] rfl rfl (by decide) (by decide) (fun u9 H locs hr23 hP hD hS => ?_)
          obtain ⟨u24, u25⟩ := u9
          dsimp only at hr23 hP hD
          obtain ⟨q0, q1⟩ := hr23
          replace q0 := q0.symm; subst q0; replace q1 := q1.symm; subst q1
          have hP : va_P D gC (cX T aa zw kp fp u1.1 u1.2.1 false false (u20 + 1) (upd u21 u20 (nI (48 + cn % 10))) ks fs fc S ++ tl T S) H := hP.part (cx := cX T aa zw kp fp u1.1 u1.2.1 false false (u20 + 1) (upd u21 u20 (nI (48 + cn % 10))) ks fs fc S) [0, 1, 2, 3, 9, 10, 4, 5, 6, 7, 8] rfl
          have hD : va_D A (cX T aa zw kp fp u1.1 u1.2.1 false false (u20 + 1) (upd u21 u20 (nI (48 + cn % 10))) ks fs fc S ++ tl T S) := hD.part (cx := cX T aa zw kp fp u1.1 u1.2.1 false false (u20 + 1) (upd u21 u20 (nI (48 + cn % 10))) ks fs fc S) [0, 1, 2, 3, 9, 10, 4, 5, 6, 7, 8] (by decide) rfl
          refine lv_aload_n hx hb d_T_tryCentury_95 rfl (lv_at hl 1 rfl) ?_
          refine va_get (D := D) (ci := 5) (v := .ref (aa 4)) (C := "TimeWords") (T := F_T) (N := 8) hx hb hw in_T hown hK hP 0 rfl rfl 5 (by decide) (hw _ fl_T_41) (fun _ h9 => h9) rfl d_T_tryCentury_96 ?_
          refine lv_bipush (v := 99) hx hb d_T_tryCentury_99 (by decide) ?_
          have hPc : va_P D gC ([(aa 4, .inr (1, [.ref (aa 5), .int (nI (u20 + 1))])), (aa 5, .inl (T.1, 24, .inl (upd u21 u20 (nI (48 + cn % 10)))))]) H := (pc1 (hP 4 _ rfl) (pc1 (hP 5 _ rfl) pc0))
          have hDc : va_D A ([(aa 4, .inr (1, [.ref (aa 5), .int (nI (u20 + 1))])), (aa 5, .inl (T.1, 24, .inl (upd u21 u20 (nI (48 + cn % 10)))))]) := by have h9 := hD.part (cx := [(aa 4, .inr (1, [.ref (aa 5), .int (nI (u20 + 1))])), (aa 5, .inl (T.1, 24, .inl (upd u21 u20 (nI (48 + cn % 10)))))]) [4, 5] (by decide) rfl; exact dl_l h9
          refine g_subv (X := cX T aa zw kp fp u1.1 u1.2.1 false false (u20 + 1) (upd u21 u20 (nI (48 + cn % 10))) ks fs fc S) (pl := tl T S) (wr := [(aa 0, .inr (5, [.ref (aa 1), .ref S.1.1, .ref S.2.2.1.1, .int zw, .ref (aa 3), .ref (aa 4), .ref (aa 6), .ref (aa 8)])), (aa 1, .inr (1, [.ref (aa 2), .int (nI kp)])), (aa 2, .inl (T.1, 24, .inl fp)), (aa 3, .inr (2, [.int u1.1, .int u1.2.1, .int (b2i false), .int (b2i false)])), (aa 6, .inr (1, [.ref (aa 7), .int (nI ks)])), (aa 7, .inl (T.1, 24, .inl fs)), (aa 8, .inl (T.1, 9, .inl fc)), (S.1.1, .inr (0, [.ref S.1.2.1, .int (nI S.2.1.length), .int S.1.2.2.1])), (S.2.2.1.1, .inr (0, [.ref S.2.2.1.2.1, .int (nI S.2.2.2.length), .int S.2.2.1.2.2.1]))]) (cx := [(aa 4, .inr (1, [.ref (aa 5), .int (nI (u20 + 1))])), (aa 5, .inl (T.1, 24, .inl (upd u21 u20 (nI (48 + cn % 10)))))]) (va_runV (As := [.int 99]) (rest := []) ⟨hx, hb, hml, hown, hw⟩ (k_R_add l D T (aa 4) (aa 5) (u20 + 1) 24 (upd u21 u20 (nI (48 + cn % 10))) H.size 99 (by omega) (by decide)) (cwV 1 hw (bg_V ml_T_70 wi_R_add wv_R_add wz_R wc_R_add) rfl rfl rfl (by decide +kernel) ⟨Nat.le_of_ble_eq_true rfl, Nat.le_of_ble_eq_true rfl⟩) ⟨qP_b, va_recv hK hPc (ci := 1) (q0 := 0) rfl rfl, qP_p hPc hK hDc⟩ rfl rfl hl.1 rfl (lv_room (Nat.le_of_ble_eq_true rfl)) d_T_tryCentury_101 ⟨Nat.le_of_ble_eq_true rfl, Nat.le_of_ble_eq_true rfl⟩) hP hD hS hA [4, 5] [0, 1, 2, 3, 6, 7, 8, 9, 10] rfl rfl (by decide) (by decide) (fun u9 H locs hr26 hP hD hS => ?_)
          obtain ⟨u27, u28⟩ := u9
          dsimp only at hr26 hP hD
          obtain ⟨q0, q1⟩ := hr26
          replace q0 := q0.symm; subst q0; replace q1 := q1.symm; subst q1
          have hP : va_P D gC (cX T aa zw kp fp u1.1 u1.2.1 false false ((u20 + 1) + 1) (upd (upd u21 u20 (nI (48 + cn % 10))) (u20 + 1) 99) ks fs fc S ++ tl T S) H := hP.part (cx := cX T aa zw kp fp u1.1 u1.2.1 false false ((u20 + 1) + 1) (upd (upd u21 u20 (nI (48 + cn % 10))) (u20 + 1) 99) ks fs fc S) [0, 1, 2, 3, 9, 10, 4, 5, 6, 7, 8] rfl
          have hD : va_D A (cX T aa zw kp fp u1.1 u1.2.1 false false ((u20 + 1) + 1) (upd (upd u21 u20 (nI (48 + cn % 10))) (u20 + 1) 99) ks fs fc S ++ tl T S) := hD.part (cx := cX T aa zw kp fp u1.1 u1.2.1 false false ((u20 + 1) + 1) (upd (upd u21 u20 (nI (48 + cn % 10))) (u20 + 1) 99) ks fs fc S) [0, 1, 2, 3, 9, 10, 4, 5, 6, 7, 8] (by decide) rfl
          refine lv_aload_n hx hb d_T_tryCentury_104 rfl (lv_at hl 1 rfl) ?_
          refine g_callv (va_runV (As := []) (rest := []) ⟨hx, hb, hml, hown, hw⟩ (k_T_keepShorter l D T κ aa zw kp fp u1.1 u1.2.1 false false ((u20 + 1) + 1) (upd (upd u21 u20 (nI (48 + cn % 10))) (u20 + 1) 99) ks fs fc S H.size (by omega) hy3) (cwV 0 hw (bg_V ml_T_351 wi_T_keepShorter wv_T_keepShorter wz_T wc_T_keepShorter) rfl rfl rfl (by decide +kernel) ⟨Nat.le_of_ble_eq_true rfl, Nat.le_of_ble_eq_true rfl⟩) ⟨qPf_b, va_recv hK hP (ci := 5) (q0 := 0) rfl rfl, qPf_p hP hK hD hF hS (g_free hD hS hA)⟩ rfl rfl hl.1 rfl (lv_room (Nat.le_of_ble_eq_true rfl)) d_T_tryCentury_105 ⟨Nat.le_of_ble_eq_true rfl, Nat.le_of_ble_eq_true rfl⟩) hD hS hA (fun u9 H locs hr29 hP hD hS => ?_)
          obtain ⟨u30, u31⟩ := u9
          dsimp only at hr29 hP hD
          have hP : va_P D gC (cX T aa zw kp fp u1.1 u1.2.1 false false ((u20 + 1) + 1) (upd (upd u21 u20 (nI (48 + cn % 10))) (u20 + 1) 99) u30 u31 fc S ++ tl T S) H := hP
          have hD : va_D A (cX T aa zw kp fp u1.1 u1.2.1 false false ((u20 + 1) + 1) (upd (upd u21 u20 (nI (48 + cn % 10))) (u20 + 1) 99) u30 u31 fc S ++ tl T S) := hD
          exact W.vret hx hb hr (fun t ht hW => ⟨⟨(u1.1, u1.2.1, false, false, (u20 + 1) + 1, upd (upd u21 u20 (nI (48 + cn % 10))) (u20 + 1) 99, u30, u31), rfl, ⟨by rw [hr29.1, c_tc, hct, try_t, ls_put, ls_put, hb3, ct_1' (by omega)]; simp only [List.append_assoc, List.cons_append, List.nil_append], hr29.2⟩, by rw [ht]; exact hP, va_K.moved hW.alike hK, hD⟩, hS.F ht⟩) hS.2.2 d_T_tryCentury_108
        · have c22 := nc_nlt (a := cn) (b := 10) c22 (by omega) (by omega)
          refine lv_aload_n hx hb d_T_tryCentury_67 rfl (lv_at hl 1 rfl) ?_
          refine va_get (D := D) (ci := 5) (v := .ref (aa 4)) (C := "TimeWords") (T := F_T) (N := 8) hx hb hw in_T hown hK hP 0 rfl rfl 5 (by decide) (hw _ fl_T_41) (fun _ h9 => h9) rfl d_T_tryCentury_68 ?_
          refine lv_bipush (v := 48) hx hb d_T_tryCentury_71 (by decide) ?_
          refine lv_iload_n hx hb d_T_tryCentury_73 rfl (lv_at hl 3 rfl) ?_
          refine lv_bipush (v := 10) hx hb d_T_tryCentury_74 (by decide) ?_
          refine lv_idiv hx hb d_T_tryCentury_76 (by decide) ?_
          refine lv_iadd hx hb d_T_tryCentury_77 ?_
          rw [ct_t hy2]
          have hPc : va_P D gC ([(aa 4, .inr (1, [.ref (aa 5), .int (nI u20)])), (aa 5, .inl (T.1, 24, .inl u21))]) H := (pc1 (hP 4 _ rfl) (pc1 (hP 5 _ rfl) pc0))
          have hDc : va_D A ([(aa 4, .inr (1, [.ref (aa 5), .int (nI u20)])), (aa 5, .inl (T.1, 24, .inl u21))]) := by have h9 := hD.part (cx := [(aa 4, .inr (1, [.ref (aa 5), .int (nI u20)])), (aa 5, .inl (T.1, 24, .inl u21))]) [4, 5] (by decide) rfl; exact dl_l h9
          refine g_subv (X := cX T aa zw kp fp u1.1 u1.2.1 false false u20 u21 ks fs fc S) (pl := tl T S) (wr := [(aa 0, .inr (5, [.ref (aa 1), .ref S.1.1, .ref S.2.2.1.1, .int zw, .ref (aa 3), .ref (aa 4), .ref (aa 6), .ref (aa 8)])), (aa 1, .inr (1, [.ref (aa 2), .int (nI kp)])), (aa 2, .inl (T.1, 24, .inl fp)), (aa 3, .inr (2, [.int u1.1, .int u1.2.1, .int (b2i false), .int (b2i false)])), (aa 6, .inr (1, [.ref (aa 7), .int (nI ks)])), (aa 7, .inl (T.1, 24, .inl fs)), (aa 8, .inl (T.1, 9, .inl fc)), (S.1.1, .inr (0, [.ref S.1.2.1, .int (nI S.2.1.length), .int S.1.2.2.1])), (S.2.2.1.1, .inr (0, [.ref S.2.2.1.2.1, .int (nI S.2.2.2.length), .int S.2.2.1.2.2.1]))]) (cx := [(aa 4, .inr (1, [.ref (aa 5), .int (nI u20)])), (aa 5, .inl (T.1, 24, .inl u21))]) (va_runV (As := [.int (nI (48 + cn / 10))]) (rest := []) ⟨hx, hb, hml, hown, hw⟩ (k_R_add l D T (aa 4) (aa 5) u20 24 u21 H.size (nI (48 + cn / 10)) (by omega) (by decide)) (cwV 1 hw (bg_V ml_T_70 wi_R_add wv_R_add wz_R wc_R_add) rfl rfl rfl (by decide +kernel) ⟨Nat.le_of_ble_eq_true rfl, Nat.le_of_ble_eq_true rfl⟩) ⟨qP_b, va_recv hK hPc (ci := 1) (q0 := 0) rfl rfl, qP_p hPc hK hDc⟩ rfl rfl hl.1 rfl (lv_room (Nat.le_of_ble_eq_true rfl)) d_T_tryCentury_78 ⟨Nat.le_of_ble_eq_true rfl, Nat.le_of_ble_eq_true rfl⟩) hP hD hS hA [4, 5] [0, 1, 2, 3, 6, 7, 8, 9, 10] rfl rfl (by decide) (by decide) (fun u9 H locs hr32 hP hD hS => ?_)
          obtain ⟨u33, u34⟩ := u9
          dsimp only at hr32 hP hD
          obtain ⟨q0, q1⟩ := hr32
          replace q0 := q0.symm; subst q0; replace q1 := q1.symm; subst q1
          have hP : va_P D gC (cX T aa zw kp fp u1.1 u1.2.1 false false (u20 + 1) (upd u21 u20 (nI (48 + cn / 10))) ks fs fc S ++ tl T S) H := hP.part (cx := cX T aa zw kp fp u1.1 u1.2.1 false false (u20 + 1) (upd u21 u20 (nI (48 + cn / 10))) ks fs fc S) [0, 1, 2, 3, 9, 10, 4, 5, 6, 7, 8] rfl
          have hD : va_D A (cX T aa zw kp fp u1.1 u1.2.1 false false (u20 + 1) (upd u21 u20 (nI (48 + cn / 10))) ks fs fc S ++ tl T S) := hD.part (cx := cX T aa zw kp fp u1.1 u1.2.1 false false (u20 + 1) (upd u21 u20 (nI (48 + cn / 10))) ks fs fc S) [0, 1, 2, 3, 9, 10, 4, 5, 6, 7, 8] (by decide) rfl
          refine lv_aload_n hx hb d_T_tryCentury_81 rfl (lv_at hl 1 rfl) ?_
          refine va_get (D := D) (ci := 5) (v := .ref (aa 4)) (C := "TimeWords") (T := F_T) (N := 8) hx hb hw in_T hown hK hP 0 rfl rfl 5 (by decide) (hw _ fl_T_41) (fun _ h9 => h9) rfl d_T_tryCentury_82 ?_
          refine lv_bipush (v := 48) hx hb d_T_tryCentury_85 (by decide) ?_
          refine lv_iload_n hx hb d_T_tryCentury_87 rfl (lv_at hl 3 rfl) ?_
          refine lv_bipush (v := 10) hx hb d_T_tryCentury_88 (by decide) ?_
          refine lv_irem hx hb d_T_tryCentury_90 (by decide) ?_
          refine lv_iadd hx hb d_T_tryCentury_91 ?_
          rw [ct_u hy2]
          have hPc : va_P D gC ([(aa 4, .inr (1, [.ref (aa 5), .int (nI (u20 + 1))])), (aa 5, .inl (T.1, 24, .inl (upd u21 u20 (nI (48 + cn / 10)))))]) H := (pc1 (hP 4 _ rfl) (pc1 (hP 5 _ rfl) pc0))
          have hDc : va_D A ([(aa 4, .inr (1, [.ref (aa 5), .int (nI (u20 + 1))])), (aa 5, .inl (T.1, 24, .inl (upd u21 u20 (nI (48 + cn / 10)))))]) := by have h9 := hD.part (cx := [(aa 4, .inr (1, [.ref (aa 5), .int (nI (u20 + 1))])), (aa 5, .inl (T.1, 24, .inl (upd u21 u20 (nI (48 + cn / 10)))))]) [4, 5] (by decide) rfl; exact dl_l h9
          refine g_subv (X := cX T aa zw kp fp u1.1 u1.2.1 false false (u20 + 1) (upd u21 u20 (nI (48 + cn / 10))) ks fs fc S) (pl := tl T S) (wr := [(aa 0, .inr (5, [.ref (aa 1), .ref S.1.1, .ref S.2.2.1.1, .int zw, .ref (aa 3), .ref (aa 4), .ref (aa 6), .ref (aa 8)])), (aa 1, .inr (1, [.ref (aa 2), .int (nI kp)])), (aa 2, .inl (T.1, 24, .inl fp)), (aa 3, .inr (2, [.int u1.1, .int u1.2.1, .int (b2i false), .int (b2i false)])), (aa 6, .inr (1, [.ref (aa 7), .int (nI ks)])), (aa 7, .inl (T.1, 24, .inl fs)), (aa 8, .inl (T.1, 9, .inl fc)), (S.1.1, .inr (0, [.ref S.1.2.1, .int (nI S.2.1.length), .int S.1.2.2.1])), (S.2.2.1.1, .inr (0, [.ref S.2.2.1.2.1, .int (nI S.2.2.2.length), .int S.2.2.1.2.2.1]))]) (cx := [(aa 4, .inr (1, [.ref (aa 5), .int (nI (u20 + 1))])), (aa 5, .inl (T.1, 24, .inl (upd u21 u20 (nI (48 + cn / 10)))))]) (va_runV (As := [.int (nI (48 + cn % 10))]) (rest := []) ⟨hx, hb, hml, hown, hw⟩ (k_R_add l D T (aa 4) (aa 5) (u20 + 1) 24 (upd u21 u20 (nI (48 + cn / 10))) H.size (nI (48 + cn % 10)) (by omega) (by decide)) (cwV 1 hw (bg_V ml_T_70 wi_R_add wv_R_add wz_R wc_R_add) rfl rfl rfl (by decide +kernel) ⟨Nat.le_of_ble_eq_true rfl, Nat.le_of_ble_eq_true rfl⟩) ⟨qP_b, va_recv hK hPc (ci := 1) (q0 := 0) rfl rfl, qP_p hPc hK hDc⟩ rfl rfl hl.1 rfl (lv_room (Nat.le_of_ble_eq_true rfl)) d_T_tryCentury_92 ⟨Nat.le_of_ble_eq_true rfl, Nat.le_of_ble_eq_true rfl⟩) hP hD hS hA [4, 5] [0, 1, 2, 3, 6, 7, 8, 9, 10] rfl rfl (by decide) (by decide) (fun u9 H locs hr35 hP hD hS => ?_)
          obtain ⟨u36, u37⟩ := u9
          dsimp only at hr35 hP hD
          obtain ⟨q0, q1⟩ := hr35
          replace q0 := q0.symm; subst q0; replace q1 := q1.symm; subst q1
          have hP : va_P D gC (cX T aa zw kp fp u1.1 u1.2.1 false false ((u20 + 1) + 1) (upd (upd u21 u20 (nI (48 + cn / 10))) (u20 + 1) (nI (48 + cn % 10))) ks fs fc S ++ tl T S) H := hP.part (cx := cX T aa zw kp fp u1.1 u1.2.1 false false ((u20 + 1) + 1) (upd (upd u21 u20 (nI (48 + cn / 10))) (u20 + 1) (nI (48 + cn % 10))) ks fs fc S) [0, 1, 2, 3, 9, 10, 4, 5, 6, 7, 8] rfl
          have hD : va_D A (cX T aa zw kp fp u1.1 u1.2.1 false false ((u20 + 1) + 1) (upd (upd u21 u20 (nI (48 + cn / 10))) (u20 + 1) (nI (48 + cn % 10))) ks fs fc S ++ tl T S) := hD.part (cx := cX T aa zw kp fp u1.1 u1.2.1 false false ((u20 + 1) + 1) (upd (upd u21 u20 (nI (48 + cn / 10))) (u20 + 1) (nI (48 + cn % 10))) ks fs fc S) [0, 1, 2, 3, 9, 10, 4, 5, 6, 7, 8] (by decide) rfl
          refine lv_aload_n hx hb d_T_tryCentury_95 rfl (lv_at hl 1 rfl) ?_
          refine va_get (D := D) (ci := 5) (v := .ref (aa 4)) (C := "TimeWords") (T := F_T) (N := 8) hx hb hw in_T hown hK hP 0 rfl rfl 5 (by decide) (hw _ fl_T_41) (fun _ h9 => h9) rfl d_T_tryCentury_96 ?_
          refine lv_bipush (v := 99) hx hb d_T_tryCentury_99 (by decide) ?_
          have hPc : va_P D gC ([(aa 4, .inr (1, [.ref (aa 5), .int (nI ((u20 + 1) + 1))])), (aa 5, .inl (T.1, 24, .inl (upd (upd u21 u20 (nI (48 + cn / 10))) (u20 + 1) (nI (48 + cn % 10)))))]) H := (pc1 (hP 4 _ rfl) (pc1 (hP 5 _ rfl) pc0))
          have hDc : va_D A ([(aa 4, .inr (1, [.ref (aa 5), .int (nI ((u20 + 1) + 1))])), (aa 5, .inl (T.1, 24, .inl (upd (upd u21 u20 (nI (48 + cn / 10))) (u20 + 1) (nI (48 + cn % 10)))))]) := by have h9 := hD.part (cx := [(aa 4, .inr (1, [.ref (aa 5), .int (nI ((u20 + 1) + 1))])), (aa 5, .inl (T.1, 24, .inl (upd (upd u21 u20 (nI (48 + cn / 10))) (u20 + 1) (nI (48 + cn % 10)))))]) [4, 5] (by decide) rfl; exact dl_l h9
          refine g_subv (X := cX T aa zw kp fp u1.1 u1.2.1 false false ((u20 + 1) + 1) (upd (upd u21 u20 (nI (48 + cn / 10))) (u20 + 1) (nI (48 + cn % 10))) ks fs fc S) (pl := tl T S) (wr := [(aa 0, .inr (5, [.ref (aa 1), .ref S.1.1, .ref S.2.2.1.1, .int zw, .ref (aa 3), .ref (aa 4), .ref (aa 6), .ref (aa 8)])), (aa 1, .inr (1, [.ref (aa 2), .int (nI kp)])), (aa 2, .inl (T.1, 24, .inl fp)), (aa 3, .inr (2, [.int u1.1, .int u1.2.1, .int (b2i false), .int (b2i false)])), (aa 6, .inr (1, [.ref (aa 7), .int (nI ks)])), (aa 7, .inl (T.1, 24, .inl fs)), (aa 8, .inl (T.1, 9, .inl fc)), (S.1.1, .inr (0, [.ref S.1.2.1, .int (nI S.2.1.length), .int S.1.2.2.1])), (S.2.2.1.1, .inr (0, [.ref S.2.2.1.2.1, .int (nI S.2.2.2.length), .int S.2.2.1.2.2.1]))]) (cx := [(aa 4, .inr (1, [.ref (aa 5), .int (nI ((u20 + 1) + 1))])), (aa 5, .inl (T.1, 24, .inl (upd (upd u21 u20 (nI (48 + cn / 10))) (u20 + 1) (nI (48 + cn % 10)))))]) (va_runV (As := [.int 99]) (rest := []) ⟨hx, hb, hml, hown, hw⟩ (k_R_add l D T (aa 4) (aa 5) ((u20 + 1) + 1) 24 (upd (upd u21 u20 (nI (48 + cn / 10))) (u20 + 1) (nI (48 + cn % 10))) H.size 99 (by omega) (by decide)) (cwV 1 hw (bg_V ml_T_70 wi_R_add wv_R_add wz_R wc_R_add) rfl rfl rfl (by decide +kernel) ⟨Nat.le_of_ble_eq_true rfl, Nat.le_of_ble_eq_true rfl⟩) ⟨qP_b, va_recv hK hPc (ci := 1) (q0 := 0) rfl rfl, qP_p hPc hK hDc⟩ rfl rfl hl.1 rfl (lv_room (Nat.le_of_ble_eq_true rfl)) d_T_tryCentury_101 ⟨Nat.le_of_ble_eq_true rfl, Nat.le_of_ble_eq_true rfl⟩) hP hD hS hA [4, 5] [0, 1, 2, 3, 6, 7, 8, 9, 10] rfl rfl (by decide) (by decide) (fun u9 H locs hr38 hP hD hS => ?_)
          obtain ⟨u39, u40⟩ := u9
          dsimp only at hr38 hP hD
          obtain ⟨q0, q1⟩ := hr38
          replace q0 := q0.symm; subst q0; replace q1 := q1.symm; subst q1
          have hP : va_P D gC (cX T aa zw kp fp u1.1 u1.2.1 false false (((u20 + 1) + 1) + 1) (upd (upd (upd u21 u20 (nI (48 + cn / 10))) (u20 + 1) (nI (48 + cn % 10))) ((u20 + 1) + 1) 99) ks fs fc S ++ tl T S) H := hP.part (cx := cX T aa zw kp fp u1.1 u1.2.1 false false (((u20 + 1) + 1) + 1) (upd (upd (upd u21 u20 (nI (48 + cn / 10))) (u20 + 1) (nI (48 + cn % 10))) ((u20 + 1) + 1) 99) ks fs fc S) [0, 1, 2, 3, 9, 10, 4, 5, 6, 7, 8] rfl
          have hD : va_D A (cX T aa zw kp fp u1.1 u1.2.1 false false (((u20 + 1) + 1) + 1) (upd (upd (upd u21 u20 (nI (48 + cn / 10))) (u20 + 1) (nI (48 + cn % 10))) ((u20 + 1) + 1) 99) ks fs fc S ++ tl T S) := hD.part (cx := cX T aa zw kp fp u1.1 u1.2.1 false false (((u20 + 1) + 1) + 1) (upd (upd (upd u21 u20 (nI (48 + cn / 10))) (u20 + 1) (nI (48 + cn % 10))) ((u20 + 1) + 1) 99) ks fs fc S) [0, 1, 2, 3, 9, 10, 4, 5, 6, 7, 8] (by decide) rfl
          refine lv_aload_n hx hb d_T_tryCentury_104 rfl (lv_at hl 1 rfl) ?_
          refine g_callv (va_runV (As := []) (rest := []) ⟨hx, hb, hml, hown, hw⟩ (k_T_keepShorter l D T κ aa zw kp fp u1.1 u1.2.1 false false (((u20 + 1) + 1) + 1) (upd (upd (upd u21 u20 (nI (48 + cn / 10))) (u20 + 1) (nI (48 + cn % 10))) ((u20 + 1) + 1) 99) ks fs fc S H.size (by omega) hy3) (cwV 0 hw (bg_V ml_T_351 wi_T_keepShorter wv_T_keepShorter wz_T wc_T_keepShorter) rfl rfl rfl (by decide +kernel) ⟨Nat.le_of_ble_eq_true rfl, Nat.le_of_ble_eq_true rfl⟩) ⟨qPf_b, va_recv hK hP (ci := 5) (q0 := 0) rfl rfl, qPf_p hP hK hD hF hS (g_free hD hS hA)⟩ rfl rfl hl.1 rfl (lv_room (Nat.le_of_ble_eq_true rfl)) d_T_tryCentury_105 ⟨Nat.le_of_ble_eq_true rfl, Nat.le_of_ble_eq_true rfl⟩) hD hS hA (fun u9 H locs hr41 hP hD hS => ?_)
          obtain ⟨u42, u43⟩ := u9
          dsimp only at hr41 hP hD
          have hP : va_P D gC (cX T aa zw kp fp u1.1 u1.2.1 false false (((u20 + 1) + 1) + 1) (upd (upd (upd u21 u20 (nI (48 + cn / 10))) (u20 + 1) (nI (48 + cn % 10))) ((u20 + 1) + 1) 99) u42 u43 fc S ++ tl T S) H := hP
          have hD : va_D A (cX T aa zw kp fp u1.1 u1.2.1 false false (((u20 + 1) + 1) + 1) (upd (upd (upd u21 u20 (nI (48 + cn / 10))) (u20 + 1) (nI (48 + cn % 10))) ((u20 + 1) + 1) 99) u42 u43 fc S ++ tl T S) := hD
          exact W.vret hx hb hr (fun t ht hW => ⟨⟨(u1.1, u1.2.1, false, false, ((u20 + 1) + 1) + 1, upd (upd (upd u21 u20 (nI (48 + cn / 10))) (u20 + 1) (nI (48 + cn % 10))) ((u20 + 1) + 1) 99, u42, u43), rfl, ⟨by rw [hr41.1, c_tc, hct, try_t, ls_put, ls_put, ls_put, hb3, ct_2 (by omega)]; simp only [List.append_assoc, List.cons_append, List.nil_append], hr41.2⟩, by rw [ht]; exact hP, va_K.moved hW.alike hK, hD⟩, hS.F ht⟩) hS.2.2 d_T_tryCentury_108
      · have c14 := b2i_f c14
        exact W.vret hx hb hr (fun t ht hW => ⟨⟨(u1.1, u1.2.1, false, false, kt, ft, ks, fs), rfl, ⟨by rw [c_tc, hcs, c14, try_f], hy3⟩, by rw [ht]; exact hP, va_K.moved hW.alike hK, hD⟩, hS.F ht⟩) hS.2.2 d_T_tryCentury_44
    · subst k0
      have hcs := cs_n (q := q) k1
      refine lv_if_eq (tgt := 28) hx hb d_T_tryCentury_21 (by decide) (fun c44 => ?_) (fun c44 => absurd c44 (by decide))
      refine lv_iconst (v := 0) hx hb d_T_tryCentury_28 (by decide) ?_
      refine lv_istore (lv' := [(4, .int 0), (0, .ref (aa 0)), (1, .ref q.1), (2, .int (nI cn)), (3, .int 0)]) hx hb d_T_tryCentury_29 hl (by decide) rfl (fun ls hl => ?_)
      refine lv_iload hx hb d_T_tryCentury_31 (lv_at hl 0 rfl) ?_
      refine lv_if_eq (tgt := 44) hx hb d_T_tryCentury_33 (by decide) (fun c45 => ?_) (fun c45 => absurd c45 (by decide))
      exact W.vret hx hb hr (fun t ht hW => ⟨⟨(u9, u10, false, false, kt, ft, ks, fs), rfl, ⟨by rw [c_tc, hcs, try_f], hy3⟩, by rw [ht]; exact hP, va_K.moved hW.alike hK, hD⟩, hS.F ht⟩) hS.2.2 d_T_tryCentury_44
  · rw [in_199 hy1 hy2] at g1; cases g1

set_option maxHeartbeats 4000000 in
set_option maxRecDepth 100000 in
theorem k_T_tryCentury_1 (l : Launch) (D : va_G) (T : gT) (κ : gS) (aa : Nat → Nat) (zw : Int32) (kp : Nat) (fp : Nat → Int32) (e0 e1 : Int32) (oF oT : Bool) (kt : Nat) (ft : Nat → Int32) (ks : Nat) (fs fc : Nat → Int32) (S : tS) (sz : Nat) (q : spD) (cn : Nat) (hy0 : q ∈ S.2.2.2) (hy1 : 1 ≤ cn) (hy2 : cn ≤ 99) (hy3 : ks ≤ 24) : Met l y_T_tryCentury (Cond.code y_T_tryCentury b_T_tryCentury 5 none :: bg_W) ({ frames := 6, cells := 0, slots := 0, locals := 128 }) (qPf κ D T (cX T aa zw kp fp e0 e1 oF oT kt ft ks fs fc S ++ tl T S) [.ref (aa 0), .ref q.1, .int (nI cn), .int 1] sz) (va_Qv (fun u : Int32 × Int32 × Bool × Bool × Nat × (Nat → Int32) × Nat × (Nat → Int32) => match u with | (w0, w1, v2, v3, kt1, ft1, ks1, fs1) => j_ls fs1 ks1 = c_tc zw q (some 1) cn (j_ls fs ks) ∧ ks1 ≤ 24) (qB D T (va_A (cX T aa zw kp fp e0 e1 oF oT kt ft ks fs fc S ++ tl T S) sz) (fun u : Int32 × Int32 × Bool × Bool × Nat × (Nat → Int32) × Nat × (Nat → Int32) => match u with | (w0, w1, v2, v3, kt1, ft1, ks1, fs1) => cX T aa zw kp fp w0 w1 v2 v3 kt1 ft1 ks1 fs1 fc S ++ tl T S)) (va_A (cX T aa zw kp fp e0 e1 oF oT kt ft ks fs fc S ++ tl T S) sz)) 0 0 (va_A (cX T aa zw kp fp e0 e1 oF oT kt ft ks fs fc S ++ tl T S) sz) := by
  refine Met.ofW (cc := b_T_tryCentury) (maxL := 5) (ret := none) (by decide) rfl ?_
  intro p e s m args below meth c s₁ B hml hv
  obtain ⟨rfl, hsz, hP, hK, hD0, hF⟩ := hv
  have hx := B.exec
  have hb := B.bytes
  have hr := B.returns
  have hw : ∀ w ∈ bg_W, w.before ([.ref (aa 0), .ref q.1, .int (nI cn), .int 1] : List Value).toArray s = true := fun w h => atoms_spec (ws := (Cond.code y_T_tryCentury b_T_tryCentury 5 none :: bg_W)) B.pre w (List.mem_cons_of_mem _ h)
  have hown : s.vm.findClass "TimeWords" = some m.cls := findClass_of_methodNamed B.named
  have hlocks := B.notSynchronized
  subst hsz
  have hD := hD0.self (sz := s.heap.size)
  generalize hAe : va_A (cX T aa zw kp fp e0 e1 oF oT kt ft ks fs fc S ++ tl T S) s.heap.size = A at hD hF ⊢
  have hA : ∀ q : Nat, s.heap.size ≤ q → A q := fun q h => by rw [← hAe]; exact Or.inr h
  have hS : va_S A s.heap s.heap [] := va_S.rf
  have hl := lv_entry ([.ref (aa 0), .ref q.1, .int (nI cn), .int 1]) (n := 5) (Nat.le_of_ble_eq_true rfl)
  rw [lg_entry_eq]
  generalize (lg_sl ([.ref (aa 0), .ref q.1, .int (nI cn), .int 1]) ++ List.replicate (5 - (lg_sl ([.ref (aa 0), .ref q.1, .int (nI cn), .int 1])).length) Slot.unset).toArray = ls at hl ⊢
  have hl : lv_has ls 5 [(0, .ref (aa 0)), (1, .ref q.1), (2, .int (nI cn)), (3, .int 1)] := hl
  refine lv_aload_n hx hb d_T_tryCentury_0 rfl (lv_at hl 0 rfl) ?_
  refine lv_iload_n hx hb d_T_tryCentury_1 rfl (lv_at hl 2 rfl) ?_
  refine g_calli (va_runV (As := [.int (nI cn)]) (rest := []) ⟨hx, hb, hml, hown, hw⟩ (k_T_findCentury l D T κ aa zw kp fp e0 e1 oF oT kt ft ks fs fc S s.heap.size (nI cn)) (cwV 1 hw (bg_V ml_T_308 wi_T_findCentury wv_T_findCentury wz_T wc_T_findCentury) rfl rfl rfl (by decide +kernel) ⟨Nat.le_of_ble_eq_true rfl, Nat.le_of_ble_eq_true rfl⟩) ⟨qPf_b, va_recv hK hP (ci := 5) (q0 := 0) rfl rfl, qPf_p hP hK hD hF hS (g_free hD hS hA)⟩ rfl rfl hl.1 rfl (lv_room (Nat.le_of_ble_eq_true rfl)) d_T_tryCentury_2 ⟨Nat.le_of_ble_eq_true rfl, Nat.le_of_ble_eq_true rfl⟩) hD hS hA (fun r1 u9 H locs hr1 hP hD hS => ?_)
  obtain ⟨u2, u3, u4, u5⟩ := u9
  dsimp only at hr1 hP hD
  have hP : va_P D gC (cX T aa zw kp fp u2 u3 u4 u5 kt ft ks fs fc S ++ tl T S) H := hP
  have hD : va_D A (cX T aa zw kp fp u2 u3 u4 u5 kt ft ks fs fc S ++ tl T S) := hD
  rcases hr1 with ⟨g1, g0, g2, g3, g4, g5⟩ | ⟨g1, g0, -⟩
  · subst g0
    subst g2
    subst g3
    subst g4
    subst g5
    refine lv_if_eq (tgt := 28) hx hb d_T_tryCentury_5 (by decide) (fun c6 => absurd c6 (by decide)) (fun c6 => ?_)
    refine lv_iload_n hx hb d_T_tryCentury_8 rfl (lv_at hl 3 rfl) ?_
    refine lv_iconst (v := (-1)) hx hb d_T_tryCentury_9 (by decide) ?_
    refine lv_icmp_eq (tgt := 24) hx hb d_T_tryCentury_10 (by decide) (fun c7 => absurd c7 (by decide)) (fun c7 => ?_)
    refine lv_aload_n hx hb d_T_tryCentury_13 rfl (lv_at hl 0 rfl) ?_
    refine va_get (D := D) (ci := 5) (v := .ref (aa 3)) (C := "TimeWords") (T := F_T) (N := 8) hx hb hw in_T hown hK hP 0 rfl rfl 4 (by decide) (hw _ fl_T_37) (fun _ h9 => h9) rfl d_T_tryCentury_14 ?_
    refine lv_iload_n hx hb d_T_tryCentury_17 rfl (lv_at hl 3 rfl) ?_
    have hPc : va_P D gC ([(aa 3, .inr (2, [.int (100 * (nI cn - 1) + 1), .int (100 * nI cn), .int (b2i false), .int (b2i false)]))]) H := (pc1 (hP 3 _ rfl) pc0)
    have hDc : va_D A ([(aa 3, .inr (2, [.int (100 * (nI cn - 1) + 1), .int (100 * nI cn), .int (b2i false), .int (b2i false)]))]) := by have h9 := hD.part (cx := [(aa 3, .inr (2, [.int (100 * (nI cn - 1) + 1), .int (100 * nI cn), .int (b2i false), .int (b2i false)]))]) [3] (by decide) rfl; exact dl_l h9
    refine g_subi (X := cX T aa zw kp fp (100 * (nI cn - 1) + 1) (100 * nI cn) false false kt ft ks fs fc S) (pl := tl T S) (wr := [(aa 0, .inr (5, [.ref (aa 1), .ref S.1.1, .ref S.2.2.1.1, .int zw, .ref (aa 3), .ref (aa 4), .ref (aa 6), .ref (aa 8)])), (aa 1, .inr (1, [.ref (aa 2), .int (nI kp)])), (aa 2, .inl (T.1, 24, .inl fp)), (aa 4, .inr (1, [.ref (aa 5), .int (nI kt)])), (aa 5, .inl (T.1, 24, .inl ft)), (aa 6, .inr (1, [.ref (aa 7), .int (nI ks)])), (aa 7, .inl (T.1, 24, .inl fs)), (aa 8, .inl (T.1, 9, .inl fc)), (S.1.1, .inr (0, [.ref S.1.2.1, .int (nI S.2.1.length), .int S.1.2.2.1])), (S.2.2.1.1, .inr (0, [.ref S.2.2.1.2.1, .int (nI S.2.2.2.length), .int S.2.2.1.2.2.1]))]) (cx := [(aa 3, .inr (2, [.int (100 * (nI cn - 1) + 1), .int (100 * nI cn), .int (b2i false), .int (b2i false)]))]) (va_runV (As := [.int 1]) (rest := []) ⟨hx, hb, hml, hown, hw⟩ (k_Y_takeThird l D T (aa 3) (100 * (nI cn - 1) + 1) (100 * nI cn) false false H.size 1 (by decide) (by decide)) (cwV 1 hw (bg_V ml_T_305 wi_Y_takeThird wv_Y_takeThird wz_Y wc_Y_takeThird) rfl rfl rfl (by decide +kernel) ⟨Nat.le_of_ble_eq_true rfl, Nat.le_of_ble_eq_true rfl⟩) ⟨qP_b, va_recv hK hPc (ci := 2) (q0 := 0) rfl rfl, qP_p hPc hK hDc⟩ rfl rfl hl.1 rfl (lv_room (Nat.le_of_ble_eq_true rfl)) d_T_tryCentury_18 ⟨Nat.le_of_ble_eq_true rfl, Nat.le_of_ble_eq_true rfl⟩) hP hD hS hA [3] [0, 1, 2, 4, 5, 6, 7, 8, 9, 10] rfl rfl (by decide) (by decide) (fun r8 u9 H locs hr8 hP hD hS => ?_)
    obtain ⟨u9, u10⟩ := u9
    dsimp only at hr8 hP hD
    have hP : va_P D gC (cX T aa zw kp fp u9 u10 false false kt ft ks fs fc S ++ tl T S) H := hP.part (cx := cX T aa zw kp fp u9 u10 false false kt ft ks fs fc S) [0, 1, 2, 10, 3, 4, 5, 6, 7, 8, 9] rfl
    have hD : va_D A (cX T aa zw kp fp u9 u10 false false kt ft ks fs fc S ++ tl T S) := hD.part (cx := cX T aa zw kp fp u9 u10 false false kt ft ks fs fc S) [0, 1, 2, 10, 3, 4, 5, 6, 7, 8, 9] (by decide) rfl
    have hq := bg_th (wd := zw) (b := 1) (by decide) (qc_ok hy1 hy2) (show fnd (j_qc cn) (100 * (nI cn - 1) + 1) (100 * nI cn) false false from fnd_of) hr8
    rcases hq with ⟨k0, u1, k1, k2, k3⟩ | ⟨k0, k1⟩
    · subst k0
      obtain ⟨k3, k4, -, -⟩ := fnd_0 k3 (ap_0 (by decide) k1)
      subst k3
      subst k4
      have hcs := cs_t (q := q) k1
      refine lv_if_eq (tgt := 28) hx hb d_T_tryCentury_21 (by decide) (fun c11 => absurd c11 (by decide)) (fun c11 => ?_)
      refine lv_iconst (v := 1) hx hb d_T_tryCentury_24 (by decide) ?_
      refine lv_goto (tgt := 29) hx hb d_T_tryCentury_25 (by decide) ?_
      refine lv_istore (lv' := [(4, .int 1), (0, .ref (aa 0)), (1, .ref q.1), (2, .int (nI cn)), (3, .int 1)]) hx hb d_T_tryCentury_29 hl (by decide) rfl (fun ls hl => ?_)
      refine lv_iload hx hb d_T_tryCentury_31 (lv_at hl 0 rfl) ?_
      refine lv_if_eq (tgt := 44) hx hb d_T_tryCentury_33 (by decide) (fun c12 => absurd c12 (by decide)) (fun c12 => ?_)
      refine lv_aload_n hx hb d_T_tryCentury_36 rfl (lv_at hl 1 rfl) ?_
      refine lv_aload_n hx hb d_T_tryCentury_37 rfl (lv_at hl 2 rfl) ?_
      refine vp_callSi (va_Run.run (va_runV (As := [.ref q.1]) (rest := []) ⟨hx, hb, hml, hown, hw⟩ (k_T_foundSays l D T κ A aa zw kp fp u1.1 u1.2.1 false false kt ft ks fs fc S q hy0) (cwV 1 hw (bg_V ml_T_341 wi_T_foundSays wv_T_foundSays wz_T wc_T_foundSays) rfl rfl rfl (by decide +kernel) ⟨Nat.le_of_ble_eq_true rfl, Nat.le_of_ble_eq_true rfl⟩) ⟨sPf_b, va_recv hK hP (ci := 5) (q0 := 0) rfl rfl, sPf_p hP hK hF hS⟩ rfl rfl hl.1 rfl (lv_room (Nat.le_of_ble_eq_true rfl)) d_T_tryCentury_38 ⟨Nat.le_of_ble_eq_true rfl, Nat.le_of_ble_eq_true rfl⟩)) (fun r13 hr13 => ?_)
      replace hr13 := hr13.symm; subst hr13
      refine lv_if_ne (tgt := 45) hx hb d_T_tryCentury_41 (by decide) (fun c14 => ?_) (fun c14 => ?_)
      · have c14 := b2i_t c14
        have hct := hcs.trans c14
        refine lv_aload_n hx hb d_T_tryCentury_45 rfl (lv_at hl 1 rfl) ?_
        refine lv_aload_n hx hb d_T_tryCentury_46 rfl (lv_at hl 2 rfl) ?_
        refine g_callv (va_runV (As := [.ref q.1]) (rest := []) ⟨hx, hb, hml, hown, hw⟩ (k_T_startTrial l D T κ aa zw kp fp u1.1 u1.2.1 false false kt ft ks fs fc S H.size q hy0) (cwV 1 hw (bg_V ml_T_345 wi_T_startTrial wv_T_startTrial wz_T wc_T_startTrial) rfl rfl rfl (by decide +kernel) ⟨Nat.le_of_ble_eq_true rfl, Nat.le_of_ble_eq_true rfl⟩) ⟨qPf_b, va_recv hK hP (ci := 5) (q0 := 0) rfl rfl, qPf_p hP hK hD hF hS (g_free hD hS hA)⟩ rfl rfl hl.1 rfl (lv_room (Nat.le_of_ble_eq_true rfl)) d_T_tryCentury_47 ⟨Nat.le_of_ble_eq_true rfl, Nat.le_of_ble_eq_true rfl⟩) hD hS hA (fun u9 H locs hr15 hP hD hS => ?_)
        obtain ⟨u16, u17⟩ := u9
        dsimp only at hr15 hP hD
        have hP : va_P D gC (cX T aa zw kp fp u1.1 u1.2.1 false false u16 u17 ks fs fc S ++ tl T S) H := hP
        have hD : va_D A (cX T aa zw kp fp u1.1 u1.2.1 false false u16 u17 ks fs fc S ++ tl T S) := hD
        obtain ⟨ha1, ha2⟩ := hr15
        refine lv_aload_n hx hb d_T_tryCentury_50 rfl (lv_at hl 1 rfl) ?_
        refine va_get (D := D) (ci := 5) (v := .ref (aa 4)) (C := "TimeWords") (T := F_T) (N := 8) hx hb hw in_T hown hK hP 0 rfl rfl 5 (by decide) (hw _ fl_T_41) (fun _ h9 => h9) rfl d_T_tryCentury_51 ?_
        refine lv_iload_n hx hb d_T_tryCentury_54 rfl (lv_at hl 4 rfl) ?_
        have hPc : va_P D gC ([]) H := pc0
        refine va_csq (va_Run.run (va_runS (As := [.int 1]) (rest := [.ref (aa 4)]) ⟨hx, hb, hml, hown, hw⟩ (k_T_beginning l D T κ A 1 (by decide)) (va_cwS 1 hw (bg_S ml_T_268 wt_T_beginning wz_T wc_T_beginning) rfl rfl rfl (by decide +kernel) ⟨Nat.le_of_ble_eq_true rfl, Nat.le_of_ble_eq_true rfl⟩) ⟨sPf_b, sPf_p hPc hK hF hS⟩ rfl rfl hl.1 rfl (lv_room (Nat.le_of_ble_eq_true rfl)) d_T_tryCentury_55 ⟨Nat.le_of_ble_eq_true rfl, Nat.le_of_ble_eq_true rfl⟩)) (fun r18 hr18 => ?_)
        replace hr18 := hr18.symm; subst hr18
        refine W.eq (g2 := F0 m 58 ls [.ref (κ.1 (282 + 2 * 1)), .ref (aa 4)]) rfl ?_
        have hPc : va_P D gC ([(aa 4, .inr (1, [.ref (aa 5), .int (nI u16)])), (aa 5, .inl (T.1, 24, .inl u17))]) H := (pc1 (hP 4 _ rfl) (pc1 (hP 5 _ rfl) pc0))
        have hDc : va_D A ([(aa 4, .inr (1, [.ref (aa 5), .int (nI u16)])), (aa 5, .inl (T.1, 24, .inl u17))]) := by have h9 := hD.part (cx := [(aa 4, .inr (1, [.ref (aa 5), .int (nI u16)])), (aa 5, .inl (T.1, 24, .inl u17))]) [4, 5] (by decide) rfl; exact dl_l h9
        refine g_subv (X := cX T aa zw kp fp u1.1 u1.2.1 false false u16 u17 ks fs fc S) (pl := tl T S) (wr := [(aa 0, .inr (5, [.ref (aa 1), .ref S.1.1, .ref S.2.2.1.1, .int zw, .ref (aa 3), .ref (aa 4), .ref (aa 6), .ref (aa 8)])), (aa 1, .inr (1, [.ref (aa 2), .int (nI kp)])), (aa 2, .inl (T.1, 24, .inl fp)), (aa 3, .inr (2, [.int u1.1, .int u1.2.1, .int (b2i false), .int (b2i false)])), (aa 6, .inr (1, [.ref (aa 7), .int (nI ks)])), (aa 7, .inl (T.1, 24, .inl fs)), (aa 8, .inl (T.1, 9, .inl fc)), (S.1.1, .inr (0, [.ref S.1.2.1, .int (nI S.2.1.length), .int S.1.2.2.1])), (S.2.2.1.1, .inr (0, [.ref S.2.2.1.2.1, .int (nI S.2.2.2.length), .int S.2.2.1.2.2.1]))]) (cx := [(aa 4, .inr (1, [.ref (aa 5), .int (nI u16)])), (aa 5, .inl (T.1, 24, .inl u17))]) (va_runV (As := [.ref (κ.1 (282 + 2 * 1))]) (rest := []) ⟨hx, hb, hml, hown, hw⟩ (k_R_addText_n l D T κ (aa 4) (aa 5) u16 24 u17 H.size 1 (by have h9 : sL.getD 1 0 ≤ 7 := (by decide); omega) (by decide) (by decide)) (cwV 1 hw (bg_V ml_T_348 wi_R_addText wv_R_addText wz_R wc_R_addText) rfl rfl rfl (by decide +kernel) ⟨Nat.le_of_ble_eq_true rfl, Nat.le_of_ble_eq_true rfl⟩) ⟨qPf_b, va_recv hK hPc (ci := 1) (q0 := 0) rfl rfl, qPf_p hPc hK hDc hF hS (g_free hDc hS hA)⟩ rfl rfl hl.1 rfl (lv_room (Nat.le_of_ble_eq_true rfl)) d_T_tryCentury_58 ⟨Nat.le_of_ble_eq_true rfl, Nat.le_of_ble_eq_true rfl⟩) hP hD hS hA [4, 5] [0, 1, 2, 3, 6, 7, 8, 9, 10] rfl rfl (by decide) (by decide) (fun u9 H locs hr19 hP hD hS => ?_)
        obtain ⟨u20, u21⟩ := u9
        dsimp only at hr19 hP hD
        have hP : va_P D gC (cX T aa zw kp fp u1.1 u1.2.1 false false u20 u21 ks fs fc S ++ tl T S) H := hP.part (cx := cX T aa zw kp fp u1.1 u1.2.1 false false u20 u21 ks fs fc S) [0, 1, 2, 3, 9, 10, 4, 5, 6, 7, 8] rfl
        have hD : va_D A (cX T aa zw kp fp u1.1 u1.2.1 false false u20 u21 ks fs fc S ++ tl T S) := hD.part (cx := cX T aa zw kp fp u1.1 u1.2.1 false false u20 u21 ks fs fc S) [0, 1, 2, 3, 9, 10, 4, 5, 6, 7, 8] (by decide) rfl
        obtain ⟨hb1, hb2⟩ := hr19
        have hb3 : j_ls u21 u20 = c_bt q ++ j_ot (some 1) := by rw [hb1, ls_cp hb2, ha1, sx_ls 1 (by decide)]; rfl
        have hb4 : u20 ≤ 14 := by have h9 : sL.getD 1 0 ≤ 7 := (by decide); omega
        refine lv_iload_n hx hb d_T_tryCentury_61 rfl (lv_at hl 3 rfl) ?_
        refine lv_bipush (v := 10) hx hb d_T_tryCentury_62 (by decide) ?_
        refine lv_icmp_lt (tgt := 81) hx hb d_T_tryCentury_64 (by decide) (fun c22 => ?_) (fun c22 => ?_)
        · have c22 := nc_lt (a := cn) (b := 10) c22 (by omega) (by omega)
          refine lv_aload_n hx hb d_T_tryCentury_81 rfl (lv_at hl 1 rfl) ?_
          refine va_get (D := D) (ci := 5) (v := .ref (aa 4)) (C := "TimeWords") (T := F_T) (N := 8) hx hb hw in_T hown hK hP 0 rfl rfl 5 (by decide) (hw _ fl_T_41) (fun _ h9 => h9) rfl d_T_tryCentury_82 ?_
          refine lv_bipush (v := 48) hx hb d_T_tryCentury_85 (by decide) ?_
          refine lv_iload_n hx hb d_T_tryCentury_87 rfl (lv_at hl 3 rfl) ?_
          refine lv_bipush (v := 10) hx hb d_T_tryCentury_88 (by decide) ?_
          refine lv_irem hx hb d_T_tryCentury_90 (by decide) ?_
          refine lv_iadd hx hb d_T_tryCentury_91 ?_
          rw [ct_u hy2]
          have hPc : va_P D gC ([(aa 4, .inr (1, [.ref (aa 5), .int (nI u20)])), (aa 5, .inl (T.1, 24, .inl u21))]) H := (pc1 (hP 4 _ rfl) (pc1 (hP 5 _ rfl) pc0))
          have hDc : va_D A ([(aa 4, .inr (1, [.ref (aa 5), .int (nI u20)])), (aa 5, .inl (T.1, 24, .inl u21))]) := by have h9 := hD.part (cx := [(aa 4, .inr (1, [.ref (aa 5), .int (nI u20)])), (aa 5, .inl (T.1, 24, .inl u21))]) [4, 5] (by decide) rfl; exact dl_l h9
          refine g_subv (X := cX T aa zw kp fp u1.1 u1.2.1 false false u20 u21 ks fs fc S) (pl := tl T S) (wr := [(aa 0, .inr (5, [.ref (aa 1), .ref S.1.1, .ref S.2.2.1.1, .int zw, .ref (aa 3), .ref (aa 4), .ref (aa 6), .ref (aa 8)])), (aa 1, .inr (1, [.ref (aa 2), .int (nI kp)])), (aa 2, .inl (T.1, 24, .inl fp)), (aa 3, .inr (2, [.int u1.1, .int u1.2.1, .int (b2i false), .int (b2i false)])), (aa 6, .inr (1, [.ref (aa 7), .int (nI ks)])), (aa 7, .inl (T.1, 24, .inl fs)), (aa 8, .inl (T.1, 9, .inl fc)), (S.1.1, .inr (0, [.ref S.1.2.1, .int (nI S.2.1.length), .int S.1.2.2.1])), (S.2.2.1.1, .inr (0, [.ref S.2.2.1.2.1, .int (nI S.2.2.2.length), .int S.2.2.1.2.2.1]))]) (cx := [(aa 4, .inr (1, [.ref (aa 5), .int (nI u20)])), (aa 5, .inl (T.1, 24, .inl u21))]) (va_runV (As := [.int (nI (48 + cn % 10))]) (rest := []) ⟨hx, hb, hml, hown, hw⟩ (k_R_add l D T (aa 4) (aa 5) u20 24 u21 H.size (nI (48 + cn % 10)) (by omega) (by decide)) (cwV 1 hw (bg_V ml_T_70 wi_R_add wv_R_add wz_R wc_R_add) rfl rfl rfl (by decide +kernel) ⟨Nat.le_of_ble_eq_true rfl, Nat.le_of_ble_eq_true rfl⟩) ⟨qP_b, va_recv hK hPc (ci := 1) (q0 := 0) rfl rfl, qP_p hPc hK hDc⟩ rfl rfl hl.1 rfl (lv_room (Nat.le_of_ble_eq_true rfl)) d_T_tryCentury_92 ⟨Nat.le_of_ble_eq_true rfl, Nat.le_of_ble_eq_true rfl⟩) hP hD hS hA [4, 5] [0, 1, 2, 3, 6, 7, 8, 9, 10] rfl rfl (by decide) (by decide) (fun u9 H locs hr23 hP hD hS => ?_)
          obtain ⟨u24, u25⟩ := u9
          dsimp only at hr23 hP hD
          obtain ⟨q0, q1⟩ := hr23
          replace q0 := q0.symm; subst q0; replace q1 := q1.symm; subst q1
          have hP : va_P D gC (cX T aa zw kp fp u1.1 u1.2.1 false false (u20 + 1) (upd u21 u20 (nI (48 + cn % 10))) ks fs fc S ++ tl T S) H := hP.part (cx := cX T aa zw kp fp u1.1 u1.2.1 false false (u20 + 1) (upd u21 u20 (nI (48 + cn % 10))) ks fs fc S) [0, 1, 2, 3, 9, 10, 4, 5, 6, 7, 8] rfl
          have hD : va_D A (cX T aa zw kp fp u1.1 u1.2.1 false false (u20 + 1) (upd u21 u20 (nI (48 + cn % 10))) ks fs fc S ++ tl T S) := hD.part (cx := cX T aa zw kp fp u1.1 u1.2.1 false false (u20 + 1) (upd u21 u20 (nI (48 + cn % 10))) ks fs fc S) [0, 1, 2, 3, 9, 10, 4, 5, 6, 7, 8] (by decide) rfl
          refine lv_aload_n hx hb d_T_tryCentury_95 rfl (lv_at hl 1 rfl) ?_
          refine va_get (D := D) (ci := 5) (v := .ref (aa 4)) (C := "TimeWords") (T := F_T) (N := 8) hx hb hw in_T hown hK hP 0 rfl rfl 5 (by decide) (hw _ fl_T_41) (fun _ h9 => h9) rfl d_T_tryCentury_96 ?_
          refine lv_bipush (v := 99) hx hb d_T_tryCentury_99 (by decide) ?_
          have hPc : va_P D gC ([(aa 4, .inr (1, [.ref (aa 5), .int (nI (u20 + 1))])), (aa 5, .inl (T.1, 24, .inl (upd u21 u20 (nI (48 + cn % 10)))))]) H := (pc1 (hP 4 _ rfl) (pc1 (hP 5 _ rfl) pc0))
          have hDc : va_D A ([(aa 4, .inr (1, [.ref (aa 5), .int (nI (u20 + 1))])), (aa 5, .inl (T.1, 24, .inl (upd u21 u20 (nI (48 + cn % 10)))))]) := by have h9 := hD.part (cx := [(aa 4, .inr (1, [.ref (aa 5), .int (nI (u20 + 1))])), (aa 5, .inl (T.1, 24, .inl (upd u21 u20 (nI (48 + cn % 10)))))]) [4, 5] (by decide) rfl; exact dl_l h9
          refine g_subv (X := cX T aa zw kp fp u1.1 u1.2.1 false false (u20 + 1) (upd u21 u20 (nI (48 + cn % 10))) ks fs fc S) (pl := tl T S) (wr := [(aa 0, .inr (5, [.ref (aa 1), .ref S.1.1, .ref S.2.2.1.1, .int zw, .ref (aa 3), .ref (aa 4), .ref (aa 6), .ref (aa 8)])), (aa 1, .inr (1, [.ref (aa 2), .int (nI kp)])), (aa 2, .inl (T.1, 24, .inl fp)), (aa 3, .inr (2, [.int u1.1, .int u1.2.1, .int (b2i false), .int (b2i false)])), (aa 6, .inr (1, [.ref (aa 7), .int (nI ks)])), (aa 7, .inl (T.1, 24, .inl fs)), (aa 8, .inl (T.1, 9, .inl fc)), (S.1.1, .inr (0, [.ref S.1.2.1, .int (nI S.2.1.length), .int S.1.2.2.1])), (S.2.2.1.1, .inr (0, [.ref S.2.2.1.2.1, .int (nI S.2.2.2.length), .int S.2.2.1.2.2.1]))]) (cx := [(aa 4, .inr (1, [.ref (aa 5), .int (nI (u20 + 1))])), (aa 5, .inl (T.1, 24, .inl (upd u21 u20 (nI (48 + cn % 10)))))]) (va_runV (As := [.int 99]) (rest := []) ⟨hx, hb, hml, hown, hw⟩ (k_R_add l D T (aa 4) (aa 5) (u20 + 1) 24 (upd u21 u20 (nI (48 + cn % 10))) H.size 99 (by omega) (by decide)) (cwV 1 hw (bg_V ml_T_70 wi_R_add wv_R_add wz_R wc_R_add) rfl rfl rfl (by decide +kernel) ⟨Nat.le_of_ble_eq_true rfl, Nat.le_of_ble_eq_true rfl⟩) ⟨qP_b, va_recv hK hPc (ci := 1) (q0 := 0) rfl rfl, qP_p hPc hK hDc⟩ rfl rfl hl.1 rfl (lv_room (Nat.le_of_ble_eq_true rfl)) d_T_tryCentury_101 ⟨Nat.le_of_ble_eq_true rfl, Nat.le_of_ble_eq_true rfl⟩) hP hD hS hA [4, 5] [0, 1, 2, 3, 6, 7, 8, 9, 10] rfl rfl (by decide) (by decide) (fun u9 H locs hr26 hP hD hS => ?_)
          obtain ⟨u27, u28⟩ := u9
          dsimp only at hr26 hP hD
          obtain ⟨q0, q1⟩ := hr26
          replace q0 := q0.symm; subst q0; replace q1 := q1.symm; subst q1
          have hP : va_P D gC (cX T aa zw kp fp u1.1 u1.2.1 false false ((u20 + 1) + 1) (upd (upd u21 u20 (nI (48 + cn % 10))) (u20 + 1) 99) ks fs fc S ++ tl T S) H := hP.part (cx := cX T aa zw kp fp u1.1 u1.2.1 false false ((u20 + 1) + 1) (upd (upd u21 u20 (nI (48 + cn % 10))) (u20 + 1) 99) ks fs fc S) [0, 1, 2, 3, 9, 10, 4, 5, 6, 7, 8] rfl
          have hD : va_D A (cX T aa zw kp fp u1.1 u1.2.1 false false ((u20 + 1) + 1) (upd (upd u21 u20 (nI (48 + cn % 10))) (u20 + 1) 99) ks fs fc S ++ tl T S) := hD.part (cx := cX T aa zw kp fp u1.1 u1.2.1 false false ((u20 + 1) + 1) (upd (upd u21 u20 (nI (48 + cn % 10))) (u20 + 1) 99) ks fs fc S) [0, 1, 2, 3, 9, 10, 4, 5, 6, 7, 8] (by decide) rfl
          refine lv_aload_n hx hb d_T_tryCentury_104 rfl (lv_at hl 1 rfl) ?_
          refine g_callv (va_runV (As := []) (rest := []) ⟨hx, hb, hml, hown, hw⟩ (k_T_keepShorter l D T κ aa zw kp fp u1.1 u1.2.1 false false ((u20 + 1) + 1) (upd (upd u21 u20 (nI (48 + cn % 10))) (u20 + 1) 99) ks fs fc S H.size (by omega) hy3) (cwV 0 hw (bg_V ml_T_351 wi_T_keepShorter wv_T_keepShorter wz_T wc_T_keepShorter) rfl rfl rfl (by decide +kernel) ⟨Nat.le_of_ble_eq_true rfl, Nat.le_of_ble_eq_true rfl⟩) ⟨qPf_b, va_recv hK hP (ci := 5) (q0 := 0) rfl rfl, qPf_p hP hK hD hF hS (g_free hD hS hA)⟩ rfl rfl hl.1 rfl (lv_room (Nat.le_of_ble_eq_true rfl)) d_T_tryCentury_105 ⟨Nat.le_of_ble_eq_true rfl, Nat.le_of_ble_eq_true rfl⟩) hD hS hA (fun u9 H locs hr29 hP hD hS => ?_)
          obtain ⟨u30, u31⟩ := u9
          dsimp only at hr29 hP hD
          have hP : va_P D gC (cX T aa zw kp fp u1.1 u1.2.1 false false ((u20 + 1) + 1) (upd (upd u21 u20 (nI (48 + cn % 10))) (u20 + 1) 99) u30 u31 fc S ++ tl T S) H := hP
          have hD : va_D A (cX T aa zw kp fp u1.1 u1.2.1 false false ((u20 + 1) + 1) (upd (upd u21 u20 (nI (48 + cn % 10))) (u20 + 1) 99) u30 u31 fc S ++ tl T S) := hD
          exact W.vret hx hb hr (fun t ht hW => ⟨⟨(u1.1, u1.2.1, false, false, (u20 + 1) + 1, upd (upd u21 u20 (nI (48 + cn % 10))) (u20 + 1) 99, u30, u31), rfl, ⟨by rw [hr29.1, c_tc, hct, try_t, ls_put, ls_put, hb3, ct_1' (by omega)]; simp only [List.append_assoc, List.cons_append, List.nil_append], hr29.2⟩, by rw [ht]; exact hP, va_K.moved hW.alike hK, hD⟩, hS.F ht⟩) hS.2.2 d_T_tryCentury_108
        · have c22 := nc_nlt (a := cn) (b := 10) c22 (by omega) (by omega)
          refine lv_aload_n hx hb d_T_tryCentury_67 rfl (lv_at hl 1 rfl) ?_
          refine va_get (D := D) (ci := 5) (v := .ref (aa 4)) (C := "TimeWords") (T := F_T) (N := 8) hx hb hw in_T hown hK hP 0 rfl rfl 5 (by decide) (hw _ fl_T_41) (fun _ h9 => h9) rfl d_T_tryCentury_68 ?_
          refine lv_bipush (v := 48) hx hb d_T_tryCentury_71 (by decide) ?_
          refine lv_iload_n hx hb d_T_tryCentury_73 rfl (lv_at hl 3 rfl) ?_
          refine lv_bipush (v := 10) hx hb d_T_tryCentury_74 (by decide) ?_
          refine lv_idiv hx hb d_T_tryCentury_76 (by decide) ?_
          refine lv_iadd hx hb d_T_tryCentury_77 ?_
          rw [ct_t hy2]
          have hPc : va_P D gC ([(aa 4, .inr (1, [.ref (aa 5), .int (nI u20)])), (aa 5, .inl (T.1, 24, .inl u21))]) H := (pc1 (hP 4 _ rfl) (pc1 (hP 5 _ rfl) pc0))
          have hDc : va_D A ([(aa 4, .inr (1, [.ref (aa 5), .int (nI u20)])), (aa 5, .inl (T.1, 24, .inl u21))]) := by have h9 := hD.part (cx := [(aa 4, .inr (1, [.ref (aa 5), .int (nI u20)])), (aa 5, .inl (T.1, 24, .inl u21))]) [4, 5] (by decide) rfl; exact dl_l h9
          refine g_subv (X := cX T aa zw kp fp u1.1 u1.2.1 false false u20 u21 ks fs fc S) (pl := tl T S) (wr := [(aa 0, .inr (5, [.ref (aa 1), .ref S.1.1, .ref S.2.2.1.1, .int zw, .ref (aa 3), .ref (aa 4), .ref (aa 6), .ref (aa 8)])), (aa 1, .inr (1, [.ref (aa 2), .int (nI kp)])), (aa 2, .inl (T.1, 24, .inl fp)), (aa 3, .inr (2, [.int u1.1, .int u1.2.1, .int (b2i false), .int (b2i false)])), (aa 6, .inr (1, [.ref (aa 7), .int (nI ks)])), (aa 7, .inl (T.1, 24, .inl fs)), (aa 8, .inl (T.1, 9, .inl fc)), (S.1.1, .inr (0, [.ref S.1.2.1, .int (nI S.2.1.length), .int S.1.2.2.1])), (S.2.2.1.1, .inr (0, [.ref S.2.2.1.2.1, .int (nI S.2.2.2.length), .int S.2.2.1.2.2.1]))]) (cx := [(aa 4, .inr (1, [.ref (aa 5), .int (nI u20)])), (aa 5, .inl (T.1, 24, .inl u21))]) (va_runV (As := [.int (nI (48 + cn / 10))]) (rest := []) ⟨hx, hb, hml, hown, hw⟩ (k_R_add l D T (aa 4) (aa 5) u20 24 u21 H.size (nI (48 + cn / 10)) (by omega) (by decide)) (cwV 1 hw (bg_V ml_T_70 wi_R_add wv_R_add wz_R wc_R_add) rfl rfl rfl (by decide +kernel) ⟨Nat.le_of_ble_eq_true rfl, Nat.le_of_ble_eq_true rfl⟩) ⟨qP_b, va_recv hK hPc (ci := 1) (q0 := 0) rfl rfl, qP_p hPc hK hDc⟩ rfl rfl hl.1 rfl (lv_room (Nat.le_of_ble_eq_true rfl)) d_T_tryCentury_78 ⟨Nat.le_of_ble_eq_true rfl, Nat.le_of_ble_eq_true rfl⟩) hP hD hS hA [4, 5] [0, 1, 2, 3, 6, 7, 8, 9, 10] rfl rfl (by decide) (by decide) (fun u9 H locs hr32 hP hD hS => ?_)
          obtain ⟨u33, u34⟩ := u9
          dsimp only at hr32 hP hD
          obtain ⟨q0, q1⟩ := hr32
          replace q0 := q0.symm; subst q0; replace q1 := q1.symm; subst q1
          have hP : va_P D gC (cX T aa zw kp fp u1.1 u1.2.1 false false (u20 + 1) (upd u21 u20 (nI (48 + cn / 10))) ks fs fc S ++ tl T S) H := hP.part (cx := cX T aa zw kp fp u1.1 u1.2.1 false false (u20 + 1) (upd u21 u20 (nI (48 + cn / 10))) ks fs fc S) [0, 1, 2, 3, 9, 10, 4, 5, 6, 7, 8] rfl
          have hD : va_D A (cX T aa zw kp fp u1.1 u1.2.1 false false (u20 + 1) (upd u21 u20 (nI (48 + cn / 10))) ks fs fc S ++ tl T S) := hD.part (cx := cX T aa zw kp fp u1.1 u1.2.1 false false (u20 + 1) (upd u21 u20 (nI (48 + cn / 10))) ks fs fc S) [0, 1, 2, 3, 9, 10, 4, 5, 6, 7, 8] (by decide) rfl
          refine lv_aload_n hx hb d_T_tryCentury_81 rfl (lv_at hl 1 rfl) ?_
          refine va_get (D := D) (ci := 5) (v := .ref (aa 4)) (C := "TimeWords") (T := F_T) (N := 8) hx hb hw in_T hown hK hP 0 rfl rfl 5 (by decide) (hw _ fl_T_41) (fun _ h9 => h9) rfl d_T_tryCentury_82 ?_
          refine lv_bipush (v := 48) hx hb d_T_tryCentury_85 (by decide) ?_
          refine lv_iload_n hx hb d_T_tryCentury_87 rfl (lv_at hl 3 rfl) ?_
          refine lv_bipush (v := 10) hx hb d_T_tryCentury_88 (by decide) ?_
          refine lv_irem hx hb d_T_tryCentury_90 (by decide) ?_
          refine lv_iadd hx hb d_T_tryCentury_91 ?_
          rw [ct_u hy2]
          have hPc : va_P D gC ([(aa 4, .inr (1, [.ref (aa 5), .int (nI (u20 + 1))])), (aa 5, .inl (T.1, 24, .inl (upd u21 u20 (nI (48 + cn / 10)))))]) H := (pc1 (hP 4 _ rfl) (pc1 (hP 5 _ rfl) pc0))
          have hDc : va_D A ([(aa 4, .inr (1, [.ref (aa 5), .int (nI (u20 + 1))])), (aa 5, .inl (T.1, 24, .inl (upd u21 u20 (nI (48 + cn / 10)))))]) := by have h9 := hD.part (cx := [(aa 4, .inr (1, [.ref (aa 5), .int (nI (u20 + 1))])), (aa 5, .inl (T.1, 24, .inl (upd u21 u20 (nI (48 + cn / 10)))))]) [4, 5] (by decide) rfl; exact dl_l h9
          refine g_subv (X := cX T aa zw kp fp u1.1 u1.2.1 false false (u20 + 1) (upd u21 u20 (nI (48 + cn / 10))) ks fs fc S) (pl := tl T S) (wr := [(aa 0, .inr (5, [.ref (aa 1), .ref S.1.1, .ref S.2.2.1.1, .int zw, .ref (aa 3), .ref (aa 4), .ref (aa 6), .ref (aa 8)])), (aa 1, .inr (1, [.ref (aa 2), .int (nI kp)])), (aa 2, .inl (T.1, 24, .inl fp)), (aa 3, .inr (2, [.int u1.1, .int u1.2.1, .int (b2i false), .int (b2i false)])), (aa 6, .inr (1, [.ref (aa 7), .int (nI ks)])), (aa 7, .inl (T.1, 24, .inl fs)), (aa 8, .inl (T.1, 9, .inl fc)), (S.1.1, .inr (0, [.ref S.1.2.1, .int (nI S.2.1.length), .int S.1.2.2.1])), (S.2.2.1.1, .inr (0, [.ref S.2.2.1.2.1, .int (nI S.2.2.2.length), .int S.2.2.1.2.2.1]))]) (cx := [(aa 4, .inr (1, [.ref (aa 5), .int (nI (u20 + 1))])), (aa 5, .inl (T.1, 24, .inl (upd u21 u20 (nI (48 + cn / 10)))))]) (va_runV (As := [.int (nI (48 + cn % 10))]) (rest := []) ⟨hx, hb, hml, hown, hw⟩ (k_R_add l D T (aa 4) (aa 5) (u20 + 1) 24 (upd u21 u20 (nI (48 + cn / 10))) H.size (nI (48 + cn % 10)) (by omega) (by decide)) (cwV 1 hw (bg_V ml_T_70 wi_R_add wv_R_add wz_R wc_R_add) rfl rfl rfl (by decide +kernel) ⟨Nat.le_of_ble_eq_true rfl, Nat.le_of_ble_eq_true rfl⟩) ⟨qP_b, va_recv hK hPc (ci := 1) (q0 := 0) rfl rfl, qP_p hPc hK hDc⟩ rfl rfl hl.1 rfl (lv_room (Nat.le_of_ble_eq_true rfl)) d_T_tryCentury_92 ⟨Nat.le_of_ble_eq_true rfl, Nat.le_of_ble_eq_true rfl⟩) hP hD hS hA [4, 5] [0, 1, 2, 3, 6, 7, 8, 9, 10] rfl rfl (by decide) (by decide) (fun u9 H locs hr35 hP hD hS => ?_)
          obtain ⟨u36, u37⟩ := u9
          dsimp only at hr35 hP hD
          obtain ⟨q0, q1⟩ := hr35
          replace q0 := q0.symm; subst q0; replace q1 := q1.symm; subst q1
          have hP : va_P D gC (cX T aa zw kp fp u1.1 u1.2.1 false false ((u20 + 1) + 1) (upd (upd u21 u20 (nI (48 + cn / 10))) (u20 + 1) (nI (48 + cn % 10))) ks fs fc S ++ tl T S) H := hP.part (cx := cX T aa zw kp fp u1.1 u1.2.1 false false ((u20 + 1) + 1) (upd (upd u21 u20 (nI (48 + cn / 10))) (u20 + 1) (nI (48 + cn % 10))) ks fs fc S) [0, 1, 2, 3, 9, 10, 4, 5, 6, 7, 8] rfl
          have hD : va_D A (cX T aa zw kp fp u1.1 u1.2.1 false false ((u20 + 1) + 1) (upd (upd u21 u20 (nI (48 + cn / 10))) (u20 + 1) (nI (48 + cn % 10))) ks fs fc S ++ tl T S) := hD.part (cx := cX T aa zw kp fp u1.1 u1.2.1 false false ((u20 + 1) + 1) (upd (upd u21 u20 (nI (48 + cn / 10))) (u20 + 1) (nI (48 + cn % 10))) ks fs fc S) [0, 1, 2, 3, 9, 10, 4, 5, 6, 7, 8] (by decide) rfl
          refine lv_aload_n hx hb d_T_tryCentury_95 rfl (lv_at hl 1 rfl) ?_
          refine va_get (D := D) (ci := 5) (v := .ref (aa 4)) (C := "TimeWords") (T := F_T) (N := 8) hx hb hw in_T hown hK hP 0 rfl rfl 5 (by decide) (hw _ fl_T_41) (fun _ h9 => h9) rfl d_T_tryCentury_96 ?_
          refine lv_bipush (v := 99) hx hb d_T_tryCentury_99 (by decide) ?_
          have hPc : va_P D gC ([(aa 4, .inr (1, [.ref (aa 5), .int (nI ((u20 + 1) + 1))])), (aa 5, .inl (T.1, 24, .inl (upd (upd u21 u20 (nI (48 + cn / 10))) (u20 + 1) (nI (48 + cn % 10)))))]) H := (pc1 (hP 4 _ rfl) (pc1 (hP 5 _ rfl) pc0))
          have hDc : va_D A ([(aa 4, .inr (1, [.ref (aa 5), .int (nI ((u20 + 1) + 1))])), (aa 5, .inl (T.1, 24, .inl (upd (upd u21 u20 (nI (48 + cn / 10))) (u20 + 1) (nI (48 + cn % 10)))))]) := by have h9 := hD.part (cx := [(aa 4, .inr (1, [.ref (aa 5), .int (nI ((u20 + 1) + 1))])), (aa 5, .inl (T.1, 24, .inl (upd (upd u21 u20 (nI (48 + cn / 10))) (u20 + 1) (nI (48 + cn % 10)))))]) [4, 5] (by decide) rfl; exact dl_l h9
          refine g_subv (X := cX T aa zw kp fp u1.1 u1.2.1 false false ((u20 + 1) + 1) (upd (upd u21 u20 (nI (48 + cn / 10))) (u20 + 1) (nI (48 + cn % 10))) ks fs fc S) (pl := tl T S) (wr := [(aa 0, .inr (5, [.ref (aa 1), .ref S.1.1, .ref S.2.2.1.1, .int zw, .ref (aa 3), .ref (aa 4), .ref (aa 6), .ref (aa 8)])), (aa 1, .inr (1, [.ref (aa 2), .int (nI kp)])), (aa 2, .inl (T.1, 24, .inl fp)), (aa 3, .inr (2, [.int u1.1, .int u1.2.1, .int (b2i false), .int (b2i false)])), (aa 6, .inr (1, [.ref (aa 7), .int (nI ks)])), (aa 7, .inl (T.1, 24, .inl fs)), (aa 8, .inl (T.1, 9, .inl fc)), (S.1.1, .inr (0, [.ref S.1.2.1, .int (nI S.2.1.length), .int S.1.2.2.1])), (S.2.2.1.1, .inr (0, [.ref S.2.2.1.2.1, .int (nI S.2.2.2.length), .int S.2.2.1.2.2.1]))]) (cx := [(aa 4, .inr (1, [.ref (aa 5), .int (nI ((u20 + 1) + 1))])), (aa 5, .inl (T.1, 24, .inl (upd (upd u21 u20 (nI (48 + cn / 10))) (u20 + 1) (nI (48 + cn % 10)))))]) (va_runV (As := [.int 99]) (rest := []) ⟨hx, hb, hml, hown, hw⟩ (k_R_add l D T (aa 4) (aa 5) ((u20 + 1) + 1) 24 (upd (upd u21 u20 (nI (48 + cn / 10))) (u20 + 1) (nI (48 + cn % 10))) H.size 99 (by omega) (by decide)) (cwV 1 hw (bg_V ml_T_70 wi_R_add wv_R_add wz_R wc_R_add) rfl rfl rfl (by decide +kernel) ⟨Nat.le_of_ble_eq_true rfl, Nat.le_of_ble_eq_true rfl⟩) ⟨qP_b, va_recv hK hPc (ci := 1) (q0 := 0) rfl rfl, qP_p hPc hK hDc⟩ rfl rfl hl.1 rfl (lv_room (Nat.le_of_ble_eq_true rfl)) d_T_tryCentury_101 ⟨Nat.le_of_ble_eq_true rfl, Nat.le_of_ble_eq_true rfl⟩) hP hD hS hA [4, 5] [0, 1, 2, 3, 6, 7, 8, 9, 10] rfl rfl (by decide) (by decide) (fun u9 H locs hr38 hP hD hS => ?_)
          obtain ⟨u39, u40⟩ := u9
          dsimp only at hr38 hP hD
          obtain ⟨q0, q1⟩ := hr38
          replace q0 := q0.symm; subst q0; replace q1 := q1.symm; subst q1
          have hP : va_P D gC (cX T aa zw kp fp u1.1 u1.2.1 false false (((u20 + 1) + 1) + 1) (upd (upd (upd u21 u20 (nI (48 + cn / 10))) (u20 + 1) (nI (48 + cn % 10))) ((u20 + 1) + 1) 99) ks fs fc S ++ tl T S) H := hP.part (cx := cX T aa zw kp fp u1.1 u1.2.1 false false (((u20 + 1) + 1) + 1) (upd (upd (upd u21 u20 (nI (48 + cn / 10))) (u20 + 1) (nI (48 + cn % 10))) ((u20 + 1) + 1) 99) ks fs fc S) [0, 1, 2, 3, 9, 10, 4, 5, 6, 7, 8] rfl
          have hD : va_D A (cX T aa zw kp fp u1.1 u1.2.1 false false (((u20 + 1) + 1) + 1) (upd (upd (upd u21 u20 (nI (48 + cn / 10))) (u20 + 1) (nI (48 + cn % 10))) ((u20 + 1) + 1) 99) ks fs fc S ++ tl T S) := hD.part (cx := cX T aa zw kp fp u1.1 u1.2.1 false false (((u20 + 1) + 1) + 1) (upd (upd (upd u21 u20 (nI (48 + cn / 10))) (u20 + 1) (nI (48 + cn % 10))) ((u20 + 1) + 1) 99) ks fs fc S) [0, 1, 2, 3, 9, 10, 4, 5, 6, 7, 8] (by decide) rfl
          refine lv_aload_n hx hb d_T_tryCentury_104 rfl (lv_at hl 1 rfl) ?_
          refine g_callv (va_runV (As := []) (rest := []) ⟨hx, hb, hml, hown, hw⟩ (k_T_keepShorter l D T κ aa zw kp fp u1.1 u1.2.1 false false (((u20 + 1) + 1) + 1) (upd (upd (upd u21 u20 (nI (48 + cn / 10))) (u20 + 1) (nI (48 + cn % 10))) ((u20 + 1) + 1) 99) ks fs fc S H.size (by omega) hy3) (cwV 0 hw (bg_V ml_T_351 wi_T_keepShorter wv_T_keepShorter wz_T wc_T_keepShorter) rfl rfl rfl (by decide +kernel) ⟨Nat.le_of_ble_eq_true rfl, Nat.le_of_ble_eq_true rfl⟩) ⟨qPf_b, va_recv hK hP (ci := 5) (q0 := 0) rfl rfl, qPf_p hP hK hD hF hS (g_free hD hS hA)⟩ rfl rfl hl.1 rfl (lv_room (Nat.le_of_ble_eq_true rfl)) d_T_tryCentury_105 ⟨Nat.le_of_ble_eq_true rfl, Nat.le_of_ble_eq_true rfl⟩) hD hS hA (fun u9 H locs hr41 hP hD hS => ?_)
          obtain ⟨u42, u43⟩ := u9
          dsimp only at hr41 hP hD
          have hP : va_P D gC (cX T aa zw kp fp u1.1 u1.2.1 false false (((u20 + 1) + 1) + 1) (upd (upd (upd u21 u20 (nI (48 + cn / 10))) (u20 + 1) (nI (48 + cn % 10))) ((u20 + 1) + 1) 99) u42 u43 fc S ++ tl T S) H := hP
          have hD : va_D A (cX T aa zw kp fp u1.1 u1.2.1 false false (((u20 + 1) + 1) + 1) (upd (upd (upd u21 u20 (nI (48 + cn / 10))) (u20 + 1) (nI (48 + cn % 10))) ((u20 + 1) + 1) 99) u42 u43 fc S ++ tl T S) := hD
          exact W.vret hx hb hr (fun t ht hW => ⟨⟨(u1.1, u1.2.1, false, false, ((u20 + 1) + 1) + 1, upd (upd (upd u21 u20 (nI (48 + cn / 10))) (u20 + 1) (nI (48 + cn % 10))) ((u20 + 1) + 1) 99, u42, u43), rfl, ⟨by rw [hr41.1, c_tc, hct, try_t, ls_put, ls_put, ls_put, hb3, ct_2 (by omega)]; simp only [List.append_assoc, List.cons_append, List.nil_append], hr41.2⟩, by rw [ht]; exact hP, va_K.moved hW.alike hK, hD⟩, hS.F ht⟩) hS.2.2 d_T_tryCentury_108
      · have c14 := b2i_f c14
        exact W.vret hx hb hr (fun t ht hW => ⟨⟨(u1.1, u1.2.1, false, false, kt, ft, ks, fs), rfl, ⟨by rw [c_tc, hcs, c14, try_f], hy3⟩, by rw [ht]; exact hP, va_K.moved hW.alike hK, hD⟩, hS.F ht⟩) hS.2.2 d_T_tryCentury_44
    · subst k0
      have hcs := cs_n (q := q) k1
      refine lv_if_eq (tgt := 28) hx hb d_T_tryCentury_21 (by decide) (fun c44 => ?_) (fun c44 => absurd c44 (by decide))
      refine lv_iconst (v := 0) hx hb d_T_tryCentury_28 (by decide) ?_
      refine lv_istore (lv' := [(4, .int 0), (0, .ref (aa 0)), (1, .ref q.1), (2, .int (nI cn)), (3, .int 1)]) hx hb d_T_tryCentury_29 hl (by decide) rfl (fun ls hl => ?_)
      refine lv_iload hx hb d_T_tryCentury_31 (lv_at hl 0 rfl) ?_
      refine lv_if_eq (tgt := 44) hx hb d_T_tryCentury_33 (by decide) (fun c45 => ?_) (fun c45 => absurd c45 (by decide))
      exact W.vret hx hb hr (fun t ht hW => ⟨⟨(u9, u10, false, false, kt, ft, ks, fs), rfl, ⟨by rw [c_tc, hcs, try_f], hy3⟩, by rw [ht]; exact hP, va_K.moved hW.alike hK, hD⟩, hS.F ht⟩) hS.2.2 d_T_tryCentury_44
  · rw [in_199 hy1 hy2] at g1; cases g1

set_option maxHeartbeats 4000000 in
set_option maxRecDepth 100000 in
theorem k_T_tryCentury_2 (l : Launch) (D : va_G) (T : gT) (κ : gS) (aa : Nat → Nat) (zw : Int32) (kp : Nat) (fp : Nat → Int32) (e0 e1 : Int32) (oF oT : Bool) (kt : Nat) (ft : Nat → Int32) (ks : Nat) (fs fc : Nat → Int32) (S : tS) (sz : Nat) (q : spD) (cn : Nat) (hy0 : q ∈ S.2.2.2) (hy1 : 1 ≤ cn) (hy2 : cn ≤ 99) (hy3 : ks ≤ 24) : Met l y_T_tryCentury (Cond.code y_T_tryCentury b_T_tryCentury 5 none :: bg_W) ({ frames := 6, cells := 0, slots := 0, locals := 128 }) (qPf κ D T (cX T aa zw kp fp e0 e1 oF oT kt ft ks fs fc S ++ tl T S) [.ref (aa 0), .ref q.1, .int (nI cn), .int 2] sz) (va_Qv (fun u : Int32 × Int32 × Bool × Bool × Nat × (Nat → Int32) × Nat × (Nat → Int32) => match u with | (w0, w1, v2, v3, kt1, ft1, ks1, fs1) => j_ls fs1 ks1 = c_tc zw q (some 2) cn (j_ls fs ks) ∧ ks1 ≤ 24) (qB D T (va_A (cX T aa zw kp fp e0 e1 oF oT kt ft ks fs fc S ++ tl T S) sz) (fun u : Int32 × Int32 × Bool × Bool × Nat × (Nat → Int32) × Nat × (Nat → Int32) => match u with | (w0, w1, v2, v3, kt1, ft1, ks1, fs1) => cX T aa zw kp fp w0 w1 v2 v3 kt1 ft1 ks1 fs1 fc S ++ tl T S)) (va_A (cX T aa zw kp fp e0 e1 oF oT kt ft ks fs fc S ++ tl T S) sz)) 0 0 (va_A (cX T aa zw kp fp e0 e1 oF oT kt ft ks fs fc S ++ tl T S) sz) := by
  refine Met.ofW (cc := b_T_tryCentury) (maxL := 5) (ret := none) (by decide) rfl ?_
  intro p e s m args below meth c s₁ B hml hv
  obtain ⟨rfl, hsz, hP, hK, hD0, hF⟩ := hv
  have hx := B.exec
  have hb := B.bytes
  have hr := B.returns
  have hw : ∀ w ∈ bg_W, w.before ([.ref (aa 0), .ref q.1, .int (nI cn), .int 2] : List Value).toArray s = true := fun w h => atoms_spec (ws := (Cond.code y_T_tryCentury b_T_tryCentury 5 none :: bg_W)) B.pre w (List.mem_cons_of_mem _ h)
  have hown : s.vm.findClass "TimeWords" = some m.cls := findClass_of_methodNamed B.named
  have hlocks := B.notSynchronized
  subst hsz
  have hD := hD0.self (sz := s.heap.size)
  generalize hAe : va_A (cX T aa zw kp fp e0 e1 oF oT kt ft ks fs fc S ++ tl T S) s.heap.size = A at hD hF ⊢
  have hA : ∀ q : Nat, s.heap.size ≤ q → A q := fun q h => by rw [← hAe]; exact Or.inr h
  have hS : va_S A s.heap s.heap [] := va_S.rf
  have hl := lv_entry ([.ref (aa 0), .ref q.1, .int (nI cn), .int 2]) (n := 5) (Nat.le_of_ble_eq_true rfl)
  rw [lg_entry_eq]
  generalize (lg_sl ([.ref (aa 0), .ref q.1, .int (nI cn), .int 2]) ++ List.replicate (5 - (lg_sl ([.ref (aa 0), .ref q.1, .int (nI cn), .int 2])).length) Slot.unset).toArray = ls at hl ⊢
  have hl : lv_has ls 5 [(0, .ref (aa 0)), (1, .ref q.1), (2, .int (nI cn)), (3, .int 2)] := hl
  refine lv_aload_n hx hb d_T_tryCentury_0 rfl (lv_at hl 0 rfl) ?_
  refine lv_iload_n hx hb d_T_tryCentury_1 rfl (lv_at hl 2 rfl) ?_
  refine g_calli (va_runV (As := [.int (nI cn)]) (rest := []) ⟨hx, hb, hml, hown, hw⟩ (k_T_findCentury l D T κ aa zw kp fp e0 e1 oF oT kt ft ks fs fc S s.heap.size (nI cn)) (cwV 1 hw (bg_V ml_T_308 wi_T_findCentury wv_T_findCentury wz_T wc_T_findCentury) rfl rfl rfl (by decide +kernel) ⟨Nat.le_of_ble_eq_true rfl, Nat.le_of_ble_eq_true rfl⟩) ⟨qPf_b, va_recv hK hP (ci := 5) (q0 := 0) rfl rfl, qPf_p hP hK hD hF hS (g_free hD hS hA)⟩ rfl rfl hl.1 rfl (lv_room (Nat.le_of_ble_eq_true rfl)) d_T_tryCentury_2 ⟨Nat.le_of_ble_eq_true rfl, Nat.le_of_ble_eq_true rfl⟩) hD hS hA (fun r1 u9 H locs hr1 hP hD hS => ?_)
  obtain ⟨u2, u3, u4, u5⟩ := u9
  dsimp only at hr1 hP hD
  have hP : va_P D gC (cX T aa zw kp fp u2 u3 u4 u5 kt ft ks fs fc S ++ tl T S) H := hP
  have hD : va_D A (cX T aa zw kp fp u2 u3 u4 u5 kt ft ks fs fc S ++ tl T S) := hD
  rcases hr1 with ⟨g1, g0, g2, g3, g4, g5⟩ | ⟨g1, g0, -⟩
  · subst g0
    subst g2
    subst g3
    subst g4
    subst g5
    refine lv_if_eq (tgt := 28) hx hb d_T_tryCentury_5 (by decide) (fun c6 => absurd c6 (by decide)) (fun c6 => ?_)
    refine lv_iload_n hx hb d_T_tryCentury_8 rfl (lv_at hl 3 rfl) ?_
    refine lv_iconst (v := (-1)) hx hb d_T_tryCentury_9 (by decide) ?_
    refine lv_icmp_eq (tgt := 24) hx hb d_T_tryCentury_10 (by decide) (fun c7 => absurd c7 (by decide)) (fun c7 => ?_)
    refine lv_aload_n hx hb d_T_tryCentury_13 rfl (lv_at hl 0 rfl) ?_
    refine va_get (D := D) (ci := 5) (v := .ref (aa 3)) (C := "TimeWords") (T := F_T) (N := 8) hx hb hw in_T hown hK hP 0 rfl rfl 4 (by decide) (hw _ fl_T_37) (fun _ h9 => h9) rfl d_T_tryCentury_14 ?_
    refine lv_iload_n hx hb d_T_tryCentury_17 rfl (lv_at hl 3 rfl) ?_
    have hPc : va_P D gC ([(aa 3, .inr (2, [.int (100 * (nI cn - 1) + 1), .int (100 * nI cn), .int (b2i false), .int (b2i false)]))]) H := (pc1 (hP 3 _ rfl) pc0)
    have hDc : va_D A ([(aa 3, .inr (2, [.int (100 * (nI cn - 1) + 1), .int (100 * nI cn), .int (b2i false), .int (b2i false)]))]) := by have h9 := hD.part (cx := [(aa 3, .inr (2, [.int (100 * (nI cn - 1) + 1), .int (100 * nI cn), .int (b2i false), .int (b2i false)]))]) [3] (by decide) rfl; exact dl_l h9
    refine g_subi (X := cX T aa zw kp fp (100 * (nI cn - 1) + 1) (100 * nI cn) false false kt ft ks fs fc S) (pl := tl T S) (wr := [(aa 0, .inr (5, [.ref (aa 1), .ref S.1.1, .ref S.2.2.1.1, .int zw, .ref (aa 3), .ref (aa 4), .ref (aa 6), .ref (aa 8)])), (aa 1, .inr (1, [.ref (aa 2), .int (nI kp)])), (aa 2, .inl (T.1, 24, .inl fp)), (aa 4, .inr (1, [.ref (aa 5), .int (nI kt)])), (aa 5, .inl (T.1, 24, .inl ft)), (aa 6, .inr (1, [.ref (aa 7), .int (nI ks)])), (aa 7, .inl (T.1, 24, .inl fs)), (aa 8, .inl (T.1, 9, .inl fc)), (S.1.1, .inr (0, [.ref S.1.2.1, .int (nI S.2.1.length), .int S.1.2.2.1])), (S.2.2.1.1, .inr (0, [.ref S.2.2.1.2.1, .int (nI S.2.2.2.length), .int S.2.2.1.2.2.1]))]) (cx := [(aa 3, .inr (2, [.int (100 * (nI cn - 1) + 1), .int (100 * nI cn), .int (b2i false), .int (b2i false)]))]) (va_runV (As := [.int 2]) (rest := []) ⟨hx, hb, hml, hown, hw⟩ (k_Y_takeThird l D T (aa 3) (100 * (nI cn - 1) + 1) (100 * nI cn) false false H.size 2 (by decide) (by decide)) (cwV 1 hw (bg_V ml_T_305 wi_Y_takeThird wv_Y_takeThird wz_Y wc_Y_takeThird) rfl rfl rfl (by decide +kernel) ⟨Nat.le_of_ble_eq_true rfl, Nat.le_of_ble_eq_true rfl⟩) ⟨qP_b, va_recv hK hPc (ci := 2) (q0 := 0) rfl rfl, qP_p hPc hK hDc⟩ rfl rfl hl.1 rfl (lv_room (Nat.le_of_ble_eq_true rfl)) d_T_tryCentury_18 ⟨Nat.le_of_ble_eq_true rfl, Nat.le_of_ble_eq_true rfl⟩) hP hD hS hA [3] [0, 1, 2, 4, 5, 6, 7, 8, 9, 10] rfl rfl (by decide) (by decide) (fun r8 u9 H locs hr8 hP hD hS => ?_)
    obtain ⟨u9, u10⟩ := u9
    dsimp only at hr8 hP hD
    have hP : va_P D gC (cX T aa zw kp fp u9 u10 false false kt ft ks fs fc S ++ tl T S) H := hP.part (cx := cX T aa zw kp fp u9 u10 false false kt ft ks fs fc S) [0, 1, 2, 10, 3, 4, 5, 6, 7, 8, 9] rfl
    have hD : va_D A (cX T aa zw kp fp u9 u10 false false kt ft ks fs fc S ++ tl T S) := hD.part (cx := cX T aa zw kp fp u9 u10 false false kt ft ks fs fc S) [0, 1, 2, 10, 3, 4, 5, 6, 7, 8, 9] (by decide) rfl
    have hq := bg_th (wd := zw) (b := 2) (by decide) (qc_ok hy1 hy2) (show fnd (j_qc cn) (100 * (nI cn - 1) + 1) (100 * nI cn) false false from fnd_of) hr8
    rcases hq with ⟨k0, u1, k1, k2, k3⟩ | ⟨k0, k1⟩
    · subst k0
      obtain ⟨k3, k4, -, -⟩ := fnd_0 k3 (ap_0 (by decide) k1)
      subst k3
      subst k4
      have hcs := cs_t (q := q) k1
      refine lv_if_eq (tgt := 28) hx hb d_T_tryCentury_21 (by decide) (fun c11 => absurd c11 (by decide)) (fun c11 => ?_)
      refine lv_iconst (v := 1) hx hb d_T_tryCentury_24 (by decide) ?_
      refine lv_goto (tgt := 29) hx hb d_T_tryCentury_25 (by decide) ?_
      refine lv_istore (lv' := [(4, .int 1), (0, .ref (aa 0)), (1, .ref q.1), (2, .int (nI cn)), (3, .int 2)]) hx hb d_T_tryCentury_29 hl (by decide) rfl (fun ls hl => ?_)
      refine lv_iload hx hb d_T_tryCentury_31 (lv_at hl 0 rfl) ?_
      refine lv_if_eq (tgt := 44) hx hb d_T_tryCentury_33 (by decide) (fun c12 => absurd c12 (by decide)) (fun c12 => ?_)
      refine lv_aload_n hx hb d_T_tryCentury_36 rfl (lv_at hl 1 rfl) ?_
      refine lv_aload_n hx hb d_T_tryCentury_37 rfl (lv_at hl 2 rfl) ?_
      refine vp_callSi (va_Run.run (va_runV (As := [.ref q.1]) (rest := []) ⟨hx, hb, hml, hown, hw⟩ (k_T_foundSays l D T κ A aa zw kp fp u1.1 u1.2.1 false false kt ft ks fs fc S q hy0) (cwV 1 hw (bg_V ml_T_341 wi_T_foundSays wv_T_foundSays wz_T wc_T_foundSays) rfl rfl rfl (by decide +kernel) ⟨Nat.le_of_ble_eq_true rfl, Nat.le_of_ble_eq_true rfl⟩) ⟨sPf_b, va_recv hK hP (ci := 5) (q0 := 0) rfl rfl, sPf_p hP hK hF hS⟩ rfl rfl hl.1 rfl (lv_room (Nat.le_of_ble_eq_true rfl)) d_T_tryCentury_38 ⟨Nat.le_of_ble_eq_true rfl, Nat.le_of_ble_eq_true rfl⟩)) (fun r13 hr13 => ?_)
      replace hr13 := hr13.symm; subst hr13
      refine lv_if_ne (tgt := 45) hx hb d_T_tryCentury_41 (by decide) (fun c14 => ?_) (fun c14 => ?_)
      · have c14 := b2i_t c14
        have hct := hcs.trans c14
        refine lv_aload_n hx hb d_T_tryCentury_45 rfl (lv_at hl 1 rfl) ?_
        refine lv_aload_n hx hb d_T_tryCentury_46 rfl (lv_at hl 2 rfl) ?_
        refine g_callv (va_runV (As := [.ref q.1]) (rest := []) ⟨hx, hb, hml, hown, hw⟩ (k_T_startTrial l D T κ aa zw kp fp u1.1 u1.2.1 false false kt ft ks fs fc S H.size q hy0) (cwV 1 hw (bg_V ml_T_345 wi_T_startTrial wv_T_startTrial wz_T wc_T_startTrial) rfl rfl rfl (by decide +kernel) ⟨Nat.le_of_ble_eq_true rfl, Nat.le_of_ble_eq_true rfl⟩) ⟨qPf_b, va_recv hK hP (ci := 5) (q0 := 0) rfl rfl, qPf_p hP hK hD hF hS (g_free hD hS hA)⟩ rfl rfl hl.1 rfl (lv_room (Nat.le_of_ble_eq_true rfl)) d_T_tryCentury_47 ⟨Nat.le_of_ble_eq_true rfl, Nat.le_of_ble_eq_true rfl⟩) hD hS hA (fun u9 H locs hr15 hP hD hS => ?_)
        obtain ⟨u16, u17⟩ := u9
        dsimp only at hr15 hP hD
        have hP : va_P D gC (cX T aa zw kp fp u1.1 u1.2.1 false false u16 u17 ks fs fc S ++ tl T S) H := hP
        have hD : va_D A (cX T aa zw kp fp u1.1 u1.2.1 false false u16 u17 ks fs fc S ++ tl T S) := hD
        obtain ⟨ha1, ha2⟩ := hr15
        refine lv_aload_n hx hb d_T_tryCentury_50 rfl (lv_at hl 1 rfl) ?_
        refine va_get (D := D) (ci := 5) (v := .ref (aa 4)) (C := "TimeWords") (T := F_T) (N := 8) hx hb hw in_T hown hK hP 0 rfl rfl 5 (by decide) (hw _ fl_T_41) (fun _ h9 => h9) rfl d_T_tryCentury_51 ?_
        refine lv_iload_n hx hb d_T_tryCentury_54 rfl (lv_at hl 4 rfl) ?_
        have hPc : va_P D gC ([]) H := pc0
        refine va_csq (va_Run.run (va_runS (As := [.int 2]) (rest := [.ref (aa 4)]) ⟨hx, hb, hml, hown, hw⟩ (k_T_beginning l D T κ A 2 (by decide)) (va_cwS 1 hw (bg_S ml_T_268 wt_T_beginning wz_T wc_T_beginning) rfl rfl rfl (by decide +kernel) ⟨Nat.le_of_ble_eq_true rfl, Nat.le_of_ble_eq_true rfl⟩) ⟨sPf_b, sPf_p hPc hK hF hS⟩ rfl rfl hl.1 rfl (lv_room (Nat.le_of_ble_eq_true rfl)) d_T_tryCentury_55 ⟨Nat.le_of_ble_eq_true rfl, Nat.le_of_ble_eq_true rfl⟩)) (fun r18 hr18 => ?_)
        replace hr18 := hr18.symm; subst hr18
        refine W.eq (g2 := F0 m 58 ls [.ref (κ.1 (282 + 2 * 2)), .ref (aa 4)]) rfl ?_
        have hPc : va_P D gC ([(aa 4, .inr (1, [.ref (aa 5), .int (nI u16)])), (aa 5, .inl (T.1, 24, .inl u17))]) H := (pc1 (hP 4 _ rfl) (pc1 (hP 5 _ rfl) pc0))
        have hDc : va_D A ([(aa 4, .inr (1, [.ref (aa 5), .int (nI u16)])), (aa 5, .inl (T.1, 24, .inl u17))]) := by have h9 := hD.part (cx := [(aa 4, .inr (1, [.ref (aa 5), .int (nI u16)])), (aa 5, .inl (T.1, 24, .inl u17))]) [4, 5] (by decide) rfl; exact dl_l h9
        refine g_subv (X := cX T aa zw kp fp u1.1 u1.2.1 false false u16 u17 ks fs fc S) (pl := tl T S) (wr := [(aa 0, .inr (5, [.ref (aa 1), .ref S.1.1, .ref S.2.2.1.1, .int zw, .ref (aa 3), .ref (aa 4), .ref (aa 6), .ref (aa 8)])), (aa 1, .inr (1, [.ref (aa 2), .int (nI kp)])), (aa 2, .inl (T.1, 24, .inl fp)), (aa 3, .inr (2, [.int u1.1, .int u1.2.1, .int (b2i false), .int (b2i false)])), (aa 6, .inr (1, [.ref (aa 7), .int (nI ks)])), (aa 7, .inl (T.1, 24, .inl fs)), (aa 8, .inl (T.1, 9, .inl fc)), (S.1.1, .inr (0, [.ref S.1.2.1, .int (nI S.2.1.length), .int S.1.2.2.1])), (S.2.2.1.1, .inr (0, [.ref S.2.2.1.2.1, .int (nI S.2.2.2.length), .int S.2.2.1.2.2.1]))]) (cx := [(aa 4, .inr (1, [.ref (aa 5), .int (nI u16)])), (aa 5, .inl (T.1, 24, .inl u17))]) (va_runV (As := [.ref (κ.1 (282 + 2 * 2))]) (rest := []) ⟨hx, hb, hml, hown, hw⟩ (k_R_addText_n l D T κ (aa 4) (aa 5) u16 24 u17 H.size 2 (by have h9 : sL.getD 2 0 ≤ 7 := (by decide); omega) (by decide) (by decide)) (cwV 1 hw (bg_V ml_T_348 wi_R_addText wv_R_addText wz_R wc_R_addText) rfl rfl rfl (by decide +kernel) ⟨Nat.le_of_ble_eq_true rfl, Nat.le_of_ble_eq_true rfl⟩) ⟨qPf_b, va_recv hK hPc (ci := 1) (q0 := 0) rfl rfl, qPf_p hPc hK hDc hF hS (g_free hDc hS hA)⟩ rfl rfl hl.1 rfl (lv_room (Nat.le_of_ble_eq_true rfl)) d_T_tryCentury_58 ⟨Nat.le_of_ble_eq_true rfl, Nat.le_of_ble_eq_true rfl⟩) hP hD hS hA [4, 5] [0, 1, 2, 3, 6, 7, 8, 9, 10] rfl rfl (by decide) (by decide) (fun u9 H locs hr19 hP hD hS => ?_)
        obtain ⟨u20, u21⟩ := u9
        dsimp only at hr19 hP hD
        have hP : va_P D gC (cX T aa zw kp fp u1.1 u1.2.1 false false u20 u21 ks fs fc S ++ tl T S) H := hP.part (cx := cX T aa zw kp fp u1.1 u1.2.1 false false u20 u21 ks fs fc S) [0, 1, 2, 3, 9, 10, 4, 5, 6, 7, 8] rfl
        have hD : va_D A (cX T aa zw kp fp u1.1 u1.2.1 false false u20 u21 ks fs fc S ++ tl T S) := hD.part (cx := cX T aa zw kp fp u1.1 u1.2.1 false false u20 u21 ks fs fc S) [0, 1, 2, 3, 9, 10, 4, 5, 6, 7, 8] (by decide) rfl
        obtain ⟨hb1, hb2⟩ := hr19
        have hb3 : j_ls u21 u20 = c_bt q ++ j_ot (some 2) := by rw [hb1, ls_cp hb2, ha1, sx_ls 2 (by decide)]; rfl
        have hb4 : u20 ≤ 14 := by have h9 : sL.getD 2 0 ≤ 7 := (by decide); omega
        refine lv_iload_n hx hb d_T_tryCentury_61 rfl (lv_at hl 3 rfl) ?_
        refine lv_bipush (v := 10) hx hb d_T_tryCentury_62 (by decide) ?_
        refine lv_icmp_lt (tgt := 81) hx hb d_T_tryCentury_64 (by decide) (fun c22 => ?_) (fun c22 => ?_)
        · have c22 := nc_lt (a := cn) (b := 10) c22 (by omega) (by omega)
          refine lv_aload_n hx hb d_T_tryCentury_81 rfl (lv_at hl 1 rfl) ?_
          refine va_get (D := D) (ci := 5) (v := .ref (aa 4)) (C := "TimeWords") (T := F_T) (N := 8) hx hb hw in_T hown hK hP 0 rfl rfl 5 (by decide) (hw _ fl_T_41) (fun _ h9 => h9) rfl d_T_tryCentury_82 ?_
          refine lv_bipush (v := 48) hx hb d_T_tryCentury_85 (by decide) ?_
          refine lv_iload_n hx hb d_T_tryCentury_87 rfl (lv_at hl 3 rfl) ?_
          refine lv_bipush (v := 10) hx hb d_T_tryCentury_88 (by decide) ?_
          refine lv_irem hx hb d_T_tryCentury_90 (by decide) ?_
          refine lv_iadd hx hb d_T_tryCentury_91 ?_
          rw [ct_u hy2]
          have hPc : va_P D gC ([(aa 4, .inr (1, [.ref (aa 5), .int (nI u20)])), (aa 5, .inl (T.1, 24, .inl u21))]) H := (pc1 (hP 4 _ rfl) (pc1 (hP 5 _ rfl) pc0))
          have hDc : va_D A ([(aa 4, .inr (1, [.ref (aa 5), .int (nI u20)])), (aa 5, .inl (T.1, 24, .inl u21))]) := by have h9 := hD.part (cx := [(aa 4, .inr (1, [.ref (aa 5), .int (nI u20)])), (aa 5, .inl (T.1, 24, .inl u21))]) [4, 5] (by decide) rfl; exact dl_l h9
          refine g_subv (X := cX T aa zw kp fp u1.1 u1.2.1 false false u20 u21 ks fs fc S) (pl := tl T S) (wr := [(aa 0, .inr (5, [.ref (aa 1), .ref S.1.1, .ref S.2.2.1.1, .int zw, .ref (aa 3), .ref (aa 4), .ref (aa 6), .ref (aa 8)])), (aa 1, .inr (1, [.ref (aa 2), .int (nI kp)])), (aa 2, .inl (T.1, 24, .inl fp)), (aa 3, .inr (2, [.int u1.1, .int u1.2.1, .int (b2i false), .int (b2i false)])), (aa 6, .inr (1, [.ref (aa 7), .int (nI ks)])), (aa 7, .inl (T.1, 24, .inl fs)), (aa 8, .inl (T.1, 9, .inl fc)), (S.1.1, .inr (0, [.ref S.1.2.1, .int (nI S.2.1.length), .int S.1.2.2.1])), (S.2.2.1.1, .inr (0, [.ref S.2.2.1.2.1, .int (nI S.2.2.2.length), .int S.2.2.1.2.2.1]))]) (cx := [(aa 4, .inr (1, [.ref (aa 5), .int (nI u20)])), (aa 5, .inl (T.1, 24, .inl u21))]) (va_runV (As := [.int (nI (48 + cn % 10))]) (rest := []) ⟨hx, hb, hml, hown, hw⟩ (k_R_add l D T (aa 4) (aa 5) u20 24 u21 H.size (nI (48 + cn % 10)) (by omega) (by decide)) (cwV 1 hw (bg_V ml_T_70 wi_R_add wv_R_add wz_R wc_R_add) rfl rfl rfl (by decide +kernel) ⟨Nat.le_of_ble_eq_true rfl, Nat.le_of_ble_eq_true rfl⟩) ⟨qP_b, va_recv hK hPc (ci := 1) (q0 := 0) rfl rfl, qP_p hPc hK hDc⟩ rfl rfl hl.1 rfl (lv_room (Nat.le_of_ble_eq_true rfl)) d_T_tryCentury_92 ⟨Nat.le_of_ble_eq_true rfl, Nat.le_of_ble_eq_true rfl⟩) hP hD hS hA [4, 5] [0, 1, 2, 3, 6, 7, 8, 9, 10] rfl rfl (by decide) (by decide) (fun u9 H locs hr23 hP hD hS => ?_)
          obtain ⟨u24, u25⟩ := u9
          dsimp only at hr23 hP hD
          obtain ⟨q0, q1⟩ := hr23
          replace q0 := q0.symm; subst q0; replace q1 := q1.symm; subst q1
          have hP : va_P D gC (cX T aa zw kp fp u1.1 u1.2.1 false false (u20 + 1) (upd u21 u20 (nI (48 + cn % 10))) ks fs fc S ++ tl T S) H := hP.part (cx := cX T aa zw kp fp u1.1 u1.2.1 false false (u20 + 1) (upd u21 u20 (nI (48 + cn % 10))) ks fs fc S) [0, 1, 2, 3, 9, 10, 4, 5, 6, 7, 8] rfl
          have hD : va_D A (cX T aa zw kp fp u1.1 u1.2.1 false false (u20 + 1) (upd u21 u20 (nI (48 + cn % 10))) ks fs fc S ++ tl T S) := hD.part (cx := cX T aa zw kp fp u1.1 u1.2.1 false false (u20 + 1) (upd u21 u20 (nI (48 + cn % 10))) ks fs fc S) [0, 1, 2, 3, 9, 10, 4, 5, 6, 7, 8] (by decide) rfl
          refine lv_aload_n hx hb d_T_tryCentury_95 rfl (lv_at hl 1 rfl) ?_
          refine va_get (D := D) (ci := 5) (v := .ref (aa 4)) (C := "TimeWords") (T := F_T) (N := 8) hx hb hw in_T hown hK hP 0 rfl rfl 5 (by decide) (hw _ fl_T_41) (fun _ h9 => h9) rfl d_T_tryCentury_96 ?_
          refine lv_bipush (v := 99) hx hb d_T_tryCentury_99 (by decide) ?_
          have hPc : va_P D gC ([(aa 4, .inr (1, [.ref (aa 5), .int (nI (u20 + 1))])), (aa 5, .inl (T.1, 24, .inl (upd u21 u20 (nI (48 + cn % 10)))))]) H := (pc1 (hP 4 _ rfl) (pc1 (hP 5 _ rfl) pc0))
          have hDc : va_D A ([(aa 4, .inr (1, [.ref (aa 5), .int (nI (u20 + 1))])), (aa 5, .inl (T.1, 24, .inl (upd u21 u20 (nI (48 + cn % 10)))))]) := by have h9 := hD.part (cx := [(aa 4, .inr (1, [.ref (aa 5), .int (nI (u20 + 1))])), (aa 5, .inl (T.1, 24, .inl (upd u21 u20 (nI (48 + cn % 10)))))]) [4, 5] (by decide) rfl; exact dl_l h9
          refine g_subv (X := cX T aa zw kp fp u1.1 u1.2.1 false false (u20 + 1) (upd u21 u20 (nI (48 + cn % 10))) ks fs fc S) (pl := tl T S) (wr := [(aa 0, .inr (5, [.ref (aa 1), .ref S.1.1, .ref S.2.2.1.1, .int zw, .ref (aa 3), .ref (aa 4), .ref (aa 6), .ref (aa 8)])), (aa 1, .inr (1, [.ref (aa 2), .int (nI kp)])), (aa 2, .inl (T.1, 24, .inl fp)), (aa 3, .inr (2, [.int u1.1, .int u1.2.1, .int (b2i false), .int (b2i false)])), (aa 6, .inr (1, [.ref (aa 7), .int (nI ks)])), (aa 7, .inl (T.1, 24, .inl fs)), (aa 8, .inl (T.1, 9, .inl fc)), (S.1.1, .inr (0, [.ref S.1.2.1, .int (nI S.2.1.length), .int S.1.2.2.1])), (S.2.2.1.1, .inr (0, [.ref S.2.2.1.2.1, .int (nI S.2.2.2.length), .int S.2.2.1.2.2.1]))]) (cx := [(aa 4, .inr (1, [.ref (aa 5), .int (nI (u20 + 1))])), (aa 5, .inl (T.1, 24, .inl (upd u21 u20 (nI (48 + cn % 10)))))]) (va_runV (As := [.int 99]) (rest := []) ⟨hx, hb, hml, hown, hw⟩ (k_R_add l D T (aa 4) (aa 5) (u20 + 1) 24 (upd u21 u20 (nI (48 + cn % 10))) H.size 99 (by omega) (by decide)) (cwV 1 hw (bg_V ml_T_70 wi_R_add wv_R_add wz_R wc_R_add) rfl rfl rfl (by decide +kernel) ⟨Nat.le_of_ble_eq_true rfl, Nat.le_of_ble_eq_true rfl⟩) ⟨qP_b, va_recv hK hPc (ci := 1) (q0 := 0) rfl rfl, qP_p hPc hK hDc⟩ rfl rfl hl.1 rfl (lv_room (Nat.le_of_ble_eq_true rfl)) d_T_tryCentury_101 ⟨Nat.le_of_ble_eq_true rfl, Nat.le_of_ble_eq_true rfl⟩) hP hD hS hA [4, 5] [0, 1, 2, 3, 6, 7, 8, 9, 10] rfl rfl (by decide) (by decide) (fun u9 H locs hr26 hP hD hS => ?_)
          obtain ⟨u27, u28⟩ := u9
          dsimp only at hr26 hP hD
          obtain ⟨q0, q1⟩ := hr26
          replace q0 := q0.symm; subst q0; replace q1 := q1.symm; subst q1
          have hP : va_P D gC (cX T aa zw kp fp u1.1 u1.2.1 false false ((u20 + 1) + 1) (upd (upd u21 u20 (nI (48 + cn % 10))) (u20 + 1) 99) ks fs fc S ++ tl T S) H := hP.part (cx := cX T aa zw kp fp u1.1 u1.2.1 false false ((u20 + 1) + 1) (upd (upd u21 u20 (nI (48 + cn % 10))) (u20 + 1) 99) ks fs fc S) [0, 1, 2, 3, 9, 10, 4, 5, 6, 7, 8] rfl
          have hD : va_D A (cX T aa zw kp fp u1.1 u1.2.1 false false ((u20 + 1) + 1) (upd (upd u21 u20 (nI (48 + cn % 10))) (u20 + 1) 99) ks fs fc S ++ tl T S) := hD.part (cx := cX T aa zw kp fp u1.1 u1.2.1 false false ((u20 + 1) + 1) (upd (upd u21 u20 (nI (48 + cn % 10))) (u20 + 1) 99) ks fs fc S) [0, 1, 2, 3, 9, 10, 4, 5, 6, 7, 8] (by decide) rfl
          refine lv_aload_n hx hb d_T_tryCentury_104 rfl (lv_at hl 1 rfl) ?_
          refine g_callv (va_runV (As := []) (rest := []) ⟨hx, hb, hml, hown, hw⟩ (k_T_keepShorter l D T κ aa zw kp fp u1.1 u1.2.1 false false ((u20 + 1) + 1) (upd (upd u21 u20 (nI (48 + cn % 10))) (u20 + 1) 99) ks fs fc S H.size (by omega) hy3) (cwV 0 hw (bg_V ml_T_351 wi_T_keepShorter wv_T_keepShorter wz_T wc_T_keepShorter) rfl rfl rfl (by decide +kernel) ⟨Nat.le_of_ble_eq_true rfl, Nat.le_of_ble_eq_true rfl⟩) ⟨qPf_b, va_recv hK hP (ci := 5) (q0 := 0) rfl rfl, qPf_p hP hK hD hF hS (g_free hD hS hA)⟩ rfl rfl hl.1 rfl (lv_room (Nat.le_of_ble_eq_true rfl)) d_T_tryCentury_105 ⟨Nat.le_of_ble_eq_true rfl, Nat.le_of_ble_eq_true rfl⟩) hD hS hA (fun u9 H locs hr29 hP hD hS => ?_)
          obtain ⟨u30, u31⟩ := u9
          dsimp only at hr29 hP hD
          have hP : va_P D gC (cX T aa zw kp fp u1.1 u1.2.1 false false ((u20 + 1) + 1) (upd (upd u21 u20 (nI (48 + cn % 10))) (u20 + 1) 99) u30 u31 fc S ++ tl T S) H := hP
          have hD : va_D A (cX T aa zw kp fp u1.1 u1.2.1 false false ((u20 + 1) + 1) (upd (upd u21 u20 (nI (48 + cn % 10))) (u20 + 1) 99) u30 u31 fc S ++ tl T S) := hD
          exact W.vret hx hb hr (fun t ht hW => ⟨⟨(u1.1, u1.2.1, false, false, (u20 + 1) + 1, upd (upd u21 u20 (nI (48 + cn % 10))) (u20 + 1) 99, u30, u31), rfl, ⟨by rw [hr29.1, c_tc, hct, try_t, ls_put, ls_put, hb3, ct_1' (by omega)]; simp only [List.append_assoc, List.cons_append, List.nil_append], hr29.2⟩, by rw [ht]; exact hP, va_K.moved hW.alike hK, hD⟩, hS.F ht⟩) hS.2.2 d_T_tryCentury_108
        · have c22 := nc_nlt (a := cn) (b := 10) c22 (by omega) (by omega)
          refine lv_aload_n hx hb d_T_tryCentury_67 rfl (lv_at hl 1 rfl) ?_
          refine va_get (D := D) (ci := 5) (v := .ref (aa 4)) (C := "TimeWords") (T := F_T) (N := 8) hx hb hw in_T hown hK hP 0 rfl rfl 5 (by decide) (hw _ fl_T_41) (fun _ h9 => h9) rfl d_T_tryCentury_68 ?_
          refine lv_bipush (v := 48) hx hb d_T_tryCentury_71 (by decide) ?_
          refine lv_iload_n hx hb d_T_tryCentury_73 rfl (lv_at hl 3 rfl) ?_
          refine lv_bipush (v := 10) hx hb d_T_tryCentury_74 (by decide) ?_
          refine lv_idiv hx hb d_T_tryCentury_76 (by decide) ?_
          refine lv_iadd hx hb d_T_tryCentury_77 ?_
          rw [ct_t hy2]
          have hPc : va_P D gC ([(aa 4, .inr (1, [.ref (aa 5), .int (nI u20)])), (aa 5, .inl (T.1, 24, .inl u21))]) H := (pc1 (hP 4 _ rfl) (pc1 (hP 5 _ rfl) pc0))
          have hDc : va_D A ([(aa 4, .inr (1, [.ref (aa 5), .int (nI u20)])), (aa 5, .inl (T.1, 24, .inl u21))]) := by have h9 := hD.part (cx := [(aa 4, .inr (1, [.ref (aa 5), .int (nI u20)])), (aa 5, .inl (T.1, 24, .inl u21))]) [4, 5] (by decide) rfl; exact dl_l h9
          refine g_subv (X := cX T aa zw kp fp u1.1 u1.2.1 false false u20 u21 ks fs fc S) (pl := tl T S) (wr := [(aa 0, .inr (5, [.ref (aa 1), .ref S.1.1, .ref S.2.2.1.1, .int zw, .ref (aa 3), .ref (aa 4), .ref (aa 6), .ref (aa 8)])), (aa 1, .inr (1, [.ref (aa 2), .int (nI kp)])), (aa 2, .inl (T.1, 24, .inl fp)), (aa 3, .inr (2, [.int u1.1, .int u1.2.1, .int (b2i false), .int (b2i false)])), (aa 6, .inr (1, [.ref (aa 7), .int (nI ks)])), (aa 7, .inl (T.1, 24, .inl fs)), (aa 8, .inl (T.1, 9, .inl fc)), (S.1.1, .inr (0, [.ref S.1.2.1, .int (nI S.2.1.length), .int S.1.2.2.1])), (S.2.2.1.1, .inr (0, [.ref S.2.2.1.2.1, .int (nI S.2.2.2.length), .int S.2.2.1.2.2.1]))]) (cx := [(aa 4, .inr (1, [.ref (aa 5), .int (nI u20)])), (aa 5, .inl (T.1, 24, .inl u21))]) (va_runV (As := [.int (nI (48 + cn / 10))]) (rest := []) ⟨hx, hb, hml, hown, hw⟩ (k_R_add l D T (aa 4) (aa 5) u20 24 u21 H.size (nI (48 + cn / 10)) (by omega) (by decide)) (cwV 1 hw (bg_V ml_T_70 wi_R_add wv_R_add wz_R wc_R_add) rfl rfl rfl (by decide +kernel) ⟨Nat.le_of_ble_eq_true rfl, Nat.le_of_ble_eq_true rfl⟩) ⟨qP_b, va_recv hK hPc (ci := 1) (q0 := 0) rfl rfl, qP_p hPc hK hDc⟩ rfl rfl hl.1 rfl (lv_room (Nat.le_of_ble_eq_true rfl)) d_T_tryCentury_78 ⟨Nat.le_of_ble_eq_true rfl, Nat.le_of_ble_eq_true rfl⟩) hP hD hS hA [4, 5] [0, 1, 2, 3, 6, 7, 8, 9, 10] rfl rfl (by decide) (by decide) (fun u9 H locs hr32 hP hD hS => ?_)
          obtain ⟨u33, u34⟩ := u9
          dsimp only at hr32 hP hD
          obtain ⟨q0, q1⟩ := hr32
          replace q0 := q0.symm; subst q0; replace q1 := q1.symm; subst q1
          have hP : va_P D gC (cX T aa zw kp fp u1.1 u1.2.1 false false (u20 + 1) (upd u21 u20 (nI (48 + cn / 10))) ks fs fc S ++ tl T S) H := hP.part (cx := cX T aa zw kp fp u1.1 u1.2.1 false false (u20 + 1) (upd u21 u20 (nI (48 + cn / 10))) ks fs fc S) [0, 1, 2, 3, 9, 10, 4, 5, 6, 7, 8] rfl
          have hD : va_D A (cX T aa zw kp fp u1.1 u1.2.1 false false (u20 + 1) (upd u21 u20 (nI (48 + cn / 10))) ks fs fc S ++ tl T S) := hD.part (cx := cX T aa zw kp fp u1.1 u1.2.1 false false (u20 + 1) (upd u21 u20 (nI (48 + cn / 10))) ks fs fc S) [0, 1, 2, 3, 9, 10, 4, 5, 6, 7, 8] (by decide) rfl
          refine lv_aload_n hx hb d_T_tryCentury_81 rfl (lv_at hl 1 rfl) ?_
          refine va_get (D := D) (ci := 5) (v := .ref (aa 4)) (C := "TimeWords") (T := F_T) (N := 8) hx hb hw in_T hown hK hP 0 rfl rfl 5 (by decide) (hw _ fl_T_41) (fun _ h9 => h9) rfl d_T_tryCentury_82 ?_
          refine lv_bipush (v := 48) hx hb d_T_tryCentury_85 (by decide) ?_
          refine lv_iload_n hx hb d_T_tryCentury_87 rfl (lv_at hl 3 rfl) ?_
          refine lv_bipush (v := 10) hx hb d_T_tryCentury_88 (by decide) ?_
          refine lv_irem hx hb d_T_tryCentury_90 (by decide) ?_
          refine lv_iadd hx hb d_T_tryCentury_91 ?_
          rw [ct_u hy2]
          have hPc : va_P D gC ([(aa 4, .inr (1, [.ref (aa 5), .int (nI (u20 + 1))])), (aa 5, .inl (T.1, 24, .inl (upd u21 u20 (nI (48 + cn / 10)))))]) H := (pc1 (hP 4 _ rfl) (pc1 (hP 5 _ rfl) pc0))
          have hDc : va_D A ([(aa 4, .inr (1, [.ref (aa 5), .int (nI (u20 + 1))])), (aa 5, .inl (T.1, 24, .inl (upd u21 u20 (nI (48 + cn / 10)))))]) := by have h9 := hD.part (cx := [(aa 4, .inr (1, [.ref (aa 5), .int (nI (u20 + 1))])), (aa 5, .inl (T.1, 24, .inl (upd u21 u20 (nI (48 + cn / 10)))))]) [4, 5] (by decide) rfl; exact dl_l h9
          refine g_subv (X := cX T aa zw kp fp u1.1 u1.2.1 false false (u20 + 1) (upd u21 u20 (nI (48 + cn / 10))) ks fs fc S) (pl := tl T S) (wr := [(aa 0, .inr (5, [.ref (aa 1), .ref S.1.1, .ref S.2.2.1.1, .int zw, .ref (aa 3), .ref (aa 4), .ref (aa 6), .ref (aa 8)])), (aa 1, .inr (1, [.ref (aa 2), .int (nI kp)])), (aa 2, .inl (T.1, 24, .inl fp)), (aa 3, .inr (2, [.int u1.1, .int u1.2.1, .int (b2i false), .int (b2i false)])), (aa 6, .inr (1, [.ref (aa 7), .int (nI ks)])), (aa 7, .inl (T.1, 24, .inl fs)), (aa 8, .inl (T.1, 9, .inl fc)), (S.1.1, .inr (0, [.ref S.1.2.1, .int (nI S.2.1.length), .int S.1.2.2.1])), (S.2.2.1.1, .inr (0, [.ref S.2.2.1.2.1, .int (nI S.2.2.2.length), .int S.2.2.1.2.2.1]))]) (cx := [(aa 4, .inr (1, [.ref (aa 5), .int (nI (u20 + 1))])), (aa 5, .inl (T.1, 24, .inl (upd u21 u20 (nI (48 + cn / 10)))))]) (va_runV (As := [.int (nI (48 + cn % 10))]) (rest := []) ⟨hx, hb, hml, hown, hw⟩ (k_R_add l D T (aa 4) (aa 5) (u20 + 1) 24 (upd u21 u20 (nI (48 + cn / 10))) H.size (nI (48 + cn % 10)) (by omega) (by decide)) (cwV 1 hw (bg_V ml_T_70 wi_R_add wv_R_add wz_R wc_R_add) rfl rfl rfl (by decide +kernel) ⟨Nat.le_of_ble_eq_true rfl, Nat.le_of_ble_eq_true rfl⟩) ⟨qP_b, va_recv hK hPc (ci := 1) (q0 := 0) rfl rfl, qP_p hPc hK hDc⟩ rfl rfl hl.1 rfl (lv_room (Nat.le_of_ble_eq_true rfl)) d_T_tryCentury_92 ⟨Nat.le_of_ble_eq_true rfl, Nat.le_of_ble_eq_true rfl⟩) hP hD hS hA [4, 5] [0, 1, 2, 3, 6, 7, 8, 9, 10] rfl rfl (by decide) (by decide) (fun u9 H locs hr35 hP hD hS => ?_)
          obtain ⟨u36, u37⟩ := u9
          dsimp only at hr35 hP hD
          obtain ⟨q0, q1⟩ := hr35
          replace q0 := q0.symm; subst q0; replace q1 := q1.symm; subst q1
          have hP : va_P D gC (cX T aa zw kp fp u1.1 u1.2.1 false false ((u20 + 1) + 1) (upd (upd u21 u20 (nI (48 + cn / 10))) (u20 + 1) (nI (48 + cn % 10))) ks fs fc S ++ tl T S) H := hP.part (cx := cX T aa zw kp fp u1.1 u1.2.1 false false ((u20 + 1) + 1) (upd (upd u21 u20 (nI (48 + cn / 10))) (u20 + 1) (nI (48 + cn % 10))) ks fs fc S) [0, 1, 2, 3, 9, 10, 4, 5, 6, 7, 8] rfl
          have hD : va_D A (cX T aa zw kp fp u1.1 u1.2.1 false false ((u20 + 1) + 1) (upd (upd u21 u20 (nI (48 + cn / 10))) (u20 + 1) (nI (48 + cn % 10))) ks fs fc S ++ tl T S) := hD.part (cx := cX T aa zw kp fp u1.1 u1.2.1 false false ((u20 + 1) + 1) (upd (upd u21 u20 (nI (48 + cn / 10))) (u20 + 1) (nI (48 + cn % 10))) ks fs fc S) [0, 1, 2, 3, 9, 10, 4, 5, 6, 7, 8] (by decide) rfl
          refine lv_aload_n hx hb d_T_tryCentury_95 rfl (lv_at hl 1 rfl) ?_
          refine va_get (D := D) (ci := 5) (v := .ref (aa 4)) (C := "TimeWords") (T := F_T) (N := 8) hx hb hw in_T hown hK hP 0 rfl rfl 5 (by decide) (hw _ fl_T_41) (fun _ h9 => h9) rfl d_T_tryCentury_96 ?_
          refine lv_bipush (v := 99) hx hb d_T_tryCentury_99 (by decide) ?_
          have hPc : va_P D gC ([(aa 4, .inr (1, [.ref (aa 5), .int (nI ((u20 + 1) + 1))])), (aa 5, .inl (T.1, 24, .inl (upd (upd u21 u20 (nI (48 + cn / 10))) (u20 + 1) (nI (48 + cn % 10)))))]) H := (pc1 (hP 4 _ rfl) (pc1 (hP 5 _ rfl) pc0))
          have hDc : va_D A ([(aa 4, .inr (1, [.ref (aa 5), .int (nI ((u20 + 1) + 1))])), (aa 5, .inl (T.1, 24, .inl (upd (upd u21 u20 (nI (48 + cn / 10))) (u20 + 1) (nI (48 + cn % 10)))))]) := by have h9 := hD.part (cx := [(aa 4, .inr (1, [.ref (aa 5), .int (nI ((u20 + 1) + 1))])), (aa 5, .inl (T.1, 24, .inl (upd (upd u21 u20 (nI (48 + cn / 10))) (u20 + 1) (nI (48 + cn % 10)))))]) [4, 5] (by decide) rfl; exact dl_l h9
          refine g_subv (X := cX T aa zw kp fp u1.1 u1.2.1 false false ((u20 + 1) + 1) (upd (upd u21 u20 (nI (48 + cn / 10))) (u20 + 1) (nI (48 + cn % 10))) ks fs fc S) (pl := tl T S) (wr := [(aa 0, .inr (5, [.ref (aa 1), .ref S.1.1, .ref S.2.2.1.1, .int zw, .ref (aa 3), .ref (aa 4), .ref (aa 6), .ref (aa 8)])), (aa 1, .inr (1, [.ref (aa 2), .int (nI kp)])), (aa 2, .inl (T.1, 24, .inl fp)), (aa 3, .inr (2, [.int u1.1, .int u1.2.1, .int (b2i false), .int (b2i false)])), (aa 6, .inr (1, [.ref (aa 7), .int (nI ks)])), (aa 7, .inl (T.1, 24, .inl fs)), (aa 8, .inl (T.1, 9, .inl fc)), (S.1.1, .inr (0, [.ref S.1.2.1, .int (nI S.2.1.length), .int S.1.2.2.1])), (S.2.2.1.1, .inr (0, [.ref S.2.2.1.2.1, .int (nI S.2.2.2.length), .int S.2.2.1.2.2.1]))]) (cx := [(aa 4, .inr (1, [.ref (aa 5), .int (nI ((u20 + 1) + 1))])), (aa 5, .inl (T.1, 24, .inl (upd (upd u21 u20 (nI (48 + cn / 10))) (u20 + 1) (nI (48 + cn % 10)))))]) (va_runV (As := [.int 99]) (rest := []) ⟨hx, hb, hml, hown, hw⟩ (k_R_add l D T (aa 4) (aa 5) ((u20 + 1) + 1) 24 (upd (upd u21 u20 (nI (48 + cn / 10))) (u20 + 1) (nI (48 + cn % 10))) H.size 99 (by omega) (by decide)) (cwV 1 hw (bg_V ml_T_70 wi_R_add wv_R_add wz_R wc_R_add) rfl rfl rfl (by decide +kernel) ⟨Nat.le_of_ble_eq_true rfl, Nat.le_of_ble_eq_true rfl⟩) ⟨qP_b, va_recv hK hPc (ci := 1) (q0 := 0) rfl rfl, qP_p hPc hK hDc⟩ rfl rfl hl.1 rfl (lv_room (Nat.le_of_ble_eq_true rfl)) d_T_tryCentury_101 ⟨Nat.le_of_ble_eq_true rfl, Nat.le_of_ble_eq_true rfl⟩) hP hD hS hA [4, 5] [0, 1, 2, 3, 6, 7, 8, 9, 10] rfl rfl (by decide) (by decide) (fun u9 H locs hr38 hP hD hS => ?_)
          obtain ⟨u39, u40⟩ := u9
          dsimp only at hr38 hP hD
          obtain ⟨q0, q1⟩ := hr38
          replace q0 := q0.symm; subst q0; replace q1 := q1.symm; subst q1
          have hP : va_P D gC (cX T aa zw kp fp u1.1 u1.2.1 false false (((u20 + 1) + 1) + 1) (upd (upd (upd u21 u20 (nI (48 + cn / 10))) (u20 + 1) (nI (48 + cn % 10))) ((u20 + 1) + 1) 99) ks fs fc S ++ tl T S) H := hP.part (cx := cX T aa zw kp fp u1.1 u1.2.1 false false (((u20 + 1) + 1) + 1) (upd (upd (upd u21 u20 (nI (48 + cn / 10))) (u20 + 1) (nI (48 + cn % 10))) ((u20 + 1) + 1) 99) ks fs fc S) [0, 1, 2, 3, 9, 10, 4, 5, 6, 7, 8] rfl
          have hD : va_D A (cX T aa zw kp fp u1.1 u1.2.1 false false (((u20 + 1) + 1) + 1) (upd (upd (upd u21 u20 (nI (48 + cn / 10))) (u20 + 1) (nI (48 + cn % 10))) ((u20 + 1) + 1) 99) ks fs fc S ++ tl T S) := hD.part (cx := cX T aa zw kp fp u1.1 u1.2.1 false false (((u20 + 1) + 1) + 1) (upd (upd (upd u21 u20 (nI (48 + cn / 10))) (u20 + 1) (nI (48 + cn % 10))) ((u20 + 1) + 1) 99) ks fs fc S) [0, 1, 2, 3, 9, 10, 4, 5, 6, 7, 8] (by decide) rfl
          refine lv_aload_n hx hb d_T_tryCentury_104 rfl (lv_at hl 1 rfl) ?_
          refine g_callv (va_runV (As := []) (rest := []) ⟨hx, hb, hml, hown, hw⟩ (k_T_keepShorter l D T κ aa zw kp fp u1.1 u1.2.1 false false (((u20 + 1) + 1) + 1) (upd (upd (upd u21 u20 (nI (48 + cn / 10))) (u20 + 1) (nI (48 + cn % 10))) ((u20 + 1) + 1) 99) ks fs fc S H.size (by omega) hy3) (cwV 0 hw (bg_V ml_T_351 wi_T_keepShorter wv_T_keepShorter wz_T wc_T_keepShorter) rfl rfl rfl (by decide +kernel) ⟨Nat.le_of_ble_eq_true rfl, Nat.le_of_ble_eq_true rfl⟩) ⟨qPf_b, va_recv hK hP (ci := 5) (q0 := 0) rfl rfl, qPf_p hP hK hD hF hS (g_free hD hS hA)⟩ rfl rfl hl.1 rfl (lv_room (Nat.le_of_ble_eq_true rfl)) d_T_tryCentury_105 ⟨Nat.le_of_ble_eq_true rfl, Nat.le_of_ble_eq_true rfl⟩) hD hS hA (fun u9 H locs hr41 hP hD hS => ?_)
          obtain ⟨u42, u43⟩ := u9
          dsimp only at hr41 hP hD
          have hP : va_P D gC (cX T aa zw kp fp u1.1 u1.2.1 false false (((u20 + 1) + 1) + 1) (upd (upd (upd u21 u20 (nI (48 + cn / 10))) (u20 + 1) (nI (48 + cn % 10))) ((u20 + 1) + 1) 99) u42 u43 fc S ++ tl T S) H := hP
          have hD : va_D A (cX T aa zw kp fp u1.1 u1.2.1 false false (((u20 + 1) + 1) + 1) (upd (upd (upd u21 u20 (nI (48 + cn / 10))) (u20 + 1) (nI (48 + cn % 10))) ((u20 + 1) + 1) 99) u42 u43 fc S ++ tl T S) := hD
          exact W.vret hx hb hr (fun t ht hW => ⟨⟨(u1.1, u1.2.1, false, false, ((u20 + 1) + 1) + 1, upd (upd (upd u21 u20 (nI (48 + cn / 10))) (u20 + 1) (nI (48 + cn % 10))) ((u20 + 1) + 1) 99, u42, u43), rfl, ⟨by rw [hr41.1, c_tc, hct, try_t, ls_put, ls_put, ls_put, hb3, ct_2 (by omega)]; simp only [List.append_assoc, List.cons_append, List.nil_append], hr41.2⟩, by rw [ht]; exact hP, va_K.moved hW.alike hK, hD⟩, hS.F ht⟩) hS.2.2 d_T_tryCentury_108
      · have c14 := b2i_f c14
        exact W.vret hx hb hr (fun t ht hW => ⟨⟨(u1.1, u1.2.1, false, false, kt, ft, ks, fs), rfl, ⟨by rw [c_tc, hcs, c14, try_f], hy3⟩, by rw [ht]; exact hP, va_K.moved hW.alike hK, hD⟩, hS.F ht⟩) hS.2.2 d_T_tryCentury_44
    · subst k0
      have hcs := cs_n (q := q) k1
      refine lv_if_eq (tgt := 28) hx hb d_T_tryCentury_21 (by decide) (fun c44 => ?_) (fun c44 => absurd c44 (by decide))
      refine lv_iconst (v := 0) hx hb d_T_tryCentury_28 (by decide) ?_
      refine lv_istore (lv' := [(4, .int 0), (0, .ref (aa 0)), (1, .ref q.1), (2, .int (nI cn)), (3, .int 2)]) hx hb d_T_tryCentury_29 hl (by decide) rfl (fun ls hl => ?_)
      refine lv_iload hx hb d_T_tryCentury_31 (lv_at hl 0 rfl) ?_
      refine lv_if_eq (tgt := 44) hx hb d_T_tryCentury_33 (by decide) (fun c45 => ?_) (fun c45 => absurd c45 (by decide))
      exact W.vret hx hb hr (fun t ht hW => ⟨⟨(u9, u10, false, false, kt, ft, ks, fs), rfl, ⟨by rw [c_tc, hcs, try_f], hy3⟩, by rw [ht]; exact hP, va_K.moved hW.alike hK, hD⟩, hS.F ht⟩) hS.2.2 d_T_tryCentury_44
  · rw [in_199 hy1 hy2] at g1; cases g1
