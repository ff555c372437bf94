set_option maxHeartbeats 4000000 in
set_option maxRecDepth 100000 in
theorem k_T_keepFound (l : Launch) (D : va_G) (T : gT) (κ : gS) (aa : Nat → Nat) (zw : Int32) (kp : Nat) (fp : Nat → Int32) (e0 e1 : Int32) (oF oT : Bool) (kt : Nat) (ft : Nat → Int32) (ks : Nat) (fs fc : Nat → Int32) (S : tS) (sz : Nat) (hy0 : tOk κ S) (hy1 : S.2.2.2.length < 60) : Met l y_T_keepFound (Cond.code y_T_keepFound b_T_keepFound 2 (some .int) :: bg_W) ({ frames := 7, cells := 2, slots := 94, locals := 171 }) (qPf κ D T (cX T aa zw kp fp e0 e1 oF oT kt ft ks fs fc S ++ tl T S) [.ref (aa 0)] sz) (va_Qi (fun (r : Int32) (S1 : tS) => r = nI S.2.2.2.length ∧ spP κ S e0 e1 oF oT S1) (qB D T (va_A (cX T aa zw kp fp e0 e1 oF oT kt ft ks fs fc S ++ tl T S) sz) (fun S1 : tS => cX T aa zw kp fp e0 e1 oF oT kt ft ks fs fc S1 ++ tl T S1)) (va_A (cX T aa zw kp fp e0 e1 oF oT kt ft ks fs fc S ++ tl T S) sz)) 2 94 (va_A (cX T aa zw kp fp e0 e1 oF oT kt ft ks fs fc S ++ tl T S) sz) := by
  refine Met.ofW (cc := b_T_keepFound) (maxL := 2) (ret := (some .int)) (by decide) rfl ?_
  intro p e s m args below meth c s₁ B hml hv
  obtain ⟨rfl, hsz, hP, hK, hD0, hF⟩ := hv
  have hx := B.exec
  have hb := B.bytes
  have hr := B.returns
  have hw : ∀ w ∈ bg_W, w.before ([.ref (aa 0)] : List Value).toArray s = true := fun w h => atoms_spec (ws := (Cond.code y_T_keepFound b_T_keepFound 2 (some .int) :: bg_W)) B.pre w (List.mem_cons_of_mem _ h)
  have hown : s.vm.findClass "TimeWords" = some m.cls := findClass_of_methodNamed B.named
  have hlocks := B.notSynchronized
  subst hsz
  have hD := hD0.self (sz := s.heap.size)
  generalize hAe : va_A (cX T aa zw kp fp e0 e1 oF oT kt ft ks fs fc S ++ tl T S) s.heap.size = A at hD hF ⊢
  have hA : ∀ q : Nat, s.heap.size ≤ q → A q := fun q h => by rw [← hAe]; exact Or.inr h
  have hS : va_S A s.heap s.heap [] := va_S.rf
  have hl := lv_entry ([.ref (aa 0)]) (n := 2) (Nat.le_of_ble_eq_true rfl)
  rw [lg_entry_eq]
  generalize (lg_sl ([.ref (aa 0)]) ++ List.replicate (2 - (lg_sl ([.ref (aa 0)])).length) Slot.unset).toArray = ls at hl ⊢
  have hl : lv_has ls 2 [(0, .ref (aa 0))] := hl
  have hL1 : S.2.1.length ≤ 24 := hy0.2.2.2.1
  have hL2 : S.2.2.2.length ≤ 60 := hy0.2.2.2.2
  refine va_new (ci := 2) (fs := [.int 0, .int 0, .int 0, .int 0]) (C := "TimeWords$Years") (T := F_Y) (N := 4) hx hb hw in_Y ty_Y ty_Y_ok hown (hw _ kl_T_32) (hw _ wn_Y) (hw _ wz_Y) hK hP hD hS hA rfl (by decide +kernel) (Nat.le_of_ble_eq_true rfl) (Nat.le_of_ble_eq_true rfl) d_T_keepFound_0 (fun q1 H hP hD hS => ?_)
  replace hP := hP.perm nw_pm; replace hD := hD.perm nw_pm
  have hP : va_P D gC ([(aa 0, .inr (5, [.ref (aa 1), .ref S.1.1, .ref S.2.2.1.1, .int zw, .ref (aa 3), .ref (aa 4), .ref (aa 6), .ref (aa 8)])), (aa 1, .inr (1, [.ref (aa 2), .int (nI kp)])), (aa 2, .inl (T.1, 24, .inl fp)), (aa 3, .inr (2, [.int e0, .int e1, .int (b2i oF), .int (b2i oT)])), (aa 4, .inr (1, [.ref (aa 5), .int (nI kt)])), (aa 5, .inl (T.1, 24, .inl ft)), (aa 6, .inr (1, [.ref (aa 7), .int (nI ks)])), (aa 7, .inl (T.1, 24, .inl fs)), (aa 8, .inl (T.1, 9, .inl fc)), (S.1.1, .inr (0, [.ref S.1.2.1, .int (nI S.2.1.length), .int S.1.2.2.1])), (S.2.2.1.1, .inr (0, [.ref S.2.2.1.2.1, .int (nI S.2.2.2.length), .int S.2.2.1.2.2.1])), (q1, .inr (2, [.int 0, .int 0, .int 0, .int 0]))] ++ tl T S) H := hP
  have hD : va_D A ([(aa 0, .inr (5, [.ref (aa 1), .ref S.1.1, .ref S.2.2.1.1, .int zw, .ref (aa 3), .ref (aa 4), .ref (aa 6), .ref (aa 8)])), (aa 1, .inr (1, [.ref (aa 2), .int (nI kp)])), (aa 2, .inl (T.1, 24, .inl fp)), (aa 3, .inr (2, [.int e0, .int e1, .int (b2i oF), .int (b2i oT)])), (aa 4, .inr (1, [.ref (aa 5), .int (nI kt)])), (aa 5, .inl (T.1, 24, .inl ft)), (aa 6, .inr (1, [.ref (aa 7), .int (nI ks)])), (aa 7, .inl (T.1, 24, .inl fs)), (aa 8, .inl (T.1, 9, .inl fc)), (S.1.1, .inr (0, [.ref S.1.2.1, .int (nI S.2.1.length), .int S.1.2.2.1])), (S.2.2.1.1, .inr (0, [.ref S.2.2.1.2.1, .int (nI S.2.2.2.length), .int S.2.2.1.2.2.1])), (q1, .inr (2, [.int 0, .int 0, .int 0, .int 0]))] ++ tl T S) := hD
  refine W.widen (k := 1) (n := 4) (by omega) (by omega) ?_
  refine lv_dup hx hb d_T_keepFound_3 rfl ?_
  refine lv_iconst (v := 0) hx hb d_T_keepFound_4 (by decide) ?_
  refine lv_iconst (v := 0) hx hb d_T_keepFound_5 (by decide) ?_
  have hPc : va_P D gC ([(q1, .inr (2, [.int 0, .int 0, .int 0, .int 0]))]) H := (pc1 (hP 11 _ rfl) pc0)
  have hDc : va_D A ([(q1, .inr (2, [.int 0, .int 0, .int 0, .int 0]))]) := by have h9 := hD.part (cx := [(q1, .inr (2, [.int 0, .int 0, .int 0, .int 0]))]) [11] (by decide) rfl; exact dl_l h9
  refine g_subv (X := [(aa 0, .inr (5, [.ref (aa 1), .ref S.1.1, .ref S.2.2.1.1, .int zw, .ref (aa 3), .ref (aa 4), .ref (aa 6), .ref (aa 8)])), (aa 1, .inr (1, [.ref (aa 2), .int (nI kp)])), (aa 2, .inl (T.1, 24, .inl fp)), (aa 3, .inr (2, [.int e0, .int e1, .int (b2i oF), .int (b2i oT)])), (aa 4, .inr (1, [.ref (aa 5), .int (nI kt)])), (aa 5, .inl (T.1, 24, .inl ft)), (aa 6, .inr (1, [.ref (aa 7), .int (nI ks)])), (aa 7, .inl (T.1, 24, .inl fs)), (aa 8, .inl (T.1, 9, .inl fc)), (S.1.1, .inr (0, [.ref S.1.2.1, .int (nI S.2.1.length), .int S.1.2.2.1])), (S.2.2.1.1, .inr (0, [.ref S.2.2.1.2.1, .int (nI S.2.2.2.length), .int S.2.2.1.2.2.1])), (q1, .inr (2, [.int 0, .int 0, .int 0, .int 0]))]) (pl := tl T S) (wr := [(aa 0, .inr (5, [.ref (aa 1), .ref S.1.1, .ref S.2.2.1.1, .int zw, .ref (aa 3), .ref (aa 4), .ref (aa 6), .ref (aa 8)])), (aa 1, .inr (1, [.ref (aa 2), .int (nI kp)])), (aa 2, .inl (T.1, 24, .inl fp)), (aa 3, .inr (2, [.int e0, .int e1, .int (b2i oF), .int (b2i oT)])), (aa 4, .inr (1, [.ref (aa 5), .int (nI kt)])), (aa 5, .inl (T.1, 24, .inl ft)), (aa 6, .inr (1, [.ref (aa 7), .int (nI ks)])), (aa 7, .inl (T.1, 24, .inl fs)), (aa 8, .inl (T.1, 9, .inl fc)), (S.1.1, .inr (0, [.ref S.1.2.1, .int (nI S.2.1.length), .int S.1.2.2.1])), (S.2.2.1.1, .inr (0, [.ref S.2.2.1.2.1, .int (nI S.2.2.2.length), .int S.2.2.1.2.2.1]))]) (cx := [(q1, .inr (2, [.int 0, .int 0, .int 0, .int 0]))]) (va_runI (As := [.int 0, .int 0]) (rest := [.ref q1]) ⟨hx, hb, hml, hown, hw⟩ (k_Y_init l D T q1 0 0 0 0 H.size 0 0) (cwI 2 hw (bg_c wc_Y_init) rfl rfl rfl (hw _ wz_Y) (hw _ ml_T_34) (hw _ wi_Y_init) rfl (by decide +kernel) ⟨Nat.le_of_ble_eq_true rfl, Nat.le_of_ble_eq_true rfl⟩) ⟨qP_b, qP_p hPc hK hDc⟩ rfl rfl hl.1 rfl (lv_room (Nat.le_of_ble_eq_true rfl)) d_T_keepFound_6 ⟨Nat.le_of_ble_eq_true rfl, Nat.le_of_ble_eq_true rfl⟩) hP hD hS hA [11] [0, 1, 2, 3, 4, 5, 6, 7, 8, 9, 10] rfl rfl (by decide) (by decide) (fun u9 H locs hr2 hP hD hS => ?_)
  obtain ⟨u3, u4, u5, u6⟩ := u9
  dsimp only at hr2 hP hD
  obtain ⟨q0, q1, q2, q3⟩ := hr2
  replace q0 := q0.symm; subst q0; replace q1 := q1.symm; subst q1; replace q2 := q2.symm; subst q2; replace q3 := q3.symm; subst q3
  have hP : va_P D gC ([(aa 0, .inr (5, [.ref (aa 1), .ref S.1.1, .ref S.2.2.1.1, .int zw, .ref (aa 3), .ref (aa 4), .ref (aa 6), .ref (aa 8)])), (aa 1, .inr (1, [.ref (aa 2), .int (nI kp)])), (aa 2, .inl (T.1, 24, .inl fp)), (aa 3, .inr (2, [.int e0, .int e1, .int (b2i oF), .int (b2i oT)])), (aa 4, .inr (1, [.ref (aa 5), .int (nI kt)])), (aa 5, .inl (T.1, 24, .inl ft)), (aa 6, .inr (1, [.ref (aa 7), .int (nI ks)])), (aa 7, .inl (T.1, 24, .inl fs)), (aa 8, .inl (T.1, 9, .inl fc)), (S.1.1, .inr (0, [.ref S.1.2.1, .int (nI S.2.1.length), .int S.1.2.2.1])), (S.2.2.1.1, .inr (0, [.ref S.2.2.1.2.1, .int (nI S.2.2.2.length), .int S.2.2.1.2.2.1])), (q1, .inr (2, [.int 0, .int 0, .int 0, .int 0]))] ++ tl T S) H := hP.part (cx := [(aa 0, .inr (5, [.ref (aa 1), .ref S.1.1, .ref S.2.2.1.1, .int zw, .ref (aa 3), .ref (aa 4), .ref (aa 6), .ref (aa 8)])), (aa 1, .inr (1, [.ref (aa 2), .int (nI kp)])), (aa 2, .inl (T.1, 24, .inl fp)), (aa 3, .inr (2, [.int e0, .int e1, .int (b2i oF), .int (b2i oT)])), (aa 4, .inr (1, [.ref (aa 5), .int (nI kt)])), (aa 5, .inl (T.1, 24, .inl ft)), (aa 6, .inr (1, [.ref (aa 7), .int (nI ks)])), (aa 7, .inl (T.1, 24, .inl fs)), (aa 8, .inl (T.1, 9, .inl fc)), (S.1.1, .inr (0, [.ref S.1.2.1, .int (nI S.2.1.length), .int S.1.2.2.1])), (S.2.2.1.1, .inr (0, [.ref S.2.2.1.2.1, .int (nI S.2.2.2.length), .int S.2.2.1.2.2.1])), (q1, .inr (2, [.int 0, .int 0, .int 0, .int 0]))]) [0, 1, 2, 3, 4, 5, 6, 7, 8, 9, 10, 11] rfl
  have hD : va_D A ([(aa 0, .inr (5, [.ref (aa 1), .ref S.1.1, .ref S.2.2.1.1, .int zw, .ref (aa 3), .ref (aa 4), .ref (aa 6), .ref (aa 8)])), (aa 1, .inr (1, [.ref (aa 2), .int (nI kp)])), (aa 2, .inl (T.1, 24, .inl fp)), (aa 3, .inr (2, [.int e0, .int e1, .int (b2i oF), .int (b2i oT)])), (aa 4, .inr (1, [.ref (aa 5), .int (nI kt)])), (aa 5, .inl (T.1, 24, .inl ft)), (aa 6, .inr (1, [.ref (aa 7), .int (nI ks)])), (aa 7, .inl (T.1, 24, .inl fs)), (aa 8, .inl (T.1, 9, .inl fc)), (S.1.1, .inr (0, [.ref S.1.2.1, .int (nI S.2.1.length), .int S.1.2.2.1])), (S.2.2.1.1, .inr (0, [.ref S.2.2.1.2.1, .int (nI S.2.2.2.length), .int S.2.2.1.2.2.1])), (q1, .inr (2, [.int 0, .int 0, .int 0, .int 0]))] ++ tl T S) := hD.part (cx := [(aa 0, .inr (5, [.ref (aa 1), .ref S.1.1, .ref S.2.2.1.1, .int zw, .ref (aa 3), .ref (aa 4), .ref (aa 6), .ref (aa 8)])), (aa 1, .inr (1, [.ref (aa 2), .int (nI kp)])), (aa 2, .inl (T.1, 24, .inl fp)), (aa 3, .inr (2, [.int e0, .int e1, .int (b2i oF), .int (b2i oT)])), (aa 4, .inr (1, [.ref (aa 5), .int (nI kt)])), (aa 5, .inl (T.1, 24, .inl ft)), (aa 6, .inr (1, [.ref (aa 7), .int (nI ks)])), (aa 7, .inl (T.1, 24, .inl fs)), (aa 8, .inl (T.1, 9, .inl fc)), (S.1.1, .inr (0, [.ref S.1.2.1, .int (nI S.2.1.length), .int S.1.2.2.1])), (S.2.2.1.1, .inr (0, [.ref S.2.2.1.2.1, .int (nI S.2.2.2.length), .int S.2.2.1.2.2.1])), (q1, .inr (2, [.int 0, .int 0, .int 0, .int 0]))]) [0, 1, 2, 3, 4, 5, 6, 7, 8, 9, 10, 11] (by decide) rfl
  refine lv_astore_n (lv' := [(1, .ref q1), (0, .ref (aa 0))]) hx hb d_T_keepFound_9 rfl hl (by decide) rfl (fun ls hl => ?_)
  refine lv_aload_n hx hb d_T_keepFound_10 rfl (lv_at hl 0 rfl) ?_
  refine lv_aload_n hx hb d_T_keepFound_11 rfl (lv_at hl 1 rfl) ?_
  refine va_get (D := D) (ci := 5) (v := .ref (aa 3)) (C := "TimeWords") (T := F_T) (N := 8) hx hb hw in_T hown hK hP 0 rfl rfl 4 (by decide) (hw _ fl_T_37) (fun _ h9 => h9) rfl d_T_keepFound_12 ?_
  have hPc : va_P D gC ([(q1, .inr (2, [.int 0, .int 0, .int 0, .int 0])), (aa 3, .inr (2, [.int e0, .int e1, .int (b2i oF), .int (b2i oT)]))]) H := (pc1 (hP 11 _ rfl) (pc1 (hP 3 _ rfl) pc0))
  have hDc : va_D A ([(q1, .inr (2, [.int 0, .int 0, .int 0, .int 0])), (aa 3, .inr (2, [.int e0, .int e1, .int (b2i oF), .int (b2i oT)]))]) := by have h9 := hD.part (cx := [(q1, .inr (2, [.int 0, .int 0, .int 0, .int 0])), (aa 3, .inr (2, [.int e0, .int e1, .int (b2i oF), .int (b2i oT)]))]) [11, 3] (by decide) rfl; exact dl_l h9
  refine g_subv (X := [(aa 0, .inr (5, [.ref (aa 1), .ref S.1.1, .ref S.2.2.1.1, .int zw, .ref (aa 3), .ref (aa 4), .ref (aa 6), .ref (aa 8)])), (aa 1, .inr (1, [.ref (aa 2), .int (nI kp)])), (aa 2, .inl (T.1, 24, .inl fp)), (aa 3, .inr (2, [.int e0, .int e1, .int (b2i oF), .int (b2i oT)])), (aa 4, .inr (1, [.ref (aa 5), .int (nI kt)])), (aa 5, .inl (T.1, 24, .inl ft)), (aa 6, .inr (1, [.ref (aa 7), .int (nI ks)])), (aa 7, .inl (T.1, 24, .inl fs)), (aa 8, .inl (T.1, 9, .inl fc)), (S.1.1, .inr (0, [.ref S.1.2.1, .int (nI S.2.1.length), .int S.1.2.2.1])), (S.2.2.1.1, .inr (0, [.ref S.2.2.1.2.1, .int (nI S.2.2.2.length), .int S.2.2.1.2.2.1])), (q1, .inr (2, [.int 0, .int 0, .int 0, .int 0]))]) (pl := tl T S) (wr := [(aa 0, .inr (5, [.ref (aa 1), .ref S.1.1, .ref S.2.2.1.1, .int zw, .ref (aa 3), .ref (aa 4), .ref (aa 6), .ref (aa 8)])), (aa 1, .inr (1, [.ref (aa 2), .int (nI kp)])), (aa 2, .inl (T.1, 24, .inl fp)), (aa 4, .inr (1, [.ref (aa 5), .int (nI kt)])), (aa 5, .inl (T.1, 24, .inl ft)), (aa 6, .inr (1, [.ref (aa 7), .int (nI ks)])), (aa 7, .inl (T.1, 24, .inl fs)), (aa 8, .inl (T.1, 9, .inl fc)), (S.1.1, .inr (0, [.ref S.1.2.1, .int (nI S.2.1.length), .int S.1.2.2.1])), (S.2.2.1.1, .inr (0, [.ref S.2.2.1.2.1, .int (nI S.2.2.2.length), .int S.2.2.1.2.2.1]))]) (cx := [(q1, .inr (2, [.int 0, .int 0, .int 0, .int 0])), (aa 3, .inr (2, [.int e0, .int e1, .int (b2i oF), .int (b2i oT)]))]) (va_runV (As := [.ref (aa 3)]) (rest := []) ⟨hx, hb, hml, hown, hw⟩ (k_Y_copyOf l D T q1 0 0 false false (aa 3) e0 e1 oF oT H.size) (cwV 1 hw (bg_V ml_T_159 wi_Y_copyOf wv_Y_copyOf wz_Y wc_Y_copyOf) rfl rfl rfl (by decide +kernel) ⟨Nat.le_of_ble_eq_true rfl, Nat.le_of_ble_eq_true rfl⟩) ⟨qP_b, va_recv hK hPc (ci := 2) (q0 := 0) rfl rfl, qP_p hPc hK hDc⟩ rfl rfl hl.1 rfl (lv_room (Nat.le_of_ble_eq_true rfl)) d_T_keepFound_15 ⟨Nat.le_of_ble_eq_true rfl, Nat.le_of_ble_eq_true rfl⟩) hP hD hS hA [11, 3] [0, 1, 2, 4, 5, 6, 7, 8, 9, 10] rfl rfl (by decide) (by decide) (fun u9 H locs hr7 hP hD hS => ?_)
  obtain ⟨u8, u9, u10, u11⟩ := u9
  dsimp only at hr7 hP hD
  obtain ⟨q0, q1, q2, q3⟩ := hr7
  replace q0 := q0.symm; subst q0; replace q1 := q1.symm; subst q1; replace q2 := q2.symm; subst q2; replace q3 := q3.symm; subst q3
  have hP : va_P D gC ([(aa 0, .inr (5, [.ref (aa 1), .ref S.1.1, .ref S.2.2.1.1, .int zw, .ref (aa 3), .ref (aa 4), .ref (aa 6), .ref (aa 8)])), (aa 1, .inr (1, [.ref (aa 2), .int (nI kp)])), (aa 2, .inl (T.1, 24, .inl fp)), (aa 3, .inr (2, [.int e0, .int e1, .int (b2i oF), .int (b2i oT)])), (aa 4, .inr (1, [.ref (aa 5), .int (nI kt)])), (aa 5, .inl (T.1, 24, .inl ft)), (aa 6, .inr (1, [.ref (aa 7), .int (nI ks)])), (aa 7, .inl (T.1, 24, .inl fs)), (aa 8, .inl (T.1, 9, .inl fc)), (S.1.1, .inr (0, [.ref S.1.2.1, .int (nI S.2.1.length), .int S.1.2.2.1])), (S.2.2.1.1, .inr (0, [.ref S.2.2.1.2.1, .int (nI S.2.2.2.length), .int S.2.2.1.2.2.1])), (q1, .inr (2, [.int e0, .int e1, .int (b2i oF), .int (b2i oT)]))] ++ tl T S) H := hP.part (cx := [(aa 0, .inr (5, [.ref (aa 1), .ref S.1.1, .ref S.2.2.1.1, .int zw, .ref (aa 3), .ref (aa 4), .ref (aa 6), .ref (aa 8)])), (aa 1, .inr (1, [.ref (aa 2), .int (nI kp)])), (aa 2, .inl (T.1, 24, .inl fp)), (aa 3, .inr (2, [.int e0, .int e1, .int (b2i oF), .int (b2i oT)])), (aa 4, .inr (1, [.ref (aa 5), .int (nI kt)])), (aa 5, .inl (T.1, 24, .inl ft)), (aa 6, .inr (1, [.ref (aa 7), .int (nI ks)])), (aa 7, .inl (T.1, 24, .inl fs)), (aa 8, .inl (T.1, 9, .inl fc)), (S.1.1, .inr (0, [.ref S.1.2.1, .int (nI S.2.1.length), .int S.1.2.2.1])), (S.2.2.1.1, .inr (0, [.ref S.2.2.1.2.1, .int (nI S.2.2.2.length), .int S.2.2.1.2.2.1])), (q1, .inr (2, [.int e0, .int e1, .int (b2i oF), .int (b2i oT)]))]) [0, 1, 2, 11, 3, 4, 5, 6, 7, 8, 9, 10] rfl
  have hD : va_D A ([(aa 0, .inr (5, [.ref (aa 1), .ref S.1.1, .ref S.2.2.1.1, .int zw, .ref (aa 3), .ref (aa 4), .ref (aa 6), .ref (aa 8)])), (aa 1, .inr (1, [.ref (aa 2), .int (nI kp)])), (aa 2, .inl (T.1, 24, .inl fp)), (aa 3, .inr (2, [.int e0, .int e1, .int (b2i oF), .int (b2i oT)])), (aa 4, .inr (1, [.ref (aa 5), .int (nI kt)])), (aa 5, .inl (T.1, 24, .inl ft)), (aa 6, .inr (1, [.ref (aa 7), .int (nI ks)])), (aa 7, .inl (T.1, 24, .inl fs)), (aa 8, .inl (T.1, 9, .inl fc)), (S.1.1, .inr (0, [.ref S.1.2.1, .int (nI S.2.1.length), .int S.1.2.2.1])), (S.2.2.1.1, .inr (0, [.ref S.2.2.1.2.1, .int (nI S.2.2.2.length), .int S.2.2.1.2.2.1])), (q1, .inr (2, [.int e0, .int e1, .int (b2i oF), .int (b2i oT)]))] ++ tl T S) := hD.part (cx := [(aa 0, .inr (5, [.ref (aa 1), .ref S.1.1, .ref S.2.2.1.1, .int zw, .ref (aa 3), .ref (aa 4), .ref (aa 6), .ref (aa 8)])), (aa 1, .inr (1, [.ref (aa 2), .int (nI kp)])), (aa 2, .inl (T.1, 24, .inl fp)), (aa 3, .inr (2, [.int e0, .int e1, .int (b2i oF), .int (b2i oT)])), (aa 4, .inr (1, [.ref (aa 5), .int (nI kt)])), (aa 5, .inl (T.1, 24, .inl ft)), (aa 6, .inr (1, [.ref (aa 7), .int (nI ks)])), (aa 7, .inl (T.1, 24, .inl fs)), (aa 8, .inl (T.1, 9, .inl fc)), (S.1.1, .inr (0, [.ref S.1.2.1, .int (nI S.2.1.length), .int S.1.2.2.1])), (S.2.2.1.1, .inr (0, [.ref S.2.2.1.2.1, .int (nI S.2.2.2.length), .int S.2.2.1.2.2.1])), (q1, .inr (2, [.int e0, .int e1, .int (b2i oF), .int (b2i oT)]))]) [0, 1, 2, 11, 3, 4, 5, 6, 7, 8, 9, 10] (by decide) rfl
  refine lv_aload_n hx hb d_T_keepFound_18 rfl (lv_at hl 1 rfl) ?_
  refine va_get (D := D) (ci := 5) (v := .ref S.2.2.1.1) (C := "TimeWords") (T := F_T) (N := 8) hx hb hw in_T hown hK hP 0 rfl rfl 2 (by decide) (hw _ fl_T_25) (fun _ h9 => h9) rfl d_T_keepFound_19 ?_
  refine lv_aload_n hx hb d_T_keepFound_22 rfl (lv_at hl 0 rfl) ?_
  have hPa : va_P D gC (liO S.2.2.1 (S.2.2.2.map (fun q => q.1)).length :: (liB T S.2.2.1 (S.2.2.2.map (fun q => q.1)).length ++ ((c10 T aa zw kp fp e0 e1 oF oT kt ft ks fs fc S ++ [spW (q1, e0, e1, oF, oT)]) ++ (liB T S.1 S.2.1.length ++ (S.2.1.flatMap (nmW T) ++ S.2.2.2.map spW))))) H := hP.perm (sp_go (q := (q1, e0, e1, oF, oT)))
  have hDa : va_D A (liO S.2.2.1 (S.2.2.2.map (fun q => q.1)).length :: (liB T S.2.2.1 (S.2.2.2.map (fun q => q.1)).length ++ ((c10 T aa zw kp fp e0 e1 oF oT kt ft ks fs fc S ++ [spW (q1, e0, e1, oF, oT)]) ++ (liB T S.1 S.2.1.length ++ (S.2.1.flatMap (nmW T) ++ S.2.2.2.map spW))))) := hD.perm (sp_go (q := (q1, e0, e1, oF, oT)))
  refine g_calli (va_runV (As := [.ref q1]) (rest := []) ⟨hx, hb, hml, hown, hw⟩ (k_A_add_0 l D T κ S.2.2.1 ((c10 T aa zw kp fp e0 e1 oF oT kt ft ks fs fc S ++ [spW (q1, e0, e1, oF, oT)]) ++ (liB T S.1 S.2.1.length ++ (S.2.1.flatMap (nmW T) ++ S.2.2.2.map spW))) H.size (S.2.2.2.map (fun q => q.1)) q1 hy0.2.2.1 (by rw [List.length_map]; omega) (ob_y (List.mem_append_left _ (List.mem_append_right _ (List.mem_singleton.mpr rfl)))) (ob_sp (fun q9 h9 => List.mem_append_right _ (List.mem_append_right _ (List.mem_append_right _ h9))))) (cwV 1 hw (bg_V ml_T_97 wi_A_add_0 wv_A_add_0 wz_A wc_A_add_0) rfl rfl rfl (by decide +kernel) ⟨Nat.le_of_ble_eq_true rfl, Nat.le_of_ble_eq_true rfl⟩) ⟨qPf_b, va_recv hK hPa (ci := 0) (q0 := 0) rfl rfl, qPf_p hPa hK hDa hF hS (g_free hDa hS hA)⟩ rfl rfl hl.1 rfl (lv_room (Nat.le_of_ble_eq_true rfl)) d_T_keepFound_23 ⟨Nat.le_of_ble_eq_true rfl, Nat.le_of_ble_eq_true rfl⟩) hDa hS hA (fun ra9 d1 H locs hra hP hD hS => ?_)
  obtain ⟨hr0, hr1, hr2⟩ := hra; subst hr0
  replace hP := hP.perm (sp_back (q := (q1, e0, e1, oF, oT)) hr2); replace hD := hD.perm (sp_back (q := (q1, e0, e1, oF, oT)) hr2)
  obtain ⟨S9, hS9⟩ : ∃ z : tS, z = (S.1, S.2.1, d1, S.2.2.2 ++ [(q1, e0, e1, oF, oT)]) := ⟨_, rfl⟩
  rw [← hS9] at hP hD
  have hP : va_P D gC (cX T aa zw kp fp e0 e1 oF oT kt ft ks fs fc S9 ++ tl T S9) H := hP
  have hD : va_D A (cX T aa zw kp fp e0 e1 oF oT kt ft ks fs fc S9 ++ tl T S9) := hD
  refine lv_pop hx hb d_T_keepFound_26 rfl ?_
  refine lv_aload_n hx hb d_T_keepFound_27 rfl (lv_at hl 1 rfl) ?_
  refine va_get (D := D) (ci := 5) (v := .ref S9.2.2.1.1) (C := "TimeWords") (T := F_T) (N := 8) hx hb hw in_T hown hK hP 0 rfl rfl 2 (by decide) (hw _ fl_T_25) (fun _ h9 => h9) rfl d_T_keepFound_28 ?_
  have hPc : va_P D gC ([(S9.2.2.1.1, .inr (0, [.ref S9.2.2.1.2.1, .int (nI S9.2.2.2.length), .int S9.2.2.1.2.2.1]))]) H := (pc1 (hP 10 _ rfl) pc0)
  refine vp_callSi (va_Run.run (va_runV (As := []) (rest := []) ⟨hx, hb, hml, hown, hw⟩ (k_A_size l D T S9.2.2.1.1 S9.2.2.1.2.1 S9.2.2.2.length S9.2.2.1.2.2.1) (cwV 0 hw (bg_V ml_T_86 wi_A_size wv_A_size wz_A wc_A_size) rfl rfl rfl (by decide +kernel) ⟨Nat.le_of_ble_eq_true rfl, Nat.le_of_ble_eq_true rfl⟩) ⟨sP_b, va_recv hK hPc (ci := 0) (q0 := 0) rfl rfl, sP_p hPc hK⟩ rfl rfl hl.1 rfl (lv_room (Nat.le_of_ble_eq_true rfl)) d_T_keepFound_31 ⟨Nat.le_of_ble_eq_true rfl, Nat.le_of_ble_eq_true rfl⟩)) (fun r12 hr12 => ?_)
  replace hr12 := hr12.symm; subst hr12
  refine lv_iconst (v := 1) hx hb d_T_keepFound_34 (by decide) ?_
  refine lv_isub hx hb d_T_keepFound_35 ?_
  exact W.iret (v := (nI S9.2.2.2.length) - 1) hx hb hr (fun t ht hW => ⟨⟨(nI S9.2.2.2.length) - 1, S9, rfl, ⟨by rw [hS9]; show nI (S.2.2.2 ++ [_]).length - 1 = _; rw [List.length_append]; exact nI_pred _, by rw [hS9]; exact sp_ok hy0 hy1 hr1, q1, d1, hS9⟩, by rw [ht]; exact hP, va_K.moved hW.alike hK, hD⟩, hS.F ht⟩) hS.2.2 d_T_keepFound_36

set_option maxHeartbeats 4000000 in
set_option maxRecDepth 100000 in
theorem k_T_span (l : Launch) (D : va_G) (T : gT) (κ : gS) (aa : Nat → Nat) (zw : Int32) (kp : Nat) (fp : Nat → Int32) (e0 e1 : Int32) (oF oT : Bool) (kt : Nat) (ft : Nat → Int32) (ks : Nat) (fs fc : Nat → Int32) (S : tS) (sz : Nat) (x y : Int32) (hy0 : tOk κ S) (hy1 : j_yy x y = true) (hy2 : S.2.2.2.length < 60) : Met l y_T_span (Cond.code y_T_span b_T_span 3 (some .int) :: bg_W) ({ frames := 8, cells := 2, slots := 94, locals := 192 }) (qPf κ D T (cX T aa zw kp fp e0 e1 oF oT kt ft ks fs fc S ++ tl T S) [.ref (aa 0), .int x, .int y] sz) (va_Qi (fun (r : Int32) (u : Int32 × Int32 × Bool × Bool × tS) => match u with | (w0, w1, v2, v3, S1) => r = nI S.2.2.2.length ∧ spP κ S x y false false S1) (qB D T (va_A (cX T aa zw kp fp e0 e1 oF oT kt ft ks fs fc S ++ tl T S) sz) (fun u : Int32 × Int32 × Bool × Bool × tS => match u with | (w0, w1, v2, v3, S1) => cX T aa zw kp fp w0 w1 v2 v3 kt ft ks fs fc S1 ++ tl T S1)) (va_A (cX T aa zw kp fp e0 e1 oF oT kt ft ks fs fc S ++ tl T S) sz)) 2 94 (va_A (cX T aa zw kp fp e0 e1 oF oT kt ft ks fs fc S ++ tl T S) sz) := by
  refine Met.ofW (cc := b_T_span) (maxL := 3) (ret := (some .int)) (by decide) rfl ?_
  intro p e s m args below meth c s₁ B hml hv
  obtain ⟨rfl, hsz, hP, hK, hD0, hF⟩ := hv
  have hx := B.exec
  have hb := B.bytes
  have hr := B.returns
  have hw : ∀ w ∈ bg_W, w.before ([.ref (aa 0), .int x, .int y] : List Value).toArray s = true := fun w h => atoms_spec (ws := (Cond.code y_T_span b_T_span 3 (some .int) :: bg_W)) B.pre w (List.mem_cons_of_mem _ h)
  have hown : s.vm.findClass "TimeWords" = some m.cls := findClass_of_methodNamed B.named
  have hlocks := B.notSynchronized
  subst hsz
  have hD := hD0.self (sz := s.heap.size)
  generalize hAe : va_A (cX T aa zw kp fp e0 e1 oF oT kt ft ks fs fc S ++ tl T S) s.heap.size = A at hD hF ⊢
  have hA : ∀ q : Nat, s.heap.size ≤ q → A q := fun q h => by rw [← hAe]; exact Or.inr h
  have hS : va_S A s.heap s.heap [] := va_S.rf
  have hl := lv_entry ([.ref (aa 0), .int x, .int y]) (n := 3) (Nat.le_of_ble_eq_true rfl)
  rw [lg_entry_eq]
  generalize (lg_sl ([.ref (aa 0), .int x, .int y]) ++ List.replicate (3 - (lg_sl ([.ref (aa 0), .int x, .int y])).length) Slot.unset).toArray = ls at hl ⊢
  have hl : lv_has ls 3 [(0, .ref (aa 0)), (1, .int x), (2, .int y)] := hl
  refine lv_iload_n hx hb d_T_span_0 rfl (lv_at hl 1 rfl) ?_
  refine lv_iload_n hx hb d_T_span_1 rfl (lv_at hl 2 rfl) ?_
  refine va_csv (va_Run.run (va_runS (As := [.int x, .int y]) (rest := []) ⟨hx, hb, hml, hown, hw⟩ (k_T_checkYears l x y hy1) (va_cwS 2 hw (bg_S ml_T_104 wt_T_checkYears wz_T wc_T_checkYears) rfl rfl rfl (by decide +kernel) ⟨Nat.le_of_ble_eq_true rfl, Nat.le_of_ble_eq_true rfl⟩) ⟨nP_b, nP_p⟩ rfl rfl hl.1 rfl (lv_room (Nat.le_of_ble_eq_true rfl)) d_T_span_2 ⟨Nat.le_of_ble_eq_true rfl, Nat.le_of_ble_eq_true rfl⟩)) (fun hr1 => ?_)
  refine lv_aload_n hx hb d_T_span_5 rfl (lv_at hl 0 rfl) ?_
  refine va_csv (va_Run.run (va_runV (As := []) (rest := []) ⟨hx, hb, hml, hown, hw⟩ (k_T_checkRoomForSpan l D T κ A aa zw kp fp e0 e1 oF oT kt ft ks fs fc S hy2) (cwV 0 hw (bg_V ml_T_128 wi_T_checkRoomForSpan wv_T_checkRoomForSpan wz_T wc_T_checkRoomForSpan) rfl rfl rfl (by decide +kernel) ⟨Nat.le_of_ble_eq_true rfl, Nat.le_of_ble_eq_true rfl⟩) ⟨sPf_b, va_recv hK hP (ci := 5) (q0 := 0) rfl rfl, sPf_p hP hK hF hS⟩ rfl rfl hl.1 rfl (lv_room (Nat.le_of_ble_eq_true rfl)) d_T_span_6 ⟨Nat.le_of_ble_eq_true rfl, Nat.le_of_ble_eq_true rfl⟩)) (fun hr2 => ?_)
  refine lv_aload_n hx hb d_T_span_9 rfl (lv_at hl 0 rfl) ?_
  refine va_get (D := D) (ci := 5) (v := .ref (aa 3)) (C := "TimeWords") (T := F_T) (N := 8) hx hb hw in_T hown hK hP 0 rfl rfl 4 (by decide) (hw _ fl_T_37) (fun _ h9 => h9) rfl d_T_span_10 ?_
  refine lv_iload_n hx hb d_T_span_13 rfl (lv_at hl 1 rfl) ?_
  refine lv_iload_n hx hb d_T_span_14 rfl (lv_at hl 2 rfl) ?_
  have hPc : va_P D gC ([(aa 3, .inr (2, [.int e0, .int e1, .int (b2i oF), .int (b2i oT)]))]) s.heap := (pc1 (hP 3 _ rfl) pc0)
  have hDc : va_D A ([(aa 3, .inr (2, [.int e0, .int e1, .int (b2i oF), .int (b2i oT)]))]) := by have h9 := hD.part (cx := [(aa 3, .inr (2, [.int e0, .int e1, .int (b2i oF), .int (b2i oT)]))]) [3] (by decide) rfl; exact dl_l h9
  refine g_subv (X := cX T aa zw kp fp e0 e1 oF oT kt ft ks fs fc S) (pl := tl T S) (wr := [(aa 0, .inr (5, [.ref (aa 1), .ref S.1.1, .ref S.2.2.1.1, .int zw, .ref (aa 3), .ref (aa 4), .ref (aa 6), .ref (aa 8)])), (aa 1, .inr (1, [.ref (aa 2), .int (nI kp)])), (aa 2, .inl (T.1, 24, .inl fp)), (aa 4, .inr (1, [.ref (aa 5), .int (nI kt)])), (aa 5, .inl (T.1, 24, .inl ft)), (aa 6, .inr (1, [.ref (aa 7), .int (nI ks)])), (aa 7, .inl (T.1, 24, .inl fs)), (aa 8, .inl (T.1, 9, .inl fc)), (S.1.1, .inr (0, [.ref S.1.2.1, .int (nI S.2.1.length), .int S.1.2.2.1])), (S.2.2.1.1, .inr (0, [.ref S.2.2.1.2.1, .int (nI S.2.2.2.length), .int S.2.2.1.2.2.1]))]) (cx := [(aa 3, .inr (2, [.int e0, .int e1, .int (b2i oF), .int (b2i oT)]))]) (va_runV (As := [.int x, .int y]) (rest := []) ⟨hx, hb, hml, hown, hw⟩ (k_Y_become l D T (aa 3) e0 e1 (b2i oF) (b2i oT) s.heap.size x y) (cwV 2 hw (bg_V ml_T_138 wi_Y_become wv_Y_become wz_Y wc_Y_become) rfl rfl rfl (by decide +kernel) ⟨Nat.le_of_ble_eq_true rfl, Nat.le_of_ble_eq_true rfl⟩) ⟨qP_b, va_recv hK hPc (ci := 2) (q0 := 0) rfl rfl, qP_p hPc hK hDc⟩ rfl rfl hl.1 rfl (lv_room (Nat.le_of_ble_eq_true rfl)) d_T_span_15 ⟨Nat.le_of_ble_eq_true rfl, Nat.le_of_ble_eq_true rfl⟩) hP hD hS hA [3] [0, 1, 2, 4, 5, 6, 7, 8, 9, 10] rfl rfl (by decide) (by decide) (fun u9 H locs hr3 hP hD hS => ?_)
  obtain ⟨u4, u5, u6, u7⟩ := u9
  dsimp only at hr3 hP hD
  obtain ⟨q0, q1, q2, q3⟩ := hr3
  replace q0 := q0.symm; subst q0; replace q1 := q1.symm; subst q1; replace q2 := q2.symm; subst q2; replace q3 := q3.symm; subst q3
  have hP : va_P D gC (cX T aa zw kp fp x y false false kt ft ks fs fc S ++ tl T S) H := hP.part (cx := cX T aa zw kp fp x y false false kt ft ks fs fc S) [0, 1, 2, 10, 3, 4, 5, 6, 7, 8, 9] rfl
  have hD : va_D A (cX T aa zw kp fp x y false false kt ft ks fs fc S ++ tl T S) := hD.part (cx := cX T aa zw kp fp x y false false kt ft ks fs fc S) [0, 1, 2, 10, 3, 4, 5, 6, 7, 8, 9] (by decide) rfl
  refine lv_aload_n hx hb d_T_span_18 rfl (lv_at hl 0 rfl) ?_
  refine g_calli (va_runV (As := []) (rest := []) ⟨hx, hb, hml, hown, hw⟩ (k_T_keepFound l D T κ aa zw kp fp x y false false kt ft ks fs fc S H.size hy0 hy2) (cwV 0 hw (bg_V ml_T_135 wi_T_keepFound wv_T_keepFound wz_T wc_T_keepFound) rfl rfl rfl (by decide +kernel) ⟨Nat.le_of_ble_eq_true rfl, Nat.le_of_ble_eq_true rfl⟩) ⟨qPf_b, va_recv hK hP (ci := 5) (q0 := 0) rfl rfl, qPf_p hP hK hD hF hS (g_free hD hS hA)⟩ rfl rfl hl.1 rfl (lv_room (Nat.le_of_ble_eq_true rfl)) d_T_span_19 ⟨Nat.le_of_ble_eq_true rfl, Nat.le_of_ble_eq_true rfl⟩) hD hS hA (fun r8 u9 H locs hr8 hP hD hS => ?_)
  have hP : va_P D gC (cX T aa zw kp fp x y false false kt ft ks fs fc u9 ++ tl T u9) H := hP
  have hD : va_D A (cX T aa zw kp fp x y false false kt ft ks fs fc u9 ++ tl T u9) := hD
  exact W.iret (v := r8) hx hb hr (fun t ht hW => ⟨⟨r8, (x, y, false, false, u9), rfl, hr8, by rw [ht]; exact hP, va_K.moved hW.alike hK, hD⟩, hS.F ht⟩) hS.2.2 d_T_span_22

set_option maxHeartbeats 4000000 in
set_option maxRecDepth 100000 in
theorem k_T_span_x (l : Launch) (hl9 : l.stackTraces = false) (D : va_G) (T : gT) (κ : gS) (A : Nat → Prop) (aa : Nat → Nat) (zw : Int32) (kp : Nat) (fp : Nat → Int32) (e0 e1 : Int32) (oF oT : Bool) (kt : Nat) (ft : Nat → Int32) (ks : Nat) (fs fc : Nat → Int32) (S : tS) (sz : Nat) (x y : Int32) (hy0 : j_yy x y = false) : vx_Met l y_T_span (Cond.code y_T_span b_T_span 3 (some .int) :: bg_W) ({ frames := 8, cells := 1, slots := 6, locals := 131 }) (xPf κ A D T (cX T aa zw kp fp e0 e1 oF oT kt ft ks fs fc S ++ tl T S) [.ref (aa 0), .int x, .int y] sz) xN (xE "java/lang/IllegalArgumentException" sz) 1 6 (fun q => sz ≤ q) := by
  refine vx_ofW (cc := b_T_span) (maxL := 3) (ret := (some .int)) (by decide) rfl ?_
  intro p e s m args below meth c s₁ B hml htab hv
  obtain ⟨rfl, hsz, hP, hK, hF⟩ := hv
  have hx := B.exec
  have hb := B.bytes
  have hr := B.returns
  have hw : ∀ w ∈ bg_W, w.before ([.ref (aa 0), .int x, .int y] : List Value).toArray s = true := fun w h => atoms_spec (ws := (Cond.code y_T_span b_T_span 3 (some .int) :: bg_W)) B.pre w (List.mem_cons_of_mem _ h)
  have hown : s.vm.findClass "TimeWords" = some m.cls := findClass_of_methodNamed B.named
  have hlocks := B.notSynchronized
  subst hsz
  have hS : va_S A s.heap s.heap [] := va_S.rf
  have hl := lv_entry ([.ref (aa 0), .int x, .int y]) (n := 3) (Nat.le_of_ble_eq_true rfl)
  rw [lg_entry_eq]
  generalize (lg_sl ([.ref (aa 0), .int x, .int y]) ++ List.replicate (3 - (lg_sl ([.ref (aa 0), .int x, .int y])).length) Slot.unset).toArray = ls at hl ⊢
  have hl : lv_has ls 3 [(0, .ref (aa 0)), (1, .int x), (2, .int y)] := hl
  refine lv_iload_n hx hb d_T_span_0 rfl (lv_at hl 1 rfl) ?_
  refine lv_iload_n hx hb d_T_span_1 rfl (lv_at hl 2 rfl) ?_
  have hPc : va_P D gC ([]) s.heap := pc0
  exact x_call (vx_runS (As := [.int x, .int y]) (rest := []) ⟨hx, hb, hml, hown, hw⟩ (k_T_checkYears_x l hl9 D T κ A s.heap.size x y hy0) (va_cwS 2 hw (bg_S ml_T_104 wt_T_checkYears wz_T wc_T_checkYears) rfl rfl rfl (by decide +kernel) ⟨Nat.le_of_ble_eq_true rfl, Nat.le_of_ble_eq_true rfl⟩) ⟨xPf_b, xPf_p hPc hK hF hS⟩ rfl rfl hl.1 rfl (lv_room (Nat.le_of_ble_eq_true rfl)) d_T_span_2 ⟨Nat.le_of_ble_eq_true rfl, Nat.le_of_ble_eq_true rfl⟩) htab hlocks

set_option maxHeartbeats 4000000 in
set_option maxRecDepth 100000 in
theorem k_T_span_y (l : Launch) (hl9 : l.stackTraces = false) (D : va_G) (T : gT) (κ : gS) (A : Nat → Prop) (aa : Nat → Nat) (zw : Int32) (kp : Nat) (fp : Nat → Int32) (e0 e1 : Int32) (oF oT : Bool) (kt : Nat) (ft : Nat → Int32) (ks : Nat) (fs fc : Nat → Int32) (S : tS) (sz : Nat) (x y : Int32) (hy0 : j_yy x y = true) (hy1 : S.2.2.2.length = 60) : vx_Met l y_T_span (Cond.code y_T_span b_T_span 3 (some .int) :: bg_W) ({ frames := 8, cells := 1, slots := 6, locals := 130 }) (xPf κ A D T (cX T aa zw kp fp e0 e1 oF oT kt ft ks fs fc S ++ tl T S) [.ref (aa 0), .int x, .int y] sz) xN (xE "java/lang/IllegalStateException" sz) 1 6 (fun q => sz ≤ q) := by
  refine vx_ofW (cc := b_T_span) (maxL := 3) (ret := (some .int)) (by decide) rfl ?_
  intro p e s m args below meth c s₁ B hml htab hv
  obtain ⟨rfl, hsz, hP, hK, hF⟩ := hv
  have hx := B.exec
  have hb := B.bytes
  have hr := B.returns
  have hw : ∀ w ∈ bg_W, w.before ([.ref (aa 0), .int x, .int y] : List Value).toArray s = true := fun w h => atoms_spec (ws := (Cond.code y_T_span b_T_span 3 (some .int) :: bg_W)) B.pre w (List.mem_cons_of_mem _ h)
  have hown : s.vm.findClass "TimeWords" = some m.cls := findClass_of_methodNamed B.named
  have hlocks := B.notSynchronized
  subst hsz
  have hS : va_S A s.heap s.heap [] := va_S.rf
  have hl := lv_entry ([.ref (aa 0), .int x, .int y]) (n := 3) (Nat.le_of_ble_eq_true rfl)
  rw [lg_entry_eq]
  generalize (lg_sl ([.ref (aa 0), .int x, .int y]) ++ List.replicate (3 - (lg_sl ([.ref (aa 0), .int x, .int y])).length) Slot.unset).toArray = ls at hl ⊢
  have hl : lv_has ls 3 [(0, .ref (aa 0)), (1, .int x), (2, .int y)] := hl
  refine lv_iload_n hx hb d_T_span_0 rfl (lv_at hl 1 rfl) ?_
  refine lv_iload_n hx hb d_T_span_1 rfl (lv_at hl 2 rfl) ?_
  refine va_csv (va_Run.run (va_runS (As := [.int x, .int y]) (rest := []) ⟨hx, hb, hml, hown, hw⟩ (k_T_checkYears l x y hy0) (va_cwS 2 hw (bg_S ml_T_104 wt_T_checkYears wz_T wc_T_checkYears) rfl rfl rfl (by decide +kernel) ⟨Nat.le_of_ble_eq_true rfl, Nat.le_of_ble_eq_true rfl⟩) ⟨nP_b, nP_p⟩ rfl rfl hl.1 rfl (lv_room (Nat.le_of_ble_eq_true rfl)) d_T_span_2 ⟨Nat.le_of_ble_eq_true rfl, Nat.le_of_ble_eq_true rfl⟩)) (fun hr1 => ?_)
  refine lv_aload_n hx hb d_T_span_5 rfl (lv_at hl 0 rfl) ?_
  exact x_call (vx_runV (As := []) (rest := []) ⟨hx, hb, hml, hown, hw⟩ (k_T_checkRoomForSpan_x l hl9 D T κ A aa zw kp fp e0 e1 oF oT kt ft ks fs fc S s.heap.size hy1) (cwV 0 hw (bg_V ml_T_128 wi_T_checkRoomForSpan wv_T_checkRoomForSpan wz_T wc_T_checkRoomForSpan) rfl rfl rfl (by decide +kernel) ⟨Nat.le_of_ble_eq_true rfl, Nat.le_of_ble_eq_true rfl⟩) ⟨xPf_b, va_recv hK hP (ci := 5) (q0 := 0) rfl rfl, xPf_p hP hK hF hS⟩ rfl rfl hl.1 rfl (lv_room (Nat.le_of_ble_eq_true rfl)) d_T_span_6 ⟨Nat.le_of_ble_eq_true rfl, Nat.le_of_ble_eq_true rfl⟩) htab hlocks

set_option maxHeartbeats 4000000 in
set_option maxRecDepth 100000 in
theorem k_T_join (l : Launch) (D : va_G) (T : gT) (κ : gS) (aa : Nat → Nat) (zw : Int32) (kp : Nat) (fp : Nat → Int32) (e0 e1 : Int32) (oF oT : Bool) (kt : Nat) (ft : Nat → Int32) (ks : Nat) (fs fc : Nat → Int32) (S : tS) (sz : Nat) (j : Nat) (q : spD) (j2 : Nat) (q2 : spD) (hy0 : tOk κ S) (hy1 : S.2.2.2[j]? = some q) (hy2 : S.2.2.2[j2]? = some q2) (hy3 : S.2.2.2.length < 60) : Met l y_T_join (Cond.code y_T_join b_T_join 5 (some .int) :: bg_W) ({ frames := 8, cells := 2, slots := 94, locals := 192 }) (qPf κ D T (cX T aa zw kp fp e0 e1 oF oT kt ft ks fs fc S ++ tl T S) [.ref (aa 0), .int (nI j), .int (nI j2)] sz) (va_Qi (fun (r : Int32) (u : Int32 × Int32 × Bool × Bool × tS) => match u with | (w0, w1, v2, v3, S1) => r = nI S.2.2.2.length ∧ spP κ S (if q2.2.1 < q.2.1 then q2.2.1 else q.2.1) (if q.2.2.1 < q2.2.2.1 then q2.2.2.1 else q.2.2.1) (q.2.2.2.1 || q2.2.2.2.1) (q.2.2.2.2 || q2.2.2.2.2) S1) (qB D T (va_A (cX T aa zw kp fp e0 e1 oF oT kt ft ks fs fc S ++ tl T S) sz) (fun u : Int32 × Int32 × Bool × Bool × tS => match u with | (w0, w1, v2, v3, S1) => cX T aa zw kp fp w0 w1 v2 v3 kt ft ks fs fc S1 ++ tl T S1)) (va_A (cX T aa zw kp fp e0 e1 oF oT kt ft ks fs fc S ++ tl T S) sz)) 2 94 (va_A (cX T aa zw kp fp e0 e1 oF oT kt ft ks fs fc S ++ tl T S) sz) := by
  refine Met.ofW (cc := b_T_join) (maxL := 5) (ret := (some .int)) (by decide) rfl ?_
  intro p e s m args below meth c s₁ B hml hv
  obtain ⟨rfl, hsz, hP, hK, hD0, hF⟩ := hv
  have hx := B.exec
  have hb := B.bytes
  have hr := B.returns
  have hw : ∀ w ∈ bg_W, w.before ([.ref (aa 0), .int (nI j), .int (nI j2)] : List Value).toArray s = true := fun w h => atoms_spec (ws := (Cond.code y_T_join b_T_join 5 (some .int) :: bg_W)) B.pre w (List.mem_cons_of_mem _ h)
  have hown : s.vm.findClass "TimeWords" = some m.cls := findClass_of_methodNamed B.named
  have hlocks := B.notSynchronized
  subst hsz
  have hD := hD0.self (sz := s.heap.size)
  generalize hAe : va_A (cX T aa zw kp fp e0 e1 oF oT kt ft ks fs fc S ++ tl T S) s.heap.size = A at hD hF ⊢
  have hA : ∀ q : Nat, s.heap.size ≤ q → A q := fun q h => by rw [← hAe]; exact Or.inr h
  have hS : va_S A s.heap s.heap [] := va_S.rf
  have hl := lv_entry ([.ref (aa 0), .int (nI j), .int (nI j2)]) (n := 5) (Nat.le_of_ble_eq_true rfl)
  rw [lg_entry_eq]
  generalize (lg_sl ([.ref (aa 0), .int (nI j), .int (nI j2)]) ++ List.replicate (5 - (lg_sl ([.ref (aa 0), .int (nI j), .int (nI j2)])).length) Slot.unset).toArray = ls at hl ⊢
  have hl : lv_has ls 5 [(0, .ref (aa 0)), (1, .int (nI j)), (2, .int (nI j2))] := hl
  have hL1 : S.2.1.length ≤ 24 := hy0.2.2.2.1
  have hL2 : S.2.2.2.length ≤ 60 := hy0.2.2.2.2
  obtain ⟨hs1, hs2, hs3, hs4, hs5⟩ := sp_at hy0 hy1
  obtain ⟨ht1, ht2, ht3, ht4, ht5⟩ := sp_at hy0 hy2
  refine lv_aload_n hx hb d_T_join_0 rfl (lv_at hl 0 rfl) ?_
  refine lv_iload_n hx hb d_T_join_1 rfl (lv_at hl 1 rfl) ?_
  refine va_csq (va_Run.run (va_runV (As := [.int (nI j)]) (rest := []) ⟨hx, hb, hml, hown, hw⟩ (k_T_spanNumbered l D T κ A aa zw kp fp e0 e1 oF oT kt ft ks fs fc S j q hy0 hy1) (cwV 1 hw (bg_V ml_T_141 wi_T_spanNumbered wv_T_spanNumbered wz_T wc_T_spanNumbered) rfl rfl rfl (by decide +kernel) ⟨Nat.le_of_ble_eq_true rfl, Nat.le_of_ble_eq_true rfl⟩) ⟨sPf_b, va_recv hK hP (ci := 5) (q0 := 0) rfl rfl, sPf_p hP hK hF hS⟩ rfl rfl hl.1 rfl (lv_room (Nat.le_of_ble_eq_true rfl)) d_T_join_2 ⟨Nat.le_of_ble_eq_true rfl, Nat.le_of_ble_eq_true rfl⟩)) (fun r1 hr1 => ?_)
  replace hr1 := hr1.symm; subst hr1
  refine W.eq (g2 := F0 m 5 ls [.ref q.1]) rfl ?_
  refine lv_astore_n (lv' := [(3, .ref q.1), (0, .ref (aa 0)), (1, .int (nI j)), (2, .int (nI j2))]) hx hb d_T_join_5 rfl hl (by decide) rfl (fun ls hl => ?_)
  refine lv_aload_n hx hb d_T_join_6 rfl (lv_at hl 1 rfl) ?_
  refine lv_iload_n hx hb d_T_join_7 rfl (lv_at hl 3 rfl) ?_
  refine va_csq (va_Run.run (va_runV (As := [.int (nI j2)]) (rest := []) ⟨hx, hb, hml, hown, hw⟩ (k_T_spanNumbered l D T κ A aa zw kp fp e0 e1 oF oT kt ft ks fs fc S j2 q2 hy0 hy2) (cwV 1 hw (bg_V ml_T_141 wi_T_spanNumbered wv_T_spanNumbered wz_T wc_T_spanNumbered) rfl rfl rfl (by decide +kernel) ⟨Nat.le_of_ble_eq_true rfl, Nat.le_of_ble_eq_true rfl⟩) ⟨sPf_b, va_recv hK hP (ci := 5) (q0 := 0) rfl rfl, sPf_p hP hK hF hS⟩ rfl rfl hl.1 rfl (lv_room (Nat.le_of_ble_eq_true rfl)) d_T_join_8 ⟨Nat.le_of_ble_eq_true rfl, Nat.le_of_ble_eq_true rfl⟩)) (fun r2 hr2 => ?_)
  replace hr2 := hr2.symm; subst hr2
  refine W.eq (g2 := F0 m 11 ls [.ref q2.1]) rfl ?_
  refine lv_astore (lv' := [(4, .ref q2.1), (3, .ref q.1), (0, .ref (aa 0)), (1, .int (nI j)), (2, .int (nI j2))]) hx hb d_T_join_11 hl (by decide) rfl (fun ls hl => ?_)
  refine lv_aload_n hx hb d_T_join_13 rfl (lv_at hl 2 rfl) ?_
  refine va_csv (va_Run.run (va_runV (As := []) (rest := []) ⟨hx, hb, hml, hown, hw⟩ (k_T_checkRoomForSpan l D T κ A aa zw kp fp e0 e1 oF oT kt ft ks fs fc S hy3) (cwV 0 hw (bg_V ml_T_128 wi_T_checkRoomForSpan wv_T_checkRoomForSpan wz_T wc_T_checkRoomForSpan) rfl rfl rfl (by decide +kernel) ⟨Nat.le_of_ble_eq_true rfl, Nat.le_of_ble_eq_true rfl⟩) ⟨sPf_b, va_recv hK hP (ci := 5) (q0 := 0) rfl rfl, sPf_p hP hK hF hS⟩ rfl rfl hl.1 rfl (lv_room (Nat.le_of_ble_eq_true rfl)) d_T_join_14 ⟨Nat.le_of_ble_eq_true rfl, Nat.le_of_ble_eq_true rfl⟩)) (fun hr3 => ?_)
  refine lv_aload_n hx hb d_T_join_17 rfl (lv_at hl 2 rfl) ?_
  refine va_get (D := D) (ci := 5) (v := .ref (aa 3)) (C := "TimeWords") (T := F_T) (N := 8) hx hb hw in_T hown hK hP 0 rfl rfl 4 (by decide) (hw _ fl_T_37) (fun _ h9 => h9) rfl d_T_join_18 ?_
  refine lv_aload_n hx hb d_T_join_21 rfl (lv_at hl 1 rfl) ?_
  obtain ⟨rs4, hrs4, hP, hD⟩ := op_1 (X := cX T aa zw kp fp e0 e1 oF oT kt ft ks fs fc S) (pl := tl T S) (q := (q.1, .inr (2, [.int q.2.1, .int q.2.2.1, .int (b2i q.2.2.2.1), .int (b2i q.2.2.2.2)]))) hP hD (tl_sp hs5)
  have hP : va_P D gC ([(aa 0, .inr (5, [.ref (aa 1), .ref S.1.1, .ref S.2.2.1.1, .int zw, .ref (aa 3), .ref (aa 4), .ref (aa 6), .ref (aa 8)])), (aa 1, .inr (1, [.ref (aa 2), .int (nI kp)])), (aa 2, .inl (T.1, 24, .inl fp)), (aa 3, .inr (2, [.int e0, .int e1, .int (b2i oF), .int (b2i oT)])), (aa 4, .inr (1, [.ref (aa 5), .int (nI kt)])), (aa 5, .inl (T.1, 24, .inl ft)), (aa 6, .inr (1, [.ref (aa 7), .int (nI ks)])), (aa 7, .inl (T.1, 24, .inl fs)), (aa 8, .inl (T.1, 9, .inl fc)), (S.1.1, .inr (0, [.ref S.1.2.1, .int (nI S.2.1.length), .int S.1.2.2.1])), (S.2.2.1.1, .inr (0, [.ref S.2.2.1.2.1, .int (nI S.2.2.2.length), .int S.2.2.1.2.2.1])), (q.1, .inr (2, [.int q.2.1, .int q.2.2.1, .int (b2i q.2.2.2.1), .int (b2i q.2.2.2.2)]))] ++ rs4) s.heap := hP
  have hD : va_D A ([(aa 0, .inr (5, [.ref (aa 1), .ref S.1.1, .ref S.2.2.1.1, .int zw, .ref (aa 3), .ref (aa 4), .ref (aa 6), .ref (aa 8)])), (aa 1, .inr (1, [.ref (aa 2), .int (nI kp)])), (aa 2, .inl (T.1, 24, .inl fp)), (aa 3, .inr (2, [.int e0, .int e1, .int (b2i oF), .int (b2i oT)])), (aa 4, .inr (1, [.ref (aa 5), .int (nI kt)])), (aa 5, .inl (T.1, 24, .inl ft)), (aa 6, .inr (1, [.ref (aa 7), .int (nI ks)])), (aa 7, .inl (T.1, 24, .inl fs)), (aa 8, .inl (T.1, 9, .inl fc)), (S.1.1, .inr (0, [.ref S.1.2.1, .int (nI S.2.1.length), .int S.1.2.2.1])), (S.2.2.1.1, .inr (0, [.ref S.2.2.1.2.1, .int (nI S.2.2.2.length), .int S.2.2.1.2.2.1])), (q.1, .inr (2, [.int q.2.1, .int q.2.2.1, .int (b2i q.2.2.2.1), .int (b2i q.2.2.2.2)]))] ++ rs4) := hD
  have hPc : va_P D gC ([(aa 3, .inr (2, [.int e0, .int e1, .int (b2i oF), .int (b2i oT)])), (q.1, .inr (2, [.int q.2.1, .int q.2.2.1, .int (b2i q.2.2.2.1), .int (b2i q.2.2.2.2)]))]) s.heap := (pc1 (hP 3 _ rfl) (pc1 (hP 11 _ rfl) pc0))
  have hDc : va_D A ([(aa 3, .inr (2, [.int e0, .int e1, .int (b2i oF), .int (b2i oT)])), (q.1, .inr (2, [.int q.2.1, .int q.2.2.1, .int (b2i q.2.2.2.1), .int (b2i q.2.2.2.2)]))]) := by have h9 := hD.part (cx := [(aa 3, .inr (2, [.int e0, .int e1, .int (b2i oF), .int (b2i oT)])), (q.1, .inr (2, [.int q.2.1, .int q.2.2.1, .int (b2i q.2.2.2.1), .int (b2i q.2.2.2.2)]))]) [3, 11] (by decide) rfl; exact dl_l h9
  refine g_subv (X := [(aa 0, .inr (5, [.ref (aa 1), .ref S.1.1, .ref S.2.2.1.1, .int zw, .ref (aa 3), .ref (aa 4), .ref (aa 6), .ref (aa 8)])), (aa 1, .inr (1, [.ref (aa 2), .int (nI kp)])), (aa 2, .inl (T.1, 24, .inl fp)), (aa 3, .inr (2, [.int e0, .int e1, .int (b2i oF), .int (b2i oT)])), (aa 4, .inr (1, [.ref (aa 5), .int (nI kt)])), (aa 5, .inl (T.1, 24, .inl ft)), (aa 6, .inr (1, [.ref (aa 7), .int (nI ks)])), (aa 7, .inl (T.1, 24, .inl fs)), (aa 8, .inl (T.1, 9, .inl fc)), (S.1.1, .inr (0, [.ref S.1.2.1, .int (nI S.2.1.length), .int S.1.2.2.1])), (S.2.2.1.1, .inr (0, [.ref S.2.2.1.2.1, .int (nI S.2.2.2.length), .int S.2.2.1.2.2.1])), (q.1, .inr (2, [.int q.2.1, .int q.2.2.1, .int (b2i q.2.2.2.1), .int (b2i q.2.2.2.2)]))]) (pl := rs4) (wr := [(aa 0, .inr (5, [.ref (aa 1), .ref S.1.1, .ref S.2.2.1.1, .int zw, .ref (aa 3), .ref (aa 4), .ref (aa 6), .ref (aa 8)])), (aa 1, .inr (1, [.ref (aa 2), .int (nI kp)])), (aa 2, .inl (T.1, 24, .inl fp)), (aa 4, .inr (1, [.ref (aa 5), .int (nI kt)])), (aa 5, .inl (T.1, 24, .inl ft)), (aa 6, .inr (1, [.ref (aa 7), .int (nI ks)])), (aa 7, .inl (T.1, 24, .inl fs)), (aa 8, .inl (T.1, 9, .inl fc)), (S.1.1, .inr (0, [.ref S.1.2.1, .int (nI S.2.1.length), .int S.1.2.2.1])), (S.2.2.1.1, .inr (0, [.ref S.2.2.1.2.1, .int (nI S.2.2.2.length), .int S.2.2.1.2.2.1]))]) (cx := [(aa 3, .inr (2, [.int e0, .int e1, .int (b2i oF), .int (b2i oT)])), (q.1, .inr (2, [.int q.2.1, .int q.2.2.1, .int (b2i q.2.2.2.1), .int (b2i q.2.2.2.2)]))]) (va_runV (As := [.ref q.1]) (rest := []) ⟨hx, hb, hml, hown, hw⟩ (k_Y_copyOf l D T (aa 3) e0 e1 oF oT q.1 q.2.1 q.2.2.1 q.2.2.2.1 q.2.2.2.2 s.heap.size) (cwV 1 hw (bg_V ml_T_159 wi_Y_copyOf wv_Y_copyOf wz_Y wc_Y_copyOf) rfl rfl rfl (by decide +kernel) ⟨Nat.le_of_ble_eq_true rfl, Nat.le_of_ble_eq_true rfl⟩) ⟨qP_b, va_recv hK hPc (ci := 2) (q0 := 0) rfl rfl, qP_p hPc hK hDc⟩ rfl rfl hl.1 rfl (lv_room (Nat.le_of_ble_eq_true rfl)) d_T_join_22 ⟨Nat.le_of_ble_eq_true rfl, Nat.le_of_ble_eq_true rfl⟩) hP hD hS hA [3, 11] [0, 1, 2, 4, 5, 6, 7, 8, 9, 10] rfl rfl (by decide) (by decide) (fun u9 H locs hr5 hP hD hS => ?_)
  obtain ⟨u6, u7, u8, u9⟩ := u9
  dsimp only at hr5 hP hD
  obtain ⟨q0, q1, q2, q3⟩ := hr5
  replace q0 := q0.symm; subst q0; replace q1 := q1.symm; subst q1; replace q2 := q2.symm; subst q2; replace q3 := q3.symm; subst q3
  have hP : va_P D gC ([(aa 0, .inr (5, [.ref (aa 1), .ref S.1.1, .ref S.2.2.1.1, .int zw, .ref (aa 3), .ref (aa 4), .ref (aa 6), .ref (aa 8)])), (aa 1, .inr (1, [.ref (aa 2), .int (nI kp)])), (aa 2, .inl (T.1, 24, .inl fp)), (aa 3, .inr (2, [.int q.2.1, .int q.2.2.1, .int (b2i q.2.2.2.1), .int (b2i q.2.2.2.2)])), (aa 4, .inr (1, [.ref (aa 5), .int (nI kt)])), (aa 5, .inl (T.1, 24, .inl ft)), (aa 6, .inr (1, [.ref (aa 7), .int (nI ks)])), (aa 7, .inl (T.1, 24, .inl fs)), (aa 8, .inl (T.1, 9, .inl fc)), (S.1.1, .inr (0, [.ref S.1.2.1, .int (nI S.2.1.length), .int S.1.2.2.1])), (S.2.2.1.1, .inr (0, [.ref S.2.2.1.2.1, .int (nI S.2.2.2.length), .int S.2.2.1.2.2.1])), (q.1, .inr (2, [.int q.2.1, .int q.2.2.1, .int (b2i q.2.2.2.1), .int (b2i q.2.2.2.2)]))] ++ rs4) H := hP.part (cx := [(aa 0, .inr (5, [.ref (aa 1), .ref S.1.1, .ref S.2.2.1.1, .int zw, .ref (aa 3), .ref (aa 4), .ref (aa 6), .ref (aa 8)])), (aa 1, .inr (1, [.ref (aa 2), .int (nI kp)])), (aa 2, .inl (T.1, 24, .inl fp)), (aa 3, .inr (2, [.int q.2.1, .int q.2.2.1, .int (b2i q.2.2.2.1), .int (b2i q.2.2.2.2)])), (aa 4, .inr (1, [.ref (aa 5), .int (nI kt)])), (aa 5, .inl (T.1, 24, .inl ft)), (aa 6, .inr (1, [.ref (aa 7), .int (nI ks)])), (aa 7, .inl (T.1, 24, .inl fs)), (aa 8, .inl (T.1, 9, .inl fc)), (S.1.1, .inr (0, [.ref S.1.2.1, .int (nI S.2.1.length), .int S.1.2.2.1])), (S.2.2.1.1, .inr (0, [.ref S.2.2.1.2.1, .int (nI S.2.2.2.length), .int S.2.2.1.2.2.1])), (q.1, .inr (2, [.int q.2.1, .int q.2.2.1, .int (b2i q.2.2.2.1), .int (b2i q.2.2.2.2)]))]) [0, 1, 2, 10, 3, 4, 5, 6, 7, 8, 9, 11] rfl
  have hD : va_D A ([(aa 0, .inr (5, [.ref (aa 1), .ref S.1.1, .ref S.2.2.1.1, .int zw, .ref (aa 3), .ref (aa 4), .ref (aa 6), .ref (aa 8)])), (aa 1, .inr (1, [.ref (aa 2), .int (nI kp)])), (aa 2, .inl (T.1, 24, .inl fp)), (aa 3, .inr (2, [.int q.2.1, .int q.2.2.1, .int (b2i q.2.2.2.1), .int (b2i q.2.2.2.2)])), (aa 4, .inr (1, [.ref (aa 5), .int (nI kt)])), (aa 5, .inl (T.1, 24, .inl ft)), (aa 6, .inr (1, [.ref (aa 7), .int (nI ks)])), (aa 7, .inl (T.1, 24, .inl fs)), (aa 8, .inl (T.1, 9, .inl fc)), (S.1.1, .inr (0, [.ref S.1.2.1, .int (nI S.2.1.length), .int S.1.2.2.1])), (S.2.2.1.1, .inr (0, [.ref S.2.2.1.2.1, .int (nI S.2.2.2.length), .int S.2.2.1.2.2.1])), (q.1, .inr (2, [.int q.2.1, .int q.2.2.1, .int (b2i q.2.2.2.1), .int (b2i q.2.2.2.2)]))] ++ rs4) := hD.part (cx := [(aa 0, .inr (5, [.ref (aa 1), .ref S.1.1, .ref S.2.2.1.1, .int zw, .ref (aa 3), .ref (aa 4), .ref (aa 6), .ref (aa 8)])), (aa 1, .inr (1, [.ref (aa 2), .int (nI kp)])), (aa 2, .inl (T.1, 24, .inl fp)), (aa 3, .inr (2, [.int q.2.1, .int q.2.2.1, .int (b2i q.2.2.2.1), .int (b2i q.2.2.2.2)])), (aa 4, .inr (1, [.ref (aa 5), .int (nI kt)])), (aa 5, .inl (T.1, 24, .inl ft)), (aa 6, .inr (1, [.ref (aa 7), .int (nI ks)])), (aa 7, .inl (T.1, 24, .inl fs)), (aa 8, .inl (T.1, 9, .inl fc)), (S.1.1, .inr (0, [.ref S.1.2.1, .int (nI S.2.1.length), .int S.1.2.2.1])), (S.2.2.1.1, .inr (0, [.ref S.2.2.1.2.1, .int (nI S.2.2.2.length), .int S.2.2.1.2.2.1])), (q.1, .inr (2, [.int q.2.1, .int q.2.2.1, .int (b2i q.2.2.2.1), .int (b2i q.2.2.2.2)]))]) [0, 1, 2, 10, 3, 4, 5, 6, 7, 8, 9, 11] (by decide) rfl
  have hP : va_P D gC (cX T aa zw kp fp q.2.1 q.2.2.1 q.2.2.2.1 q.2.2.2.2 kt ft ks fs fc S ++ tl T S) H := cl_P1 (X := cX T aa zw kp fp q.2.1 q.2.2.1 q.2.2.2.1 q.2.2.2.2 kt ft ks fs fc S) hrs4 hP
  have hD : va_D A (cX T aa zw kp fp q.2.1 q.2.2.1 q.2.2.2.1 q.2.2.2.2 kt ft ks fs fc S ++ tl T S) := cl_D1 (X := cX T aa zw kp fp q.2.1 q.2.2.1 q.2.2.2.1 q.2.2.2.2 kt ft ks fs fc S) hrs4 hD
  refine lv_aload_n hx hb d_T_join_25 rfl (lv_at hl 2 rfl) ?_
  refine va_get (D := D) (ci := 5) (v := .ref (aa 3)) (C := "TimeWords") (T := F_T) (N := 8) hx hb hw in_T hown hK hP 0 rfl rfl 4 (by decide) (hw _ fl_T_37) (fun _ h9 => h9) rfl d_T_join_26 ?_
  refine lv_aload hx hb d_T_join_29 (lv_at hl 0 rfl) ?_
  obtain ⟨rs10, hrs10, hP, hD⟩ := op_1 (X := cX T aa zw kp fp q.2.1 q.2.2.1 q.2.2.2.1 q.2.2.2.2 kt ft ks fs fc S) (pl := tl T S) (q := (q2.1, .inr (2, [.int q2.2.1, .int q2.2.2.1, .int (b2i q2.2.2.2.1), .int (b2i q2.2.2.2.2)]))) hP hD (tl_sp ht5)
  have hP : va_P D gC ([(aa 0, .inr (5, [.ref (aa 1), .ref S.1.1, .ref S.2.2.1.1, .int zw, .ref (aa 3), .ref (aa 4), .ref (aa 6), .ref (aa 8)])), (aa 1, .inr (1, [.ref (aa 2), .int (nI kp)])), (aa 2, .inl (T.1, 24, .inl fp)), (aa 3, .inr (2, [.int q.2.1, .int q.2.2.1, .int (b2i q.2.2.2.1), .int (b2i q.2.2.2.2)])), (aa 4, .inr (1, [.ref (aa 5), .int (nI kt)])), (aa 5, .inl (T.1, 24, .inl ft)), (aa 6, .inr (1, [.ref (aa 7), .int (nI ks)])), (aa 7, .inl (T.1, 24, .inl fs)), (aa 8, .inl (T.1, 9, .inl fc)), (S.1.1, .inr (0, [.ref S.1.2.1, .int (nI S.2.1.length), .int S.1.2.2.1])), (S.2.2.1.1, .inr (0, [.ref S.2.2.1.2.1, .int (nI S.2.2.2.length), .int S.2.2.1.2.2.1])), (q2.1, .inr (2, [.int q2.2.1, .int q2.2.2.1, .int (b2i q2.2.2.2.1), .int (b2i q2.2.2.2.2)]))] ++ rs10) H := hP
  have hD : va_D A ([(aa 0, .inr (5, [.ref (aa 1), .ref S.1.1, .ref S.2.2.1.1, .int zw, .ref (aa 3), .ref (aa 4), .ref (aa 6), .ref (aa 8)])), (aa 1, .inr (1, [.ref (aa 2), .int (nI kp)])), (aa 2, .inl (T.1, 24, .inl fp)), (aa 3, .inr (2, [.int q.2.1, .int q.2.2.1, .int (b2i q.2.2.2.1), .int (b2i q.2.2.2.2)])), (aa 4, .inr (1, [.ref (aa 5), .int (nI kt)])), (aa 5, .inl (T.1, 24, .inl ft)), (aa 6, .inr (1, [.ref (aa 7), .int (nI ks)])), (aa 7, .inl (T.1, 24, .inl fs)), (aa 8, .inl (T.1, 9, .inl fc)), (S.1.1, .inr (0, [.ref S.1.2.1, .int (nI S.2.1.length), .int S.1.2.2.1])), (S.2.2.1.1, .inr (0, [.ref S.2.2.1.2.1, .int (nI S.2.2.2.length), .int S.2.2.1.2.2.1])), (q2.1, .inr (2, [.int q2.2.1, .int q2.2.2.1, .int (b2i q2.2.2.2.1), .int (b2i q2.2.2.2.2)]))] ++ rs10) := hD
  have hPc : va_P D gC ([(aa 3, .inr (2, [.int q.2.1, .int q.2.2.1, .int (b2i q.2.2.2.1), .int (b2i q.2.2.2.2)])), (q2.1, .inr (2, [.int q2.2.1, .int q2.2.2.1, .int (b2i q2.2.2.2.1), .int (b2i q2.2.2.2.2)]))]) H := (pc1 (hP 3 _ rfl) (pc1 (hP 11 _ rfl) pc0))
  have hDc : va_D A ([(aa 3, .inr (2, [.int q.2.1, .int q.2.2.1, .int (b2i q.2.2.2.1), .int (b2i q.2.2.2.2)])), (q2.1, .inr (2, [.int q2.2.1, .int q2.2.2.1, .int (b2i q2.2.2.2.1), .int (b2i q2.2.2.2.2)]))]) := by have h9 := hD.part (cx := [(aa 3, .inr (2, [.int q.2.1, .int q.2.2.1, .int (b2i q.2.2.2.1), .int (b2i q.2.2.2.2)])), (q2.1, .inr (2, [.int q2.2.1, .int q2.2.2.1, .int (b2i q2.2.2.2.1), .int (b2i q2.2.2.2.2)]))]) [3, 11] (by decide) rfl; exact dl_l h9
  refine g_subv (X := [(aa 0, .inr (5, [.ref (aa 1), .ref S.1.1, .ref S.2.2.1.1, .int zw, .ref (aa 3), .ref (aa 4), .ref (aa 6), .ref (aa 8)])), (aa 1, .inr (1, [.ref (aa 2), .int (nI kp)])), (aa 2, .inl (T.1, 24, .inl fp)), (aa 3, .inr (2, [.int q.2.1, .int q.2.2.1, .int (b2i q.2.2.2.1), .int (b2i q.2.2.2.2)])), (aa 4, .inr (1, [.ref (aa 5), .int (nI kt)])), (aa 5, .inl (T.1, 24, .inl ft)), (aa 6, .inr (1, [.ref (aa 7), .int (nI ks)])), (aa 7, .inl (T.1, 24, .inl fs)), (aa 8, .inl (T.1, 9, .inl fc)), (S.1.1, .inr (0, [.ref S.1.2.1, .int (nI S.2.1.length), .int S.1.2.2.1])), (S.2.2.1.1, .inr (0, [.ref S.2.2.1.2.1, .int (nI S.2.2.2.length), .int S.2.2.1.2.2.1])), (q2.1, .inr (2, [.int q2.2.1, .int q2.2.2.1, .int (b2i q2.2.2.2.1), .int (b2i q2.2.2.2.2)]))]) (pl := rs10) (wr := [(aa 0, .inr (5, [.ref (aa 1), .ref S.1.1, .ref S.2.2.1.1, .int zw, .ref (aa 3), .ref (aa 4), .ref (aa 6), .ref (aa 8)])), (aa 1, .inr (1, [.ref (aa 2), .int (nI kp)])), (aa 2, .inl (T.1, 24, .inl fp)), (aa 4, .inr (1, [.ref (aa 5), .int (nI kt)])), (aa 5, .inl (T.1, 24, .inl ft)), (aa 6, .inr (1, [.ref (aa 7), .int (nI ks)])), (aa 7, .inl (T.1, 24, .inl fs)), (aa 8, .inl (T.1, 9, .inl fc)), (S.1.1, .inr (0, [.ref S.1.2.1, .int (nI S.2.1.length), .int S.1.2.2.1])), (S.2.2.1.1, .inr (0, [.ref S.2.2.1.2.1, .int (nI S.2.2.2.length), .int S.2.2.1.2.2.1]))]) (cx := [(aa 3, .inr (2, [.int q.2.1, .int q.2.2.1, .int (b2i q.2.2.2.1), .int (b2i q.2.2.2.2)])), (q2.1, .inr (2, [.int q2.2.1, .int q2.2.2.1, .int (b2i q2.2.2.2.1), .int (b2i q2.2.2.2.2)]))]) (va_runV (As := [.ref q2.1]) (rest := []) ⟨hx, hb, hml, hown, hw⟩ (k_Y_growTo l D T (aa 3) q.2.1 q.2.2.1 q.2.2.2.1 q.2.2.2.2 q2.1 q2.2.1 q2.2.2.1 q2.2.2.2.1 q2.2.2.2.2 H.size) (cwV 1 hw (bg_V ml_T_163 wi_Y_growTo wv_Y_growTo wz_Y wc_Y_growTo) rfl rfl rfl (by decide +kernel) ⟨Nat.le_of_ble_eq_true rfl, Nat.le_of_ble_eq_true rfl⟩) ⟨qP_b, va_recv hK hPc (ci := 2) (q0 := 0) rfl rfl, qP_p hPc hK hDc⟩ rfl rfl hl.1 rfl (lv_room (Nat.le_of_ble_eq_true rfl)) d_T_join_31 ⟨Nat.le_of_ble_eq_true rfl, Nat.le_of_ble_eq_true rfl⟩) hP hD hS hA [3, 11] [0, 1, 2, 4, 5, 6, 7, 8, 9, 10] rfl rfl (by decide) (by decide) (fun u9 H locs hr11 hP hD hS => ?_)
  obtain ⟨u12, u13, u14, u15⟩ := u9
  dsimp only at hr11 hP hD
  obtain ⟨q0, q1, q2, q3⟩ := hr11
  replace q0 := q0.symm; subst q0; replace q1 := q1.symm; subst q1; replace q2 := q2.symm; subst q2; replace q3 := q3.symm; subst q3
  have hP : va_P D gC ([(aa 0, .inr (5, [.ref (aa 1), .ref S.1.1, .ref S.2.2.1.1, .int zw, .ref (aa 3), .ref (aa 4), .ref (aa 6), .ref (aa 8)])), (aa 1, .inr (1, [.ref (aa 2), .int (nI kp)])), (aa 2, .inl (T.1, 24, .inl fp)), (aa 3, .inr (2, [.int (if q2.2.1 < q.2.1 then q2.2.1 else q.2.1), .int (if q.2.2.1 < q2.2.2.1 then q2.2.2.1 else q.2.2.1), .int (b2i (q.2.2.2.1 || q2.2.2.2.1)), .int (b2i (q.2.2.2.2 || q2.2.2.2.2))])), (aa 4, .inr (1, [.ref (aa 5), .int (nI kt)])), (aa 5, .inl (T.1, 24, .inl ft)), (aa 6, .inr (1, [.ref (aa 7), .int (nI ks)])), (aa 7, .inl (T.1, 24, .inl fs)), (aa 8, .inl (T.1, 9, .inl fc)), (S.1.1, .inr (0, [.ref S.1.2.1, .int (nI S.2.1.length), .int S.1.2.2.1])), (S.2.2.1.1, .inr (0, [.ref S.2.2.1.2.1, .int (nI S.2.2.2.length), .int S.2.2.1.2.2.1])), (q2.1, .inr (2, [.int q2.2.1, .int q2.2.2.1, .int (b2i q2.2.2.2.1), .int (b2i q2.2.2.2.2)]))] ++ rs10) H := hP.part (cx := [(aa 0, .inr (5, [.ref (aa 1), .ref S.1.1, .ref S.2.2.1.1, .int zw, .ref (aa 3), .ref (aa 4), .ref (aa 6), .ref (aa 8)])), (aa 1, .inr (1, [.ref (aa 2), .int (nI kp)])), (aa 2, .inl (T.1, 24, .inl fp)), (aa 3, .inr (2, [.int (if q2.2.1 < q.2.1 then q2.2.1 else q.2.1), .int (if q.2.2.1 < q2.2.2.1 then q2.2.2.1 else q.2.2.1), .int (b2i (q.2.2.2.1 || q2.2.2.2.1)), .int (b2i (q.2.2.2.2 || q2.2.2.2.2))])), (aa 4, .inr (1, [.ref (aa 5), .int (nI kt)])), (aa 5, .inl (T.1, 24, .inl ft)), (aa 6, .inr (1, [.ref (aa 7), .int (nI ks)])), (aa 7, .inl (T.1, 24, .inl fs)), (aa 8, .inl (T.1, 9, .inl fc)), (S.1.1, .inr (0, [.ref S.1.2.1, .int (nI S.2.1.length), .int S.1.2.2.1])), (S.2.2.1.1, .inr (0, [.ref S.2.2.1.2.1, .int (nI S.2.2.2.length), .int S.2.2.1.2.2.1])), (q2.1, .inr (2, [.int q2.2.1, .int q2.2.2.1, .int (b2i q2.2.2.2.1), .int (b2i q2.2.2.2.2)]))]) [0, 1, 2, 10, 3, 4, 5, 6, 7, 8, 9, 11] rfl
  have hD : va_D A ([(aa 0, .inr (5, [.ref (aa 1), .ref S.1.1, .ref S.2.2.1.1, .int zw, .ref (aa 3), .ref (aa 4), .ref (aa 6), .ref (aa 8)])), (aa 1, .inr (1, [.ref (aa 2), .int (nI kp)])), (aa 2, .inl (T.1, 24, .inl fp)), (aa 3, .inr (2, [.int (if q2.2.1 < q.2.1 then q2.2.1 else q.2.1), .int (if q.2.2.1 < q2.2.2.1 then q2.2.2.1 else q.2.2.1), .int (b2i (q.2.2.2.1 || q2.2.2.2.1)), .int (b2i (q.2.2.2.2 || q2.2.2.2.2))])), (aa 4, .inr (1, [.ref (aa 5), .int (nI kt)])), (aa 5, .inl (T.1, 24, .inl ft)), (aa 6, .inr (1, [.ref (aa 7), .int (nI ks)])), (aa 7, .inl (T.1, 24, .inl fs)), (aa 8, .inl (T.1, 9, .inl fc)), (S.1.1, .inr (0, [.ref S.1.2.1, .int (nI S.2.1.length), .int S.1.2.2.1])), (S.2.2.1.1, .inr (0, [.ref S.2.2.1.2.1, .int (nI S.2.2.2.length), .int S.2.2.1.2.2.1])), (q2.1, .inr (2, [.int q2.2.1, .int q2.2.2.1, .int (b2i q2.2.2.2.1), .int (b2i q2.2.2.2.2)]))] ++ rs10) := hD.part (cx := [(aa 0, .inr (5, [.ref (aa 1), .ref S.1.1, .ref S.2.2.1.1, .int zw, .ref (aa 3), .ref (aa 4), .ref (aa 6), .ref (aa 8)])), (aa 1, .inr (1, [.ref (aa 2), .int (nI kp)])), (aa 2, .inl (T.1, 24, .inl fp)), (aa 3, .inr (2, [.int (if q2.2.1 < q.2.1 then q2.2.1 else q.2.1), .int (if q.2.2.1 < q2.2.2.1 then q2.2.2.1 else q.2.2.1), .int (b2i (q.2.2.2.1 || q2.2.2.2.1)), .int (b2i (q.2.2.2.2 || q2.2.2.2.2))])), (aa 4, .inr (1, [.ref (aa 5), .int (nI kt)])), (aa 5, .inl (T.1, 24, .inl ft)), (aa 6, .inr (1, [.ref (aa 7), .int (nI ks)])), (aa 7, .inl (T.1, 24, .inl fs)), (aa 8, .inl (T.1, 9, .inl fc)), (S.1.1, .inr (0, [.ref S.1.2.1, .int (nI S.2.1.length), .int S.1.2.2.1])), (S.2.2.1.1, .inr (0, [.ref S.2.2.1.2.1, .int (nI S.2.2.2.length), .int S.2.2.1.2.2.1])), (q2.1, .inr (2, [.int q2.2.1, .int q2.2.2.1, .int (b2i q2.2.2.2.1), .int (b2i q2.2.2.2.2)]))]) [0, 1, 2, 10, 3, 4, 5, 6, 7, 8, 9, 11] (by decide) rfl
  have hP : va_P D gC (cX T aa zw kp fp (if q2.2.1 < q.2.1 then q2.2.1 else q.2.1) (if q.2.2.1 < q2.2.2.1 then q2.2.2.1 else q.2.2.1) (q.2.2.2.1 || q2.2.2.2.1) (q.2.2.2.2 || q2.2.2.2.2) kt ft ks fs fc S ++ tl T S) H := cl_P1 (X := cX T aa zw kp fp (if q2.2.1 < q.2.1 then q2.2.1 else q.2.1) (if q.2.2.1 < q2.2.2.1 then q2.2.2.1 else q.2.2.1) (q.2.2.2.1 || q2.2.2.2.1) (q.2.2.2.2 || q2.2.2.2.2) kt ft ks fs fc S) hrs10 hP
  have hD : va_D A (cX T aa zw kp fp (if q2.2.1 < q.2.1 then q2.2.1 else q.2.1) (if q.2.2.1 < q2.2.2.1 then q2.2.2.1 else q.2.2.1) (q.2.2.2.1 || q2.2.2.2.1) (q.2.2.2.2 || q2.2.2.2.2) kt ft ks fs fc S ++ tl T S) := cl_D1 (X := cX T aa zw kp fp (if q2.2.1 < q.2.1 then q2.2.1 else q.2.1) (if q.2.2.1 < q2.2.2.1 then q2.2.2.1 else q.2.2.1) (q.2.2.2.1 || q2.2.2.2.1) (q.2.2.2.2 || q2.2.2.2.2) kt ft ks fs fc S) hrs10 hD
  refine lv_aload_n hx hb d_T_join_34 rfl (lv_at hl 2 rfl) ?_
  refine g_calli (va_runV (As := []) (rest := []) ⟨hx, hb, hml, hown, hw⟩ (k_T_keepFound l D T κ aa zw kp fp (if q2.2.1 < q.2.1 then q2.2.1 else q.2.1) (if q.2.2.1 < q2.2.2.1 then q2.2.2.1 else q.2.2.1) (q.2.2.2.1 || q2.2.2.2.1) (q.2.2.2.2 || q2.2.2.2.2) kt ft ks fs fc S H.size hy0 hy3) (cwV 0 hw (bg_V ml_T_135 wi_T_keepFound wv_T_keepFound wz_T wc_T_keepFound) rfl rfl rfl (by decide +kernel) ⟨Nat.le_of_ble_eq_true rfl, Nat.le_of_ble_eq_true rfl⟩) ⟨qPf_b, va_recv hK hP (ci := 5) (q0 := 0) rfl rfl, qPf_p hP hK hD hF hS (g_free hD hS hA)⟩ rfl rfl hl.1 rfl (lv_room (Nat.le_of_ble_eq_true rfl)) d_T_join_35 ⟨Nat.le_of_ble_eq_true rfl, Nat.le_of_ble_eq_true rfl⟩) hD hS hA (fun r16 u17 H locs hr16 hP hD hS => ?_)
  have hP : va_P D gC (cX T aa zw kp fp (if q2.2.1 < q.2.1 then q2.2.1 else q.2.1) (if q.2.2.1 < q2.2.2.1 then q2.2.2.1 else q.2.2.1) (q.2.2.2.1 || q2.2.2.2.1) (q.2.2.2.2 || q2.2.2.2.2) kt ft ks fs fc u17 ++ tl T u17) H := hP
  have hD : va_D A (cX T aa zw kp fp (if q2.2.1 < q.2.1 then q2.2.1 else q.2.1) (if q.2.2.1 < q2.2.2.1 then q2.2.2.1 else q.2.2.1) (q.2.2.2.1 || q2.2.2.2.1) (q.2.2.2.2 || q2.2.2.2.2) kt ft ks fs fc u17 ++ tl T u17) := hD
  exact W.iret (v := r16) hx hb hr (fun t ht hW => ⟨⟨r16, ((if q2.2.1 < q.2.1 then q2.2.1 else q.2.1), (if q.2.2.1 < q2.2.2.1 then q2.2.2.1 else q.2.2.1), (q.2.2.2.1 || q2.2.2.2.1), (q.2.2.2.2 || q2.2.2.2.2), u17), rfl, hr16, by rw [ht]; exact hP, va_K.moved hW.alike hK, hD⟩, hS.F ht⟩) hS.2.2 d_T_join_38

set_option maxHeartbeats 4000000 in
set_option maxRecDepth 100000 in
theorem k_T_join_x (l : Launch) (hl9 : l.stackTraces = false) (D : va_G) (T : gT) (κ : gS) (A : Nat → Prop) (aa : Nat → Nat) (zw : Int32) (kp : Nat) (fp : Nat → Int32) (e0 e1 : Int32) (oF oT : Bool) (kt : Nat) (ft : Nat → Int32) (ks : Nat) (fs fc : Nat → Int32) (S : tS) (sz : Nat) (x x2 : Int32) (hy0 : j_ix x (nI S.2.2.2.length) = false) : vx_Met l y_T_join (Cond.code y_T_join b_T_join 5 (some .int) :: bg_W) ({ frames := 8, cells := 1, slots := 6, locals := 131 }) (xPf κ A D T (cX T aa zw kp fp e0 e1 oF oT kt ft ks fs fc S ++ tl T S) [.ref (aa 0), .int x, .int x2] sz) xN (xE "java/lang/IndexOutOfBoundsException" sz) 1 6 (fun q => sz ≤ q) := by
  refine vx_ofW (cc := b_T_join) (maxL := 5) (ret := (some .int)) (by decide) rfl ?_
  intro p e s m args below meth c s₁ B hml htab hv
  obtain ⟨rfl, hsz, hP, hK, hF⟩ := hv
  have hx := B.exec
  have hb := B.bytes
  have hr := B.returns
  have hw : ∀ w ∈ bg_W, w.before ([.ref (aa 0), .int x, .int x2] : List Value).toArray s = true := fun w h => atoms_spec (ws := (Cond.code y_T_join b_T_join 5 (some .int) :: bg_W)) B.pre w (List.mem_cons_of_mem _ h)
  have hown : s.vm.findClass "TimeWords" = some m.cls := findClass_of_methodNamed B.named
  have hlocks := B.notSynchronized
  subst hsz
  have hS : va_S A s.heap s.heap [] := va_S.rf
  have hl := lv_entry ([.ref (aa 0), .int x, .int x2]) (n := 5) (Nat.le_of_ble_eq_true rfl)
  rw [lg_entry_eq]
  generalize (lg_sl ([.ref (aa 0), .int x, .int x2]) ++ List.replicate (5 - (lg_sl ([.ref (aa 0), .int x, .int x2])).length) Slot.unset).toArray = ls at hl ⊢
  have hl : lv_has ls 5 [(0, .ref (aa 0)), (1, .int x), (2, .int x2)] := hl
  refine lv_aload_n hx hb d_T_join_0 rfl (lv_at hl 0 rfl) ?_
  refine lv_iload_n hx hb d_T_join_1 rfl (lv_at hl 1 rfl) ?_
  exact x_call (vx_runV (As := [.int x]) (rest := []) ⟨hx, hb, hml, hown, hw⟩ (k_T_spanNumbered_x l hl9 D T κ A aa zw kp fp e0 e1 oF oT kt ft ks fs fc S s.heap.size x hy0) (cwV 1 hw (bg_V ml_T_141 wi_T_spanNumbered wv_T_spanNumbered wz_T wc_T_spanNumbered) rfl rfl rfl (by decide +kernel) ⟨Nat.le_of_ble_eq_true rfl, Nat.le_of_ble_eq_true rfl⟩) ⟨xPf_b, va_recv hK hP (ci := 5) (q0 := 0) rfl rfl, xPf_p hP hK hF hS⟩ rfl rfl hl.1 rfl (lv_room (Nat.le_of_ble_eq_true rfl)) d_T_join_2 ⟨Nat.le_of_ble_eq_true rfl, Nat.le_of_ble_eq_true rfl⟩) htab hlocks

set_option maxHeartbeats 4000000 in
set_option maxRecDepth 100000 in
theorem k_T_join_y (l : Launch) (hl9 : l.stackTraces = false) (D : va_G) (T : gT) (κ : gS) (A : Nat → Prop) (aa : Nat → Nat) (zw : Int32) (kp : Nat) (fp : Nat → Int32) (e0 e1 : Int32) (oF oT : Bool) (kt : Nat) (ft : Nat → Int32) (ks : Nat) (fs fc : Nat → Int32) (S : tS) (sz : Nat) (j : Nat) (q : spD) (x2 : Int32) (hy0 : tOk κ S) (hy1 : S.2.2.2[j]? = some q) (hy2 : j_ix x2 (nI S.2.2.2.length) = false) : vx_Met l y_T_join (Cond.code y_T_join b_T_join 5 (some .int) :: bg_W) ({ frames := 8, cells := 1, slots := 6, locals := 131 }) (xPf κ A D T (cX T aa zw kp fp e0 e1 oF oT kt ft ks fs fc S ++ tl T S) [.ref (aa 0), .int (nI j), .int x2] sz) xN (xE "java/lang/IndexOutOfBoundsException" sz) 1 6 (fun q => sz ≤ q) := by
  refine vx_ofW (cc := b_T_join) (maxL := 5) (ret := (some .int)) (by decide) rfl ?_
  intro p e s m args below meth c s₁ B hml htab hv
  obtain ⟨rfl, hsz, hP, hK, hF⟩ := hv
  have hx := B.exec
  have hb := B.bytes
  have hr := B.returns
  have hw : ∀ w ∈ bg_W, w.before ([.ref (aa 0), .int (nI j), .int x2] : List Value).toArray s = true := fun w h => atoms_spec (ws := (Cond.code y_T_join b_T_join 5 (some .int) :: bg_W)) B.pre w (List.mem_cons_of_mem _ h)
  have hown : s.vm.findClass "TimeWords" = some m.cls := findClass_of_methodNamed B.named
  have hlocks := B.notSynchronized
  subst hsz
  have hS : va_S A s.heap s.heap [] := va_S.rf
  have hl := lv_entry ([.ref (aa 0), .int (nI j), .int x2]) (n := 5) (Nat.le_of_ble_eq_true rfl)
  rw [lg_entry_eq]
  generalize (lg_sl ([.ref (aa 0), .int (nI j), .int x2]) ++ List.replicate (5 - (lg_sl ([.ref (aa 0), .int (nI j), .int x2])).length) Slot.unset).toArray = ls at hl ⊢
  have hl : lv_has ls 5 [(0, .ref (aa 0)), (1, .int (nI j)), (2, .int x2)] := hl
  have hL1 : S.2.1.length ≤ 24 := hy0.2.2.2.1
  have hL2 : S.2.2.2.length ≤ 60 := hy0.2.2.2.2
  obtain ⟨hs1, hs2, hs3, hs4, hs5⟩ := sp_at hy0 hy1
  refine lv_aload_n hx hb d_T_join_0 rfl (lv_at hl 0 rfl) ?_
  refine lv_iload_n hx hb d_T_join_1 rfl (lv_at hl 1 rfl) ?_
  refine va_csq (va_Run.run (va_runV (As := [.int (nI j)]) (rest := []) ⟨hx, hb, hml, hown, hw⟩ (k_T_spanNumbered l D T κ A aa zw kp fp e0 e1 oF oT kt ft ks fs fc S j q hy0 hy1) (cwV 1 hw (bg_V ml_T_141 wi_T_spanNumbered wv_T_spanNumbered wz_T wc_T_spanNumbered) rfl rfl rfl (by decide +kernel) ⟨Nat.le_of_ble_eq_true rfl, Nat.le_of_ble_eq_true rfl⟩) ⟨sPf_b, va_recv hK hP (ci := 5) (q0 := 0) rfl rfl, sPf_p hP hK hF hS⟩ rfl rfl hl.1 rfl (lv_room (Nat.le_of_ble_eq_true rfl)) d_T_join_2 ⟨Nat.le_of_ble_eq_true rfl, Nat.le_of_ble_eq_true rfl⟩)) (fun r1 hr1 => ?_)
  replace hr1 := hr1.symm; subst hr1
  refine W.eq (g2 := F0 m 5 ls [.ref q.1]) rfl ?_
  refine lv_astore_n (lv' := [(3, .ref q.1), (0, .ref (aa 0)), (1, .int (nI j)), (2, .int x2)]) hx hb d_T_join_5 rfl hl (by decide) rfl (fun ls hl => ?_)
  refine lv_aload_n hx hb d_T_join_6 rfl (lv_at hl 1 rfl) ?_
  refine lv_iload_n hx hb d_T_join_7 rfl (lv_at hl 3 rfl) ?_
  exact x_call (vx_runV (As := [.int x2]) (rest := []) ⟨hx, hb, hml, hown, hw⟩ (k_T_spanNumbered_x l hl9 D T κ A aa zw kp fp e0 e1 oF oT kt ft ks fs fc S s.heap.size x2 hy2) (cwV 1 hw (bg_V ml_T_141 wi_T_spanNumbered wv_T_spanNumbered wz_T wc_T_spanNumbered) rfl rfl rfl (by decide +kernel) ⟨Nat.le_of_ble_eq_true rfl, Nat.le_of_ble_eq_true rfl⟩) ⟨xPf_b, va_recv hK hP (ci := 5) (q0 := 0) rfl rfl, xPf_p hP hK hF hS⟩ rfl rfl hl.1 rfl (lv_room (Nat.le_of_ble_eq_true rfl)) d_T_join_8 ⟨Nat.le_of_ble_eq_true rfl, Nat.le_of_ble_eq_true rfl⟩) htab hlocks

set_option maxHeartbeats 4000000 in
set_option maxRecDepth 100000 in
theorem k_T_join_z (l : Launch) (hl9 : l.stackTraces = false) (D : va_G) (T : gT) (κ : gS) (A : Nat → Prop) (aa : Nat → Nat) (zw : Int32) (kp : Nat) (fp : Nat → Int32) (e0 e1 : Int32) (oF oT : Bool) (kt : Nat) (ft : Nat → Int32) (ks : Nat) (fs fc : Nat → Int32) (S : tS) (sz : Nat) (j : Nat) (q : spD) (j2 : Nat) (q2 : spD) (hy0 : tOk κ S) (hy1 : S.2.2.2[j]? = some q) (hy2 : S.2.2.2[j2]? = some q2) (hy3 : S.2.2.2.length = 60) : vx_Met l y_T_join (Cond.code y_T_join b_T_join 5 (some .int) :: bg_W) ({ frames := 8, cells := 1, slots := 6, locals := 130 }) (xPf κ A D T (cX T aa zw kp fp e0 e1 oF oT kt ft ks fs fc S ++ tl T S) [.ref (aa 0), .int (nI j), .int (nI j2)] sz) xN (xE "java/lang/IllegalStateException" sz) 1 6 (fun q => sz ≤ q) := by
  refine vx_ofW (cc := b_T_join) (maxL := 5) (ret := (some .int)) (by decide) rfl ?_
  intro p e s m args below meth c s₁ B hml htab hv
  obtain ⟨rfl, hsz, hP, hK, hF⟩ := hv
  have hx := B.exec
  have hb := B.bytes
  have hr := B.returns
  have hw : ∀ w ∈ bg_W, w.before ([.ref (aa 0), .int (nI j), .int (nI j2)] : List Value).toArray s = true := fun w h => atoms_spec (ws := (Cond.code y_T_join b_T_join 5 (some .int) :: bg_W)) B.pre w (List.mem_cons_of_mem _ h)
  have hown : s.vm.findClass "TimeWords" = some m.cls := findClass_of_methodNamed B.named
  have hlocks := B.notSynchronized
  subst hsz
  have hS : va_S A s.heap s.heap [] := va_S.rf
  have hl := lv_entry ([.ref (aa 0), .int (nI j), .int (nI j2)]) (n := 5) (Nat.le_of_ble_eq_true rfl)
  rw [lg_entry_eq]
  generalize (lg_sl ([.ref (aa 0), .int (nI j), .int (nI j2)]) ++ List.replicate (5 - (lg_sl ([.ref (aa 0), .int (nI j), .int (nI j2)])).length) Slot.unset).toArray = ls at hl ⊢
  have hl : lv_has ls 5 [(0, .ref (aa 0)), (1, .int (nI j)), (2, .int (nI j2))] := hl
  have hL1 : S.2.1.length ≤ 24 := hy0.2.2.2.1
  have hL2 : S.2.2.2.length ≤ 60 := hy0.2.2.2.2
  obtain ⟨hs1, hs2, hs3, hs4, hs5⟩ := sp_at hy0 hy1
  obtain ⟨ht1, ht2, ht3, ht4, ht5⟩ := sp_at hy0 hy2
  refine lv_aload_n hx hb d_T_join_0 rfl (lv_at hl 0 rfl) ?_
  refine lv_iload_n hx hb d_T_join_1 rfl (lv_at hl 1 rfl) ?_
  refine va_csq (va_Run.run (va_runV (As := [.int (nI j)]) (rest := []) ⟨hx, hb, hml, hown, hw⟩ (k_T_spanNumbered l D T κ A aa zw kp fp e0 e1 oF oT kt ft ks fs fc S j q hy0 hy1) (cwV 1 hw (bg_V ml_T_141 wi_T_spanNumbered wv_T_spanNumbered wz_T wc_T_spanNumbered) rfl rfl rfl (by decide +kernel) ⟨Nat.le_of_ble_eq_true rfl, Nat.le_of_ble_eq_true rfl⟩) ⟨sPf_b, va_recv hK hP (ci := 5) (q0 := 0) rfl rfl, sPf_p hP hK hF hS⟩ rfl rfl hl.1 rfl (lv_room (Nat.le_of_ble_eq_true rfl)) d_T_join_2 ⟨Nat.le_of_ble_eq_true rfl, Nat.le_of_ble_eq_true rfl⟩)) (fun r1 hr1 => ?_)
  replace hr1 := hr1.symm; subst hr1
  refine W.eq (g2 := F0 m 5 ls [.ref q.1]) rfl ?_
  refine lv_astore_n (lv' := [(3, .ref q.1), (0, .ref (aa 0)), (1, .int (nI j)), (2, .int (nI j2))]) hx hb d_T_join_5 rfl hl (by decide) rfl (fun ls hl => ?_)
  refine lv_aload_n hx hb d_T_join_6 rfl (lv_at hl 1 rfl) ?_
  refine lv_iload_n hx hb d_T_join_7 rfl (lv_at hl 3 rfl) ?_
  refine va_csq (va_Run.run (va_runV (As := [.int (nI j2)]) (rest := []) ⟨hx, hb, hml, hown, hw⟩ (k_T_spanNumbered l D T κ A aa zw kp fp e0 e1 oF oT kt ft ks fs fc S j2 q2 hy0 hy2) (cwV 1 hw (bg_V ml_T_141 wi_T_spanNumbered wv_T_spanNumbered wz_T wc_T_spanNumbered) rfl rfl rfl (by decide +kernel) ⟨Nat.le_of_ble_eq_true rfl, Nat.le_of_ble_eq_true rfl⟩) ⟨sPf_b, va_recv hK hP (ci := 5) (q0 := 0) rfl rfl, sPf_p hP hK hF hS⟩ rfl rfl hl.1 rfl (lv_room (Nat.le_of_ble_eq_true rfl)) d_T_join_8 ⟨Nat.le_of_ble_eq_true rfl, Nat.le_of_ble_eq_true rfl⟩)) (fun r2 hr2 => ?_)
  replace hr2 := hr2.symm; subst hr2
  refine W.eq (g2 := F0 m 11 ls [.ref q2.1]) rfl ?_
  refine lv_astore (lv' := [(4, .ref q2.1), (3, .ref q.1), (0, .ref (aa 0)), (1, .int (nI j)), (2, .int (nI j2))]) hx hb d_T_join_11 hl (by decide) rfl (fun ls hl => ?_)
  refine lv_aload_n hx hb d_T_join_13 rfl (lv_at hl 2 rfl) ?_
  exact x_call (vx_runV (As := []) (rest := []) ⟨hx, hb, hml, hown, hw⟩ (k_T_checkRoomForSpan_x l hl9 D T κ A aa zw kp fp e0 e1 oF oT kt ft ks fs fc S s.heap.size hy3) (cwV 0 hw (bg_V ml_T_128 wi_T_checkRoomForSpan wv_T_checkRoomForSpan wz_T wc_T_checkRoomForSpan) rfl rfl rfl (by decide +kernel) ⟨Nat.le_of_ble_eq_true rfl, Nat.le_of_ble_eq_true rfl⟩) ⟨xPf_b, va_recv hK hP (ci := 5) (q0 := 0) rfl rfl, xPf_p hP hK hF hS⟩ rfl rfl hl.1 rfl (lv_room (Nat.le_of_ble_eq_true rfl)) d_T_join_14 ⟨Nat.le_of_ble_eq_true rfl, Nat.le_of_ble_eq_true rfl⟩) htab hlocks

set_option maxHeartbeats 4000000 in
set_option maxRecDepth 100000 in
theorem k_T_read (l : Launch) (D : va_G) (T : gT) (κ : gS) (aa : Nat → Nat) (zw : Int32) (kp : Nat) (fp : Nat → Int32) (e0 e1 : Int32) (oF oT : Bool) (kt : Nat) (ft : Nat → Int32) (ks : Nat) (fs fc : Nat → Int32) (S : tS) (sz : Nat) (x y : Int32) (co : Nat → Option jS) (hy0 : tOk κ S) (hy1 : j_in x 0 7 = true) (hy2 : j_in y 0 100000 = true) (hy3 : S.2.2.2.length < 60) (hy4 : kp ≤ 24) (hy5 : lOk S) (hy6 : 0 ≤ zw.toInt) (hy7 : zw.toInt ≤ 1000) (hy8 : c_co fp kp S x y co) : Met l y_T_read (Cond.code y_T_read b_T_read 4 (some .int) :: bg_W) ({ frames := 12, cells := 2, slots := 94, locals := 288 }) (qPf κ D T (cX T aa zw kp fp e0 e1 oF oT kt ft ks fs fc S ++ tl T S) [.ref (aa 0), .int x, .int y] sz) (va_Qi (fun (r : Int32) (u : Int32 × Int32 × Bool × Bool × Nat × tS) => match u with | (w0, w1, v2, v3, kp1, S1) => kp1 = 0 ∧ ((∃ uj, j_wd (j_fb fp kp) co (j_ap zw) 5 0 = some uj ∧ jOk uj ∧ r = nI S.2.2.2.length ∧ spP κ S (j_lo uj.2.2 uj.1) (j_hi uj.2.2 uj.2.1) (j_op uj.2.2 0) (j_op uj.2.2 1) S1) ∨ (j_wd (j_fb fp kp) co (j_ap zw) 5 0 = none ∧ r = -1 ∧ S1 = S))) (qB D T (va_A (cX T aa zw kp fp e0 e1 oF oT kt ft ks fs fc S ++ tl T S) sz) (fun u : Int32 × Int32 × Bool × Bool × Nat × tS => match u with | (w0, w1, v2, v3, kp1, S1) => cX T aa zw kp1 fp w0 w1 v2 v3 kt ft ks fs fc S1 ++ tl T S1)) (va_A (cX T aa zw kp fp e0 e1 oF oT kt ft ks fs fc S ++ tl T S) sz)) 2 94 (va_A (cX T aa zw kp fp e0 e1 oF oT kt ft ks fs fc S ++ tl T S) sz) := by
  refine Met.ofW (cc := b_T_read) (maxL := 4) (ret := (some .int)) (by decide) rfl ?_
  intro p e s m args below meth c s₁ B hml hv
  obtain ⟨rfl, hsz, hP, hK, hD0, hF⟩ := hv
  have hx := B.exec
  have hb := B.bytes
  have hr := B.returns
  have hw : ∀ w ∈ bg_W, w.before ([.ref (aa 0), .int x, .int y] : List Value).toArray s = true := fun w h => atoms_spec (ws := (Cond.code y_T_read b_T_read 4 (some .int) :: bg_W)) B.pre w (List.mem_cons_of_mem _ h)
  have hown : s.vm.findClass "TimeWords" = some m.cls := findClass_of_methodNamed B.named
  have hlocks := B.notSynchronized
  subst hsz
  have hD := hD0.self (sz := s.heap.size)
  generalize hAe : va_A (cX T aa zw kp fp e0 e1 oF oT kt ft ks fs fc S ++ tl T S) s.heap.size = A at hD hF ⊢
  have hA : ∀ q : Nat, s.heap.size ≤ q → A q := fun q h => by rw [← hAe]; exact Or.inr h
  have hS : va_S A s.heap s.heap [] := va_S.rf
  have hl := lv_entry ([.ref (aa 0), .int x, .int y]) (n := 4) (Nat.le_of_ble_eq_true rfl)
  rw [lg_entry_eq]
  generalize (lg_sl ([.ref (aa 0), .int x, .int y]) ++ List.replicate (4 - (lg_sl ([.ref (aa 0), .int x, .int y])).length) Slot.unset).toArray = ls at hl ⊢
  have hl : lv_has ls 4 [(0, .ref (aa 0)), (1, .int x), (2, .int y)] := hl
  refine lv_iload_n hx hb d_T_read_0 rfl (lv_at hl 1 rfl) ?_
  refine va_csv (va_Run.run (va_runS (As := [.int x]) (rest := []) ⟨hx, hb, hml, hown, hw⟩ (k_T_checkPlace l x hy1) (va_cwS 1 hw (bg_S ml_T_110 wt_T_checkPlace wz_T wc_T_checkPlace) rfl rfl rfl (by decide +kernel) ⟨Nat.le_of_ble_eq_true rfl, Nat.le_of_ble_eq_true rfl⟩) ⟨nP_b, nP_p⟩ rfl rfl hl.1 rfl (lv_room (Nat.le_of_ble_eq_true rfl)) d_T_read_1 ⟨Nat.le_of_ble_eq_true rfl, Nat.le_of_ble_eq_true rfl⟩)) (fun hr1 => ?_)
  refine lv_iload_n hx hb d_T_read_4 rfl (lv_at hl 2 rfl) ?_
  refine va_csv (va_Run.run (va_runS (As := [.int y]) (rest := []) ⟨hx, hb, hml, hown, hw⟩ (k_T_checkDay l y hy2) (va_cwS 1 hw (bg_S ml_T_113 wt_T_checkDay wz_T wc_T_checkDay) rfl rfl rfl (by decide +kernel) ⟨Nat.le_of_ble_eq_true rfl, Nat.le_of_ble_eq_true rfl⟩) ⟨nP_b, nP_p⟩ rfl rfl hl.1 rfl (lv_room (Nat.le_of_ble_eq_true rfl)) d_T_read_5 ⟨Nat.le_of_ble_eq_true rfl, Nat.le_of_ble_eq_true rfl⟩)) (fun hr2 => ?_)
  refine lv_aload_n hx hb d_T_read_8 rfl (lv_at hl 0 rfl) ?_
  refine va_csv (va_Run.run (va_runV (As := []) (rest := []) ⟨hx, hb, hml, hown, hw⟩ (k_T_checkRoomForSpan l D T κ A aa zw kp fp e0 e1 oF oT kt ft ks fs fc S hy3) (cwV 0 hw (bg_V ml_T_128 wi_T_checkRoomForSpan wv_T_checkRoomForSpan wz_T wc_T_checkRoomForSpan) rfl rfl rfl (by decide +kernel) ⟨Nat.le_of_ble_eq_true rfl, Nat.le_of_ble_eq_true rfl⟩) ⟨sPf_b, va_recv hK hP (ci := 5) (q0 := 0) rfl rfl, sPf_p hP hK hF hS⟩ rfl rfl hl.1 rfl (lv_room (Nat.le_of_ble_eq_true rfl)) d_T_read_9 ⟨Nat.le_of_ble_eq_true rfl, Nat.le_of_ble_eq_true rfl⟩)) (fun hr3 => ?_)
  refine lv_aload_n hx hb d_T_read_12 rfl (lv_at hl 0 rfl) ?_
  refine lv_iconst (v := 0) hx hb d_T_read_13 (by decide) ?_
  refine lv_iconst (v := 0) hx hb d_T_read_14 (by decide) ?_
  refine lv_iload_n hx hb d_T_read_15 rfl (lv_at hl 1 rfl) ?_
  refine lv_iload_n hx hb d_T_read_16 rfl (lv_at hl 2 rfl) ?_
  refine g_calli (va_runV (As := [.int 0, .int 0, .int x, .int y]) (rest := []) ⟨hx, hb, hml, hown, hw⟩ (k_T_findWordFrom_a0 l D T κ aa zw kp fp e0 e1 oF oT kt ft ks fs fc S s.heap.size 0 x y co hy0 hy4 (Nat.zero_le _) hy5 hy6 hy7 hy8) (cwV 4 hw (bg_V ml_T_131 wi_T_findWordFrom wv_T_findWordFrom wz_T wc_T_findWordFrom) rfl rfl rfl (by decide +kernel) ⟨Nat.le_of_ble_eq_true rfl, Nat.le_of_ble_eq_true rfl⟩) ⟨qPf_b, va_recv hK hP (ci := 5) (q0 := 0) rfl rfl, qPf_p hP hK hD hF hS (g_free hD hS hA)⟩ rfl rfl hl.1 rfl (lv_room (Nat.le_of_ble_eq_true rfl)) d_T_read_17 ⟨Nat.le_of_ble_eq_true rfl, Nat.le_of_ble_eq_true rfl⟩) hD hS hA (fun r4 u9 H locs hr4 hP hD hS => ?_)
  obtain ⟨u5, u6, u7, u8⟩ := u9
  dsimp only at hr4 hP hD
  have hP : va_P D gC (cX T aa zw kp fp u5 u6 u7 u8 kt ft ks fs fc S ++ tl T S) H := hP
  have hD : va_D A (cX T aa zw kp fp u5 u6 u7 u8 kt ft ks fs fc S ++ tl T S) := hD
  rcases hr4 with ⟨g0, g1⟩ | ⟨g0, g1⟩
  · subst g0
    obtain ⟨uj, hu1, hu2, hu3, hu4, hu5, hu6⟩ := g1
    refine lv_istore_n (lv' := [(3, .int 1), (0, .ref (aa 0)), (1, .int x), (2, .int y)]) hx hb d_T_read_20 rfl hl (by decide) rfl (fun ls hl => ?_)
    refine lv_aload_n hx hb d_T_read_21 rfl (lv_at hl 1 rfl) ?_
    refine va_get (D := D) (ci := 5) (v := .ref (aa 1)) (C := "TimeWords") (T := F_T) (N := 8) hx hb hw in_T hown hK hP 0 rfl rfl 0 (by decide) (hw _ fl_T_14) (fun _ h9 => h9) rfl d_T_read_22 ?_
    have hPc : va_P D gC ([(aa 1, .inr (1, [.ref (aa 2), .int (nI kp)])), (aa 2, .inl (T.1, 24, .inl fp))]) H := (pc1 (hP 1 _ rfl) (pc1 (hP 2 _ rfl) pc0))
    have hDc : va_D A ([(aa 1, .inr (1, [.ref (aa 2), .int (nI kp)])), (aa 2, .inl (T.1, 24, .inl fp))]) := by have h9 := hD.part (cx := [(aa 1, .inr (1, [.ref (aa 2), .int (nI kp)])), (aa 2, .inl (T.1, 24, .inl fp))]) [1, 2] (by decide) rfl; exact dl_l h9
    refine g_subv (X := cX T aa zw kp fp u5 u6 u7 u8 kt ft ks fs fc S) (pl := tl T S) (wr := [(aa 0, .inr (5, [.ref (aa 1), .ref S.1.1, .ref S.2.2.1.1, .int zw, .ref (aa 3), .ref (aa 4), .ref (aa 6), .ref (aa 8)])), (aa 3, .inr (2, [.int u5, .int u6, .int (b2i u7), .int (b2i u8)])), (aa 4, .inr (1, [.ref (aa 5), .int (nI kt)])), (aa 5, .inl (T.1, 24, .inl ft)), (aa 6, .inr (1, [.ref (aa 7), .int (nI ks)])), (aa 7, .inl (T.1, 24, .inl fs)), (aa 8, .inl (T.1, 9, .inl fc)), (S.1.1, .inr (0, [.ref S.1.2.1, .int (nI S.2.1.length), .int S.1.2.2.1])), (S.2.2.1.1, .inr (0, [.ref S.2.2.1.2.1, .int (nI S.2.2.2.length), .int S.2.2.1.2.2.1]))]) (cx := [(aa 1, .inr (1, [.ref (aa 2), .int (nI kp)])), (aa 2, .inl (T.1, 24, .inl fp))]) (va_runV (As := []) (rest := []) ⟨hx, hb, hml, hown, hw⟩ (k_R_empty l D T (aa 1) (aa 2) kp 24 fp H.size) (cwV 0 hw (bg_V ml_T_73 wi_R_empty wv_R_empty wz_R wc_R_empty) rfl rfl rfl (by decide +kernel) ⟨Nat.le_of_ble_eq_true rfl, Nat.le_of_ble_eq_true rfl⟩) ⟨qP_b, va_recv hK hPc (ci := 1) (q0 := 0) rfl rfl, qP_p hPc hK hDc⟩ rfl rfl hl.1 rfl (lv_room (Nat.le_of_ble_eq_true rfl)) d_T_read_25 ⟨Nat.le_of_ble_eq_true rfl, Nat.le_of_ble_eq_true rfl⟩) hP hD hS hA [1, 2] [0, 3, 4, 5, 6, 7, 8, 9, 10] rfl rfl (by decide) (by decide) (fun u10 H locs hr9 hP hD hS => ?_)
    have q0 := hr9
    replace q0 := q0.symm; subst q0
    have hP : va_P D gC (cX T aa zw 0 fp u5 u6 u7 u8 kt ft ks fs fc S ++ tl T S) H := hP.part (cx := cX T aa zw 0 fp u5 u6 u7 u8 kt ft ks fs fc S) [0, 9, 10, 1, 2, 3, 4, 5, 6, 7, 8] rfl
    have hD : va_D A (cX T aa zw 0 fp u5 u6 u7 u8 kt ft ks fs fc S ++ tl T S) := hD.part (cx := cX T aa zw 0 fp u5 u6 u7 u8 kt ft ks fs fc S) [0, 9, 10, 1, 2, 3, 4, 5, 6, 7, 8] (by decide) rfl
    refine lv_iload_n hx hb d_T_read_28 rfl (lv_at hl 0 rfl) ?_
    refine lv_if_eq (tgt := 39) hx hb d_T_read_29 (by decide) (fun c11 => absurd c11 (by decide)) (fun c11 => ?_)
    refine lv_aload_n hx hb d_T_read_32 rfl (lv_at hl 1 rfl) ?_
    refine g_calli (va_runV (As := []) (rest := []) ⟨hx, hb, hml, hown, hw⟩ (k_T_keepFound l D T κ aa zw 0 fp u5 u6 u7 u8 kt ft ks fs fc S H.size hy0 hy3) (cwV 0 hw (bg_V ml_T_135 wi_T_keepFound wv_T_keepFound wz_T wc_T_keepFound) rfl rfl rfl (by decide +kernel) ⟨Nat.le_of_ble_eq_true rfl, Nat.le_of_ble_eq_true rfl⟩) ⟨qPf_b, va_recv hK hP (ci := 5) (q0 := 0) rfl rfl, qPf_p hP hK hD hF hS (g_free hD hS hA)⟩ rfl rfl hl.1 rfl (lv_room (Nat.le_of_ble_eq_true rfl)) d_T_read_33 ⟨Nat.le_of_ble_eq_true rfl, Nat.le_of_ble_eq_true rfl⟩) hD hS hA (fun r12 u13 H locs hr12 hP hD hS => ?_)
    have hP : va_P D gC (cX T aa zw 0 fp u5 u6 u7 u8 kt ft ks fs fc u13 ++ tl T u13) H := hP
    have hD : va_D A (cX T aa zw 0 fp u5 u6 u7 u8 kt ft ks fs fc u13 ++ tl T u13) := hD
    refine lv_goto (tgt := 40) hx hb d_T_read_36 (by decide) ?_
    exact W.iret (v := r12) hx hb hr (fun t ht hW => ⟨⟨r12, (u5, u6, u7, u8, 0, u13), rfl, ⟨rfl, Or.inl ⟨uj, hu1, hu2, hr12.1, by have h9 := hr12.2; rw [hu3, hu4, hu5, hu6] at h9; exact h9⟩⟩, by rw [ht]; exact hP, va_K.moved hW.alike hK, hD⟩, hS.F ht⟩) hS.2.2 d_T_read_40
  · subst g0
    refine lv_istore_n (lv' := [(3, .int 0), (0, .ref (aa 0)), (1, .int x), (2, .int y)]) hx hb d_T_read_20 rfl hl (by decide) rfl (fun ls hl => ?_)
    refine lv_aload_n hx hb d_T_read_21 rfl (lv_at hl 1 rfl) ?_
    refine va_get (D := D) (ci := 5) (v := .ref (aa 1)) (C := "TimeWords") (T := F_T) (N := 8) hx hb hw in_T hown hK hP 0 rfl rfl 0 (by decide) (hw _ fl_T_14) (fun _ h9 => h9) rfl d_T_read_22 ?_
    have hPc : va_P D gC ([(aa 1, .inr (1, [.ref (aa 2), .int (nI kp)])), (aa 2, .inl (T.1, 24, .inl fp))]) H := (pc1 (hP 1 _ rfl) (pc1 (hP 2 _ rfl) pc0))
    have hDc : va_D A ([(aa 1, .inr (1, [.ref (aa 2), .int (nI kp)])), (aa 2, .inl (T.1, 24, .inl fp))]) := by have h9 := hD.part (cx := [(aa 1, .inr (1, [.ref (aa 2), .int (nI kp)])), (aa 2, .inl (T.1, 24, .inl fp))]) [1, 2] (by decide) rfl; exact dl_l h9
    refine g_subv (X := cX T aa zw kp fp u5 u6 u7 u8 kt ft ks fs fc S) (pl := tl T S) (wr := [(aa 0, .inr (5, [.ref (aa 1), .ref S.1.1, .ref S.2.2.1.1, .int zw, .ref (aa 3), .ref (aa 4), .ref (aa 6), .ref (aa 8)])), (aa 3, .inr (2, [.int u5, .int u6, .int (b2i u7), .int (b2i u8)])), (aa 4, .inr (1, [.ref (aa 5), .int (nI kt)])), (aa 5, .inl (T.1, 24, .inl ft)), (aa 6, .inr (1, [.ref (aa 7), .int (nI ks)])), (aa 7, .inl (T.1, 24, .inl fs)), (aa 8, .inl (T.1, 9, .inl fc)), (S.1.1, .inr (0, [.ref S.1.2.1, .int (nI S.2.1.length), .int S.1.2.2.1])), (S.2.2.1.1, .inr (0, [.ref S.2.2.1.2.1, .int (nI S.2.2.2.length), .int S.2.2.1.2.2.1]))]) (cx := [(aa 1, .inr (1, [.ref (aa 2), .int (nI kp)])), (aa 2, .inl (T.1, 24, .inl fp))]) (va_runV (As := []) (rest := []) ⟨hx, hb, hml, hown, hw⟩ (k_R_empty l D T (aa 1) (aa 2) kp 24 fp H.size) (cwV 0 hw (bg_V ml_T_73 wi_R_empty wv_R_empty wz_R wc_R_empty) rfl rfl rfl (by decide +kernel) ⟨Nat.le_of_ble_eq_true rfl, Nat.le_of_ble_eq_true rfl⟩) ⟨qP_b, va_recv hK hPc (ci := 1) (q0 := 0) rfl rfl, qP_p hPc hK hDc⟩ rfl rfl hl.1 rfl (lv_room (Nat.le_of_ble_eq_true rfl)) d_T_read_25 ⟨Nat.le_of_ble_eq_true rfl, Nat.le_of_ble_eq_true rfl⟩) hP hD hS hA [1, 2] [0, 3, 4, 5, 6, 7, 8, 9, 10] rfl rfl (by decide) (by decide) (fun u15 H locs hr14 hP hD hS => ?_)
    have q0 := hr14
    replace q0 := q0.symm; subst q0
    have hP : va_P D gC (cX T aa zw 0 fp u5 u6 u7 u8 kt ft ks fs fc S ++ tl T S) H := hP.part (cx := cX T aa zw 0 fp u5 u6 u7 u8 kt ft ks fs fc S) [0, 9, 10, 1, 2, 3, 4, 5, 6, 7, 8] rfl
    have hD : va_D A (cX T aa zw 0 fp u5 u6 u7 u8 kt ft ks fs fc S ++ tl T S) := hD.part (cx := cX T aa zw 0 fp u5 u6 u7 u8 kt ft ks fs fc S) [0, 9, 10, 1, 2, 3, 4, 5, 6, 7, 8] (by decide) rfl
    refine lv_iload_n hx hb d_T_read_28 rfl (lv_at hl 0 rfl) ?_
    refine lv_if_eq (tgt := 39) hx hb d_T_read_29 (by decide) (fun c16 => ?_) (fun c16 => absurd c16 (by decide))
    refine lv_iconst (v := (-1)) hx hb d_T_read_39 (by decide) ?_
    refine W.widen (k := 2) (n := 94) (by omega) (by omega) ?_
    exact W.iret (v := (-1)) hx hb hr (fun t ht hW => ⟨⟨(-1), (u5, u6, u7, u8, 0, S), rfl, ⟨rfl, Or.inr ⟨g1, rfl, rfl⟩⟩, by rw [ht]; exact hP, va_K.moved hW.alike hK, hD⟩, hS.F ht⟩) hS.2.2 d_T_read_40

set_option maxHeartbeats 4000000 in
set_option maxRecDepth 100000 in
theorem k_T_read_x (l : Launch) (hl9 : l.stackTraces = false) (D : va_G) (T : gT) (κ : gS) (A : Nat → Prop) (aa : Nat → Nat) (zw : Int32) (kp : Nat) (fp : Nat → Int32) (e0 e1 : Int32) (oF oT : Bool) (kt : Nat) (ft : Nat → Int32) (ks : Nat) (fs fc : Nat → Int32) (S : tS) (sz : Nat) (x y : Int32) (hy0 : j_in x 0 7 = false) : vx_Met l y_T_read (Cond.code y_T_read b_T_read 4 (some .int) :: bg_W) ({ frames := 8, cells := 1, slots := 6, locals := 130 }) (xPf κ A D T (cX T aa zw kp fp e0 e1 oF oT kt ft ks fs fc S ++ tl T S) [.ref (aa 0), .int x, .int y] sz) xN (xE "java/lang/IndexOutOfBoundsException" sz) 1 6 (fun q => sz ≤ q) := by
  refine vx_ofW (cc := b_T_read) (maxL := 4) (ret := (some .int)) (by decide) rfl ?_
  intro p e s m args below meth c s₁ B hml htab hv
  obtain ⟨rfl, hsz, hP, hK, hF⟩ := hv
  have hx := B.exec
  have hb := B.bytes
  have hr := B.returns
  have hw : ∀ w ∈ bg_W, w.before ([.ref (aa 0), .int x, .int y] : List Value).toArray s = true := fun w h => atoms_spec (ws := (Cond.code y_T_read b_T_read 4 (some .int) :: bg_W)) B.pre w (List.mem_cons_of_mem _ h)
  have hown : s.vm.findClass "TimeWords" = some m.cls := findClass_of_methodNamed B.named
  have hlocks := B.notSynchronized
  subst hsz
  have hS : va_S A s.heap s.heap [] := va_S.rf
  have hl := lv_entry ([.ref (aa 0), .int x, .int y]) (n := 4) (Nat.le_of_ble_eq_true rfl)
  rw [lg_entry_eq]
  generalize (lg_sl ([.ref (aa 0), .int x, .int y]) ++ List.replicate (4 - (lg_sl ([.ref (aa 0), .int x, .int y])).length) Slot.unset).toArray = ls at hl ⊢
  have hl : lv_has ls 4 [(0, .ref (aa 0)), (1, .int x), (2, .int y)] := hl
  refine lv_iload_n hx hb d_T_read_0 rfl (lv_at hl 1 rfl) ?_
  have hPc : va_P D gC ([]) s.heap := pc0
  exact x_call (vx_runS (As := [.int x]) (rest := []) ⟨hx, hb, hml, hown, hw⟩ (k_T_checkPlace_x l hl9 D T κ A s.heap.size x hy0) (va_cwS 1 hw (bg_S ml_T_110 wt_T_checkPlace wz_T wc_T_checkPlace) rfl rfl rfl (by decide +kernel) ⟨Nat.le_of_ble_eq_true rfl, Nat.le_of_ble_eq_true rfl⟩) ⟨xPf_b, xPf_p hPc hK hF hS⟩ rfl rfl hl.1 rfl (lv_room (Nat.le_of_ble_eq_true rfl)) d_T_read_1 ⟨Nat.le_of_ble_eq_true rfl, Nat.le_of_ble_eq_true rfl⟩) htab hlocks

set_option maxHeartbeats 4000000 in
set_option maxRecDepth 100000 in
theorem k_T_read_y (l : Launch) (hl9 : l.stackTraces = false) (D : va_G) (T : gT) (κ : gS) (A : Nat → Prop) (aa : Nat → Nat) (zw : Int32) (kp : Nat) (fp : Nat → Int32) (e0 e1 : Int32) (oF oT : Bool) (kt : Nat) (ft : Nat → Int32) (ks : Nat) (fs fc : Nat → Int32) (S : tS) (sz : Nat) (x y : Int32) (hy0 : j_in x 0 7 = true) (hy1 : j_in y 0 100000 = false) : vx_Met l y_T_read (Cond.code y_T_read b_T_read 4 (some .int) :: bg_W) ({ frames := 8, cells := 1, slots := 6, locals := 130 }) (xPf κ A D T (cX T aa zw kp fp e0 e1 oF oT kt ft ks fs fc S ++ tl T S) [.ref (aa 0), .int x, .int y] sz) xN (xE "java/lang/IllegalArgumentException" sz) 1 6 (fun q => sz ≤ q) := by
  refine vx_ofW (cc := b_T_read) (maxL := 4) (ret := (some .int)) (by decide) rfl ?_
  intro p e s m args below meth c s₁ B hml htab hv
  obtain ⟨rfl, hsz, hP, hK, hF⟩ := hv
  have hx := B.exec
  have hb := B.bytes
  have hr := B.returns
  have hw : ∀ w ∈ bg_W, w.before ([.ref (aa 0), .int x, .int y] : List Value).toArray s = true := fun w h => atoms_spec (ws := (Cond.code y_T_read b_T_read 4 (some .int) :: bg_W)) B.pre w (List.mem_cons_of_mem _ h)
  have hown : s.vm.findClass "TimeWords" = some m.cls := findClass_of_methodNamed B.named
  have hlocks := B.notSynchronized
  subst hsz
  have hS : va_S A s.heap s.heap [] := va_S.rf
  have hl := lv_entry ([.ref (aa 0), .int x, .int y]) (n := 4) (Nat.le_of_ble_eq_true rfl)
  rw [lg_entry_eq]
  generalize (lg_sl ([.ref (aa 0), .int x, .int y]) ++ List.replicate (4 - (lg_sl ([.ref (aa 0), .int x, .int y])).length) Slot.unset).toArray = ls at hl ⊢
  have hl : lv_has ls 4 [(0, .ref (aa 0)), (1, .int x), (2, .int y)] := hl
  refine lv_iload_n hx hb d_T_read_0 rfl (lv_at hl 1 rfl) ?_
  refine va_csv (va_Run.run (va_runS (As := [.int x]) (rest := []) ⟨hx, hb, hml, hown, hw⟩ (k_T_checkPlace l x hy0) (va_cwS 1 hw (bg_S ml_T_110 wt_T_checkPlace wz_T wc_T_checkPlace) rfl rfl rfl (by decide +kernel) ⟨Nat.le_of_ble_eq_true rfl, Nat.le_of_ble_eq_true rfl⟩) ⟨nP_b, nP_p⟩ rfl rfl hl.1 rfl (lv_room (Nat.le_of_ble_eq_true rfl)) d_T_read_1 ⟨Nat.le_of_ble_eq_true rfl, Nat.le_of_ble_eq_true rfl⟩)) (fun hr1 => ?_)
  refine lv_iload_n hx hb d_T_read_4 rfl (lv_at hl 2 rfl) ?_
  have hPc : va_P D gC ([]) s.heap := pc0
  exact x_call (vx_runS (As := [.int y]) (rest := []) ⟨hx, hb, hml, hown, hw⟩ (k_T_checkDay_x l hl9 D T κ A s.heap.size y hy1) (va_cwS 1 hw (bg_S ml_T_113 wt_T_checkDay wz_T wc_T_checkDay) rfl rfl rfl (by decide +kernel) ⟨Nat.le_of_ble_eq_true rfl, Nat.le_of_ble_eq_true rfl⟩) ⟨xPf_b, xPf_p hPc hK hF hS⟩ rfl rfl hl.1 rfl (lv_room (Nat.le_of_ble_eq_true rfl)) d_T_read_5 ⟨Nat.le_of_ble_eq_true rfl, Nat.le_of_ble_eq_true rfl⟩) htab hlocks

set_option maxHeartbeats 4000000 in
set_option maxRecDepth 100000 in
theorem k_T_read_z (l : Launch) (hl9 : l.stackTraces = false) (D : va_G) (T : gT) (κ : gS) (A : Nat → Prop) (aa : Nat → Nat) (zw : Int32) (kp : Nat) (fp : Nat → Int32) (e0 e1 : Int32) (oF oT : Bool) (kt : Nat) (ft : Nat → Int32) (ks : Nat) (fs fc : Nat → Int32) (S : tS) (sz : Nat) (x y : Int32) (hy0 : j_in x 0 7 = true) (hy1 : j_in y 0 100000 = true) (hy2 : S.2.2.2.length = 60) : vx_Met l y_T_read (Cond.code y_T_read b_T_read 4 (some .int) :: bg_W) ({ frames := 8, cells := 1, slots := 6, locals := 130 }) (xPf κ A D T (cX T aa zw kp fp e0 e1 oF oT kt ft ks fs fc S ++ tl T S) [.ref (aa 0), .int x, .int y] sz) xN (xE "java/lang/IllegalStateException" sz) 1 6 (fun q => sz ≤ q) := by
  refine vx_ofW (cc := b_T_read) (maxL := 4) (ret := (some .int)) (by decide) rfl ?_
  intro p e s m args below meth c s₁ B hml htab hv
  obtain ⟨rfl, hsz, hP, hK, hF⟩ := hv
  have hx := B.exec
  have hb := B.bytes
  have hr := B.returns
  have hw : ∀ w ∈ bg_W, w.before ([.ref (aa 0), .int x, .int y] : List Value).toArray s = true := fun w h => atoms_spec (ws := (Cond.code y_T_read b_T_read 4 (some .int) :: bg_W)) B.pre w (List.mem_cons_of_mem _ h)
  have hown : s.vm.findClass "TimeWords" = some m.cls := findClass_of_methodNamed B.named
  have hlocks := B.notSynchronized
  subst hsz
  have hS : va_S A s.heap s.heap [] := va_S.rf
  have hl := lv_entry ([.ref (aa 0), .int x, .int y]) (n := 4) (Nat.le_of_ble_eq_true rfl)
  rw [lg_entry_eq]
  generalize (lg_sl ([.ref (aa 0), .int x, .int y]) ++ List.replicate (4 - (lg_sl ([.ref (aa 0), .int x, .int y])).length) Slot.unset).toArray = ls at hl ⊢
  have hl : lv_has ls 4 [(0, .ref (aa 0)), (1, .int x), (2, .int y)] := hl
  refine lv_iload_n hx hb d_T_read_0 rfl (lv_at hl 1 rfl) ?_
  refine va_csv (va_Run.run (va_runS (As := [.int x]) (rest := []) ⟨hx, hb, hml, hown, hw⟩ (k_T_checkPlace l x hy0) (va_cwS 1 hw (bg_S ml_T_110 wt_T_checkPlace wz_T wc_T_checkPlace) rfl rfl rfl (by decide +kernel) ⟨Nat.le_of_ble_eq_true rfl, Nat.le_of_ble_eq_true rfl⟩) ⟨nP_b, nP_p⟩ rfl rfl hl.1 rfl (lv_room (Nat.le_of_ble_eq_true rfl)) d_T_read_1 ⟨Nat.le_of_ble_eq_true rfl, Nat.le_of_ble_eq_true rfl⟩)) (fun hr1 => ?_)
  refine lv_iload_n hx hb d_T_read_4 rfl (lv_at hl 2 rfl) ?_
  refine va_csv (va_Run.run (va_runS (As := [.int y]) (rest := []) ⟨hx, hb, hml, hown, hw⟩ (k_T_checkDay l y hy1) (va_cwS 1 hw (bg_S ml_T_113 wt_T_checkDay wz_T wc_T_checkDay) rfl rfl rfl (by decide +kernel) ⟨Nat.le_of_ble_eq_true rfl, Nat.le_of_ble_eq_true rfl⟩) ⟨nP_b, nP_p⟩ rfl rfl hl.1 rfl (lv_room (Nat.le_of_ble_eq_true rfl)) d_T_read_5 ⟨Nat.le_of_ble_eq_true rfl, Nat.le_of_ble_eq_true rfl⟩)) (fun hr2 => ?_)
  refine lv_aload_n hx hb d_T_read_8 rfl (lv_at hl 0 rfl) ?_
  exact x_call (vx_runV (As := []) (rest := []) ⟨hx, hb, hml, hown, hw⟩ (k_T_checkRoomForSpan_x l hl9 D T κ A aa zw kp fp e0 e1 oF oT kt ft ks fs fc S s.heap.size hy2) (cwV 0 hw (bg_V ml_T_128 wi_T_checkRoomForSpan wv_T_checkRoomForSpan wz_T wc_T_checkRoomForSpan) rfl rfl rfl (by decide +kernel) ⟨Nat.le_of_ble_eq_true rfl, Nat.le_of_ble_eq_true rfl⟩) ⟨xPf_b, va_recv hK hP (ci := 5) (q0 := 0) rfl rfl, xPf_p hP hK hF hS⟩ rfl rfl hl.1 rfl (lv_room (Nat.le_of_ble_eq_true rfl)) d_T_read_9 ⟨Nat.le_of_ble_eq_true rfl, Nat.le_of_ble_eq_true rfl⟩) htab hlocks
