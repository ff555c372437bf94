set_option maxHeartbeats 4000000 in
set_option maxRecDepth 100000 in
theorem k_T_name (l : Launch) (D : va_G) (T : gT) (κ : gS) (aa : Nat → Nat) (zw : Int32) (kp : Nat) (fp : Nat → Int32) (e0 e1 : Int32) (oF oT : Bool) (kt : Nat) (ft : Nat → Int32) (ks : Nat) (fs fc : Nat → Int32) (S : tS) (sz : Nat) (hy0 : tOk κ S) (hy1 : kp ≤ 24) (hy2 : j_gd fp kp) (hy3 : (∀ (i : Nat) (n : nmD), S.2.1[i]? = some n → ¬ c_mt fp kp 0 n) → S.2.1.length < 24) : Met l y_T_name (Cond.code y_T_name b_T_name 2 (some .int) :: bg_W) ({ frames := 7, cells := 5, slots := 106, locals := 171 }) (qPf κ D T (cX T aa zw kp fp e0 e1 oF oT kt ft ks fs fc S ++ tl T S) [.ref (aa 0)] sz) (va_Qi (fun (r : Int32) (u : Nat × tS) => match u with | (kp1, S1) => kp1 = 0 ∧ ((∃ (i : Nat) (n : nmD), r = nI i ∧ S.2.1[i]? = some n ∧ c_mt fp kp 0 n ∧ S1 = S) ∨ ((∀ (i : Nat) (n : nmD), S.2.1[i]? = some n → ¬ c_mt fp kp 0 n) ∧ r = nI S.2.1.length ∧ nmP κ S fp kp S1))) (qB D T (va_A (cX T aa zw kp fp e0 e1 oF oT kt ft ks fs fc S ++ tl T S) sz) (fun u : Nat × tS => match u with | (kp1, S1) => cX T aa zw kp1 fp e0 e1 oF oT kt ft ks fs fc S1 ++ tl T S1)) (va_A (cX T aa zw kp fp e0 e1 oF oT kt ft ks fs fc S ++ tl T S) sz)) 5 106 (va_A (cX T aa zw kp fp e0 e1 oF oT kt ft ks fs fc S ++ tl T S) sz) := by
  refine Met.ofW (cc := b_T_name) (maxL := 2) (ret := (some .int)) (by decide) rfl ?_
  intro p e s m args below meth c s₁ B hml hv
  obtain ⟨rfl, hsz, hP, hK, hD0, hF⟩ := hv
  have hx := B.exec
  have hb := B.bytes
  have hr := B.returns
  have hw : ∀ w ∈ bg_W, w.before ([.ref (aa 0)] : List Value).toArray s = true := fun w h => atoms_spec (ws := (Cond.code y_T_name b_T_name 2 (some .int) :: bg_W)) B.pre w (List.mem_cons_of_mem _ h)
  have hown : s.vm.findClass "TimeWords" = some m.cls := findClass_of_methodNamed B.named
  have hlocks := B.notSynchronized
  subst hsz
  have hD := hD0.self (sz := s.heap.size)
  generalize hAe : va_A (cX T aa zw kp fp e0 e1 oF oT kt ft ks fs fc S ++ tl T S) s.heap.size = A at hD hF ⊢
  have hA : ∀ q : Nat, s.heap.size ≤ q → A q := fun q h => by rw [← hAe]; exact Or.inr h
  have hS : va_S A s.heap s.heap [] := va_S.rf
  have hl := lv_entry ([.ref (aa 0)]) (n := 2) (Nat.le_of_ble_eq_true rfl)
  rw [lg_entry_eq]
  generalize (lg_sl ([.ref (aa 0)]) ++ List.replicate (2 - (lg_sl ([.ref (aa 0)])).length) Slot.unset).toArray = ls at hl ⊢
  have hl : lv_has ls 2 [(0, .ref (aa 0))] := hl
  have hL1 : S.2.1.length ≤ 24 := hy0.2.2.2.1
  refine lv_aload_n hx hb d_T_name_0 rfl (lv_at hl 0 rfl) ?_
  refine vp_callSi (va_Run.run (va_runV (As := []) (rest := []) ⟨hx, hb, hml, hown, hw⟩ (k_T_padMayBeName l D T κ A aa zw kp fp e0 e1 oF oT kt ft ks fs fc S hy1) (cwV 0 hw (bg_V ml_T_76 wi_T_padMayBeName wv_T_padMayBeName wz_T wc_T_padMayBeName) rfl rfl rfl (by decide +kernel) ⟨Nat.le_of_ble_eq_true rfl, Nat.le_of_ble_eq_true rfl⟩) ⟨sPf_b, va_recv hK hP (ci := 5) (q0 := 0) rfl rfl, sPf_p hP hK hF hS⟩ rfl rfl hl.1 rfl (lv_room (Nat.le_of_ble_eq_true rfl)) d_T_name_1 ⟨Nat.le_of_ble_eq_true rfl, Nat.le_of_ble_eq_true rfl⟩)) (fun r1 hr1 => ?_)
  rcases hr1 with ⟨g0, g1⟩ | ⟨g0, g1⟩
  · subst g0
    refine lv_if_ne (tgt := 17) hx hb d_T_name_4 (by decide) (fun c2 => ?_) (fun c2 => absurd c2 (by decide))
    refine lv_aload_n hx hb d_T_name_17 rfl (lv_at hl 0 rfl) ?_
    refine lv_iconst (v := 0) hx hb d_T_name_18 (by decide) ?_
    refine vp_callSi (va_Run.run (va_runV (As := [.int 0]) (rest := []) ⟨hx, hb, hml, hown, hw⟩ (k_T_nameFrom l D T κ A aa zw kp fp e0 e1 oF oT kt ft ks fs fc S 0 hy0 hy1 (Nat.zero_le _)) (cwV 1 hw (bg_V ml_T_82 wi_T_nameFrom wv_T_nameFrom wz_T wc_T_nameFrom) rfl rfl rfl (by decide +kernel) ⟨Nat.le_of_ble_eq_true rfl, Nat.le_of_ble_eq_true rfl⟩) ⟨sPf_b, va_recv hK hP (ci := 5) (q0 := 0) rfl rfl, sPf_p hP hK hF hS⟩ rfl rfl hl.1 rfl (lv_room (Nat.le_of_ble_eq_true rfl)) d_T_name_19 ⟨Nat.le_of_ble_eq_true rfl, Nat.le_of_ble_eq_true rfl⟩)) (fun r3 hr3 => ?_)
    rcases hr3 with ⟨hr0, hn1⟩ | ⟨i, n, hr0, hn2, hn3⟩
    · subst hr0
      have hlt := hy3 hn1
      refine lv_istore_n (lv' := [(1, .int (-1)), (0, .ref (aa 0))]) hx hb d_T_name_22 rfl hl (by decide) rfl (fun ls hl => ?_)
      refine lv_iload_n hx hb d_T_name_23 rfl (lv_at hl 0 rfl) ?_
      refine lv_iconst (v := (-1)) hx hb d_T_name_24 (by decide) ?_
      refine lv_icmp_ne (tgt := 77) hx hb d_T_name_25 (by decide) (fun c4 => absurd c4 (by decide)) (fun c4 => ?_)
      refine lv_aload_n hx hb d_T_name_28 rfl (lv_at hl 1 rfl) ?_
      refine va_get (D := D) (ci := 5) (v := .ref S.1.1) (C := "TimeWords") (T := F_T) (N := 8) hx hb hw in_T hown hK hP 0 rfl rfl 1 (by decide) (hw _ fl_T_21) (fun _ h9 => h9) rfl d_T_name_29 ?_
      have hPc : va_P D gC ([(S.1.1, .inr (0, [.ref S.1.2.1, .int (nI S.2.1.length), .int S.1.2.2.1]))]) s.heap := (pc1 (hP 9 _ rfl) pc0)
      refine vp_callSi (va_Run.run (va_runV (As := []) (rest := []) ⟨hx, hb, hml, hown, hw⟩ (k_A_size l D T S.1.1 S.1.2.1 S.2.1.length S.1.2.2.1) (cwV 0 hw (bg_V ml_T_86 wi_A_size wv_A_size wz_A wc_A_size) rfl rfl rfl (by decide +kernel) ⟨Nat.le_of_ble_eq_true rfl, Nat.le_of_ble_eq_true rfl⟩) ⟨sP_b, va_recv hK hPc (ci := 0) (q0 := 0) rfl rfl, sP_p hPc hK⟩ rfl rfl hl.1 rfl (lv_room (Nat.le_of_ble_eq_true rfl)) d_T_name_32 ⟨Nat.le_of_ble_eq_true rfl, Nat.le_of_ble_eq_true rfl⟩)) (fun r5 hr5 => ?_)
      replace hr5 := hr5.symm; subst hr5
      refine lv_bipush (v := 24) hx hb d_T_name_35 (by decide) ?_
      refine lv_icmp_lt (tgt := 50) hx hb d_T_name_37 (by decide) (fun c6 => ?_) (fun c6 => absurd ((show nI S.2.1.length < nI 24 from nI_lt (by omega) (by decide))) c6)
      refine lv_aload_n hx hb d_T_name_50 rfl (lv_at hl 1 rfl) ?_
      refine va_get (D := D) (ci := 5) (v := .ref S.1.1) (C := "TimeWords") (T := F_T) (N := 8) hx hb hw in_T hown hK hP 0 rfl rfl 1 (by decide) (hw _ fl_T_21) (fun _ h9 => h9) rfl d_T_name_51 ?_
      have hPc : va_P D gC ([(S.1.1, .inr (0, [.ref S.1.2.1, .int (nI S.2.1.length), .int S.1.2.2.1]))]) s.heap := (pc1 (hP 9 _ rfl) pc0)
      refine vp_callSi (va_Run.run (va_runV (As := []) (rest := []) ⟨hx, hb, hml, hown, hw⟩ (k_A_size l D T S.1.1 S.1.2.1 S.2.1.length S.1.2.2.1) (cwV 0 hw (bg_V ml_T_86 wi_A_size wv_A_size wz_A wc_A_size) rfl rfl rfl (by decide +kernel) ⟨Nat.le_of_ble_eq_true rfl, Nat.le_of_ble_eq_true rfl⟩) ⟨sP_b, va_recv hK hPc (ci := 0) (q0 := 0) rfl rfl, sP_p hPc hK⟩ rfl rfl hl.1 rfl (lv_room (Nat.le_of_ble_eq_true rfl)) d_T_name_54 ⟨Nat.le_of_ble_eq_true rfl, Nat.le_of_ble_eq_true rfl⟩)) (fun r7 hr7 => ?_)
      replace hr7 := hr7.symm; subst hr7
      refine lv_istore_n (lv' := [(1, .int (nI S.2.1.length)), (0, .ref (aa 0))]) hx hb d_T_name_57 rfl hl (by decide) rfl (fun ls hl => ?_)
      refine lv_aload_n hx hb d_T_name_58 rfl (lv_at hl 1 rfl) ?_
      refine va_get (D := D) (ci := 5) (v := .ref S.1.1) (C := "TimeWords") (T := F_T) (N := 8) hx hb hw in_T hown hK hP 0 rfl rfl 1 (by decide) (hw _ fl_T_21) (fun _ h9 => h9) rfl d_T_name_59 ?_
      refine va_new (ci := 4) (fs := [.null, .null, .null]) (C := "TimeWords$Name") (T := F_N) (N := 3) hx hb hw in_N ty_N ty_N_ok hown (hw _ kl_T_92) (hw _ wn_N) (hw _ wz_N) hK hP hD hS hA rfl (by decide +kernel) (Nat.le_of_ble_eq_true rfl) (Nat.le_of_ble_eq_true rfl) d_T_name_62 (fun q8 H hP hD hS => ?_)
      replace hP := hP.perm nw_pm; replace hD := hD.perm nw_pm
      have hP : va_P D gC ([(aa 0, .inr (5, [.ref (aa 1), .ref S.1.1, .ref S.2.2.1.1, .int zw, .ref (aa 3), .ref (aa 4), .ref (aa 6), .ref (aa 8)])), (aa 1, .inr (1, [.ref (aa 2), .int (nI kp)])), (aa 2, .inl (T.1, 24, .inl fp)), (aa 3, .inr (2, [.int e0, .int e1, .int (b2i oF), .int (b2i oT)])), (aa 4, .inr (1, [.ref (aa 5), .int (nI kt)])), (aa 5, .inl (T.1, 24, .inl ft)), (aa 6, .inr (1, [.ref (aa 7), .int (nI ks)])), (aa 7, .inl (T.1, 24, .inl fs)), (aa 8, .inl (T.1, 9, .inl fc)), (S.1.1, .inr (0, [.ref S.1.2.1, .int (nI S.2.1.length), .int S.1.2.2.1])), (S.2.2.1.1, .inr (0, [.ref S.2.2.1.2.1, .int (nI S.2.2.2.length), .int S.2.2.1.2.2.1])), (q8, .inr (4, [.null, .null, .null]))] ++ tl T S) H := hP
      have hD : va_D A ([(aa 0, .inr (5, [.ref (aa 1), .ref S.1.1, .ref S.2.2.1.1, .int zw, .ref (aa 3), .ref (aa 4), .ref (aa 6), .ref (aa 8)])), (aa 1, .inr (1, [.ref (aa 2), .int (nI kp)])), (aa 2, .inl (T.1, 24, .inl fp)), (aa 3, .inr (2, [.int e0, .int e1, .int (b2i oF), .int (b2i oT)])), (aa 4, .inr (1, [.ref (aa 5), .int (nI kt)])), (aa 5, .inl (T.1, 24, .inl ft)), (aa 6, .inr (1, [.ref (aa 7), .int (nI ks)])), (aa 7, .inl (T.1, 24, .inl fs)), (aa 8, .inl (T.1, 9, .inl fc)), (S.1.1, .inr (0, [.ref S.1.2.1, .int (nI S.2.1.length), .int S.1.2.2.1])), (S.2.2.1.1, .inr (0, [.ref S.2.2.1.2.1, .int (nI S.2.2.2.length), .int S.2.2.1.2.2.1])), (q8, .inr (4, [.null, .null, .null]))] ++ tl T S) := hD
      refine W.widen (k := 1) (n := 3) (by omega) (by omega) ?_
      refine lv_dup hx hb d_T_name_65 rfl ?_
      refine lv_aload_n hx hb d_T_name_66 rfl (lv_at hl 1 rfl) ?_
      refine va_get (D := D) (ci := 5) (v := .ref (aa 1)) (C := "TimeWords") (T := F_T) (N := 8) hx hb hw in_T hown hK hP 0 rfl rfl 0 (by decide) (hw _ fl_T_14) (fun _ h9 => h9) rfl d_T_name_67 ?_
      have hPc : va_P D gC ([(q8, .inr (4, [.null, .null, .null])), (aa 1, .inr (1, [.ref (aa 2), .int (nI kp)])), (aa 2, .inl (T.1, 24, .inl fp))]) H := (pc1 (hP 11 _ rfl) (pc1 (hP 1 _ rfl) (pc1 (hP 2 _ rfl) pc0)))
      have hDc : va_D A ([(q8, .inr (4, [.null, .null, .null])), (aa 1, .inr (1, [.ref (aa 2), .int (nI kp)])), (aa 2, .inl (T.1, 24, .inl fp))]) := by have h9 := hD.part (cx := [(q8, .inr (4, [.null, .null, .null])), (aa 1, .inr (1, [.ref (aa 2), .int (nI kp)])), (aa 2, .inl (T.1, 24, .inl fp))]) [11, 1, 2] (by decide) rfl; exact dl_l h9
      refine g_subv (X := [(aa 0, .inr (5, [.ref (aa 1), .ref S.1.1, .ref S.2.2.1.1, .int zw, .ref (aa 3), .ref (aa 4), .ref (aa 6), .ref (aa 8)])), (aa 1, .inr (1, [.ref (aa 2), .int (nI kp)])), (aa 2, .inl (T.1, 24, .inl fp)), (aa 3, .inr (2, [.int e0, .int e1, .int (b2i oF), .int (b2i oT)])), (aa 4, .inr (1, [.ref (aa 5), .int (nI kt)])), (aa 5, .inl (T.1, 24, .inl ft)), (aa 6, .inr (1, [.ref (aa 7), .int (nI ks)])), (aa 7, .inl (T.1, 24, .inl fs)), (aa 8, .inl (T.1, 9, .inl fc)), (S.1.1, .inr (0, [.ref S.1.2.1, .int (nI S.2.1.length), .int S.1.2.2.1])), (S.2.2.1.1, .inr (0, [.ref S.2.2.1.2.1, .int (nI S.2.2.2.length), .int S.2.2.1.2.2.1])), (q8, .inr (4, [.null, .null, .null]))]) (pl := tl T S) (wr := [(aa 0, .inr (5, [.ref (aa 1), .ref S.1.1, .ref S.2.2.1.1, .int zw, .ref (aa 3), .ref (aa 4), .ref (aa 6), .ref (aa 8)])), (aa 3, .inr (2, [.int e0, .int e1, .int (b2i oF), .int (b2i oT)])), (aa 4, .inr (1, [.ref (aa 5), .int (nI kt)])), (aa 5, .inl (T.1, 24, .inl ft)), (aa 6, .inr (1, [.ref (aa 7), .int (nI ks)])), (aa 7, .inl (T.1, 24, .inl fs)), (aa 8, .inl (T.1, 9, .inl fc)), (S.1.1, .inr (0, [.ref S.1.2.1, .int (nI S.2.1.length), .int S.1.2.2.1])), (S.2.2.1.1, .inr (0, [.ref S.2.2.1.2.1, .int (nI S.2.2.2.length), .int S.2.2.1.2.2.1]))]) (cx := [(q8, .inr (4, [.null, .null, .null])), (aa 1, .inr (1, [.ref (aa 2), .int (nI kp)])), (aa 2, .inl (T.1, 24, .inl fp))]) (va_runI (As := [.ref (aa 1)]) (rest := [.ref q8, .ref S.1.1]) ⟨hx, hb, hml, hown, hw⟩ (k_N_init l D T κ q8 (aa 1) (aa 2) kp 24 fp H.size hy2.2.1 (by omega) (by decide)) (cwI 1 hw (bg_c wc_N_init) rfl rfl rfl (hw _ wz_N) (hw _ ml_T_94) (hw _ wi_N_init) rfl (by decide +kernel) ⟨Nat.le_of_ble_eq_true rfl, Nat.le_of_ble_eq_true rfl⟩) ⟨qPf_b, qPf_p hPc hK hDc hF hS (g_free hDc hS hA)⟩ rfl rfl hl.1 rfl (lv_room (Nat.le_of_ble_eq_true rfl)) d_T_name_70 ⟨Nat.le_of_ble_eq_true rfl, Nat.le_of_ble_eq_true rfl⟩) hP hD hS hA [11, 1, 2] [0, 3, 4, 5, 6, 7, 8, 9, 10] rfl rfl (by decide) (by decide) (fun u9 H locs hr9 hP hD hS => ?_)
      obtain ⟨u10, u11, u12, u13⟩ := u9
      dsimp only at hr9 hP hD
      have hP : va_P D gC ([(aa 0, .inr (5, [.ref (aa 1), .ref S.1.1, .ref S.2.2.1.1, .int zw, .ref (aa 3), .ref (aa 4), .ref (aa 6), .ref (aa 8)])), (aa 1, .inr (1, [.ref (aa 2), .int (nI kp)])), (aa 2, .inl (T.1, 24, .inl fp)), (aa 3, .inr (2, [.int e0, .int e1, .int (b2i oF), .int (b2i oT)])), (aa 4, .inr (1, [.ref (aa 5), .int (nI kt)])), (aa 5, .inl (T.1, 24, .inl ft)), (aa 6, .inr (1, [.ref (aa 7), .int (nI ks)])), (aa 7, .inl (T.1, 24, .inl fs)), (aa 8, .inl (T.1, 9, .inl fc)), (S.1.1, .inr (0, [.ref S.1.2.1, .int (nI S.2.1.length), .int S.1.2.2.1])), (S.2.2.1.1, .inr (0, [.ref S.2.2.1.2.1, .int (nI S.2.2.2.length), .int S.2.2.1.2.2.1])), (q8, .inr (4, [.ref u10, .ref u12, .null])), (u10, .inr (1, [.ref u11, .int (nI kp)])), (u11, .inl (T.1, 8, .inl u13)), (u12, .inr (0, [.ref κ.2.2.1, .int 0, .int 0]))] ++ tl T S) H := hP.part (cx := [(aa 0, .inr (5, [.ref (aa 1), .ref S.1.1, .ref S.2.2.1.1, .int zw, .ref (aa 3), .ref (aa 4), .ref (aa 6), .ref (aa 8)])), (aa 1, .inr (1, [.ref (aa 2), .int (nI kp)])), (aa 2, .inl (T.1, 24, .inl fp)), (aa 3, .inr (2, [.int e0, .int e1, .int (b2i oF), .int (b2i oT)])), (aa 4, .inr (1, [.ref (aa 5), .int (nI kt)])), (aa 5, .inl (T.1, 24, .inl ft)), (aa 6, .inr (1, [.ref (aa 7), .int (nI ks)])), (aa 7, .inl (T.1, 24, .inl fs)), (aa 8, .inl (T.1, 9, .inl fc)), (S.1.1, .inr (0, [.ref S.1.2.1, .int (nI S.2.1.length), .int S.1.2.2.1])), (S.2.2.1.1, .inr (0, [.ref S.2.2.1.2.1, .int (nI S.2.2.2.length), .int S.2.2.1.2.2.1])), (q8, .inr (4, [.ref u10, .ref u12, .null])), (u10, .inr (1, [.ref u11, .int (nI kp)])), (u11, .inl (T.1, 8, .inl u13)), (u12, .inr (0, [.ref κ.2.2.1, .int 0, .int 0]))]) [0, 10, 11, 1, 2, 3, 4, 5, 6, 7, 8, 9, 12, 13, 14] rfl
      have hD : va_D A ([(aa 0, .inr (5, [.ref (aa 1), .ref S.1.1, .ref S.2.2.1.1, .int zw, .ref (aa 3), .ref (aa 4), .ref (aa 6), .ref (aa 8)])), (aa 1, .inr (1, [.ref (aa 2), .int (nI kp)])), (aa 2, .inl (T.1, 24, .inl fp)), (aa 3, .inr (2, [.int e0, .int e1, .int (b2i oF), .int (b2i oT)])), (aa 4, .inr (1, [.ref (aa 5), .int (nI kt)])), (aa 5, .inl (T.1, 24, .inl ft)), (aa 6, .inr (1, [.ref (aa 7), .int (nI ks)])), (aa 7, .inl (T.1, 24, .inl fs)), (aa 8, .inl (T.1, 9, .inl fc)), (S.1.1, .inr (0, [.ref S.1.2.1, .int (nI S.2.1.length), .int S.1.2.2.1])), (S.2.2.1.1, .inr (0, [.ref S.2.2.1.2.1, .int (nI S.2.2.2.length), .int S.2.2.1.2.2.1])), (q8, .inr (4, [.ref u10, .ref u12, .null])), (u10, .inr (1, [.ref u11, .int (nI kp)])), (u11, .inl (T.1, 8, .inl u13)), (u12, .inr (0, [.ref κ.2.2.1, .int 0, .int 0]))] ++ tl T S) := hD.part (cx := [(aa 0, .inr (5, [.ref (aa 1), .ref S.1.1, .ref S.2.2.1.1, .int zw, .ref (aa 3), .ref (aa 4), .ref (aa 6), .ref (aa 8)])), (aa 1, .inr (1, [.ref (aa 2), .int (nI kp)])), (aa 2, .inl (T.1, 24, .inl fp)), (aa 3, .inr (2, [.int e0, .int e1, .int (b2i oF), .int (b2i oT)])), (aa 4, .inr (1, [.ref (aa 5), .int (nI kt)])), (aa 5, .inl (T.1, 24, .inl ft)), (aa 6, .inr (1, [.ref (aa 7), .int (nI ks)])), (aa 7, .inl (T.1, 24, .inl fs)), (aa 8, .inl (T.1, 9, .inl fc)), (S.1.1, .inr (0, [.ref S.1.2.1, .int (nI S.2.1.length), .int S.1.2.2.1])), (S.2.2.1.1, .inr (0, [.ref S.2.2.1.2.1, .int (nI S.2.2.2.length), .int S.2.2.1.2.2.1])), (q8, .inr (4, [.ref u10, .ref u12, .null])), (u10, .inr (1, [.ref u11, .int (nI kp)])), (u11, .inl (T.1, 8, .inl u13)), (u12, .inr (0, [.ref κ.2.2.1, .int 0, .int 0]))]) [0, 10, 11, 1, 2, 3, 4, 5, 6, 7, 8, 9, 12, 13, 14] (by decide) rfl
      have hPa : va_P D gC (liO S.1 (S.2.1.map (fun n => n.1)).length :: (liB T S.1 (S.2.1.map (fun n => n.1)).length ++ (((c9x T aa zw kp fp e0 e1 oF oT kt ft ks fs fc S ++ [liO S.2.2.1 S.2.2.2.length]) ++ nmW T ((q8, (u10, u11, kp, u13), (u12, κ.2.2.1, 0, 0, fun _ => none), none, []) : nmD)) ++ (S.2.1.flatMap (nmW T) ++ (liB T S.2.2.1 S.2.2.2.length ++ S.2.2.2.map spW))))) H := hP.perm (nm_go (n1 := ((q8, (u10, u11, kp, u13), (u12, κ.2.2.1, 0, 0, fun _ => none), none, []) : nmD)))
      have hDa : va_D A (liO S.1 (S.2.1.map (fun n => n.1)).length :: (liB T S.1 (S.2.1.map (fun n => n.1)).length ++ (((c9x T aa zw kp fp e0 e1 oF oT kt ft ks fs fc S ++ [liO S.2.2.1 S.2.2.2.length]) ++ nmW T ((q8, (u10, u11, kp, u13), (u12, κ.2.2.1, 0, 0, fun _ => none), none, []) : nmD)) ++ (S.2.1.flatMap (nmW T) ++ (liB T S.2.2.1 S.2.2.2.length ++ S.2.2.2.map spW))))) := hD.perm (nm_go (n1 := ((q8, (u10, u11, kp, u13), (u12, κ.2.2.1, 0, 0, fun _ => none), none, []) : nmD)))
      refine g_calli (va_runV (As := [.ref q8]) (rest := []) ⟨hx, hb, hml, hown, hw⟩ (k_A_add_0 l D T κ S.1 (((c9x T aa zw kp fp e0 e1 oF oT kt ft ks fs fc S ++ [liO S.2.2.1 S.2.2.2.length]) ++ nmW T ((q8, (u10, u11, kp, u13), (u12, κ.2.2.1, 0, 0, fun _ => none), none, []) : nmD)) ++ (S.2.1.flatMap (nmW T) ++ (liB T S.2.2.1 S.2.2.2.length ++ S.2.2.2.map spW))) H.size (S.2.1.map (fun n => n.1)) q8 hy0.1 (by rw [List.length_map]; omega) (ob_n (List.mem_append_left _ (List.mem_append_right _ (nmm_o (n := ((q8, (u10, u11, kp, u13), (u12, κ.2.2.1, 0, 0, fun _ => none), none, []) : nmD)))))) (ob_nm (T := T) (fun q9 h9 => List.mem_append_right _ (List.mem_append_left _ h9)))) (cwV 1 hw (bg_V ml_T_97 wi_A_add_0 wv_A_add_0 wz_A wc_A_add_0) rfl rfl rfl (by decide +kernel) ⟨Nat.le_of_ble_eq_true rfl, Nat.le_of_ble_eq_true rfl⟩) ⟨qPf_b, va_recv hK hPa (ci := 0) (q0 := 0) rfl rfl, qPf_p hPa hK hDa hF hS (g_free hDa hS hA)⟩ rfl rfl hl.1 rfl (lv_room (Nat.le_of_ble_eq_true rfl)) d_T_name_73 ⟨Nat.le_of_ble_eq_true rfl, Nat.le_of_ble_eq_true rfl⟩) hDa hS hA (fun ra9 d1 H locs hra hP hD hS => ?_)
      obtain ⟨hr0, hr1, hr2⟩ := hra; subst hr0
      replace hP := hP.perm (nm_back (n1 := ((q8, (u10, u11, kp, u13), (u12, κ.2.2.1, 0, 0, fun _ => none), none, []) : nmD)) hr2); replace hD := hD.perm (nm_back (n1 := ((q8, (u10, u11, kp, u13), (u12, κ.2.2.1, 0, 0, fun _ => none), none, []) : nmD)) hr2)
      obtain ⟨S9, hS9⟩ : ∃ z : tS, z = (d1, S.2.1 ++ [((q8, (u10, u11, kp, u13), (u12, κ.2.2.1, 0, 0, fun _ => none), none, []) : nmD)], S.2.2.1, S.2.2.2) := ⟨_, rfl⟩
      rw [← hS9] at hP hD
      have hP : va_P D gC (cX T aa zw kp fp e0 e1 oF oT kt ft ks fs fc S9 ++ tl T S9) H := hP
      have hD : va_D A (cX T aa zw kp fp e0 e1 oF oT kt ft ks fs fc S9 ++ tl T S9) := hD
      refine lv_pop hx hb d_T_name_76 rfl ?_
      refine lv_aload_n hx hb d_T_name_77 rfl (lv_at hl 1 rfl) ?_
      refine va_get (D := D) (ci := 5) (v := .ref (aa 1)) (C := "TimeWords") (T := F_T) (N := 8) hx hb hw in_T hown hK hP 0 rfl rfl 0 (by decide) (hw _ fl_T_14) (fun _ h9 => h9) rfl d_T_name_78 ?_
      have hPc : va_P D gC ([(aa 1, .inr (1, [.ref (aa 2), .int (nI kp)])), (aa 2, .inl (T.1, 24, .inl fp))]) H := (pc1 (hP 1 _ rfl) (pc1 (hP 2 _ rfl) pc0))
      have hDc : va_D A ([(aa 1, .inr (1, [.ref (aa 2), .int (nI kp)])), (aa 2, .inl (T.1, 24, .inl fp))]) := by have h9 := hD.part (cx := [(aa 1, .inr (1, [.ref (aa 2), .int (nI kp)])), (aa 2, .inl (T.1, 24, .inl fp))]) [1, 2] (by decide) rfl; exact dl_l h9
      refine g_subv (X := cX T aa zw kp fp e0 e1 oF oT kt ft ks fs fc S9) (pl := tl T S9) (wr := [(aa 0, .inr (5, [.ref (aa 1), .ref S9.1.1, .ref S9.2.2.1.1, .int zw, .ref (aa 3), .ref (aa 4), .ref (aa 6), .ref (aa 8)])), (aa 3, .inr (2, [.int e0, .int e1, .int (b2i oF), .int (b2i oT)])), (aa 4, .inr (1, [.ref (aa 5), .int (nI kt)])), (aa 5, .inl (T.1, 24, .inl ft)), (aa 6, .inr (1, [.ref (aa 7), .int (nI ks)])), (aa 7, .inl (T.1, 24, .inl fs)), (aa 8, .inl (T.1, 9, .inl fc)), (S9.1.1, .inr (0, [.ref S9.1.2.1, .int (nI S9.2.1.length), .int S9.1.2.2.1])), (S9.2.2.1.1, .inr (0, [.ref S9.2.2.1.2.1, .int (nI S9.2.2.2.length), .int S9.2.2.1.2.2.1]))]) (cx := [(aa 1, .inr (1, [.ref (aa 2), .int (nI kp)])), (aa 2, .inl (T.1, 24, .inl fp))]) (va_runV (As := []) (rest := []) ⟨hx, hb, hml, hown, hw⟩ (k_R_empty l D T (aa 1) (aa 2) kp 24 fp H.size) (cwV 0 hw (bg_V ml_T_73 wi_R_empty wv_R_empty wz_R wc_R_empty) rfl rfl rfl (by decide +kernel) ⟨Nat.le_of_ble_eq_true rfl, Nat.le_of_ble_eq_true rfl⟩) ⟨qP_b, va_recv hK hPc (ci := 1) (q0 := 0) rfl rfl, qP_p hPc hK hDc⟩ rfl rfl hl.1 rfl (lv_room (Nat.le_of_ble_eq_true rfl)) d_T_name_81 ⟨Nat.le_of_ble_eq_true rfl, Nat.le_of_ble_eq_true rfl⟩) hP hD hS hA [1, 2] [0, 3, 4, 5, 6, 7, 8, 9, 10] rfl rfl (by decide) (by decide) (fun u15 H locs hr14 hP hD hS => ?_)
      have q0 := hr14
      replace q0 := q0.symm; subst q0
      have hP : va_P D gC (cX T aa zw 0 fp e0 e1 oF oT kt ft ks fs fc S9 ++ tl T S9) H := hP.part (cx := cX T aa zw 0 fp e0 e1 oF oT kt ft ks fs fc S9) [0, 9, 10, 1, 2, 3, 4, 5, 6, 7, 8] rfl
      have hD : va_D A (cX T aa zw 0 fp e0 e1 oF oT kt ft ks fs fc S9 ++ tl T S9) := hD.part (cx := cX T aa zw 0 fp e0 e1 oF oT kt ft ks fs fc S9) [0, 9, 10, 1, 2, 3, 4, 5, 6, 7, 8] (by decide) rfl
      refine lv_iload_n hx hb d_T_name_84 rfl (lv_at hl 0 rfl) ?_
      exact W.iret (v := nI S.2.1.length) hx hb hr (fun t ht hW => ⟨⟨nI S.2.1.length, (0, S9), rfl, ⟨rfl, Or.inr ⟨hn1, rfl, by rw [hS9]; exact nm_ok hy0 hlt hr1 ⟨hy2.2.1, Nat.zero_le _, ⟨fun _ => rfl, fun h9 => absurd rfl h9⟩⟩, d1, ((q8, (u10, u11, kp, u13), (u12, κ.2.2.1, 0, 0, fun _ => none), none, []) : nmD), hS9, rfl, fun i9 hi9 => by have h9 := hr9.1 i9 hi9; rw [Nat.zero_add] at h9; exact h9, rfl, rfl⟩⟩, by rw [ht]; exact hP, va_K.moved hW.alike hK, hD⟩, hS.F ht⟩) hS.2.2 d_T_name_85
    · subst hr0
      have hi24 := (List.getElem?_eq_some_iff.mp hn2).1
      refine lv_istore_n (lv' := [(1, .int (nI i)), (0, .ref (aa 0))]) hx hb d_T_name_22 rfl hl (by decide) rfl (fun ls hl => ?_)
      refine lv_iload_n hx hb d_T_name_23 rfl (lv_at hl 0 rfl) ?_
      refine lv_iconst (v := (-1)) hx hb d_T_name_24 (by decide) ?_
      refine lv_icmp_ne (tgt := 77) hx hb d_T_name_25 (by decide) (fun c16 => ?_) (fun c16 => absurd c16 ((nI_m1 (by omega))))
      refine lv_aload_n hx hb d_T_name_77 rfl (lv_at hl 1 rfl) ?_
      refine va_get (D := D) (ci := 5) (v := .ref (aa 1)) (C := "TimeWords") (T := F_T) (N := 8) hx hb hw in_T hown hK hP 0 rfl rfl 0 (by decide) (hw _ fl_T_14) (fun _ h9 => h9) rfl d_T_name_78 ?_
      have hPc : va_P D gC ([(aa 1, .inr (1, [.ref (aa 2), .int (nI kp)])), (aa 2, .inl (T.1, 24, .inl fp))]) s.heap := (pc1 (hP 1 _ rfl) (pc1 (hP 2 _ rfl) pc0))
      have hDc : va_D A ([(aa 1, .inr (1, [.ref (aa 2), .int (nI kp)])), (aa 2, .inl (T.1, 24, .inl fp))]) := by have h9 := hD.part (cx := [(aa 1, .inr (1, [.ref (aa 2), .int (nI kp)])), (aa 2, .inl (T.1, 24, .inl fp))]) [1, 2] (by decide) rfl; exact dl_l h9
      refine g_subv (X := cX T aa zw kp fp e0 e1 oF oT kt ft ks fs fc S) (pl := tl T S) (wr := [(aa 0, .inr (5, [.ref (aa 1), .ref S.1.1, .ref S.2.2.1.1, .int zw, .ref (aa 3), .ref (aa 4), .ref (aa 6), .ref (aa 8)])), (aa 3, .inr (2, [.int e0, .int e1, .int (b2i oF), .int (b2i oT)])), (aa 4, .inr (1, [.ref (aa 5), .int (nI kt)])), (aa 5, .inl (T.1, 24, .inl ft)), (aa 6, .inr (1, [.ref (aa 7), .int (nI ks)])), (aa 7, .inl (T.1, 24, .inl fs)), (aa 8, .inl (T.1, 9, .inl fc)), (S.1.1, .inr (0, [.ref S.1.2.1, .int (nI S.2.1.length), .int S.1.2.2.1])), (S.2.2.1.1, .inr (0, [.ref S.2.2.1.2.1, .int (nI S.2.2.2.length), .int S.2.2.1.2.2.1]))]) (cx := [(aa 1, .inr (1, [.ref (aa 2), .int (nI kp)])), (aa 2, .inl (T.1, 24, .inl fp))]) (va_runV (As := []) (rest := []) ⟨hx, hb, hml, hown, hw⟩ (k_R_empty l D T (aa 1) (aa 2) kp 24 fp s.heap.size) (cwV 0 hw (bg_V ml_T_73 wi_R_empty wv_R_empty wz_R wc_R_empty) rfl rfl rfl (by decide +kernel) ⟨Nat.le_of_ble_eq_true rfl, Nat.le_of_ble_eq_true rfl⟩) ⟨qP_b, va_recv hK hPc (ci := 1) (q0 := 0) rfl rfl, qP_p hPc hK hDc⟩ rfl rfl hl.1 rfl (lv_room (Nat.le_of_ble_eq_true rfl)) d_T_name_81 ⟨Nat.le_of_ble_eq_true rfl, Nat.le_of_ble_eq_true rfl⟩) hP hD hS hA [1, 2] [0, 3, 4, 5, 6, 7, 8, 9, 10] rfl rfl (by decide) (by decide) (fun u18 H locs hr17 hP hD hS => ?_)
      have q0 := hr17
      replace q0 := q0.symm; subst q0
      have hP : va_P D gC (cX T aa zw 0 fp e0 e1 oF oT kt ft ks fs fc S ++ tl T S) H := hP.part (cx := cX T aa zw 0 fp e0 e1 oF oT kt ft ks fs fc S) [0, 9, 10, 1, 2, 3, 4, 5, 6, 7, 8] rfl
      have hD : va_D A (cX T aa zw 0 fp e0 e1 oF oT kt ft ks fs fc S ++ tl T S) := hD.part (cx := cX T aa zw 0 fp e0 e1 oF oT kt ft ks fs fc S) [0, 9, 10, 1, 2, 3, 4, 5, 6, 7, 8] (by decide) rfl
      refine lv_iload_n hx hb d_T_name_84 rfl (lv_at hl 0 rfl) ?_
      refine W.widen (k := 5) (n := 106) (by omega) (by omega) ?_
      exact W.iret (v := nI i) hx hb hr (fun t ht hW => ⟨⟨nI i, (0, S), rfl, ⟨rfl, Or.inl ⟨i, n, rfl, hn2, hn3, rfl⟩⟩, by rw [ht]; exact hP, va_K.moved hW.alike hK, hD⟩, hS.F ht⟩) hS.2.2 d_T_name_85
  · subst g0
    exact absurd hy2 g1

set_option maxHeartbeats 4000000 in
set_option maxRecDepth 100000 in
theorem k_T_name_x (l : Launch) (hl9 : l.stackTraces = false) (D : va_G) (T : gT) (κ : gS) (A : Nat → Prop) (aa : Nat → Nat) (zw : Int32) (kp : Nat) (fp : Nat → Int32) (e0 e1 : Int32) (oF oT : Bool) (kt : Nat) (ft : Nat → Int32) (ks : Nat) (fs fc : Nat → Int32) (S : tS) (sz : Nat) (hy0 : tOk κ S) (hy1 : ¬ j_gd fp kp) (hy2 : kp ≤ 24) : vx_Met l y_T_name (Cond.code y_T_name b_T_name 2 (some .int) :: bg_W) ({ frames := 7, cells := 1, slots := 6, locals := 110 }) (xPf κ A D T (cX T aa zw kp fp e0 e1 oF oT kt ft ks fs fc S ++ tl T S) [.ref (aa 0)] sz) xN (xE "java/lang/IllegalArgumentException" sz) 1 6 (fun q => sz ≤ q) := by
  refine vx_ofW (cc := b_T_name) (maxL := 2) (ret := (some .int)) (by decide) rfl ?_
  intro p e s m args below meth c s₁ B hml htab hv
  obtain ⟨rfl, hsz, hP, hK, hF⟩ := hv
  have hx := B.exec
  have hb := B.bytes
  have hr := B.returns
  have hw : ∀ w ∈ bg_W, w.before ([.ref (aa 0)] : List Value).toArray s = true := fun w h => atoms_spec (ws := (Cond.code y_T_name b_T_name 2 (some .int) :: bg_W)) B.pre w (List.mem_cons_of_mem _ h)
  have hown : s.vm.findClass "TimeWords" = some m.cls := findClass_of_methodNamed B.named
  have hlocks := B.notSynchronized
  subst hsz
  have hS : va_S A s.heap s.heap [] := va_S.rf
  have hl := lv_entry ([.ref (aa 0)]) (n := 2) (Nat.le_of_ble_eq_true rfl)
  rw [lg_entry_eq]
  generalize (lg_sl ([.ref (aa 0)]) ++ List.replicate (2 - (lg_sl ([.ref (aa 0)])).length) Slot.unset).toArray = ls at hl ⊢
  have hl : lv_has ls 2 [(0, .ref (aa 0))] := hl
  have hL1 : S.2.1.length ≤ 24 := hy0.2.2.2.1
  refine lv_aload_n hx hb d_T_name_0 rfl (lv_at hl 0 rfl) ?_
  refine vp_callSi (va_Run.run (va_runV (As := []) (rest := []) ⟨hx, hb, hml, hown, hw⟩ (k_T_padMayBeName l D T κ A aa zw kp fp e0 e1 oF oT kt ft ks fs fc S hy2) (cwV 0 hw (bg_V ml_T_76 wi_T_padMayBeName wv_T_padMayBeName wz_T wc_T_padMayBeName) rfl rfl rfl (by decide +kernel) ⟨Nat.le_of_ble_eq_true rfl, Nat.le_of_ble_eq_true rfl⟩) ⟨sPf_b, va_recv hK hP (ci := 5) (q0 := 0) rfl rfl, sPf_p hP hK hF hS⟩ rfl rfl hl.1 rfl (lv_room (Nat.le_of_ble_eq_true rfl)) d_T_name_1 ⟨Nat.le_of_ble_eq_true rfl, Nat.le_of_ble_eq_true rfl⟩)) (fun r1 hr1 => ?_)
  rcases hr1 with ⟨g0, g1⟩ | ⟨g0, g1⟩
  · subst g0
    exact absurd g1 hy1
  · subst g0
    refine lv_if_ne (tgt := 17) hx hb d_T_name_4 (by decide) (fun c2 => absurd c2 (by decide)) (fun c2 => ?_)
    exact vx_throwS (rest := []) hx hb hl9 hown th_IA_f th_n (hw _ kl_T_55) (hw _ wz_IA) (hF.2.2.2.2 (80, "the pad is no row of 1 to 8 letters") (by decide)) (th_IA_w hw hF) th_IA_g hF.2.1.2.2.2.2.2.2.1 hF.2.1.2.2.2.2.2.2.2 hS (hl.1.trans hml.symm) (d_T_name_7) (d_T_name_10) (d_T_name_11) (d_T_name_13) (d_T_name_16) (fun x h9 => (htab x h9).elim) (Nat.le_of_ble_eq_true rfl) (Nat.le_of_ble_eq_true rfl) (Nat.le_of_ble_eq_true rfl) (Nat.le_of_ble_eq_true rfl) hlocks (fun t9 h8 h7 h6 => ⟨(), trivial, rfl, ⟨h7, fun q h1 _ => h6 q h1⟩⟩) (fun z h9 => absurd h9 List.not_mem_nil) (Nat.le_of_ble_eq_true rfl) (Nat.le_of_ble_eq_true rfl)

set_option maxHeartbeats 4000000 in
set_option maxRecDepth 100000 in
theorem k_T_name_y (l : Launch) (hl9 : l.stackTraces = false) (D : va_G) (T : gT) (κ : gS) (A : Nat → Prop) (aa : Nat → Nat) (zw : Int32) (kp : Nat) (fp : Nat → Int32) (e0 e1 : Int32) (oF oT : Bool) (kt : Nat) (ft : Nat → Int32) (ks : Nat) (fs fc : Nat → Int32) (S : tS) (sz : Nat) (hy0 : tOk κ S) (hy1 : kp ≤ 24) (hy2 : j_gd fp kp) (hy3 : ∀ (i : Nat) (n : nmD), S.2.1[i]? = some n → ¬ c_mt fp kp 0 n) (hy4 : S.2.1.length = 24) : vx_Met l y_T_name (Cond.code y_T_name b_T_name 2 (some .int) :: bg_W) ({ frames := 7, cells := 1, slots := 6, locals := 110 }) (xPf κ A D T (cX T aa zw kp fp e0 e1 oF oT kt ft ks fs fc S ++ tl T S) [.ref (aa 0)] sz) xN (xE "java/lang/IllegalStateException" sz) 1 6 (fun q => sz ≤ q) := by
  refine vx_ofW (cc := b_T_name) (maxL := 2) (ret := (some .int)) (by decide) rfl ?_
  intro p e s m args below meth c s₁ B hml htab hv
  obtain ⟨rfl, hsz, hP, hK, hF⟩ := hv
  have hx := B.exec
  have hb := B.bytes
  have hr := B.returns
  have hw : ∀ w ∈ bg_W, w.before ([.ref (aa 0)] : List Value).toArray s = true := fun w h => atoms_spec (ws := (Cond.code y_T_name b_T_name 2 (some .int) :: bg_W)) B.pre w (List.mem_cons_of_mem _ h)
  have hown : s.vm.findClass "TimeWords" = some m.cls := findClass_of_methodNamed B.named
  have hlocks := B.notSynchronized
  subst hsz
  have hS : va_S A s.heap s.heap [] := va_S.rf
  have hl := lv_entry ([.ref (aa 0)]) (n := 2) (Nat.le_of_ble_eq_true rfl)
  rw [lg_entry_eq]
  generalize (lg_sl ([.ref (aa 0)]) ++ List.replicate (2 - (lg_sl ([.ref (aa 0)])).length) Slot.unset).toArray = ls at hl ⊢
  have hl : lv_has ls 2 [(0, .ref (aa 0))] := hl
  have hL1 : S.2.1.length ≤ 24 := hy0.2.2.2.1
  refine lv_aload_n hx hb d_T_name_0 rfl (lv_at hl 0 rfl) ?_
  refine vp_callSi (va_Run.run (va_runV (As := []) (rest := []) ⟨hx, hb, hml, hown, hw⟩ (k_T_padMayBeName l D T κ A aa zw kp fp e0 e1 oF oT kt ft ks fs fc S hy1) (cwV 0 hw (bg_V ml_T_76 wi_T_padMayBeName wv_T_padMayBeName wz_T wc_T_padMayBeName) rfl rfl rfl (by decide +kernel) ⟨Nat.le_of_ble_eq_true rfl, Nat.le_of_ble_eq_true rfl⟩) ⟨sPf_b, va_recv hK hP (ci := 5) (q0 := 0) rfl rfl, sPf_p hP hK hF hS⟩ rfl rfl hl.1 rfl (lv_room (Nat.le_of_ble_eq_true rfl)) d_T_name_1 ⟨Nat.le_of_ble_eq_true rfl, Nat.le_of_ble_eq_true rfl⟩)) (fun r1 hr1 => ?_)
  rcases hr1 with ⟨g0, g1⟩ | ⟨g0, g1⟩
  · subst g0
    refine lv_if_ne (tgt := 17) hx hb d_T_name_4 (by decide) (fun c2 => ?_) (fun c2 => absurd c2 (by decide))
    refine lv_aload_n hx hb d_T_name_17 rfl (lv_at hl 0 rfl) ?_
    refine lv_iconst (v := 0) hx hb d_T_name_18 (by decide) ?_
    refine vp_callSi (va_Run.run (va_runV (As := [.int 0]) (rest := []) ⟨hx, hb, hml, hown, hw⟩ (k_T_nameFrom l D T κ A aa zw kp fp e0 e1 oF oT kt ft ks fs fc S 0 hy0 hy1 (Nat.zero_le _)) (cwV 1 hw (bg_V ml_T_82 wi_T_nameFrom wv_T_nameFrom wz_T wc_T_nameFrom) rfl rfl rfl (by decide +kernel) ⟨Nat.le_of_ble_eq_true rfl, Nat.le_of_ble_eq_true rfl⟩) ⟨sPf_b, va_recv hK hP (ci := 5) (q0 := 0) rfl rfl, sPf_p hP hK hF hS⟩ rfl rfl hl.1 rfl (lv_room (Nat.le_of_ble_eq_true rfl)) d_T_name_19 ⟨Nat.le_of_ble_eq_true rfl, Nat.le_of_ble_eq_true rfl⟩)) (fun r3 hr3 => ?_)
    rcases hr3 with ⟨hr0, hn1⟩ | ⟨i, n, hr0, hn2, hn3⟩
    · subst hr0
      refine lv_istore_n (lv' := [(1, .int (-1)), (0, .ref (aa 0))]) hx hb d_T_name_22 rfl hl (by decide) rfl (fun ls hl => ?_)
      refine lv_iload_n hx hb d_T_name_23 rfl (lv_at hl 0 rfl) ?_
      refine lv_iconst (v := (-1)) hx hb d_T_name_24 (by decide) ?_
      refine lv_icmp_ne (tgt := 77) hx hb d_T_name_25 (by decide) (fun c4 => absurd c4 (by decide)) (fun c4 => ?_)
      refine lv_aload_n hx hb d_T_name_28 rfl (lv_at hl 1 rfl) ?_
      refine va_get (D := D) (ci := 5) (v := .ref S.1.1) (C := "TimeWords") (T := F_T) (N := 8) hx hb hw in_T hown hK hP 0 rfl rfl 1 (by decide) (hw _ fl_T_21) (fun _ h9 => h9) rfl d_T_name_29 ?_
      have hPc : va_P D gC ([(S.1.1, .inr (0, [.ref S.1.2.1, .int (nI S.2.1.length), .int S.1.2.2.1]))]) s.heap := (pc1 (hP 9 _ rfl) pc0)
      refine vp_callSi (va_Run.run (va_runV (As := []) (rest := []) ⟨hx, hb, hml, hown, hw⟩ (k_A_size l D T S.1.1 S.1.2.1 S.2.1.length S.1.2.2.1) (cwV 0 hw (bg_V ml_T_86 wi_A_size wv_A_size wz_A wc_A_size) rfl rfl rfl (by decide +kernel) ⟨Nat.le_of_ble_eq_true rfl, Nat.le_of_ble_eq_true rfl⟩) ⟨sP_b, va_recv hK hPc (ci := 0) (q0 := 0) rfl rfl, sP_p hPc hK⟩ rfl rfl hl.1 rfl (lv_room (Nat.le_of_ble_eq_true rfl)) d_T_name_32 ⟨Nat.le_of_ble_eq_true rfl, Nat.le_of_ble_eq_true rfl⟩)) (fun r5 hr5 => ?_)
      replace hr5 := hr5.symm; subst hr5
      refine lv_bipush (v := 24) hx hb d_T_name_35 (by decide) ?_
      refine lv_icmp_lt (tgt := 50) hx hb d_T_name_37 (by decide) (fun c6 => absurd c6 ((show ¬ nI S.2.1.length < nI 24 from nI_nlt (by omega) (by omega)))) (fun c6 => ?_)
      exact vx_throwS (rest := []) hx hb hl9 hown th_IS_f th_n (hw _ kl_T_65) (hw _ wz_IS) (hF.2.2.2.2 (90, "no room for another name") (by decide)) (th_IS_w hw hF) th_IS_g hF.2.1.2.2.2.2.2.2.1 hF.2.1.2.2.2.2.2.2.2 hS (hl.1.trans hml.symm) (d_T_name_40) (d_T_name_43) (d_T_name_44) (d_T_name_46) (d_T_name_49) (fun x h9 => (htab x h9).elim) (Nat.le_of_ble_eq_true rfl) (Nat.le_of_ble_eq_true rfl) (Nat.le_of_ble_eq_true rfl) (Nat.le_of_ble_eq_true rfl) hlocks (fun t9 h8 h7 h6 => ⟨(), trivial, rfl, ⟨h7, fun q h1 _ => h6 q h1⟩⟩) (fun z h9 => absurd h9 List.not_mem_nil) (Nat.le_of_ble_eq_true rfl) (Nat.le_of_ble_eq_true rfl)
    · subst hr0
      exact absurd hn3 (hy3 i n hn2)
  · subst g0
    exact absurd hy2 g1

set_option maxHeartbeats 4000000 in
set_option maxRecDepth 100000 in
theorem k_T_reign (l : Launch) (D : va_G) (T : gT) (κ : gS) (aa : Nat → Nat) (zw : Int32) (kp : Nat) (fp : Nat → Int32) (e0 e1 : Int32) (oF oT : Bool) (kt : Nat) (ft : Nat → Int32) (ks : Nat) (fs fc : Nat → Int32) (S : tS) (sz : Nat) (j : Nat) (n : nmD) (x y : Int32) (hy0 : tOk κ S) (hy1 : S.2.1[j]? = some n) (hy2 : j_yy x y = true) : Met l y_T_reign (Cond.code y_T_reign b_T_reign 6 (some .boolean) :: bg_W) ({ frames := 4, cells := 1, slots := 4, locals := 85 }) (qPf κ D T (cX T aa zw kp fp e0 e1 oF oT kt ft ks fs fc S ++ tl T S) [.ref (aa 0), .int (nI j), .int x, .int y] sz) (va_Qi (fun (r : Int32) (S1 : tS) => r = b2i (decide (nG n = none)) ∧ rgP κ S j n x y S1) (qB D T (va_A (cX T aa zw kp fp e0 e1 oF oT kt ft ks fs fc S ++ tl T S) sz) (fun S1 : tS => cX T aa zw kp fp e0 e1 oF oT kt ft ks fs fc S1 ++ tl T S1)) (va_A (cX T aa zw kp fp e0 e1 oF oT kt ft ks fs fc S ++ tl T S) sz)) 1 4 (va_A (cX T aa zw kp fp e0 e1 oF oT kt ft ks fs fc S ++ tl T S) sz) := by
  refine Met.ofW (cc := b_T_reign) (maxL := 6) (ret := (some .boolean)) (by decide) rfl ?_
  intro p e s m args below meth c s₁ B hml hv
  obtain ⟨rfl, hsz, hP, hK, hD0, hF⟩ := hv
  have hx := B.exec
  have hb := B.bytes
  have hr := B.returns
  have hw : ∀ w ∈ bg_W, w.before ([.ref (aa 0), .int (nI j), .int x, .int y] : List Value).toArray s = true := fun w h => atoms_spec (ws := (Cond.code y_T_reign b_T_reign 6 (some .boolean) :: bg_W)) B.pre w (List.mem_cons_of_mem _ h)
  have hown : s.vm.findClass "TimeWords" = some m.cls := findClass_of_methodNamed B.named
  have hlocks := B.notSynchronized
  subst hsz
  have hD := hD0.self (sz := s.heap.size)
  generalize hAe : va_A (cX T aa zw kp fp e0 e1 oF oT kt ft ks fs fc S ++ tl T S) s.heap.size = A at hD hF ⊢
  have hA : ∀ q : Nat, s.heap.size ≤ q → A q := fun q h => by rw [← hAe]; exact Or.inr h
  have hS : va_S A s.heap s.heap [] := va_S.rf
  have hl := lv_entry ([.ref (aa 0), .int (nI j), .int x, .int y]) (n := 6) (Nat.le_of_ble_eq_true rfl)
  rw [lg_entry_eq]
  generalize (lg_sl ([.ref (aa 0), .int (nI j), .int x, .int y]) ++ List.replicate (6 - (lg_sl ([.ref (aa 0), .int (nI j), .int x, .int y])).length) Slot.unset).toArray = ls at hl ⊢
  have hl : lv_has ls 6 [(0, .ref (aa 0)), (1, .int (nI j)), (2, .int x), (3, .int y)] := hl
  have hL1 : S.2.1.length ≤ 24 := hy0.2.2.2.1
  have hL2 : S.2.2.2.length ≤ 60 := hy0.2.2.2.2
  obtain ⟨hn1, hn2, hn3, hn4, hn5, hn6⟩ := nm_at hy0 hy1
  refine lv_aload_n hx hb d_T_reign_0 rfl (lv_at hl 0 rfl) ?_
  refine lv_iload_n hx hb d_T_reign_1 rfl (lv_at hl 1 rfl) ?_
  refine va_csq (va_Run.run (va_runV (As := [.int (nI j)]) (rest := []) ⟨hx, hb, hml, hown, hw⟩ (k_T_nameNumbered l D T κ A aa zw kp fp e0 e1 oF oT kt ft ks fs fc S j n hy0 hy1) (cwV 1 hw (bg_V ml_T_100 wi_T_nameNumbered wv_T_nameNumbered wz_T wc_T_nameNumbered) rfl rfl rfl (by decide +kernel) ⟨Nat.le_of_ble_eq_true rfl, Nat.le_of_ble_eq_true rfl⟩) ⟨sPf_b, va_recv hK hP (ci := 5) (q0 := 0) rfl rfl, sPf_p hP hK hF hS⟩ rfl rfl hl.1 rfl (lv_room (Nat.le_of_ble_eq_true rfl)) d_T_reign_2 ⟨Nat.le_of_ble_eq_true rfl, Nat.le_of_ble_eq_true rfl⟩)) (fun r1 hr1 => ?_)
  replace hr1 := hr1.symm; subst hr1
  refine W.eq (g2 := F0 m 5 ls [.ref (nA n)]) rfl ?_
  refine lv_astore (lv' := [(4, .ref (nA n)), (0, .ref (aa 0)), (1, .int (nI j)), (2, .int x), (3, .int y)]) hx hb d_T_reign_5 hl (by decide) rfl (fun ls hl => ?_)
  refine lv_iload_n hx hb d_T_reign_7 rfl (lv_at hl 3 rfl) ?_
  refine lv_iload_n hx hb d_T_reign_8 rfl (lv_at hl 4 rfl) ?_
  refine va_csv (va_Run.run (va_runS (As := [.int x, .int y]) (rest := []) ⟨hx, hb, hml, hown, hw⟩ (k_T_checkYears l x y hy2) (va_cwS 2 hw (bg_S ml_T_104 wt_T_checkYears wz_T wc_T_checkYears) rfl rfl rfl (by decide +kernel) ⟨Nat.le_of_ble_eq_true rfl, Nat.le_of_ble_eq_true rfl⟩) ⟨nP_b, nP_p⟩ rfl rfl hl.1 rfl (lv_room (Nat.le_of_ble_eq_true rfl)) d_T_reign_9 ⟨Nat.le_of_ble_eq_true rfl, Nat.le_of_ble_eq_true rfl⟩)) (fun hr2 => ?_)
  refine lv_aload hx hb d_T_reign_12 (lv_at hl 0 rfl) ?_
  refine va_get (D := D) (ci := 4) (v := va_rf ((nG n).map (fun r => r.1))) (C := "TimeWords$Name") (T := F_N) (N := 3) hx hb hw in_N hown hK (pc1 (hP.mem (List.mem_append_right _ (tl_nm hn5 nmm_o))) pc0) 0 rfl rfl 2 (by decide) (hw _ fl_T_107) (fun _ h9 => h9) rfl d_T_reign_14 ?_
  rcases hyG : nG n with _ | r9
  · refine W.eq (g2 := F0 m 17 ls [.null]) rfl ?_
    refine lv_ifnonnullN hx hb d_T_reign_17 ?_
    refine lv_iconst (v := 1) hx hb d_T_reign_20 (by decide) ?_
    refine lv_goto (tgt := 25) hx hb d_T_reign_21 (by decide) ?_
    refine lv_istore (lv' := [(5, .int 1), (4, .ref (nA n)), (0, .ref (aa 0)), (1, .int (nI j)), (2, .int x), (3, .int y)]) hx hb d_T_reign_25 hl (by decide) rfl (fun ls hl => ?_)
    replace hP := hP.perm (rg_go hy1); replace hD := hD.perm (rg_go hy1)
    have hP : va_P D gC ([(aa 0, .inr (5, [.ref (aa 1), .ref S.1.1, .ref S.2.2.1.1, .int zw, .ref (aa 3), .ref (aa 4), .ref (aa 6), .ref (aa 8)])), (aa 1, .inr (1, [.ref (aa 2), .int (nI kp)])), (aa 2, .inl (T.1, 24, .inl fp)), (aa 3, .inr (2, [.int e0, .int e1, .int (b2i oF), .int (b2i oT)])), (aa 4, .inr (1, [.ref (aa 5), .int (nI kt)])), (aa 5, .inl (T.1, 24, .inl ft)), (aa 6, .inr (1, [.ref (aa 7), .int (nI ks)])), (aa 7, .inl (T.1, 24, .inl fs)), (aa 8, .inl (T.1, 9, .inl fc)), (S.1.1, .inr (0, [.ref S.1.2.1, .int (nI S.2.1.length), .int S.1.2.2.1])), (S.2.2.1.1, .inr (0, [.ref S.2.2.1.2.1, .int (nI S.2.2.2.length), .int S.2.2.1.2.2.1])), (nA n, .inr (4, [.ref (nR n), .ref ((nL n).1), va_rf ((nG n).map (fun r => r.1))]))] ++ tr T S j n) s.heap := hP
    have hD : va_D A ([(aa 0, .inr (5, [.ref (aa 1), .ref S.1.1, .ref S.2.2.1.1, .int zw, .ref (aa 3), .ref (aa 4), .ref (aa 6), .ref (aa 8)])), (aa 1, .inr (1, [.ref (aa 2), .int (nI kp)])), (aa 2, .inl (T.1, 24, .inl fp)), (aa 3, .inr (2, [.int e0, .int e1, .int (b2i oF), .int (b2i oT)])), (aa 4, .inr (1, [.ref (aa 5), .int (nI kt)])), (aa 5, .inl (T.1, 24, .inl ft)), (aa 6, .inr (1, [.ref (aa 7), .int (nI ks)])), (aa 7, .inl (T.1, 24, .inl fs)), (aa 8, .inl (T.1, 9, .inl fc)), (S.1.1, .inr (0, [.ref S.1.2.1, .int (nI S.2.1.length), .int S.1.2.2.1])), (S.2.2.1.1, .inr (0, [.ref S.2.2.1.2.1, .int (nI S.2.2.2.length), .int S.2.2.1.2.2.1])), (nA n, .inr (4, [.ref (nR n), .ref ((nL n).1), va_rf ((nG n).map (fun r => r.1))]))] ++ tr T S j n) := hD
    refine lv_aload hx hb d_T_reign_27 (lv_at hl 1 rfl) ?_
    refine va_new (ci := 2) (fs := [.int 0, .int 0, .int 0, .int 0]) (C := "TimeWords$Years") (T := F_Y) (N := 4) hx hb hw in_Y ty_Y ty_Y_ok hown (hw _ kl_T_32) (hw _ wn_Y) (hw _ wz_Y) hK hP hD hS hA rfl (by decide +kernel) (Nat.le_of_ble_eq_true rfl) (Nat.le_of_ble_eq_true rfl) d_T_reign_29 (fun q3 H hP hD hS => ?_)
    replace hP := hP.perm nw_pm; replace hD := hD.perm nw_pm
    have hP : va_P D gC ([(aa 0, .inr (5, [.ref (aa 1), .ref S.1.1, .ref S.2.2.1.1, .int zw, .ref (aa 3), .ref (aa 4), .ref (aa 6), .ref (aa 8)])), (aa 1, .inr (1, [.ref (aa 2), .int (nI kp)])), (aa 2, .inl (T.1, 24, .inl fp)), (aa 3, .inr (2, [.int e0, .int e1, .int (b2i oF), .int (b2i oT)])), (aa 4, .inr (1, [.ref (aa 5), .int (nI kt)])), (aa 5, .inl (T.1, 24, .inl ft)), (aa 6, .inr (1, [.ref (aa 7), .int (nI ks)])), (aa 7, .inl (T.1, 24, .inl fs)), (aa 8, .inl (T.1, 9, .inl fc)), (S.1.1, .inr (0, [.ref S.1.2.1, .int (nI S.2.1.length), .int S.1.2.2.1])), (S.2.2.1.1, .inr (0, [.ref S.2.2.1.2.1, .int (nI S.2.2.2.length), .int S.2.2.1.2.2.1])), (nA n, .inr (4, [.ref (nR n), .ref ((nL n).1), va_rf ((nG n).map (fun r => r.1))])), (q3, .inr (2, [.int 0, .int 0, .int 0, .int 0]))] ++ tr T S j n) H := hP
    have hD : va_D A ([(aa 0, .inr (5, [.ref (aa 1), .ref S.1.1, .ref S.2.2.1.1, .int zw, .ref (aa 3), .ref (aa 4), .ref (aa 6), .ref (aa 8)])), (aa 1, .inr (1, [.ref (aa 2), .int (nI kp)])), (aa 2, .inl (T.1, 24, .inl fp)), (aa 3, .inr (2, [.int e0, .int e1, .int (b2i oF), .int (b2i oT)])), (aa 4, .inr (1, [.ref (aa 5), .int (nI kt)])), (aa 5, .inl (T.1, 24, .inl ft)), (aa 6, .inr (1, [.ref (aa 7), .int (nI ks)])), (aa 7, .inl (T.1, 24, .inl fs)), (aa 8, .inl (T.1, 9, .inl fc)), (S.1.1, .inr (0, [.ref S.1.2.1, .int (nI S.2.1.length), .int S.1.2.2.1])), (S.2.2.1.1, .inr (0, [.ref S.2.2.1.2.1, .int (nI S.2.2.2.length), .int S.2.2.1.2.2.1])), (nA n, .inr (4, [.ref (nR n), .ref ((nL n).1), va_rf ((nG n).map (fun r => r.1))])), (q3, .inr (2, [.int 0, .int 0, .int 0, .int 0]))] ++ tr T S j n) := hD
    refine W.widen (k := 1) (n := 4) (by omega) (by omega) ?_
    refine lv_dup hx hb d_T_reign_32 rfl ?_
    refine lv_iload_n hx hb d_T_reign_33 rfl (lv_at hl 4 rfl) ?_
    refine lv_iload_n hx hb d_T_reign_34 rfl (lv_at hl 5 rfl) ?_
    have hPc : va_P D gC ([(q3, .inr (2, [.int 0, .int 0, .int 0, .int 0]))]) H := (pc1 (hP 12 _ rfl) pc0)
    have hDc : va_D A ([(q3, .inr (2, [.int 0, .int 0, .int 0, .int 0]))]) := by have h9 := hD.part (cx := [(q3, .inr (2, [.int 0, .int 0, .int 0, .int 0]))]) [12] (by decide) rfl; exact dl_l h9
    refine g_subv (X := [(aa 0, .inr (5, [.ref (aa 1), .ref S.1.1, .ref S.2.2.1.1, .int zw, .ref (aa 3), .ref (aa 4), .ref (aa 6), .ref (aa 8)])), (aa 1, .inr (1, [.ref (aa 2), .int (nI kp)])), (aa 2, .inl (T.1, 24, .inl fp)), (aa 3, .inr (2, [.int e0, .int e1, .int (b2i oF), .int (b2i oT)])), (aa 4, .inr (1, [.ref (aa 5), .int (nI kt)])), (aa 5, .inl (T.1, 24, .inl ft)), (aa 6, .inr (1, [.ref (aa 7), .int (nI ks)])), (aa 7, .inl (T.1, 24, .inl fs)), (aa 8, .inl (T.1, 9, .inl fc)), (S.1.1, .inr (0, [.ref S.1.2.1, .int (nI S.2.1.length), .int S.1.2.2.1])), (S.2.2.1.1, .inr (0, [.ref S.2.2.1.2.1, .int (nI S.2.2.2.length), .int S.2.2.1.2.2.1])), (nA n, .inr (4, [.ref (nR n), .ref ((nL n).1), va_rf ((nG n).map (fun r => r.1))])), (q3, .inr (2, [.int 0, .int 0, .int 0, .int 0]))]) (pl := tr T S j n) (wr := [(aa 0, .inr (5, [.ref (aa 1), .ref S.1.1, .ref S.2.2.1.1, .int zw, .ref (aa 3), .ref (aa 4), .ref (aa 6), .ref (aa 8)])), (aa 1, .inr (1, [.ref (aa 2), .int (nI kp)])), (aa 2, .inl (T.1, 24, .inl fp)), (aa 3, .inr (2, [.int e0, .int e1, .int (b2i oF), .int (b2i oT)])), (aa 4, .inr (1, [.ref (aa 5), .int (nI kt)])), (aa 5, .inl (T.1, 24, .inl ft)), (aa 6, .inr (1, [.ref (aa 7), .int (nI ks)])), (aa 7, .inl (T.1, 24, .inl fs)), (aa 8, .inl (T.1, 9, .inl fc)), (S.1.1, .inr (0, [.ref S.1.2.1, .int (nI S.2.1.length), .int S.1.2.2.1])), (S.2.2.1.1, .inr (0, [.ref S.2.2.1.2.1, .int (nI S.2.2.2.length), .int S.2.2.1.2.2.1])), (nA n, .inr (4, [.ref (nR n), .ref ((nL n).1), va_rf ((nG n).map (fun r => r.1))]))]) (cx := [(q3, .inr (2, [.int 0, .int 0, .int 0, .int 0]))]) (va_runI (As := [.int x, .int y]) (rest := [.ref q3, .ref (nA n)]) ⟨hx, hb, hml, hown, hw⟩ (k_Y_init l D T q3 0 0 0 0 H.size x y) (cwI 2 hw (bg_c wc_Y_init) rfl rfl rfl (hw _ wz_Y) (hw _ ml_T_34) (hw _ wi_Y_init) rfl (by decide +kernel) ⟨Nat.le_of_ble_eq_true rfl, Nat.le_of_ble_eq_true rfl⟩) ⟨qP_b, qP_p hPc hK hDc⟩ rfl rfl hl.1 rfl (lv_room (Nat.le_of_ble_eq_true rfl)) d_T_reign_35 ⟨Nat.le_of_ble_eq_true rfl, Nat.le_of_ble_eq_true rfl⟩) hP hD hS hA [12] [0, 1, 2, 3, 4, 5, 6, 7, 8, 9, 10, 11] rfl rfl (by decide) (by decide) (fun u9 H locs hr4 hP hD hS => ?_)
    obtain ⟨u5, u6, u7, u8⟩ := u9
    dsimp only at hr4 hP hD
    obtain ⟨q0, q1, q2, q3⟩ := hr4
    replace q0 := q0.symm; subst q0; replace q1 := q1.symm; subst q1; replace q2 := q2.symm; subst q2; replace q3 := q3.symm; subst q3
    have hP : va_P D gC ([(aa 0, .inr (5, [.ref (aa 1), .ref S.1.1, .ref S.2.2.1.1, .int zw, .ref (aa 3), .ref (aa 4), .ref (aa 6), .ref (aa 8)])), (aa 1, .inr (1, [.ref (aa 2), .int (nI kp)])), (aa 2, .inl (T.1, 24, .inl fp)), (aa 3, .inr (2, [.int e0, .int e1, .int (b2i oF), .int (b2i oT)])), (aa 4, .inr (1, [.ref (aa 5), .int (nI kt)])), (aa 5, .inl (T.1, 24, .inl ft)), (aa 6, .inr (1, [.ref (aa 7), .int (nI ks)])), (aa 7, .inl (T.1, 24, .inl fs)), (aa 8, .inl (T.1, 9, .inl fc)), (S.1.1, .inr (0, [.ref S.1.2.1, .int (nI S.2.1.length), .int S.1.2.2.1])), (S.2.2.1.1, .inr (0, [.ref S.2.2.1.2.1, .int (nI S.2.2.2.length), .int S.2.2.1.2.2.1])), (nA n, .inr (4, [.ref (nR n), .ref ((nL n).1), va_rf ((nG n).map (fun r => r.1))])), (q3, .inr (2, [.int x, .int y, .int 0, .int 0]))] ++ tr T S j n) H := hP.part (cx := [(aa 0, .inr (5, [.ref (aa 1), .ref S.1.1, .ref S.2.2.1.1, .int zw, .ref (aa 3), .ref (aa 4), .ref (aa 6), .ref (aa 8)])), (aa 1, .inr (1, [.ref (aa 2), .int (nI kp)])), (aa 2, .inl (T.1, 24, .inl fp)), (aa 3, .inr (2, [.int e0, .int e1, .int (b2i oF), .int (b2i oT)])), (aa 4, .inr (1, [.ref (aa 5), .int (nI kt)])), (aa 5, .inl (T.1, 24, .inl ft)), (aa 6, .inr (1, [.ref (aa 7), .int (nI ks)])), (aa 7, .inl (T.1, 24, .inl fs)), (aa 8, .inl (T.1, 9, .inl fc)), (S.1.1, .inr (0, [.ref S.1.2.1, .int (nI S.2.1.length), .int S.1.2.2.1])), (S.2.2.1.1, .inr (0, [.ref S.2.2.1.2.1, .int (nI S.2.2.2.length), .int S.2.2.1.2.2.1])), (nA n, .inr (4, [.ref (nR n), .ref ((nL n).1), va_rf ((nG n).map (fun r => r.1))])), (q3, .inr (2, [.int x, .int y, .int 0, .int 0]))]) [0, 1, 2, 3, 4, 5, 6, 7, 8, 9, 10, 11, 12] rfl
    have hD : va_D A ([(aa 0, .inr (5, [.ref (aa 1), .ref S.1.1, .ref S.2.2.1.1, .int zw, .ref (aa 3), .ref (aa 4), .ref (aa 6), .ref (aa 8)])), (aa 1, .inr (1, [.ref (aa 2), .int (nI kp)])), (aa 2, .inl (T.1, 24, .inl fp)), (aa 3, .inr (2, [.int e0, .int e1, .int (b2i oF), .int (b2i oT)])), (aa 4, .inr (1, [.ref (aa 5), .int (nI kt)])), (aa 5, .inl (T.1, 24, .inl ft)), (aa 6, .inr (1, [.ref (aa 7), .int (nI ks)])), (aa 7, .inl (T.1, 24, .inl fs)), (aa 8, .inl (T.1, 9, .inl fc)), (S.1.1, .inr (0, [.ref S.1.2.1, .int (nI S.2.1.length), .int S.1.2.2.1])), (S.2.2.1.1, .inr (0, [.ref S.2.2.1.2.1, .int (nI S.2.2.2.length), .int S.2.2.1.2.2.1])), (nA n, .inr (4, [.ref (nR n), .ref ((nL n).1), va_rf ((nG n).map (fun r => r.1))])), (q3, .inr (2, [.int x, .int y, .int 0, .int 0]))] ++ tr T S j n) := hD.part (cx := [(aa 0, .inr (5, [.ref (aa 1), .ref S.1.1, .ref S.2.2.1.1, .int zw, .ref (aa 3), .ref (aa 4), .ref (aa 6), .ref (aa 8)])), (aa 1, .inr (1, [.ref (aa 2), .int (nI kp)])), (aa 2, .inl (T.1, 24, .inl fp)), (aa 3, .inr (2, [.int e0, .int e1, .int (b2i oF), .int (b2i oT)])), (aa 4, .inr (1, [.ref (aa 5), .int (nI kt)])), (aa 5, .inl (T.1, 24, .inl ft)), (aa 6, .inr (1, [.ref (aa 7), .int (nI ks)])), (aa 7, .inl (T.1, 24, .inl fs)), (aa 8, .inl (T.1, 9, .inl fc)), (S.1.1, .inr (0, [.ref S.1.2.1, .int (nI S.2.1.length), .int S.1.2.2.1])), (S.2.2.1.1, .inr (0, [.ref S.2.2.1.2.1, .int (nI S.2.2.2.length), .int S.2.2.1.2.2.1])), (nA n, .inr (4, [.ref (nR n), .ref ((nL n).1), va_rf ((nG n).map (fun r => r.1))])), (q3, .inr (2, [.int x, .int y, .int 0, .int 0]))]) [0, 1, 2, 3, 4, 5, 6, 7, 8, 9, 10, 11, 12] (by decide) rfl
    refine va_put (D := D) (ci := 4) (v := .ref q3) (ty := .object "TimeWords$Years") (C := "TimeWords$Name") (T := F_N) (N := 3) hx hb hw in_N ty_N ty_N_ok n_N hown hK hP hD hS 11 rfl rfl 2 (by decide) (hw _ fl_T_107) (fun _ h9 => h9) rfl (by decide +kernel) rfl rfl (Nat.le_of_ble_eq_true rfl) d_T_reign_38 (fun H locs hP hD hS => ?_)
    have hP : va_P D gC ([(aa 0, .inr (5, [.ref (aa 1), .ref S.1.1, .ref S.2.2.1.1, .int zw, .ref (aa 3), .ref (aa 4), .ref (aa 6), .ref (aa 8)])), (aa 1, .inr (1, [.ref (aa 2), .int (nI kp)])), (aa 2, .inl (T.1, 24, .inl fp)), (aa 3, .inr (2, [.int e0, .int e1, .int (b2i oF), .int (b2i oT)])), (aa 4, .inr (1, [.ref (aa 5), .int (nI kt)])), (aa 5, .inl (T.1, 24, .inl ft)), (aa 6, .inr (1, [.ref (aa 7), .int (nI ks)])), (aa 7, .inl (T.1, 24, .inl fs)), (aa 8, .inl (T.1, 9, .inl fc)), (S.1.1, .inr (0, [.ref S.1.2.1, .int (nI S.2.1.length), .int S.1.2.2.1])), (S.2.2.1.1, .inr (0, [.ref S.2.2.1.2.1, .int (nI S.2.2.2.length), .int S.2.2.1.2.2.1])), (nA n, .inr (4, [.ref (nR n), .ref ((nL n).1), .ref q3])), (q3, .inr (2, [.int x, .int y, .int 0, .int 0]))] ++ tr T S j n) H := hP
    have hD : va_D A ([(aa 0, .inr (5, [.ref (aa 1), .ref S.1.1, .ref S.2.2.1.1, .int zw, .ref (aa 3), .ref (aa 4), .ref (aa 6), .ref (aa 8)])), (aa 1, .inr (1, [.ref (aa 2), .int (nI kp)])), (aa 2, .inl (T.1, 24, .inl fp)), (aa 3, .inr (2, [.int e0, .int e1, .int (b2i oF), .int (b2i oT)])), (aa 4, .inr (1, [.ref (aa 5), .int (nI kt)])), (aa 5, .inl (T.1, 24, .inl ft)), (aa 6, .inr (1, [.ref (aa 7), .int (nI ks)])), (aa 7, .inl (T.1, 24, .inl fs)), (aa 8, .inl (T.1, 9, .inl fc)), (S.1.1, .inr (0, [.ref S.1.2.1, .int (nI S.2.1.length), .int S.1.2.2.1])), (S.2.2.1.1, .inr (0, [.ref S.2.2.1.2.1, .int (nI S.2.2.2.length), .int S.2.2.1.2.2.1])), (nA n, .inr (4, [.ref (nR n), .ref ((nL n).1), .ref q3])), (q3, .inr (2, [.int x, .int y, .int 0, .int 0]))] ++ tr T S j n) := hD
    replace hP := pl_l (hP.perm (rg_back (T := T) (X := cX T aa zw kp fp e0 e1 oF oT kt ft ks fs fc S) (r := (q3, x, y)) hy1)); replace hD := dl_l (hD.perm (rg_back (T := T) (X := cX T aa zw kp fp e0 e1 oF oT kt ft ks fs fc S) (r := (q3, x, y)) hy1))
    rw [← cX_set (j := j) (n' := (n.1, n.2.1, n.2.2.1, some (q3, x, y), n.2.2.2.2))] at hP hD
    obtain ⟨S9, hS9⟩ : ∃ z : tS, z = (S.1, S.2.1.set j (n.1, n.2.1, n.2.2.1, some (q3, x, y), n.2.2.2.2), S.2.2.1, S.2.2.2) := ⟨_, rfl⟩
    rw [← hS9] at hP hD
    have hP : va_P D gC (cX T aa zw kp fp e0 e1 oF oT kt ft ks fs fc S9 ++ tl T S9) H := hP
    have hD : va_D A (cX T aa zw kp fp e0 e1 oF oT kt ft ks fs fc S9 ++ tl T S9) := hD
    refine lv_iload hx hb d_T_reign_41 (lv_at hl 0 rfl) ?_
    exact W.zret (v := 1) hx hb hr rfl (fun t ht hW => ⟨⟨1, S9, rfl, ⟨by simp [b2i], by rw [hS9]; exact set_ok hy0 hy1 rfl hn6, q3, hS9⟩, by rw [ht]; exact hP, va_K.moved hW.alike hK, hD⟩, hS.F ht⟩) hS.2.2 d_T_reign_43
  · refine W.eq (g2 := F0 m 17 ls [.ref r9.1]) rfl ?_
    refine lv_ifnonnull (tgt := 24) hx hb d_T_reign_17 (by decide) ?_
    refine lv_iconst (v := 0) hx hb d_T_reign_24 (by decide) ?_
    refine lv_istore (lv' := [(5, .int 0), (4, .ref (nA n)), (0, .ref (aa 0)), (1, .int (nI j)), (2, .int x), (3, .int y)]) hx hb d_T_reign_25 hl (by decide) rfl (fun ls hl => ?_)
    replace hP := hP.perm (rg_go hy1); replace hD := hD.perm (rg_go hy1)
    have hP : va_P D gC ([(aa 0, .inr (5, [.ref (aa 1), .ref S.1.1, .ref S.2.2.1.1, .int zw, .ref (aa 3), .ref (aa 4), .ref (aa 6), .ref (aa 8)])), (aa 1, .inr (1, [.ref (aa 2), .int (nI kp)])), (aa 2, .inl (T.1, 24, .inl fp)), (aa 3, .inr (2, [.int e0, .int e1, .int (b2i oF), .int (b2i oT)])), (aa 4, .inr (1, [.ref (aa 5), .int (nI kt)])), (aa 5, .inl (T.1, 24, .inl ft)), (aa 6, .inr (1, [.ref (aa 7), .int (nI ks)])), (aa 7, .inl (T.1, 24, .inl fs)), (aa 8, .inl (T.1, 9, .inl fc)), (S.1.1, .inr (0, [.ref S.1.2.1, .int (nI S.2.1.length), .int S.1.2.2.1])), (S.2.2.1.1, .inr (0, [.ref S.2.2.1.2.1, .int (nI S.2.2.2.length), .int S.2.2.1.2.2.1])), (nA n, .inr (4, [.ref (nR n), .ref ((nL n).1), va_rf ((nG n).map (fun r => r.1))]))] ++ tr T S j n) s.heap := hP
    have hD : va_D A ([(aa 0, .inr (5, [.ref (aa 1), .ref S.1.1, .ref S.2.2.1.1, .int zw, .ref (aa 3), .ref (aa 4), .ref (aa 6), .ref (aa 8)])), (aa 1, .inr (1, [.ref (aa 2), .int (nI kp)])), (aa 2, .inl (T.1, 24, .inl fp)), (aa 3, .inr (2, [.int e0, .int e1, .int (b2i oF), .int (b2i oT)])), (aa 4, .inr (1, [.ref (aa 5), .int (nI kt)])), (aa 5, .inl (T.1, 24, .inl ft)), (aa 6, .inr (1, [.ref (aa 7), .int (nI ks)])), (aa 7, .inl (T.1, 24, .inl fs)), (aa 8, .inl (T.1, 9, .inl fc)), (S.1.1, .inr (0, [.ref S.1.2.1, .int (nI S.2.1.length), .int S.1.2.2.1])), (S.2.2.1.1, .inr (0, [.ref S.2.2.1.2.1, .int (nI S.2.2.2.length), .int S.2.2.1.2.2.1])), (nA n, .inr (4, [.ref (nR n), .ref ((nL n).1), va_rf ((nG n).map (fun r => r.1))]))] ++ tr T S j n) := hD
    refine lv_aload hx hb d_T_reign_27 (lv_at hl 1 rfl) ?_
    refine va_new (ci := 2) (fs := [.int 0, .int 0, .int 0, .int 0]) (C := "TimeWords$Years") (T := F_Y) (N := 4) hx hb hw in_Y ty_Y ty_Y_ok hown (hw _ kl_T_32) (hw _ wn_Y) (hw _ wz_Y) hK hP hD hS hA rfl (by decide +kernel) (Nat.le_of_ble_eq_true rfl) (Nat.le_of_ble_eq_true rfl) d_T_reign_29 (fun q9 H hP hD hS => ?_)
    replace hP := hP.perm nw_pm; replace hD := hD.perm nw_pm
    have hP : va_P D gC ([(aa 0, .inr (5, [.ref (aa 1), .ref S.1.1, .ref S.2.2.1.1, .int zw, .ref (aa 3), .ref (aa 4), .ref (aa 6), .ref (aa 8)])), (aa 1, .inr (1, [.ref (aa 2), .int (nI kp)])), (aa 2, .inl (T.1, 24, .inl fp)), (aa 3, .inr (2, [.int e0, .int e1, .int (b2i oF), .int (b2i oT)])), (aa 4, .inr (1, [.ref (aa 5), .int (nI kt)])), (aa 5, .inl (T.1, 24, .inl ft)), (aa 6, .inr (1, [.ref (aa 7), .int (nI ks)])), (aa 7, .inl (T.1, 24, .inl fs)), (aa 8, .inl (T.1, 9, .inl fc)), (S.1.1, .inr (0, [.ref S.1.2.1, .int (nI S.2.1.length), .int S.1.2.2.1])), (S.2.2.1.1, .inr (0, [.ref S.2.2.1.2.1, .int (nI S.2.2.2.length), .int S.2.2.1.2.2.1])), (nA n, .inr (4, [.ref (nR n), .ref ((nL n).1), va_rf ((nG n).map (fun r => r.1))])), (q9, .inr (2, [.int 0, .int 0, .int 0, .int 0]))] ++ tr T S j n) H := hP
    have hD : va_D A ([(aa 0, .inr (5, [.ref (aa 1), .ref S.1.1, .ref S.2.2.1.1, .int zw, .ref (aa 3), .ref (aa 4), .ref (aa 6), .ref (aa 8)])), (aa 1, .inr (1, [.ref (aa 2), .int (nI kp)])), (aa 2, .inl (T.1, 24, .inl fp)), (aa 3, .inr (2, [.int e0, .int e1, .int (b2i oF), .int (b2i oT)])), (aa 4, .inr (1, [.ref (aa 5), .int (nI kt)])), (aa 5, .inl (T.1, 24, .inl ft)), (aa 6, .inr (1, [.ref (aa 7), .int (nI ks)])), (aa 7, .inl (T.1, 24, .inl fs)), (aa 8, .inl (T.1, 9, .inl fc)), (S.1.1, .inr (0, [.ref S.1.2.1, .int (nI S.2.1.length), .int S.1.2.2.1])), (S.2.2.1.1, .inr (0, [.ref S.2.2.1.2.1, .int (nI S.2.2.2.length), .int S.2.2.1.2.2.1])), (nA n, .inr (4, [.ref (nR n), .ref ((nL n).1), va_rf ((nG n).map (fun r => r.1))])), (q9, .inr (2, [.int 0, .int 0, .int 0, .int 0]))] ++ tr T S j n) := hD
    refine W.widen (k := 1) (n := 4) (by omega) (by omega) ?_
    refine lv_dup hx hb d_T_reign_32 rfl ?_
    refine lv_iload_n hx hb d_T_reign_33 rfl (lv_at hl 4 rfl) ?_
    refine lv_iload_n hx hb d_T_reign_34 rfl (lv_at hl 5 rfl) ?_
    have hPc : va_P D gC ([(q9, .inr (2, [.int 0, .int 0, .int 0, .int 0]))]) H := (pc1 (hP 12 _ rfl) pc0)
    have hDc : va_D A ([(q9, .inr (2, [.int 0, .int 0, .int 0, .int 0]))]) := by have h9 := hD.part (cx := [(q9, .inr (2, [.int 0, .int 0, .int 0, .int 0]))]) [12] (by decide) rfl; exact dl_l h9
    refine g_subv (X := [(aa 0, .inr (5, [.ref (aa 1), .ref S.1.1, .ref S.2.2.1.1, .int zw, .ref (aa 3), .ref (aa 4), .ref (aa 6), .ref (aa 8)])), (aa 1, .inr (1, [.ref (aa 2), .int (nI kp)])), (aa 2, .inl (T.1, 24, .inl fp)), (aa 3, .inr (2, [.int e0, .int e1, .int (b2i oF), .int (b2i oT)])), (aa 4, .inr (1, [.ref (aa 5), .int (nI kt)])), (aa 5, .inl (T.1, 24, .inl ft)), (aa 6, .inr (1, [.ref (aa 7), .int (nI ks)])), (aa 7, .inl (T.1, 24, .inl fs)), (aa 8, .inl (T.1, 9, .inl fc)), (S.1.1, .inr (0, [.ref S.1.2.1, .int (nI S.2.1.length), .int S.1.2.2.1])), (S.2.2.1.1, .inr (0, [.ref S.2.2.1.2.1, .int (nI S.2.2.2.length), .int S.2.2.1.2.2.1])), (nA n, .inr (4, [.ref (nR n), .ref ((nL n).1), va_rf ((nG n).map (fun r => r.1))])), (q9, .inr (2, [.int 0, .int 0, .int 0, .int 0]))]) (pl := tr T S j n) (wr := [(aa 0, .inr (5, [.ref (aa 1), .ref S.1.1, .ref S.2.2.1.1, .int zw, .ref (aa 3), .ref (aa 4), .ref (aa 6), .ref (aa 8)])), (aa 1, .inr (1, [.ref (aa 2), .int (nI kp)])), (aa 2, .inl (T.1, 24, .inl fp)), (aa 3, .inr (2, [.int e0, .int e1, .int (b2i oF), .int (b2i oT)])), (aa 4, .inr (1, [.ref (aa 5), .int (nI kt)])), (aa 5, .inl (T.1, 24, .inl ft)), (aa 6, .inr (1, [.ref (aa 7), .int (nI ks)])), (aa 7, .inl (T.1, 24, .inl fs)), (aa 8, .inl (T.1, 9, .inl fc)), (S.1.1, .inr (0, [.ref S.1.2.1, .int (nI S.2.1.length), .int S.1.2.2.1])), (S.2.2.1.1, .inr (0, [.ref S.2.2.1.2.1, .int (nI S.2.2.2.length), .int S.2.2.1.2.2.1])), (nA n, .inr (4, [.ref (nR n), .ref ((nL n).1), va_rf ((nG n).map (fun r => r.1))]))]) (cx := [(q9, .inr (2, [.int 0, .int 0, .int 0, .int 0]))]) (va_runI (As := [.int x, .int y]) (rest := [.ref q9, .ref (nA n)]) ⟨hx, hb, hml, hown, hw⟩ (k_Y_init l D T q9 0 0 0 0 H.size x y) (cwI 2 hw (bg_c wc_Y_init) rfl rfl rfl (hw _ wz_Y) (hw _ ml_T_34) (hw _ wi_Y_init) rfl (by decide +kernel) ⟨Nat.le_of_ble_eq_true rfl, Nat.le_of_ble_eq_true rfl⟩) ⟨qP_b, qP_p hPc hK hDc⟩ rfl rfl hl.1 rfl (lv_room (Nat.le_of_ble_eq_true rfl)) d_T_reign_35 ⟨Nat.le_of_ble_eq_true rfl, Nat.le_of_ble_eq_true rfl⟩) hP hD hS hA [12] [0, 1, 2, 3, 4, 5, 6, 7, 8, 9, 10, 11] rfl rfl (by decide) (by decide) (fun u9 H locs hr10 hP hD hS => ?_)
    obtain ⟨u11, u12, u13, u14⟩ := u9
    dsimp only at hr10 hP hD
    obtain ⟨q0, q1, q2, q3⟩ := hr10
    replace q0 := q0.symm; subst q0; replace q1 := q1.symm; subst q1; replace q2 := q2.symm; subst q2; replace q3 := q3.symm; subst q3
    have hP : va_P D gC ([(aa 0, .inr (5, [.ref (aa 1), .ref S.1.1, .ref S.2.2.1.1, .int zw, .ref (aa 3), .ref (aa 4), .ref (aa 6), .ref (aa 8)])), (aa 1, .inr (1, [.ref (aa 2), .int (nI kp)])), (aa 2, .inl (T.1, 24, .inl fp)), (aa 3, .inr (2, [.int e0, .int e1, .int (b2i oF), .int (b2i oT)])), (aa 4, .inr (1, [.ref (aa 5), .int (nI kt)])), (aa 5, .inl (T.1, 24, .inl ft)), (aa 6, .inr (1, [.ref (aa 7), .int (nI ks)])), (aa 7, .inl (T.1, 24, .inl fs)), (aa 8, .inl (T.1, 9, .inl fc)), (S.1.1, .inr (0, [.ref S.1.2.1, .int (nI S.2.1.length), .int S.1.2.2.1])), (S.2.2.1.1, .inr (0, [.ref S.2.2.1.2.1, .int (nI S.2.2.2.length), .int S.2.2.1.2.2.1])), (nA n, .inr (4, [.ref (nR n), .ref ((nL n).1), va_rf ((nG n).map (fun r => r.1))])), (q9, .inr (2, [.int x, .int y, .int 0, .int 0]))] ++ tr T S j n) H := hP.part (cx := [(aa 0, .inr (5, [.ref (aa 1), .ref S.1.1, .ref S.2.2.1.1, .int zw, .ref (aa 3), .ref (aa 4), .ref (aa 6), .ref (aa 8)])), (aa 1, .inr (1, [.ref (aa 2), .int (nI kp)])), (aa 2, .inl (T.1, 24, .inl fp)), (aa 3, .inr (2, [.int e0, .int e1, .int (b2i oF), .int (b2i oT)])), (aa 4, .inr (1, [.ref (aa 5), .int (nI kt)])), (aa 5, .inl (T.1, 24, .inl ft)), (aa 6, .inr (1, [.ref (aa 7), .int (nI ks)])), (aa 7, .inl (T.1, 24, .inl fs)), (aa 8, .inl (T.1, 9, .inl fc)), (S.1.1, .inr (0, [.ref S.1.2.1, .int (nI S.2.1.length), .int S.1.2.2.1])), (S.2.2.1.1, .inr (0, [.ref S.2.2.1.2.1, .int (nI S.2.2.2.length), .int S.2.2.1.2.2.1])), (nA n, .inr (4, [.ref (nR n), .ref ((nL n).1), va_rf ((nG n).map (fun r => r.1))])), (q9, .inr (2, [.int x, .int y, .int 0, .int 0]))]) [0, 1, 2, 3, 4, 5, 6, 7, 8, 9, 10, 11, 12] rfl
    have hD : va_D A ([(aa 0, .inr (5, [.ref (aa 1), .ref S.1.1, .ref S.2.2.1.1, .int zw, .ref (aa 3), .ref (aa 4), .ref (aa 6), .ref (aa 8)])), (aa 1, .inr (1, [.ref (aa 2), .int (nI kp)])), (aa 2, .inl (T.1, 24, .inl fp)), (aa 3, .inr (2, [.int e0, .int e1, .int (b2i oF), .int (b2i oT)])), (aa 4, .inr (1, [.ref (aa 5), .int (nI kt)])), (aa 5, .inl (T.1, 24, .inl ft)), (aa 6, .inr (1, [.ref (aa 7), .int (nI ks)])), (aa 7, .inl (T.1, 24, .inl fs)), (aa 8, .inl (T.1, 9, .inl fc)), (S.1.1, .inr (0, [.ref S.1.2.1, .int (nI S.2.1.length), .int S.1.2.2.1])), (S.2.2.1.1, .inr (0, [.ref S.2.2.1.2.1, .int (nI S.2.2.2.length), .int S.2.2.1.2.2.1])), (nA n, .inr (4, [.ref (nR n), .ref ((nL n).1), va_rf ((nG n).map (fun r => r.1))])), (q9, .inr (2, [.int x, .int y, .int 0, .int 0]))] ++ tr T S j n) := hD.part (cx := [(aa 0, .inr (5, [.ref (aa 1), .ref S.1.1, .ref S.2.2.1.1, .int zw, .ref (aa 3), .ref (aa 4), .ref (aa 6), .ref (aa 8)])), (aa 1, .inr (1, [.ref (aa 2), .int (nI kp)])), (aa 2, .inl (T.1, 24, .inl fp)), (aa 3, .inr (2, [.int e0, .int e1, .int (b2i oF), .int (b2i oT)])), (aa 4, .inr (1, [.ref (aa 5), .int (nI kt)])), (aa 5, .inl (T.1, 24, .inl ft)), (aa 6, .inr (1, [.ref (aa 7), .int (nI ks)])), (aa 7, .inl (T.1, 24, .inl fs)), (aa 8, .inl (T.1, 9, .inl fc)), (S.1.1, .inr (0, [.ref S.1.2.1, .int (nI S.2.1.length), .int S.1.2.2.1])), (S.2.2.1.1, .inr (0, [.ref S.2.2.1.2.1, .int (nI S.2.2.2.length), .int S.2.2.1.2.2.1])), (nA n, .inr (4, [.ref (nR n), .ref ((nL n).1), va_rf ((nG n).map (fun r => r.1))])), (q9, .inr (2, [.int x, .int y, .int 0, .int 0]))]) [0, 1, 2, 3, 4, 5, 6, 7, 8, 9, 10, 11, 12] (by decide) rfl
    refine va_put (D := D) (ci := 4) (v := .ref q9) (ty := .object "TimeWords$Years") (C := "TimeWords$Name") (T := F_N) (N := 3) hx hb hw in_N ty_N ty_N_ok n_N hown hK hP hD hS 11 rfl rfl 2 (by decide) (hw _ fl_T_107) (fun _ h9 => h9) rfl (by decide +kernel) rfl rfl (Nat.le_of_ble_eq_true rfl) d_T_reign_38 (fun H locs hP hD hS => ?_)
    have hP : va_P D gC ([(aa 0, .inr (5, [.ref (aa 1), .ref S.1.1, .ref S.2.2.1.1, .int zw, .ref (aa 3), .ref (aa 4), .ref (aa 6), .ref (aa 8)])), (aa 1, .inr (1, [.ref (aa 2), .int (nI kp)])), (aa 2, .inl (T.1, 24, .inl fp)), (aa 3, .inr (2, [.int e0, .int e1, .int (b2i oF), .int (b2i oT)])), (aa 4, .inr (1, [.ref (aa 5), .int (nI kt)])), (aa 5, .inl (T.1, 24, .inl ft)), (aa 6, .inr (1, [.ref (aa 7), .int (nI ks)])), (aa 7, .inl (T.1, 24, .inl fs)), (aa 8, .inl (T.1, 9, .inl fc)), (S.1.1, .inr (0, [.ref S.1.2.1, .int (nI S.2.1.length), .int S.1.2.2.1])), (S.2.2.1.1, .inr (0, [.ref S.2.2.1.2.1, .int (nI S.2.2.2.length), .int S.2.2.1.2.2.1])), (nA n, .inr (4, [.ref (nR n), .ref ((nL n).1), .ref q9])), (q9, .inr (2, [.int x, .int y, .int 0, .int 0]))] ++ tr T S j n) H := hP
    have hD : va_D A ([(aa 0, .inr (5, [.ref (aa 1), .ref S.1.1, .ref S.2.2.1.1, .int zw, .ref (aa 3), .ref (aa 4), .ref (aa 6), .ref (aa 8)])), (aa 1, .inr (1, [.ref (aa 2), .int (nI kp)])), (aa 2, .inl (T.1, 24, .inl fp)), (aa 3, .inr (2, [.int e0, .int e1, .int (b2i oF), .int (b2i oT)])), (aa 4, .inr (1, [.ref (aa 5), .int (nI kt)])), (aa 5, .inl (T.1, 24, .inl ft)), (aa 6, .inr (1, [.ref (aa 7), .int (nI ks)])), (aa 7, .inl (T.1, 24, .inl fs)), (aa 8, .inl (T.1, 9, .inl fc)), (S.1.1, .inr (0, [.ref S.1.2.1, .int (nI S.2.1.length), .int S.1.2.2.1])), (S.2.2.1.1, .inr (0, [.ref S.2.2.1.2.1, .int (nI S.2.2.2.length), .int S.2.2.1.2.2.1])), (nA n, .inr (4, [.ref (nR n), .ref ((nL n).1), .ref q9])), (q9, .inr (2, [.int x, .int y, .int 0, .int 0]))] ++ tr T S j n) := hD
    replace hP := pl_l (hP.perm (rg_back (T := T) (X := cX T aa zw kp fp e0 e1 oF oT kt ft ks fs fc S) (r := (q9, x, y)) hy1)); replace hD := dl_l (hD.perm (rg_back (T := T) (X := cX T aa zw kp fp e0 e1 oF oT kt ft ks fs fc S) (r := (q9, x, y)) hy1))
    rw [← cX_set (j := j) (n' := (n.1, n.2.1, n.2.2.1, some (q9, x, y), n.2.2.2.2))] at hP hD
    obtain ⟨S9, hS9⟩ : ∃ z : tS, z = (S.1, S.2.1.set j (n.1, n.2.1, n.2.2.1, some (q9, x, y), n.2.2.2.2), S.2.2.1, S.2.2.2) := ⟨_, rfl⟩
    rw [← hS9] at hP hD
    have hP : va_P D gC (cX T aa zw kp fp e0 e1 oF oT kt ft ks fs fc S9 ++ tl T S9) H := hP
    have hD : va_D A (cX T aa zw kp fp e0 e1 oF oT kt ft ks fs fc S9 ++ tl T S9) := hD
    refine lv_iload hx hb d_T_reign_41 (lv_at hl 0 rfl) ?_
    exact W.zret (v := 0) hx hb hr rfl (fun t ht hW => ⟨⟨0, S9, rfl, ⟨by simp [b2i], by rw [hS9]; exact set_ok hy0 hy1 rfl hn6, q9, hS9⟩, by rw [ht]; exact hP, va_K.moved hW.alike hK, hD⟩, hS.F ht⟩) hS.2.2 d_T_reign_43

set_option maxHeartbeats 4000000 in
set_option maxRecDepth 100000 in
theorem k_T_reign_x (l : Launch) (hl9 : l.stackTraces = false) (D : va_G) (T : gT) (κ : gS) (A : Nat → Prop) (aa : Nat → Nat) (zw : Int32) (kp : Nat) (fp : Nat → Int32) (e0 e1 : Int32) (oF oT : Bool) (kt : Nat) (ft : Nat → Int32) (ks : Nat) (fs fc : Nat → Int32) (S : tS) (sz : Nat) (x x2 x3 : Int32) (hy0 : j_ix x (nI S.2.1.length) = false) : vx_Met l y_T_reign (Cond.code y_T_reign b_T_reign 6 (some .boolean) :: bg_W) ({ frames := 8, cells := 1, slots := 6, locals := 131 }) (xPf κ A D T (cX T aa zw kp fp e0 e1 oF oT kt ft ks fs fc S ++ tl T S) [.ref (aa 0), .int x, .int x2, .int x3] sz) xN (xE "java/lang/IndexOutOfBoundsException" sz) 1 6 (fun q => sz ≤ q) := by
  refine vx_ofW (cc := b_T_reign) (maxL := 6) (ret := (some .boolean)) (by decide) rfl ?_
  intro p e s m args below meth c s₁ B hml htab hv
  obtain ⟨rfl, hsz, hP, hK, hF⟩ := hv
  have hx := B.exec
  have hb := B.bytes
  have hr := B.returns
  have hw : ∀ w ∈ bg_W, w.before ([.ref (aa 0), .int x, .int x2, .int x3] : List Value).toArray s = true := fun w h => atoms_spec (ws := (Cond.code y_T_reign b_T_reign 6 (some .boolean) :: bg_W)) B.pre w (List.mem_cons_of_mem _ h)
  have hown : s.vm.findClass "TimeWords" = some m.cls := findClass_of_methodNamed B.named
  have hlocks := B.notSynchronized
  subst hsz
  have hS : va_S A s.heap s.heap [] := va_S.rf
  have hl := lv_entry ([.ref (aa 0), .int x, .int x2, .int x3]) (n := 6) (Nat.le_of_ble_eq_true rfl)
  rw [lg_entry_eq]
  generalize (lg_sl ([.ref (aa 0), .int x, .int x2, .int x3]) ++ List.replicate (6 - (lg_sl ([.ref (aa 0), .int x, .int x2, .int x3])).length) Slot.unset).toArray = ls at hl ⊢
  have hl : lv_has ls 6 [(0, .ref (aa 0)), (1, .int x), (2, .int x2), (3, .int x3)] := hl
  refine lv_aload_n hx hb d_T_reign_0 rfl (lv_at hl 0 rfl) ?_
  refine lv_iload_n hx hb d_T_reign_1 rfl (lv_at hl 1 rfl) ?_
  exact x_call (vx_runV (As := [.int x]) (rest := []) ⟨hx, hb, hml, hown, hw⟩ (k_T_nameNumbered_x l hl9 D T κ A aa zw kp fp e0 e1 oF oT kt ft ks fs fc S s.heap.size x hy0) (cwV 1 hw (bg_V ml_T_100 wi_T_nameNumbered wv_T_nameNumbered wz_T wc_T_nameNumbered) rfl rfl rfl (by decide +kernel) ⟨Nat.le_of_ble_eq_true rfl, Nat.le_of_ble_eq_true rfl⟩) ⟨xPf_b, va_recv hK hP (ci := 5) (q0 := 0) rfl rfl, xPf_p hP hK hF hS⟩ rfl rfl hl.1 rfl (lv_room (Nat.le_of_ble_eq_true rfl)) d_T_reign_2 ⟨Nat.le_of_ble_eq_true rfl, Nat.le_of_ble_eq_true rfl⟩) htab hlocks

set_option maxHeartbeats 4000000 in
set_option maxRecDepth 100000 in
theorem k_T_reign_y (l : Launch) (hl9 : l.stackTraces = false) (D : va_G) (T : gT) (κ : gS) (A : Nat → Prop) (aa : Nat → Nat) (zw : Int32) (kp : Nat) (fp : Nat → Int32) (e0 e1 : Int32) (oF oT : Bool) (kt : Nat) (ft : Nat → Int32) (ks : Nat) (fs fc : Nat → Int32) (S : tS) (sz : Nat) (j : Nat) (n : nmD) (x y : Int32) (hy0 : tOk κ S) (hy1 : S.2.1[j]? = some n) (hy2 : j_yy x y = false) : vx_Met l y_T_reign (Cond.code y_T_reign b_T_reign 6 (some .boolean) :: bg_W) ({ frames := 8, cells := 1, slots := 6, locals := 131 }) (xPf κ A D T (cX T aa zw kp fp e0 e1 oF oT kt ft ks fs fc S ++ tl T S) [.ref (aa 0), .int (nI j), .int x, .int y] sz) xN (xE "java/lang/IllegalArgumentException" sz) 1 6 (fun q => sz ≤ q) := by
  refine vx_ofW (cc := b_T_reign) (maxL := 6) (ret := (some .boolean)) (by decide) rfl ?_
  intro p e s m args below meth c s₁ B hml htab hv
  obtain ⟨rfl, hsz, hP, hK, hF⟩ := hv
  have hx := B.exec
  have hb := B.bytes
  have hr := B.returns
  have hw : ∀ w ∈ bg_W, w.before ([.ref (aa 0), .int (nI j), .int x, .int y] : List Value).toArray s = true := fun w h => atoms_spec (ws := (Cond.code y_T_reign b_T_reign 6 (some .boolean) :: bg_W)) B.pre w (List.mem_cons_of_mem _ h)
  have hown : s.vm.findClass "TimeWords" = some m.cls := findClass_of_methodNamed B.named
  have hlocks := B.notSynchronized
  subst hsz
  have hS : va_S A s.heap s.heap [] := va_S.rf
  have hl := lv_entry ([.ref (aa 0), .int (nI j), .int x, .int y]) (n := 6) (Nat.le_of_ble_eq_true rfl)
  rw [lg_entry_eq]
  generalize (lg_sl ([.ref (aa 0), .int (nI j), .int x, .int y]) ++ List.replicate (6 - (lg_sl ([.ref (aa 0), .int (nI j), .int x, .int y])).length) Slot.unset).toArray = ls at hl ⊢
  have hl : lv_has ls 6 [(0, .ref (aa 0)), (1, .int (nI j)), (2, .int x), (3, .int y)] := hl
  have hL1 : S.2.1.length ≤ 24 := hy0.2.2.2.1
  have hL2 : S.2.2.2.length ≤ 60 := hy0.2.2.2.2
  obtain ⟨hn1, hn2, hn3, hn4, hn5, hn6⟩ := nm_at hy0 hy1
  refine lv_aload_n hx hb d_T_reign_0 rfl (lv_at hl 0 rfl) ?_
  refine lv_iload_n hx hb d_T_reign_1 rfl (lv_at hl 1 rfl) ?_
  refine va_csq (va_Run.run (va_runV (As := [.int (nI j)]) (rest := []) ⟨hx, hb, hml, hown, hw⟩ (k_T_nameNumbered l D T κ A aa zw kp fp e0 e1 oF oT kt ft ks fs fc S j n hy0 hy1) (cwV 1 hw (bg_V ml_T_100 wi_T_nameNumbered wv_T_nameNumbered wz_T wc_T_nameNumbered) rfl rfl rfl (by decide +kernel) ⟨Nat.le_of_ble_eq_true rfl, Nat.le_of_ble_eq_true rfl⟩) ⟨sPf_b, va_recv hK hP (ci := 5) (q0 := 0) rfl rfl, sPf_p hP hK hF hS⟩ rfl rfl hl.1 rfl (lv_room (Nat.le_of_ble_eq_true rfl)) d_T_reign_2 ⟨Nat.le_of_ble_eq_true rfl, Nat.le_of_ble_eq_true rfl⟩)) (fun r1 hr1 => ?_)
  replace hr1 := hr1.symm; subst hr1
  refine W.eq (g2 := F0 m 5 ls [.ref (nA n)]) rfl ?_
  refine lv_astore (lv' := [(4, .ref (nA n)), (0, .ref (aa 0)), (1, .int (nI j)), (2, .int x), (3, .int y)]) hx hb d_T_reign_5 hl (by decide) rfl (fun ls hl => ?_)
  refine lv_iload_n hx hb d_T_reign_7 rfl (lv_at hl 3 rfl) ?_
  refine lv_iload_n hx hb d_T_reign_8 rfl (lv_at hl 4 rfl) ?_
  have hPc : va_P D gC ([]) s.heap := pc0
  exact x_call (vx_runS (As := [.int x, .int y]) (rest := []) ⟨hx, hb, hml, hown, hw⟩ (k_T_checkYears_x l hl9 D T κ A s.heap.size x y hy2) (va_cwS 2 hw (bg_S ml_T_104 wt_T_checkYears wz_T wc_T_checkYears) rfl rfl rfl (by decide +kernel) ⟨Nat.le_of_ble_eq_true rfl, Nat.le_of_ble_eq_true rfl⟩) ⟨xPf_b, xPf_p hPc hK hF hS⟩ rfl rfl hl.1 rfl (lv_room (Nat.le_of_ble_eq_true rfl)) d_T_reign_9 ⟨Nat.le_of_ble_eq_true rfl, Nat.le_of_ble_eq_true rfl⟩) htab hlocks

theorem tq_ph {T : gT} {S : tS} {j : Nat} {n : nmD} {q : Nat × va_E} (h : q ∈ (nH n).map phO) : q ∈ tq T S j n := by
  simp only [tq, List.mem_append, h, true_or, or_true]
set_option maxHeartbeats 4000000 in
set_option maxRecDepth 100000 in
theorem k_T_phase (l : Launch) (D : va_G) (T : gT) (κ : gS) (aa : Nat → Nat) (zw : Int32) (kp : Nat) (fp : Nat → Int32) (e0 e1 : Int32) (oF oT : Bool) (kt : Nat) (ft : Nat → Int32) (ks : Nat) (fs fc : Nat → Int32) (S : tS) (sz : Nat) (j : Nat) (n : nmD) (pz x y dy : Int32) (hy0 : tOk κ S) (hy1 : S.2.1[j]? = some n) (hy2 : j_in pz 0 7 = true) (hy3 : j_yy x y = true) (hy4 : j_in dy 0 100000 = true) (hy5 : (nH n).length < 6) : Met l y_T_phase (Cond.code y_T_phase b_T_phase 7 (some .int) :: bg_W) ({ frames := 7, cells := 3, slots := 97, locals := 171 }) (qPf κ D T (cX T aa zw kp fp e0 e1 oF oT kt ft ks fs fc S ++ tl T S) [.ref (aa 0), .int (nI j), .int pz, .int x, .int y, .int dy] sz) (va_Qi (fun (r : Int32) (S1 : tS) => r = nI ((nH n).length + 1) ∧ phP κ S j n pz dy x y S1) (qB D T (va_A (cX T aa zw kp fp e0 e1 oF oT kt ft ks fs fc S ++ tl T S) sz) (fun S1 : tS => cX T aa zw kp fp e0 e1 oF oT kt ft ks fs fc S1 ++ tl T S1)) (va_A (cX T aa zw kp fp e0 e1 oF oT kt ft ks fs fc S ++ tl T S) sz)) 3 97 (va_A (cX T aa zw kp fp e0 e1 oF oT kt ft ks fs fc S ++ tl T S) sz) := by
  refine Met.ofW (cc := b_T_phase) (maxL := 7) (ret := (some .int)) (by decide) rfl ?_
  intro p e s m args below meth c s₁ B hml hv
  obtain ⟨rfl, hsz, hP, hK, hD0, hF⟩ := hv
  have hx := B.exec
  have hb := B.bytes
  have hr := B.returns
  have hw : ∀ w ∈ bg_W, w.before ([.ref (aa 0), .int (nI j), .int pz, .int x, .int y, .int dy] : List Value).toArray s = true := fun w h => atoms_spec (ws := (Cond.code y_T_phase b_T_phase 7 (some .int) :: bg_W)) B.pre w (List.mem_cons_of_mem _ h)
  have hown : s.vm.findClass "TimeWords" = some m.cls := findClass_of_methodNamed B.named
  have hlocks := B.notSynchronized
  subst hsz
  have hD := hD0.self (sz := s.heap.size)
  generalize hAe : va_A (cX T aa zw kp fp e0 e1 oF oT kt ft ks fs fc S ++ tl T S) s.heap.size = A at hD hF ⊢
  have hA : ∀ q : Nat, s.heap.size ≤ q → A q := fun q h => by rw [← hAe]; exact Or.inr h
  have hS : va_S A s.heap s.heap [] := va_S.rf
  have hl := lv_entry ([.ref (aa 0), .int (nI j), .int pz, .int x, .int y, .int dy]) (n := 7) (Nat.le_of_ble_eq_true rfl)
  rw [lg_entry_eq]
  generalize (lg_sl ([.ref (aa 0), .int (nI j), .int pz, .int x, .int y, .int dy]) ++ List.replicate (7 - (lg_sl ([.ref (aa 0), .int (nI j), .int pz, .int x, .int y, .int dy])).length) Slot.unset).toArray = ls at hl ⊢
  have hl : lv_has ls 7 [(0, .ref (aa 0)), (1, .int (nI j)), (2, .int pz), (3, .int x), (4, .int y), (5, .int dy)] := hl
  have hL1 : S.2.1.length ≤ 24 := hy0.2.2.2.1
  have hL2 : S.2.2.2.length ≤ 60 := hy0.2.2.2.2
  obtain ⟨hn1, hn2, hn3, hn4, hn5, hn6⟩ := nm_at hy0 hy1
  refine lv_aload_n hx hb d_T_phase_0 rfl (lv_at hl 0 rfl) ?_
  refine lv_iload_n hx hb d_T_phase_1 rfl (lv_at hl 1 rfl) ?_
  refine va_csq (va_Run.run (va_runV (As := [.int (nI j)]) (rest := []) ⟨hx, hb, hml, hown, hw⟩ (k_T_nameNumbered l D T κ A aa zw kp fp e0 e1 oF oT kt ft ks fs fc S j n hy0 hy1) (cwV 1 hw (bg_V ml_T_100 wi_T_nameNumbered wv_T_nameNumbered wz_T wc_T_nameNumbered) rfl rfl rfl (by decide +kernel) ⟨Nat.le_of_ble_eq_true rfl, Nat.le_of_ble_eq_true rfl⟩) ⟨sPf_b, va_recv hK hP (ci := 5) (q0 := 0) rfl rfl, sPf_p hP hK hF hS⟩ rfl rfl hl.1 rfl (lv_room (Nat.le_of_ble_eq_true rfl)) d_T_phase_2 ⟨Nat.le_of_ble_eq_true rfl, Nat.le_of_ble_eq_true rfl⟩)) (fun r1 hr1 => ?_)
  replace hr1 := hr1.symm; subst hr1
  refine W.eq (g2 := F0 m 5 ls [.ref (nA n)]) rfl ?_
  refine lv_astore (lv' := [(6, .ref (nA n)), (0, .ref (aa 0)), (1, .int (nI j)), (2, .int pz), (3, .int x), (4, .int y), (5, .int dy)]) hx hb d_T_phase_5 hl (by decide) rfl (fun ls hl => ?_)
  refine lv_iload_n hx hb d_T_phase_7 rfl (lv_at hl 3 rfl) ?_
  refine va_csv (va_Run.run (va_runS (As := [.int pz]) (rest := []) ⟨hx, hb, hml, hown, hw⟩ (k_T_checkPlace l pz hy2) (va_cwS 1 hw (bg_S ml_T_110 wt_T_checkPlace wz_T wc_T_checkPlace) rfl rfl rfl (by decide +kernel) ⟨Nat.le_of_ble_eq_true rfl, Nat.le_of_ble_eq_true rfl⟩) ⟨nP_b, nP_p⟩ rfl rfl hl.1 rfl (lv_room (Nat.le_of_ble_eq_true rfl)) d_T_phase_8 ⟨Nat.le_of_ble_eq_true rfl, Nat.le_of_ble_eq_true rfl⟩)) (fun hr2 => ?_)
  refine lv_iload_n hx hb d_T_phase_11 rfl (lv_at hl 4 rfl) ?_
  refine lv_iload hx hb d_T_phase_12 (lv_at hl 5 rfl) ?_
  refine va_csv (va_Run.run (va_runS (As := [.int x, .int y]) (rest := []) ⟨hx, hb, hml, hown, hw⟩ (k_T_checkYears l x y hy3) (va_cwS 2 hw (bg_S ml_T_104 wt_T_checkYears wz_T wc_T_checkYears) rfl rfl rfl (by decide +kernel) ⟨Nat.le_of_ble_eq_true rfl, Nat.le_of_ble_eq_true rfl⟩) ⟨nP_b, nP_p⟩ rfl rfl hl.1 rfl (lv_room (Nat.le_of_ble_eq_true rfl)) d_T_phase_14 ⟨Nat.le_of_ble_eq_true rfl, Nat.le_of_ble_eq_true rfl⟩)) (fun hr3 => ?_)
  refine lv_iload hx hb d_T_phase_17 (lv_at hl 6 rfl) ?_
  refine va_csv (va_Run.run (va_runS (As := [.int dy]) (rest := []) ⟨hx, hb, hml, hown, hw⟩ (k_T_checkDay l dy hy4) (va_cwS 1 hw (bg_S ml_T_113 wt_T_checkDay wz_T wc_T_checkDay) rfl rfl rfl (by decide +kernel) ⟨Nat.le_of_ble_eq_true rfl, Nat.le_of_ble_eq_true rfl⟩) ⟨nP_b, nP_p⟩ rfl rfl hl.1 rfl (lv_room (Nat.le_of_ble_eq_true rfl)) d_T_phase_19 ⟨Nat.le_of_ble_eq_true rfl, Nat.le_of_ble_eq_true rfl⟩)) (fun hr4 => ?_)
  refine lv_aload hx hb d_T_phase_22 (lv_at hl 0 rfl) ?_
  refine va_get (D := D) (ci := 4) (v := .ref ((nL n).1)) (C := "TimeWords$Name") (T := F_N) (N := 3) hx hb hw in_N hown hK (pc1 (hP.mem (List.mem_append_right _ (tl_nm hn5 nmm_o))) pc0) 0 rfl rfl 1 (by decide) (hw _ fl_T_116) (fun _ h9 => h9) rfl d_T_phase_24 ?_
  have hPc : va_P D gC ([((nL n).1, .inr (0, [.ref ((nL n).2.1), .int (nI (nH n).length), .int ((nL n).2.2.1)]))]) s.heap := (pc1 (hP.mem (List.mem_append_right _ (tl_nm hn5 nmm_l))) pc0)
  refine vp_callSi (va_Run.run (va_runV (As := []) (rest := []) ⟨hx, hb, hml, hown, hw⟩ (k_A_size l D T ((nL n).1) ((nL n).2.1) ((nH n).length) ((nL n).2.2.1)) (cwV 0 hw (bg_V ml_T_86 wi_A_size wv_A_size wz_A wc_A_size) rfl rfl rfl (by decide +kernel) ⟨Nat.le_of_ble_eq_true rfl, Nat.le_of_ble_eq_true rfl⟩) ⟨sP_b, va_recv hK hPc (ci := 0) (q0 := 0) rfl rfl, sP_p hPc hK⟩ rfl rfl hl.1 rfl (lv_room (Nat.le_of_ble_eq_true rfl)) d_T_phase_27 ⟨Nat.le_of_ble_eq_true rfl, Nat.le_of_ble_eq_true rfl⟩)) (fun r5 hr5 => ?_)
  replace hr5 := hr5.symm; subst hr5
  refine lv_bipush (v := 6) hx hb d_T_phase_30 (by decide) ?_
  refine lv_icmp_lt (tgt := 45) hx hb d_T_phase_32 (by decide) (fun c6 => ?_) (fun c6 => absurd ((show nI (nH n).length < nI 6 from nI_lt (by omega) (by decide))) c6)
  refine lv_aload hx hb d_T_phase_45 (lv_at hl 0 rfl) ?_
  refine va_get (D := D) (ci := 4) (v := .ref ((nL n).1)) (C := "TimeWords$Name") (T := F_N) (N := 3) hx hb hw in_N hown hK (pc1 (hP.mem (List.mem_append_right _ (tl_nm hn5 nmm_o))) pc0) 0 rfl rfl 1 (by decide) (hw _ fl_T_116) (fun _ h9 => h9) rfl d_T_phase_47 ?_
  refine va_new (ci := 3) (fs := [.int 0, .int 0, .null]) (C := "TimeWords$Phase") (T := F_P) (N := 3) hx hb hw in_P ty_P ty_P_ok hown (hw _ kl_T_121) (hw _ wn_P) (hw _ wz_P) hK hP hD hS hA rfl (by decide +kernel) (Nat.le_of_ble_eq_true rfl) (Nat.le_of_ble_eq_true rfl) d_T_phase_50 (fun q7 H hP hD hS => ?_)
  replace hP := hP.perm nw_pm; replace hD := hD.perm nw_pm
  have hP : va_P D gC ([(aa 0, .inr (5, [.ref (aa 1), .ref S.1.1, .ref S.2.2.1.1, .int zw, .ref (aa 3), .ref (aa 4), .ref (aa 6), .ref (aa 8)])), (aa 1, .inr (1, [.ref (aa 2), .int (nI kp)])), (aa 2, .inl (T.1, 24, .inl fp)), (aa 3, .inr (2, [.int e0, .int e1, .int (b2i oF), .int (b2i oT)])), (aa 4, .inr (1, [.ref (aa 5), .int (nI kt)])), (aa 5, .inl (T.1, 24, .inl ft)), (aa 6, .inr (1, [.ref (aa 7), .int (nI ks)])), (aa 7, .inl (T.1, 24, .inl fs)), (aa 8, .inl (T.1, 9, .inl fc)), (S.1.1, .inr (0, [.ref S.1.2.1, .int (nI S.2.1.length), .int S.1.2.2.1])), (S.2.2.1.1, .inr (0, [.ref S.2.2.1.2.1, .int (nI S.2.2.2.length), .int S.2.2.1.2.2.1])), (q7, .inr (3, [.int 0, .int 0, .null]))] ++ tl T S) H := hP
  have hD : va_D A ([(aa 0, .inr (5, [.ref (aa 1), .ref S.1.1, .ref S.2.2.1.1, .int zw, .ref (aa 3), .ref (aa 4), .ref (aa 6), .ref (aa 8)])), (aa 1, .inr (1, [.ref (aa 2), .int (nI kp)])), (aa 2, .inl (T.1, 24, .inl fp)), (aa 3, .inr (2, [.int e0, .int e1, .int (b2i oF), .int (b2i oT)])), (aa 4, .inr (1, [.ref (aa 5), .int (nI kt)])), (aa 5, .inl (T.1, 24, .inl ft)), (aa 6, .inr (1, [.ref (aa 7), .int (nI ks)])), (aa 7, .inl (T.1, 24, .inl fs)), (aa 8, .inl (T.1, 9, .inl fc)), (S.1.1, .inr (0, [.ref S.1.2.1, .int (nI S.2.1.length), .int S.1.2.2.1])), (S.2.2.1.1, .inr (0, [.ref S.2.2.1.2.1, .int (nI S.2.2.2.length), .int S.2.2.1.2.2.1])), (q7, .inr (3, [.int 0, .int 0, .null]))] ++ tl T S) := hD
  refine W.widen (k := 1) (n := 3) (by omega) (by omega) ?_
  refine lv_dup hx hb d_T_phase_53 rfl ?_
  refine lv_iload_n hx hb d_T_phase_54 rfl (lv_at hl 3 rfl) ?_
  refine lv_iload hx hb d_T_phase_55 (lv_at hl 6 rfl) ?_
  refine va_new (ci := 2) (fs := [.int 0, .int 0, .int 0, .int 0]) (C := "TimeWords$Years") (T := F_Y) (N := 4) hx hb hw in_Y ty_Y ty_Y_ok hown (hw _ kl_T_32) (hw _ wn_Y) (hw _ wz_Y) hK hP hD hS hA rfl (by decide +kernel) (Nat.le_of_ble_eq_true rfl) (Nat.le_of_ble_eq_true rfl) d_T_phase_57 (fun q8 H hP hD hS => ?_)
  replace hP := hP.perm nw_pm; replace hD := hD.perm nw_pm
  have hP : va_P D gC ([(aa 0, .inr (5, [.ref (aa 1), .ref S.1.1, .ref S.2.2.1.1, .int zw, .ref (aa 3), .ref (aa 4), .ref (aa 6), .ref (aa 8)])), (aa 1, .inr (1, [.ref (aa 2), .int (nI kp)])), (aa 2, .inl (T.1, 24, .inl fp)), (aa 3, .inr (2, [.int e0, .int e1, .int (b2i oF), .int (b2i oT)])), (aa 4, .inr (1, [.ref (aa 5), .int (nI kt)])), (aa 5, .inl (T.1, 24, .inl ft)), (aa 6, .inr (1, [.ref (aa 7), .int (nI ks)])), (aa 7, .inl (T.1, 24, .inl fs)), (aa 8, .inl (T.1, 9, .inl fc)), (S.1.1, .inr (0, [.ref S.1.2.1, .int (nI S.2.1.length), .int S.1.2.2.1])), (S.2.2.1.1, .inr (0, [.ref S.2.2.1.2.1, .int (nI S.2.2.2.length), .int S.2.2.1.2.2.1])), (q7, .inr (3, [.int 0, .int 0, .null])), (q8, .inr (2, [.int 0, .int 0, .int 0, .int 0]))] ++ tl T S) H := hP
  have hD : va_D A ([(aa 0, .inr (5, [.ref (aa 1), .ref S.1.1, .ref S.2.2.1.1, .int zw, .ref (aa 3), .ref (aa 4), .ref (aa 6), .ref (aa 8)])), (aa 1, .inr (1, [.ref (aa 2), .int (nI kp)])), (aa 2, .inl (T.1, 24, .inl fp)), (aa 3, .inr (2, [.int e0, .int e1, .int (b2i oF), .int (b2i oT)])), (aa 4, .inr (1, [.ref (aa 5), .int (nI kt)])), (aa 5, .inl (T.1, 24, .inl ft)), (aa 6, .inr (1, [.ref (aa 7), .int (nI ks)])), (aa 7, .inl (T.1, 24, .inl fs)), (aa 8, .inl (T.1, 9, .inl fc)), (S.1.1, .inr (0, [.ref S.1.2.1, .int (nI S.2.1.length), .int S.1.2.2.1])), (S.2.2.1.1, .inr (0, [.ref S.2.2.1.2.1, .int (nI S.2.2.2.length), .int S.2.2.1.2.2.1])), (q7, .inr (3, [.int 0, .int 0, .null])), (q8, .inr (2, [.int 0, .int 0, .int 0, .int 0]))] ++ tl T S) := hD
  refine W.widen (k := 2) (n := 7) (by omega) (by omega) ?_
  refine lv_dup hx hb d_T_phase_60 rfl ?_
  refine lv_iload_n hx hb d_T_phase_61 rfl (lv_at hl 4 rfl) ?_
  refine lv_iload hx hb d_T_phase_62 (lv_at hl 5 rfl) ?_
  have hPc : va_P D gC ([(q8, .inr (2, [.int 0, .int 0, .int 0, .int 0]))]) H := (pc1 (hP 12 _ rfl) pc0)
  have hDc : va_D A ([(q8, .inr (2, [.int 0, .int 0, .int 0, .int 0]))]) := by have h9 := hD.part (cx := [(q8, .inr (2, [.int 0, .int 0, .int 0, .int 0]))]) [12] (by decide) rfl; exact dl_l h9
  refine g_subv (X := [(aa 0, .inr (5, [.ref (aa 1), .ref S.1.1, .ref S.2.2.1.1, .int zw, .ref (aa 3), .ref (aa 4), .ref (aa 6), .ref (aa 8)])), (aa 1, .inr (1, [.ref (aa 2), .int (nI kp)])), (aa 2, .inl (T.1, 24, .inl fp)), (aa 3, .inr (2, [.int e0, .int e1, .int (b2i oF), .int (b2i oT)])), (aa 4, .inr (1, [.ref (aa 5), .int (nI kt)])), (aa 5, .inl (T.1, 24, .inl ft)), (aa 6, .inr (1, [.ref (aa 7), .int (nI ks)])), (aa 7, .inl (T.1, 24, .inl fs)), (aa 8, .inl (T.1, 9, .inl fc)), (S.1.1, .inr (0, [.ref S.1.2.1, .int (nI S.2.1.length), .int S.1.2.2.1])), (S.2.2.1.1, .inr (0, [.ref S.2.2.1.2.1, .int (nI S.2.2.2.length), .int S.2.2.1.2.2.1])), (q7, .inr (3, [.int 0, .int 0, .null])), (q8, .inr (2, [.int 0, .int 0, .int 0, .int 0]))]) (pl := tl T S) (wr := [(aa 0, .inr (5, [.ref (aa 1), .ref S.1.1, .ref S.2.2.1.1, .int zw, .ref (aa 3), .ref (aa 4), .ref (aa 6), .ref (aa 8)])), (aa 1, .inr (1, [.ref (aa 2), .int (nI kp)])), (aa 2, .inl (T.1, 24, .inl fp)), (aa 3, .inr (2, [.int e0, .int e1, .int (b2i oF), .int (b2i oT)])), (aa 4, .inr (1, [.ref (aa 5), .int (nI kt)])), (aa 5, .inl (T.1, 24, .inl ft)), (aa 6, .inr (1, [.ref (aa 7), .int (nI ks)])), (aa 7, .inl (T.1, 24, .inl fs)), (aa 8, .inl (T.1, 9, .inl fc)), (S.1.1, .inr (0, [.ref S.1.2.1, .int (nI S.2.1.length), .int S.1.2.2.1])), (S.2.2.1.1, .inr (0, [.ref S.2.2.1.2.1, .int (nI S.2.2.2.length), .int S.2.2.1.2.2.1])), (q7, .inr (3, [.int 0, .int 0, .null]))]) (cx := [(q8, .inr (2, [.int 0, .int 0, .int 0, .int 0]))]) (va_runI (As := [.int x, .int y]) (rest := [.ref q8, .int dy, .int pz, .ref q7, .ref q7, .ref ((nL n).1)]) ⟨hx, hb, hml, hown, hw⟩ (k_Y_init l D T q8 0 0 0 0 H.size x y) (cwI 2 hw (bg_c wc_Y_init) rfl rfl rfl (hw _ wz_Y) (hw _ ml_T_34) (hw _ wi_Y_init) rfl (by decide +kernel) ⟨Nat.le_of_ble_eq_true rfl, Nat.le_of_ble_eq_true rfl⟩) ⟨qP_b, qP_p hPc hK hDc⟩ rfl rfl hl.1 rfl (lv_room (Nat.le_of_ble_eq_true rfl)) d_T_phase_64 ⟨Nat.le_of_ble_eq_true rfl, Nat.le_of_ble_eq_true rfl⟩) hP hD hS hA [12] [0, 1, 2, 3, 4, 5, 6, 7, 8, 9, 10, 11] rfl rfl (by decide) (by decide) (fun u9 H locs hr9 hP hD hS => ?_)
  obtain ⟨u10, u11, u12, u13⟩ := u9
  dsimp only at hr9 hP hD
  obtain ⟨q0, q1, q2, q3⟩ := hr9
  replace q0 := q0.symm; subst q0; replace q1 := q1.symm; subst q1; replace q2 := q2.symm; subst q2; replace q3 := q3.symm; subst q3
  have hP : va_P D gC ([(aa 0, .inr (5, [.ref (aa 1), .ref S.1.1, .ref S.2.2.1.1, .int zw, .ref (aa 3), .ref (aa 4), .ref (aa 6), .ref (aa 8)])), (aa 1, .inr (1, [.ref (aa 2), .int (nI kp)])), (aa 2, .inl (T.1, 24, .inl fp)), (aa 3, .inr (2, [.int e0, .int e1, .int (b2i oF), .int (b2i oT)])), (aa 4, .inr (1, [.ref (aa 5), .int (nI kt)])), (aa 5, .inl (T.1, 24, .inl ft)), (aa 6, .inr (1, [.ref (aa 7), .int (nI ks)])), (aa 7, .inl (T.1, 24, .inl fs)), (aa 8, .inl (T.1, 9, .inl fc)), (S.1.1, .inr (0, [.ref S.1.2.1, .int (nI S.2.1.length), .int S.1.2.2.1])), (S.2.2.1.1, .inr (0, [.ref S.2.2.1.2.1, .int (nI S.2.2.2.length), .int S.2.2.1.2.2.1])), (q7, .inr (3, [.int 0, .int 0, .null])), (q8, .inr (2, [.int x, .int y, .int 0, .int 0]))] ++ tl T S) H := hP.part (cx := [(aa 0, .inr (5, [.ref (aa 1), .ref S.1.1, .ref S.2.2.1.1, .int zw, .ref (aa 3), .ref (aa 4), .ref (aa 6), .ref (aa 8)])), (aa 1, .inr (1, [.ref (aa 2), .int (nI kp)])), (aa 2, .inl (T.1, 24, .inl fp)), (aa 3, .inr (2, [.int e0, .int e1, .int (b2i oF), .int (b2i oT)])), (aa 4, .inr (1, [.ref (aa 5), .int (nI kt)])), (aa 5, .inl (T.1, 24, .inl ft)), (aa 6, .inr (1, [.ref (aa 7), .int (nI ks)])), (aa 7, .inl (T.1, 24, .inl fs)), (aa 8, .inl (T.1, 9, .inl fc)), (S.1.1, .inr (0, [.ref S.1.2.1, .int (nI S.2.1.length), .int S.1.2.2.1])), (S.2.2.1.1, .inr (0, [.ref S.2.2.1.2.1, .int (nI S.2.2.2.length), .int S.2.2.1.2.2.1])), (q7, .inr (3, [.int 0, .int 0, .null])), (q8, .inr (2, [.int x, .int y, .int 0, .int 0]))]) [0, 1, 2, 3, 4, 5, 6, 7, 8, 9, 10, 11, 12] rfl
  have hD : va_D A ([(aa 0, .inr (5, [.ref (aa 1), .ref S.1.1, .ref S.2.2.1.1, .int zw, .ref (aa 3), .ref (aa 4), .ref (aa 6), .ref (aa 8)])), (aa 1, .inr (1, [.ref (aa 2), .int (nI kp)])), (aa 2, .inl (T.1, 24, .inl fp)), (aa 3, .inr (2, [.int e0, .int e1, .int (b2i oF), .int (b2i oT)])), (aa 4, .inr (1, [.ref (aa 5), .int (nI kt)])), (aa 5, .inl (T.1, 24, .inl ft)), (aa 6, .inr (1, [.ref (aa 7), .int (nI ks)])), (aa 7, .inl (T.1, 24, .inl fs)), (aa 8, .inl (T.1, 9, .inl fc)), (S.1.1, .inr (0, [.ref S.1.2.1, .int (nI S.2.1.length), .int S.1.2.2.1])), (S.2.2.1.1, .inr (0, [.ref S.2.2.1.2.1, .int (nI S.2.2.2.length), .int S.2.2.1.2.2.1])), (q7, .inr (3, [.int 0, .int 0, .null])), (q8, .inr (2, [.int x, .int y, .int 0, .int 0]))] ++ tl T S) := hD.part (cx := [(aa 0, .inr (5, [.ref (aa 1), .ref S.1.1, .ref S.2.2.1.1, .int zw, .ref (aa 3), .ref (aa 4), .ref (aa 6), .ref (aa 8)])), (aa 1, .inr (1, [.ref (aa 2), .int (nI kp)])), (aa 2, .inl (T.1, 24, .inl fp)), (aa 3, .inr (2, [.int e0, .int e1, .int (b2i oF), .int (b2i oT)])), (aa 4, .inr (1, [.ref (aa 5), .int (nI kt)])), (aa 5, .inl (T.1, 24, .inl ft)), (aa 6, .inr (1, [.ref (aa 7), .int (nI ks)])), (aa 7, .inl (T.1, 24, .inl fs)), (aa 8, .inl (T.1, 9, .inl fc)), (S.1.1, .inr (0, [.ref S.1.2.1, .int (nI S.2.1.length), .int S.1.2.2.1])), (S.2.2.1.1, .inr (0, [.ref S.2.2.1.2.1, .int (nI S.2.2.2.length), .int S.2.2.1.2.2.1])), (q7, .inr (3, [.int 0, .int 0, .null])), (q8, .inr (2, [.int x, .int y, .int 0, .int 0]))]) [0, 1, 2, 3, 4, 5, 6, 7, 8, 9, 10, 11, 12] (by decide) rfl
  have hPc : va_P D gC ([(q7, .inr (3, [.int 0, .int 0, .null]))]) H := (pc1 (hP 11 _ rfl) pc0)
  have hDc : va_D A ([(q7, .inr (3, [.int 0, .int 0, .null]))]) := by have h9 := hD.part (cx := [(q7, .inr (3, [.int 0, .int 0, .null]))]) [11] (by decide) rfl; exact dl_l h9
  refine g_subv (X := [(aa 0, .inr (5, [.ref (aa 1), .ref S.1.1, .ref S.2.2.1.1, .int zw, .ref (aa 3), .ref (aa 4), .ref (aa 6), .ref (aa 8)])), (aa 1, .inr (1, [.ref (aa 2), .int (nI kp)])), (aa 2, .inl (T.1, 24, .inl fp)), (aa 3, .inr (2, [.int e0, .int e1, .int (b2i oF), .int (b2i oT)])), (aa 4, .inr (1, [.ref (aa 5), .int (nI kt)])), (aa 5, .inl (T.1, 24, .inl ft)), (aa 6, .inr (1, [.ref (aa 7), .int (nI ks)])), (aa 7, .inl (T.1, 24, .inl fs)), (aa 8, .inl (T.1, 9, .inl fc)), (S.1.1, .inr (0, [.ref S.1.2.1, .int (nI S.2.1.length), .int S.1.2.2.1])), (S.2.2.1.1, .inr (0, [.ref S.2.2.1.2.1, .int (nI S.2.2.2.length), .int S.2.2.1.2.2.1])), (q7, .inr (3, [.int 0, .int 0, .null])), (q8, .inr (2, [.int x, .int y, .int 0, .int 0]))]) (pl := tl T S) (wr := [(aa 0, .inr (5, [.ref (aa 1), .ref S.1.1, .ref S.2.2.1.1, .int zw, .ref (aa 3), .ref (aa 4), .ref (aa 6), .ref (aa 8)])), (aa 1, .inr (1, [.ref (aa 2), .int (nI kp)])), (aa 2, .inl (T.1, 24, .inl fp)), (aa 3, .inr (2, [.int e0, .int e1, .int (b2i oF), .int (b2i oT)])), (aa 4, .inr (1, [.ref (aa 5), .int (nI kt)])), (aa 5, .inl (T.1, 24, .inl ft)), (aa 6, .inr (1, [.ref (aa 7), .int (nI ks)])), (aa 7, .inl (T.1, 24, .inl fs)), (aa 8, .inl (T.1, 9, .inl fc)), (S.1.1, .inr (0, [.ref S.1.2.1, .int (nI S.2.1.length), .int S.1.2.2.1])), (S.2.2.1.1, .inr (0, [.ref S.2.2.1.2.1, .int (nI S.2.2.2.length), .int S.2.2.1.2.2.1])), (q8, .inr (2, [.int x, .int y, .int 0, .int 0]))]) (cx := [(q7, .inr (3, [.int 0, .int 0, .null]))]) (va_runI (As := [.int pz, .int dy, .ref q8]) (rest := [.ref q7, .ref ((nL n).1)]) ⟨hx, hb, hml, hown, hw⟩ (k_P_init l D T q7 H.size pz dy q8) (cwI 3 hw (bg_c wc_P_init) rfl rfl rfl (hw _ wz_P) (hw _ ml_T_123) (hw _ wi_P_init) rfl (by decide +kernel) ⟨Nat.le_of_ble_eq_true rfl, Nat.le_of_ble_eq_true rfl⟩) ⟨qP_b, qP_p hPc hK hDc⟩ rfl rfl hl.1 rfl (lv_room (Nat.le_of_ble_eq_true rfl)) d_T_phase_67 ⟨Nat.le_of_ble_eq_true rfl, Nat.le_of_ble_eq_true rfl⟩) hP hD hS hA [11] [0, 1, 2, 3, 4, 5, 6, 7, 8, 9, 10, 12] rfl rfl (by decide) (by decide) (fun _ H locs hr14 hP hD hS => ?_)
  have hP : va_P D gC ([(aa 0, .inr (5, [.ref (aa 1), .ref S.1.1, .ref S.2.2.1.1, .int zw, .ref (aa 3), .ref (aa 4), .ref (aa 6), .ref (aa 8)])), (aa 1, .inr (1, [.ref (aa 2), .int (nI kp)])), (aa 2, .inl (T.1, 24, .inl fp)), (aa 3, .inr (2, [.int e0, .int e1, .int (b2i oF), .int (b2i oT)])), (aa 4, .inr (1, [.ref (aa 5), .int (nI kt)])), (aa 5, .inl (T.1, 24, .inl ft)), (aa 6, .inr (1, [.ref (aa 7), .int (nI ks)])), (aa 7, .inl (T.1, 24, .inl fs)), (aa 8, .inl (T.1, 9, .inl fc)), (S.1.1, .inr (0, [.ref S.1.2.1, .int (nI S.2.1.length), .int S.1.2.2.1])), (S.2.2.1.1, .inr (0, [.ref S.2.2.1.2.1, .int (nI S.2.2.2.length), .int S.2.2.1.2.2.1])), (q7, .inr (3, [.int pz, .int dy, .ref q8])), (q8, .inr (2, [.int x, .int y, .int 0, .int 0]))] ++ tl T S) H := hP.part (cx := [(aa 0, .inr (5, [.ref (aa 1), .ref S.1.1, .ref S.2.2.1.1, .int zw, .ref (aa 3), .ref (aa 4), .ref (aa 6), .ref (aa 8)])), (aa 1, .inr (1, [.ref (aa 2), .int (nI kp)])), (aa 2, .inl (T.1, 24, .inl fp)), (aa 3, .inr (2, [.int e0, .int e1, .int (b2i oF), .int (b2i oT)])), (aa 4, .inr (1, [.ref (aa 5), .int (nI kt)])), (aa 5, .inl (T.1, 24, .inl ft)), (aa 6, .inr (1, [.ref (aa 7), .int (nI ks)])), (aa 7, .inl (T.1, 24, .inl fs)), (aa 8, .inl (T.1, 9, .inl fc)), (S.1.1, .inr (0, [.ref S.1.2.1, .int (nI S.2.1.length), .int S.1.2.2.1])), (S.2.2.1.1, .inr (0, [.ref S.2.2.1.2.1, .int (nI S.2.2.2.length), .int S.2.2.1.2.2.1])), (q7, .inr (3, [.int pz, .int dy, .ref q8])), (q8, .inr (2, [.int x, .int y, .int 0, .int 0]))]) [0, 1, 2, 3, 4, 5, 6, 7, 8, 9, 10, 12, 11] rfl
  have hD : va_D A ([(aa 0, .inr (5, [.ref (aa 1), .ref S.1.1, .ref S.2.2.1.1, .int zw, .ref (aa 3), .ref (aa 4), .ref (aa 6), .ref (aa 8)])), (aa 1, .inr (1, [.ref (aa 2), .int (nI kp)])), (aa 2, .inl (T.1, 24, .inl fp)), (aa 3, .inr (2, [.int e0, .int e1, .int (b2i oF), .int (b2i oT)])), (aa 4, .inr (1, [.ref (aa 5), .int (nI kt)])), (aa 5, .inl (T.1, 24, .inl ft)), (aa 6, .inr (1, [.ref (aa 7), .int (nI ks)])), (aa 7, .inl (T.1, 24, .inl fs)), (aa 8, .inl (T.1, 9, .inl fc)), (S.1.1, .inr (0, [.ref S.1.2.1, .int (nI S.2.1.length), .int S.1.2.2.1])), (S.2.2.1.1, .inr (0, [.ref S.2.2.1.2.1, .int (nI S.2.2.2.length), .int S.2.2.1.2.2.1])), (q7, .inr (3, [.int pz, .int dy, .ref q8])), (q8, .inr (2, [.int x, .int y, .int 0, .int 0]))] ++ tl T S) := hD.part (cx := [(aa 0, .inr (5, [.ref (aa 1), .ref S.1.1, .ref S.2.2.1.1, .int zw, .ref (aa 3), .ref (aa 4), .ref (aa 6), .ref (aa 8)])), (aa 1, .inr (1, [.ref (aa 2), .int (nI kp)])), (aa 2, .inl (T.1, 24, .inl fp)), (aa 3, .inr (2, [.int e0, .int e1, .int (b2i oF), .int (b2i oT)])), (aa 4, .inr (1, [.ref (aa 5), .int (nI kt)])), (aa 5, .inl (T.1, 24, .inl ft)), (aa 6, .inr (1, [.ref (aa 7), .int (nI ks)])), (aa 7, .inl (T.1, 24, .inl fs)), (aa 8, .inl (T.1, 9, .inl fc)), (S.1.1, .inr (0, [.ref S.1.2.1, .int (nI S.2.1.length), .int S.1.2.2.1])), (S.2.2.1.1, .inr (0, [.ref S.2.2.1.2.1, .int (nI S.2.2.2.length), .int S.2.2.1.2.2.1])), (q7, .inr (3, [.int pz, .int dy, .ref q8])), (q8, .inr (2, [.int x, .int y, .int 0, .int 0]))]) [0, 1, 2, 3, 4, 5, 6, 7, 8, 9, 10, 12, 11] (by decide) rfl
  have hPa : va_P D gC (liO (nL n) ((nH n).map (fun q => q.1)).length :: (liB T (nL n) ((nH n).map (fun q => q.1)).length ++ (((cX T aa zw kp fp e0 e1 oF oT kt ft ks fs fc S ++ [phO ((q7, pz, dy, q8, x, y) : phD)]) ++ [phY ((q7, pz, dy, q8, x, y) : phD)]) ++ tq T S j n))) H := hP.perm (ph_go (q := ((q7, pz, dy, q8, x, y) : phD)) hy1)
  have hDa : va_D A (liO (nL n) ((nH n).map (fun q => q.1)).length :: (liB T (nL n) ((nH n).map (fun q => q.1)).length ++ (((cX T aa zw kp fp e0 e1 oF oT kt ft ks fs fc S ++ [phO ((q7, pz, dy, q8, x, y) : phD)]) ++ [phY ((q7, pz, dy, q8, x, y) : phD)]) ++ tq T S j n))) := hD.perm (ph_go (q := ((q7, pz, dy, q8, x, y) : phD)) hy1)
  refine g_calli (va_runV (As := [.ref q7]) (rest := []) ⟨hx, hb, hml, hown, hw⟩ (k_A_add_0 l D T κ (nL n) (((cX T aa zw kp fp e0 e1 oF oT kt ft ks fs fc S ++ [phO ((q7, pz, dy, q8, x, y) : phD)]) ++ [phY ((q7, pz, dy, q8, x, y) : phD)]) ++ tq T S j n) H.size ((nH n).map (fun q => q.1)) q7 hn6.2.2 (by rw [List.length_map]; omega) (ob_p (List.mem_append_left _ (List.mem_append_left _ (List.mem_append_right _ (List.mem_singleton.mpr rfl))))) (ob_ph (fun q9 h9 => List.mem_append_right _ (tq_ph h9)))) (cwV 1 hw (bg_V ml_T_97 wi_A_add_0 wv_A_add_0 wz_A wc_A_add_0) rfl rfl rfl (by decide +kernel) ⟨Nat.le_of_ble_eq_true rfl, Nat.le_of_ble_eq_true rfl⟩) ⟨qPf_b, va_recv hK hPa (ci := 0) (q0 := 0) rfl rfl, qPf_p hPa hK hDa hF hS (g_free hDa hS hA)⟩ rfl rfl hl.1 rfl (lv_room (Nat.le_of_ble_eq_true rfl)) d_T_phase_70 ⟨Nat.le_of_ble_eq_true rfl, Nat.le_of_ble_eq_true rfl⟩) hDa hS hA (fun ra9 d1 H locs hra hP hD hS => ?_)
  obtain ⟨hr0, hr1, hr2⟩ := hra; subst hr0
  replace hP := hP.perm (ph_back (X := cX T aa zw kp fp e0 e1 oF oT kt ft ks fs fc S) (q := ((q7, pz, dy, q8, x, y) : phD)) hy1 hr2); replace hD := hD.perm (ph_back (X := cX T aa zw kp fp e0 e1 oF oT kt ft ks fs fc S) (q := ((q7, pz, dy, q8, x, y) : phD)) hy1 hr2)
  rw [← cX_set (j := j) (n' := ((n.1, n.2.1, d1, n.2.2.2.1, n.2.2.2.2 ++ [((q7, pz, dy, q8, x, y) : phD)]) : nmD))] at hP hD
  obtain ⟨n9, hn9⟩ : ∃ z : nmD, z = ((n.1, n.2.1, d1, n.2.2.2.1, n.2.2.2.2 ++ [((q7, pz, dy, q8, x, y) : phD)]) : nmD) := ⟨_, rfl⟩
  rw [← hn9] at hP hD
  obtain ⟨S9, hS9⟩ : ∃ z : tS, z = (S.1, S.2.1.set j n9, S.2.2.1, S.2.2.2) := ⟨_, rfl⟩
  rw [← hS9] at hP hD
  have hP : va_P D gC (cX T aa zw kp fp e0 e1 oF oT kt ft ks fs fc S9 ++ tl T S9) H := hP
  have hD : va_D A (cX T aa zw kp fp e0 e1 oF oT kt ft ks fs fc S9 ++ tl T S9) := hD
  have hS9n : S9.2.1[j]? = some n9 := by rw [hS9]; show (S.2.1.set j n9)[j]? = _; rw [List.getElem?_set_self hn4]
  have hS9m := List.mem_of_getElem? hS9n
  have ha9 : nA n = nA n9 := by rw [hn9]
  rw [ha9] at hl
  refine lv_pop hx hb d_T_phase_73 rfl ?_
  refine lv_aload hx hb d_T_phase_74 (lv_at hl 0 rfl) ?_
  refine va_get (D := D) (ci := 4) (v := .ref ((nL n9).1)) (C := "TimeWords$Name") (T := F_N) (N := 3) hx hb hw in_N hown hK (pc1 (hP.mem (List.mem_append_right _ (tl_nm hS9m nmm_o))) pc0) 0 rfl rfl 1 (by decide) (hw _ fl_T_116) (fun _ h9 => h9) rfl d_T_phase_76 ?_
  have hPc : va_P D gC ([((nL n9).1, .inr (0, [.ref ((nL n9).2.1), .int (nI (nH n9).length), .int ((nL n9).2.2.1)]))]) H := (pc1 (hP.mem (List.mem_append_right _ (tl_nm hS9m nmm_l))) pc0)
  refine vp_callSi (va_Run.run (va_runV (As := []) (rest := []) ⟨hx, hb, hml, hown, hw⟩ (k_A_size l D T ((nL n9).1) ((nL n9).2.1) ((nH n9).length) ((nL n9).2.2.1)) (cwV 0 hw (bg_V ml_T_86 wi_A_size wv_A_size wz_A wc_A_size) rfl rfl rfl (by decide +kernel) ⟨Nat.le_of_ble_eq_true rfl, Nat.le_of_ble_eq_true rfl⟩) ⟨sP_b, va_recv hK hPc (ci := 0) (q0 := 0) rfl rfl, sP_p hPc hK⟩ rfl rfl hl.1 rfl (lv_room (Nat.le_of_ble_eq_true rfl)) d_T_phase_79 ⟨Nat.le_of_ble_eq_true rfl, Nat.le_of_ble_eq_true rfl⟩)) (fun r15 hr15 => ?_)
  replace hr15 := hr15.symm; subst hr15
  exact W.iret (v := nI ((nH n9).length)) hx hb hr (fun t ht hW => ⟨⟨nI ((nH n9).length), S9, rfl, ⟨by rw [hn9]; show nI (n.2.2.2.2 ++ [_]).length = _; rw [List.length_append]; rfl, by rw [hS9, hn9]; exact set_ok hy0 hy1 rfl ⟨hn6.1, by show (n.2.2.2.2 ++ [_]).length ≤ 6; rw [List.length_append]; exact hy5, by show liOk κ d1 ((n.2.2.2.2 ++ [_]).map (fun q : phD => q.1)); rw [List.map_append]; exact hr1⟩, d1, q7, q8, by rw [hS9, hn9]⟩, by rw [ht]; exact hP, va_K.moved hW.alike hK, hD⟩, hS.F ht⟩) hS.2.2 d_T_phase_82

set_option maxHeartbeats 4000000 in
set_option maxRecDepth 100000 in
theorem k_T_phase_x (l : Launch) (hl9 : l.stackTraces = false) (D : va_G) (T : gT) (κ : gS) (A : Nat → Prop) (aa : Nat → Nat) (zw : Int32) (kp : Nat) (fp : Nat → Int32) (e0 e1 : Int32) (oF oT : Bool) (kt : Nat) (ft : Nat → Int32) (ks : Nat) (fs fc : Nat → Int32) (S : tS) (sz : Nat) (x x2 x3 x4 x5 : Int32) (hy0 : j_ix x (nI S.2.1.length) = false) : vx_Met l y_T_phase (Cond.code y_T_phase b_T_phase 7 (some .int) :: bg_W) ({ frames := 8, cells := 1, slots := 6, locals := 131 }) (xPf κ A D T (cX T aa zw kp fp e0 e1 oF oT kt ft ks fs fc S ++ tl T S) [.ref (aa 0), .int x, .int x2, .int x3, .int x4, .int x5] sz) xN (xE "java/lang/IndexOutOfBoundsException" sz) 1 6 (fun q => sz ≤ q) := by
  refine vx_ofW (cc := b_T_phase) (maxL := 7) (ret := (some .int)) (by decide) rfl ?_
  intro p e s m args below meth c s₁ B hml htab hv
  obtain ⟨rfl, hsz, hP, hK, hF⟩ := hv
  have hx := B.exec
  have hb := B.bytes
  have hr := B.returns
  have hw : ∀ w ∈ bg_W, w.before ([.ref (aa 0), .int x, .int x2, .int x3, .int x4, .int x5] : List Value).toArray s = true := fun w h => atoms_spec (ws := (Cond.code y_T_phase b_T_phase 7 (some .int) :: bg_W)) B.pre w (List.mem_cons_of_mem _ h)
  have hown : s.vm.findClass "TimeWords" = some m.cls := findClass_of_methodNamed B.named
  have hlocks := B.notSynchronized
  subst hsz
  have hS : va_S A s.heap s.heap [] := va_S.rf
  have hl := lv_entry ([.ref (aa 0), .int x, .int x2, .int x3, .int x4, .int x5]) (n := 7) (Nat.le_of_ble_eq_true rfl)
  rw [lg_entry_eq]
  generalize (lg_sl ([.ref (aa 0), .int x, .int x2, .int x3, .int x4, .int x5]) ++ List.replicate (7 - (lg_sl ([.ref (aa 0), .int x, .int x2, .int x3, .int x4, .int x5])).length) Slot.unset).toArray = ls at hl ⊢
  have hl : lv_has ls 7 [(0, .ref (aa 0)), (1, .int x), (2, .int x2), (3, .int x3), (4, .int x4), (5, .int x5)] := hl
  refine lv_aload_n hx hb d_T_phase_0 rfl (lv_at hl 0 rfl) ?_
  refine lv_iload_n hx hb d_T_phase_1 rfl (lv_at hl 1 rfl) ?_
  exact x_call (vx_runV (As := [.int x]) (rest := []) ⟨hx, hb, hml, hown, hw⟩ (k_T_nameNumbered_x l hl9 D T κ A aa zw kp fp e0 e1 oF oT kt ft ks fs fc S s.heap.size x hy0) (cwV 1 hw (bg_V ml_T_100 wi_T_nameNumbered wv_T_nameNumbered wz_T wc_T_nameNumbered) rfl rfl rfl (by decide +kernel) ⟨Nat.le_of_ble_eq_true rfl, Nat.le_of_ble_eq_true rfl⟩) ⟨xPf_b, va_recv hK hP (ci := 5) (q0 := 0) rfl rfl, xPf_p hP hK hF hS⟩ rfl rfl hl.1 rfl (lv_room (Nat.le_of_ble_eq_true rfl)) d_T_phase_2 ⟨Nat.le_of_ble_eq_true rfl, Nat.le_of_ble_eq_true rfl⟩) htab hlocks

set_option maxHeartbeats 4000000 in
set_option maxRecDepth 100000 in
theorem k_T_phase_y (l : Launch) (hl9 : l.stackTraces = false) (D : va_G) (T : gT) (κ : gS) (A : Nat → Prop) (aa : Nat → Nat) (zw : Int32) (kp : Nat) (fp : Nat → Int32) (e0 e1 : Int32) (oF oT : Bool) (kt : Nat) (ft : Nat → Int32) (ks : Nat) (fs fc : Nat → Int32) (S : tS) (sz : Nat) (j : Nat) (n : nmD) (pz x y dy : Int32) (hy0 : tOk κ S) (hy1 : S.2.1[j]? = some n) (hy2 : j_in pz 0 7 = false) : vx_Met l y_T_phase (Cond.code y_T_phase b_T_phase 7 (some .int) :: bg_W) ({ frames := 8, cells := 1, slots := 6, locals := 130 }) (xPf κ A D T (cX T aa zw kp fp e0 e1 oF oT kt ft ks fs fc S ++ tl T S) [.ref (aa 0), .int (nI j), .int pz, .int x, .int y, .int dy] sz) xN (xE "java/lang/IndexOutOfBoundsException" sz) 1 6 (fun q => sz ≤ q) := by
  refine vx_ofW (cc := b_T_phase) (maxL := 7) (ret := (some .int)) (by decide) rfl ?_
  intro p e s m args below meth c s₁ B hml htab hv
  obtain ⟨rfl, hsz, hP, hK, hF⟩ := hv
  have hx := B.exec
  have hb := B.bytes
  have hr := B.returns
  have hw : ∀ w ∈ bg_W, w.before ([.ref (aa 0), .int (nI j), .int pz, .int x, .int y, .int dy] : List Value).toArray s = true := fun w h => atoms_spec (ws := (Cond.code y_T_phase b_T_phase 7 (some .int) :: bg_W)) B.pre w (List.mem_cons_of_mem _ h)
  have hown : s.vm.findClass "TimeWords" = some m.cls := findClass_of_methodNamed B.named
  have hlocks := B.notSynchronized
  subst hsz
  have hS : va_S A s.heap s.heap [] := va_S.rf
  have hl := lv_entry ([.ref (aa 0), .int (nI j), .int pz, .int x, .int y, .int dy]) (n := 7) (Nat.le_of_ble_eq_true rfl)
  rw [lg_entry_eq]
  generalize (lg_sl ([.ref (aa 0), .int (nI j), .int pz, .int x, .int y, .int dy]) ++ List.replicate (7 - (lg_sl ([.ref (aa 0), .int (nI j), .int pz, .int x, .int y, .int dy])).length) Slot.unset).toArray = ls at hl ⊢
  have hl : lv_has ls 7 [(0, .ref (aa 0)), (1, .int (nI j)), (2, .int pz), (3, .int x), (4, .int y), (5, .int dy)] := hl
  have hL1 : S.2.1.length ≤ 24 := hy0.2.2.2.1
  have hL2 : S.2.2.2.length ≤ 60 := hy0.2.2.2.2
  obtain ⟨hn1, hn2, hn3, hn4, hn5, hn6⟩ := nm_at hy0 hy1
  refine lv_aload_n hx hb d_T_phase_0 rfl (lv_at hl 0 rfl) ?_
  refine lv_iload_n hx hb d_T_phase_1 rfl (lv_at hl 1 rfl) ?_
  refine va_csq (va_Run.run (va_runV (As := [.int (nI j)]) (rest := []) ⟨hx, hb, hml, hown, hw⟩ (k_T_nameNumbered l D T κ A aa zw kp fp e0 e1 oF oT kt ft ks fs fc S j n hy0 hy1) (cwV 1 hw (bg_V ml_T_100 wi_T_nameNumbered wv_T_nameNumbered wz_T wc_T_nameNumbered) rfl rfl rfl (by decide +kernel) ⟨Nat.le_of_ble_eq_true rfl, Nat.le_of_ble_eq_true rfl⟩) ⟨sPf_b, va_recv hK hP (ci := 5) (q0 := 0) rfl rfl, sPf_p hP hK hF hS⟩ rfl rfl hl.1 rfl (lv_room (Nat.le_of_ble_eq_true rfl)) d_T_phase_2 ⟨Nat.le_of_ble_eq_true rfl, Nat.le_of_ble_eq_true rfl⟩)) (fun r1 hr1 => ?_)
  replace hr1 := hr1.symm; subst hr1
  refine W.eq (g2 := F0 m 5 ls [.ref (nA n)]) rfl ?_
  refine lv_astore (lv' := [(6, .ref (nA n)), (0, .ref (aa 0)), (1, .int (nI j)), (2, .int pz), (3, .int x), (4, .int y), (5, .int dy)]) hx hb d_T_phase_5 hl (by decide) rfl (fun ls hl => ?_)
  refine lv_iload_n hx hb d_T_phase_7 rfl (lv_at hl 3 rfl) ?_
  have hPc : va_P D gC ([]) s.heap := pc0
  exact x_call (vx_runS (As := [.int pz]) (rest := []) ⟨hx, hb, hml, hown, hw⟩ (k_T_checkPlace_x l hl9 D T κ A s.heap.size pz hy2) (va_cwS 1 hw (bg_S ml_T_110 wt_T_checkPlace wz_T wc_T_checkPlace) rfl rfl rfl (by decide +kernel) ⟨Nat.le_of_ble_eq_true rfl, Nat.le_of_ble_eq_true rfl⟩) ⟨xPf_b, xPf_p hPc hK hF hS⟩ rfl rfl hl.1 rfl (lv_room (Nat.le_of_ble_eq_true rfl)) d_T_phase_8 ⟨Nat.le_of_ble_eq_true rfl, Nat.le_of_ble_eq_true rfl⟩) htab hlocks

set_option maxHeartbeats 4000000 in
set_option maxRecDepth 100000 in
theorem k_T_phase_z (l : Launch) (hl9 : l.stackTraces = false) (D : va_G) (T : gT) (κ : gS) (A : Nat → Prop) (aa : Nat → Nat) (zw : Int32) (kp : Nat) (fp : Nat → Int32) (e0 e1 : Int32) (oF oT : Bool) (kt : Nat) (ft : Nat → Int32) (ks : Nat) (fs fc : Nat → Int32) (S : tS) (sz : Nat) (j : Nat) (n : nmD) (pz x y dy : Int32) (hy0 : tOk κ S) (hy1 : S.2.1[j]? = some n) (hy2 : j_in pz 0 7 = true) (hy3 : j_yy x y = false) : vx_Met l y_T_phase (Cond.code y_T_phase b_T_phase 7 (some .int) :: bg_W) ({ frames := 8, cells := 1, slots := 6, locals := 131 }) (xPf κ A D T (cX T aa zw kp fp e0 e1 oF oT kt ft ks fs fc S ++ tl T S) [.ref (aa 0), .int (nI j), .int pz, .int x, .int y, .int dy] sz) xN (xE "java/lang/IllegalArgumentException" sz) 1 6 (fun q => sz ≤ q) := by
  refine vx_ofW (cc := b_T_phase) (maxL := 7) (ret := (some .int)) (by decide) rfl ?_
  intro p e s m args below meth c s₁ B hml htab hv
  obtain ⟨rfl, hsz, hP, hK, hF⟩ := hv
  have hx := B.exec
  have hb := B.bytes
  have hr := B.returns
  have hw : ∀ w ∈ bg_W, w.before ([.ref (aa 0), .int (nI j), .int pz, .int x, .int y, .int dy] : List Value).toArray s = true := fun w h => atoms_spec (ws := (Cond.code y_T_phase b_T_phase 7 (some .int) :: bg_W)) B.pre w (List.mem_cons_of_mem _ h)
  have hown : s.vm.findClass "TimeWords" = some m.cls := findClass_of_methodNamed B.named
  have hlocks := B.notSynchronized
  subst hsz
  have hS : va_S A s.heap s.heap [] := va_S.rf
  have hl := lv_entry ([.ref (aa 0), .int (nI j), .int pz, .int x, .int y, .int dy]) (n := 7) (Nat.le_of_ble_eq_true rfl)
  rw [lg_entry_eq]
  generalize (lg_sl ([.ref (aa 0), .int (nI j), .int pz, .int x, .int y, .int dy]) ++ List.replicate (7 - (lg_sl ([.ref (aa 0), .int (nI j), .int pz, .int x, .int y, .int dy])).length) Slot.unset).toArray = ls at hl ⊢
  have hl : lv_has ls 7 [(0, .ref (aa 0)), (1, .int (nI j)), (2, .int pz), (3, .int x), (4, .int y), (5, .int dy)] := hl
  have hL1 : S.2.1.length ≤ 24 := hy0.2.2.2.1
  have hL2 : S.2.2.2.length ≤ 60 := hy0.2.2.2.2
  obtain ⟨hn1, hn2, hn3, hn4, hn5, hn6⟩ := nm_at hy0 hy1
  refine lv_aload_n hx hb d_T_phase_0 rfl (lv_at hl 0 rfl) ?_
  refine lv_iload_n hx hb d_T_phase_1 rfl (lv_at hl 1 rfl) ?_
  refine va_csq (va_Run.run (va_runV (As := [.int (nI j)]) (rest := []) ⟨hx, hb, hml, hown, hw⟩ (k_T_nameNumbered l D T κ A aa zw kp fp e0 e1 oF oT kt ft ks fs fc S j n hy0 hy1) (cwV 1 hw (bg_V ml_T_100 wi_T_nameNumbered wv_T_nameNumbered wz_T wc_T_nameNumbered) rfl rfl rfl (by decide +kernel) ⟨Nat.le_of_ble_eq_true rfl, Nat.le_of_ble_eq_true rfl⟩) ⟨sPf_b, va_recv hK hP (ci := 5) (q0 := 0) rfl rfl, sPf_p hP hK hF hS⟩ rfl rfl hl.1 rfl (lv_room (Nat.le_of_ble_eq_true rfl)) d_T_phase_2 ⟨Nat.le_of_ble_eq_true rfl, Nat.le_of_ble_eq_true rfl⟩)) (fun r1 hr1 => ?_)
  replace hr1 := hr1.symm; subst hr1
  refine W.eq (g2 := F0 m 5 ls [.ref (nA n)]) rfl ?_
  refine lv_astore (lv' := [(6, .ref (nA n)), (0, .ref (aa 0)), (1, .int (nI j)), (2, .int pz), (3, .int x), (4, .int y), (5, .int dy)]) hx hb d_T_phase_5 hl (by decide) rfl (fun ls hl => ?_)
  refine lv_iload_n hx hb d_T_phase_7 rfl (lv_at hl 3 rfl) ?_
  refine va_csv (va_Run.run (va_runS (As := [.int pz]) (rest := []) ⟨hx, hb, hml, hown, hw⟩ (k_T_checkPlace l pz hy2) (va_cwS 1 hw (bg_S ml_T_110 wt_T_checkPlace wz_T wc_T_checkPlace) rfl rfl rfl (by decide +kernel) ⟨Nat.le_of_ble_eq_true rfl, Nat.le_of_ble_eq_true rfl⟩) ⟨nP_b, nP_p⟩ rfl rfl hl.1 rfl (lv_room (Nat.le_of_ble_eq_true rfl)) d_T_phase_8 ⟨Nat.le_of_ble_eq_true rfl, Nat.le_of_ble_eq_true rfl⟩)) (fun hr2 => ?_)
  refine lv_iload_n hx hb d_T_phase_11 rfl (lv_at hl 4 rfl) ?_
  refine lv_iload hx hb d_T_phase_12 (lv_at hl 5 rfl) ?_
  have hPc : va_P D gC ([]) s.heap := pc0
  exact x_call (vx_runS (As := [.int x, .int y]) (rest := []) ⟨hx, hb, hml, hown, hw⟩ (k_T_checkYears_x l hl9 D T κ A s.heap.size x y hy3) (va_cwS 2 hw (bg_S ml_T_104 wt_T_checkYears wz_T wc_T_checkYears) rfl rfl rfl (by decide +kernel) ⟨Nat.le_of_ble_eq_true rfl, Nat.le_of_ble_eq_true rfl⟩) ⟨xPf_b, xPf_p hPc hK hF hS⟩ rfl rfl hl.1 rfl (lv_room (Nat.le_of_ble_eq_true rfl)) d_T_phase_14 ⟨Nat.le_of_ble_eq_true rfl, Nat.le_of_ble_eq_true rfl⟩) htab hlocks

set_option maxHeartbeats 4000000 in
set_option maxRecDepth 100000 in
theorem k_T_phase_u (l : Launch) (hl9 : l.stackTraces = false) (D : va_G) (T : gT) (κ : gS) (A : Nat → Prop) (aa : Nat → Nat) (zw : Int32) (kp : Nat) (fp : Nat → Int32) (e0 e1 : Int32) (oF oT : Bool) (kt : Nat) (ft : Nat → Int32) (ks : Nat) (fs fc : Nat → Int32) (S : tS) (sz : Nat) (j : Nat) (n : nmD) (pz x y dy : Int32) (hy0 : tOk κ S) (hy1 : S.2.1[j]? = some n) (hy2 : j_in pz 0 7 = true) (hy3 : j_yy x y = true) (hy4 : j_in dy 0 100000 = false) : vx_Met l y_T_phase (Cond.code y_T_phase b_T_phase 7 (some .int) :: bg_W) ({ frames := 8, cells := 1, slots := 6, locals := 130 }) (xPf κ A D T (cX T aa zw kp fp e0 e1 oF oT kt ft ks fs fc S ++ tl T S) [.ref (aa 0), .int (nI j), .int pz, .int x, .int y, .int dy] sz) xN (xE "java/lang/IllegalArgumentException" sz) 1 6 (fun q => sz ≤ q) := by
  refine vx_ofW (cc := b_T_phase) (maxL := 7) (ret := (some .int)) (by decide) rfl ?_
  intro p e s m args below meth c s₁ B hml htab hv
  obtain ⟨rfl, hsz, hP, hK, hF⟩ := hv
  have hx := B.exec
  have hb := B.bytes
  have hr := B.returns
  have hw : ∀ w ∈ bg_W, w.before ([.ref (aa 0), .int (nI j), .int pz, .int x, .int y, .int dy] : List Value).toArray s = true := fun w h => atoms_spec (ws := (Cond.code y_T_phase b_T_phase 7 (some .int) :: bg_W)) B.pre w (List.mem_cons_of_mem _ h)
  have hown : s.vm.findClass "TimeWords" = some m.cls := findClass_of_methodNamed B.named
  have hlocks := B.notSynchronized
  subst hsz
  have hS : va_S A s.heap s.heap [] := va_S.rf
  have hl := lv_entry ([.ref (aa 0), .int (nI j), .int pz, .int x, .int y, .int dy]) (n := 7) (Nat.le_of_ble_eq_true rfl)
  rw [lg_entry_eq]
  generalize (lg_sl ([.ref (aa 0), .int (nI j), .int pz, .int x, .int y, .int dy]) ++ List.replicate (7 - (lg_sl ([.ref (aa 0), .int (nI j), .int pz, .int x, .int y, .int dy])).length) Slot.unset).toArray = ls at hl ⊢
  have hl : lv_has ls 7 [(0, .ref (aa 0)), (1, .int (nI j)), (2, .int pz), (3, .int x), (4, .int y), (5, .int dy)] := hl
  have hL1 : S.2.1.length ≤ 24 := hy0.2.2.2.1
  have hL2 : S.2.2.2.length ≤ 60 := hy0.2.2.2.2
  obtain ⟨hn1, hn2, hn3, hn4, hn5, hn6⟩ := nm_at hy0 hy1
  refine lv_aload_n hx hb d_T_phase_0 rfl (lv_at hl 0 rfl) ?_
  refine lv_iload_n hx hb d_T_phase_1 rfl (lv_at hl 1 rfl) ?_
  refine va_csq (va_Run.run (va_runV (As := [.int (nI j)]) (rest := []) ⟨hx, hb, hml, hown, hw⟩ (k_T_nameNumbered l D T κ A aa zw kp fp e0 e1 oF oT kt ft ks fs fc S j n hy0 hy1) (cwV 1 hw (bg_V ml_T_100 wi_T_nameNumbered wv_T_nameNumbered wz_T wc_T_nameNumbered) rfl rfl rfl (by decide +kernel) ⟨Nat.le_of_ble_eq_true rfl, Nat.le_of_ble_eq_true rfl⟩) ⟨sPf_b, va_recv hK hP (ci := 5) (q0 := 0) rfl rfl, sPf_p hP hK hF hS⟩ rfl rfl hl.1 rfl (lv_room (Nat.le_of_ble_eq_true rfl)) d_T_phase_2 ⟨Nat.le_of_ble_eq_true rfl, Nat.le_of_ble_eq_true rfl⟩)) (fun r1 hr1 => ?_)
  replace hr1 := hr1.symm; subst hr1
  refine W.eq (g2 := F0 m 5 ls [.ref (nA n)]) rfl ?_
  refine lv_astore (lv' := [(6, .ref (nA n)), (0, .ref (aa 0)), (1, .int (nI j)), (2, .int pz), (3, .int x), (4, .int y), (5, .int dy)]) hx hb d_T_phase_5 hl (by decide) rfl (fun ls hl => ?_)
  refine lv_iload_n hx hb d_T_phase_7 rfl (lv_at hl 3 rfl) ?_
  refine va_csv (va_Run.run (va_runS (As := [.int pz]) (rest := []) ⟨hx, hb, hml, hown, hw⟩ (k_T_checkPlace l pz hy2) (va_cwS 1 hw (bg_S ml_T_110 wt_T_checkPlace wz_T wc_T_checkPlace) rfl rfl rfl (by decide +kernel) ⟨Nat.le_of_ble_eq_true rfl, Nat.le_of_ble_eq_true rfl⟩) ⟨nP_b, nP_p⟩ rfl rfl hl.1 rfl (lv_room (Nat.le_of_ble_eq_true rfl)) d_T_phase_8 ⟨Nat.le_of_ble_eq_true rfl, Nat.le_of_ble_eq_true rfl⟩)) (fun hr2 => ?_)
  refine lv_iload_n hx hb d_T_phase_11 rfl (lv_at hl 4 rfl) ?_
  refine lv_iload hx hb d_T_phase_12 (lv_at hl 5 rfl) ?_
  refine va_csv (va_Run.run (va_runS (As := [.int x, .int y]) (rest := []) ⟨hx, hb, hml, hown, hw⟩ (k_T_checkYears l x y hy3) (va_cwS 2 hw (bg_S ml_T_104 wt_T_checkYears wz_T wc_T_checkYears) rfl rfl rfl (by decide +kernel) ⟨Nat.le_of_ble_eq_true rfl, Nat.le_of_ble_eq_true rfl⟩) ⟨nP_b, nP_p⟩ rfl rfl hl.1 rfl (lv_room (Nat.le_of_ble_eq_true rfl)) d_T_phase_14 ⟨Nat.le_of_ble_eq_true rfl, Nat.le_of_ble_eq_true rfl⟩)) (fun hr3 => ?_)
  refine lv_iload hx hb d_T_phase_17 (lv_at hl 6 rfl) ?_
  have hPc : va_P D gC ([]) s.heap := pc0
  exact x_call (vx_runS (As := [.int dy]) (rest := []) ⟨hx, hb, hml, hown, hw⟩ (k_T_checkDay_x l hl9 D T κ A s.heap.size dy hy4) (va_cwS 1 hw (bg_S ml_T_113 wt_T_checkDay wz_T wc_T_checkDay) rfl rfl rfl (by decide +kernel) ⟨Nat.le_of_ble_eq_true rfl, Nat.le_of_ble_eq_true rfl⟩) ⟨xPf_b, xPf_p hPc hK hF hS⟩ rfl rfl hl.1 rfl (lv_room (Nat.le_of_ble_eq_true rfl)) d_T_phase_19 ⟨Nat.le_of_ble_eq_true rfl, Nat.le_of_ble_eq_true rfl⟩) htab hlocks

set_option maxHeartbeats 4000000 in
set_option maxRecDepth 100000 in
theorem k_T_phase_v (l : Launch) (hl9 : l.stackTraces = false) (D : va_G) (T : gT) (κ : gS) (A : Nat → Prop) (aa : Nat → Nat) (zw : Int32) (kp : Nat) (fp : Nat → Int32) (e0 e1 : Int32) (oF oT : Bool) (kt : Nat) (ft : Nat → Int32) (ks : Nat) (fs fc : Nat → Int32) (S : tS) (sz : Nat) (j : Nat) (n : nmD) (pz x y dy : Int32) (hy0 : tOk κ S) (hy1 : S.2.1[j]? = some n) (hy2 : j_in pz 0 7 = true) (hy3 : j_yy x y = true) (hy4 : j_in dy 0 100000 = true) (hy5 : (nH n).length = 6) : vx_Met l y_T_phase (Cond.code y_T_phase b_T_phase 7 (some .int) :: bg_W) ({ frames := 7, cells := 1, slots := 6, locals := 110 }) (xPf κ A D T (cX T aa zw kp fp e0 e1 oF oT kt ft ks fs fc S ++ tl T S) [.ref (aa 0), .int (nI j), .int pz, .int x, .int y, .int dy] sz) xN (xE "java/lang/IllegalStateException" sz) 1 6 (fun q => sz ≤ q) := by
  refine vx_ofW (cc := b_T_phase) (maxL := 7) (ret := (some .int)) (by decide) rfl ?_
  intro p e s m args below meth c s₁ B hml htab hv
  obtain ⟨rfl, hsz, hP, hK, hF⟩ := hv
  have hx := B.exec
  have hb := B.bytes
  have hr := B.returns
  have hw : ∀ w ∈ bg_W, w.before ([.ref (aa 0), .int (nI j), .int pz, .int x, .int y, .int dy] : List Value).toArray s = true := fun w h => atoms_spec (ws := (Cond.code y_T_phase b_T_phase 7 (some .int) :: bg_W)) B.pre w (List.mem_cons_of_mem _ h)
  have hown : s.vm.findClass "TimeWords" = some m.cls := findClass_of_methodNamed B.named
  have hlocks := B.notSynchronized
  subst hsz
  have hS : va_S A s.heap s.heap [] := va_S.rf
  have hl := lv_entry ([.ref (aa 0), .int (nI j), .int pz, .int x, .int y, .int dy]) (n := 7) (Nat.le_of_ble_eq_true rfl)
  rw [lg_entry_eq]
  generalize (lg_sl ([.ref (aa 0), .int (nI j), .int pz, .int x, .int y, .int dy]) ++ List.replicate (7 - (lg_sl ([.ref (aa 0), .int (nI j), .int pz, .int x, .int y, .int dy])).length) Slot.unset).toArray = ls at hl ⊢
  have hl : lv_has ls 7 [(0, .ref (aa 0)), (1, .int (nI j)), (2, .int pz), (3, .int x), (4, .int y), (5, .int dy)] := hl
  have hL1 : S.2.1.length ≤ 24 := hy0.2.2.2.1
  have hL2 : S.2.2.2.length ≤ 60 := hy0.2.2.2.2
  obtain ⟨hn1, hn2, hn3, hn4, hn5, hn6⟩ := nm_at hy0 hy1
  refine lv_aload_n hx hb d_T_phase_0 rfl (lv_at hl 0 rfl) ?_
  refine lv_iload_n hx hb d_T_phase_1 rfl (lv_at hl 1 rfl) ?_
  refine va_csq (va_Run.run (va_runV (As := [.int (nI j)]) (rest := []) ⟨hx, hb, hml, hown, hw⟩ (k_T_nameNumbered l D T κ A aa zw kp fp e0 e1 oF oT kt ft ks fs fc S j n hy0 hy1) (cwV 1 hw (bg_V ml_T_100 wi_T_nameNumbered wv_T_nameNumbered wz_T wc_T_nameNumbered) rfl rfl rfl (by decide +kernel) ⟨Nat.le_of_ble_eq_true rfl, Nat.le_of_ble_eq_true rfl⟩) ⟨sPf_b, va_recv hK hP (ci := 5) (q0 := 0) rfl rfl, sPf_p hP hK hF hS⟩ rfl rfl hl.1 rfl (lv_room (Nat.le_of_ble_eq_true rfl)) d_T_phase_2 ⟨Nat.le_of_ble_eq_true rfl, Nat.le_of_ble_eq_true rfl⟩)) (fun r1 hr1 => ?_)
  replace hr1 := hr1.symm; subst hr1
  refine W.eq (g2 := F0 m 5 ls [.ref (nA n)]) rfl ?_
  refine lv_astore (lv' := [(6, .ref (nA n)), (0, .ref (aa 0)), (1, .int (nI j)), (2, .int pz), (3, .int x), (4, .int y), (5, .int dy)]) hx hb d_T_phase_5 hl (by decide) rfl (fun ls hl => ?_)
  refine lv_iload_n hx hb d_T_phase_7 rfl (lv_at hl 3 rfl) ?_
  refine va_csv (va_Run.run (va_runS (As := [.int pz]) (rest := []) ⟨hx, hb, hml, hown, hw⟩ (k_T_checkPlace l pz hy2) (va_cwS 1 hw (bg_S ml_T_110 wt_T_checkPlace wz_T wc_T_checkPlace) rfl rfl rfl (by decide +kernel) ⟨Nat.le_of_ble_eq_true rfl, Nat.le_of_ble_eq_true rfl⟩) ⟨nP_b, nP_p⟩ rfl rfl hl.1 rfl (lv_room (Nat.le_of_ble_eq_true rfl)) d_T_phase_8 ⟨Nat.le_of_ble_eq_true rfl, Nat.le_of_ble_eq_true rfl⟩)) (fun hr2 => ?_)
  refine lv_iload_n hx hb d_T_phase_11 rfl (lv_at hl 4 rfl) ?_
  refine lv_iload hx hb d_T_phase_12 (lv_at hl 5 rfl) ?_
  refine va_csv (va_Run.run (va_runS (As := [.int x, .int y]) (rest := []) ⟨hx, hb, hml, hown, hw⟩ (k_T_checkYears l x y hy3) (va_cwS 2 hw (bg_S ml_T_104 wt_T_checkYears wz_T wc_T_checkYears) rfl rfl rfl (by decide +kernel) ⟨Nat.le_of_ble_eq_true rfl, Nat.le_of_ble_eq_true rfl⟩) ⟨nP_b, nP_p⟩ rfl rfl hl.1 rfl (lv_room (Nat.le_of_ble_eq_true rfl)) d_T_phase_14 ⟨Nat.le_of_ble_eq_true rfl, Nat.le_of_ble_eq_true rfl⟩)) (fun hr3 => ?_)
  refine lv_iload hx hb d_T_phase_17 (lv_at hl 6 rfl) ?_
  refine va_csv (va_Run.run (va_runS (As := [.int dy]) (rest := []) ⟨hx, hb, hml, hown, hw⟩ (k_T_checkDay l dy hy4) (va_cwS 1 hw (bg_S ml_T_113 wt_T_checkDay wz_T wc_T_checkDay) rfl rfl rfl (by decide +kernel) ⟨Nat.le_of_ble_eq_true rfl, Nat.le_of_ble_eq_true rfl⟩) ⟨nP_b, nP_p⟩ rfl rfl hl.1 rfl (lv_room (Nat.le_of_ble_eq_true rfl)) d_T_phase_19 ⟨Nat.le_of_ble_eq_true rfl, Nat.le_of_ble_eq_true rfl⟩)) (fun hr4 => ?_)
  refine lv_aload hx hb d_T_phase_22 (lv_at hl 0 rfl) ?_
  refine va_get (D := D) (ci := 4) (v := .ref ((nL n).1)) (C := "TimeWords$Name") (T := F_N) (N := 3) hx hb hw in_N hown hK (pc1 (hP.mem (List.mem_append_right _ (tl_nm hn5 nmm_o))) pc0) 0 rfl rfl 1 (by decide) (hw _ fl_T_116) (fun _ h9 => h9) rfl d_T_phase_24 ?_
  have hPc : va_P D gC ([((nL n).1, .inr (0, [.ref ((nL n).2.1), .int (nI (nH n).length), .int ((nL n).2.2.1)]))]) s.heap := (pc1 (hP.mem (List.mem_append_right _ (tl_nm hn5 nmm_l))) pc0)
  refine vp_callSi (va_Run.run (va_runV (As := []) (rest := []) ⟨hx, hb, hml, hown, hw⟩ (k_A_size l D T ((nL n).1) ((nL n).2.1) ((nH n).length) ((nL n).2.2.1)) (cwV 0 hw (bg_V ml_T_86 wi_A_size wv_A_size wz_A wc_A_size) rfl rfl rfl (by decide +kernel) ⟨Nat.le_of_ble_eq_true rfl, Nat.le_of_ble_eq_true rfl⟩) ⟨sP_b, va_recv hK hPc (ci := 0) (q0 := 0) rfl rfl, sP_p hPc hK⟩ rfl rfl hl.1 rfl (lv_room (Nat.le_of_ble_eq_true rfl)) d_T_phase_27 ⟨Nat.le_of_ble_eq_true rfl, Nat.le_of_ble_eq_true rfl⟩)) (fun r5 hr5 => ?_)
  replace hr5 := hr5.symm; subst hr5
  refine lv_bipush (v := 6) hx hb d_T_phase_30 (by decide) ?_
  refine lv_icmp_lt (tgt := 45) hx hb d_T_phase_32 (by decide) (fun c6 => absurd c6 ((show ¬ nI (nH n).length < nI 6 from nI_nlt (by omega) (by omega)))) (fun c6 => ?_)
  exact vx_throwS (rest := []) hx hb hl9 hown th_IS_f th_n (hw _ kl_T_65) (hw _ wz_IS) (hF.2.2.2.2 (119, "no room for another phase") (by decide)) (th_IS_w hw hF) th_IS_g hF.2.1.2.2.2.2.2.2.1 hF.2.1.2.2.2.2.2.2.2 hS (hl.1.trans hml.symm) (d_T_phase_35) (d_T_phase_38) (d_T_phase_39) (d_T_phase_41) (d_T_phase_44) (fun x h9 => (htab x h9).elim) (Nat.le_of_ble_eq_true rfl) (Nat.le_of_ble_eq_true rfl) (Nat.le_of_ble_eq_true rfl) (Nat.le_of_ble_eq_true rfl) hlocks (fun t9 h8 h7 h6 => ⟨(), trivial, rfl, ⟨h7, fun q h1 _ => h6 q h1⟩⟩) (fun z h9 => absurd h9 List.not_mem_nil) (Nat.le_of_ble_eq_true rfl) (Nat.le_of_ble_eq_true rfl)
