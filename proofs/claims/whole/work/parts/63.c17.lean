set_option maxHeartbeats 4000000 in
set_option maxRecDepth 100000 in
theorem k_T_tryName (l : Launch) (D : va_G) (T : gT) (κ : gS) (aa : Nat → Nat) (zw : Int32) (kp : Nat) (fp : Nat → Int32) (e0 e1 : Int32) (oF oT : Bool) (kt : Nat) (ft : Nat → Int32) (ks : Nat) (fs fc : Nat → Int32) (S : tS) (sz : Nat) (q : spD) (n : nmD) (hy0 : q ∈ S.2.2.2) (hy1 : n ∈ S.2.1) (hy2 : nmOk κ n) (hy3 : ks ≤ 24) : Met l y_T_tryName (Cond.code y_T_tryName b_T_tryName 3 none :: bg_W) ({ frames := 6, cells := 0, slots := 0, locals := 128 }) (qPf κ D T (cX T aa zw kp fp e0 e1 oF oT kt ft ks fs fc S ++ tl T S) [.ref (aa 0), .ref q.1, .ref (nA n)] sz) (va_Qv (fun u : Int32 × Int32 × Bool × Bool × Nat × (Nat → Int32) × Nat × (Nat → Int32) => match u with | (w0, w1, v2, v3, kt1, ft1, ks1, fs1) => j_ls fs1 ks1 = c_tn q n (j_ls fs ks) ∧ ks1 ≤ 24) (qB D T (va_A (cX T aa zw kp fp e0 e1 oF oT kt ft ks fs fc S ++ tl T S) sz) (fun u : Int32 × Int32 × Bool × Bool × Nat × (Nat → Int32) × Nat × (Nat → Int32) => match u with | (w0, w1, v2, v3, kt1, ft1, ks1, fs1) => cX T aa zw kp fp w0 w1 v2 v3 kt1 ft1 ks1 fs1 fc S ++ tl T S)) (va_A (cX T aa zw kp fp e0 e1 oF oT kt ft ks fs fc S ++ tl T S) sz)) 0 0 (va_A (cX T aa zw kp fp e0 e1 oF oT kt ft ks fs fc S ++ tl T S) sz) := by
  refine Met.ofW (cc := b_T_tryName) (maxL := 3) (ret := none) (by decide) rfl ?_
  intro p e s m args below meth c s₁ B hml hv
  obtain ⟨rfl, hsz, hP, hK, hD0, hF⟩ := hv
  have hx := B.exec
  have hb := B.bytes
  have hr := B.returns
  have hw : ∀ w ∈ bg_W, w.before ([.ref (aa 0), .ref q.1, .ref (nA n)] : List Value).toArray s = true := fun w h => atoms_spec (ws := (Cond.code y_T_tryName b_T_tryName 3 none :: bg_W)) B.pre w (List.mem_cons_of_mem _ h)
  have hown : s.vm.findClass "TimeWords" = some m.cls := findClass_of_methodNamed B.named
  have hlocks := B.notSynchronized
  subst hsz
  have hD := hD0.self (sz := s.heap.size)
  generalize hAe : va_A (cX T aa zw kp fp e0 e1 oF oT kt ft ks fs fc S ++ tl T S) s.heap.size = A at hD hF ⊢
  have hA : ∀ q : Nat, s.heap.size ≤ q → A q := fun q h => by rw [← hAe]; exact Or.inr h
  have hS : va_S A s.heap s.heap [] := va_S.rf
  have hl := lv_entry ([.ref (aa 0), .ref q.1, .ref (nA n)]) (n := 3) (Nat.le_of_ble_eq_true rfl)
  rw [lg_entry_eq]
  generalize (lg_sl ([.ref (aa 0), .ref q.1, .ref (nA n)]) ++ List.replicate (3 - (lg_sl ([.ref (aa 0), .ref q.1, .ref (nA n)])).length) Slot.unset).toArray = ls at hl ⊢
  have hl : lv_has ls 3 [(0, .ref (aa 0)), (1, .ref q.1), (2, .ref (nA n))] := hl
  refine lv_aload_n hx hb d_T_tryName_0 rfl (lv_at hl 0 rfl) ?_
  refine lv_aload_n hx hb d_T_tryName_1 rfl (lv_at hl 2 rfl) ?_
  refine lv_iconst (v := 0) hx hb d_T_tryName_2 (by decide) ?_
  refine lv_ldc (v := 100000) hx hb hown (hw _ ci_T_245) d_T_tryName_3 ?_
  refine g_calli (va_runV (As := [.ref (nA n), .int 0, .int 100000]) (rest := []) ⟨hx, hb, hml, hown, hw⟩ (k_T_findName l D T κ aa zw kp fp e0 e1 oF oT kt ft ks fs fc S s.heap.size n 0 100000 hy1 hy2) (cwV 3 hw (bg_V ml_T_311 wi_T_findName wv_T_findName wz_T wc_T_findName) rfl rfl rfl (by decide +kernel) ⟨Nat.le_of_ble_eq_true rfl, Nat.le_of_ble_eq_true rfl⟩) ⟨qPf_b, va_recv hK hP (ci := 5) (q0 := 0) rfl rfl, qPf_p hP hK hD hF hS (g_free hD hS hA)⟩ rfl rfl hl.1 rfl (lv_room (Nat.le_of_ble_eq_true rfl)) d_T_tryName_5 ⟨Nat.le_of_ble_eq_true rfl, Nat.le_of_ble_eq_true rfl⟩) hD hS hA (fun r1 u9 H locs hr1 hP hD hS => ?_)
  obtain ⟨u2, u3, u4, u5⟩ := u9
  dsimp only at hr1 hP hD
  have hP : va_P D gC (cX T aa zw kp fp u2 u3 u4 u5 kt ft ks fs fc S ++ tl T S) H := hP
  have hD : va_D A (cX T aa zw kp fp u2 u3 u4 u5 kt ft ks fs fc S ++ tl T S) := hD
  rcases hr1 with ⟨g0, r9, g1, g2, g3, g4, g5⟩ | ⟨g0, g1⟩
  · subst g0
    subst g2
    subst g3
    subst g4
    subst g5
    have hcs := ns_t (q := q) g1
    refine lv_if_eq (tgt := 19) hx hb d_T_tryName_8 (by decide) (fun c6 => absurd c6 (by decide)) (fun c6 => ?_)
    refine lv_aload_n hx hb d_T_tryName_11 rfl (lv_at hl 0 rfl) ?_
    refine lv_aload_n hx hb d_T_tryName_12 rfl (lv_at hl 1 rfl) ?_
    refine vp_callSi (va_Run.run (va_runV (As := [.ref q.1]) (rest := []) ⟨hx, hb, hml, hown, hw⟩ (k_T_foundSays l D T κ A aa zw kp fp r9.2.1 r9.2.2 false false kt ft ks fs fc S q hy0) (cwV 1 hw (bg_V ml_T_341 wi_T_foundSays wv_T_foundSays wz_T wc_T_foundSays) rfl rfl rfl (by decide +kernel) ⟨Nat.le_of_ble_eq_true rfl, Nat.le_of_ble_eq_true rfl⟩) ⟨sPf_b, va_recv hK hP (ci := 5) (q0 := 0) rfl rfl, sPf_p hP hK hF hS⟩ rfl rfl hl.1 rfl (lv_room (Nat.le_of_ble_eq_true rfl)) d_T_tryName_13 ⟨Nat.le_of_ble_eq_true rfl, Nat.le_of_ble_eq_true rfl⟩)) (fun r7 hr7 => ?_)
    replace hr7 := hr7.symm; subst hr7
    refine lv_if_ne (tgt := 20) hx hb d_T_tryName_16 (by decide) (fun c8 => ?_) (fun c8 => ?_)
    · have c8 := b2i_t c8
      have hct := hcs.trans c8
      refine lv_aload_n hx hb d_T_tryName_20 rfl (lv_at hl 0 rfl) ?_
      refine lv_aload_n hx hb d_T_tryName_21 rfl (lv_at hl 1 rfl) ?_
      refine g_callv (va_runV (As := [.ref q.1]) (rest := []) ⟨hx, hb, hml, hown, hw⟩ (k_T_startTrial l D T κ aa zw kp fp r9.2.1 r9.2.2 false false kt ft ks fs fc S H.size q hy0) (cwV 1 hw (bg_V ml_T_345 wi_T_startTrial wv_T_startTrial wz_T wc_T_startTrial) rfl rfl rfl (by decide +kernel) ⟨Nat.le_of_ble_eq_true rfl, Nat.le_of_ble_eq_true rfl⟩) ⟨qPf_b, va_recv hK hP (ci := 5) (q0 := 0) rfl rfl, qPf_p hP hK hD hF hS (g_free hD hS hA)⟩ rfl rfl hl.1 rfl (lv_room (Nat.le_of_ble_eq_true rfl)) d_T_tryName_22 ⟨Nat.le_of_ble_eq_true rfl, Nat.le_of_ble_eq_true rfl⟩) hD hS hA (fun u9 H locs hr9 hP hD hS => ?_)
      obtain ⟨u10, u11⟩ := u9
      dsimp only at hr9 hP hD
      have hP : va_P D gC (cX T aa zw kp fp r9.2.1 r9.2.2 false false u10 u11 ks fs fc S ++ tl T S) H := hP
      have hD : va_D A (cX T aa zw kp fp r9.2.1 r9.2.2 false false u10 u11 ks fs fc S ++ tl T S) := hD
      obtain ⟨ha1, ha2⟩ := hr9
      refine lv_aload_n hx hb d_T_tryName_25 rfl (lv_at hl 0 rfl) ?_
      refine va_get (D := D) (ci := 5) (v := .ref (aa 4)) (C := "TimeWords") (T := F_T) (N := 8) hx hb hw in_T hown hK hP 0 rfl rfl 5 (by decide) (hw _ fl_T_41) (fun _ h9 => h9) rfl d_T_tryName_26 ?_
      refine lv_aload_n hx hb d_T_tryName_29 rfl (lv_at hl 2 rfl) ?_
      refine va_get (D := D) (ci := 4) (v := .ref (nR n)) (C := "TimeWords$Name") (T := F_N) (N := 3) hx hb hw in_N hown hK (pc1 (hP.mem (List.mem_append_right _ (tl_nm hy1 nmm_o))) pc0) 0 rfl rfl 0 (by decide) (hw _ fl_T_196) (fun _ h9 => h9) rfl d_T_tryName_30 ?_
      obtain ⟨rs12, hrs12, hP, hD⟩ := op_2 (X := cX T aa zw kp fp r9.2.1 r9.2.2 false false u10 u11 ks fs fc S) (pl := tl T S) (q := (nR n, .inr (1, [.ref (nV n), .int (nI (nK n))]))) (r := (nV n, .inl (T.1, 8, .inl (nF n)))) hP hD (tl_nm hy1 nmm_r) (tl_nm hy1 nmm_v) (by intro h9; have h8 := congrArg Prod.snd h9; cases h8)
      have hP : va_P D gC ([(aa 0, .inr (5, [.ref (aa 1), .ref S.1.1, .ref S.2.2.1.1, .int zw, .ref (aa 3), .ref (aa 4), .ref (aa 6), .ref (aa 8)])), (aa 1, .inr (1, [.ref (aa 2), .int (nI kp)])), (aa 2, .inl (T.1, 24, .inl fp)), (aa 3, .inr (2, [.int r9.2.1, .int r9.2.2, .int (b2i false), .int (b2i false)])), (aa 4, .inr (1, [.ref (aa 5), .int (nI u10)])), (aa 5, .inl (T.1, 24, .inl u11)), (aa 6, .inr (1, [.ref (aa 7), .int (nI ks)])), (aa 7, .inl (T.1, 24, .inl fs)), (aa 8, .inl (T.1, 9, .inl fc)), (S.1.1, .inr (0, [.ref S.1.2.1, .int (nI S.2.1.length), .int S.1.2.2.1])), (S.2.2.1.1, .inr (0, [.ref S.2.2.1.2.1, .int (nI S.2.2.2.length), .int S.2.2.1.2.2.1])), (nR n, .inr (1, [.ref (nV n), .int (nI (nK n))])), (nV n, .inl (T.1, 8, .inl (nF n)))] ++ rs12) H := hP
      have hD : va_D A ([(aa 0, .inr (5, [.ref (aa 1), .ref S.1.1, .ref S.2.2.1.1, .int zw, .ref (aa 3), .ref (aa 4), .ref (aa 6), .ref (aa 8)])), (aa 1, .inr (1, [.ref (aa 2), .int (nI kp)])), (aa 2, .inl (T.1, 24, .inl fp)), (aa 3, .inr (2, [.int r9.2.1, .int r9.2.2, .int (b2i false), .int (b2i false)])), (aa 4, .inr (1, [.ref (aa 5), .int (nI u10)])), (aa 5, .inl (T.1, 24, .inl u11)), (aa 6, .inr (1, [.ref (aa 7), .int (nI ks)])), (aa 7, .inl (T.1, 24, .inl fs)), (aa 8, .inl (T.1, 9, .inl fc)), (S.1.1, .inr (0, [.ref S.1.2.1, .int (nI S.2.1.length), .int S.1.2.2.1])), (S.2.2.1.1, .inr (0, [.ref S.2.2.1.2.1, .int (nI S.2.2.2.length), .int S.2.2.1.2.2.1])), (nR n, .inr (1, [.ref (nV n), .int (nI (nK n))])), (nV n, .inl (T.1, 8, .inl (nF n)))] ++ rs12) := hD
      have hPc : va_P D gC ([(aa 4, .inr (1, [.ref (aa 5), .int (nI u10)])), (aa 5, .inl (T.1, 24, .inl u11)), (nR n, .inr (1, [.ref (nV n), .int (nI (nK n))])), (nV n, .inl (T.1, 8, .inl (nF n)))]) H := (pc1 (hP 4 _ rfl) (pc1 (hP 5 _ rfl) (pc1 (hP 11 _ rfl) (pc1 (hP 12 _ rfl) pc0))))
      have hDc : va_D A ([(aa 4, .inr (1, [.ref (aa 5), .int (nI u10)])), (aa 5, .inl (T.1, 24, .inl u11)), (nR n, .inr (1, [.ref (nV n), .int (nI (nK n))])), (nV n, .inl (T.1, 8, .inl (nF n)))]) := by have h9 := hD.part (cx := [(aa 4, .inr (1, [.ref (aa 5), .int (nI u10)])), (aa 5, .inl (T.1, 24, .inl u11)), (nR n, .inr (1, [.ref (nV n), .int (nI (nK n))])), (nV n, .inl (T.1, 8, .inl (nF n)))]) [4, 5, 11, 12] (by decide) rfl; exact dl_l h9
      refine g_subv (X := [(aa 0, .inr (5, [.ref (aa 1), .ref S.1.1, .ref S.2.2.1.1, .int zw, .ref (aa 3), .ref (aa 4), .ref (aa 6), .ref (aa 8)])), (aa 1, .inr (1, [.ref (aa 2), .int (nI kp)])), (aa 2, .inl (T.1, 24, .inl fp)), (aa 3, .inr (2, [.int r9.2.1, .int r9.2.2, .int (b2i false), .int (b2i false)])), (aa 4, .inr (1, [.ref (aa 5), .int (nI u10)])), (aa 5, .inl (T.1, 24, .inl u11)), (aa 6, .inr (1, [.ref (aa 7), .int (nI ks)])), (aa 7, .inl (T.1, 24, .inl fs)), (aa 8, .inl (T.1, 9, .inl fc)), (S.1.1, .inr (0, [.ref S.1.2.1, .int (nI S.2.1.length), .int S.1.2.2.1])), (S.2.2.1.1, .inr (0, [.ref S.2.2.1.2.1, .int (nI S.2.2.2.length), .int S.2.2.1.2.2.1])), (nR n, .inr (1, [.ref (nV n), .int (nI (nK n))])), (nV n, .inl (T.1, 8, .inl (nF n)))]) (pl := rs12) (wr := [(aa 0, .inr (5, [.ref (aa 1), .ref S.1.1, .ref S.2.2.1.1, .int zw, .ref (aa 3), .ref (aa 4), .ref (aa 6), .ref (aa 8)])), (aa 1, .inr (1, [.ref (aa 2), .int (nI kp)])), (aa 2, .inl (T.1, 24, .inl fp)), (aa 3, .inr (2, [.int r9.2.1, .int r9.2.2, .int (b2i false), .int (b2i false)])), (aa 6, .inr (1, [.ref (aa 7), .int (nI ks)])), (aa 7, .inl (T.1, 24, .inl fs)), (aa 8, .inl (T.1, 9, .inl fc)), (S.1.1, .inr (0, [.ref S.1.2.1, .int (nI S.2.1.length), .int S.1.2.2.1])), (S.2.2.1.1, .inr (0, [.ref S.2.2.1.2.1, .int (nI S.2.2.2.length), .int S.2.2.1.2.2.1]))]) (cx := [(aa 4, .inr (1, [.ref (aa 5), .int (nI u10)])), (aa 5, .inl (T.1, 24, .inl u11)), (nR n, .inr (1, [.ref (nV n), .int (nI (nK n))])), (nV n, .inl (T.1, 8, .inl (nF n)))]) (va_runV (As := [.ref (nR n)]) (rest := []) ⟨hx, hb, hml, hown, hw⟩ (k_R_addRow_n l D T (aa 4) (aa 5) u10 24 u11 (nR n) (nV n) (nK n) 8 (nF n) H.size (by have := hy2.1; omega) (by decide) hy2.1 (by decide)) (cwV 1 hw (bg_V ml_T_354 wi_R_addRow wv_R_addRow wz_R wc_R_addRow) rfl rfl rfl (by decide +kernel) ⟨Nat.le_of_ble_eq_true rfl, Nat.le_of_ble_eq_true rfl⟩) ⟨qP_b, va_recv hK hPc (ci := 1) (q0 := 0) rfl rfl, qP_p hPc hK hDc⟩ rfl rfl hl.1 rfl (lv_room (Nat.le_of_ble_eq_true rfl)) d_T_tryName_33 ⟨Nat.le_of_ble_eq_true rfl, Nat.le_of_ble_eq_true rfl⟩) hP hD hS hA [4, 5, 11, 12] [0, 1, 2, 3, 6, 7, 8, 9, 10] rfl rfl (by decide) (by decide) (fun u9 H locs hr13 hP hD hS => ?_)
      obtain ⟨u14, u15⟩ := u9
      dsimp only at hr13 hP hD
      have hP : va_P D gC ([(aa 0, .inr (5, [.ref (aa 1), .ref S.1.1, .ref S.2.2.1.1, .int zw, .ref (aa 3), .ref (aa 4), .ref (aa 6), .ref (aa 8)])), (aa 1, .inr (1, [.ref (aa 2), .int (nI kp)])), (aa 2, .inl (T.1, 24, .inl fp)), (aa 3, .inr (2, [.int r9.2.1, .int r9.2.2, .int (b2i false), .int (b2i false)])), (aa 4, .inr (1, [.ref (aa 5), .int (nI u14)])), (aa 5, .inl (T.1, 24, .inl u15)), (aa 6, .inr (1, [.ref (aa 7), .int (nI ks)])), (aa 7, .inl (T.1, 24, .inl fs)), (aa 8, .inl (T.1, 9, .inl fc)), (S.1.1, .inr (0, [.ref S.1.2.1, .int (nI S.2.1.length), .int S.1.2.2.1])), (S.2.2.1.1, .inr (0, [.ref S.2.2.1.2.1, .int (nI S.2.2.2.length), .int S.2.2.1.2.2.1])), (nR n, .inr (1, [.ref (nV n), .int (nI (nK n))])), (nV n, .inl (T.1, 8, .inl (nF n)))] ++ rs12) H := hP.part (cx := [(aa 0, .inr (5, [.ref (aa 1), .ref S.1.1, .ref S.2.2.1.1, .int zw, .ref (aa 3), .ref (aa 4), .ref (aa 6), .ref (aa 8)])), (aa 1, .inr (1, [.ref (aa 2), .int (nI kp)])), (aa 2, .inl (T.1, 24, .inl fp)), (aa 3, .inr (2, [.int r9.2.1, .int r9.2.2, .int (b2i false), .int (b2i false)])), (aa 4, .inr (1, [.ref (aa 5), .int (nI u14)])), (aa 5, .inl (T.1, 24, .inl u15)), (aa 6, .inr (1, [.ref (aa 7), .int (nI ks)])), (aa 7, .inl (T.1, 24, .inl fs)), (aa 8, .inl (T.1, 9, .inl fc)), (S.1.1, .inr (0, [.ref S.1.2.1, .int (nI S.2.1.length), .int S.1.2.2.1])), (S.2.2.1.1, .inr (0, [.ref S.2.2.1.2.1, .int (nI S.2.2.2.length), .int S.2.2.1.2.2.1])), (nR n, .inr (1, [.ref (nV n), .int (nI (nK n))])), (nV n, .inl (T.1, 8, .inl (nF n)))]) [0, 1, 2, 3, 9, 10, 4, 5, 6, 7, 8, 11, 12] rfl
      have hD : va_D A ([(aa 0, .inr (5, [.ref (aa 1), .ref S.1.1, .ref S.2.2.1.1, .int zw, .ref (aa 3), .ref (aa 4), .ref (aa 6), .ref (aa 8)])), (aa 1, .inr (1, [.ref (aa 2), .int (nI kp)])), (aa 2, .inl (T.1, 24, .inl fp)), (aa 3, .inr (2, [.int r9.2.1, .int r9.2.2, .int (b2i false), .int (b2i false)])), (aa 4, .inr (1, [.ref (aa 5), .int (nI u14)])), (aa 5, .inl (T.1, 24, .inl u15)), (aa 6, .inr (1, [.ref (aa 7), .int (nI ks)])), (aa 7, .inl (T.1, 24, .inl fs)), (aa 8, .inl (T.1, 9, .inl fc)), (S.1.1, .inr (0, [.ref S.1.2.1, .int (nI S.2.1.length), .int S.1.2.2.1])), (S.2.2.1.1, .inr (0, [.ref S.2.2.1.2.1, .int (nI S.2.2.2.length), .int S.2.2.1.2.2.1])), (nR n, .inr (1, [.ref (nV n), .int (nI (nK n))])), (nV n, .inl (T.1, 8, .inl (nF n)))] ++ rs12) := hD.part (cx := [(aa 0, .inr (5, [.ref (aa 1), .ref S.1.1, .ref S.2.2.1.1, .int zw, .ref (aa 3), .ref (aa 4), .ref (aa 6), .ref (aa 8)])), (aa 1, .inr (1, [.ref (aa 2), .int (nI kp)])), (aa 2, .inl (T.1, 24, .inl fp)), (aa 3, .inr (2, [.int r9.2.1, .int r9.2.2, .int (b2i false), .int (b2i false)])), (aa 4, .inr (1, [.ref (aa 5), .int (nI u14)])), (aa 5, .inl (T.1, 24, .inl u15)), (aa 6, .inr (1, [.ref (aa 7), .int (nI ks)])), (aa 7, .inl (T.1, 24, .inl fs)), (aa 8, .inl (T.1, 9, .inl fc)), (S.1.1, .inr (0, [.ref S.1.2.1, .int (nI S.2.1.length), .int S.1.2.2.1])), (S.2.2.1.1, .inr (0, [.ref S.2.2.1.2.1, .int (nI S.2.2.2.length), .int S.2.2.1.2.2.1])), (nR n, .inr (1, [.ref (nV n), .int (nI (nK n))])), (nV n, .inl (T.1, 8, .inl (nF n)))]) [0, 1, 2, 3, 9, 10, 4, 5, 6, 7, 8, 11, 12] (by decide) rfl
      have hP : va_P D gC (cX T aa zw kp fp r9.2.1 r9.2.2 false false u14 u15 ks fs fc S ++ tl T S) H := cl_P2 (X := cX T aa zw kp fp r9.2.1 r9.2.2 false false u14 u15 ks fs fc S) hrs12 hP
      have hD : va_D A (cX T aa zw kp fp r9.2.1 r9.2.2 false false u14 u15 ks fs fc S ++ tl T S) := cl_D2 (X := cX T aa zw kp fp r9.2.1 r9.2.2 false false u14 u15 ks fs fc S) hrs12 hD
      obtain ⟨hb1, hb2⟩ := hr13
      refine lv_aload_n hx hb d_T_tryName_36 rfl (lv_at hl 0 rfl) ?_
      refine g_callv (va_runV (As := []) (rest := []) ⟨hx, hb, hml, hown, hw⟩ (k_T_keepShorter l D T κ aa zw kp fp r9.2.1 r9.2.2 false false u14 u15 ks fs fc S H.size (by have := hy2.1; omega) hy3) (cwV 0 hw (bg_V ml_T_351 wi_T_keepShorter wv_T_keepShorter wz_T wc_T_keepShorter) rfl rfl rfl (by decide +kernel) ⟨Nat.le_of_ble_eq_true rfl, Nat.le_of_ble_eq_true rfl⟩) ⟨qPf_b, va_recv hK hP (ci := 5) (q0 := 0) rfl rfl, qPf_p hP hK hD hF hS (g_free hD hS hA)⟩ rfl rfl hl.1 rfl (lv_room (Nat.le_of_ble_eq_true rfl)) d_T_tryName_37 ⟨Nat.le_of_ble_eq_true rfl, Nat.le_of_ble_eq_true rfl⟩) hD hS hA (fun u9 H locs hr16 hP hD hS => ?_)
      obtain ⟨u17, u18⟩ := u9
      dsimp only at hr16 hP hD
      have hP : va_P D gC (cX T aa zw kp fp r9.2.1 r9.2.2 false false u14 u15 u17 u18 fc S ++ tl T S) H := hP
      have hD : va_D A (cX T aa zw kp fp r9.2.1 r9.2.2 false false u14 u15 u17 u18 fc S ++ tl T S) := hD
      exact W.vret hx hb hr (fun t ht hW => ⟨⟨(r9.2.1, r9.2.2, false, false, u14, u15, u17, u18), rfl, ⟨by rw [hr16.1, c_tn, hct, try_t, hb1, ls_cp hb2, ha1], hr16.2⟩, by rw [ht]; exact hP, va_K.moved hW.alike hK, hD⟩, hS.F ht⟩) hS.2.2 d_T_tryName_40
    · have c8 := b2i_f c8
      exact W.vret hx hb hr (fun t ht hW => ⟨⟨(r9.2.1, r9.2.2, false, false, kt, ft, ks, fs), rfl, ⟨by rw [c_tn, hcs, c8, try_f], hy3⟩, by rw [ht]; exact hP, va_K.moved hW.alike hK, hD⟩, hS.F ht⟩) hS.2.2 d_T_tryName_19
  · subst g0
    have hcs := ns_n (q := q) g1
    refine lv_if_eq (tgt := 19) hx hb d_T_tryName_8 (by decide) (fun c19 => ?_) (fun c19 => absurd c19 (by decide))
    exact W.vret hx hb hr (fun t ht hW => ⟨⟨(u2, u3, u4, u5, kt, ft, ks, fs), rfl, ⟨by rw [c_tn, hcs, try_f], hy3⟩, by rw [ht]; exact hP, va_K.moved hW.alike hK, hD⟩, hS.F ht⟩) hS.2.2 d_T_tryName_19

set_option maxHeartbeats 4000000 in
set_option maxRecDepth 100000 in
theorem k_T_findShortest (l : Launch) (D : va_G) (T : gT) (κ : gS) (aa : Nat → Nat) (zw : Int32) (kp : Nat) (fp : Nat → Int32) (e0 e1 : Int32) (oF oT : Bool) (kt : Nat) (ft : Nat → Int32) (ks : Nat) (fs fc : Nat → Int32) (S : tS) (sz : Nat) (q : spD) (hy0 : tOk κ S) (hy1 : q ∈ S.2.2.2) : Met l y_T_findShortest (Cond.code y_T_findShortest b_T_findShortest 4 none :: bg_W) ({ frames := 7, cells := 0, slots := 0, locals := 152 }) (qPf κ D T (cX T aa zw kp fp e0 e1 oF oT kt ft ks fs fc S ++ tl T S) [.ref (aa 0), .ref q.1] sz) (va_Qv (fun u : Int32 × Int32 × Bool × Bool × Nat × (Nat → Int32) × Nat × (Nat → Int32) => match u with | (w0, w1, v2, v3, kt1, ft1, ks1, fs1) => j_ls fs1 ks1 = c_wl zw q S ∧ ks1 ≤ 24) (qB D T (va_A (cX T aa zw kp fp e0 e1 oF oT kt ft ks fs fc S ++ tl T S) sz) (fun u : Int32 × Int32 × Bool × Bool × Nat × (Nat → Int32) × Nat × (Nat → Int32) => match u with | (w0, w1, v2, v3, kt1, ft1, ks1, fs1) => cX T aa zw kp fp w0 w1 v2 v3 kt1 ft1 ks1 fs1 fc S ++ tl T S)) (va_A (cX T aa zw kp fp e0 e1 oF oT kt ft ks fs fc S ++ tl T S) sz)) 0 0 (va_A (cX T aa zw kp fp e0 e1 oF oT kt ft ks fs fc S ++ tl T S) sz) := by
  refine Met.ofW (cc := b_T_findShortest) (maxL := 4) (ret := none) (by decide) rfl ?_
  intro p e s m args below meth c s₁ B hml hv
  obtain ⟨rfl, hsz, hP, hK, hD0, hF⟩ := hv
  have hx := B.exec
  have hb := B.bytes
  have hr := B.returns
  have hw : ∀ w ∈ bg_W, w.before ([.ref (aa 0), .ref q.1] : List Value).toArray s = true := fun w h => atoms_spec (ws := (Cond.code y_T_findShortest b_T_findShortest 4 none :: bg_W)) B.pre w (List.mem_cons_of_mem _ h)
  have hown : s.vm.findClass "TimeWords" = some m.cls := findClass_of_methodNamed B.named
  have hlocks := B.notSynchronized
  subst hsz
  have hD := hD0.self (sz := s.heap.size)
  generalize hAe : va_A (cX T aa zw kp fp e0 e1 oF oT kt ft ks fs fc S ++ tl T S) s.heap.size = A at hD hF ⊢
  have hA : ∀ q : Nat, s.heap.size ≤ q → A q := fun q h => by rw [← hAe]; exact Or.inr h
  have hS : va_S A s.heap s.heap [] := va_S.rf
  have hl := lv_entry ([.ref (aa 0), .ref q.1]) (n := 4) (Nat.le_of_ble_eq_true rfl)
  rw [lg_entry_eq]
  generalize (lg_sl ([.ref (aa 0), .ref q.1]) ++ List.replicate (4 - (lg_sl ([.ref (aa 0), .ref q.1])).length) Slot.unset).toArray = ls at hl ⊢
  have hl : lv_has ls 4 [(0, .ref (aa 0)), (1, .ref q.1)] := hl
  have hL1 : S.2.1.length ≤ 24 := hy0.2.2.2.1
  have hL2 : S.2.2.2.length ≤ 60 := hy0.2.2.2.2
  have loop : ∀ (nf : Nat) (i : Nat) (a0 a1 : Int32) (b2 b3 : Bool) (k4 : Nat) (f4 : Nat → Int32) (k5 : Nat) (f5 : Nat → Int32), ((q.2.2.2.1 && q.2.2.2.2) = false) → (i ≤ S.2.1.length) → (j_ls f5 k5 = c_nl q S (c_w4 zw q) i) → (k5 ≤ 24) → ∀ (H : Heap) (locs : List Loc), va_P D gC (cX T aa zw kp fp a0 a1 b2 b3 k4 f4 k5 f5 fc S ++ tl T S) H → va_D A (cX T aa zw kp fp a0 a1 b2 b3 k4 f4 k5 f5 fc S ++ tl T S) → va_S A s.heap H locs → ∀ (ls : Array Slot), lv_has ls 4 [(0, .ref (aa 0)), (1, .ref q.1), (3, .int (nI i))] → S.2.1.length - i < nf → W p l e (headSpec (Cond.code y_T_findShortest b_T_findShortest 4 none :: bg_W) ({ frames := 7, cells := 0, slots := 0, locals := 152 })).room s m ([.ref (aa 0), .ref q.1] : List Value).toArray below meth c H locs 0 0 (MQ below (va_Qv (fun u : Int32 × Int32 × Bool × Bool × Nat × (Nat → Int32) × Nat × (Nat → Int32) => match u with | (w0, w1, v2, v3, kt1, ft1, ks1, fs1) => j_ls fs1 ks1 = c_wl zw q S ∧ ks1 ≤ 24) (qB D T A (fun u : Int32 × Int32 × Bool × Bool × Nat × (Nat → Int32) × Nat × (Nat → Int32) => match u with | (w0, w1, v2, v3, kt1, ft1, ks1, fs1) => cX T aa zw kp fp w0 w1 v2 v3 kt1 ft1 ks1 fs1 fc S ++ tl T S)) A) ([.ref (aa 0), .ref q.1] : List Value).toArray s 0 0 A) (F0 m 58 ls []) := by
    intro nf
    induction nf with
    | zero => intro i a0 a1 b2 b3 k4 f4 k5 f5 hno hi hC hk H locs hP hD hS ls hl hm; exact absurd hm (Nat.not_lt_zero _)
    | succ nf ih =>
      intro i a0 a1 b2 b3 k4 f4 k5 f5 hno hi hC hk H locs hP hD hS ls hl hm
      refine lv_iload_n hx hb d_T_findShortest_58 rfl (lv_at hl 2 rfl) ?_
      refine lv_aload_n hx hb d_T_findShortest_59 rfl (lv_at hl 0 rfl) ?_
      refine va_get (D := D) (ci := 5) (v := .ref S.1.1) (C := "TimeWords") (T := F_T) (N := 8) hx hb hw in_T hown hK hP 0 rfl rfl 1 (by decide) (hw _ fl_T_21) (fun _ h9 => h9) rfl d_T_findShortest_60 ?_
      have hPc : va_P D gC ([(S.1.1, .inr (0, [.ref S.1.2.1, .int (nI S.2.1.length), .int S.1.2.2.1]))]) H := (pc1 (hP 9 _ rfl) pc0)
      refine vp_callSi (va_Run.run (va_runV (As := []) (rest := [.int (nI i)]) ⟨hx, hb, hml, hown, hw⟩ (k_A_size l D T S.1.1 S.1.2.1 S.2.1.length S.1.2.2.1) (cwV 0 hw (bg_V ml_T_86 wi_A_size wv_A_size wz_A wc_A_size) rfl rfl rfl (by decide +kernel) ⟨Nat.le_of_ble_eq_true rfl, Nat.le_of_ble_eq_true rfl⟩) ⟨sP_b, va_recv hK hPc (ci := 0) (q0 := 0) rfl rfl, sP_p hPc hK⟩ rfl rfl hl.1 rfl (lv_room (Nat.le_of_ble_eq_true rfl)) d_T_findShortest_63 ⟨Nat.le_of_ble_eq_true rfl, Nat.le_of_ble_eq_true rfl⟩)) (fun r1 hr1 => ?_)
      replace hr1 := hr1.symm; subst hr1
      refine lv_icmp_ge (tgt := 91) hx hb d_T_findShortest_66 (by decide) (fun c2 => ?_) (fun c2 => ?_)
      · have c2 := nc_le (a := S.2.1.length) (b := i) c2 (by omega) (by omega)
        exact W.vret hx hb hr (fun t ht hW => ⟨⟨(a0, a1, b2, b3, k4, f4, k5, f5), rfl, ⟨by rw [c_wl, if_neg (by rw [hno]; decide), show S.2.1.length = i by omega]; exact hC, hk⟩, by rw [ht]; exact hP, va_K.moved hW.alike hK, hD⟩, hS.F ht⟩) hS.2.2 d_T_findShortest_91
      · have c2 := nc_nle (a := S.2.1.length) (b := i) c2 (by omega) (by omega)
        obtain ⟨n, hn⟩ : ∃ n, S.2.1[i]? = some n := ⟨_, List.getElem?_eq_getElem (by omega)⟩
        obtain ⟨hn1, hn2, hn3, hn4, hn5, hn6⟩ := nm_at hy0 hn
        refine lv_aload_n hx hb d_T_findShortest_69 rfl (lv_at hl 0 rfl) ?_
        refine lv_aload_n hx hb d_T_findShortest_70 rfl (lv_at hl 1 rfl) ?_
        refine lv_aload_n hx hb d_T_findShortest_71 rfl (lv_at hl 0 rfl) ?_
        refine va_get (D := D) (ci := 5) (v := .ref S.1.1) (C := "TimeWords") (T := F_T) (N := 8) hx hb hw in_T hown hK hP 0 rfl rfl 1 (by decide) (hw _ fl_T_21) (fun _ h9 => h9) rfl d_T_findShortest_72 ?_
        refine lv_iload_n hx hb d_T_findShortest_75 rfl (lv_at hl 2 rfl) ?_
        have hPc : va_P D gC ([(S.1.1, .inr (0, [.ref S.1.2.1, .int (nI S.2.1.length), .int S.1.2.2.1])), (S.1.2.1, .inl (T.2.2.2, S.1.2.2.2.1, .inr (.inr (.inr (.inr S.1.2.2.2.2)))))]) H := (pc1 (hP 9 _ rfl) (pc1 (hP.mem (List.mem_append_right _ (tl_na (by omega)))) pc0))
        refine va_csq (va_Run.run (va_runV (As := [.int (nI i)]) (rest := [.ref q.1, .ref (aa 0)]) ⟨hx, hb, hml, hown, hw⟩ (k_A_get l D T S.1.1 S.1.2.1 S.2.1.length S.1.2.2.1 S.1.2.2.2.1 S.1.2.2.2.2 i hn4 hn2 (by omega)) (cwV 1 hw (bg_V ml_T_192 wi_A_get wv_A_get wz_A wc_A_get) rfl rfl rfl (by decide +kernel) ⟨Nat.le_of_ble_eq_true rfl, Nat.le_of_ble_eq_true rfl⟩) ⟨sP_b, va_recv hK hPc (ci := 0) (q0 := 0) rfl rfl, sP_p hPc hK⟩ rfl rfl hl.1 rfl (lv_room (Nat.le_of_ble_eq_true rfl)) d_T_findShortest_76 ⟨Nat.le_of_ble_eq_true rfl, Nat.le_of_ble_eq_true rfl⟩)) (fun r3 hr3 => ?_)
        replace hr3 := hr3.symm; subst hr3
        rw [hn1]
        refine W.eq (g2 := F0 m 79 ls [.ref (nA n), .ref q.1, .ref (aa 0)]) rfl ?_
        refine va_castY (C := "TimeWords$Name") hx hb hown (hw _ kl_T_92) (hF.2.2.2.1 _ (by simp [sC])) (va_recv hK (pc1 (hP.mem (List.mem_append_right _ (tl_nm hn5 nmm_o))) pc0) (ci := 4) (q0 := 0) rfl rfl) d_T_findShortest_79 ?_
        refine g_callv (va_runV (As := [.ref q.1, .ref (nA n)]) (rest := []) ⟨hx, hb, hml, hown, hw⟩ (k_T_tryName l D T κ aa zw kp fp a0 a1 b2 b3 k4 f4 k5 f5 fc S H.size q n hy1 hn5 hn6 hk) (cwV 2 hw (bg_V ml_T_337 wi_T_tryName wv_T_tryName wz_T wc_T_tryName) rfl rfl rfl (by decide +kernel) ⟨Nat.le_of_ble_eq_true rfl, Nat.le_of_ble_eq_true rfl⟩) ⟨qPf_b, va_recv hK hP (ci := 5) (q0 := 0) rfl rfl, qPf_p hP hK hD hF hS (g_free hD hS hA)⟩ rfl rfl hl.1 rfl (lv_room (Nat.le_of_ble_eq_true rfl)) d_T_findShortest_82 ⟨Nat.le_of_ble_eq_true rfl, Nat.le_of_ble_eq_true rfl⟩) hD hS hA (fun u9 H locs hr4 hP hD hS => ?_)
        obtain ⟨u5, u6, u7, u8, u9, u10, u11, u12⟩ := u9
        dsimp only at hr4 hP hD
        have hP : va_P D gC (cX T aa zw kp fp u5 u6 u7 u8 u9 u10 u11 u12 fc S ++ tl T S) H := hP
        have hD : va_D A (cX T aa zw kp fp u5 u6 u7 u8 u9 u10 u11 u12 fc S ++ tl T S) := hD
        refine lv_iinc (v := nI (i + 1)) (lv' := [(3, .int (nI (i + 1))), (0, .ref (aa 0)), (1, .ref q.1)]) hx hb d_T_findShortest_85 hl (k := 2) rfl (nI_add i 1) (by decide) rfl (fun ls hl => ?_)
        refine lv_goto (tgt := 58) hx hb d_T_findShortest_88 (by decide) ?_
        exact ih (i + 1) u5 u6 u7 u8 u9 u10 u11 u12 hno (by omega) (hr4.1.trans (by rw [nl_s hn, hC])) hr4.2 _ _ hP hD hS ls (lv_sub hl [1, 2, 0] rfl) (by omega)
  refine lv_aload_n hx hb d_T_findShortest_0 rfl (lv_at hl 0 rfl) ?_
  refine va_get (D := D) (ci := 5) (v := .ref (aa 6)) (C := "TimeWords") (T := F_T) (N := 8) hx hb hw in_T hown hK hP 0 rfl rfl 6 (by decide) (hw _ fl_T_44) (fun _ h9 => h9) rfl d_T_findShortest_1 ?_
  have hPc : va_P D gC ([(aa 6, .inr (1, [.ref (aa 7), .int (nI ks)])), (aa 7, .inl (T.1, 24, .inl fs))]) s.heap := (pc1 (hP 6 _ rfl) (pc1 (hP 7 _ rfl) pc0))
  have hDc : va_D A ([(aa 6, .inr (1, [.ref (aa 7), .int (nI ks)])), (aa 7, .inl (T.1, 24, .inl fs))]) := by have h9 := hD.part (cx := [(aa 6, .inr (1, [.ref (aa 7), .int (nI ks)])), (aa 7, .inl (T.1, 24, .inl fs))]) [6, 7] (by decide) rfl; exact dl_l h9
  refine g_subv (X := cX T aa zw kp fp e0 e1 oF oT kt ft ks fs fc S) (pl := tl T S) (wr := [(aa 0, .inr (5, [.ref (aa 1), .ref S.1.1, .ref S.2.2.1.1, .int zw, .ref (aa 3), .ref (aa 4), .ref (aa 6), .ref (aa 8)])), (aa 1, .inr (1, [.ref (aa 2), .int (nI kp)])), (aa 2, .inl (T.1, 24, .inl fp)), (aa 3, .inr (2, [.int e0, .int e1, .int (b2i oF), .int (b2i oT)])), (aa 4, .inr (1, [.ref (aa 5), .int (nI kt)])), (aa 5, .inl (T.1, 24, .inl ft)), (aa 8, .inl (T.1, 9, .inl fc)), (S.1.1, .inr (0, [.ref S.1.2.1, .int (nI S.2.1.length), .int S.1.2.2.1])), (S.2.2.1.1, .inr (0, [.ref S.2.2.1.2.1, .int (nI S.2.2.2.length), .int S.2.2.1.2.2.1]))]) (cx := [(aa 6, .inr (1, [.ref (aa 7), .int (nI ks)])), (aa 7, .inl (T.1, 24, .inl fs))]) (va_runV (As := []) (rest := []) ⟨hx, hb, hml, hown, hw⟩ (k_R_empty l D T (aa 6) (aa 7) ks 24 fs s.heap.size) (cwV 0 hw (bg_V ml_T_73 wi_R_empty wv_R_empty wz_R wc_R_empty) rfl rfl rfl (by decide +kernel) ⟨Nat.le_of_ble_eq_true rfl, Nat.le_of_ble_eq_true rfl⟩) ⟨qP_b, va_recv hK hPc (ci := 1) (q0 := 0) rfl rfl, qP_p hPc hK hDc⟩ rfl rfl hl.1 rfl (lv_room (Nat.le_of_ble_eq_true rfl)) d_T_findShortest_4 ⟨Nat.le_of_ble_eq_true rfl, Nat.le_of_ble_eq_true rfl⟩) hP hD hS hA [6, 7] [0, 1, 2, 3, 4, 5, 8, 9, 10] rfl rfl (by decide) (by decide) (fun u14 H locs hr13 hP hD hS => ?_)
  have q0 := hr13
  replace q0 := q0.symm; subst q0
  have hP : va_P D gC (cX T aa zw kp fp e0 e1 oF oT kt ft 0 fs fc S ++ tl T S) H := hP.part (cx := cX T aa zw kp fp e0 e1 oF oT kt ft 0 fs fc S) [0, 1, 2, 3, 4, 5, 9, 10, 6, 7, 8] rfl
  have hD : va_D A (cX T aa zw kp fp e0 e1 oF oT kt ft 0 fs fc S ++ tl T S) := hD.part (cx := cX T aa zw kp fp e0 e1 oF oT kt ft 0 fs fc S) [0, 1, 2, 3, 4, 5, 9, 10, 6, 7, 8] (by decide) rfl
  refine lv_aload_n hx hb d_T_findShortest_7 rfl (lv_at hl 1 rfl) ?_
  refine va_get (D := D) (ci := 2) (v := .int (b2i q.2.2.2.1)) (C := "TimeWords$Years") (T := F_Y) (N := 4) hx hb hw in_Y hown hK (pc1 (hP.mem (List.mem_append_right _ (tl_sp hy1))) pc0) 0 rfl rfl 2 (by decide) (hw _ fl_T_319) (fun _ h9 => h9) rfl d_T_findShortest_8 ?_
  refine lv_if_eq (tgt := 22) hx hb d_T_findShortest_11 (by decide) (fun c15 => ?_) (fun c15 => ?_)
  · have c15 := b2i_f c15
    have hno : (q.2.2.2.1 && q.2.2.2.2) = false := by simp [c15]
    refine lv_aload_n hx hb d_T_findShortest_22 rfl (lv_at hl 1 rfl) ?_
    have hPc : va_P D gC ([(q.1, .inr (2, [.int q.2.1, .int q.2.2.1, .int (b2i q.2.2.2.1), .int (b2i q.2.2.2.2)]))]) H := (pc1 (hP.mem (List.mem_append_right _ (tl_sp hy1))) pc0)
    refine vp_callSi (va_Run.run (va_runS (As := [.ref q.1]) (rest := []) ⟨hx, hb, hml, hown, hw⟩ (k_T_yearSaid l D T q.1 q.2.1 q.2.2.1 q.2.2.2.1 q.2.2.2.2) (va_cwS 1 hw (bg_S ml_T_326 wt_T_yearSaid wz_T wc_T_yearSaid) rfl rfl rfl (by decide +kernel) ⟨Nat.le_of_ble_eq_true rfl, Nat.le_of_ble_eq_true rfl⟩) ⟨sP_b, sP_p hPc hK⟩ rfl rfl hl.1 rfl (lv_room (Nat.le_of_ble_eq_true rfl)) d_T_findShortest_23 ⟨Nat.le_of_ble_eq_true rfl, Nat.le_of_ble_eq_true rfl⟩)) (fun r16 hr16 => ?_)
    replace hr16 := hr16.symm; subst hr16
    refine lv_iconst (v := 1) hx hb d_T_findShortest_26 (by decide) ?_
    refine lv_isub hx hb d_T_findShortest_27 ?_
    refine lv_bipush (v := 100) hx hb d_T_findShortest_28 (by decide) ?_
    refine vp_callSi (va_Run.run (va_runS (As := [.int ((if q.2.2.2.1 = true then q.2.2.1 + 1 else if q.2.2.2.2 = true then q.2.1 - 1 else q.2.1) - 1), .int 100]) (rest := []) ⟨hx, hb, hml, hown, hw⟩ (k_MA_floorDiv l ((if q.2.2.2.1 = true then q.2.2.1 + 1 else if q.2.2.2.2 = true then q.2.1 - 1 else q.2.1) - 1) 100 (by decide)) (va_cwS 2 hw (bg_S ml_T_330 wt_MA_floorDiv wz_MA wc_MA_floorDiv) rfl rfl rfl (by decide +kernel) ⟨Nat.le_of_ble_eq_true rfl, Nat.le_of_ble_eq_true rfl⟩) ⟨nP_b, nP_p⟩ rfl rfl hl.1 rfl (lv_room (Nat.le_of_ble_eq_true rfl)) d_T_findShortest_30 ⟨Nat.le_of_ble_eq_true rfl, Nat.le_of_ble_eq_true rfl⟩)) (fun r17 hr17 => ?_)
    replace hr17 := hr17.symm; subst hr17
    refine lv_iconst (v := 1) hx hb d_T_findShortest_33 (by decide) ?_
    refine lv_iadd hx hb d_T_findShortest_34 ?_
    rw [show (c_fd ((if q.2.2.2.1 = true then q.2.2.1 + 1 else if q.2.2.2.2 = true then q.2.1 - 1 else q.2.1) - 1) 100) + 1 = c_ce q from rfl]
    rcases Bool.eq_false_or_eq_true (j_in (c_ce q) 1 99) with hin | hin
    · obtain ⟨cn, hc1, hc2, hc3⟩ := ce_nat hin
      rw [hc3]
      refine lv_istore_n (lv' := [(2, .int (nI cn)), (0, .ref (aa 0)), (1, .ref q.1)]) hx hb d_T_findShortest_35 rfl hl (by decide) rfl (fun ls hl => ?_)
      refine lv_iconst (v := (-1)) hx hb d_T_findShortest_36 (by decide) ?_
      refine lv_istore_n (lv' := [(3, .int (-1)), (2, .int (nI cn)), (0, .ref (aa 0)), (1, .ref q.1)]) hx hb d_T_findShortest_37 rfl hl (by decide) rfl (fun ls hl => ?_)
      refine lv_iload_n hx hb d_T_findShortest_38 rfl (lv_at hl 0 rfl) ?_
      refine lv_iconst (v := 2) hx hb d_T_findShortest_39 (by decide) ?_
      refine lv_icmp_gt (tgt := 56) hx hb d_T_findShortest_40 (by decide) (fun c18 => absurd c18 (by decide)) (fun c18 => ?_)
      refine lv_aload_n hx hb d_T_findShortest_43 rfl (lv_at hl 2 rfl) ?_
      refine lv_aload_n hx hb d_T_findShortest_44 rfl (lv_at hl 3 rfl) ?_
      refine lv_iload_n hx hb d_T_findShortest_45 rfl (lv_at hl 1 rfl) ?_
      refine lv_iload_n hx hb d_T_findShortest_46 rfl (lv_at hl 0 rfl) ?_
      refine g_callv (va_runV (As := [.ref q.1, .int (nI cn), .int (-1)]) (rest := []) ⟨hx, hb, hml, hown, hw⟩ (k_T_tryCentury_w l D T κ aa zw kp fp e0 e1 oF oT kt ft 0 fs fc S H.size q cn hy1 hc1 hc2 (Nat.zero_le _)) (cwV 3 hw (bg_V ml_T_333 wi_T_tryCentury wv_T_tryCentury wz_T wc_T_tryCentury) rfl rfl rfl (by decide +kernel) ⟨Nat.le_of_ble_eq_true rfl, Nat.le_of_ble_eq_true rfl⟩) ⟨qPf_b, va_recv hK hP (ci := 5) (q0 := 0) rfl rfl, qPf_p hP hK hD hF hS (g_free hD hS hA)⟩ rfl rfl hl.1 rfl (lv_room (Nat.le_of_ble_eq_true rfl)) d_T_findShortest_47 ⟨Nat.le_of_ble_eq_true rfl, Nat.le_of_ble_eq_true rfl⟩) hD hS hA (fun u9 H locs hr19 hP hD hS => ?_)
      obtain ⟨u20, u21, u22, u23, u24, u25, u26, u27⟩ := u9
      dsimp only at hr19 hP hD
      have hP : va_P D gC (cX T aa zw kp fp u20 u21 u22 u23 u24 u25 u26 u27 fc S ++ tl T S) H := hP
      have hD : va_D A (cX T aa zw kp fp u20 u21 u22 u23 u24 u25 u26 u27 fc S ++ tl T S) := hD
      refine lv_iinc (v := 0) (lv' := [(3, .int 0), (2, .int (nI cn)), (0, .ref (aa 0)), (1, .ref q.1)]) hx hb d_T_findShortest_50 hl (k := 0) rfl (by decide) (by decide) rfl (fun ls hl => ?_)
      refine lv_goto (tgt := 38) hx hb d_T_findShortest_53 (by decide) ?_
      refine lv_iload_n hx hb d_T_findShortest_38 rfl (lv_at hl 0 rfl) ?_
      refine lv_iconst (v := 2) hx hb d_T_findShortest_39 (by decide) ?_
      refine lv_icmp_gt (tgt := 56) hx hb d_T_findShortest_40 (by decide) (fun c28 => absurd c28 (by decide)) (fun c28 => ?_)
      refine lv_aload_n hx hb d_T_findShortest_43 rfl (lv_at hl 2 rfl) ?_
      refine lv_aload_n hx hb d_T_findShortest_44 rfl (lv_at hl 3 rfl) ?_
      refine lv_iload_n hx hb d_T_findShortest_45 rfl (lv_at hl 1 rfl) ?_
      refine lv_iload_n hx hb d_T_findShortest_46 rfl (lv_at hl 0 rfl) ?_
      refine g_callv (va_runV (As := [.ref q.1, .int (nI cn), .int 0]) (rest := []) ⟨hx, hb, hml, hown, hw⟩ (k_T_tryCentury_0 l D T κ aa zw kp fp u20 u21 u22 u23 u24 u25 u26 u27 fc S H.size q cn hy1 hc1 hc2 hr19.2) (cwV 3 hw (bg_V ml_T_333 wi_T_tryCentury wv_T_tryCentury wz_T wc_T_tryCentury) rfl rfl rfl (by decide +kernel) ⟨Nat.le_of_ble_eq_true rfl, Nat.le_of_ble_eq_true rfl⟩) ⟨qPf_b, va_recv hK hP (ci := 5) (q0 := 0) rfl rfl, qPf_p hP hK hD hF hS (g_free hD hS hA)⟩ rfl rfl hl.1 rfl (lv_room (Nat.le_of_ble_eq_true rfl)) d_T_findShortest_47 ⟨Nat.le_of_ble_eq_true rfl, Nat.le_of_ble_eq_true rfl⟩) hD hS hA (fun u9 H locs hr29 hP hD hS => ?_)
      obtain ⟨u30, u31, u32, u33, u34, u35, u36, u37⟩ := u9
      dsimp only at hr29 hP hD
      have hP : va_P D gC (cX T aa zw kp fp u30 u31 u32 u33 u34 u35 u36 u37 fc S ++ tl T S) H := hP
      have hD : va_D A (cX T aa zw kp fp u30 u31 u32 u33 u34 u35 u36 u37 fc S ++ tl T S) := hD
      refine lv_iinc (v := 1) (lv' := [(3, .int 1), (2, .int (nI cn)), (0, .ref (aa 0)), (1, .ref q.1)]) hx hb d_T_findShortest_50 hl (k := 0) rfl (by decide) (by decide) rfl (fun ls hl => ?_)
      refine lv_goto (tgt := 38) hx hb d_T_findShortest_53 (by decide) ?_
      refine lv_iload_n hx hb d_T_findShortest_38 rfl (lv_at hl 0 rfl) ?_
      refine lv_iconst (v := 2) hx hb d_T_findShortest_39 (by decide) ?_
      refine lv_icmp_gt (tgt := 56) hx hb d_T_findShortest_40 (by decide) (fun c38 => absurd c38 (by decide)) (fun c38 => ?_)
      refine lv_aload_n hx hb d_T_findShortest_43 rfl (lv_at hl 2 rfl) ?_
      refine lv_aload_n hx hb d_T_findShortest_44 rfl (lv_at hl 3 rfl) ?_
      refine lv_iload_n hx hb d_T_findShortest_45 rfl (lv_at hl 1 rfl) ?_
      refine lv_iload_n hx hb d_T_findShortest_46 rfl (lv_at hl 0 rfl) ?_
      refine g_callv (va_runV (As := [.ref q.1, .int (nI cn), .int 1]) (rest := []) ⟨hx, hb, hml, hown, hw⟩ (k_T_tryCentury_1 l D T κ aa zw kp fp u30 u31 u32 u33 u34 u35 u36 u37 fc S H.size q cn hy1 hc1 hc2 hr29.2) (cwV 3 hw (bg_V ml_T_333 wi_T_tryCentury wv_T_tryCentury wz_T wc_T_tryCentury) rfl rfl rfl (by decide +kernel) ⟨Nat.le_of_ble_eq_true rfl, Nat.le_of_ble_eq_true rfl⟩) ⟨qPf_b, va_recv hK hP (ci := 5) (q0 := 0) rfl rfl, qPf_p hP hK hD hF hS (g_free hD hS hA)⟩ rfl rfl hl.1 rfl (lv_room (Nat.le_of_ble_eq_true rfl)) d_T_findShortest_47 ⟨Nat.le_of_ble_eq_true rfl, Nat.le_of_ble_eq_true rfl⟩) hD hS hA (fun u9 H locs hr39 hP hD hS => ?_)
      obtain ⟨u40, u41, u42, u43, u44, u45, u46, u47⟩ := u9
      dsimp only at hr39 hP hD
      have hP : va_P D gC (cX T aa zw kp fp u40 u41 u42 u43 u44 u45 u46 u47 fc S ++ tl T S) H := hP
      have hD : va_D A (cX T aa zw kp fp u40 u41 u42 u43 u44 u45 u46 u47 fc S ++ tl T S) := hD
      refine lv_iinc (v := 2) (lv' := [(3, .int 2), (2, .int (nI cn)), (0, .ref (aa 0)), (1, .ref q.1)]) hx hb d_T_findShortest_50 hl (k := 0) rfl (by decide) (by decide) rfl (fun ls hl => ?_)
      refine lv_goto (tgt := 38) hx hb d_T_findShortest_53 (by decide) ?_
      refine lv_iload_n hx hb d_T_findShortest_38 rfl (lv_at hl 0 rfl) ?_
      refine lv_iconst (v := 2) hx hb d_T_findShortest_39 (by decide) ?_
      refine lv_icmp_gt (tgt := 56) hx hb d_T_findShortest_40 (by decide) (fun c48 => absurd c48 (by decide)) (fun c48 => ?_)
      refine lv_aload_n hx hb d_T_findShortest_43 rfl (lv_at hl 2 rfl) ?_
      refine lv_aload_n hx hb d_T_findShortest_44 rfl (lv_at hl 3 rfl) ?_
      refine lv_iload_n hx hb d_T_findShortest_45 rfl (lv_at hl 1 rfl) ?_
      refine lv_iload_n hx hb d_T_findShortest_46 rfl (lv_at hl 0 rfl) ?_
      refine g_callv (va_runV (As := [.ref q.1, .int (nI cn), .int 2]) (rest := []) ⟨hx, hb, hml, hown, hw⟩ (k_T_tryCentury_2 l D T κ aa zw kp fp u40 u41 u42 u43 u44 u45 u46 u47 fc S H.size q cn hy1 hc1 hc2 hr39.2) (cwV 3 hw (bg_V ml_T_333 wi_T_tryCentury wv_T_tryCentury wz_T wc_T_tryCentury) rfl rfl rfl (by decide +kernel) ⟨Nat.le_of_ble_eq_true rfl, Nat.le_of_ble_eq_true rfl⟩) ⟨qPf_b, va_recv hK hP (ci := 5) (q0 := 0) rfl rfl, qPf_p hP hK hD hF hS (g_free hD hS hA)⟩ rfl rfl hl.1 rfl (lv_room (Nat.le_of_ble_eq_true rfl)) d_T_findShortest_47 ⟨Nat.le_of_ble_eq_true rfl, Nat.le_of_ble_eq_true rfl⟩) hD hS hA (fun u9 H locs hr49 hP hD hS => ?_)
      obtain ⟨u50, u51, u52, u53, u54, u55, u56, u57⟩ := u9
      dsimp only at hr49 hP hD
      have hP : va_P D gC (cX T aa zw kp fp u50 u51 u52 u53 u54 u55 u56 u57 fc S ++ tl T S) H := hP
      have hD : va_D A (cX T aa zw kp fp u50 u51 u52 u53 u54 u55 u56 u57 fc S ++ tl T S) := hD
      refine lv_iinc (v := 3) (lv' := [(3, .int 3), (2, .int (nI cn)), (0, .ref (aa 0)), (1, .ref q.1)]) hx hb d_T_findShortest_50 hl (k := 0) rfl (by decide) (by decide) rfl (fun ls hl => ?_)
      refine lv_goto (tgt := 38) hx hb d_T_findShortest_53 (by decide) ?_
      refine lv_iload_n hx hb d_T_findShortest_38 rfl (lv_at hl 0 rfl) ?_
      refine lv_iconst (v := 2) hx hb d_T_findShortest_39 (by decide) ?_
      refine lv_icmp_gt (tgt := 56) hx hb d_T_findShortest_40 (by decide) (fun c58 => ?_) (fun c58 => absurd c58 (by decide))
      refine lv_iconst (v := 0) hx hb d_T_findShortest_56 (by decide) ?_
      refine lv_istore_n (lv' := [(3, .int 0), (2, .int (nI cn)), (0, .ref (aa 0)), (1, .ref q.1)]) hx hb d_T_findShortest_57 rfl hl (by decide) rfl (fun ls hl => ?_)
      have hw4 : j_ls u57 u56 = c_w4 zw q := by rw [hr49.1, hr39.1, hr29.1, hr19.1, c_w4, if_pos hin, hc3, nI_clamp (by omega)]; rfl
      exact loop ((S.2.1.length - 0) + 1) 0 u50 u51 u52 u53 u54 u55 u56 u57 hno (Nat.zero_le _) hw4 hr49.2 _ _ hP hD hS ls (lv_sub hl [2, 3, 0] rfl) (Nat.lt_succ_self _)
    · refine lv_istore_n (lv' := [(2, .int (c_ce q)), (0, .ref (aa 0)), (1, .ref q.1)]) hx hb d_T_findShortest_35 rfl hl (by decide) rfl (fun ls hl => ?_)
      refine lv_iconst (v := (-1)) hx hb d_T_findShortest_36 (by decide) ?_
      refine lv_istore_n (lv' := [(3, .int (-1)), (2, .int (c_ce q)), (0, .ref (aa 0)), (1, .ref q.1)]) hx hb d_T_findShortest_37 rfl hl (by decide) rfl (fun ls hl => ?_)
      refine lv_iload_n hx hb d_T_findShortest_38 rfl (lv_at hl 0 rfl) ?_
      refine lv_iconst (v := 2) hx hb d_T_findShortest_39 (by decide) ?_
      refine lv_icmp_gt (tgt := 56) hx hb d_T_findShortest_40 (by decide) (fun c59 => absurd c59 (by decide)) (fun c59 => ?_)
      refine lv_aload_n hx hb d_T_findShortest_43 rfl (lv_at hl 2 rfl) ?_
      refine lv_aload_n hx hb d_T_findShortest_44 rfl (lv_at hl 3 rfl) ?_
      refine lv_iload_n hx hb d_T_findShortest_45 rfl (lv_at hl 1 rfl) ?_
      refine lv_iload_n hx hb d_T_findShortest_46 rfl (lv_at hl 0 rfl) ?_
      refine g_callv (va_runV (As := [.ref q.1, .int (c_ce q), .int (-1)]) (rest := []) ⟨hx, hb, hml, hown, hw⟩ (k_T_tryCentury_n l D T κ aa zw kp fp e0 e1 oF oT kt ft 0 fs fc S H.size q (c_ce q) (-1) hy1 hin) (cwV 3 hw (bg_V ml_T_333 wi_T_tryCentury wv_T_tryCentury wz_T wc_T_tryCentury) rfl rfl rfl (by decide +kernel) ⟨Nat.le_of_ble_eq_true rfl, Nat.le_of_ble_eq_true rfl⟩) ⟨qPf_b, va_recv hK hP (ci := 5) (q0 := 0) rfl rfl, qPf_p hP hK hD hF hS (g_free hD hS hA)⟩ rfl rfl hl.1 rfl (lv_room (Nat.le_of_ble_eq_true rfl)) d_T_findShortest_47 ⟨Nat.le_of_ble_eq_true rfl, Nat.le_of_ble_eq_true rfl⟩) hD hS hA (fun u9 H locs hr60 hP hD hS => ?_)
      obtain ⟨u61, u62, u63, u64⟩ := u9
      dsimp only at hr60 hP hD
      obtain ⟨q0, q1, q2, q3⟩ := hr60
      replace q0 := q0.symm; subst q0; replace q1 := q1.symm; subst q1; replace q2 := q2.symm; subst q2; replace q3 := q3.symm; subst q3
      have hP : va_P D gC (cX T aa zw kp fp e0 e1 oF oT kt ft 0 fs fc S ++ tl T S) H := hP
      have hD : va_D A (cX T aa zw kp fp e0 e1 oF oT kt ft 0 fs fc S ++ tl T S) := hD
      refine lv_iinc (v := 0) (lv' := [(3, .int 0), (2, .int (c_ce q)), (0, .ref (aa 0)), (1, .ref q.1)]) hx hb d_T_findShortest_50 hl (k := 0) rfl (by decide) (by decide) rfl (fun ls hl => ?_)
      refine lv_goto (tgt := 38) hx hb d_T_findShortest_53 (by decide) ?_
      refine lv_iload_n hx hb d_T_findShortest_38 rfl (lv_at hl 0 rfl) ?_
      refine lv_iconst (v := 2) hx hb d_T_findShortest_39 (by decide) ?_
      refine lv_icmp_gt (tgt := 56) hx hb d_T_findShortest_40 (by decide) (fun c65 => absurd c65 (by decide)) (fun c65 => ?_)
      refine lv_aload_n hx hb d_T_findShortest_43 rfl (lv_at hl 2 rfl) ?_
      refine lv_aload_n hx hb d_T_findShortest_44 rfl (lv_at hl 3 rfl) ?_
      refine lv_iload_n hx hb d_T_findShortest_45 rfl (lv_at hl 1 rfl) ?_
      refine lv_iload_n hx hb d_T_findShortest_46 rfl (lv_at hl 0 rfl) ?_
      refine g_callv (va_runV (As := [.ref q.1, .int (c_ce q), .int 0]) (rest := []) ⟨hx, hb, hml, hown, hw⟩ (k_T_tryCentury_n l D T κ aa zw kp fp e0 e1 oF oT kt ft 0 fs fc S H.size q (c_ce q) 0 hy1 hin) (cwV 3 hw (bg_V ml_T_333 wi_T_tryCentury wv_T_tryCentury wz_T wc_T_tryCentury) rfl rfl rfl (by decide +kernel) ⟨Nat.le_of_ble_eq_true rfl, Nat.le_of_ble_eq_true rfl⟩) ⟨qPf_b, va_recv hK hP (ci := 5) (q0 := 0) rfl rfl, qPf_p hP hK hD hF hS (g_free hD hS hA)⟩ rfl rfl hl.1 rfl (lv_room (Nat.le_of_ble_eq_true rfl)) d_T_findShortest_47 ⟨Nat.le_of_ble_eq_true rfl, Nat.le_of_ble_eq_true rfl⟩) hD hS hA (fun u9 H locs hr66 hP hD hS => ?_)
      obtain ⟨u67, u68, u69, u70⟩ := u9
      dsimp only at hr66 hP hD
      obtain ⟨q0, q1, q2, q3⟩ := hr66
      replace q0 := q0.symm; subst q0; replace q1 := q1.symm; subst q1; replace q2 := q2.symm; subst q2; replace q3 := q3.symm; subst q3
      have hP : va_P D gC (cX T aa zw kp fp e0 e1 oF oT kt ft 0 fs fc S ++ tl T S) H := hP
      have hD : va_D A (cX T aa zw kp fp e0 e1 oF oT kt ft 0 fs fc S ++ tl T S) := hD
      refine lv_iinc (v := 1) (lv' := [(3, .int 1), (2, .int (c_ce q)), (0, .ref (aa 0)), (1, .ref q.1)]) hx hb d_T_findShortest_50 hl (k := 0) rfl (by decide) (by decide) rfl (fun ls hl => ?_)
      refine lv_goto (tgt := 38) hx hb d_T_findShortest_53 (by decide) ?_
      refine lv_iload_n hx hb d_T_findShortest_38 rfl (lv_at hl 0 rfl) ?_
      refine lv_iconst (v := 2) hx hb d_T_findShortest_39 (by decide) ?_
      refine lv_icmp_gt (tgt := 56) hx hb d_T_findShortest_40 (by decide) (fun c71 => absurd c71 (by decide)) (fun c71 => ?_)
      refine lv_aload_n hx hb d_T_findShortest_43 rfl (lv_at hl 2 rfl) ?_
      refine lv_aload_n hx hb d_T_findShortest_44 rfl (lv_at hl 3 rfl) ?_
      refine lv_iload_n hx hb d_T_findShortest_45 rfl (lv_at hl 1 rfl) ?_
      refine lv_iload_n hx hb d_T_findShortest_46 rfl (lv_at hl 0 rfl) ?_
      refine g_callv (va_runV (As := [.ref q.1, .int (c_ce q), .int 1]) (rest := []) ⟨hx, hb, hml, hown, hw⟩ (k_T_tryCentury_n l D T κ aa zw kp fp e0 e1 oF oT kt ft 0 fs fc S H.size q (c_ce q) 1 hy1 hin) (cwV 3 hw (bg_V ml_T_333 wi_T_tryCentury wv_T_tryCentury wz_T wc_T_tryCentury) rfl rfl rfl (by decide +kernel) ⟨Nat.le_of_ble_eq_true rfl, Nat.le_of_ble_eq_true rfl⟩) ⟨qPf_b, va_recv hK hP (ci := 5) (q0 := 0) rfl rfl, qPf_p hP hK hD hF hS (g_free hD hS hA)⟩ rfl rfl hl.1 rfl (lv_room (Nat.le_of_ble_eq_true rfl)) d_T_findShortest_47 ⟨Nat.le_of_ble_eq_true rfl, Nat.le_of_ble_eq_true rfl⟩) hD hS hA (fun u9 H locs hr72 hP hD hS => ?_)
      obtain ⟨u73, u74, u75, u76⟩ := u9
      dsimp only at hr72 hP hD
      obtain ⟨q0, q1, q2, q3⟩ := hr72
      replace q0 := q0.symm; subst q0; replace q1 := q1.symm; subst q1; replace q2 := q2.symm; subst q2; replace q3 := q3.symm; subst q3
      have hP : va_P D gC (cX T aa zw kp fp e0 e1 oF oT kt ft 0 fs fc S ++ tl T S) H := hP
      have hD : va_D A (cX T aa zw kp fp e0 e1 oF oT kt ft 0 fs fc S ++ tl T S) := hD
      refine lv_iinc (v := 2) (lv' := [(3, .int 2), (2, .int (c_ce q)), (0, .ref (aa 0)), (1, .ref q.1)]) hx hb d_T_findShortest_50 hl (k := 0) rfl (by decide) (by decide) rfl (fun ls hl => ?_)
      refine lv_goto (tgt := 38) hx hb d_T_findShortest_53 (by decide) ?_
      refine lv_iload_n hx hb d_T_findShortest_38 rfl (lv_at hl 0 rfl) ?_
      refine lv_iconst (v := 2) hx hb d_T_findShortest_39 (by decide) ?_
      refine lv_icmp_gt (tgt := 56) hx hb d_T_findShortest_40 (by decide) (fun c77 => absurd c77 (by decide)) (fun c77 => ?_)
      refine lv_aload_n hx hb d_T_findShortest_43 rfl (lv_at hl 2 rfl) ?_
      refine lv_aload_n hx hb d_T_findShortest_44 rfl (lv_at hl 3 rfl) ?_
      refine lv_iload_n hx hb d_T_findShortest_45 rfl (lv_at hl 1 rfl) ?_
      refine lv_iload_n hx hb d_T_findShortest_46 rfl (lv_at hl 0 rfl) ?_
      refine g_callv (va_runV (As := [.ref q.1, .int (c_ce q), .int 2]) (rest := []) ⟨hx, hb, hml, hown, hw⟩ (k_T_tryCentury_n l D T κ aa zw kp fp e0 e1 oF oT kt ft 0 fs fc S H.size q (c_ce q) 2 hy1 hin) (cwV 3 hw (bg_V ml_T_333 wi_T_tryCentury wv_T_tryCentury wz_T wc_T_tryCentury) rfl rfl rfl (by decide +kernel) ⟨Nat.le_of_ble_eq_true rfl, Nat.le_of_ble_eq_true rfl⟩) ⟨qPf_b, va_recv hK hP (ci := 5) (q0 := 0) rfl rfl, qPf_p hP hK hD hF hS (g_free hD hS hA)⟩ rfl rfl hl.1 rfl (lv_room (Nat.le_of_ble_eq_true rfl)) d_T_findShortest_47 ⟨Nat.le_of_ble_eq_true rfl, Nat.le_of_ble_eq_true rfl⟩) hD hS hA (fun u9 H locs hr78 hP hD hS => ?_)
      obtain ⟨u79, u80, u81, u82⟩ := u9
      dsimp only at hr78 hP hD
      obtain ⟨q0, q1, q2, q3⟩ := hr78
      replace q0 := q0.symm; subst q0; replace q1 := q1.symm; subst q1; replace q2 := q2.symm; subst q2; replace q3 := q3.symm; subst q3
      have hP : va_P D gC (cX T aa zw kp fp e0 e1 oF oT kt ft 0 fs fc S ++ tl T S) H := hP
      have hD : va_D A (cX T aa zw kp fp e0 e1 oF oT kt ft 0 fs fc S ++ tl T S) := hD
      refine lv_iinc (v := 3) (lv' := [(3, .int 3), (2, .int (c_ce q)), (0, .ref (aa 0)), (1, .ref q.1)]) hx hb d_T_findShortest_50 hl (k := 0) rfl (by decide) (by decide) rfl (fun ls hl => ?_)
      refine lv_goto (tgt := 38) hx hb d_T_findShortest_53 (by decide) ?_
      refine lv_iload_n hx hb d_T_findShortest_38 rfl (lv_at hl 0 rfl) ?_
      refine lv_iconst (v := 2) hx hb d_T_findShortest_39 (by decide) ?_
      refine lv_icmp_gt (tgt := 56) hx hb d_T_findShortest_40 (by decide) (fun c83 => ?_) (fun c83 => absurd c83 (by decide))
      refine lv_iconst (v := 0) hx hb d_T_findShortest_56 (by decide) ?_
      refine lv_istore_n (lv' := [(3, .int 0), (2, .int (c_ce q)), (0, .ref (aa 0)), (1, .ref q.1)]) hx hb d_T_findShortest_57 rfl hl (by decide) rfl (fun ls hl => ?_)
      have hw4 : j_ls fs 0 = c_w4 zw q := by rw [c_w4, if_neg (by rw [hin]; decide)]; rfl
      exact loop ((S.2.1.length - 0) + 1) 0 e0 e1 oF oT kt ft 0 fs hno (Nat.zero_le _) hw4 (Nat.zero_le _) _ _ hP hD hS ls (lv_sub hl [2, 3, 0] rfl) (Nat.lt_succ_self _)
  · have c15 := b2i_t c15
    refine lv_aload_n hx hb d_T_findShortest_14 rfl (lv_at hl 1 rfl) ?_
    refine va_get (D := D) (ci := 2) (v := .int (b2i q.2.2.2.2)) (C := "TimeWords$Years") (T := F_Y) (N := 4) hx hb hw in_Y hown hK (pc1 (hP.mem (List.mem_append_right _ (tl_sp hy1))) pc0) 0 rfl rfl 3 (by decide) (hw _ fl_T_323) (fun _ h9 => h9) rfl d_T_findShortest_15 ?_
    refine lv_if_eq (tgt := 22) hx hb d_T_findShortest_18 (by decide) (fun c84 => ?_) (fun c84 => ?_)
    · have c84 := b2i_f c84
      have hno : (q.2.2.2.1 && q.2.2.2.2) = false := by simp [c15, c84]
      refine lv_aload_n hx hb d_T_findShortest_22 rfl (lv_at hl 1 rfl) ?_
      have hPc : va_P D gC ([(q.1, .inr (2, [.int q.2.1, .int q.2.2.1, .int (b2i q.2.2.2.1), .int (b2i q.2.2.2.2)]))]) H := (pc1 (hP.mem (List.mem_append_right _ (tl_sp hy1))) pc0)
      refine vp_callSi (va_Run.run (va_runS (As := [.ref q.1]) (rest := []) ⟨hx, hb, hml, hown, hw⟩ (k_T_yearSaid l D T q.1 q.2.1 q.2.2.1 q.2.2.2.1 q.2.2.2.2) (va_cwS 1 hw (bg_S ml_T_326 wt_T_yearSaid wz_T wc_T_yearSaid) rfl rfl rfl (by decide +kernel) ⟨Nat.le_of_ble_eq_true rfl, Nat.le_of_ble_eq_true rfl⟩) ⟨sP_b, sP_p hPc hK⟩ rfl rfl hl.1 rfl (lv_room (Nat.le_of_ble_eq_true rfl)) d_T_findShortest_23 ⟨Nat.le_of_ble_eq_true rfl, Nat.le_of_ble_eq_true rfl⟩)) (fun r85 hr85 => ?_)
      replace hr85 := hr85.symm; subst hr85
      refine lv_iconst (v := 1) hx hb d_T_findShortest_26 (by decide) ?_
      refine lv_isub hx hb d_T_findShortest_27 ?_
      refine lv_bipush (v := 100) hx hb d_T_findShortest_28 (by decide) ?_
      refine vp_callSi (va_Run.run (va_runS (As := [.int ((if q.2.2.2.1 = true then q.2.2.1 + 1 else if q.2.2.2.2 = true then q.2.1 - 1 else q.2.1) - 1), .int 100]) (rest := []) ⟨hx, hb, hml, hown, hw⟩ (k_MA_floorDiv l ((if q.2.2.2.1 = true then q.2.2.1 + 1 else if q.2.2.2.2 = true then q.2.1 - 1 else q.2.1) - 1) 100 (by decide)) (va_cwS 2 hw (bg_S ml_T_330 wt_MA_floorDiv wz_MA wc_MA_floorDiv) rfl rfl rfl (by decide +kernel) ⟨Nat.le_of_ble_eq_true rfl, Nat.le_of_ble_eq_true rfl⟩) ⟨nP_b, nP_p⟩ rfl rfl hl.1 rfl (lv_room (Nat.le_of_ble_eq_true rfl)) d_T_findShortest_30 ⟨Nat.le_of_ble_eq_true rfl, Nat.le_of_ble_eq_true rfl⟩)) (fun r86 hr86 => ?_)
      replace hr86 := hr86.symm; subst hr86
      refine lv_iconst (v := 1) hx hb d_T_findShortest_33 (by decide) ?_
      refine lv_iadd hx hb d_T_findShortest_34 ?_
      rw [show (c_fd ((if q.2.2.2.1 = true then q.2.2.1 + 1 else if q.2.2.2.2 = true then q.2.1 - 1 else q.2.1) - 1) 100) + 1 = c_ce q from rfl]
      rcases Bool.eq_false_or_eq_true (j_in (c_ce q) 1 99) with hin | hin
      · obtain ⟨cn, hc1, hc2, hc3⟩ := ce_nat hin
        rw [hc3]
        refine lv_istore_n (lv' := [(2, .int (nI cn)), (0, .ref (aa 0)), (1, .ref q.1)]) hx hb d_T_findShortest_35 rfl hl (by decide) rfl (fun ls hl => ?_)
        refine lv_iconst (v := (-1)) hx hb d_T_findShortest_36 (by decide) ?_
        refine lv_istore_n (lv' := [(3, .int (-1)), (2, .int (nI cn)), (0, .ref (aa 0)), (1, .ref q.1)]) hx hb d_T_findShortest_37 rfl hl (by decide) rfl (fun ls hl => ?_)
        refine lv_iload_n hx hb d_T_findShortest_38 rfl (lv_at hl 0 rfl) ?_
        refine lv_iconst (v := 2) hx hb d_T_findShortest_39 (by decide) ?_
        refine lv_icmp_gt (tgt := 56) hx hb d_T_findShortest_40 (by decide) (fun c87 => absurd c87 (by decide)) (fun c87 => ?_)
        refine lv_aload_n hx hb d_T_findShortest_43 rfl (lv_at hl 2 rfl) ?_
        refine lv_aload_n hx hb d_T_findShortest_44 rfl (lv_at hl 3 rfl) ?_
        refine lv_iload_n hx hb d_T_findShortest_45 rfl (lv_at hl 1 rfl) ?_
        refine lv_iload_n hx hb d_T_findShortest_46 rfl (lv_at hl 0 rfl) ?_
        refine g_callv (va_runV (As := [.ref q.1, .int (nI cn), .int (-1)]) (rest := []) ⟨hx, hb, hml, hown, hw⟩ (k_T_tryCentury_w l D T κ aa zw kp fp e0 e1 oF oT kt ft 0 fs fc S H.size q cn hy1 hc1 hc2 (Nat.zero_le _)) (cwV 3 hw (bg_V ml_T_333 wi_T_tryCentury wv_T_tryCentury wz_T wc_T_tryCentury) rfl rfl rfl (by decide +kernel) ⟨Nat.le_of_ble_eq_true rfl, Nat.le_of_ble_eq_true rfl⟩) ⟨qPf_b, va_recv hK hP (ci := 5) (q0 := 0) rfl rfl, qPf_p hP hK hD hF hS (g_free hD hS hA)⟩ rfl rfl hl.1 rfl (lv_room (Nat.le_of_ble_eq_true rfl)) d_T_findShortest_47 ⟨Nat.le_of_ble_eq_true rfl, Nat.le_of_ble_eq_true rfl⟩) hD hS hA (fun u9 H locs hr88 hP hD hS => ?_)
        obtain ⟨u89, u90, u91, u92, u93, u94, u95, u96⟩ := u9
        dsimp only at hr88 hP hD
        have hP : va_P D gC (cX T aa zw kp fp u89 u90 u91 u92 u93 u94 u95 u96 fc S ++ tl T S) H := hP
        have hD : va_D A (cX T aa zw kp fp u89 u90 u91 u92 u93 u94 u95 u96 fc S ++ tl T S) := hD
        refine lv_iinc (v := 0) (lv' := [(3, .int 0), (2, .int (nI cn)), (0, .ref (aa 0)), (1, .ref q.1)]) hx hb d_T_findShortest_50 hl (k := 0) rfl (by decide) (by decide) rfl (fun ls hl => ?_)
        refine lv_goto (tgt := 38) hx hb d_T_findShortest_53 (by decide) ?_
        refine lv_iload_n hx hb d_T_findShortest_38 rfl (lv_at hl 0 rfl) ?_
        refine lv_iconst (v := 2) hx hb d_T_findShortest_39 (by decide) ?_
        refine lv_icmp_gt (tgt := 56) hx hb d_T_findShortest_40 (by decide) (fun c97 => absurd c97 (by decide)) (fun c97 => ?_)
        refine lv_aload_n hx hb d_T_findShortest_43 rfl (lv_at hl 2 rfl) ?_
        refine lv_aload_n hx hb d_T_findShortest_44 rfl (lv_at hl 3 rfl) ?_
        refine lv_iload_n hx hb d_T_findShortest_45 rfl (lv_at hl 1 rfl) ?_
        refine lv_iload_n hx hb d_T_findShortest_46 rfl (lv_at hl 0 rfl) ?_
        refine g_callv (va_runV (As := [.ref q.1, .int (nI cn), .int 0]) (rest := []) ⟨hx, hb, hml, hown, hw⟩ (k_T_tryCentury_0 l D T κ aa zw kp fp u89 u90 u91 u92 u93 u94 u95 u96 fc S H.size q cn hy1 hc1 hc2 hr88.2) (cwV 3 hw (bg_V ml_T_333 wi_T_tryCentury wv_T_tryCentury wz_T wc_T_tryCentury) rfl rfl rfl (by decide +kernel) ⟨Nat.le_of_ble_eq_true rfl, Nat.le_of_ble_eq_true rfl⟩) ⟨qPf_b, va_recv hK hP (ci := 5) (q0 := 0) rfl rfl, qPf_p hP hK hD hF hS (g_free hD hS hA)⟩ rfl rfl hl.1 rfl (lv_room (Nat.le_of_ble_eq_true rfl)) d_T_findShortest_47 ⟨Nat.le_of_ble_eq_true rfl, Nat.le_of_ble_eq_true rfl⟩) hD hS hA (fun u9 H locs hr98 hP hD hS => ?_)
        obtain ⟨u99, u100, u101, u102, u103, u104, u105, u106⟩ := u9
        dsimp only at hr98 hP hD
        have hP : va_P D gC (cX T aa zw kp fp u99 u100 u101 u102 u103 u104 u105 u106 fc S ++ tl T S) H := hP
        have hD : va_D A (cX T aa zw kp fp u99 u100 u101 u102 u103 u104 u105 u106 fc S ++ tl T S) := hD
        refine lv_iinc (v := 1) (lv' := [(3, .int 1), (2, .int (nI cn)), (0, .ref (aa 0)), (1, .ref q.1)]) hx hb d_T_findShortest_50 hl (k := 0) rfl (by decide) (by decide) rfl (fun ls hl => ?_)
        refine lv_goto (tgt := 38) hx hb d_T_findShortest_53 (by decide) ?_
        refine lv_iload_n hx hb d_T_findShortest_38 rfl (lv_at hl 0 rfl) ?_
        refine lv_iconst (v := 2) hx hb d_T_findShortest_39 (by decide) ?_
        refine lv_icmp_gt (tgt := 56) hx hb d_T_findShortest_40 (by decide) (fun c107 => absurd c107 (by decide)) (fun c107 => ?_)
        refine lv_aload_n hx hb d_T_findShortest_43 rfl (lv_at hl 2 rfl) ?_
        refine lv_aload_n hx hb d_T_findShortest_44 rfl (lv_at hl 3 rfl) ?_
        refine lv_iload_n hx hb d_T_findShortest_45 rfl (lv_at hl 1 rfl) ?_
        refine lv_iload_n hx hb d_T_findShortest_46 rfl (lv_at hl 0 rfl) ?_
        refine g_callv (va_runV (As := [.ref q.1, .int (nI cn), .int 1]) (rest := []) ⟨hx, hb, hml, hown, hw⟩ (k_T_tryCentury_1 l D T κ aa zw kp fp u99 u100 u101 u102 u103 u104 u105 u106 fc S H.size q cn hy1 hc1 hc2 hr98.2) (cwV 3 hw (bg_V ml_T_333 wi_T_tryCentury wv_T_tryCentury wz_T wc_T_tryCentury) rfl rfl rfl (by decide +kernel) ⟨Nat.le_of_ble_eq_true rfl, Nat.le_of_ble_eq_true rfl⟩) ⟨qPf_b, va_recv hK hP (ci := 5) (q0 := 0) rfl rfl, qPf_p hP hK hD hF hS (g_free hD hS hA)⟩ rfl rfl hl.1 rfl (lv_room (Nat.le_of_ble_eq_true rfl)) d_T_findShortest_47 ⟨Nat.le_of_ble_eq_true rfl, Nat.le_of_ble_eq_true rfl⟩) hD hS hA (fun u9 H locs hr108 hP hD hS => ?_)
        obtain ⟨u109, u110, u111, u112, u113, u114, u115, u116⟩ := u9
        dsimp only at hr108 hP hD
        have hP : va_P D gC (cX T aa zw kp fp u109 u110 u111 u112 u113 u114 u115 u116 fc S ++ tl T S) H := hP
        have hD : va_D A (cX T aa zw kp fp u109 u110 u111 u112 u113 u114 u115 u116 fc S ++ tl T S) := hD
        refine lv_iinc (v := 2) (lv' := [(3, .int 2), (2, .int (nI cn)), (0, .ref (aa 0)), (1, .ref q.1)]) hx hb d_T_findShortest_50 hl (k := 0) rfl (by decide) (by decide) rfl (fun ls hl => ?_)
        refine lv_goto (tgt := 38) hx hb d_T_findShortest_53 (by decide) ?_
        refine lv_iload_n hx hb d_T_findShortest_38 rfl (lv_at hl 0 rfl) ?_
        refine lv_iconst (v := 2) hx hb d_T_findShortest_39 (by decide) ?_
        refine lv_icmp_gt (tgt := 56) hx hb d_T_findShortest_40 (by decide) (fun c117 => absurd c117 (by decide)) (fun c117 => ?_)
        refine lv_aload_n hx hb d_T_findShortest_43 rfl (lv_at hl 2 rfl) ?_
        refine lv_aload_n hx hb d_T_findShortest_44 rfl (lv_at hl 3 rfl) ?_
        refine lv_iload_n hx hb d_T_findShortest_45 rfl (lv_at hl 1 rfl) ?_
        refine lv_iload_n hx hb d_T_findShortest_46 rfl (lv_at hl 0 rfl) ?_
        refine g_callv (va_runV (As := [.ref q.1, .int (nI cn), .int 2]) (rest := []) ⟨hx, hb, hml, hown, hw⟩ (k_T_tryCentury_2 l D T κ aa zw kp fp u109 u110 u111 u112 u113 u114 u115 u116 fc S H.size q cn hy1 hc1 hc2 hr108.2) (cwV 3 hw (bg_V ml_T_333 wi_T_tryCentury wv_T_tryCentury wz_T wc_T_tryCentury) rfl rfl rfl (by decide +kernel) ⟨Nat.le_of_ble_eq_true rfl, Nat.le_of_ble_eq_true rfl⟩) ⟨qPf_b, va_recv hK hP (ci := 5) (q0 := 0) rfl rfl, qPf_p hP hK hD hF hS (g_free hD hS hA)⟩ rfl rfl hl.1 rfl (lv_room (Nat.le_of_ble_eq_true rfl)) d_T_findShortest_47 ⟨Nat.le_of_ble_eq_true rfl, Nat.le_of_ble_eq_true rfl⟩) hD hS hA (fun u9 H locs hr118 hP hD hS => ?_)
        obtain ⟨u119, u120, u121, u122, u123, u124, u125, u126⟩ := u9
        dsimp only at hr118 hP hD
        have hP : va_P D gC (cX T aa zw kp fp u119 u120 u121 u122 u123 u124 u125 u126 fc S ++ tl T S) H := hP
        have hD : va_D A (cX T aa zw kp fp u119 u120 u121 u122 u123 u124 u125 u126 fc S ++ tl T S) := hD
        refine lv_iinc (v := 3) (lv' := [(3, .int 3), (2, .int (nI cn)), (0, .ref (aa 0)), (1, .ref q.1)]) hx hb d_T_findShortest_50 hl (k := 0) rfl (by decide) (by decide) rfl (fun ls hl => ?_)
        refine lv_goto (tgt := 38) hx hb d_T_findShortest_53 (by decide) ?_
        refine lv_iload_n hx hb d_T_findShortest_38 rfl (lv_at hl 0 rfl) ?_
        refine lv_iconst (v := 2) hx hb d_T_findShortest_39 (by decide) ?_
        refine lv_icmp_gt (tgt := 56) hx hb d_T_findShortest_40 (by decide) (fun c127 => ?_) (fun c127 => absurd c127 (by decide))
        refine lv_iconst (v := 0) hx hb d_T_findShortest_56 (by decide) ?_
        refine lv_istore_n (lv' := [(3, .int 0), (2, .int (nI cn)), (0, .ref (aa 0)), (1, .ref q.1)]) hx hb d_T_findShortest_57 rfl hl (by decide) rfl (fun ls hl => ?_)
        have hw4 : j_ls u126 u125 = c_w4 zw q := by rw [hr118.1, hr108.1, hr98.1, hr88.1, c_w4, if_pos hin, hc3, nI_clamp (by omega)]; rfl
        exact loop ((S.2.1.length - 0) + 1) 0 u119 u120 u121 u122 u123 u124 u125 u126 hno (Nat.zero_le _) hw4 hr118.2 _ _ hP hD hS ls (lv_sub hl [2, 3, 0] rfl) (Nat.lt_succ_self _)
      · refine lv_istore_n (lv' := [(2, .int (c_ce q)), (0, .ref (aa 0)), (1, .ref q.1)]) hx hb d_T_findShortest_35 rfl hl (by decide) rfl (fun ls hl => ?_)
        refine lv_iconst (v := (-1)) hx hb d_T_findShortest_36 (by decide) ?_
        refine lv_istore_n (lv' := [(3, .int (-1)), (2, .int (c_ce q)), (0, .ref (aa 0)), (1, .ref q.1)]) hx hb d_T_findShortest_37 rfl hl (by decide) rfl (fun ls hl => ?_)
        refine lv_iload_n hx hb d_T_findShortest_38 rfl (lv_at hl 0 rfl) ?_
        refine lv_iconst (v := 2) hx hb d_T_findShortest_39 (by decide) ?_
        refine lv_icmp_gt (tgt := 56) hx hb d_T_findShortest_40 (by decide) (fun c128 => absurd c128 (by decide)) (fun c128 => ?_)
        refine lv_aload_n hx hb d_T_findShortest_43 rfl (lv_at hl 2 rfl) ?_
        refine lv_aload_n hx hb d_T_findShortest_44 rfl (lv_at hl 3 rfl) ?_
        refine lv_iload_n hx hb d_T_findShortest_45 rfl (lv_at hl 1 rfl) ?_
        refine lv_iload_n hx hb d_T_findShortest_46 rfl (lv_at hl 0 rfl) ?_
        refine g_callv (va_runV (As := [.ref q.1, .int (c_ce q), .int (-1)]) (rest := []) ⟨hx, hb, hml, hown, hw⟩ (k_T_tryCentury_n l D T κ aa zw kp fp e0 e1 oF oT kt ft 0 fs fc S H.size q (c_ce q) (-1) hy1 hin) (cwV 3 hw (bg_V ml_T_333 wi_T_tryCentury wv_T_tryCentury wz_T wc_T_tryCentury) rfl rfl rfl (by decide +kernel) ⟨Nat.le_of_ble_eq_true rfl, Nat.le_of_ble_eq_true rfl⟩) ⟨qPf_b, va_recv hK hP (ci := 5) (q0 := 0) rfl rfl, qPf_p hP hK hD hF hS (g_free hD hS hA)⟩ rfl rfl hl.1 rfl (lv_room (Nat.le_of_ble_eq_true rfl)) d_T_findShortest_47 ⟨Nat.le_of_ble_eq_true rfl, Nat.le_of_ble_eq_true rfl⟩) hD hS hA (fun u9 H locs hr129 hP hD hS => ?_)
        obtain ⟨u130, u131, u132, u133⟩ := u9
        dsimp only at hr129 hP hD
        obtain ⟨q0, q1, q2, q3⟩ := hr129
        replace q0 := q0.symm; subst q0; replace q1 := q1.symm; subst q1; replace q2 := q2.symm; subst q2; replace q3 := q3.symm; subst q3
        have hP : va_P D gC (cX T aa zw kp fp e0 e1 oF oT kt ft 0 fs fc S ++ tl T S) H := hP
        have hD : va_D A (cX T aa zw kp fp e0 e1 oF oT kt ft 0 fs fc S ++ tl T S) := hD
        refine lv_iinc (v := 0) (lv' := [(3, .int 0), (2, .int (c_ce q)), (0, .ref (aa 0)), (1, .ref q.1)]) hx hb d_T_findShortest_50 hl (k := 0) rfl (by decide) (by decide) rfl (fun ls hl => ?_)
        refine lv_goto (tgt := 38) hx hb d_T_findShortest_53 (by decide) ?_
        refine lv_iload_n hx hb d_T_findShortest_38 rfl (lv_at hl 0 rfl) ?_
        refine lv_iconst (v := 2) hx hb d_T_findShortest_39 (by decide) ?_
        refine lv_icmp_gt (tgt := 56) hx hb d_T_findShortest_40 (by decide) (fun c134 => absurd c134 (by decide)) (fun c134 => ?_)
        refine lv_aload_n hx hb d_T_findShortest_43 rfl (lv_at hl 2 rfl) ?_
        refine lv_aload_n hx hb d_T_findShortest_44 rfl (lv_at hl 3 rfl) ?_
        refine lv_iload_n hx hb d_T_findShortest_45 rfl (lv_at hl 1 rfl) ?_
        refine lv_iload_n hx hb d_T_findShortest_46 rfl (lv_at hl 0 rfl) ?_
        refine g_callv (va_runV (As := [.ref q.1, .int (c_ce q), .int 0]) (rest := []) ⟨hx, hb, hml, hown, hw⟩ (k_T_tryCentury_n l D T κ aa zw kp fp e0 e1 oF oT kt ft 0 fs fc S H.size q (c_ce q) 0 hy1 hin) (cwV 3 hw (bg_V ml_T_333 wi_T_tryCentury wv_T_tryCentury wz_T wc_T_tryCentury) rfl rfl rfl (by decide +kernel) ⟨Nat.le_of_ble_eq_true rfl, Nat.le_of_ble_eq_true rfl⟩) ⟨qPf_b, va_recv hK hP (ci := 5) (q0 := 0) rfl rfl, qPf_p hP hK hD hF hS (g_free hD hS hA)⟩ rfl rfl hl.1 rfl (lv_room (Nat.le_of_ble_eq_true rfl)) d_T_findShortest_47 ⟨Nat.le_of_ble_eq_true rfl, Nat.le_of_ble_eq_true rfl⟩) hD hS hA (fun u9 H locs hr135 hP hD hS => ?_)
        obtain ⟨u136, u137, u138, u139⟩ := u9
        dsimp only at hr135 hP hD
        obtain ⟨q0, q1, q2, q3⟩ := hr135
        replace q0 := q0.symm; subst q0; replace q1 := q1.symm; subst q1; replace q2 := q2.symm; subst q2; replace q3 := q3.symm; subst q3
        have hP : va_P D gC (cX T aa zw kp fp e0 e1 oF oT kt ft 0 fs fc S ++ tl T S) H := hP
        have hD : va_D A (cX T aa zw kp fp e0 e1 oF oT kt ft 0 fs fc S ++ tl T S) := hD
        refine lv_iinc (v := 1) (lv' := [(3, .int 1), (2, .int (c_ce q)), (0, .ref (aa 0)), (1, .ref q.1)]) hx hb d_T_findShortest_50 hl (k := 0) rfl (by decide) (by decide) rfl (fun ls hl => ?_)
        refine lv_goto (tgt := 38) hx hb d_T_findShortest_53 (by decide) ?_
        refine lv_iload_n hx hb d_T_findShortest_38 rfl (lv_at hl 0 rfl) ?_
        refine lv_iconst (v := 2) hx hb d_T_findShortest_39 (by decide) ?_
        refine lv_icmp_gt (tgt := 56) hx hb d_T_findShortest_40 (by decide) (fun c140 => absurd c140 (by decide)) (fun c140 => ?_)
        refine lv_aload_n hx hb d_T_findShortest_43 rfl (lv_at hl 2 rfl) ?_
        refine lv_aload_n hx hb d_T_findShortest_44 rfl (lv_at hl 3 rfl) ?_
        refine lv_iload_n hx hb d_T_findShortest_45 rfl (lv_at hl 1 rfl) ?_
        refine lv_iload_n hx hb d_T_findShortest_46 rfl (lv_at hl 0 rfl) ?_
        refine g_callv (va_runV (As := [.ref q.1, .int (c_ce q), .int 1]) (rest := []) ⟨hx, hb, hml, hown, hw⟩ (k_T_tryCentury_n l D T κ aa zw kp fp e0 e1 oF oT kt ft 0 fs fc S H.size q (c_ce q) 1 hy1 hin) (cwV 3 hw (bg_V ml_T_333 wi_T_tryCentury wv_T_tryCentury wz_T wc_T_tryCentury) rfl rfl rfl (by decide +kernel) ⟨Nat.le_of_ble_eq_true rfl, Nat.le_of_ble_eq_true rfl⟩) ⟨qPf_b, va_recv hK hP (ci := 5) (q0 := 0) rfl rfl, qPf_p hP hK hD hF hS (g_free hD hS hA)⟩ rfl rfl hl.1 rfl (lv_room (Nat.le_of_ble_eq_true rfl)) d_T_findShortest_47 ⟨Nat.le_of_ble_eq_true rfl, Nat.le_of_ble_eq_true rfl⟩) hD hS hA (fun u9 H locs hr141 hP hD hS => ?_)
        obtain ⟨u142, u143, u144, u145⟩ := u9
        dsimp only at hr141 hP hD
        obtain ⟨q0, q1, q2, q3⟩ := hr141
        replace q0 := q0.symm; subst q0; replace q1 := q1.symm; subst q1; replace q2 := q2.symm; subst q2; replace q3 := q3.symm; subst q3
        have hP : va_P D gC (cX T aa zw kp fp e0 e1 oF oT kt ft 0 fs fc S ++ tl T S) H := hP
        have hD : va_D A (cX T aa zw kp fp e0 e1 oF oT kt ft 0 fs fc S ++ tl T S) := hD
        refine lv_iinc (v := 2) (lv' := [(3, .int 2), (2, .int (c_ce q)), (0, .ref (aa 0)), (1, .ref q.1)]) hx hb d_T_findShortest_50 hl (k := 0) rfl (by decide) (by decide) rfl (fun ls hl => ?_)
        refine lv_goto (tgt := 38) hx hb d_T_findShortest_53 (by decide) ?_
        refine lv_iload_n hx hb d_T_findShortest_38 rfl (lv_at hl 0 rfl) ?_
        refine lv_iconst (v := 2) hx hb d_T_findShortest_39 (by decide) ?_
        refine lv_icmp_gt (tgt := 56) hx hb d_T_findShortest_40 (by decide) (fun c146 => absurd c146 (by decide)) (fun c146 => ?_)
        refine lv_aload_n hx hb d_T_findShortest_43 rfl (lv_at hl 2 rfl) ?_
        refine lv_aload_n hx hb d_T_findShortest_44 rfl (lv_at hl 3 rfl) ?_
        refine lv_iload_n hx hb d_T_findShortest_45 rfl (lv_at hl 1 rfl) ?_
        refine lv_iload_n hx hb d_T_findShortest_46 rfl (lv_at hl 0 rfl) ?_
        refine g_callv (va_runV (As := [.ref q.1, .int (c_ce q), .int 2]) (rest := []) ⟨hx, hb, hml, hown, hw⟩ (k_T_tryCentury_n l D T κ aa zw kp fp e0 e1 oF oT kt ft 0 fs fc S H.size q (c_ce q) 2 hy1 hin) (cwV 3 hw (bg_V ml_T_333 wi_T_tryCentury wv_T_tryCentury wz_T wc_T_tryCentury) rfl rfl rfl (by decide +kernel) ⟨Nat.le_of_ble_eq_true rfl, Nat.le_of_ble_eq_true rfl⟩) ⟨qPf_b, va_recv hK hP (ci := 5) (q0 := 0) rfl rfl, qPf_p hP hK hD hF hS (g_free hD hS hA)⟩ rfl rfl hl.1 rfl (lv_room (Nat.le_of_ble_eq_true rfl)) d_T_findShortest_47 ⟨Nat.le_of_ble_eq_true rfl, Nat.le_of_ble_eq_true rfl⟩) hD hS hA (fun u9 H locs hr147 hP hD hS => ?_)
        obtain ⟨u148, u149, u150, u151⟩ := u9
        dsimp only at hr147 hP hD
        obtain ⟨q0, q1, q2, q3⟩ := hr147
        replace q0 := q0.symm; subst q0; replace q1 := q1.symm; subst q1; replace q2 := q2.symm; subst q2; replace q3 := q3.symm; subst q3
        have hP : va_P D gC (cX T aa zw kp fp e0 e1 oF oT kt ft 0 fs fc S ++ tl T S) H := hP
        have hD : va_D A (cX T aa zw kp fp e0 e1 oF oT kt ft 0 fs fc S ++ tl T S) := hD
        refine lv_iinc (v := 3) (lv' := [(3, .int 3), (2, .int (c_ce q)), (0, .ref (aa 0)), (1, .ref q.1)]) hx hb d_T_findShortest_50 hl (k := 0) rfl (by decide) (by decide) rfl (fun ls hl => ?_)
        refine lv_goto (tgt := 38) hx hb d_T_findShortest_53 (by decide) ?_
        refine lv_iload_n hx hb d_T_findShortest_38 rfl (lv_at hl 0 rfl) ?_
        refine lv_iconst (v := 2) hx hb d_T_findShortest_39 (by decide) ?_
        refine lv_icmp_gt (tgt := 56) hx hb d_T_findShortest_40 (by decide) (fun c152 => ?_) (fun c152 => absurd c152 (by decide))
        refine lv_iconst (v := 0) hx hb d_T_findShortest_56 (by decide) ?_
        refine lv_istore_n (lv' := [(3, .int 0), (2, .int (c_ce q)), (0, .ref (aa 0)), (1, .ref q.1)]) hx hb d_T_findShortest_57 rfl hl (by decide) rfl (fun ls hl => ?_)
        have hw4 : j_ls fs 0 = c_w4 zw q := by rw [c_w4, if_neg (by rw [hin]; decide)]; rfl
        exact loop ((S.2.1.length - 0) + 1) 0 e0 e1 oF oT kt ft 0 fs hno (Nat.zero_le _) hw4 (Nat.zero_le _) _ _ hP hD hS ls (lv_sub hl [2, 3, 0] rfl) (Nat.lt_succ_self _)
    · have c84 := b2i_t c84
      exact W.vret hx hb hr (fun t ht hW => ⟨⟨(e0, e1, oF, oT, kt, ft, 0, fs), rfl, ⟨by rw [c_wl, if_pos (by rw [c15, c84]; rfl)]; rfl, Nat.zero_le _⟩, by rw [ht]; exact hP, va_K.moved hW.alike hK, hD⟩, hS.F ht⟩) hS.2.2 d_T_findShortest_21

set_option maxHeartbeats 4000000 in
set_option maxRecDepth 100000 in
theorem k_T_word (l : Launch) (D : va_G) (T : gT) (κ : gS) (aa : Nat → Nat) (zw : Int32) (kp : Nat) (fp : Nat → Int32) (e0 e1 : Int32) (oF oT : Bool) (kt : Nat) (ft : Nat → Int32) (ks : Nat) (fs fc : Nat → Int32) (S : tS) (sz : Nat) (j : Nat) (q : spD) (hy0 : tOk κ S) (hy1 : S.2.2.2[j]? = some q) : Met l y_T_word (Cond.code y_T_word b_T_word 3 (some .int) :: bg_W) ({ frames := 8, cells := 0, slots := 0, locals := 175 }) (qPf κ D T (cX T aa zw kp fp e0 e1 oF oT kt ft ks fs fc S ++ tl T S) [.ref (aa 0), .int (nI j), .int (-1)] sz) (va_Qi (fun (r : Int32) (u : Int32 × Int32 × Bool × Bool × Nat × (Nat → Int32) × Nat × (Nat → Int32)) => match u with | (w0, w1, v2, v3, kt1, ft1, ks1, fs1) => r = (if (c_wl zw q S).length = 0 then -1 else nI (c_wl zw q S).length)) (qB D T (va_A (cX T aa zw kp fp e0 e1 oF oT kt ft ks fs fc S ++ tl T S) sz) (fun u : Int32 × Int32 × Bool × Bool × Nat × (Nat → Int32) × Nat × (Nat → Int32) => match u with | (w0, w1, v2, v3, kt1, ft1, ks1, fs1) => cX T aa zw kp fp w0 w1 v2 v3 kt1 ft1 ks1 fs1 fc S ++ tl T S)) (va_A (cX T aa zw kp fp e0 e1 oF oT kt ft ks fs fc S ++ tl T S) sz)) 0 0 (va_A (cX T aa zw kp fp e0 e1 oF oT kt ft ks fs fc S ++ tl T S) sz) := by
  refine Met.ofW (cc := b_T_word) (maxL := 3) (ret := (some .int)) (by decide) rfl ?_
  intro p e s m args below meth c s₁ B hml hv
  obtain ⟨rfl, hsz, hP, hK, hD0, hF⟩ := hv
  have hx := B.exec
  have hb := B.bytes
  have hr := B.returns
  have hw : ∀ w ∈ bg_W, w.before ([.ref (aa 0), .int (nI j), .int (-1)] : List Value).toArray s = true := fun w h => atoms_spec (ws := (Cond.code y_T_word b_T_word 3 (some .int) :: bg_W)) B.pre w (List.mem_cons_of_mem _ h)
  have hown : s.vm.findClass "TimeWords" = some m.cls := findClass_of_methodNamed B.named
  have hlocks := B.notSynchronized
  subst hsz
  have hD := hD0.self (sz := s.heap.size)
  generalize hAe : va_A (cX T aa zw kp fp e0 e1 oF oT kt ft ks fs fc S ++ tl T S) s.heap.size = A at hD hF ⊢
  have hA : ∀ q : Nat, s.heap.size ≤ q → A q := fun q h => by rw [← hAe]; exact Or.inr h
  have hS : va_S A s.heap s.heap [] := va_S.rf
  have hl := lv_entry ([.ref (aa 0), .int (nI j), .int (-1)]) (n := 3) (Nat.le_of_ble_eq_true rfl)
  rw [lg_entry_eq]
  generalize (lg_sl ([.ref (aa 0), .int (nI j), .int (-1)]) ++ List.replicate (3 - (lg_sl ([.ref (aa 0), .int (nI j), .int (-1)])).length) Slot.unset).toArray = ls at hl ⊢
  have hl : lv_has ls 3 [(0, .ref (aa 0)), (1, .int (nI j)), (2, .int (-1))] := hl
  have hL1 : S.2.1.length ≤ 24 := hy0.2.2.2.1
  have hL2 : S.2.2.2.length ≤ 60 := hy0.2.2.2.2
  obtain ⟨hs1, hs2, hs3, hs4, hs5⟩ := sp_at hy0 hy1
  refine lv_aload_n hx hb d_T_word_0 rfl (lv_at hl 0 rfl) ?_
  refine lv_aload_n hx hb d_T_word_1 rfl (lv_at hl 0 rfl) ?_
  refine lv_iload_n hx hb d_T_word_2 rfl (lv_at hl 1 rfl) ?_
  refine va_csq (va_Run.run (va_runV (As := [.int (nI j)]) (rest := [.ref (aa 0)]) ⟨hx, hb, hml, hown, hw⟩ (k_T_spanNumbered l D T κ A aa zw kp fp e0 e1 oF oT kt ft ks fs fc S j q hy0 hy1) (cwV 1 hw (bg_V ml_T_141 wi_T_spanNumbered wv_T_spanNumbered wz_T wc_T_spanNumbered) rfl rfl rfl (by decide +kernel) ⟨Nat.le_of_ble_eq_true rfl, Nat.le_of_ble_eq_true rfl⟩) ⟨sPf_b, va_recv hK hP (ci := 5) (q0 := 0) rfl rfl, sPf_p hP hK hF hS⟩ rfl rfl hl.1 rfl (lv_room (Nat.le_of_ble_eq_true rfl)) d_T_word_3 ⟨Nat.le_of_ble_eq_true rfl, Nat.le_of_ble_eq_true rfl⟩)) (fun r1 hr1 => ?_)
  replace hr1 := hr1.symm; subst hr1
  refine W.eq (g2 := F0 m 6 ls [.ref q.1, .ref (aa 0)]) rfl ?_
  refine g_callv (va_runV (As := [.ref q.1]) (rest := []) ⟨hx, hb, hml, hown, hw⟩ (k_T_findShortest l D T κ aa zw kp fp e0 e1 oF oT kt ft ks fs fc S s.heap.size q hy0 hs5) (cwV 1 hw (bg_V ml_T_181 wi_T_findShortest wv_T_findShortest wz_T wc_T_findShortest) rfl rfl rfl (by decide +kernel) ⟨Nat.le_of_ble_eq_true rfl, Nat.le_of_ble_eq_true rfl⟩) ⟨qPf_b, va_recv hK hP (ci := 5) (q0 := 0) rfl rfl, qPf_p hP hK hD hF hS (g_free hD hS hA)⟩ rfl rfl hl.1 rfl (lv_room (Nat.le_of_ble_eq_true rfl)) d_T_word_6 ⟨Nat.le_of_ble_eq_true rfl, Nat.le_of_ble_eq_true rfl⟩) hD hS hA (fun u9 H locs hr2 hP hD hS => ?_)
  obtain ⟨u3, u4, u5, u6, u7, u8, u9, u10⟩ := u9
  dsimp only at hr2 hP hD
  have hP : va_P D gC (cX T aa zw kp fp u3 u4 u5 u6 u7 u8 u9 u10 fc S ++ tl T S) H := hP
  have hD : va_D A (cX T aa zw kp fp u3 u4 u5 u6 u7 u8 u9 u10 fc S ++ tl T S) := hD
  obtain ⟨ha1, ha2⟩ := hr2
  have ha3 : (c_wl zw q S).length = u9 := by rw [← ha1, ls_len]
  refine lv_iload_n hx hb d_T_word_9 rfl (lv_at hl 2 rfl) ?_
  refine lv_iconst (v := (-1)) hx hb d_T_word_10 (by decide) ?_
  refine lv_icmp_ne (tgt := 36) hx hb d_T_word_11 (by decide) (fun c11 => absurd c11 (by decide)) (fun c11 => ?_)
  refine lv_aload_n hx hb d_T_word_14 rfl (lv_at hl 0 rfl) ?_
  refine va_get (D := D) (ci := 5) (v := .ref (aa 6)) (C := "TimeWords") (T := F_T) (N := 8) hx hb hw in_T hown hK hP 0 rfl rfl 6 (by decide) (hw _ fl_T_44) (fun _ h9 => h9) rfl d_T_word_15 ?_
  refine va_get (D := D) (ci := 1) (v := .int (nI u9)) (C := "TimeWords$Row") (T := F_R) (N := 2) hx hb hw in_R hown hK hP 6 rfl rfl 1 (by decide) (hw _ fl_T_62) (fun _ h9 => h9) rfl d_T_word_18 ?_
  refine lv_if_ne (tgt := 28) hx hb d_T_word_21 (by decide) (fun c12 => ?_) (fun c12 => ?_)
  · have c12 := nc_ne (a := u9) (b := 0) c12 (by omega) (by omega)
    refine lv_aload_n hx hb d_T_word_28 rfl (lv_at hl 0 rfl) ?_
    refine va_get (D := D) (ci := 5) (v := .ref (aa 6)) (C := "TimeWords") (T := F_T) (N := 8) hx hb hw in_T hown hK hP 0 rfl rfl 6 (by decide) (hw _ fl_T_44) (fun _ h9 => h9) rfl d_T_word_29 ?_
    refine va_get (D := D) (ci := 1) (v := .int (nI u9)) (C := "TimeWords$Row") (T := F_R) (N := 2) hx hb hw in_R hown hK hP 6 rfl rfl 1 (by decide) (hw _ fl_T_62) (fun _ h9 => h9) rfl d_T_word_32 ?_
    exact W.iret (v := nI u9) hx hb hr (fun t ht hW => ⟨⟨nI u9, (u3, u4, u5, u6, u7, u8, u9, u10), rfl, (by rw [ha3, if_neg c12]), by rw [ht]; exact hP, va_K.moved hW.alike hK, hD⟩, hS.F ht⟩) hS.2.2 d_T_word_35
  · have c12 := nc_eq (a := u9) (b := 0) c12 (by omega) (by omega)
    refine lv_iconst (v := (-1)) hx hb d_T_word_24 (by decide) ?_
    refine lv_goto (tgt := 35) hx hb d_T_word_25 (by decide) ?_
    exact W.iret (v := (-1)) hx hb hr (fun t ht hW => ⟨⟨(-1), (u3, u4, u5, u6, u7, u8, u9, u10), rfl, (by rw [ha3, if_pos c12]), by rw [ht]; exact hP, va_K.moved hW.alike hK, hD⟩, hS.F ht⟩) hS.2.2 d_T_word_35

set_option maxHeartbeats 4000000 in
set_option maxRecDepth 100000 in
theorem k_T_word_k (l : Launch) (D : va_G) (T : gT) (κ : gS) (aa : Nat → Nat) (zw : Int32) (kp : Nat) (fp : Nat → Int32) (e0 e1 : Int32) (oF oT : Bool) (kt : Nat) (ft : Nat → Int32) (ks : Nat) (fs fc : Nat → Int32) (S : tS) (sz : Nat) (j : Nat) (q : spD) (k9 : Nat) (hy0 : tOk κ S) (hy1 : S.2.2.2[j]? = some q) (hy2 : k9 < (c_wl zw q S).length) : Met l y_T_word (Cond.code y_T_word b_T_word 3 (some .int) :: bg_W) ({ frames := 8, cells := 0, slots := 0, locals := 175 }) (qPf κ D T (cX T aa zw kp fp e0 e1 oF oT kt ft ks fs fc S ++ tl T S) [.ref (aa 0), .int (nI j), .int (nI k9)] sz) (va_Qi (fun (r : Int32) (u : Int32 × Int32 × Bool × Bool × Nat × (Nat → Int32) × Nat × (Nat → Int32)) => match u with | (w0, w1, v2, v3, kt1, ft1, ks1, fs1) => (c_wl zw q S)[k9]? = some r) (qB D T (va_A (cX T aa zw kp fp e0 e1 oF oT kt ft ks fs fc S ++ tl T S) sz) (fun u : Int32 × Int32 × Bool × Bool × Nat × (Nat → Int32) × Nat × (Nat → Int32) => match u with | (w0, w1, v2, v3, kt1, ft1, ks1, fs1) => cX T aa zw kp fp w0 w1 v2 v3 kt1 ft1 ks1 fs1 fc S ++ tl T S)) (va_A (cX T aa zw kp fp e0 e1 oF oT kt ft ks fs fc S ++ tl T S) sz)) 0 0 (va_A (cX T aa zw kp fp e0 e1 oF oT kt ft ks fs fc S ++ tl T S) sz) := by
  refine Met.ofW (cc := b_T_word) (maxL := 3) (ret := (some .int)) (by decide) rfl ?_
  intro p e s m args below meth c s₁ B hml hv
  obtain ⟨rfl, hsz, hP, hK, hD0, hF⟩ := hv
  have hx := B.exec
  have hb := B.bytes
  have hr := B.returns
  have hw : ∀ w ∈ bg_W, w.before ([.ref (aa 0), .int (nI j), .int (nI k9)] : List Value).toArray s = true := fun w h => atoms_spec (ws := (Cond.code y_T_word b_T_word 3 (some .int) :: bg_W)) B.pre w (List.mem_cons_of_mem _ h)
  have hown : s.vm.findClass "TimeWords" = some m.cls := findClass_of_methodNamed B.named
  have hlocks := B.notSynchronized
  subst hsz
  have hD := hD0.self (sz := s.heap.size)
  generalize hAe : va_A (cX T aa zw kp fp e0 e1 oF oT kt ft ks fs fc S ++ tl T S) s.heap.size = A at hD hF ⊢
  have hA : ∀ q : Nat, s.heap.size ≤ q → A q := fun q h => by rw [← hAe]; exact Or.inr h
  have hS : va_S A s.heap s.heap [] := va_S.rf
  have hl := lv_entry ([.ref (aa 0), .int (nI j), .int (nI k9)]) (n := 3) (Nat.le_of_ble_eq_true rfl)
  rw [lg_entry_eq]
  generalize (lg_sl ([.ref (aa 0), .int (nI j), .int (nI k9)]) ++ List.replicate (3 - (lg_sl ([.ref (aa 0), .int (nI j), .int (nI k9)])).length) Slot.unset).toArray = ls at hl ⊢
  have hl : lv_has ls 3 [(0, .ref (aa 0)), (1, .int (nI j)), (2, .int (nI k9))] := hl
  have hL1 : S.2.1.length ≤ 24 := hy0.2.2.2.1
  have hL2 : S.2.2.2.length ≤ 60 := hy0.2.2.2.2
  obtain ⟨hs1, hs2, hs3, hs4, hs5⟩ := sp_at hy0 hy1
  refine lv_aload_n hx hb d_T_word_0 rfl (lv_at hl 0 rfl) ?_
  refine lv_aload_n hx hb d_T_word_1 rfl (lv_at hl 0 rfl) ?_
  refine lv_iload_n hx hb d_T_word_2 rfl (lv_at hl 1 rfl) ?_
  refine va_csq (va_Run.run (va_runV (As := [.int (nI j)]) (rest := [.ref (aa 0)]) ⟨hx, hb, hml, hown, hw⟩ (k_T_spanNumbered l D T κ A aa zw kp fp e0 e1 oF oT kt ft ks fs fc S j q hy0 hy1) (cwV 1 hw (bg_V ml_T_141 wi_T_spanNumbered wv_T_spanNumbered wz_T wc_T_spanNumbered) rfl rfl rfl (by decide +kernel) ⟨Nat.le_of_ble_eq_true rfl, Nat.le_of_ble_eq_true rfl⟩) ⟨sPf_b, va_recv hK hP (ci := 5) (q0 := 0) rfl rfl, sPf_p hP hK hF hS⟩ rfl rfl hl.1 rfl (lv_room (Nat.le_of_ble_eq_true rfl)) d_T_word_3 ⟨Nat.le_of_ble_eq_true rfl, Nat.le_of_ble_eq_true rfl⟩)) (fun r1 hr1 => ?_)
  replace hr1 := hr1.symm; subst hr1
  refine W.eq (g2 := F0 m 6 ls [.ref q.1, .ref (aa 0)]) rfl ?_
  refine g_callv (va_runV (As := [.ref q.1]) (rest := []) ⟨hx, hb, hml, hown, hw⟩ (k_T_findShortest l D T κ aa zw kp fp e0 e1 oF oT kt ft ks fs fc S s.heap.size q hy0 hs5) (cwV 1 hw (bg_V ml_T_181 wi_T_findShortest wv_T_findShortest wz_T wc_T_findShortest) rfl rfl rfl (by decide +kernel) ⟨Nat.le_of_ble_eq_true rfl, Nat.le_of_ble_eq_true rfl⟩) ⟨qPf_b, va_recv hK hP (ci := 5) (q0 := 0) rfl rfl, qPf_p hP hK hD hF hS (g_free hD hS hA)⟩ rfl rfl hl.1 rfl (lv_room (Nat.le_of_ble_eq_true rfl)) d_T_word_6 ⟨Nat.le_of_ble_eq_true rfl, Nat.le_of_ble_eq_true rfl⟩) hD hS hA (fun u9 H locs hr2 hP hD hS => ?_)
  obtain ⟨u3, u4, u5, u6, u7, u8, u9, u10⟩ := u9
  dsimp only at hr2 hP hD
  have hP : va_P D gC (cX T aa zw kp fp u3 u4 u5 u6 u7 u8 u9 u10 fc S ++ tl T S) H := hP
  have hD : va_D A (cX T aa zw kp fp u3 u4 u5 u6 u7 u8 u9 u10 fc S ++ tl T S) := hD
  obtain ⟨ha1, ha2⟩ := hr2
  have ha3 : (c_wl zw q S).length = u9 := by rw [← ha1, ls_len]
  refine lv_iload_n hx hb d_T_word_9 rfl (lv_at hl 2 rfl) ?_
  refine lv_iconst (v := (-1)) hx hb d_T_word_10 (by decide) ?_
  refine lv_icmp_ne (tgt := 36) hx hb d_T_word_11 (by decide) (fun c11 => ?_) (fun c11 => absurd c11 ((nI_m1 (by omega))))
  refine lv_iload_n hx hb d_T_word_36 rfl (lv_at hl 2 rfl) ?_
  refine lv_if_lt (tgt := 51) hx hb d_T_word_37 (by decide) (fun c12 => absurd c12 (nI_pos (by omega))) (fun c12 => ?_)
  refine lv_iload_n hx hb d_T_word_40 rfl (lv_at hl 2 rfl) ?_
  refine lv_aload_n hx hb d_T_word_41 rfl (lv_at hl 0 rfl) ?_
  refine va_get (D := D) (ci := 5) (v := .ref (aa 6)) (C := "TimeWords") (T := F_T) (N := 8) hx hb hw in_T hown hK hP 0 rfl rfl 6 (by decide) (hw _ fl_T_44) (fun _ h9 => h9) rfl d_T_word_42 ?_
  refine va_get (D := D) (ci := 1) (v := .int (nI u9)) (C := "TimeWords$Row") (T := F_R) (N := 2) hx hb hw in_R hown hK hP 6 rfl rfl 1 (by decide) (hw _ fl_T_62) (fun _ h9 => h9) rfl d_T_word_45 ?_
  refine lv_icmp_lt (tgt := 61) hx hb d_T_word_48 (by decide) (fun c13 => ?_) (fun c13 => absurd ((nI_lt (a := k9) (b := u9) (by omega) (by omega))) c13)
  refine lv_aload_n hx hb d_T_word_61 rfl (lv_at hl 0 rfl) ?_
  refine va_get (D := D) (ci := 5) (v := .ref (aa 6)) (C := "TimeWords") (T := F_T) (N := 8) hx hb hw in_T hown hK hP 0 rfl rfl 6 (by decide) (hw _ fl_T_44) (fun _ h9 => h9) rfl d_T_word_62 ?_
  refine lv_iload_n hx hb d_T_word_65 rfl (lv_at hl 2 rfl) ?_
  have hPc : va_P D gC ([(aa 6, .inr (1, [.ref (aa 7), .int (nI u9)])), (aa 7, .inl (T.1, 24, .inl u10))]) H := (pc1 (hP 6 _ rfl) (pc1 (hP 7 _ rfl) pc0))
  refine vp_callSi (va_Run.run (va_runV (As := [.int (nI k9)]) (rest := []) ⟨hx, hb, hml, hown, hw⟩ (k_R_at l D T (aa 6) (aa 7) u9 24 u10 (nI k9) ha2 (by decide)) (cwV 1 hw (bg_V ml_T_189 wi_R_at wv_R_at wz_R wc_R_at) rfl rfl rfl (by decide +kernel) ⟨Nat.le_of_ble_eq_true rfl, Nat.le_of_ble_eq_true rfl⟩) ⟨sP_b, va_recv hK hPc (ci := 1) (q0 := 0) rfl rfl, sP_p hPc hK⟩ rfl rfl hl.1 rfl (lv_room (Nat.le_of_ble_eq_true rfl)) d_T_word_66 ⟨Nat.le_of_ble_eq_true rfl, Nat.le_of_ble_eq_true rfl⟩)) (fun r14 hr14 => ?_)
  replace hr14 := hr14.symm; subst hr14
  rw [at_in (by omega) (by omega)]
  exact W.iret (v := u10 k9) hx hb hr (fun t ht hW => ⟨⟨u10 k9, (u3, u4, u5, u6, u7, u8, u9, u10), rfl, (by rw [← ha1]; exact ls_get (by omega)), by rw [ht]; exact hP, va_K.moved hW.alike hK, hD⟩, hS.F ht⟩) hS.2.2 d_T_word_69

set_option maxHeartbeats 4000000 in
set_option maxRecDepth 100000 in
theorem k_T_word_x (l : Launch) (hl9 : l.stackTraces = false) (D : va_G) (T : gT) (κ : gS) (A : Nat → Prop) (aa : Nat → Nat) (zw : Int32) (kp : Nat) (fp : Nat → Int32) (e0 e1 : Int32) (oF oT : Bool) (kt : Nat) (ft : Nat → Int32) (ks : Nat) (fs fc : Nat → Int32) (S : tS) (sz : Nat) (x x2 : Int32) (hy0 : j_ix x (nI S.2.2.2.length) = false) : vx_Met l y_T_word (Cond.code y_T_word b_T_word 3 (some .int) :: bg_W) ({ frames := 8, cells := 1, slots := 6, locals := 131 }) (xPf κ A D T (cX T aa zw kp fp e0 e1 oF oT kt ft ks fs fc S ++ tl T S) [.ref (aa 0), .int x, .int x2] sz) xN (xE "java/lang/IndexOutOfBoundsException" sz) 1 6 (fun q => sz ≤ q) := by
  refine vx_ofW (cc := b_T_word) (maxL := 3) (ret := (some .int)) (by decide) rfl ?_
  intro p e s m args below meth c s₁ B hml htab hv
  obtain ⟨rfl, hsz, hP, hK, hF⟩ := hv
  have hx := B.exec
  have hb := B.bytes
  have hr := B.returns
  have hw : ∀ w ∈ bg_W, w.before ([.ref (aa 0), .int x, .int x2] : List Value).toArray s = true := fun w h => atoms_spec (ws := (Cond.code y_T_word b_T_word 3 (some .int) :: bg_W)) B.pre w (List.mem_cons_of_mem _ h)
  have hown : s.vm.findClass "TimeWords" = some m.cls := findClass_of_methodNamed B.named
  have hlocks := B.notSynchronized
  subst hsz
  have hS : va_S A s.heap s.heap [] := va_S.rf
  have hl := lv_entry ([.ref (aa 0), .int x, .int x2]) (n := 3) (Nat.le_of_ble_eq_true rfl)
  rw [lg_entry_eq]
  generalize (lg_sl ([.ref (aa 0), .int x, .int x2]) ++ List.replicate (3 - (lg_sl ([.ref (aa 0), .int x, .int x2])).length) Slot.unset).toArray = ls at hl ⊢
  have hl : lv_has ls 3 [(0, .ref (aa 0)), (1, .int x), (2, .int x2)] := hl
  refine lv_aload_n hx hb d_T_word_0 rfl (lv_at hl 0 rfl) ?_
  refine lv_aload_n hx hb d_T_word_1 rfl (lv_at hl 0 rfl) ?_
  refine lv_iload_n hx hb d_T_word_2 rfl (lv_at hl 1 rfl) ?_
  exact x_call (vx_runV (As := [.int x]) (rest := [.ref (aa 0)]) ⟨hx, hb, hml, hown, hw⟩ (k_T_spanNumbered_x l hl9 D T κ A aa zw kp fp e0 e1 oF oT kt ft ks fs fc S s.heap.size x hy0) (cwV 1 hw (bg_V ml_T_141 wi_T_spanNumbered wv_T_spanNumbered wz_T wc_T_spanNumbered) rfl rfl rfl (by decide +kernel) ⟨Nat.le_of_ble_eq_true rfl, Nat.le_of_ble_eq_true rfl⟩) ⟨xPf_b, va_recv hK hP (ci := 5) (q0 := 0) rfl rfl, xPf_p hP hK hF hS⟩ rfl rfl hl.1 rfl (lv_room (Nat.le_of_ble_eq_true rfl)) d_T_word_3 ⟨Nat.le_of_ble_eq_true rfl, Nat.le_of_ble_eq_true rfl⟩) htab hlocks
