set_option maxHeartbeats 4000000 in
set_option maxRecDepth 100000 in
theorem k_T_begin (l : Launch) (D : va_G) (T : gT) (κ : gS) (aa : Nat → Nat) (zw : Int32) (kp : Nat) (fp : Nat → Int32) (e0 e1 : Int32) (oF oT : Bool) (kt : Nat) (ft : Nat → Int32) (ks : Nat) (fs fc : Nat → Int32) (S : tS) (sz : Nat) (b : Nat) (uj : jS) (hy0 : b < 6) (hy1 : jOk uj) (hy2 : fnd uj e0 e1 oF oT) (hy3 : 0 ≤ zw.toInt) (hy4 : zw.toInt ≤ 1000) : Met l y_T_begin (Cond.code y_T_begin b_T_begin 2 (some .boolean) :: bg_W) ({ frames := 2, cells := 0, slots := 0, locals := 42 }) (qPf κ D T (cX T aa zw kp fp e0 e1 oF oT kt ft ks fs fc S ++ tl T S) [.ref (aa 0), .int (nI b)] sz) (va_Qi (fun (r : Int32) (u : Int32 × Int32 × Bool × Bool) => match u with | (w0, w1, v2, v3) => apQ zw b uj r w0 w1 v2 v3) (qB D T (va_A (cX T aa zw kp fp e0 e1 oF oT kt ft ks fs fc S ++ tl T S) sz) (fun u : Int32 × Int32 × Bool × Bool => match u with | (w0, w1, v2, v3) => cX T aa zw kp fp w0 w1 v2 v3 kt ft ks fs fc S ++ tl T S)) (va_A (cX T aa zw kp fp e0 e1 oF oT kt ft ks fs fc S ++ tl T S) sz)) 0 0 (va_A (cX T aa zw kp fp e0 e1 oF oT kt ft ks fs fc S ++ tl T S) sz) := by
  refine Met.ofW (cc := b_T_begin) (maxL := 2) (ret := (some .boolean)) (by decide) rfl ?_
  intro p e s m args below meth c s₁ B hml hv
  obtain ⟨rfl, hsz, hP, hK, hD0, hF⟩ := hv
  have hx := B.exec
  have hb := B.bytes
  have hr := B.returns
  have hw : ∀ w ∈ bg_W, w.before ([.ref (aa 0), .int (nI b)] : List Value).toArray s = true := fun w h => atoms_spec (ws := (Cond.code y_T_begin b_T_begin 2 (some .boolean) :: bg_W)) B.pre w (List.mem_cons_of_mem _ h)
  have hown : s.vm.findClass "TimeWords" = some m.cls := findClass_of_methodNamed B.named
  have hlocks := B.notSynchronized
  subst hsz
  have hD := hD0.self (sz := s.heap.size)
  generalize hAe : va_A (cX T aa zw kp fp e0 e1 oF oT kt ft ks fs fc S ++ tl T S) s.heap.size = A at hD hF ⊢
  have hA : ∀ q : Nat, s.heap.size ≤ q → A q := fun q h => by rw [← hAe]; exact Or.inr h
  have hS : va_S A s.heap s.heap [] := va_S.rf
  have hl := lv_entry ([.ref (aa 0), .int (nI b)]) (n := 2) (Nat.le_of_ble_eq_true rfl)
  rw [lg_entry_eq]
  generalize (lg_sl ([.ref (aa 0), .int (nI b)]) ++ List.replicate (2 - (lg_sl ([.ref (aa 0), .int (nI b)])).length) Slot.unset).toArray = ls at hl ⊢
  have hl : lv_has ls 2 [(0, .ref (aa 0)), (1, .int (nI b))] := hl
  rcases b6 hy0 with rfl | rfl | rfl | rfl | rfl | rfl
  · refine lv_iload_n hx hb d_T_begin_0 rfl (lv_at hl 1 rfl) ?_
    refine lv_tableOut (tgt := 56) hx hb d_T_begin_1 (Or.inl (by decide)) (by decide) ?_
    refine lv_aload_n hx hb d_T_begin_56 rfl (lv_at hl 0 rfl) ?_
    refine va_get (D := D) (ci := 5) (v := .ref (aa 3)) (C := "TimeWords") (T := F_T) (N := 8) hx hb hw in_T hown hK hP 0 rfl rfl 4 (by decide) (hw _ fl_T_37) (fun _ h9 => h9) rfl d_T_begin_57 ?_
    refine lv_iload_n hx hb d_T_begin_60 rfl (lv_at hl 1 rfl) ?_
    have hPc : va_P D gC ([(aa 3, .inr (2, [.int e0, .int e1, .int (b2i oF), .int (b2i oT)]))]) s.heap := (pc1 (hP 3 _ rfl) pc0)
    have hDc : va_D A ([(aa 3, .inr (2, [.int e0, .int e1, .int (b2i oF), .int (b2i oT)]))]) := by have h9 := hD.part (cx := [(aa 3, .inr (2, [.int e0, .int e1, .int (b2i oF), .int (b2i oT)]))]) [3] (by decide) rfl; exact dl_l h9
    refine g_subi (X := cX T aa zw kp fp e0 e1 oF oT kt ft ks fs fc S) (pl := tl T S) (wr := [(aa 0, .inr (5, [.ref (aa 1), .ref S.1.1, .ref S.2.2.1.1, .int zw, .ref (aa 3), .ref (aa 4), .ref (aa 6), .ref (aa 8)])), (aa 1, .inr (1, [.ref (aa 2), .int (nI kp)])), (aa 2, .inl (T.1, 24, .inl fp)), (aa 4, .inr (1, [.ref (aa 5), .int (nI kt)])), (aa 5, .inl (T.1, 24, .inl ft)), (aa 6, .inr (1, [.ref (aa 7), .int (nI ks)])), (aa 7, .inl (T.1, 24, .inl fs)), (aa 8, .inl (T.1, 9, .inl fc)), (S.1.1, .inr (0, [.ref S.1.2.1, .int (nI S.2.1.length), .int S.1.2.2.1])), (S.2.2.1.1, .inr (0, [.ref S.2.2.1.2.1, .int (nI S.2.2.2.length), .int S.2.2.1.2.2.1]))]) (cx := [(aa 3, .inr (2, [.int e0, .int e1, .int (b2i oF), .int (b2i oT)]))]) (va_runV (As := [.int (nI 0)]) (rest := []) ⟨hx, hb, hml, hown, hw⟩ (k_Y_takeThird l D T (aa 3) e0 e1 oF oT s.heap.size (nI 0) (by decide) (by decide)) (cwV 1 hw (bg_V ml_T_305 wi_Y_takeThird wv_Y_takeThird wz_Y wc_Y_takeThird) rfl rfl rfl (by decide +kernel) ⟨Nat.le_of_ble_eq_true rfl, Nat.le_of_ble_eq_true rfl⟩) ⟨qP_b, va_recv hK hPc (ci := 2) (q0 := 0) rfl rfl, qP_p hPc hK hDc⟩ rfl rfl hl.1 rfl (lv_room (Nat.le_of_ble_eq_true rfl)) d_T_begin_61 ⟨Nat.le_of_ble_eq_true rfl, Nat.le_of_ble_eq_true rfl⟩) hP hD hS hA [3] [0, 1, 2, 4, 5, 6, 7, 8, 9, 10] rfl rfl (by decide) (by decide) (fun r1 u9 H locs hr1 hP hD hS => ?_)
    obtain ⟨u2, u3⟩ := u9
    dsimp only at hr1 hP hD
    have hP : va_P D gC (cX T aa zw kp fp u2 u3 oF oT kt ft ks fs fc S ++ tl T S) H := hP.part (cx := cX T aa zw kp fp u2 u3 oF oT kt ft ks fs fc S) [0, 1, 2, 10, 3, 4, 5, 6, 7, 8, 9] rfl
    have hD : va_D A (cX T aa zw kp fp u2 u3 oF oT kt ft ks fs fc S ++ tl T S) := hD.part (cx := cX T aa zw kp fp u2 u3 oF oT kt ft ks fs fc S) [0, 1, 2, 10, 3, 4, 5, 6, 7, 8, 9] (by decide) rfl
    have hq := bg_th (wd := zw) (b := 0) (by decide) hy1 hy2 hr1
    rcases hq with ⟨g0, g1⟩ | ⟨g0, g1⟩
    · subst g0
      exact W.zret (v := 1) hx hb hr rfl (fun t ht hW => ⟨⟨1, (u2, u3, oF, oT), rfl, (Or.inl ⟨rfl, g1⟩), by rw [ht]; exact hP, va_K.moved hW.alike hK, hD⟩, hS.F ht⟩) hS.2.2 d_T_begin_64
    · subst g0
      exact W.zret (v := 0) hx hb hr rfl (fun t ht hW => ⟨⟨0, (u2, u3, oF, oT), rfl, (Or.inr ⟨rfl, g1⟩), by rw [ht]; exact hP, va_K.moved hW.alike hK, hD⟩, hS.F ht⟩) hS.2.2 d_T_begin_64
  · refine lv_iload_n hx hb d_T_begin_0 rfl (lv_at hl 1 rfl) ?_
    refine lv_tableOut (tgt := 56) hx hb d_T_begin_1 (Or.inl (by decide)) (by decide) ?_
    refine lv_aload_n hx hb d_T_begin_56 rfl (lv_at hl 0 rfl) ?_
    refine va_get (D := D) (ci := 5) (v := .ref (aa 3)) (C := "TimeWords") (T := F_T) (N := 8) hx hb hw in_T hown hK hP 0 rfl rfl 4 (by decide) (hw _ fl_T_37) (fun _ h9 => h9) rfl d_T_begin_57 ?_
    refine lv_iload_n hx hb d_T_begin_60 rfl (lv_at hl 1 rfl) ?_
    have hPc : va_P D gC ([(aa 3, .inr (2, [.int e0, .int e1, .int (b2i oF), .int (b2i oT)]))]) s.heap := (pc1 (hP 3 _ rfl) pc0)
    have hDc : va_D A ([(aa 3, .inr (2, [.int e0, .int e1, .int (b2i oF), .int (b2i oT)]))]) := by have h9 := hD.part (cx := [(aa 3, .inr (2, [.int e0, .int e1, .int (b2i oF), .int (b2i oT)]))]) [3] (by decide) rfl; exact dl_l h9
    refine g_subi (X := cX T aa zw kp fp e0 e1 oF oT kt ft ks fs fc S) (pl := tl T S) (wr := [(aa 0, .inr (5, [.ref (aa 1), .ref S.1.1, .ref S.2.2.1.1, .int zw, .ref (aa 3), .ref (aa 4), .ref (aa 6), .ref (aa 8)])), (aa 1, .inr (1, [.ref (aa 2), .int (nI kp)])), (aa 2, .inl (T.1, 24, .inl fp)), (aa 4, .inr (1, [.ref (aa 5), .int (nI kt)])), (aa 5, .inl (T.1, 24, .inl ft)), (aa 6, .inr (1, [.ref (aa 7), .int (nI ks)])), (aa 7, .inl (T.1, 24, .inl fs)), (aa 8, .inl (T.1, 9, .inl fc)), (S.1.1, .inr (0, [.ref S.1.2.1, .int (nI S.2.1.length), .int S.1.2.2.1])), (S.2.2.1.1, .inr (0, [.ref S.2.2.1.2.1, .int (nI S.2.2.2.length), .int S.2.2.1.2.2.1]))]) (cx := [(aa 3, .inr (2, [.int e0, .int e1, .int (b2i oF), .int (b2i oT)]))]) (va_runV (As := [.int (nI 1)]) (rest := []) ⟨hx, hb, hml, hown, hw⟩ (k_Y_takeThird l D T (aa 3) e0 e1 oF oT s.heap.size (nI 1) (by decide) (by decide)) (cwV 1 hw (bg_V ml_T_305 wi_Y_takeThird wv_Y_takeThird wz_Y wc_Y_takeThird) rfl rfl rfl (by decide +kernel) ⟨Nat.le_of_ble_eq_true rfl, Nat.le_of_ble_eq_true rfl⟩) ⟨qP_b, va_recv hK hPc (ci := 2) (q0 := 0) rfl rfl, qP_p hPc hK hDc⟩ rfl rfl hl.1 rfl (lv_room (Nat.le_of_ble_eq_true rfl)) d_T_begin_61 ⟨Nat.le_of_ble_eq_true rfl, Nat.le_of_ble_eq_true rfl⟩) hP hD hS hA [3] [0, 1, 2, 4, 5, 6, 7, 8, 9, 10] rfl rfl (by decide) (by decide) (fun r4 u9 H locs hr4 hP hD hS => ?_)
    obtain ⟨u5, u6⟩ := u9
    dsimp only at hr4 hP hD
    have hP : va_P D gC (cX T aa zw kp fp u5 u6 oF oT kt ft ks fs fc S ++ tl T S) H := hP.part (cx := cX T aa zw kp fp u5 u6 oF oT kt ft ks fs fc S) [0, 1, 2, 10, 3, 4, 5, 6, 7, 8, 9] rfl
    have hD : va_D A (cX T aa zw kp fp u5 u6 oF oT kt ft ks fs fc S ++ tl T S) := hD.part (cx := cX T aa zw kp fp u5 u6 oF oT kt ft ks fs fc S) [0, 1, 2, 10, 3, 4, 5, 6, 7, 8, 9] (by decide) rfl
    have hq := bg_th (wd := zw) (b := 1) (by decide) hy1 hy2 hr4
    rcases hq with ⟨g0, g1⟩ | ⟨g0, g1⟩
    · subst g0
      exact W.zret (v := 1) hx hb hr rfl (fun t ht hW => ⟨⟨1, (u5, u6, oF, oT), rfl, (Or.inl ⟨rfl, g1⟩), by rw [ht]; exact hP, va_K.moved hW.alike hK, hD⟩, hS.F ht⟩) hS.2.2 d_T_begin_64
    · subst g0
      exact W.zret (v := 0) hx hb hr rfl (fun t ht hW => ⟨⟨0, (u5, u6, oF, oT), rfl, (Or.inr ⟨rfl, g1⟩), by rw [ht]; exact hP, va_K.moved hW.alike hK, hD⟩, hS.F ht⟩) hS.2.2 d_T_begin_64
  · refine lv_iload_n hx hb d_T_begin_0 rfl (lv_at hl 1 rfl) ?_
    refine lv_tableOut (tgt := 56) hx hb d_T_begin_1 (Or.inl (by decide)) (by decide) ?_
    refine lv_aload_n hx hb d_T_begin_56 rfl (lv_at hl 0 rfl) ?_
    refine va_get (D := D) (ci := 5) (v := .ref (aa 3)) (C := "TimeWords") (T := F_T) (N := 8) hx hb hw in_T hown hK hP 0 rfl rfl 4 (by decide) (hw _ fl_T_37) (fun _ h9 => h9) rfl d_T_begin_57 ?_
    refine lv_iload_n hx hb d_T_begin_60 rfl (lv_at hl 1 rfl) ?_
    have hPc : va_P D gC ([(aa 3, .inr (2, [.int e0, .int e1, .int (b2i oF), .int (b2i oT)]))]) s.heap := (pc1 (hP 3 _ rfl) pc0)
    have hDc : va_D A ([(aa 3, .inr (2, [.int e0, .int e1, .int (b2i oF), .int (b2i oT)]))]) := by have h9 := hD.part (cx := [(aa 3, .inr (2, [.int e0, .int e1, .int (b2i oF), .int (b2i oT)]))]) [3] (by decide) rfl; exact dl_l h9
    refine g_subi (X := cX T aa zw kp fp e0 e1 oF oT kt ft ks fs fc S) (pl := tl T S) (wr := [(aa 0, .inr (5, [.ref (aa 1), .ref S.1.1, .ref S.2.2.1.1, .int zw, .ref (aa 3), .ref (aa 4), .ref (aa 6), .ref (aa 8)])), (aa 1, .inr (1, [.ref (aa 2), .int (nI kp)])), (aa 2, .inl (T.1, 24, .inl fp)), (aa 4, .inr (1, [.ref (aa 5), .int (nI kt)])), (aa 5, .inl (T.1, 24, .inl ft)), (aa 6, .inr (1, [.ref (aa 7), .int (nI ks)])), (aa 7, .inl (T.1, 24, .inl fs)), (aa 8, .inl (T.1, 9, .inl fc)), (S.1.1, .inr (0, [.ref S.1.2.1, .int (nI S.2.1.length), .int S.1.2.2.1])), (S.2.2.1.1, .inr (0, [.ref S.2.2.1.2.1, .int (nI S.2.2.2.length), .int S.2.2.1.2.2.1]))]) (cx := [(aa 3, .inr (2, [.int e0, .int e1, .int (b2i oF), .int (b2i oT)]))]) (va_runV (As := [.int (nI 2)]) (rest := []) ⟨hx, hb, hml, hown, hw⟩ (k_Y_takeThird l D T (aa 3) e0 e1 oF oT s.heap.size (nI 2) (by decide) (by decide)) (cwV 1 hw (bg_V ml_T_305 wi_Y_takeThird wv_Y_takeThird wz_Y wc_Y_takeThird) rfl rfl rfl (by decide +kernel) ⟨Nat.le_of_ble_eq_true rfl, Nat.le_of_ble_eq_true rfl⟩) ⟨qP_b, va_recv hK hPc (ci := 2) (q0 := 0) rfl rfl, qP_p hPc hK hDc⟩ rfl rfl hl.1 rfl (lv_room (Nat.le_of_ble_eq_true rfl)) d_T_begin_61 ⟨Nat.le_of_ble_eq_true rfl, Nat.le_of_ble_eq_true rfl⟩) hP hD hS hA [3] [0, 1, 2, 4, 5, 6, 7, 8, 9, 10] rfl rfl (by decide) (by decide) (fun r7 u9 H locs hr7 hP hD hS => ?_)
    obtain ⟨u8, u9⟩ := u9
    dsimp only at hr7 hP hD
    have hP : va_P D gC (cX T aa zw kp fp u8 u9 oF oT kt ft ks fs fc S ++ tl T S) H := hP.part (cx := cX T aa zw kp fp u8 u9 oF oT kt ft ks fs fc S) [0, 1, 2, 10, 3, 4, 5, 6, 7, 8, 9] rfl
    have hD : va_D A (cX T aa zw kp fp u8 u9 oF oT kt ft ks fs fc S ++ tl T S) := hD.part (cx := cX T aa zw kp fp u8 u9 oF oT kt ft ks fs fc S) [0, 1, 2, 10, 3, 4, 5, 6, 7, 8, 9] (by decide) rfl
    have hq := bg_th (wd := zw) (b := 2) (by decide) hy1 hy2 hr7
    rcases hq with ⟨g0, g1⟩ | ⟨g0, g1⟩
    · subst g0
      exact W.zret (v := 1) hx hb hr rfl (fun t ht hW => ⟨⟨1, (u8, u9, oF, oT), rfl, (Or.inl ⟨rfl, g1⟩), by rw [ht]; exact hP, va_K.moved hW.alike hK, hD⟩, hS.F ht⟩) hS.2.2 d_T_begin_64
    · subst g0
      exact W.zret (v := 0) hx hb hr rfl (fun t ht hW => ⟨⟨0, (u8, u9, oF, oT), rfl, (Or.inr ⟨rfl, g1⟩), by rw [ht]; exact hP, va_K.moved hW.alike hK, hD⟩, hS.F ht⟩) hS.2.2 d_T_begin_64
  · refine lv_iload_n hx hb d_T_begin_0 rfl (lv_at hl 1 rfl) ?_
    refine lv_tableIn (tgt := 28) hx hb d_T_begin_1 (by decide) (by decide) rfl (by decide) ?_
    refine lv_aload_n hx hb d_T_begin_28 rfl (lv_at hl 0 rfl) ?_
    refine va_get (D := D) (ci := 5) (v := .ref (aa 3)) (C := "TimeWords") (T := F_T) (N := 8) hx hb hw in_T hown hK hP 0 rfl rfl 4 (by decide) (hw _ fl_T_37) (fun _ h9 => h9) rfl d_T_begin_29 ?_
    refine lv_aload_n hx hb d_T_begin_32 rfl (lv_at hl 0 rfl) ?_
    refine va_get (D := D) (ci := 5) (v := .int zw) (C := "TimeWords") (T := F_T) (N := 8) hx hb hw in_T hown hK hP 0 rfl rfl 3 (by decide) (hw _ fl_T_28) (fun _ h9 => h9) rfl d_T_begin_33 ?_
    have hPc : va_P D gC ([(aa 3, .inr (2, [.int e0, .int e1, .int (b2i oF), .int (b2i oT)]))]) s.heap := (pc1 (hP 3 _ rfl) pc0)
    have hDc : va_D A ([(aa 3, .inr (2, [.int e0, .int e1, .int (b2i oF), .int (b2i oT)]))]) := by have h9 := hD.part (cx := [(aa 3, .inr (2, [.int e0, .int e1, .int (b2i oF), .int (b2i oT)]))]) [3] (by decide) rfl; exact dl_l h9
    refine g_subi (X := cX T aa zw kp fp e0 e1 oF oT kt ft ks fs fc S) (pl := tl T S) (wr := [(aa 0, .inr (5, [.ref (aa 1), .ref S.1.1, .ref S.2.2.1.1, .int zw, .ref (aa 3), .ref (aa 4), .ref (aa 6), .ref (aa 8)])), (aa 1, .inr (1, [.ref (aa 2), .int (nI kp)])), (aa 2, .inl (T.1, 24, .inl fp)), (aa 4, .inr (1, [.ref (aa 5), .int (nI kt)])), (aa 5, .inl (T.1, 24, .inl ft)), (aa 6, .inr (1, [.ref (aa 7), .int (nI ks)])), (aa 7, .inl (T.1, 24, .inl fs)), (aa 8, .inl (T.1, 9, .inl fc)), (S.1.1, .inr (0, [.ref S.1.2.1, .int (nI S.2.1.length), .int S.1.2.2.1])), (S.2.2.1.1, .inr (0, [.ref S.2.2.1.2.1, .int (nI S.2.2.2.length), .int S.2.2.1.2.2.1]))]) (cx := [(aa 3, .inr (2, [.int e0, .int e1, .int (b2i oF), .int (b2i oT)]))]) (va_runV (As := [.int zw]) (rest := []) ⟨hx, hb, hml, hown, hw⟩ (k_Y_widen l D T (aa 3) e0 e1 oF oT s.heap.size zw) (cwV 1 hw (bg_V ml_T_296 wi_Y_widen wv_Y_widen wz_Y wc_Y_widen) rfl rfl rfl (by decide +kernel) ⟨Nat.le_of_ble_eq_true rfl, Nat.le_of_ble_eq_true rfl⟩) ⟨qP_b, va_recv hK hPc (ci := 2) (q0 := 0) rfl rfl, qP_p hPc hK hDc⟩ rfl rfl hl.1 rfl (lv_room (Nat.le_of_ble_eq_true rfl)) d_T_begin_36 ⟨Nat.le_of_ble_eq_true rfl, Nat.le_of_ble_eq_true rfl⟩) hP hD hS hA [3] [0, 1, 2, 4, 5, 6, 7, 8, 9, 10] rfl rfl (by decide) (by decide) (fun r10 u9 H locs hr10 hP hD hS => ?_)
    obtain ⟨u11, u12⟩ := u9
    dsimp only at hr10 hP hD
    have hP : va_P D gC (cX T aa zw kp fp u11 u12 oF oT kt ft ks fs fc S ++ tl T S) H := hP.part (cx := cX T aa zw kp fp u11 u12 oF oT kt ft ks fs fc S) [0, 1, 2, 10, 3, 4, 5, 6, 7, 8, 9] rfl
    have hD : va_D A (cX T aa zw kp fp u11 u12 oF oT kt ft ks fs fc S ++ tl T S) := hD.part (cx := cX T aa zw kp fp u11 u12 oF oT kt ft ks fs fc S) [0, 1, 2, 10, 3, 4, 5, 6, 7, 8, 9] (by decide) rfl
    have hq := bg_wi hy3 hy4 hy1 hy2 hr10
    rcases hq with ⟨g0, g1⟩ | ⟨g0, g1⟩
    · subst g0
      exact W.zret (v := 1) hx hb hr rfl (fun t ht hW => ⟨⟨1, (u11, u12, oF, oT), rfl, (Or.inl ⟨rfl, g1⟩), by rw [ht]; exact hP, va_K.moved hW.alike hK, hD⟩, hS.F ht⟩) hS.2.2 d_T_begin_39
    · subst g0
      exact W.zret (v := 0) hx hb hr rfl (fun t ht hW => ⟨⟨0, (u11, u12, oF, oT), rfl, (Or.inr ⟨rfl, g1⟩), by rw [ht]; exact hP, va_K.moved hW.alike hK, hD⟩, hS.F ht⟩) hS.2.2 d_T_begin_39
  · refine lv_iload_n hx hb d_T_begin_0 rfl (lv_at hl 1 rfl) ?_
    refine lv_tableIn (tgt := 40) hx hb d_T_begin_1 (by decide) (by decide) rfl (by decide) ?_
    refine lv_aload_n hx hb d_T_begin_40 rfl (lv_at hl 0 rfl) ?_
    refine va_get (D := D) (ci := 5) (v := .ref (aa 3)) (C := "TimeWords") (T := F_T) (N := 8) hx hb hw in_T hown hK hP 0 rfl rfl 4 (by decide) (hw _ fl_T_37) (fun _ h9 => h9) rfl d_T_begin_41 ?_
    have hPc : va_P D gC ([(aa 3, .inr (2, [.int e0, .int e1, .int (b2i oF), .int (b2i oT)]))]) s.heap := (pc1 (hP 3 _ rfl) pc0)
    have hDc : va_D A ([(aa 3, .inr (2, [.int e0, .int e1, .int (b2i oF), .int (b2i oT)]))]) := by have h9 := hD.part (cx := [(aa 3, .inr (2, [.int e0, .int e1, .int (b2i oF), .int (b2i oT)]))]) [3] (by decide) rfl; exact dl_l h9
    refine g_subi (X := cX T aa zw kp fp e0 e1 oF oT kt ft ks fs fc S) (pl := tl T S) (wr := [(aa 0, .inr (5, [.ref (aa 1), .ref S.1.1, .ref S.2.2.1.1, .int zw, .ref (aa 3), .ref (aa 4), .ref (aa 6), .ref (aa 8)])), (aa 1, .inr (1, [.ref (aa 2), .int (nI kp)])), (aa 2, .inl (T.1, 24, .inl fp)), (aa 4, .inr (1, [.ref (aa 5), .int (nI kt)])), (aa 5, .inl (T.1, 24, .inl ft)), (aa 6, .inr (1, [.ref (aa 7), .int (nI ks)])), (aa 7, .inl (T.1, 24, .inl fs)), (aa 8, .inl (T.1, 9, .inl fc)), (S.1.1, .inr (0, [.ref S.1.2.1, .int (nI S.2.1.length), .int S.1.2.2.1])), (S.2.2.1.1, .inr (0, [.ref S.2.2.1.2.1, .int (nI S.2.2.2.length), .int S.2.2.1.2.2.1]))]) (cx := [(aa 3, .inr (2, [.int e0, .int e1, .int (b2i oF), .int (b2i oT)]))]) (va_runV (As := []) (rest := []) ⟨hx, hb, hml, hown, hw⟩ (k_Y_turnBefore_b l D T (aa 3) e0 e1 oF oT s.heap.size) (cwV 0 hw (bg_V ml_T_299 wi_Y_turnBefore wv_Y_turnBefore wz_Y wc_Y_turnBefore) rfl rfl rfl (by decide +kernel) ⟨Nat.le_of_ble_eq_true rfl, Nat.le_of_ble_eq_true rfl⟩) ⟨qP_b, va_recv hK hPc (ci := 2) (q0 := 0) rfl rfl, qP_p hPc hK hDc⟩ rfl rfl hl.1 rfl (lv_room (Nat.le_of_ble_eq_true rfl)) d_T_begin_44 ⟨Nat.le_of_ble_eq_true rfl, Nat.le_of_ble_eq_true rfl⟩) hP hD hS hA [3] [0, 1, 2, 4, 5, 6, 7, 8, 9, 10] rfl rfl (by decide) (by decide) (fun r13 u9 H locs hr13 hP hD hS => ?_)
    obtain ⟨u14, u15, u16⟩ := u9
    dsimp only at hr13 hP hD
    have hP : va_P D gC (cX T aa zw kp fp u14 u15 u16 oT kt ft ks fs fc S ++ tl T S) H := hP.part (cx := cX T aa zw kp fp u14 u15 u16 oT kt ft ks fs fc S) [0, 1, 2, 10, 3, 4, 5, 6, 7, 8, 9] rfl
    have hD : va_D A (cX T aa zw kp fp u14 u15 u16 oT kt ft ks fs fc S ++ tl T S) := hD.part (cx := cX T aa zw kp fp u14 u15 u16 oT kt ft ks fs fc S) [0, 1, 2, 10, 3, 4, 5, 6, 7, 8, 9] (by decide) rfl
    have hq := bg_be (wd := zw) hy1 hy2 hr13
    rcases hq with ⟨g0, g1⟩ | ⟨g0, g1⟩
    · subst g0
      exact W.zret (v := 1) hx hb hr rfl (fun t ht hW => ⟨⟨1, (u14, u15, u16, oT), rfl, (Or.inl ⟨rfl, g1⟩), by rw [ht]; exact hP, va_K.moved hW.alike hK, hD⟩, hS.F ht⟩) hS.2.2 d_T_begin_47
    · subst g0
      exact W.zret (v := 0) hx hb hr rfl (fun t ht hW => ⟨⟨0, (u14, u15, u16, oT), rfl, (Or.inr ⟨rfl, g1⟩), by rw [ht]; exact hP, va_K.moved hW.alike hK, hD⟩, hS.F ht⟩) hS.2.2 d_T_begin_47
  · refine lv_iload_n hx hb d_T_begin_0 rfl (lv_at hl 1 rfl) ?_
    refine lv_tableIn (tgt := 48) hx hb d_T_begin_1 (by decide) (by decide) rfl (by decide) ?_
    refine lv_aload_n hx hb d_T_begin_48 rfl (lv_at hl 0 rfl) ?_
    refine va_get (D := D) (ci := 5) (v := .ref (aa 3)) (C := "TimeWords") (T := F_T) (N := 8) hx hb hw in_T hown hK hP 0 rfl rfl 4 (by decide) (hw _ fl_T_37) (fun _ h9 => h9) rfl d_T_begin_49 ?_
    have hPc : va_P D gC ([(aa 3, .inr (2, [.int e0, .int e1, .int (b2i oF), .int (b2i oT)]))]) s.heap := (pc1 (hP 3 _ rfl) pc0)
    have hDc : va_D A ([(aa 3, .inr (2, [.int e0, .int e1, .int (b2i oF), .int (b2i oT)]))]) := by have h9 := hD.part (cx := [(aa 3, .inr (2, [.int e0, .int e1, .int (b2i oF), .int (b2i oT)]))]) [3] (by decide) rfl; exact dl_l h9
    refine g_subi (X := cX T aa zw kp fp e0 e1 oF oT kt ft ks fs fc S) (pl := tl T S) (wr := [(aa 0, .inr (5, [.ref (aa 1), .ref S.1.1, .ref S.2.2.1.1, .int zw, .ref (aa 3), .ref (aa 4), .ref (aa 6), .ref (aa 8)])), (aa 1, .inr (1, [.ref (aa 2), .int (nI kp)])), (aa 2, .inl (T.1, 24, .inl fp)), (aa 4, .inr (1, [.ref (aa 5), .int (nI kt)])), (aa 5, .inl (T.1, 24, .inl ft)), (aa 6, .inr (1, [.ref (aa 7), .int (nI ks)])), (aa 7, .inl (T.1, 24, .inl fs)), (aa 8, .inl (T.1, 9, .inl fc)), (S.1.1, .inr (0, [.ref S.1.2.1, .int (nI S.2.1.length), .int S.1.2.2.1])), (S.2.2.1.1, .inr (0, [.ref S.2.2.1.2.1, .int (nI S.2.2.2.length), .int S.2.2.1.2.2.1]))]) (cx := [(aa 3, .inr (2, [.int e0, .int e1, .int (b2i oF), .int (b2i oT)]))]) (va_runV (As := []) (rest := []) ⟨hx, hb, hml, hown, hw⟩ (k_Y_turnAfter_b l D T (aa 3) e0 e1 oF oT s.heap.size) (cwV 0 hw (bg_V ml_T_302 wi_Y_turnAfter wv_Y_turnAfter wz_Y wc_Y_turnAfter) rfl rfl rfl (by decide +kernel) ⟨Nat.le_of_ble_eq_true rfl, Nat.le_of_ble_eq_true rfl⟩) ⟨qP_b, va_recv hK hPc (ci := 2) (q0 := 0) rfl rfl, qP_p hPc hK hDc⟩ rfl rfl hl.1 rfl (lv_room (Nat.le_of_ble_eq_true rfl)) d_T_begin_52 ⟨Nat.le_of_ble_eq_true rfl, Nat.le_of_ble_eq_true rfl⟩) hP hD hS hA [3] [0, 1, 2, 4, 5, 6, 7, 8, 9, 10] rfl rfl (by decide) (by decide) (fun r17 u9 H locs hr17 hP hD hS => ?_)
    obtain ⟨u18, u19, u20⟩ := u9
    dsimp only at hr17 hP hD
    have hP : va_P D gC (cX T aa zw kp fp u18 u19 oF u20 kt ft ks fs fc S ++ tl T S) H := hP.part (cx := cX T aa zw kp fp u18 u19 oF u20 kt ft ks fs fc S) [0, 1, 2, 10, 3, 4, 5, 6, 7, 8, 9] rfl
    have hD : va_D A (cX T aa zw kp fp u18 u19 oF u20 kt ft ks fs fc S ++ tl T S) := hD.part (cx := cX T aa zw kp fp u18 u19 oF u20 kt ft ks fs fc S) [0, 1, 2, 10, 3, 4, 5, 6, 7, 8, 9] (by decide) rfl
    have hq := bg_af (wd := zw) hy1 hy2 hr17
    rcases hq with ⟨g0, g1⟩ | ⟨g0, g1⟩
    · subst g0
      exact W.zret (v := 1) hx hb hr rfl (fun t ht hW => ⟨⟨1, (u18, u19, oF, u20), rfl, (Or.inl ⟨rfl, g1⟩), by rw [ht]; exact hP, va_K.moved hW.alike hK, hD⟩, hS.F ht⟩) hS.2.2 d_T_begin_55
    · subst g0
      exact W.zret (v := 0) hx hb hr rfl (fun t ht hW => ⟨⟨0, (u18, u19, oF, u20), rfl, (Or.inr ⟨rfl, g1⟩), by rw [ht]; exact hP, va_K.moved hW.alike hK, hD⟩, hS.F ht⟩) hS.2.2 d_T_begin_55

theorem co_no {fp : Nat → Int32} {kp t9 : Nat} {S : tS} {x y : Int32} {co : Nat → Option jS} (hl : lOk S) (h : c_co fp kp S x y co) (c0 : j_ce fp kp t9 = false ∨ j_cv fp kp t9 ≤ 0)
    (g : (∀ (i : Nat) (n : nmD), S.2.1[i]? = some n → ¬ c_mt fp kp t9 n) ∨ ∃ (i : Nat) (n : nmD), S.2.1[i]? = some n ∧ c_mt fp kp t9 n ∧ (ya x y n).1 = none) : co t9 = none := by
  cases hc : j_ce fp kp t9 with
  | true =>
    rcases c0 with c0 | c0
    · rw [c0] at hc; cases hc
    · rw [h.1 t9 hc, if_pos c0]
  | false =>
    rcases g with g | ⟨i, n, g1, g2, g3⟩
    · exact h.2.1 t9 hc g
    · rw [h.2.2.1 t9 i n hc g1 g2, g3]; rfl
set_option maxHeartbeats 4000000 in
set_option maxRecDepth 100000 in
theorem k_T_findWordFrom_a5 (l : Launch) (D : va_G) (T : gT) (κ : gS) (aa : Nat → Nat) (zw : Int32) (kp : Nat) (fp : Nat → Int32) (e0 e1 : Int32) (oF oT : Bool) (kt : Nat) (ft : Nat → Int32) (ks : Nat) (fs fc : Nat → Int32) (S : tS) (sz : Nat) (t9 : Nat) (x y : Int32) (co : Nat → Option jS) (hy0 : tOk κ S) (hy1 : kp ≤ 24) (hy2 : t9 ≤ kp) (hy3 : lOk S) (hy4 : 0 ≤ zw.toInt) (hy5 : zw.toInt ≤ 1000) (hy6 : c_co fp kp S x y co) : Met l y_T_findWordFrom (Cond.code y_T_findWordFrom b_T_findWordFrom 6 (some .boolean) :: bg_W) ({ frames := 6, cells := 0, slots := 0, locals := 138 }) (qPf κ D T (cX T aa zw kp fp e0 e1 oF oT kt ft ks fs fc S ++ tl T S) [.ref (aa 0), .int (nI t9), .int 5, .int x, .int y] sz) (va_Qi (fun (r : Int32) (u : Int32 × Int32 × Bool × Bool) => match u with | (w0, w1, v2, v3) => (r = 1 ∧ ∃ u, j_wd (j_fb fp kp) co (j_ap zw) 0 t9 = some u ∧ jOk u ∧ fnd u w0 w1 v2 v3) ∨ (r = 0 ∧ j_wd (j_fb fp kp) co (j_ap zw) 0 t9 = none)) (qB D T (va_A (cX T aa zw kp fp e0 e1 oF oT kt ft ks fs fc S ++ tl T S) sz) (fun u : Int32 × Int32 × Bool × Bool => match u with | (w0, w1, v2, v3) => cX T aa zw kp fp w0 w1 v2 v3 kt ft ks fs fc S ++ tl T S)) (va_A (cX T aa zw kp fp e0 e1 oF oT kt ft ks fs fc S ++ tl T S) sz)) 0 0 (va_A (cX T aa zw kp fp e0 e1 oF oT kt ft ks fs fc S ++ tl T S) sz) := by
  refine Met.ofW (cc := b_T_findWordFrom) (maxL := 6) (ret := (some .boolean)) (by decide) rfl ?_
  intro p e s m args below meth c s₁ B hml hv
  obtain ⟨rfl, hsz, hP, hK, hD0, hF⟩ := hv
  have hx := B.exec
  have hb := B.bytes
  have hr := B.returns
  have hw : ∀ w ∈ bg_W, w.before ([.ref (aa 0), .int (nI t9), .int 5, .int x, .int y] : List Value).toArray s = true := fun w h => atoms_spec (ws := (Cond.code y_T_findWordFrom b_T_findWordFrom 6 (some .boolean) :: bg_W)) B.pre w (List.mem_cons_of_mem _ h)
  have hown : s.vm.findClass "TimeWords" = some m.cls := findClass_of_methodNamed B.named
  have hlocks := B.notSynchronized
  subst hsz
  have hD := hD0.self (sz := s.heap.size)
  generalize hAe : va_A (cX T aa zw kp fp e0 e1 oF oT kt ft ks fs fc S ++ tl T S) s.heap.size = A at hD hF ⊢
  have hA : ∀ q : Nat, s.heap.size ≤ q → A q := fun q h => by rw [← hAe]; exact Or.inr h
  have hS : va_S A s.heap s.heap [] := va_S.rf
  have hl := lv_entry ([.ref (aa 0), .int (nI t9), .int 5, .int x, .int y]) (n := 6) (Nat.le_of_ble_eq_true rfl)
  rw [lg_entry_eq]
  generalize (lg_sl ([.ref (aa 0), .int (nI t9), .int 5, .int x, .int y]) ++ List.replicate (6 - (lg_sl ([.ref (aa 0), .int (nI t9), .int 5, .int x, .int y])).length) Slot.unset).toArray = ls at hl ⊢
  have hl : lv_has ls 6 [(0, .ref (aa 0)), (1, .int (nI t9)), (2, .int 5), (3, .int x), (4, .int y)] := hl
  have hL1 : S.2.1.length ≤ 24 := hy0.2.2.2.1
  have hL2 : S.2.2.2.length ≤ 60 := hy0.2.2.2.2
  refine lv_aload_n hx hb d_T_findWordFrom_0 rfl (lv_at hl 0 rfl) ?_
  refine lv_iload_n hx hb d_T_findWordFrom_1 rfl (lv_at hl 1 rfl) ?_
  refine vp_callSi (va_Run.run (va_runV (As := [.int (nI t9)]) (rest := []) ⟨hx, hb, hml, hown, hw⟩ (k_T_beginningAt l D T κ A aa zw kp fp e0 e1 oF oT kt ft ks fs fc S t9 hy1 (by omega)) (cwV 1 hw (bg_V ml_T_258 wi_T_beginningAt wv_T_beginningAt wz_T wc_T_beginningAt) rfl rfl rfl (by decide +kernel) ⟨Nat.le_of_ble_eq_true rfl, Nat.le_of_ble_eq_true rfl⟩) ⟨sPf_b, va_recv hK hP (ci := 5) (q0 := 0) rfl rfl, sPf_p hP hK hF hS⟩ rfl rfl hl.1 rfl (lv_room (Nat.le_of_ble_eq_true rfl)) d_T_findWordFrom_2 ⟨Nat.le_of_ble_eq_true rfl, Nat.le_of_ble_eq_true rfl⟩)) (fun r1 hr1 => ?_)
  replace hr1 := hr1.symm; subst hr1
  rcases hfb : j_fb fp kp t9 with _ | b
  · refine W.eq (g2 := F0 m 5 ls [.int (-1)]) rfl ?_
    refine lv_istore (lv' := [(5, .int (-1)), (0, .ref (aa 0)), (1, .int (nI t9)), (2, .int 5), (3, .int x), (4, .int y)]) hx hb d_T_findWordFrom_5 hl (by decide) rfl (fun ls hl => ?_)
    refine lv_iload hx hb d_T_findWordFrom_7 (lv_at hl 0 rfl) ?_
    refine lv_iconst (v := (-1)) hx hb d_T_findWordFrom_9 (by decide) ?_
    refine lv_icmp_ne (tgt := 38) hx hb d_T_findWordFrom_10 (by decide) (fun c2 => absurd c2 (by decide)) (fun c2 => ?_)
    refine lv_aload_n hx hb d_T_findWordFrom_13 rfl (lv_at hl 1 rfl) ?_
    refine lv_iload_n hx hb d_T_findWordFrom_14 rfl (lv_at hl 2 rfl) ?_
    refine g_calli (va_runV (As := [.int (nI t9)]) (rest := []) ⟨hx, hb, hml, hown, hw⟩ (k_T_findCenturyFrom l D T κ aa zw kp fp e0 e1 oF oT kt ft ks fs fc S s.heap.size t9 hy1 hy2) (cwV 1 hw (bg_V ml_T_261 wi_T_findCenturyFrom wv_T_findCenturyFrom wz_T wc_T_findCenturyFrom) rfl rfl rfl (by decide +kernel) ⟨Nat.le_of_ble_eq_true rfl, Nat.le_of_ble_eq_true rfl⟩) ⟨qPf_b, va_recv hK hP (ci := 5) (q0 := 0) rfl rfl, qPf_p hP hK hD hF hS (g_free hD hS hA)⟩ rfl rfl hl.1 rfl (lv_room (Nat.le_of_ble_eq_true rfl)) d_T_findWordFrom_15 ⟨Nat.le_of_ble_eq_true rfl, Nat.le_of_ble_eq_true rfl⟩) hD hS hA (fun r3 u9 H locs hr3 hP hD hS => ?_)
    obtain ⟨u4, u5, u6, u7⟩ := u9
    dsimp only at hr3 hP hD
    have hP : va_P D gC (cX T aa zw kp fp u4 u5 u6 u7 kt ft ks fs fc S ++ tl T S) H := hP
    have hD : va_D A (cX T aa zw kp fp u4 u5 u6 u7 kt ft ks fs fc S ++ tl T S) := hD
    rcases hr3 with ⟨c0, c0b, g0, c1, c2, c3, c4⟩ | ⟨c0, g0⟩
    · subst g0
      refine lv_if_ne (tgt := 32) hx hb d_T_findWordFrom_18 (by decide) (fun c8 => ?_) (fun c8 => absurd c8 (by decide))
      refine lv_iconst (v := 1) hx hb d_T_findWordFrom_32 (by decide) ?_
      refine lv_goto (tgt := 37) hx hb d_T_findWordFrom_33 (by decide) ?_
      exact W.zret (v := 1) hx hb hr rfl (fun t ht hW => ⟨⟨1, (u4, u5, u6, u7), rfl, (Or.inl ⟨rfl, _, by rw [wd_none hfb, hy6.1 t9 c0, if_neg c0b], cv_ok c0 c0b, by rw [c1, c2, c3, c4]; exact fnd_of⟩), by rw [ht]; exact hP, va_K.moved hW.alike hK, hD⟩, hS.F ht⟩) hS.2.2 d_T_findWordFrom_37
    · subst g0
      refine lv_if_ne (tgt := 32) hx hb d_T_findWordFrom_18 (by decide) (fun c9 => absurd c9 (by decide)) (fun c9 => ?_)
      refine lv_aload_n hx hb d_T_findWordFrom_21 rfl (lv_at hl 1 rfl) ?_
      refine lv_iload_n hx hb d_T_findWordFrom_22 rfl (lv_at hl 2 rfl) ?_
      refine lv_iload_n hx hb d_T_findWordFrom_23 rfl (lv_at hl 4 rfl) ?_
      refine lv_iload hx hb d_T_findWordFrom_24 (lv_at hl 5 rfl) ?_
      refine g_calli (va_runV (As := [.int (nI t9), .int x, .int y]) (rest := []) ⟨hx, hb, hml, hown, hw⟩ (k_T_findNameFrom l D T κ aa zw kp fp u4 u5 u6 u7 kt ft ks fs fc S H.size t9 x y hy0 hy1 hy2) (cwV 3 hw (bg_V ml_T_264 wi_T_findNameFrom wv_T_findNameFrom wz_T wc_T_findNameFrom) rfl rfl rfl (by decide +kernel) ⟨Nat.le_of_ble_eq_true rfl, Nat.le_of_ble_eq_true rfl⟩) ⟨qPf_b, va_recv hK hP (ci := 5) (q0 := 0) rfl rfl, qPf_p hP hK hD hF hS (g_free hD hS hA)⟩ rfl rfl hl.1 rfl (lv_room (Nat.le_of_ble_eq_true rfl)) d_T_findWordFrom_26 ⟨Nat.le_of_ble_eq_true rfl, Nat.le_of_ble_eq_true rfl⟩) hD hS hA (fun r10 u9 H locs hr10 hP hD hS => ?_)
      obtain ⟨u11, u12, u13, u14⟩ := u9
      dsimp only at hr10 hP hD
      have hP : va_P D gC (cX T aa zw kp fp u11 u12 u13 u14 kt ft ks fs fc S ++ tl T S) H := hP
      have hD : va_D A (cX T aa zw kp fp u11 u12 u13 u14 kt ft ks fs fc S ++ tl T S) := hD
      rcases hr10 with ⟨g0, g1⟩ | ⟨g0, g1⟩
      · subst g0
        refine lv_if_eq (tgt := 36) hx hb d_T_findWordFrom_29 (by decide) (fun c15 => absurd c15 (by decide)) (fun c15 => ?_)
        refine lv_iconst (v := 1) hx hb d_T_findWordFrom_32 (by decide) ?_
        refine lv_goto (tgt := 37) hx hb d_T_findWordFrom_33 (by decide) ?_
        exact W.zret (v := 1) hx hb hr rfl (fun t ht hW => ⟨⟨1, (u11, u12, u13, u14), rfl, (by obtain ⟨i, n, r9, k1, k2, k3, k4, k5, k6, k7⟩ := g1; have hco := hy6.2.2.1 t9 i n (ce_mt hy3 k1 k2) k1 k2; rw [k3] at hco; exact Or.inl ⟨rfl, _, by rw [wd_none hfb, hco]; rfl, hy6.2.2.2 t9 _ hco, by rw [k4, k5, k6, k7]; exact fnd_of⟩), by rw [ht]; exact hP, va_K.moved hW.alike hK, hD⟩, hS.F ht⟩) hS.2.2 d_T_findWordFrom_37
      · subst g0
        refine lv_if_eq (tgt := 36) hx hb d_T_findWordFrom_29 (by decide) (fun c16 => ?_) (fun c16 => absurd c16 (by decide))
        refine lv_iconst (v := 0) hx hb d_T_findWordFrom_36 (by decide) ?_
        exact W.zret (v := 0) hx hb hr rfl (fun t ht hW => ⟨⟨0, (u11, u12, u13, u14), rfl, (by refine Or.inr ⟨rfl, ?_⟩; rw [wd_none hfb]; exact co_no hy3 hy6 c0 g1), by rw [ht]; exact hP, va_K.moved hW.alike hK, hD⟩, hS.F ht⟩) hS.2.2 d_T_findWordFrom_37
  · refine W.eq (g2 := F0 m 5 ls [.int (nI b)]) rfl ?_
    obtain ⟨hb6, hbp⟩ := fb_lt hfb
    have hbl : t9 + jl b ≤ kp := hbp.1
    refine lv_istore (lv' := [(5, .int (nI b)), (0, .ref (aa 0)), (1, .int (nI t9)), (2, .int 5), (3, .int x), (4, .int y)]) hx hb d_T_findWordFrom_5 hl (by decide) rfl (fun ls hl => ?_)
    refine lv_iload hx hb d_T_findWordFrom_7 (lv_at hl 0 rfl) ?_
    refine lv_iconst (v := (-1)) hx hb d_T_findWordFrom_9 (by decide) ?_
    refine lv_icmp_ne (tgt := 38) hx hb d_T_findWordFrom_10 (by decide) (fun c17 => ?_) (fun c17 => absurd c17 ((nI_m1 (by omega))))
    refine lv_iload_n hx hb d_T_findWordFrom_38 rfl (lv_at hl 3 rfl) ?_
    refine lv_iconst (v := 5) hx hb d_T_findWordFrom_39 (by decide) ?_
    refine lv_icmp_lt (tgt := 45) hx hb d_T_findWordFrom_40 (by decide) (fun c18 => absurd c18 (by decide)) (fun c18 => ?_)
    refine lv_iconst (v := 0) hx hb d_T_findWordFrom_43 (by decide) ?_
    exact W.zret (v := 0) hx hb hr rfl (fun t ht hW => ⟨⟨0, (e0, e1, oF, oT), rfl, (Or.inr ⟨rfl, wd_zero hfb⟩), by rw [ht]; exact hP, va_K.moved hW.alike hK, hD⟩, hS.F ht⟩) hS.2.2 d_T_findWordFrom_44

set_option maxHeartbeats 4000000 in
set_option maxRecDepth 100000 in
theorem k_T_findWordFrom_a4 (l : Launch) (D : va_G) (T : gT) (κ : gS) (aa : Nat → Nat) (zw : Int32) (kp : Nat) (fp : Nat → Int32) (e0 e1 : Int32) (oF oT : Bool) (kt : Nat) (ft : Nat → Int32) (ks : Nat) (fs fc : Nat → Int32) (S : tS) (sz : Nat) (t9 : Nat) (x y : Int32) (co : Nat → Option jS) (hy0 : tOk κ S) (hy1 : kp ≤ 24) (hy2 : t9 ≤ kp) (hy3 : lOk S) (hy4 : 0 ≤ zw.toInt) (hy5 : zw.toInt ≤ 1000) (hy6 : c_co fp kp S x y co) : Met l y_T_findWordFrom (Cond.code y_T_findWordFrom b_T_findWordFrom 6 (some .boolean) :: bg_W) ({ frames := 7, cells := 0, slots := 0, locals := 163 }) (qPf κ D T (cX T aa zw kp fp e0 e1 oF oT kt ft ks fs fc S ++ tl T S) [.ref (aa 0), .int (nI t9), .int 4, .int x, .int y] sz) (va_Qi (fun (r : Int32) (u : Int32 × Int32 × Bool × Bool) => match u with | (w0, w1, v2, v3) => (r = 1 ∧ ∃ u, j_wd (j_fb fp kp) co (j_ap zw) 1 t9 = some u ∧ jOk u ∧ fnd u w0 w1 v2 v3) ∨ (r = 0 ∧ j_wd (j_fb fp kp) co (j_ap zw) 1 t9 = none)) (qB D T (va_A (cX T aa zw kp fp e0 e1 oF oT kt ft ks fs fc S ++ tl T S) sz) (fun u : Int32 × Int32 × Bool × Bool => match u with | (w0, w1, v2, v3) => cX T aa zw kp fp w0 w1 v2 v3 kt ft ks fs fc S ++ tl T S)) (va_A (cX T aa zw kp fp e0 e1 oF oT kt ft ks fs fc S ++ tl T S) sz)) 0 0 (va_A (cX T aa zw kp fp e0 e1 oF oT kt ft ks fs fc S ++ tl T S) sz) := by
  refine Met.ofW (cc := b_T_findWordFrom) (maxL := 6) (ret := (some .boolean)) (by decide) rfl ?_
  intro p e s m args below meth c s₁ B hml hv
  obtain ⟨rfl, hsz, hP, hK, hD0, hF⟩ := hv
  have hx := B.exec
  have hb := B.bytes
  have hr := B.returns
  have hw : ∀ w ∈ bg_W, w.before ([.ref (aa 0), .int (nI t9), .int 4, .int x, .int y] : List Value).toArray s = true := fun w h => atoms_spec (ws := (Cond.code y_T_findWordFrom b_T_findWordFrom 6 (some .boolean) :: bg_W)) B.pre w (List.mem_cons_of_mem _ h)
  have hown : s.vm.findClass "TimeWords" = some m.cls := findClass_of_methodNamed B.named
  have hlocks := B.notSynchronized
  subst hsz
  have hD := hD0.self (sz := s.heap.size)
  generalize hAe : va_A (cX T aa zw kp fp e0 e1 oF oT kt ft ks fs fc S ++ tl T S) s.heap.size = A at hD hF ⊢
  have hA : ∀ q : Nat, s.heap.size ≤ q → A q := fun q h => by rw [← hAe]; exact Or.inr h
  have hS : va_S A s.heap s.heap [] := va_S.rf
  have hl := lv_entry ([.ref (aa 0), .int (nI t9), .int 4, .int x, .int y]) (n := 6) (Nat.le_of_ble_eq_true rfl)
  rw [lg_entry_eq]
  generalize (lg_sl ([.ref (aa 0), .int (nI t9), .int 4, .int x, .int y]) ++ List.replicate (6 - (lg_sl ([.ref (aa 0), .int (nI t9), .int 4, .int x, .int y])).length) Slot.unset).toArray = ls at hl ⊢
  have hl : lv_has ls 6 [(0, .ref (aa 0)), (1, .int (nI t9)), (2, .int 4), (3, .int x), (4, .int y)] := hl
  have hL1 : S.2.1.length ≤ 24 := hy0.2.2.2.1
  have hL2 : S.2.2.2.length ≤ 60 := hy0.2.2.2.2
  refine lv_aload_n hx hb d_T_findWordFrom_0 rfl (lv_at hl 0 rfl) ?_
  refine lv_iload_n hx hb d_T_findWordFrom_1 rfl (lv_at hl 1 rfl) ?_
  refine vp_callSi (va_Run.run (va_runV (As := [.int (nI t9)]) (rest := []) ⟨hx, hb, hml, hown, hw⟩ (k_T_beginningAt l D T κ A aa zw kp fp e0 e1 oF oT kt ft ks fs fc S t9 hy1 (by omega)) (cwV 1 hw (bg_V ml_T_258 wi_T_beginningAt wv_T_beginningAt wz_T wc_T_beginningAt) rfl rfl rfl (by decide +kernel) ⟨Nat.le_of_ble_eq_true rfl, Nat.le_of_ble_eq_true rfl⟩) ⟨sPf_b, va_recv hK hP (ci := 5) (q0 := 0) rfl rfl, sPf_p hP hK hF hS⟩ rfl rfl hl.1 rfl (lv_room (Nat.le_of_ble_eq_true rfl)) d_T_findWordFrom_2 ⟨Nat.le_of_ble_eq_true rfl, Nat.le_of_ble_eq_true rfl⟩)) (fun r1 hr1 => ?_)
  replace hr1 := hr1.symm; subst hr1
  rcases hfb : j_fb fp kp t9 with _ | b
  · refine W.eq (g2 := F0 m 5 ls [.int (-1)]) rfl ?_
    refine lv_istore (lv' := [(5, .int (-1)), (0, .ref (aa 0)), (1, .int (nI t9)), (2, .int 4), (3, .int x), (4, .int y)]) hx hb d_T_findWordFrom_5 hl (by decide) rfl (fun ls hl => ?_)
    refine lv_iload hx hb d_T_findWordFrom_7 (lv_at hl 0 rfl) ?_
    refine lv_iconst (v := (-1)) hx hb d_T_findWordFrom_9 (by decide) ?_
    refine lv_icmp_ne (tgt := 38) hx hb d_T_findWordFrom_10 (by decide) (fun c2 => absurd c2 (by decide)) (fun c2 => ?_)
    refine lv_aload_n hx hb d_T_findWordFrom_13 rfl (lv_at hl 1 rfl) ?_
    refine lv_iload_n hx hb d_T_findWordFrom_14 rfl (lv_at hl 2 rfl) ?_
    refine g_calli (va_runV (As := [.int (nI t9)]) (rest := []) ⟨hx, hb, hml, hown, hw⟩ (k_T_findCenturyFrom l D T κ aa zw kp fp e0 e1 oF oT kt ft ks fs fc S s.heap.size t9 hy1 hy2) (cwV 1 hw (bg_V ml_T_261 wi_T_findCenturyFrom wv_T_findCenturyFrom wz_T wc_T_findCenturyFrom) rfl rfl rfl (by decide +kernel) ⟨Nat.le_of_ble_eq_true rfl, Nat.le_of_ble_eq_true rfl⟩) ⟨qPf_b, va_recv hK hP (ci := 5) (q0 := 0) rfl rfl, qPf_p hP hK hD hF hS (g_free hD hS hA)⟩ rfl rfl hl.1 rfl (lv_room (Nat.le_of_ble_eq_true rfl)) d_T_findWordFrom_15 ⟨Nat.le_of_ble_eq_true rfl, Nat.le_of_ble_eq_true rfl⟩) hD hS hA (fun r3 u9 H locs hr3 hP hD hS => ?_)
    obtain ⟨u4, u5, u6, u7⟩ := u9
    dsimp only at hr3 hP hD
    have hP : va_P D gC (cX T aa zw kp fp u4 u5 u6 u7 kt ft ks fs fc S ++ tl T S) H := hP
    have hD : va_D A (cX T aa zw kp fp u4 u5 u6 u7 kt ft ks fs fc S ++ tl T S) := hD
    rcases hr3 with ⟨c0, c0b, g0, c1, c2, c3, c4⟩ | ⟨c0, g0⟩
    · subst g0
      refine lv_if_ne (tgt := 32) hx hb d_T_findWordFrom_18 (by decide) (fun c8 => ?_) (fun c8 => absurd c8 (by decide))
      refine lv_iconst (v := 1) hx hb d_T_findWordFrom_32 (by decide) ?_
      refine lv_goto (tgt := 37) hx hb d_T_findWordFrom_33 (by decide) ?_
      exact W.zret (v := 1) hx hb hr rfl (fun t ht hW => ⟨⟨1, (u4, u5, u6, u7), rfl, (Or.inl ⟨rfl, _, by rw [wd_none hfb, hy6.1 t9 c0, if_neg c0b], cv_ok c0 c0b, by rw [c1, c2, c3, c4]; exact fnd_of⟩), by rw [ht]; exact hP, va_K.moved hW.alike hK, hD⟩, hS.F ht⟩) hS.2.2 d_T_findWordFrom_37
    · subst g0
      refine lv_if_ne (tgt := 32) hx hb d_T_findWordFrom_18 (by decide) (fun c9 => absurd c9 (by decide)) (fun c9 => ?_)
      refine lv_aload_n hx hb d_T_findWordFrom_21 rfl (lv_at hl 1 rfl) ?_
      refine lv_iload_n hx hb d_T_findWordFrom_22 rfl (lv_at hl 2 rfl) ?_
      refine lv_iload_n hx hb d_T_findWordFrom_23 rfl (lv_at hl 4 rfl) ?_
      refine lv_iload hx hb d_T_findWordFrom_24 (lv_at hl 5 rfl) ?_
      refine g_calli (va_runV (As := [.int (nI t9), .int x, .int y]) (rest := []) ⟨hx, hb, hml, hown, hw⟩ (k_T_findNameFrom l D T κ aa zw kp fp u4 u5 u6 u7 kt ft ks fs fc S H.size t9 x y hy0 hy1 hy2) (cwV 3 hw (bg_V ml_T_264 wi_T_findNameFrom wv_T_findNameFrom wz_T wc_T_findNameFrom) rfl rfl rfl (by decide +kernel) ⟨Nat.le_of_ble_eq_true rfl, Nat.le_of_ble_eq_true rfl⟩) ⟨qPf_b, va_recv hK hP (ci := 5) (q0 := 0) rfl rfl, qPf_p hP hK hD hF hS (g_free hD hS hA)⟩ rfl rfl hl.1 rfl (lv_room (Nat.le_of_ble_eq_true rfl)) d_T_findWordFrom_26 ⟨Nat.le_of_ble_eq_true rfl, Nat.le_of_ble_eq_true rfl⟩) hD hS hA (fun r10 u9 H locs hr10 hP hD hS => ?_)
      obtain ⟨u11, u12, u13, u14⟩ := u9
      dsimp only at hr10 hP hD
      have hP : va_P D gC (cX T aa zw kp fp u11 u12 u13 u14 kt ft ks fs fc S ++ tl T S) H := hP
      have hD : va_D A (cX T aa zw kp fp u11 u12 u13 u14 kt ft ks fs fc S ++ tl T S) := hD
      rcases hr10 with ⟨g0, g1⟩ | ⟨g0, g1⟩
      · subst g0
        refine lv_if_eq (tgt := 36) hx hb d_T_findWordFrom_29 (by decide) (fun c15 => absurd c15 (by decide)) (fun c15 => ?_)
        refine lv_iconst (v := 1) hx hb d_T_findWordFrom_32 (by decide) ?_
        refine lv_goto (tgt := 37) hx hb d_T_findWordFrom_33 (by decide) ?_
        exact W.zret (v := 1) hx hb hr rfl (fun t ht hW => ⟨⟨1, (u11, u12, u13, u14), rfl, (by obtain ⟨i, n, r9, k1, k2, k3, k4, k5, k6, k7⟩ := g1; have hco := hy6.2.2.1 t9 i n (ce_mt hy3 k1 k2) k1 k2; rw [k3] at hco; exact Or.inl ⟨rfl, _, by rw [wd_none hfb, hco]; rfl, hy6.2.2.2 t9 _ hco, by rw [k4, k5, k6, k7]; exact fnd_of⟩), by rw [ht]; exact hP, va_K.moved hW.alike hK, hD⟩, hS.F ht⟩) hS.2.2 d_T_findWordFrom_37
      · subst g0
        refine lv_if_eq (tgt := 36) hx hb d_T_findWordFrom_29 (by decide) (fun c16 => ?_) (fun c16 => absurd c16 (by decide))
        refine lv_iconst (v := 0) hx hb d_T_findWordFrom_36 (by decide) ?_
        exact W.zret (v := 0) hx hb hr rfl (fun t ht hW => ⟨⟨0, (u11, u12, u13, u14), rfl, (by refine Or.inr ⟨rfl, ?_⟩; rw [wd_none hfb]; exact co_no hy3 hy6 c0 g1), by rw [ht]; exact hP, va_K.moved hW.alike hK, hD⟩, hS.F ht⟩) hS.2.2 d_T_findWordFrom_37
  · refine W.eq (g2 := F0 m 5 ls [.int (nI b)]) rfl ?_
    obtain ⟨hb6, hbp⟩ := fb_lt hfb
    have hbl : t9 + jl b ≤ kp := hbp.1
    refine lv_istore (lv' := [(5, .int (nI b)), (0, .ref (aa 0)), (1, .int (nI t9)), (2, .int 4), (3, .int x), (4, .int y)]) hx hb d_T_findWordFrom_5 hl (by decide) rfl (fun ls hl => ?_)
    refine lv_iload hx hb d_T_findWordFrom_7 (lv_at hl 0 rfl) ?_
    refine lv_iconst (v := (-1)) hx hb d_T_findWordFrom_9 (by decide) ?_
    refine lv_icmp_ne (tgt := 38) hx hb d_T_findWordFrom_10 (by decide) (fun c17 => ?_) (fun c17 => absurd c17 ((nI_m1 (by omega))))
    refine lv_iload_n hx hb d_T_findWordFrom_38 rfl (lv_at hl 3 rfl) ?_
    refine lv_iconst (v := 5) hx hb d_T_findWordFrom_39 (by decide) ?_
    refine lv_icmp_lt (tgt := 45) hx hb d_T_findWordFrom_40 (by decide) (fun c18 => ?_) (fun c18 => absurd c18 (by decide))
    refine lv_aload_n hx hb d_T_findWordFrom_45 rfl (lv_at hl 1 rfl) ?_
    refine lv_iload_n hx hb d_T_findWordFrom_46 rfl (lv_at hl 2 rfl) ?_
    refine lv_iload hx hb d_T_findWordFrom_47 (lv_at hl 0 rfl) ?_
    have hPc : va_P D gC ([]) s.heap := pc0
    refine va_csq (va_Run.run (va_runS (As := [.int (nI b)]) (rest := [.int (nI t9), .ref (aa 0)]) ⟨hx, hb, hml, hown, hw⟩ (k_T_beginning l D T κ A b hb6) (va_cwS 1 hw (bg_S ml_T_268 wt_T_beginning wz_T wc_T_beginning) rfl rfl rfl (by decide +kernel) ⟨Nat.le_of_ble_eq_true rfl, Nat.le_of_ble_eq_true rfl⟩) ⟨sPf_b, sPf_p hPc hK hF hS⟩ rfl rfl hl.1 rfl (lv_room (Nat.le_of_ble_eq_true rfl)) d_T_findWordFrom_49 ⟨Nat.le_of_ble_eq_true rfl, Nat.le_of_ble_eq_true rfl⟩)) (fun r19 hr19 => ?_)
    replace hr19 := hr19.symm; subst hr19
    refine W.eq (g2 := F0 m 52 ls [.ref (κ.1 (282 + 2 * b)), .int (nI t9), .ref (aa 0)]) rfl ?_
    have hPc : va_P D gC ([]) s.heap := pc0
    refine vp_callSi (va_Run.run (va_runV (As := []) (rest := [.int (nI t9), .ref (aa 0)]) ⟨hx, hb, hml, hown, hw⟩ (k_S_length l D T κ A b (by omega)) (cwV 0 hw (bg_V ml_T_272 wi_S_length wv_S_length wz_S wc_S_length) rfl rfl rfl (by decide +kernel) ⟨Nat.le_of_ble_eq_true rfl, Nat.le_of_ble_eq_true rfl⟩) ⟨sPf_b, va_Orecv (hF.1 b (by omega)).1 hS, sPf_p hPc hK hF hS⟩ rfl rfl hl.1 rfl (lv_room (Nat.le_of_ble_eq_true rfl)) d_T_findWordFrom_52 ⟨Nat.le_of_ble_eq_true rfl, Nat.le_of_ble_eq_true rfl⟩)) (fun r20 hr20 => ?_)
    replace hr20 := hr20.symm; subst hr20
    rw [sx_jl b hb6]
    refine lv_iadd hx hb d_T_findWordFrom_55 ?_
    rw [show (nI t9) + (nI (jl b)) = nI (t9 + (jl b)) from nI_add t9 (jl b)]
    refine lv_iload_n hx hb d_T_findWordFrom_56 rfl (lv_at hl 3 rfl) ?_
    refine lv_iconst (v := 1) hx hb d_T_findWordFrom_57 (by decide) ?_
    refine lv_iadd hx hb d_T_findWordFrom_58 ?_
    rw [show (4 : Int32) + 1 = 5 from by decide]
    refine lv_iload_n hx hb d_T_findWordFrom_59 rfl (lv_at hl 4 rfl) ?_
    refine lv_iload hx hb d_T_findWordFrom_60 (lv_at hl 5 rfl) ?_
    refine g_calli (va_runV (As := [.int (nI (t9 + (jl b))), .int 5, .int x, .int y]) (rest := []) ⟨hx, hb, hml, hown, hw⟩ (k_T_findWordFrom_a5 l D T κ aa zw kp fp e0 e1 oF oT kt ft ks fs fc S s.heap.size (t9 + (jl b)) x y co hy0 hy1 hbl hy3 hy4 hy5 hy6) (cwV 4 hw (bg_V ml_T_131 wi_T_findWordFrom wv_T_findWordFrom wz_T wc_T_findWordFrom) rfl rfl rfl (by decide +kernel) ⟨Nat.le_of_ble_eq_true rfl, Nat.le_of_ble_eq_true rfl⟩) ⟨qPf_b, va_recv hK hP (ci := 5) (q0 := 0) rfl rfl, qPf_p hP hK hD hF hS (g_free hD hS hA)⟩ rfl rfl hl.1 rfl (lv_room (Nat.le_of_ble_eq_true rfl)) d_T_findWordFrom_62 ⟨Nat.le_of_ble_eq_true rfl, Nat.le_of_ble_eq_true rfl⟩) hD hS hA (fun r21 u9 H locs hr21 hP hD hS => ?_)
    obtain ⟨u22, u23, u24, u25⟩ := u9
    dsimp only at hr21 hP hD
    have hP : va_P D gC (cX T aa zw kp fp u22 u23 u24 u25 kt ft ks fs fc S ++ tl T S) H := hP
    have hD : va_D A (cX T aa zw kp fp u22 u23 u24 u25 kt ft ks fs fc S ++ tl T S) := hD
    rcases hr21 with ⟨g0, g1⟩ | ⟨g0, g1⟩
    · subst g0
      obtain ⟨u, hu1, hu2, hu3⟩ := g1
      refine lv_if_eq (tgt := 81) hx hb d_T_findWordFrom_65 (by decide) (fun c26 => absurd c26 (by decide)) (fun c26 => ?_)
      refine lv_aload_n hx hb d_T_findWordFrom_68 rfl (lv_at hl 1 rfl) ?_
      refine lv_iload hx hb d_T_findWordFrom_69 (lv_at hl 0 rfl) ?_
      refine g_calli (va_runV (As := [.int (nI b)]) (rest := []) ⟨hx, hb, hml, hown, hw⟩ (k_T_begin l D T κ aa zw kp fp u22 u23 u24 u25 kt ft ks fs fc S H.size b u hb6 hu2 hu3 hy4 hy5) (cwV 1 hw (bg_V ml_T_275 wi_T_begin wv_T_begin wz_T wc_T_begin) rfl rfl rfl (by decide +kernel) ⟨Nat.le_of_ble_eq_true rfl, Nat.le_of_ble_eq_true rfl⟩) ⟨qPf_b, va_recv hK hP (ci := 5) (q0 := 0) rfl rfl, qPf_p hP hK hD hF hS (g_free hD hS hA)⟩ rfl rfl hl.1 rfl (lv_room (Nat.le_of_ble_eq_true rfl)) d_T_findWordFrom_71 ⟨Nat.le_of_ble_eq_true rfl, Nat.le_of_ble_eq_true rfl⟩) hD hS hA (fun r27 u9 H locs hr27 hP hD hS => ?_)
      obtain ⟨u28, u29, u30, u31⟩ := u9
      dsimp only at hr27 hP hD
      have hP : va_P D gC (cX T aa zw kp fp u28 u29 u30 u31 kt ft ks fs fc S ++ tl T S) H := hP
      have hD : va_D A (cX T aa zw kp fp u28 u29 u30 u31 kt ft ks fs fc S ++ tl T S) := hD
      rcases hr27 with ⟨g0, g1⟩ | ⟨g0, g1⟩
      · subst g0
        refine lv_if_eq (tgt := 81) hx hb d_T_findWordFrom_74 (by decide) (fun c32 => absurd c32 (by decide)) (fun c32 => ?_)
        refine lv_iconst (v := 1) hx hb d_T_findWordFrom_77 (by decide) ?_
        refine lv_goto (tgt := 82) hx hb d_T_findWordFrom_78 (by decide) ?_
        exact W.zret (v := 1) hx hb hr rfl (fun t ht hW => ⟨⟨1, (u28, u29, u30, u31), rfl, (by obtain ⟨u1, k1, k2, k3⟩ := g1; exact Or.inl ⟨rfl, u1, by rw [wd_some hfb, hu1]; exact k1, k2, k3⟩), by rw [ht]; exact hP, va_K.moved hW.alike hK, hD⟩, hS.F ht⟩) hS.2.2 d_T_findWordFrom_82
      · subst g0
        refine lv_if_eq (tgt := 81) hx hb d_T_findWordFrom_74 (by decide) (fun c33 => ?_) (fun c33 => absurd c33 (by decide))
        refine lv_iconst (v := 0) hx hb d_T_findWordFrom_81 (by decide) ?_
        exact W.zret (v := 0) hx hb hr rfl (fun t ht hW => ⟨⟨0, (u28, u29, u30, u31), rfl, (by refine Or.inr ⟨rfl, ?_⟩; rw [wd_some hfb, hu1]; exact g1), by rw [ht]; exact hP, va_K.moved hW.alike hK, hD⟩, hS.F ht⟩) hS.2.2 d_T_findWordFrom_82
    · subst g0
      refine lv_if_eq (tgt := 81) hx hb d_T_findWordFrom_65 (by decide) (fun c34 => ?_) (fun c34 => absurd c34 (by decide))
      refine lv_iconst (v := 0) hx hb d_T_findWordFrom_81 (by decide) ?_
      exact W.zret (v := 0) hx hb hr rfl (fun t ht hW => ⟨⟨0, (u22, u23, u24, u25), rfl, (by refine Or.inr ⟨rfl, ?_⟩; rw [wd_some hfb, g1]; rfl), by rw [ht]; exact hP, va_K.moved hW.alike hK, hD⟩, hS.F ht⟩) hS.2.2 d_T_findWordFrom_82

set_option maxHeartbeats 4000000 in
set_option maxRecDepth 100000 in
theorem k_T_findWordFrom_a3 (l : Launch) (D : va_G) (T : gT) (κ : gS) (aa : Nat → Nat) (zw : Int32) (kp : Nat) (fp : Nat → Int32) (e0 e1 : Int32) (oF oT : Bool) (kt : Nat) (ft : Nat → Int32) (ks : Nat) (fs fc : Nat → Int32) (S : tS) (sz : Nat) (t9 : Nat) (x y : Int32) (co : Nat → Option jS) (hy0 : tOk κ S) (hy1 : kp ≤ 24) (hy2 : t9 ≤ kp) (hy3 : lOk S) (hy4 : 0 ≤ zw.toInt) (hy5 : zw.toInt ≤ 1000) (hy6 : c_co fp kp S x y co) : Met l y_T_findWordFrom (Cond.code y_T_findWordFrom b_T_findWordFrom 6 (some .boolean) :: bg_W) ({ frames := 8, cells := 0, slots := 0, locals := 188 }) (qPf κ D T (cX T aa zw kp fp e0 e1 oF oT kt ft ks fs fc S ++ tl T S) [.ref (aa 0), .int (nI t9), .int 3, .int x, .int y] sz) (va_Qi (fun (r : Int32) (u : Int32 × Int32 × Bool × Bool) => match u with | (w0, w1, v2, v3) => (r = 1 ∧ ∃ u, j_wd (j_fb fp kp) co (j_ap zw) 2 t9 = some u ∧ jOk u ∧ fnd u w0 w1 v2 v3) ∨ (r = 0 ∧ j_wd (j_fb fp kp) co (j_ap zw) 2 t9 = none)) (qB D T (va_A (cX T aa zw kp fp e0 e1 oF oT kt ft ks fs fc S ++ tl T S) sz) (fun u : Int32 × Int32 × Bool × Bool => match u with | (w0, w1, v2, v3) => cX T aa zw kp fp w0 w1 v2 v3 kt ft ks fs fc S ++ tl T S)) (va_A (cX T aa zw kp fp e0 e1 oF oT kt ft ks fs fc S ++ tl T S) sz)) 0 0 (va_A (cX T aa zw kp fp e0 e1 oF oT kt ft ks fs fc S ++ tl T S) sz) := by
  refine Met.ofW (cc := b_T_findWordFrom) (maxL := 6) (ret := (some .boolean)) (by decide) rfl ?_
  intro p e s m args below meth c s₁ B hml hv
  obtain ⟨rfl, hsz, hP, hK, hD0, hF⟩ := hv
  have hx := B.exec
  have hb := B.bytes
  have hr := B.returns
  have hw : ∀ w ∈ bg_W, w.before ([.ref (aa 0), .int (nI t9), .int 3, .int x, .int y] : List Value).toArray s = true := fun w h => atoms_spec (ws := (Cond.code y_T_findWordFrom b_T_findWordFrom 6 (some .boolean) :: bg_W)) B.pre w (List.mem_cons_of_mem _ h)
  have hown : s.vm.findClass "TimeWords" = some m.cls := findClass_of_methodNamed B.named
  have hlocks := B.notSynchronized
  subst hsz
  have hD := hD0.self (sz := s.heap.size)
  generalize hAe : va_A (cX T aa zw kp fp e0 e1 oF oT kt ft ks fs fc S ++ tl T S) s.heap.size = A at hD hF ⊢
  have hA : ∀ q : Nat, s.heap.size ≤ q → A q := fun q h => by rw [← hAe]; exact Or.inr h
  have hS : va_S A s.heap s.heap [] := va_S.rf
  have hl := lv_entry ([.ref (aa 0), .int (nI t9), .int 3, .int x, .int y]) (n := 6) (Nat.le_of_ble_eq_true rfl)
  rw [lg_entry_eq]
  generalize (lg_sl ([.ref (aa 0), .int (nI t9), .int 3, .int x, .int y]) ++ List.replicate (6 - (lg_sl ([.ref (aa 0), .int (nI t9), .int 3, .int x, .int y])).length) Slot.unset).toArray = ls at hl ⊢
  have hl : lv_has ls 6 [(0, .ref (aa 0)), (1, .int (nI t9)), (2, .int 3), (3, .int x), (4, .int y)] := hl
  have hL1 : S.2.1.length ≤ 24 := hy0.2.2.2.1
  have hL2 : S.2.2.2.length ≤ 60 := hy0.2.2.2.2
  refine lv_aload_n hx hb d_T_findWordFrom_0 rfl (lv_at hl 0 rfl) ?_
  refine lv_iload_n hx hb d_T_findWordFrom_1 rfl (lv_at hl 1 rfl) ?_
  refine vp_callSi (va_Run.run (va_runV (As := [.int (nI t9)]) (rest := []) ⟨hx, hb, hml, hown, hw⟩ (k_T_beginningAt l D T κ A aa zw kp fp e0 e1 oF oT kt ft ks fs fc S t9 hy1 (by omega)) (cwV 1 hw (bg_V ml_T_258 wi_T_beginningAt wv_T_beginningAt wz_T wc_T_beginningAt) rfl rfl rfl (by decide +kernel) ⟨Nat.le_of_ble_eq_true rfl, Nat.le_of_ble_eq_true rfl⟩) ⟨sPf_b, va_recv hK hP (ci := 5) (q0 := 0) rfl rfl, sPf_p hP hK hF hS⟩ rfl rfl hl.1 rfl (lv_room (Nat.le_of_ble_eq_true rfl)) d_T_findWordFrom_2 ⟨Nat.le_of_ble_eq_true rfl, Nat.le_of_ble_eq_true rfl⟩)) (fun r1 hr1 => ?_)
  replace hr1 := hr1.symm; subst hr1
  rcases hfb : j_fb fp kp t9 with _ | b
  · refine W.eq (g2 := F0 m 5 ls [.int (-1)]) rfl ?_
    refine lv_istore (lv' := [(5, .int (-1)), (0, .ref (aa 0)), (1, .int (nI t9)), (2, .int 3), (3, .int x), (4, .int y)]) hx hb d_T_findWordFrom_5 hl (by decide) rfl (fun ls hl => ?_)
    refine lv_iload hx hb d_T_findWordFrom_7 (lv_at hl 0 rfl) ?_
    refine lv_iconst (v := (-1)) hx hb d_T_findWordFrom_9 (by decide) ?_
    refine lv_icmp_ne (tgt := 38) hx hb d_T_findWordFrom_10 (by decide) (fun c2 => absurd c2 (by decide)) (fun c2 => ?_)
    refine lv_aload_n hx hb d_T_findWordFrom_13 rfl (lv_at hl 1 rfl) ?_
    refine lv_iload_n hx hb d_T_findWordFrom_14 rfl (lv_at hl 2 rfl) ?_
    refine g_calli (va_runV (As := [.int (nI t9)]) (rest := []) ⟨hx, hb, hml, hown, hw⟩ (k_T_findCenturyFrom l D T κ aa zw kp fp e0 e1 oF oT kt ft ks fs fc S s.heap.size t9 hy1 hy2) (cwV 1 hw (bg_V ml_T_261 wi_T_findCenturyFrom wv_T_findCenturyFrom wz_T wc_T_findCenturyFrom) rfl rfl rfl (by decide +kernel) ⟨Nat.le_of_ble_eq_true rfl, Nat.le_of_ble_eq_true rfl⟩) ⟨qPf_b, va_recv hK hP (ci := 5) (q0 := 0) rfl rfl, qPf_p hP hK hD hF hS (g_free hD hS hA)⟩ rfl rfl hl.1 rfl (lv_room (Nat.le_of_ble_eq_true rfl)) d_T_findWordFrom_15 ⟨Nat.le_of_ble_eq_true rfl, Nat.le_of_ble_eq_true rfl⟩) hD hS hA (fun r3 u9 H locs hr3 hP hD hS => ?_)
    obtain ⟨u4, u5, u6, u7⟩ := u9
    dsimp only at hr3 hP hD
    have hP : va_P D gC (cX T aa zw kp fp u4 u5 u6 u7 kt ft ks fs fc S ++ tl T S) H := hP
    have hD : va_D A (cX T aa zw kp fp u4 u5 u6 u7 kt ft ks fs fc S ++ tl T S) := hD
    rcases hr3 with ⟨c0, c0b, g0, c1, c2, c3, c4⟩ | ⟨c0, g0⟩
    · subst g0
      refine lv_if_ne (tgt := 32) hx hb d_T_findWordFrom_18 (by decide) (fun c8 => ?_) (fun c8 => absurd c8 (by decide))
      refine lv_iconst (v := 1) hx hb d_T_findWordFrom_32 (by decide) ?_
      refine lv_goto (tgt := 37) hx hb d_T_findWordFrom_33 (by decide) ?_
      exact W.zret (v := 1) hx hb hr rfl (fun t ht hW => ⟨⟨1, (u4, u5, u6, u7), rfl, (Or.inl ⟨rfl, _, by rw [wd_none hfb, hy6.1 t9 c0, if_neg c0b], cv_ok c0 c0b, by rw [c1, c2, c3, c4]; exact fnd_of⟩), by rw [ht]; exact hP, va_K.moved hW.alike hK, hD⟩, hS.F ht⟩) hS.2.2 d_T_findWordFrom_37
    · subst g0
      refine lv_if_ne (tgt := 32) hx hb d_T_findWordFrom_18 (by decide) (fun c9 => absurd c9 (by decide)) (fun c9 => ?_)
      refine lv_aload_n hx hb d_T_findWordFrom_21 rfl (lv_at hl 1 rfl) ?_
      refine lv_iload_n hx hb d_T_findWordFrom_22 rfl (lv_at hl 2 rfl) ?_
      refine lv_iload_n hx hb d_T_findWordFrom_23 rfl (lv_at hl 4 rfl) ?_
      refine lv_iload hx hb d_T_findWordFrom_24 (lv_at hl 5 rfl) ?_
      refine g_calli (va_runV (As := [.int (nI t9), .int x, .int y]) (rest := []) ⟨hx, hb, hml, hown, hw⟩ (k_T_findNameFrom l D T κ aa zw kp fp u4 u5 u6 u7 kt ft ks fs fc S H.size t9 x y hy0 hy1 hy2) (cwV 3 hw (bg_V ml_T_264 wi_T_findNameFrom wv_T_findNameFrom wz_T wc_T_findNameFrom) rfl rfl rfl (by decide +kernel) ⟨Nat.le_of_ble_eq_true rfl, Nat.le_of_ble_eq_true rfl⟩) ⟨qPf_b, va_recv hK hP (ci := 5) (q0 := 0) rfl rfl, qPf_p hP hK hD hF hS (g_free hD hS hA)⟩ rfl rfl hl.1 rfl (lv_room (Nat.le_of_ble_eq_true rfl)) d_T_findWordFrom_26 ⟨Nat.le_of_ble_eq_true rfl, Nat.le_of_ble_eq_true rfl⟩) hD hS hA (fun r10 u9 H locs hr10 hP hD hS => ?_)
      obtain ⟨u11, u12, u13, u14⟩ := u9
      dsimp only at hr10 hP hD
      have hP : va_P D gC (cX T aa zw kp fp u11 u12 u13 u14 kt ft ks fs fc S ++ tl T S) H := hP
      have hD : va_D A (cX T aa zw kp fp u11 u12 u13 u14 kt ft ks fs fc S ++ tl T S) := hD
      rcases hr10 with ⟨g0, g1⟩ | ⟨g0, g1⟩
      · subst g0
        refine lv_if_eq (tgt := 36) hx hb d_T_findWordFrom_29 (by decide) (fun c15 => absurd c15 (by decide)) (fun c15 => ?_)
        refine lv_iconst (v := 1) hx hb d_T_findWordFrom_32 (by decide) ?_
        refine lv_goto (tgt := 37) hx hb d_T_findWordFrom_33 (by decide) ?_
        exact W.zret (v := 1) hx hb hr rfl (fun t ht hW => ⟨⟨1, (u11, u12, u13, u14), rfl, (by obtain ⟨i, n, r9, k1, k2, k3, k4, k5, k6, k7⟩ := g1; have hco := hy6.2.2.1 t9 i n (ce_mt hy3 k1 k2) k1 k2; rw [k3] at hco; exact Or.inl ⟨rfl, _, by rw [wd_none hfb, hco]; rfl, hy6.2.2.2 t9 _ hco, by rw [k4, k5, k6, k7]; exact fnd_of⟩), by rw [ht]; exact hP, va_K.moved hW.alike hK, hD⟩, hS.F ht⟩) hS.2.2 d_T_findWordFrom_37
      · subst g0
        refine lv_if_eq (tgt := 36) hx hb d_T_findWordFrom_29 (by decide) (fun c16 => ?_) (fun c16 => absurd c16 (by decide))
        refine lv_iconst (v := 0) hx hb d_T_findWordFrom_36 (by decide) ?_
        exact W.zret (v := 0) hx hb hr rfl (fun t ht hW => ⟨⟨0, (u11, u12, u13, u14), rfl, (by refine Or.inr ⟨rfl, ?_⟩; rw [wd_none hfb]; exact co_no hy3 hy6 c0 g1), by rw [ht]; exact hP, va_K.moved hW.alike hK, hD⟩, hS.F ht⟩) hS.2.2 d_T_findWordFrom_37
  · refine W.eq (g2 := F0 m 5 ls [.int (nI b)]) rfl ?_
    obtain ⟨hb6, hbp⟩ := fb_lt hfb
    have hbl : t9 + jl b ≤ kp := hbp.1
    refine lv_istore (lv' := [(5, .int (nI b)), (0, .ref (aa 0)), (1, .int (nI t9)), (2, .int 3), (3, .int x), (4, .int y)]) hx hb d_T_findWordFrom_5 hl (by decide) rfl (fun ls hl => ?_)
    refine lv_iload hx hb d_T_findWordFrom_7 (lv_at hl 0 rfl) ?_
    refine lv_iconst (v := (-1)) hx hb d_T_findWordFrom_9 (by decide) ?_
    refine lv_icmp_ne (tgt := 38) hx hb d_T_findWordFrom_10 (by decide) (fun c17 => ?_) (fun c17 => absurd c17 ((nI_m1 (by omega))))
    refine lv_iload_n hx hb d_T_findWordFrom_38 rfl (lv_at hl 3 rfl) ?_
    refine lv_iconst (v := 5) hx hb d_T_findWordFrom_39 (by decide) ?_
    refine lv_icmp_lt (tgt := 45) hx hb d_T_findWordFrom_40 (by decide) (fun c18 => ?_) (fun c18 => absurd c18 (by decide))
    refine lv_aload_n hx hb d_T_findWordFrom_45 rfl (lv_at hl 1 rfl) ?_
    refine lv_iload_n hx hb d_T_findWordFrom_46 rfl (lv_at hl 2 rfl) ?_
    refine lv_iload hx hb d_T_findWordFrom_47 (lv_at hl 0 rfl) ?_
    have hPc : va_P D gC ([]) s.heap := pc0
    refine va_csq (va_Run.run (va_runS (As := [.int (nI b)]) (rest := [.int (nI t9), .ref (aa 0)]) ⟨hx, hb, hml, hown, hw⟩ (k_T_beginning l D T κ A b hb6) (va_cwS 1 hw (bg_S ml_T_268 wt_T_beginning wz_T wc_T_beginning) rfl rfl rfl (by decide +kernel) ⟨Nat.le_of_ble_eq_true rfl, Nat.le_of_ble_eq_true rfl⟩) ⟨sPf_b, sPf_p hPc hK hF hS⟩ rfl rfl hl.1 rfl (lv_room (Nat.le_of_ble_eq_true rfl)) d_T_findWordFrom_49 ⟨Nat.le_of_ble_eq_true rfl, Nat.le_of_ble_eq_true rfl⟩)) (fun r19 hr19 => ?_)
    replace hr19 := hr19.symm; subst hr19
    refine W.eq (g2 := F0 m 52 ls [.ref (κ.1 (282 + 2 * b)), .int (nI t9), .ref (aa 0)]) rfl ?_
    have hPc : va_P D gC ([]) s.heap := pc0
    refine vp_callSi (va_Run.run (va_runV (As := []) (rest := [.int (nI t9), .ref (aa 0)]) ⟨hx, hb, hml, hown, hw⟩ (k_S_length l D T κ A b (by omega)) (cwV 0 hw (bg_V ml_T_272 wi_S_length wv_S_length wz_S wc_S_length) rfl rfl rfl (by decide +kernel) ⟨Nat.le_of_ble_eq_true rfl, Nat.le_of_ble_eq_true rfl⟩) ⟨sPf_b, va_Orecv (hF.1 b (by omega)).1 hS, sPf_p hPc hK hF hS⟩ rfl rfl hl.1 rfl (lv_room (Nat.le_of_ble_eq_true rfl)) d_T_findWordFrom_52 ⟨Nat.le_of_ble_eq_true rfl, Nat.le_of_ble_eq_true rfl⟩)) (fun r20 hr20 => ?_)
    replace hr20 := hr20.symm; subst hr20
    rw [sx_jl b hb6]
    refine lv_iadd hx hb d_T_findWordFrom_55 ?_
    rw [show (nI t9) + (nI (jl b)) = nI (t9 + (jl b)) from nI_add t9 (jl b)]
    refine lv_iload_n hx hb d_T_findWordFrom_56 rfl (lv_at hl 3 rfl) ?_
    refine lv_iconst (v := 1) hx hb d_T_findWordFrom_57 (by decide) ?_
    refine lv_iadd hx hb d_T_findWordFrom_58 ?_
    rw [show (3 : Int32) + 1 = 4 from by decide]
    refine lv_iload_n hx hb d_T_findWordFrom_59 rfl (lv_at hl 4 rfl) ?_
    refine lv_iload hx hb d_T_findWordFrom_60 (lv_at hl 5 rfl) ?_
    refine g_calli (va_runV (As := [.int (nI (t9 + (jl b))), .int 4, .int x, .int y]) (rest := []) ⟨hx, hb, hml, hown, hw⟩ (k_T_findWordFrom_a4 l D T κ aa zw kp fp e0 e1 oF oT kt ft ks fs fc S s.heap.size (t9 + (jl b)) x y co hy0 hy1 hbl hy3 hy4 hy5 hy6) (cwV 4 hw (bg_V ml_T_131 wi_T_findWordFrom wv_T_findWordFrom wz_T wc_T_findWordFrom) rfl rfl rfl (by decide +kernel) ⟨Nat.le_of_ble_eq_true rfl, Nat.le_of_ble_eq_true rfl⟩) ⟨qPf_b, va_recv hK hP (ci := 5) (q0 := 0) rfl rfl, qPf_p hP hK hD hF hS (g_free hD hS hA)⟩ rfl rfl hl.1 rfl (lv_room (Nat.le_of_ble_eq_true rfl)) d_T_findWordFrom_62 ⟨Nat.le_of_ble_eq_true rfl, Nat.le_of_ble_eq_true rfl⟩) hD hS hA (fun r21 u9 H locs hr21 hP hD hS => ?_)
    obtain ⟨u22, u23, u24, u25⟩ := u9
    dsimp only at hr21 hP hD
    have hP : va_P D gC (cX T aa zw kp fp u22 u23 u24 u25 kt ft ks fs fc S ++ tl T S) H := hP
    have hD : va_D A (cX T aa zw kp fp u22 u23 u24 u25 kt ft ks fs fc S ++ tl T S) := hD
    rcases hr21 with ⟨g0, g1⟩ | ⟨g0, g1⟩
    · subst g0
      obtain ⟨u, hu1, hu2, hu3⟩ := g1
      refine lv_if_eq (tgt := 81) hx hb d_T_findWordFrom_65 (by decide) (fun c26 => absurd c26 (by decide)) (fun c26 => ?_)
      refine lv_aload_n hx hb d_T_findWordFrom_68 rfl (lv_at hl 1 rfl) ?_
      refine lv_iload hx hb d_T_findWordFrom_69 (lv_at hl 0 rfl) ?_
      refine g_calli (va_runV (As := [.int (nI b)]) (rest := []) ⟨hx, hb, hml, hown, hw⟩ (k_T_begin l D T κ aa zw kp fp u22 u23 u24 u25 kt ft ks fs fc S H.size b u hb6 hu2 hu3 hy4 hy5) (cwV 1 hw (bg_V ml_T_275 wi_T_begin wv_T_begin wz_T wc_T_begin) rfl rfl rfl (by decide +kernel) ⟨Nat.le_of_ble_eq_true rfl, Nat.le_of_ble_eq_true rfl⟩) ⟨qPf_b, va_recv hK hP (ci := 5) (q0 := 0) rfl rfl, qPf_p hP hK hD hF hS (g_free hD hS hA)⟩ rfl rfl hl.1 rfl (lv_room (Nat.le_of_ble_eq_true rfl)) d_T_findWordFrom_71 ⟨Nat.le_of_ble_eq_true rfl, Nat.le_of_ble_eq_true rfl⟩) hD hS hA (fun r27 u9 H locs hr27 hP hD hS => ?_)
      obtain ⟨u28, u29, u30, u31⟩ := u9
      dsimp only at hr27 hP hD
      have hP : va_P D gC (cX T aa zw kp fp u28 u29 u30 u31 kt ft ks fs fc S ++ tl T S) H := hP
      have hD : va_D A (cX T aa zw kp fp u28 u29 u30 u31 kt ft ks fs fc S ++ tl T S) := hD
      rcases hr27 with ⟨g0, g1⟩ | ⟨g0, g1⟩
      · subst g0
        refine lv_if_eq (tgt := 81) hx hb d_T_findWordFrom_74 (by decide) (fun c32 => absurd c32 (by decide)) (fun c32 => ?_)
        refine lv_iconst (v := 1) hx hb d_T_findWordFrom_77 (by decide) ?_
        refine lv_goto (tgt := 82) hx hb d_T_findWordFrom_78 (by decide) ?_
        exact W.zret (v := 1) hx hb hr rfl (fun t ht hW => ⟨⟨1, (u28, u29, u30, u31), rfl, (by obtain ⟨u1, k1, k2, k3⟩ := g1; exact Or.inl ⟨rfl, u1, by rw [wd_some hfb, hu1]; exact k1, k2, k3⟩), by rw [ht]; exact hP, va_K.moved hW.alike hK, hD⟩, hS.F ht⟩) hS.2.2 d_T_findWordFrom_82
      · subst g0
        refine lv_if_eq (tgt := 81) hx hb d_T_findWordFrom_74 (by decide) (fun c33 => ?_) (fun c33 => absurd c33 (by decide))
        refine lv_iconst (v := 0) hx hb d_T_findWordFrom_81 (by decide) ?_
        exact W.zret (v := 0) hx hb hr rfl (fun t ht hW => ⟨⟨0, (u28, u29, u30, u31), rfl, (by refine Or.inr ⟨rfl, ?_⟩; rw [wd_some hfb, hu1]; exact g1), by rw [ht]; exact hP, va_K.moved hW.alike hK, hD⟩, hS.F ht⟩) hS.2.2 d_T_findWordFrom_82
    · subst g0
      refine lv_if_eq (tgt := 81) hx hb d_T_findWordFrom_65 (by decide) (fun c34 => ?_) (fun c34 => absurd c34 (by decide))
      refine lv_iconst (v := 0) hx hb d_T_findWordFrom_81 (by decide) ?_
      exact W.zret (v := 0) hx hb hr rfl (fun t ht hW => ⟨⟨0, (u22, u23, u24, u25), rfl, (by refine Or.inr ⟨rfl, ?_⟩; rw [wd_some hfb, g1]; rfl), by rw [ht]; exact hP, va_K.moved hW.alike hK, hD⟩, hS.F ht⟩) hS.2.2 d_T_findWordFrom_82

set_option maxHeartbeats 4000000 in
set_option maxRecDepth 100000 in
theorem k_T_findWordFrom_a2 (l : Launch) (D : va_G) (T : gT) (κ : gS) (aa : Nat → Nat) (zw : Int32) (kp : Nat) (fp : Nat → Int32) (e0 e1 : Int32) (oF oT : Bool) (kt : Nat) (ft : Nat → Int32) (ks : Nat) (fs fc : Nat → Int32) (S : tS) (sz : Nat) (t9 : Nat) (x y : Int32) (co : Nat → Option jS) (hy0 : tOk κ S) (hy1 : kp ≤ 24) (hy2 : t9 ≤ kp) (hy3 : lOk S) (hy4 : 0 ≤ zw.toInt) (hy5 : zw.toInt ≤ 1000) (hy6 : c_co fp kp S x y co) : Met l y_T_findWordFrom (Cond.code y_T_findWordFrom b_T_findWordFrom 6 (some .boolean) :: bg_W) ({ frames := 9, cells := 0, slots := 0, locals := 213 }) (qPf κ D T (cX T aa zw kp fp e0 e1 oF oT kt ft ks fs fc S ++ tl T S) [.ref (aa 0), .int (nI t9), .int 2, .int x, .int y] sz) (va_Qi (fun (r : Int32) (u : Int32 × Int32 × Bool × Bool) => match u with | (w0, w1, v2, v3) => (r = 1 ∧ ∃ u, j_wd (j_fb fp kp) co (j_ap zw) 3 t9 = some u ∧ jOk u ∧ fnd u w0 w1 v2 v3) ∨ (r = 0 ∧ j_wd (j_fb fp kp) co (j_ap zw) 3 t9 = none)) (qB D T (va_A (cX T aa zw kp fp e0 e1 oF oT kt ft ks fs fc S ++ tl T S) sz) (fun u : Int32 × Int32 × Bool × Bool => match u with | (w0, w1, v2, v3) => cX T aa zw kp fp w0 w1 v2 v3 kt ft ks fs fc S ++ tl T S)) (va_A (cX T aa zw kp fp e0 e1 oF oT kt ft ks fs fc S ++ tl T S) sz)) 0 0 (va_A (cX T aa zw kp fp e0 e1 oF oT kt ft ks fs fc S ++ tl T S) sz) := by
  refine Met.ofW (cc := b_T_findWordFrom) (maxL := 6) (ret := (some .boolean)) (by decide) rfl ?_
  intro p e s m args below meth c s₁ B hml hv
  obtain ⟨rfl, hsz, hP, hK, hD0, hF⟩ := hv
  have hx := B.exec
  have hb := B.bytes
  have hr := B.returns
  have hw : ∀ w ∈ bg_W, w.before ([.ref (aa 0), .int (nI t9), .int 2, .int x, .int y] : List Value).toArray s = true := fun w h => atoms_spec (ws := (Cond.code y_T_findWordFrom b_T_findWordFrom 6 (some .boolean) :: bg_W)) B.pre w (List.mem_cons_of_mem _ h)
  have hown : s.vm.findClass "TimeWords" = some m.cls := findClass_of_methodNamed B.named
  have hlocks := B.notSynchronized
  subst hsz
  have hD := hD0.self (sz := s.heap.size)
  generalize hAe : va_A (cX T aa zw kp fp e0 e1 oF oT kt ft ks fs fc S ++ tl T S) s.heap.size = A at hD hF ⊢
  have hA : ∀ q : Nat, s.heap.size ≤ q → A q := fun q h => by rw [← hAe]; exact Or.inr h
  have hS : va_S A s.heap s.heap [] := va_S.rf
  have hl := lv_entry ([.ref (aa 0), .int (nI t9), .int 2, .int x, .int y]) (n := 6) (Nat.le_of_ble_eq_true rfl)
  rw [lg_entry_eq]
  generalize (lg_sl ([.ref (aa 0), .int (nI t9), .int 2, .int x, .int y]) ++ List.replicate (6 - (lg_sl ([.ref (aa 0), .int (nI t9), .int 2, .int x, .int y])).length) Slot.unset).toArray = ls at hl ⊢
  have hl : lv_has ls 6 [(0, .ref (aa 0)), (1, .int (nI t9)), (2, .int 2), (3, .int x), (4, .int y)] := hl
  have hL1 : S.2.1.length ≤ 24 := hy0.2.2.2.1
  have hL2 : S.2.2.2.length ≤ 60 := hy0.2.2.2.2
  refine lv_aload_n hx hb d_T_findWordFrom_0 rfl (lv_at hl 0 rfl) ?_
  refine lv_iload_n hx hb d_T_findWordFrom_1 rfl (lv_at hl 1 rfl) ?_
  refine vp_callSi (va_Run.run (va_runV (As := [.int (nI t9)]) (rest := []) ⟨hx, hb, hml, hown, hw⟩ (k_T_beginningAt l D T κ A aa zw kp fp e0 e1 oF oT kt ft ks fs fc S t9 hy1 (by omega)) (cwV 1 hw (bg_V ml_T_258 wi_T_beginningAt wv_T_beginningAt wz_T wc_T_beginningAt) rfl rfl rfl (by decide +kernel) ⟨Nat.le_of_ble_eq_true rfl, Nat.le_of_ble_eq_true rfl⟩) ⟨sPf_b, va_recv hK hP (ci := 5) (q0 := 0) rfl rfl, sPf_p hP hK hF hS⟩ rfl rfl hl.1 rfl (lv_room (Nat.le_of_ble_eq_true rfl)) d_T_findWordFrom_2 ⟨Nat.le_of_ble_eq_true rfl, Nat.le_of_ble_eq_true rfl⟩)) (fun r1 hr1 => ?_)
  replace hr1 := hr1.symm; subst hr1
  rcases hfb : j_fb fp kp t9 with _ | b
  · refine W.eq (g2 := F0 m 5 ls [.int (-1)]) rfl ?_
    refine lv_istore (lv' := [(5, .int (-1)), (0, .ref (aa 0)), (1, .int (nI t9)), (2, .int 2), (3, .int x), (4, .int y)]) hx hb d_T_findWordFrom_5 hl (by decide) rfl (fun ls hl => ?_)
    refine lv_iload hx hb d_T_findWordFrom_7 (lv_at hl 0 rfl) ?_
    refine lv_iconst (v := (-1)) hx hb d_T_findWordFrom_9 (by decide) ?_
    refine lv_icmp_ne (tgt := 38) hx hb d_T_findWordFrom_10 (by decide) (fun c2 => absurd c2 (by decide)) (fun c2 => ?_)
    refine lv_aload_n hx hb d_T_findWordFrom_13 rfl (lv_at hl 1 rfl) ?_
    refine lv_iload_n hx hb d_T_findWordFrom_14 rfl (lv_at hl 2 rfl) ?_
    refine g_calli (va_runV (As := [.int (nI t9)]) (rest := []) ⟨hx, hb, hml, hown, hw⟩ (k_T_findCenturyFrom l D T κ aa zw kp fp e0 e1 oF oT kt ft ks fs fc S s.heap.size t9 hy1 hy2) (cwV 1 hw (bg_V ml_T_261 wi_T_findCenturyFrom wv_T_findCenturyFrom wz_T wc_T_findCenturyFrom) rfl rfl rfl (by decide +kernel) ⟨Nat.le_of_ble_eq_true rfl, Nat.le_of_ble_eq_true rfl⟩) ⟨qPf_b, va_recv hK hP (ci := 5) (q0 := 0) rfl rfl, qPf_p hP hK hD hF hS (g_free hD hS hA)⟩ rfl rfl hl.1 rfl (lv_room (Nat.le_of_ble_eq_true rfl)) d_T_findWordFrom_15 ⟨Nat.le_of_ble_eq_true rfl, Nat.le_of_ble_eq_true rfl⟩) hD hS hA (fun r3 u9 H locs hr3 hP hD hS => ?_)
    obtain ⟨u4, u5, u6, u7⟩ := u9
    dsimp only at hr3 hP hD
    have hP : va_P D gC (cX T aa zw kp fp u4 u5 u6 u7 kt ft ks fs fc S ++ tl T S) H := hP
    have hD : va_D A (cX T aa zw kp fp u4 u5 u6 u7 kt ft ks fs fc S ++ tl T S) := hD
    rcases hr3 with ⟨c0, c0b, g0, c1, c2, c3, c4⟩ | ⟨c0, g0⟩
    · subst g0
      refine lv_if_ne (tgt := 32) hx hb d_T_findWordFrom_18 (by decide) (fun c8 => ?_) (fun c8 => absurd c8 (by decide))
      refine lv_iconst (v := 1) hx hb d_T_findWordFrom_32 (by decide) ?_
      refine lv_goto (tgt := 37) hx hb d_T_findWordFrom_33 (by decide) ?_
      exact W.zret (v := 1) hx hb hr rfl (fun t ht hW => ⟨⟨1, (u4, u5, u6, u7), rfl, (Or.inl ⟨rfl, _, by rw [wd_none hfb, hy6.1 t9 c0, if_neg c0b], cv_ok c0 c0b, by rw [c1, c2, c3, c4]; exact fnd_of⟩), by rw [ht]; exact hP, va_K.moved hW.alike hK, hD⟩, hS.F ht⟩) hS.2.2 d_T_findWordFrom_37
    · subst g0
      refine lv_if_ne (tgt := 32) hx hb d_T_findWordFrom_18 (by decide) (fun c9 => absurd c9 (by decide)) (fun c9 => ?_)
      refine lv_aload_n hx hb d_T_findWordFrom_21 rfl (lv_at hl 1 rfl) ?_
      refine lv_iload_n hx hb d_T_findWordFrom_22 rfl (lv_at hl 2 rfl) ?_
      refine lv_iload_n hx hb d_T_findWordFrom_23 rfl (lv_at hl 4 rfl) ?_
      refine lv_iload hx hb d_T_findWordFrom_24 (lv_at hl 5 rfl) ?_
      refine g_calli (va_runV (As := [.int (nI t9), .int x, .int y]) (rest := []) ⟨hx, hb, hml, hown, hw⟩ (k_T_findNameFrom l D T κ aa zw kp fp u4 u5 u6 u7 kt ft ks fs fc S H.size t9 x y hy0 hy1 hy2) (cwV 3 hw (bg_V ml_T_264 wi_T_findNameFrom wv_T_findNameFrom wz_T wc_T_findNameFrom) rfl rfl rfl (by decide +kernel) ⟨Nat.le_of_ble_eq_true rfl, Nat.le_of_ble_eq_true rfl⟩) ⟨qPf_b, va_recv hK hP (ci := 5) (q0 := 0) rfl rfl, qPf_p hP hK hD hF hS (g_free hD hS hA)⟩ rfl rfl hl.1 rfl (lv_room (Nat.le_of_ble_eq_true rfl)) d_T_findWordFrom_26 ⟨Nat.le_of_ble_eq_true rfl, Nat.le_of_ble_eq_true rfl⟩) hD hS hA (fun r10 u9 H locs hr10 hP hD hS => ?_)
      obtain ⟨u11, u12, u13, u14⟩ := u9
      dsimp only at hr10 hP hD
      have hP : va_P D gC (cX T aa zw kp fp u11 u12 u13 u14 kt ft ks fs fc S ++ tl T S) H := hP
      have hD : va_D A (cX T aa zw kp fp u11 u12 u13 u14 kt ft ks fs fc S ++ tl T S) := hD
      rcases hr10 with ⟨g0, g1⟩ | ⟨g0, g1⟩
      · subst g0
        refine lv_if_eq (tgt := 36) hx hb d_T_findWordFrom_29 (by decide) (fun c15 => absurd c15 (by decide)) (fun c15 => ?_)
        refine lv_iconst (v := 1) hx hb d_T_findWordFrom_32 (by decide) ?_
        refine lv_goto (tgt := 37) hx hb d_T_findWordFrom_33 (by decide) ?_
        exact W.zret (v := 1) hx hb hr rfl (fun t ht hW => ⟨⟨1, (u11, u12, u13, u14), rfl, (by obtain ⟨i, n, r9, k1, k2, k3, k4, k5, k6, k7⟩ := g1; have hco := hy6.2.2.1 t9 i n (ce_mt hy3 k1 k2) k1 k2; rw [k3] at hco; exact Or.inl ⟨rfl, _, by rw [wd_none hfb, hco]; rfl, hy6.2.2.2 t9 _ hco, by rw [k4, k5, k6, k7]; exact fnd_of⟩), by rw [ht]; exact hP, va_K.moved hW.alike hK, hD⟩, hS.F ht⟩) hS.2.2 d_T_findWordFrom_37
      · subst g0
        refine lv_if_eq (tgt := 36) hx hb d_T_findWordFrom_29 (by decide) (fun c16 => ?_) (fun c16 => absurd c16 (by decide))
        refine lv_iconst (v := 0) hx hb d_T_findWordFrom_36 (by decide) ?_
        exact W.zret (v := 0) hx hb hr rfl (fun t ht hW => ⟨⟨0, (u11, u12, u13, u14), rfl, (by refine Or.inr ⟨rfl, ?_⟩; rw [wd_none hfb]; exact co_no hy3 hy6 c0 g1), by rw [ht]; exact hP, va_K.moved hW.alike hK, hD⟩, hS.F ht⟩) hS.2.2 d_T_findWordFrom_37
  · refine W.eq (g2 := F0 m 5 ls [.int (nI b)]) rfl ?_
    obtain ⟨hb6, hbp⟩ := fb_lt hfb
    have hbl : t9 + jl b ≤ kp := hbp.1
    refine lv_istore (lv' := [(5, .int (nI b)), (0, .ref (aa 0)), (1, .int (nI t9)), (2, .int 2), (3, .int x), (4, .int y)]) hx hb d_T_findWordFrom_5 hl (by decide) rfl (fun ls hl => ?_)
    refine lv_iload hx hb d_T_findWordFrom_7 (lv_at hl 0 rfl) ?_
    refine lv_iconst (v := (-1)) hx hb d_T_findWordFrom_9 (by decide) ?_
    refine lv_icmp_ne (tgt := 38) hx hb d_T_findWordFrom_10 (by decide) (fun c17 => ?_) (fun c17 => absurd c17 ((nI_m1 (by omega))))
    refine lv_iload_n hx hb d_T_findWordFrom_38 rfl (lv_at hl 3 rfl) ?_
    refine lv_iconst (v := 5) hx hb d_T_findWordFrom_39 (by decide) ?_
    refine lv_icmp_lt (tgt := 45) hx hb d_T_findWordFrom_40 (by decide) (fun c18 => ?_) (fun c18 => absurd c18 (by decide))
    refine lv_aload_n hx hb d_T_findWordFrom_45 rfl (lv_at hl 1 rfl) ?_
    refine lv_iload_n hx hb d_T_findWordFrom_46 rfl (lv_at hl 2 rfl) ?_
    refine lv_iload hx hb d_T_findWordFrom_47 (lv_at hl 0 rfl) ?_
    have hPc : va_P D gC ([]) s.heap := pc0
    refine va_csq (va_Run.run (va_runS (As := [.int (nI b)]) (rest := [.int (nI t9), .ref (aa 0)]) ⟨hx, hb, hml, hown, hw⟩ (k_T_beginning l D T κ A b hb6) (va_cwS 1 hw (bg_S ml_T_268 wt_T_beginning wz_T wc_T_beginning) rfl rfl rfl (by decide +kernel) ⟨Nat.le_of_ble_eq_true rfl, Nat.le_of_ble_eq_true rfl⟩) ⟨sPf_b, sPf_p hPc hK hF hS⟩ rfl rfl hl.1 rfl (lv_room (Nat.le_of_ble_eq_true rfl)) d_T_findWordFrom_49 ⟨Nat.le_of_ble_eq_true rfl, Nat.le_of_ble_eq_true rfl⟩)) (fun r19 hr19 => ?_)
    replace hr19 := hr19.symm; subst hr19
    refine W.eq (g2 := F0 m 52 ls [.ref (κ.1 (282 + 2 * b)), .int (nI t9), .ref (aa 0)]) rfl ?_
    have hPc : va_P D gC ([]) s.heap := pc0
    refine vp_callSi (va_Run.run (va_runV (As := []) (rest := [.int (nI t9), .ref (aa 0)]) ⟨hx, hb, hml, hown, hw⟩ (k_S_length l D T κ A b (by omega)) (cwV 0 hw (bg_V ml_T_272 wi_S_length wv_S_length wz_S wc_S_length) rfl rfl rfl (by decide +kernel) ⟨Nat.le_of_ble_eq_true rfl, Nat.le_of_ble_eq_true rfl⟩) ⟨sPf_b, va_Orecv (hF.1 b (by omega)).1 hS, sPf_p hPc hK hF hS⟩ rfl rfl hl.1 rfl (lv_room (Nat.le_of_ble_eq_true rfl)) d_T_findWordFrom_52 ⟨Nat.le_of_ble_eq_true rfl, Nat.le_of_ble_eq_true rfl⟩)) (fun r20 hr20 => ?_)
    replace hr20 := hr20.symm; subst hr20
    rw [sx_jl b hb6]
    refine lv_iadd hx hb d_T_findWordFrom_55 ?_
    rw [show (nI t9) + (nI (jl b)) = nI (t9 + (jl b)) from nI_add t9 (jl b)]
    refine lv_iload_n hx hb d_T_findWordFrom_56 rfl (lv_at hl 3 rfl) ?_
    refine lv_iconst (v := 1) hx hb d_T_findWordFrom_57 (by decide) ?_
    refine lv_iadd hx hb d_T_findWordFrom_58 ?_
    rw [show (2 : Int32) + 1 = 3 from by decide]
    refine lv_iload_n hx hb d_T_findWordFrom_59 rfl (lv_at hl 4 rfl) ?_
    refine lv_iload hx hb d_T_findWordFrom_60 (lv_at hl 5 rfl) ?_
    refine g_calli (va_runV (As := [.int (nI (t9 + (jl b))), .int 3, .int x, .int y]) (rest := []) ⟨hx, hb, hml, hown, hw⟩ (k_T_findWordFrom_a3 l D T κ aa zw kp fp e0 e1 oF oT kt ft ks fs fc S s.heap.size (t9 + (jl b)) x y co hy0 hy1 hbl hy3 hy4 hy5 hy6) (cwV 4 hw (bg_V ml_T_131 wi_T_findWordFrom wv_T_findWordFrom wz_T wc_T_findWordFrom) rfl rfl rfl (by decide +kernel) ⟨Nat.le_of_ble_eq_true rfl, Nat.le_of_ble_eq_true rfl⟩) ⟨qPf_b, va_recv hK hP (ci := 5) (q0 := 0) rfl rfl, qPf_p hP hK hD hF hS (g_free hD hS hA)⟩ rfl rfl hl.1 rfl (lv_room (Nat.le_of_ble_eq_true rfl)) d_T_findWordFrom_62 ⟨Nat.le_of_ble_eq_true rfl, Nat.le_of_ble_eq_true rfl⟩) hD hS hA (fun r21 u9 H locs hr21 hP hD hS => ?_)
    obtain ⟨u22, u23, u24, u25⟩ := u9
    dsimp only at hr21 hP hD
    have hP : va_P D gC (cX T aa zw kp fp u22 u23 u24 u25 kt ft ks fs fc S ++ tl T S) H := hP
    have hD : va_D A (cX T aa zw kp fp u22 u23 u24 u25 kt ft ks fs fc S ++ tl T S) := hD
    rcases hr21 with ⟨g0, g1⟩ | ⟨g0, g1⟩
    · subst g0
      obtain ⟨u, hu1, hu2, hu3⟩ := g1
      refine lv_if_eq (tgt := 81) hx hb d_T_findWordFrom_65 (by decide) (fun c26 => absurd c26 (by decide)) (fun c26 => ?_)
      refine lv_aload_n hx hb d_T_findWordFrom_68 rfl (lv_at hl 1 rfl) ?_
      refine lv_iload hx hb d_T_findWordFrom_69 (lv_at hl 0 rfl) ?_
      refine g_calli (va_runV (As := [.int (nI b)]) (rest := []) ⟨hx, hb, hml, hown, hw⟩ (k_T_begin l D T κ aa zw kp fp u22 u23 u24 u25 kt ft ks fs fc S H.size b u hb6 hu2 hu3 hy4 hy5) (cwV 1 hw (bg_V ml_T_275 wi_T_begin wv_T_begin wz_T wc_T_begin) rfl rfl rfl (by decide +kernel) ⟨Nat.le_of_ble_eq_true rfl, Nat.le_of_ble_eq_true rfl⟩) ⟨qPf_b, va_recv hK hP (ci := 5) (q0 := 0) rfl rfl, qPf_p hP hK hD hF hS (g_free hD hS hA)⟩ rfl rfl hl.1 rfl (lv_room (Nat.le_of_ble_eq_true rfl)) d_T_findWordFrom_71 ⟨Nat.le_of_ble_eq_true rfl, Nat.le_of_ble_eq_true rfl⟩) hD hS hA (fun r27 u9 H locs hr27 hP hD hS => ?_)
      obtain ⟨u28, u29, u30, u31⟩ := u9
      dsimp only at hr27 hP hD
      have hP : va_P D gC (cX T aa zw kp fp u28 u29 u30 u31 kt ft ks fs fc S ++ tl T S) H := hP
      have hD : va_D A (cX T aa zw kp fp u28 u29 u30 u31 kt ft ks fs fc S ++ tl T S) := hD
      rcases hr27 with ⟨g0, g1⟩ | ⟨g0, g1⟩
      · subst g0
        refine lv_if_eq (tgt := 81) hx hb d_T_findWordFrom_74 (by decide) (fun c32 => absurd c32 (by decide)) (fun c32 => ?_)
        refine lv_iconst (v := 1) hx hb d_T_findWordFrom_77 (by decide) ?_
        refine lv_goto (tgt := 82) hx hb d_T_findWordFrom_78 (by decide) ?_
        exact W.zret (v := 1) hx hb hr rfl (fun t ht hW => ⟨⟨1, (u28, u29, u30, u31), rfl, (by obtain ⟨u1, k1, k2, k3⟩ := g1; exact Or.inl ⟨rfl, u1, by rw [wd_some hfb, hu1]; exact k1, k2, k3⟩), by rw [ht]; exact hP, va_K.moved hW.alike hK, hD⟩, hS.F ht⟩) hS.2.2 d_T_findWordFrom_82
      · subst g0
        refine lv_if_eq (tgt := 81) hx hb d_T_findWordFrom_74 (by decide) (fun c33 => ?_) (fun c33 => absurd c33 (by decide))
        refine lv_iconst (v := 0) hx hb d_T_findWordFrom_81 (by decide) ?_
        exact W.zret (v := 0) hx hb hr rfl (fun t ht hW => ⟨⟨0, (u28, u29, u30, u31), rfl, (by refine Or.inr ⟨rfl, ?_⟩; rw [wd_some hfb, hu1]; exact g1), by rw [ht]; exact hP, va_K.moved hW.alike hK, hD⟩, hS.F ht⟩) hS.2.2 d_T_findWordFrom_82
    · subst g0
      refine lv_if_eq (tgt := 81) hx hb d_T_findWordFrom_65 (by decide) (fun c34 => ?_) (fun c34 => absurd c34 (by decide))
      refine lv_iconst (v := 0) hx hb d_T_findWordFrom_81 (by decide) ?_
      exact W.zret (v := 0) hx hb hr rfl (fun t ht hW => ⟨⟨0, (u22, u23, u24, u25), rfl, (by refine Or.inr ⟨rfl, ?_⟩; rw [wd_some hfb, g1]; rfl), by rw [ht]; exact hP, va_K.moved hW.alike hK, hD⟩, hS.F ht⟩) hS.2.2 d_T_findWordFrom_82

set_option maxHeartbeats 4000000 in
set_option maxRecDepth 100000 in
theorem k_T_findWordFrom_a1 (l : Launch) (D : va_G) (T : gT) (κ : gS) (aa : Nat → Nat) (zw : Int32) (kp : Nat) (fp : Nat → Int32) (e0 e1 : Int32) (oF oT : Bool) (kt : Nat) (ft : Nat → Int32) (ks : Nat) (fs fc : Nat → Int32) (S : tS) (sz : Nat) (t9 : Nat) (x y : Int32) (co : Nat → Option jS) (hy0 : tOk κ S) (hy1 : kp ≤ 24) (hy2 : t9 ≤ kp) (hy3 : lOk S) (hy4 : 0 ≤ zw.toInt) (hy5 : zw.toInt ≤ 1000) (hy6 : c_co fp kp S x y co) : Met l y_T_findWordFrom (Cond.code y_T_findWordFrom b_T_findWordFrom 6 (some .boolean) :: bg_W) ({ frames := 10, cells := 0, slots := 0, locals := 238 }) (qPf κ D T (cX T aa zw kp fp e0 e1 oF oT kt ft ks fs fc S ++ tl T S) [.ref (aa 0), .int (nI t9), .int 1, .int x, .int y] sz) (va_Qi (fun (r : Int32) (u : Int32 × Int32 × Bool × Bool) => match u with | (w0, w1, v2, v3) => (r = 1 ∧ ∃ u, j_wd (j_fb fp kp) co (j_ap zw) 4 t9 = some u ∧ jOk u ∧ fnd u w0 w1 v2 v3) ∨ (r = 0 ∧ j_wd (j_fb fp kp) co (j_ap zw) 4 t9 = none)) (qB D T (va_A (cX T aa zw kp fp e0 e1 oF oT kt ft ks fs fc S ++ tl T S) sz) (fun u : Int32 × Int32 × Bool × Bool => match u with | (w0, w1, v2, v3) => cX T aa zw kp fp w0 w1 v2 v3 kt ft ks fs fc S ++ tl T S)) (va_A (cX T aa zw kp fp e0 e1 oF oT kt ft ks fs fc S ++ tl T S) sz)) 0 0 (va_A (cX T aa zw kp fp e0 e1 oF oT kt ft ks fs fc S ++ tl T S) sz) := by
  refine Met.ofW (cc := b_T_findWordFrom) (maxL := 6) (ret := (some .boolean)) (by decide) rfl ?_
  intro p e s m args below meth c s₁ B hml hv
  obtain ⟨rfl, hsz, hP, hK, hD0, hF⟩ := hv
  have hx := B.exec
  have hb := B.bytes
  have hr := B.returns
  have hw : ∀ w ∈ bg_W, w.before ([.ref (aa 0), .int (nI t9), .int 1, .int x, .int y] : List Value).toArray s = true := fun w h => atoms_spec (ws := (Cond.code y_T_findWordFrom b_T_findWordFrom 6 (some .boolean) :: bg_W)) B.pre w (List.mem_cons_of_mem _ h)
  have hown : s.vm.findClass "TimeWords" = some m.cls := findClass_of_methodNamed B.named
  have hlocks := B.notSynchronized
  subst hsz
  have hD := hD0.self (sz := s.heap.size)
  generalize hAe : va_A (cX T aa zw kp fp e0 e1 oF oT kt ft ks fs fc S ++ tl T S) s.heap.size = A at hD hF ⊢
  have hA : ∀ q : Nat, s.heap.size ≤ q → A q := fun q h => by rw [← hAe]; exact Or.inr h
  have hS : va_S A s.heap s.heap [] := va_S.rf
  have hl := lv_entry ([.ref (aa 0), .int (nI t9), .int 1, .int x, .int y]) (n := 6) (Nat.le_of_ble_eq_true rfl)
  rw [lg_entry_eq]
  generalize (lg_sl ([.ref (aa 0), .int (nI t9), .int 1, .int x, .int y]) ++ List.replicate (6 - (lg_sl ([.ref (aa 0), .int (nI t9), .int 1, .int x, .int y])).length) Slot.unset).toArray = ls at hl ⊢
  have hl : lv_has ls 6 [(0, .ref (aa 0)), (1, .int (nI t9)), (2, .int 1), (3, .int x), (4, .int y)] := hl
  have hL1 : S.2.1.length ≤ 24 := hy0.2.2.2.1
  have hL2 : S.2.2.2.length ≤ 60 := hy0.2.2.2.2
  refine lv_aload_n hx hb d_T_findWordFrom_0 rfl (lv_at hl 0 rfl) ?_
  refine lv_iload_n hx hb d_T_findWordFrom_1 rfl (lv_at hl 1 rfl) ?_
  refine vp_callSi (va_Run.run (va_runV (As := [.int (nI t9)]) (rest := []) ⟨hx, hb, hml, hown, hw⟩ (k_T_beginningAt l D T κ A aa zw kp fp e0 e1 oF oT kt ft ks fs fc S t9 hy1 (by omega)) (cwV 1 hw (bg_V ml_T_258 wi_T_beginningAt wv_T_beginningAt wz_T wc_T_beginningAt) rfl rfl rfl (by decide +kernel) ⟨Nat.le_of_ble_eq_true rfl, Nat.le_of_ble_eq_true rfl⟩) ⟨sPf_b, va_recv hK hP (ci := 5) (q0 := 0) rfl rfl, sPf_p hP hK hF hS⟩ rfl rfl hl.1 rfl (lv_room (Nat.le_of_ble_eq_true rfl)) d_T_findWordFrom_2 ⟨Nat.le_of_ble_eq_true rfl, Nat.le_of_ble_eq_true rfl⟩)) (fun r1 hr1 => ?_)
  replace hr1 := hr1.symm; subst hr1
  rcases hfb : j_fb fp kp t9 with _ | b
  · refine W.eq (g2 := F0 m 5 ls [.int (-1)]) rfl ?_
    refine lv_istore (lv' := [(5, .int (-1)), (0, .ref (aa 0)), (1, .int (nI t9)), (2, .int 1), (3, .int x), (4, .int y)]) hx hb d_T_findWordFrom_5 hl (by decide) rfl (fun ls hl => ?_)
    refine lv_iload hx hb d_T_findWordFrom_7 (lv_at hl 0 rfl) ?_
    refine lv_iconst (v := (-1)) hx hb d_T_findWordFrom_9 (by decide) ?_
    refine lv_icmp_ne (tgt := 38) hx hb d_T_findWordFrom_10 (by decide) (fun c2 => absurd c2 (by decide)) (fun c2 => ?_)
    refine lv_aload_n hx hb d_T_findWordFrom_13 rfl (lv_at hl 1 rfl) ?_
    refine lv_iload_n hx hb d_T_findWordFrom_14 rfl (lv_at hl 2 rfl) ?_
    refine g_calli (va_runV (As := [.int (nI t9)]) (rest := []) ⟨hx, hb, hml, hown, hw⟩ (k_T_findCenturyFrom l D T κ aa zw kp fp e0 e1 oF oT kt ft ks fs fc S s.heap.size t9 hy1 hy2) (cwV 1 hw (bg_V ml_T_261 wi_T_findCenturyFrom wv_T_findCenturyFrom wz_T wc_T_findCenturyFrom) rfl rfl rfl (by decide +kernel) ⟨Nat.le_of_ble_eq_true rfl, Nat.le_of_ble_eq_true rfl⟩) ⟨qPf_b, va_recv hK hP (ci := 5) (q0 := 0) rfl rfl, qPf_p hP hK hD hF hS (g_free hD hS hA)⟩ rfl rfl hl.1 rfl (lv_room (Nat.le_of_ble_eq_true rfl)) d_T_findWordFrom_15 ⟨Nat.le_of_ble_eq_true rfl, Nat.le_of_ble_eq_true rfl⟩) hD hS hA (fun r3 u9 H locs hr3 hP hD hS => ?_)
    obtain ⟨u4, u5, u6, u7⟩ := u9
    dsimp only at hr3 hP hD
    have hP : va_P D gC (cX T aa zw kp fp u4 u5 u6 u7 kt ft ks fs fc S ++ tl T S) H := hP
    have hD : va_D A (cX T aa zw kp fp u4 u5 u6 u7 kt ft ks fs fc S ++ tl T S) := hD
    rcases hr3 with ⟨c0, c0b, g0, c1, c2, c3, c4⟩ | ⟨c0, g0⟩
    · subst g0
      refine lv_if_ne (tgt := 32) hx hb d_T_findWordFrom_18 (by decide) (fun c8 => ?_) (fun c8 => absurd c8 (by decide))
      refine lv_iconst (v := 1) hx hb d_T_findWordFrom_32 (by decide) ?_
      refine lv_goto (tgt := 37) hx hb d_T_findWordFrom_33 (by decide) ?_
      exact W.zret (v := 1) hx hb hr rfl (fun t ht hW => ⟨⟨1, (u4, u5, u6, u7), rfl, (Or.inl ⟨rfl, _, by rw [wd_none hfb, hy6.1 t9 c0, if_neg c0b], cv_ok c0 c0b, by rw [c1, c2, c3, c4]; exact fnd_of⟩), by rw [ht]; exact hP, va_K.moved hW.alike hK, hD⟩, hS.F ht⟩) hS.2.2 d_T_findWordFrom_37
    · subst g0
      refine lv_if_ne (tgt := 32) hx hb d_T_findWordFrom_18 (by decide) (fun c9 => absurd c9 (by decide)) (fun c9 => ?_)
      refine lv_aload_n hx hb d_T_findWordFrom_21 rfl (lv_at hl 1 rfl) ?_
      refine lv_iload_n hx hb d_T_findWordFrom_22 rfl (lv_at hl 2 rfl) ?_
      refine lv_iload_n hx hb d_T_findWordFrom_23 rfl (lv_at hl 4 rfl) ?_
      refine lv_iload hx hb d_T_findWordFrom_24 (lv_at hl 5 rfl) ?_
      refine g_calli (va_runV (As := [.int (nI t9), .int x, .int y]) (rest := []) ⟨hx, hb, hml, hown, hw⟩ (k_T_findNameFrom l D T κ aa zw kp fp u4 u5 u6 u7 kt ft ks fs fc S H.size t9 x y hy0 hy1 hy2) (cwV 3 hw (bg_V ml_T_264 wi_T_findNameFrom wv_T_findNameFrom wz_T wc_T_findNameFrom) rfl rfl rfl (by decide +kernel) ⟨Nat.le_of_ble_eq_true rfl, Nat.le_of_ble_eq_true rfl⟩) ⟨qPf_b, va_recv hK hP (ci := 5) (q0 := 0) rfl rfl, qPf_p hP hK hD hF hS (g_free hD hS hA)⟩ rfl rfl hl.1 rfl (lv_room (Nat.le_of_ble_eq_true rfl)) d_T_findWordFrom_26 ⟨Nat.le_of_ble_eq_true rfl, Nat.le_of_ble_eq_true rfl⟩) hD hS hA (fun r10 u9 H locs hr10 hP hD hS => ?_)
      obtain ⟨u11, u12, u13, u14⟩ := u9
      dsimp only at hr10 hP hD
      have hP : va_P D gC (cX T aa zw kp fp u11 u12 u13 u14 kt ft ks fs fc S ++ tl T S) H := hP
      have hD : va_D A (cX T aa zw kp fp u11 u12 u13 u14 kt ft ks fs fc S ++ tl T S) := hD
      rcases hr10 with ⟨g0, g1⟩ | ⟨g0, g1⟩
      · subst g0
        refine lv_if_eq (tgt := 36) hx hb d_T_findWordFrom_29 (by decide) (fun c15 => absurd c15 (by decide)) (fun c15 => ?_)
        refine lv_iconst (v := 1) hx hb d_T_findWordFrom_32 (by decide) ?_
        refine lv_goto (tgt := 37) hx hb d_T_findWordFrom_33 (by decide) ?_
        exact W.zret (v := 1) hx hb hr rfl (fun t ht hW => ⟨⟨1, (u11, u12, u13, u14), rfl, (by obtain ⟨i, n, r9, k1, k2, k3, k4, k5, k6, k7⟩ := g1; have hco := hy6.2.2.1 t9 i n (ce_mt hy3 k1 k2) k1 k2; rw [k3] at hco; exact Or.inl ⟨rfl, _, by rw [wd_none hfb, hco]; rfl, hy6.2.2.2 t9 _ hco, by rw [k4, k5, k6, k7]; exact fnd_of⟩), by rw [ht]; exact hP, va_K.moved hW.alike hK, hD⟩, hS.F ht⟩) hS.2.2 d_T_findWordFrom_37
      · subst g0
        refine lv_if_eq (tgt := 36) hx hb d_T_findWordFrom_29 (by decide) (fun c16 => ?_) (fun c16 => absurd c16 (by decide))
        refine lv_iconst (v := 0) hx hb d_T_findWordFrom_36 (by decide) ?_
        exact W.zret (v := 0) hx hb hr rfl (fun t ht hW => ⟨⟨0, (u11, u12, u13, u14), rfl, (by refine Or.inr ⟨rfl, ?_⟩; rw [wd_none hfb]; exact co_no hy3 hy6 c0 g1), by rw [ht]; exact hP, va_K.moved hW.alike hK, hD⟩, hS.F ht⟩) hS.2.2 d_T_findWordFrom_37
  · refine W.eq (g2 := F0 m 5 ls [.int (nI b)]) rfl ?_
    obtain ⟨hb6, hbp⟩ := fb_lt hfb
    have hbl : t9 + jl b ≤ kp := hbp.1
    refine lv_istore (lv' := [(5, .int (nI b)), (0, .ref (aa 0)), (1, .int (nI t9)), (2, .int 1), (3, .int x), (4, .int y)]) hx hb d_T_findWordFrom_5 hl (by decide) rfl (fun ls hl => ?_)
    refine lv_iload hx hb d_T_findWordFrom_7 (lv_at hl 0 rfl) ?_
    refine lv_iconst (v := (-1)) hx hb d_T_findWordFrom_9 (by decide) ?_
    refine lv_icmp_ne (tgt := 38) hx hb d_T_findWordFrom_10 (by decide) (fun c17 => ?_) (fun c17 => absurd c17 ((nI_m1 (by omega))))
    refine lv_iload_n hx hb d_T_findWordFrom_38 rfl (lv_at hl 3 rfl) ?_
    refine lv_iconst (v := 5) hx hb d_T_findWordFrom_39 (by decide) ?_
    refine lv_icmp_lt (tgt := 45) hx hb d_T_findWordFrom_40 (by decide) (fun c18 => ?_) (fun c18 => absurd c18 (by decide))
    refine lv_aload_n hx hb d_T_findWordFrom_45 rfl (lv_at hl 1 rfl) ?_
    refine lv_iload_n hx hb d_T_findWordFrom_46 rfl (lv_at hl 2 rfl) ?_
    refine lv_iload hx hb d_T_findWordFrom_47 (lv_at hl 0 rfl) ?_
    have hPc : va_P D gC ([]) s.heap := pc0
    refine va_csq (va_Run.run (va_runS (As := [.int (nI b)]) (rest := [.int (nI t9), .ref (aa 0)]) ⟨hx, hb, hml, hown, hw⟩ (k_T_beginning l D T κ A b hb6) (va_cwS 1 hw (bg_S ml_T_268 wt_T_beginning wz_T wc_T_beginning) rfl rfl rfl (by decide +kernel) ⟨Nat.le_of_ble_eq_true rfl, Nat.le_of_ble_eq_true rfl⟩) ⟨sPf_b, sPf_p hPc hK hF hS⟩ rfl rfl hl.1 rfl (lv_room (Nat.le_of_ble_eq_true rfl)) d_T_findWordFrom_49 ⟨Nat.le_of_ble_eq_true rfl, Nat.le_of_ble_eq_true rfl⟩)) (fun r19 hr19 => ?_)
    replace hr19 := hr19.symm; subst hr19
    refine W.eq (g2 := F0 m 52 ls [.ref (κ.1 (282 + 2 * b)), .int (nI t9), .ref (aa 0)]) rfl ?_
    have hPc : va_P D gC ([]) s.heap := pc0
    refine vp_callSi (va_Run.run (va_runV (As := []) (rest := [.int (nI t9), .ref (aa 0)]) ⟨hx, hb, hml, hown, hw⟩ (k_S_length l D T κ A b (by omega)) (cwV 0 hw (bg_V ml_T_272 wi_S_length wv_S_length wz_S wc_S_length) rfl rfl rfl (by decide +kernel) ⟨Nat.le_of_ble_eq_true rfl, Nat.le_of_ble_eq_true rfl⟩) ⟨sPf_b, va_Orecv (hF.1 b (by omega)).1 hS, sPf_p hPc hK hF hS⟩ rfl rfl hl.1 rfl (lv_room (Nat.le_of_ble_eq_true rfl)) d_T_findWordFrom_52 ⟨Nat.le_of_ble_eq_true rfl, Nat.le_of_ble_eq_true rfl⟩)) (fun r20 hr20 => ?_)
    replace hr20 := hr20.symm; subst hr20
    rw [sx_jl b hb6]
    refine lv_iadd hx hb d_T_findWordFrom_55 ?_
    rw [show (nI t9) + (nI (jl b)) = nI (t9 + (jl b)) from nI_add t9 (jl b)]
    refine lv_iload_n hx hb d_T_findWordFrom_56 rfl (lv_at hl 3 rfl) ?_
    refine lv_iconst (v := 1) hx hb d_T_findWordFrom_57 (by decide) ?_
    refine lv_iadd hx hb d_T_findWordFrom_58 ?_
    rw [show (1 : Int32) + 1 = 2 from by decide]
    refine lv_iload_n hx hb d_T_findWordFrom_59 rfl (lv_at hl 4 rfl) ?_
    refine lv_iload hx hb d_T_findWordFrom_60 (lv_at hl 5 rfl) ?_
    refine g_calli (va_runV (As := [.int (nI (t9 + (jl b))), .int 2, .int x, .int y]) (rest := []) ⟨hx, hb, hml, hown, hw⟩ (k_T_findWordFrom_a2 l D T κ aa zw kp fp e0 e1 oF oT kt ft ks fs fc S s.heap.size (t9 + (jl b)) x y co hy0 hy1 hbl hy3 hy4 hy5 hy6) (cwV 4 hw (bg_V ml_T_131 wi_T_findWordFrom wv_T_findWordFrom wz_T wc_T_findWordFrom) rfl rfl rfl (by decide +kernel) ⟨Nat.le_of_ble_eq_true rfl, Nat.le_of_ble_eq_true rfl⟩) ⟨qPf_b, va_recv hK hP (ci := 5) (q0 := 0) rfl rfl, qPf_p hP hK hD hF hS (g_free hD hS hA)⟩ rfl rfl hl.1 rfl (lv_room (Nat.le_of_ble_eq_true rfl)) d_T_findWordFrom_62 ⟨Nat.le_of_ble_eq_true rfl, Nat.le_of_ble_eq_true rfl⟩) hD hS hA (fun r21 u9 H locs hr21 hP hD hS => ?_)
    obtain ⟨u22, u23, u24, u25⟩ := u9
    dsimp only at hr21 hP hD
    have hP : va_P D gC (cX T aa zw kp fp u22 u23 u24 u25 kt ft ks fs fc S ++ tl T S) H := hP
    have hD : va_D A (cX T aa zw kp fp u22 u23 u24 u25 kt ft ks fs fc S ++ tl T S) := hD
    rcases hr21 with ⟨g0, g1⟩ | ⟨g0, g1⟩
    · subst g0
      obtain ⟨u, hu1, hu2, hu3⟩ := g1
      refine lv_if_eq (tgt := 81) hx hb d_T_findWordFrom_65 (by decide) (fun c26 => absurd c26 (by decide)) (fun c26 => ?_)
      refine lv_aload_n hx hb d_T_findWordFrom_68 rfl (lv_at hl 1 rfl) ?_
      refine lv_iload hx hb d_T_findWordFrom_69 (lv_at hl 0 rfl) ?_
      refine g_calli (va_runV (As := [.int (nI b)]) (rest := []) ⟨hx, hb, hml, hown, hw⟩ (k_T_begin l D T κ aa zw kp fp u22 u23 u24 u25 kt ft ks fs fc S H.size b u hb6 hu2 hu3 hy4 hy5) (cwV 1 hw (bg_V ml_T_275 wi_T_begin wv_T_begin wz_T wc_T_begin) rfl rfl rfl (by decide +kernel) ⟨Nat.le_of_ble_eq_true rfl, Nat.le_of_ble_eq_true rfl⟩) ⟨qPf_b, va_recv hK hP (ci := 5) (q0 := 0) rfl rfl, qPf_p hP hK hD hF hS (g_free hD hS hA)⟩ rfl rfl hl.1 rfl (lv_room (Nat.le_of_ble_eq_true rfl)) d_T_findWordFrom_71 ⟨Nat.le_of_ble_eq_true rfl, Nat.le_of_ble_eq_true rfl⟩) hD hS hA (fun r27 u9 H locs hr27 hP hD hS => ?_)
      obtain ⟨u28, u29, u30, u31⟩ := u9
      dsimp only at hr27 hP hD
      have hP : va_P D gC (cX T aa zw kp fp u28 u29 u30 u31 kt ft ks fs fc S ++ tl T S) H := hP
      have hD : va_D A (cX T aa zw kp fp u28 u29 u30 u31 kt ft ks fs fc S ++ tl T S) := hD
      rcases hr27 with ⟨g0, g1⟩ | ⟨g0, g1⟩
      · subst g0
        refine lv_if_eq (tgt := 81) hx hb d_T_findWordFrom_74 (by decide) (fun c32 => absurd c32 (by decide)) (fun c32 => ?_)
        refine lv_iconst (v := 1) hx hb d_T_findWordFrom_77 (by decide) ?_
        refine lv_goto (tgt := 82) hx hb d_T_findWordFrom_78 (by decide) ?_
        exact W.zret (v := 1) hx hb hr rfl (fun t ht hW => ⟨⟨1, (u28, u29, u30, u31), rfl, (by obtain ⟨u1, k1, k2, k3⟩ := g1; exact Or.inl ⟨rfl, u1, by rw [wd_some hfb, hu1]; exact k1, k2, k3⟩), by rw [ht]; exact hP, va_K.moved hW.alike hK, hD⟩, hS.F ht⟩) hS.2.2 d_T_findWordFrom_82
      · subst g0
        refine lv_if_eq (tgt := 81) hx hb d_T_findWordFrom_74 (by decide) (fun c33 => ?_) (fun c33 => absurd c33 (by decide))
        refine lv_iconst (v := 0) hx hb d_T_findWordFrom_81 (by decide) ?_
        exact W.zret (v := 0) hx hb hr rfl (fun t ht hW => ⟨⟨0, (u28, u29, u30, u31), rfl, (by refine Or.inr ⟨rfl, ?_⟩; rw [wd_some hfb, hu1]; exact g1), by rw [ht]; exact hP, va_K.moved hW.alike hK, hD⟩, hS.F ht⟩) hS.2.2 d_T_findWordFrom_82
    · subst g0
      refine lv_if_eq (tgt := 81) hx hb d_T_findWordFrom_65 (by decide) (fun c34 => ?_) (fun c34 => absurd c34 (by decide))
      refine lv_iconst (v := 0) hx hb d_T_findWordFrom_81 (by decide) ?_
      exact W.zret (v := 0) hx hb hr rfl (fun t ht hW => ⟨⟨0, (u22, u23, u24, u25), rfl, (by refine Or.inr ⟨rfl, ?_⟩; rw [wd_some hfb, g1]; rfl), by rw [ht]; exact hP, va_K.moved hW.alike hK, hD⟩, hS.F ht⟩) hS.2.2 d_T_findWordFrom_82

set_option maxHeartbeats 4000000 in
set_option maxRecDepth 100000 in
theorem k_T_findWordFrom_a0 (l : Launch) (D : va_G) (T : gT) (κ : gS) (aa : Nat → Nat) (zw : Int32) (kp : Nat) (fp : Nat → Int32) (e0 e1 : Int32) (oF oT : Bool) (kt : Nat) (ft : Nat → Int32) (ks : Nat) (fs fc : Nat → Int32) (S : tS) (sz : Nat) (t9 : Nat) (x y : Int32) (co : Nat → Option jS) (hy0 : tOk κ S) (hy1 : kp ≤ 24) (hy2 : t9 ≤ kp) (hy3 : lOk S) (hy4 : 0 ≤ zw.toInt) (hy5 : zw.toInt ≤ 1000) (hy6 : c_co fp kp S x y co) : Met l y_T_findWordFrom (Cond.code y_T_findWordFrom b_T_findWordFrom 6 (some .boolean) :: bg_W) ({ frames := 11, cells := 0, slots := 0, locals := 263 }) (qPf κ D T (cX T aa zw kp fp e0 e1 oF oT kt ft ks fs fc S ++ tl T S) [.ref (aa 0), .int (nI t9), .int 0, .int x, .int y] sz) (va_Qi (fun (r : Int32) (u : Int32 × Int32 × Bool × Bool) => match u with | (w0, w1, v2, v3) => (r = 1 ∧ ∃ u, j_wd (j_fb fp kp) co (j_ap zw) 5 t9 = some u ∧ jOk u ∧ fnd u w0 w1 v2 v3) ∨ (r = 0 ∧ j_wd (j_fb fp kp) co (j_ap zw) 5 t9 = none)) (qB D T (va_A (cX T aa zw kp fp e0 e1 oF oT kt ft ks fs fc S ++ tl T S) sz) (fun u : Int32 × Int32 × Bool × Bool => match u with | (w0, w1, v2, v3) => cX T aa zw kp fp w0 w1 v2 v3 kt ft ks fs fc S ++ tl T S)) (va_A (cX T aa zw kp fp e0 e1 oF oT kt ft ks fs fc S ++ tl T S) sz)) 0 0 (va_A (cX T aa zw kp fp e0 e1 oF oT kt ft ks fs fc S ++ tl T S) sz) := by
  refine Met.ofW (cc := b_T_findWordFrom) (maxL := 6) (ret := (some .boolean)) (by decide) rfl ?_
  intro p e s m args below meth c s₁ B hml hv
  obtain ⟨rfl, hsz, hP, hK, hD0, hF⟩ := hv
  have hx := B.exec
  have hb := B.bytes
  have hr := B.returns
  have hw : ∀ w ∈ bg_W, w.before ([.ref (aa 0), .int (nI t9), .int 0, .int x, .int y] : List Value).toArray s = true := fun w h => atoms_spec (ws := (Cond.code y_T_findWordFrom b_T_findWordFrom 6 (some .boolean) :: bg_W)) B.pre w (List.mem_cons_of_mem _ h)
  have hown : s.vm.findClass "TimeWords" = some m.cls := findClass_of_methodNamed B.named
  have hlocks := B.notSynchronized
  subst hsz
  have hD := hD0.self (sz := s.heap.size)
  generalize hAe : va_A (cX T aa zw kp fp e0 e1 oF oT kt ft ks fs fc S ++ tl T S) s.heap.size = A at hD hF ⊢
  have hA : ∀ q : Nat, s.heap.size ≤ q → A q := fun q h => by rw [← hAe]; exact Or.inr h
  have hS : va_S A s.heap s.heap [] := va_S.rf
  have hl := lv_entry ([.ref (aa 0), .int (nI t9), .int 0, .int x, .int y]) (n := 6) (Nat.le_of_ble_eq_true rfl)
  rw [lg_entry_eq]
  generalize (lg_sl ([.ref (aa 0), .int (nI t9), .int 0, .int x, .int y]) ++ List.replicate (6 - (lg_sl ([.ref (aa 0), .int (nI t9), .int 0, .int x, .int y])).length) Slot.unset).toArray = ls at hl ⊢
  have hl : lv_has ls 6 [(0, .ref (aa 0)), (1, .int (nI t9)), (2, .int 0), (3, .int x), (4, .int y)] := hl
  have hL1 : S.2.1.length ≤ 24 := hy0.2.2.2.1
  have hL2 : S.2.2.2.length ≤ 60 := hy0.2.2.2.2
  refine lv_aload_n hx hb d_T_findWordFrom_0 rfl (lv_at hl 0 rfl) ?_
  refine lv_iload_n hx hb d_T_findWordFrom_1 rfl (lv_at hl 1 rfl) ?_
  refine vp_callSi (va_Run.run (va_runV (As := [.int (nI t9)]) (rest := []) ⟨hx, hb, hml, hown, hw⟩ (k_T_beginningAt l D T κ A aa zw kp fp e0 e1 oF oT kt ft ks fs fc S t9 hy1 (by omega)) (cwV 1 hw (bg_V ml_T_258 wi_T_beginningAt wv_T_beginningAt wz_T wc_T_beginningAt) rfl rfl rfl (by decide +kernel) ⟨Nat.le_of_ble_eq_true rfl, Nat.le_of_ble_eq_true rfl⟩) ⟨sPf_b, va_recv hK hP (ci := 5) (q0 := 0) rfl rfl, sPf_p hP hK hF hS⟩ rfl rfl hl.1 rfl (lv_room (Nat.le_of_ble_eq_true rfl)) d_T_findWordFrom_2 ⟨Nat.le_of_ble_eq_true rfl, Nat.le_of_ble_eq_true rfl⟩)) (fun r1 hr1 => ?_)
  replace hr1 := hr1.symm; subst hr1
  rcases hfb : j_fb fp kp t9 with _ | b
  · refine W.eq (g2 := F0 m 5 ls [.int (-1)]) rfl ?_
    refine lv_istore (lv' := [(5, .int (-1)), (0, .ref (aa 0)), (1, .int (nI t9)), (2, .int 0), (3, .int x), (4, .int y)]) hx hb d_T_findWordFrom_5 hl (by decide) rfl (fun ls hl => ?_)
    refine lv_iload hx hb d_T_findWordFrom_7 (lv_at hl 0 rfl) ?_
    refine lv_iconst (v := (-1)) hx hb d_T_findWordFrom_9 (by decide) ?_
    refine lv_icmp_ne (tgt := 38) hx hb d_T_findWordFrom_10 (by decide) (fun c2 => absurd c2 (by decide)) (fun c2 => ?_)
    refine lv_aload_n hx hb d_T_findWordFrom_13 rfl (lv_at hl 1 rfl) ?_
    refine lv_iload_n hx hb d_T_findWordFrom_14 rfl (lv_at hl 2 rfl) ?_
    refine g_calli (va_runV (As := [.int (nI t9)]) (rest := []) ⟨hx, hb, hml, hown, hw⟩ (k_T_findCenturyFrom l D T κ aa zw kp fp e0 e1 oF oT kt ft ks fs fc S s.heap.size t9 hy1 hy2) (cwV 1 hw (bg_V ml_T_261 wi_T_findCenturyFrom wv_T_findCenturyFrom wz_T wc_T_findCenturyFrom) rfl rfl rfl (by decide +kernel) ⟨Nat.le_of_ble_eq_true rfl, Nat.le_of_ble_eq_true rfl⟩) ⟨qPf_b, va_recv hK hP (ci := 5) (q0 := 0) rfl rfl, qPf_p hP hK hD hF hS (g_free hD hS hA)⟩ rfl rfl hl.1 rfl (lv_room (Nat.le_of_ble_eq_true rfl)) d_T_findWordFrom_15 ⟨Nat.le_of_ble_eq_true rfl, Nat.le_of_ble_eq_true rfl⟩) hD hS hA (fun r3 u9 H locs hr3 hP hD hS => ?_)
    obtain ⟨u4, u5, u6, u7⟩ := u9
    dsimp only at hr3 hP hD
    have hP : va_P D gC (cX T aa zw kp fp u4 u5 u6 u7 kt ft ks fs fc S ++ tl T S) H := hP
    have hD : va_D A (cX T aa zw kp fp u4 u5 u6 u7 kt ft ks fs fc S ++ tl T S) := hD
    rcases hr3 with ⟨c0, c0b, g0, c1, c2, c3, c4⟩ | ⟨c0, g0⟩
    · subst g0
      refine lv_if_ne (tgt := 32) hx hb d_T_findWordFrom_18 (by decide) (fun c8 => ?_) (fun c8 => absurd c8 (by decide))
      refine lv_iconst (v := 1) hx hb d_T_findWordFrom_32 (by decide) ?_
      refine lv_goto (tgt := 37) hx hb d_T_findWordFrom_33 (by decide) ?_
      exact W.zret (v := 1) hx hb hr rfl (fun t ht hW => ⟨⟨1, (u4, u5, u6, u7), rfl, (Or.inl ⟨rfl, _, by rw [wd_none hfb, hy6.1 t9 c0, if_neg c0b], cv_ok c0 c0b, by rw [c1, c2, c3, c4]; exact fnd_of⟩), by rw [ht]; exact hP, va_K.moved hW.alike hK, hD⟩, hS.F ht⟩) hS.2.2 d_T_findWordFrom_37
    · subst g0
      refine lv_if_ne (tgt := 32) hx hb d_T_findWordFrom_18 (by decide) (fun c9 => absurd c9 (by decide)) (fun c9 => ?_)
      refine lv_aload_n hx hb d_T_findWordFrom_21 rfl (lv_at hl 1 rfl) ?_
      refine lv_iload_n hx hb d_T_findWordFrom_22 rfl (lv_at hl 2 rfl) ?_
      refine lv_iload_n hx hb d_T_findWordFrom_23 rfl (lv_at hl 4 rfl) ?_
      refine lv_iload hx hb d_T_findWordFrom_24 (lv_at hl 5 rfl) ?_
      refine g_calli (va_runV (As := [.int (nI t9), .int x, .int y]) (rest := []) ⟨hx, hb, hml, hown, hw⟩ (k_T_findNameFrom l D T κ aa zw kp fp u4 u5 u6 u7 kt ft ks fs fc S H.size t9 x y hy0 hy1 hy2) (cwV 3 hw (bg_V ml_T_264 wi_T_findNameFrom wv_T_findNameFrom wz_T wc_T_findNameFrom) rfl rfl rfl (by decide +kernel) ⟨Nat.le_of_ble_eq_true rfl, Nat.le_of_ble_eq_true rfl⟩) ⟨qPf_b, va_recv hK hP (ci := 5) (q0 := 0) rfl rfl, qPf_p hP hK hD hF hS (g_free hD hS hA)⟩ rfl rfl hl.1 rfl (lv_room (Nat.le_of_ble_eq_true rfl)) d_T_findWordFrom_26 ⟨Nat.le_of_ble_eq_true rfl, Nat.le_of_ble_eq_true rfl⟩) hD hS hA (fun r10 u9 H locs hr10 hP hD hS => ?_)
      obtain ⟨u11, u12, u13, u14⟩ := u9
      dsimp only at hr10 hP hD
      have hP : va_P D gC (cX T aa zw kp fp u11 u12 u13 u14 kt ft ks fs fc S ++ tl T S) H := hP
      have hD : va_D A (cX T aa zw kp fp u11 u12 u13 u14 kt ft ks fs fc S ++ tl T S) := hD
      rcases hr10 with ⟨g0, g1⟩ | ⟨g0, g1⟩
      · subst g0
        refine lv_if_eq (tgt := 36) hx hb d_T_findWordFrom_29 (by decide) (fun c15 => absurd c15 (by decide)) (fun c15 => ?_)
        refine lv_iconst (v := 1) hx hb d_T_findWordFrom_32 (by decide) ?_
        refine lv_goto (tgt := 37) hx hb d_T_findWordFrom_33 (by decide) ?_
        exact W.zret (v := 1) hx hb hr rfl (fun t ht hW => ⟨⟨1, (u11, u12, u13, u14), rfl, (by obtain ⟨i, n, r9, k1, k2, k3, k4, k5, k6, k7⟩ := g1; have hco := hy6.2.2.1 t9 i n (ce_mt hy3 k1 k2) k1 k2; rw [k3] at hco; exact Or.inl ⟨rfl, _, by rw [wd_none hfb, hco]; rfl, hy6.2.2.2 t9 _ hco, by rw [k4, k5, k6, k7]; exact fnd_of⟩), by rw [ht]; exact hP, va_K.moved hW.alike hK, hD⟩, hS.F ht⟩) hS.2.2 d_T_findWordFrom_37
      · subst g0
        refine lv_if_eq (tgt := 36) hx hb d_T_findWordFrom_29 (by decide) (fun c16 => ?_) (fun c16 => absurd c16 (by decide))
        refine lv_iconst (v := 0) hx hb d_T_findWordFrom_36 (by decide) ?_
        exact W.zret (v := 0) hx hb hr rfl (fun t ht hW => ⟨⟨0, (u11, u12, u13, u14), rfl, (by refine Or.inr ⟨rfl, ?_⟩; rw [wd_none hfb]; exact co_no hy3 hy6 c0 g1), by rw [ht]; exact hP, va_K.moved hW.alike hK, hD⟩, hS.F ht⟩) hS.2.2 d_T_findWordFrom_37
  · refine W.eq (g2 := F0 m 5 ls [.int (nI b)]) rfl ?_
    obtain ⟨hb6, hbp⟩ := fb_lt hfb
    have hbl : t9 + jl b ≤ kp := hbp.1
    refine lv_istore (lv' := [(5, .int (nI b)), (0, .ref (aa 0)), (1, .int (nI t9)), (2, .int 0), (3, .int x), (4, .int y)]) hx hb d_T_findWordFrom_5 hl (by decide) rfl (fun ls hl => ?_)
    refine lv_iload hx hb d_T_findWordFrom_7 (lv_at hl 0 rfl) ?_
    refine lv_iconst (v := (-1)) hx hb d_T_findWordFrom_9 (by decide) ?_
    refine lv_icmp_ne (tgt := 38) hx hb d_T_findWordFrom_10 (by decide) (fun c17 => ?_) (fun c17 => absurd c17 ((nI_m1 (by omega))))
    refine lv_iload_n hx hb d_T_findWordFrom_38 rfl (lv_at hl 3 rfl) ?_
    refine lv_iconst (v := 5) hx hb d_T_findWordFrom_39 (by decide) ?_
    refine lv_icmp_lt (tgt := 45) hx hb d_T_findWordFrom_40 (by decide) (fun c18 => ?_) (fun c18 => absurd c18 (by decide))
    refine lv_aload_n hx hb d_T_findWordFrom_45 rfl (lv_at hl 1 rfl) ?_
    refine lv_iload_n hx hb d_T_findWordFrom_46 rfl (lv_at hl 2 rfl) ?_
    refine lv_iload hx hb d_T_findWordFrom_47 (lv_at hl 0 rfl) ?_
    have hPc : va_P D gC ([]) s.heap := pc0
    refine va_csq (va_Run.run (va_runS (As := [.int (nI b)]) (rest := [.int (nI t9), .ref (aa 0)]) ⟨hx, hb, hml, hown, hw⟩ (k_T_beginning l D T κ A b hb6) (va_cwS 1 hw (bg_S ml_T_268 wt_T_beginning wz_T wc_T_beginning) rfl rfl rfl (by decide +kernel) ⟨Nat.le_of_ble_eq_true rfl, Nat.le_of_ble_eq_true rfl⟩) ⟨sPf_b, sPf_p hPc hK hF hS⟩ rfl rfl hl.1 rfl (lv_room (Nat.le_of_ble_eq_true rfl)) d_T_findWordFrom_49 ⟨Nat.le_of_ble_eq_true rfl, Nat.le_of_ble_eq_true rfl⟩)) (fun r19 hr19 => ?_)
    replace hr19 := hr19.symm; subst hr19
    refine W.eq (g2 := F0 m 52 ls [.ref (κ.1 (282 + 2 * b)), .int (nI t9), .ref (aa 0)]) rfl ?_
    have hPc : va_P D gC ([]) s.heap := pc0
    refine vp_callSi (va_Run.run (va_runV (As := []) (rest := [.int (nI t9), .ref (aa 0)]) ⟨hx, hb, hml, hown, hw⟩ (k_S_length l D T κ A b (by omega)) (cwV 0 hw (bg_V ml_T_272 wi_S_length wv_S_length wz_S wc_S_length) rfl rfl rfl (by decide +kernel) ⟨Nat.le_of_ble_eq_true rfl, Nat.le_of_ble_eq_true rfl⟩) ⟨sPf_b, va_Orecv (hF.1 b (by omega)).1 hS, sPf_p hPc hK hF hS⟩ rfl rfl hl.1 rfl (lv_room (Nat.le_of_ble_eq_true rfl)) d_T_findWordFrom_52 ⟨Nat.le_of_ble_eq_true rfl, Nat.le_of_ble_eq_true rfl⟩)) (fun r20 hr20 => ?_)
    replace hr20 := hr20.symm; subst hr20
    rw [sx_jl b hb6]
    refine lv_iadd hx hb d_T_findWordFrom_55 ?_
    rw [show (nI t9) + (nI (jl b)) = nI (t9 + (jl b)) from nI_add t9 (jl b)]
    refine lv_iload_n hx hb d_T_findWordFrom_56 rfl (lv_at hl 3 rfl) ?_
    refine lv_iconst (v := 1) hx hb d_T_findWordFrom_57 (by decide) ?_
    refine lv_iadd hx hb d_T_findWordFrom_58 ?_
    rw [show (0 : Int32) + 1 = 1 from by decide]
    refine lv_iload_n hx hb d_T_findWordFrom_59 rfl (lv_at hl 4 rfl) ?_
    refine lv_iload hx hb d_T_findWordFrom_60 (lv_at hl 5 rfl) ?_
    refine g_calli (va_runV (As := [.int (nI (t9 + (jl b))), .int 1, .int x, .int y]) (rest := []) ⟨hx, hb, hml, hown, hw⟩ (k_T_findWordFrom_a1 l D T κ aa zw kp fp e0 e1 oF oT kt ft ks fs fc S s.heap.size (t9 + (jl b)) x y co hy0 hy1 hbl hy3 hy4 hy5 hy6) (cwV 4 hw (bg_V ml_T_131 wi_T_findWordFrom wv_T_findWordFrom wz_T wc_T_findWordFrom) rfl rfl rfl (by decide +kernel) ⟨Nat.le_of_ble_eq_true rfl, Nat.le_of_ble_eq_true rfl⟩) ⟨qPf_b, va_recv hK hP (ci := 5) (q0 := 0) rfl rfl, qPf_p hP hK hD hF hS (g_free hD hS hA)⟩ rfl rfl hl.1 rfl (lv_room (Nat.le_of_ble_eq_true rfl)) d_T_findWordFrom_62 ⟨Nat.le_of_ble_eq_true rfl, Nat.le_of_ble_eq_true rfl⟩) hD hS hA (fun r21 u9 H locs hr21 hP hD hS => ?_)
    obtain ⟨u22, u23, u24, u25⟩ := u9
    dsimp only at hr21 hP hD
    have hP : va_P D gC (cX T aa zw kp fp u22 u23 u24 u25 kt ft ks fs fc S ++ tl T S) H := hP
    have hD : va_D A (cX T aa zw kp fp u22 u23 u24 u25 kt ft ks fs fc S ++ tl T S) := hD
    rcases hr21 with ⟨g0, g1⟩ | ⟨g0, g1⟩
    · subst g0
      obtain ⟨u, hu1, hu2, hu3⟩ := g1
      refine lv_if_eq (tgt := 81) hx hb d_T_findWordFrom_65 (by decide) (fun c26 => absurd c26 (by decide)) (fun c26 => ?_)
      refine lv_aload_n hx hb d_T_findWordFrom_68 rfl (lv_at hl 1 rfl) ?_
      refine lv_iload hx hb d_T_findWordFrom_69 (lv_at hl 0 rfl) ?_
      refine g_calli (va_runV (As := [.int (nI b)]) (rest := []) ⟨hx, hb, hml, hown, hw⟩ (k_T_begin l D T κ aa zw kp fp u22 u23 u24 u25 kt ft ks fs fc S H.size b u hb6 hu2 hu3 hy4 hy5) (cwV 1 hw (bg_V ml_T_275 wi_T_begin wv_T_begin wz_T wc_T_begin) rfl rfl rfl (by decide +kernel) ⟨Nat.le_of_ble_eq_true rfl, Nat.le_of_ble_eq_true rfl⟩) ⟨qPf_b, va_recv hK hP (ci := 5) (q0 := 0) rfl rfl, qPf_p hP hK hD hF hS (g_free hD hS hA)⟩ rfl rfl hl.1 rfl (lv_room (Nat.le_of_ble_eq_true rfl)) d_T_findWordFrom_71 ⟨Nat.le_of_ble_eq_true rfl, Nat.le_of_ble_eq_true rfl⟩) hD hS hA (fun r27 u9 H locs hr27 hP hD hS => ?_)
      obtain ⟨u28, u29, u30, u31⟩ := u9
      dsimp only at hr27 hP hD
      have hP : va_P D gC (cX T aa zw kp fp u28 u29 u30 u31 kt ft ks fs fc S ++ tl T S) H := hP
      have hD : va_D A (cX T aa zw kp fp u28 u29 u30 u31 kt ft ks fs fc S ++ tl T S) := hD
      rcases hr27 with ⟨g0, g1⟩ | ⟨g0, g1⟩
      · subst g0
        refine lv_if_eq (tgt := 81) hx hb d_T_findWordFrom_74 (by decide) (fun c32 => absurd c32 (by decide)) (fun c32 => ?_)
        refine lv_iconst (v := 1) hx hb d_T_findWordFrom_77 (by decide) ?_
        refine lv_goto (tgt := 82) hx hb d_T_findWordFrom_78 (by decide) ?_
        exact W.zret (v := 1) hx hb hr rfl (fun t ht hW => ⟨⟨1, (u28, u29, u30, u31), rfl, (by obtain ⟨u1, k1, k2, k3⟩ := g1; exact Or.inl ⟨rfl, u1, by rw [wd_some hfb, hu1]; exact k1, k2, k3⟩), by rw [ht]; exact hP, va_K.moved hW.alike hK, hD⟩, hS.F ht⟩) hS.2.2 d_T_findWordFrom_82
      · subst g0
        refine lv_if_eq (tgt := 81) hx hb d_T_findWordFrom_74 (by decide) (fun c33 => ?_) (fun c33 => absurd c33 (by decide))
        refine lv_iconst (v := 0) hx hb d_T_findWordFrom_81 (by decide) ?_
        exact W.zret (v := 0) hx hb hr rfl (fun t ht hW => ⟨⟨0, (u28, u29, u30, u31), rfl, (by refine Or.inr ⟨rfl, ?_⟩; rw [wd_some hfb, hu1]; exact g1), by rw [ht]; exact hP, va_K.moved hW.alike hK, hD⟩, hS.F ht⟩) hS.2.2 d_T_findWordFrom_82
    · subst g0
      refine lv_if_eq (tgt := 81) hx hb d_T_findWordFrom_65 (by decide) (fun c34 => ?_) (fun c34 => absurd c34 (by decide))
      refine lv_iconst (v := 0) hx hb d_T_findWordFrom_81 (by decide) ?_
      exact W.zret (v := 0) hx hb hr rfl (fun t ht hW => ⟨⟨0, (u22, u23, u24, u25), rfl, (by refine Or.inr ⟨rfl, ?_⟩; rw [wd_some hfb, g1]; rfl), by rw [ht]; exact hP, va_K.moved hW.alike hK, hD⟩, hS.F ht⟩) hS.2.2 d_T_findWordFrom_82
