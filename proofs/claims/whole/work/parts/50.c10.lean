set_option maxHeartbeats 4000000 in
set_option maxRecDepth 100000 in
theorem k_T_end (l : Launch) (D : va_G) (T : gT) (κ : gS) (A : Nat → Prop) (aa : Nat → Nat) (zw : Int32) (kp : Nat) (fp : Nat → Int32) (e0 e1 : Int32) (oF oT : Bool) (kt : Nat) (ft : Nat → Int32) (ks : Nat) (fs fc : Nat → Int32) (S : tS) (j : Nat) (q : spD) (wh : Int32) (hy0 : tOk κ S) (hy1 : S.2.2.2[j]? = some q) (hy2 : j_in wh 0 1 = true) (hy3 : (if wh = 0 then q.2.2.2.1 else q.2.2.2.2) = false) : Met l y_T_end (Cond.code y_T_end b_T_end 4 (some .int) :: bg_W) ({ frames := 4, cells := 0, slots := 0, locals := 85 }) (sPf κ A D T (cX T aa zw kp fp e0 e1 oF oT kt ft ks fs fc S ++ tl T S) [.ref (aa 0), .int (nI j), .int wh]) (vp_Si (fun r : Int32 => r = (if wh = 0 then q.2.1 else q.2.2.1))) 0 0 (fun _ => False) := by
  refine Met.ofW (cc := b_T_end) (maxL := 4) (ret := (some .int)) (by decide) rfl ?_
  intro p e s m args below meth c s₁ B hml hv
  obtain ⟨rfl, hP, hK, hF⟩ := hv
  have hx := B.exec
  have hb := B.bytes
  have hr := B.returns
  have hw : ∀ w ∈ bg_W, w.before ([.ref (aa 0), .int (nI j), .int wh] : List Value).toArray s = true := fun w h => atoms_spec (ws := (Cond.code y_T_end b_T_end 4 (some .int) :: bg_W)) B.pre w (List.mem_cons_of_mem _ h)
  have hown : s.vm.findClass "TimeWords" = some m.cls := findClass_of_methodNamed B.named
  have hlocks := B.notSynchronized
  have hS : va_S A s.heap s.heap [] := va_S.rf
  have hl := lv_entry ([.ref (aa 0), .int (nI j), .int wh]) (n := 4) (Nat.le_of_ble_eq_true rfl)
  rw [lg_entry_eq]
  generalize (lg_sl ([.ref (aa 0), .int (nI j), .int wh]) ++ List.replicate (4 - (lg_sl ([.ref (aa 0), .int (nI j), .int wh])).length) Slot.unset).toArray = ls at hl ⊢
  have hl : lv_has ls 4 [(0, .ref (aa 0)), (1, .int (nI j)), (2, .int wh)] := hl
  have hL1 : S.2.1.length ≤ 24 := hy0.2.2.2.1
  have hL2 : S.2.2.2.length ≤ 60 := hy0.2.2.2.2
  obtain ⟨hs1, hs2, hs3, hs4, hs5⟩ := sp_at hy0 hy1
  refine lv_aload_n hx hb d_T_end_0 rfl (lv_at hl 0 rfl) ?_
  refine lv_iload_n hx hb d_T_end_1 rfl (lv_at hl 1 rfl) ?_
  refine va_csq (va_Run.run (va_runV (As := [.int (nI j)]) (rest := []) ⟨hx, hb, hml, hown, hw⟩ (k_T_spanNumbered l D T κ A aa zw kp fp e0 e1 oF oT kt ft ks fs fc S j q hy0 hy1) (cwV 1 hw (bg_V ml_T_141 wi_T_spanNumbered wv_T_spanNumbered wz_T wc_T_spanNumbered) rfl rfl rfl (by decide +kernel) ⟨Nat.le_of_ble_eq_true rfl, Nat.le_of_ble_eq_true rfl⟩) ⟨sPf_b, va_recv hK hP (ci := 5) (q0 := 0) rfl rfl, sPf_p hP hK hF hS⟩ rfl rfl hl.1 rfl (lv_room (Nat.le_of_ble_eq_true rfl)) d_T_end_2 ⟨Nat.le_of_ble_eq_true rfl, Nat.le_of_ble_eq_true rfl⟩)) (fun r1 hr1 => ?_)
  replace hr1 := hr1.symm; subst hr1
  refine W.eq (g2 := F0 m 5 ls [.ref q.1]) rfl ?_
  refine lv_astore_n (lv' := [(3, .ref q.1), (0, .ref (aa 0)), (1, .int (nI j)), (2, .int wh)]) hx hb d_T_end_5 rfl hl (by decide) rfl (fun ls hl => ?_)
  refine lv_iload_n hx hb d_T_end_6 rfl (lv_at hl 3 rfl) ?_
  refine va_csv (va_Run.run (va_runS (As := [.int wh]) (rest := []) ⟨hx, hb, hml, hown, hw⟩ (k_T_checkEnd l wh hy2) (va_cwS 1 hw (bg_S ml_T_145 wt_T_checkEnd wz_T wc_T_checkEnd) rfl rfl rfl (by decide +kernel) ⟨Nat.le_of_ble_eq_true rfl, Nat.le_of_ble_eq_true rfl⟩) ⟨nP_b, nP_p⟩ rfl rfl hl.1 rfl (lv_room (Nat.le_of_ble_eq_true rfl)) d_T_end_7 ⟨Nat.le_of_ble_eq_true rfl, Nat.le_of_ble_eq_true rfl⟩)) (fun hr2 => ?_)
  refine lv_aload_n hx hb d_T_end_10 rfl (lv_at hl 0 rfl) ?_
  refine lv_iload_n hx hb d_T_end_11 rfl (lv_at hl 3 rfl) ?_
  have hPc : va_P D gC ([(q.1, .inr (2, [.int q.2.1, .int q.2.2.1, .int (b2i q.2.2.2.1), .int (b2i q.2.2.2.2)]))]) s.heap := (pc1 (hP.mem (List.mem_append_right _ (tl_sp hs5))) pc0)
  refine vp_callSi (va_Run.run (va_runV (As := [.int wh]) (rest := []) ⟨hx, hb, hml, hown, hw⟩ (k_Y_isOpenAt l D T q.1 q.2.1 q.2.2.1 q.2.2.2.1 q.2.2.2.2 wh) (cwV 1 hw (bg_V ml_T_148 wi_Y_isOpenAt wv_Y_isOpenAt wz_Y wc_Y_isOpenAt) rfl rfl rfl (by decide +kernel) ⟨Nat.le_of_ble_eq_true rfl, Nat.le_of_ble_eq_true rfl⟩) ⟨sP_b, va_recv hK hPc (ci := 2) (q0 := 0) rfl rfl, sP_p hPc hK⟩ rfl rfl hl.1 rfl (lv_room (Nat.le_of_ble_eq_true rfl)) d_T_end_12 ⟨Nat.le_of_ble_eq_true rfl, Nat.le_of_ble_eq_true rfl⟩)) (fun r3 hr3 => ?_)
  replace hr3 := hr3.symm; subst hr3
  refine lv_if_eq (tgt := 28) hx hb d_T_end_15 (by decide) (fun c4 => ?_) (fun c4 => absurd ((by rw [hy3]; rfl)) c4)
  refine lv_iload_n hx hb d_T_end_28 rfl (lv_at hl 3 rfl) ?_
  refine lv_if_ne (tgt := 39) hx hb d_T_end_29 (by decide) (fun c5 => ?_) (fun c5 => ?_)
  · refine lv_aload_n hx hb d_T_end_39 rfl (lv_at hl 0 rfl) ?_
    refine va_get (D := D) (ci := 2) (v := .int q.2.2.1) (C := "TimeWords$Years") (T := F_Y) (N := 4) hx hb hw in_Y hown hK (pc1 (hP.mem (List.mem_append_right _ (tl_sp hs5))) pc0) 0 rfl rfl 1 (by decide) (hw _ fl_T_156) (fun _ h9 => h9) rfl d_T_end_40 ?_
    exact W.iret (v := q.2.2.1) hx hb hr (fun t ht hW => ⟨q.2.2.1, rfl, (by simp only [if_neg c5, decide_eq_false c5]), ht⟩) (fun _ h => nomatch h) d_T_end_43
  · refine lv_aload_n hx hb d_T_end_32 rfl (lv_at hl 0 rfl) ?_
    refine va_get (D := D) (ci := 2) (v := .int q.2.1) (C := "TimeWords$Years") (T := F_Y) (N := 4) hx hb hw in_Y hown hK (pc1 (hP.mem (List.mem_append_right _ (tl_sp hs5))) pc0) 0 rfl rfl 0 (by decide) (hw _ fl_T_153) (fun _ h9 => h9) rfl d_T_end_33 ?_
    refine lv_goto (tgt := 43) hx hb d_T_end_36 (by decide) ?_
    exact W.iret (v := q.2.1) hx hb hr (fun t ht hW => ⟨q.2.1, rfl, (by simp only [if_pos c5, decide_eq_true c5]), ht⟩) (fun _ h => nomatch h) d_T_end_43

set_option maxHeartbeats 4000000 in
set_option maxRecDepth 100000 in
theorem k_T_end_x (l : Launch) (hl9 : l.stackTraces = false) (D : va_G) (T : gT) (κ : gS) (A : Nat → Prop) (aa : Nat → Nat) (zw : Int32) (kp : Nat) (fp : Nat → Int32) (e0 e1 : Int32) (oF oT : Bool) (kt : Nat) (ft : Nat → Int32) (ks : Nat) (fs fc : Nat → Int32) (S : tS) (sz : Nat) (x wh : Int32) (hy0 : j_ix x (nI S.2.2.2.length) = false) : vx_Met l y_T_end (Cond.code y_T_end b_T_end 4 (some .int) :: bg_W) ({ frames := 8, cells := 1, slots := 6, locals := 131 }) (xPf κ A D T (cX T aa zw kp fp e0 e1 oF oT kt ft ks fs fc S ++ tl T S) [.ref (aa 0), .int x, .int wh] sz) xN (xE "java/lang/IndexOutOfBoundsException" sz) 1 6 (fun q => sz ≤ q) := by
  refine vx_ofW (cc := b_T_end) (maxL := 4) (ret := (some .int)) (by decide) rfl ?_
  intro p e s m args below meth c s₁ B hml htab hv
  obtain ⟨rfl, hsz, hP, hK, hF⟩ := hv
  have hx := B.exec
  have hb := B.bytes
  have hr := B.returns
  have hw : ∀ w ∈ bg_W, w.before ([.ref (aa 0), .int x, .int wh] : List Value).toArray s = true := fun w h => atoms_spec (ws := (Cond.code y_T_end b_T_end 4 (some .int) :: bg_W)) B.pre w (List.mem_cons_of_mem _ h)
  have hown : s.vm.findClass "TimeWords" = some m.cls := findClass_of_methodNamed B.named
  have hlocks := B.notSynchronized
  subst hsz
  have hS : va_S A s.heap s.heap [] := va_S.rf
  have hl := lv_entry ([.ref (aa 0), .int x, .int wh]) (n := 4) (Nat.le_of_ble_eq_true rfl)
  rw [lg_entry_eq]
  generalize (lg_sl ([.ref (aa 0), .int x, .int wh]) ++ List.replicate (4 - (lg_sl ([.ref (aa 0), .int x, .int wh])).length) Slot.unset).toArray = ls at hl ⊢
  have hl : lv_has ls 4 [(0, .ref (aa 0)), (1, .int x), (2, .int wh)] := hl
  refine lv_aload_n hx hb d_T_end_0 rfl (lv_at hl 0 rfl) ?_
  refine lv_iload_n hx hb d_T_end_1 rfl (lv_at hl 1 rfl) ?_
  exact x_call (vx_runV (As := [.int x]) (rest := []) ⟨hx, hb, hml, hown, hw⟩ (k_T_spanNumbered_x l hl9 D T κ A aa zw kp fp e0 e1 oF oT kt ft ks fs fc S s.heap.size x hy0) (cwV 1 hw (bg_V ml_T_141 wi_T_spanNumbered wv_T_spanNumbered wz_T wc_T_spanNumbered) rfl rfl rfl (by decide +kernel) ⟨Nat.le_of_ble_eq_true rfl, Nat.le_of_ble_eq_true rfl⟩) ⟨xPf_b, va_recv hK hP (ci := 5) (q0 := 0) rfl rfl, xPf_p hP hK hF hS⟩ rfl rfl hl.1 rfl (lv_room (Nat.le_of_ble_eq_true rfl)) d_T_end_2 ⟨Nat.le_of_ble_eq_true rfl, Nat.le_of_ble_eq_true rfl⟩) htab hlocks

set_option maxHeartbeats 4000000 in
set_option maxRecDepth 100000 in
theorem k_T_end_y (l : Launch) (hl9 : l.stackTraces = false) (D : va_G) (T : gT) (κ : gS) (A : Nat → Prop) (aa : Nat → Nat) (zw : Int32) (kp : Nat) (fp : Nat → Int32) (e0 e1 : Int32) (oF oT : Bool) (kt : Nat) (ft : Nat → Int32) (ks : Nat) (fs fc : Nat → Int32) (S : tS) (sz : Nat) (j : Nat) (q : spD) (wh : Int32) (hy0 : tOk κ S) (hy1 : S.2.2.2[j]? = some q) (hy2 : j_in wh 0 1 = false) : vx_Met l y_T_end (Cond.code y_T_end b_T_end 4 (some .int) :: bg_W) ({ frames := 8, cells := 1, slots := 6, locals := 130 }) (xPf κ A D T (cX T aa zw kp fp e0 e1 oF oT kt ft ks fs fc S ++ tl T S) [.ref (aa 0), .int (nI j), .int wh] sz) xN (xE "java/lang/IndexOutOfBoundsException" sz) 1 6 (fun q => sz ≤ q) := by
  refine vx_ofW (cc := b_T_end) (maxL := 4) (ret := (some .int)) (by decide) rfl ?_
  intro p e s m args below meth c s₁ B hml htab hv
  obtain ⟨rfl, hsz, hP, hK, hF⟩ := hv
  have hx := B.exec
  have hb := B.bytes
  have hr := B.returns
  have hw : ∀ w ∈ bg_W, w.before ([.ref (aa 0), .int (nI j), .int wh] : List Value).toArray s = true := fun w h => atoms_spec (ws := (Cond.code y_T_end b_T_end 4 (some .int) :: bg_W)) B.pre w (List.mem_cons_of_mem _ h)
  have hown : s.vm.findClass "TimeWords" = some m.cls := findClass_of_methodNamed B.named
  have hlocks := B.notSynchronized
  subst hsz
  have hS : va_S A s.heap s.heap [] := va_S.rf
  have hl := lv_entry ([.ref (aa 0), .int (nI j), .int wh]) (n := 4) (Nat.le_of_ble_eq_true rfl)
  rw [lg_entry_eq]
  generalize (lg_sl ([.ref (aa 0), .int (nI j), .int wh]) ++ List.replicate (4 - (lg_sl ([.ref (aa 0), .int (nI j), .int wh])).length) Slot.unset).toArray = ls at hl ⊢
  have hl : lv_has ls 4 [(0, .ref (aa 0)), (1, .int (nI j)), (2, .int wh)] := hl
  have hL1 : S.2.1.length ≤ 24 := hy0.2.2.2.1
  have hL2 : S.2.2.2.length ≤ 60 := hy0.2.2.2.2
  obtain ⟨hs1, hs2, hs3, hs4, hs5⟩ := sp_at hy0 hy1
  refine lv_aload_n hx hb d_T_end_0 rfl (lv_at hl 0 rfl) ?_
  refine lv_iload_n hx hb d_T_end_1 rfl (lv_at hl 1 rfl) ?_
  refine va_csq (va_Run.run (va_runV (As := [.int (nI j)]) (rest := []) ⟨hx, hb, hml, hown, hw⟩ (k_T_spanNumbered l D T κ A aa zw kp fp e0 e1 oF oT kt ft ks fs fc S j q hy0 hy1) (cwV 1 hw (bg_V ml_T_141 wi_T_spanNumbered wv_T_spanNumbered wz_T wc_T_spanNumbered) rfl rfl rfl (by decide +kernel) ⟨Nat.le_of_ble_eq_true rfl, Nat.le_of_ble_eq_true rfl⟩) ⟨sPf_b, va_recv hK hP (ci := 5) (q0 := 0) rfl rfl, sPf_p hP hK hF hS⟩ rfl rfl hl.1 rfl (lv_room (Nat.le_of_ble_eq_true rfl)) d_T_end_2 ⟨Nat.le_of_ble_eq_true rfl, Nat.le_of_ble_eq_true rfl⟩)) (fun r1 hr1 => ?_)
  replace hr1 := hr1.symm; subst hr1
  refine W.eq (g2 := F0 m 5 ls [.ref q.1]) rfl ?_
  refine lv_astore_n (lv' := [(3, .ref q.1), (0, .ref (aa 0)), (1, .int (nI j)), (2, .int wh)]) hx hb d_T_end_5 rfl hl (by decide) rfl (fun ls hl => ?_)
  refine lv_iload_n hx hb d_T_end_6 rfl (lv_at hl 3 rfl) ?_
  have hPc : va_P D gC ([]) s.heap := pc0
  exact x_call (vx_runS (As := [.int wh]) (rest := []) ⟨hx, hb, hml, hown, hw⟩ (k_T_checkEnd_x l hl9 D T κ A s.heap.size wh hy2) (va_cwS 1 hw (bg_S ml_T_145 wt_T_checkEnd wz_T wc_T_checkEnd) rfl rfl rfl (by decide +kernel) ⟨Nat.le_of_ble_eq_true rfl, Nat.le_of_ble_eq_true rfl⟩) ⟨xPf_b, xPf_p hPc hK hF hS⟩ rfl rfl hl.1 rfl (lv_room (Nat.le_of_ble_eq_true rfl)) d_T_end_7 ⟨Nat.le_of_ble_eq_true rfl, Nat.le_of_ble_eq_true rfl⟩) htab hlocks

set_option maxHeartbeats 4000000 in
set_option maxRecDepth 100000 in
theorem k_T_end_z (l : Launch) (hl9 : l.stackTraces = false) (D : va_G) (T : gT) (κ : gS) (A : Nat → Prop) (aa : Nat → Nat) (zw : Int32) (kp : Nat) (fp : Nat → Int32) (e0 e1 : Int32) (oF oT : Bool) (kt : Nat) (ft : Nat → Int32) (ks : Nat) (fs fc : Nat → Int32) (S : tS) (sz : Nat) (j : Nat) (q : spD) (wh : Int32) (hy0 : tOk κ S) (hy1 : S.2.2.2[j]? = some q) (hy2 : j_in wh 0 1 = true) (hy3 : (if wh = 0 then q.2.2.2.1 else q.2.2.2.2) = true) : vx_Met l y_T_end (Cond.code y_T_end b_T_end 4 (some .int) :: bg_W) ({ frames := 7, cells := 1, slots := 6, locals := 110 }) (xPf κ A D T (cX T aa zw kp fp e0 e1 oF oT kt ft ks fs fc S ++ tl T S) [.ref (aa 0), .int (nI j), .int wh] sz) xN (xE "java/lang/IllegalStateException" sz) 1 6 (fun q => sz ≤ q) := by
  refine vx_ofW (cc := b_T_end) (maxL := 4) (ret := (some .int)) (by decide) rfl ?_
  intro p e s m args below meth c s₁ B hml htab hv
  obtain ⟨rfl, hsz, hP, hK, hF⟩ := hv
  have hx := B.exec
  have hb := B.bytes
  have hr := B.returns
  have hw : ∀ w ∈ bg_W, w.before ([.ref (aa 0), .int (nI j), .int wh] : List Value).toArray s = true := fun w h => atoms_spec (ws := (Cond.code y_T_end b_T_end 4 (some .int) :: bg_W)) B.pre w (List.mem_cons_of_mem _ h)
  have hown : s.vm.findClass "TimeWords" = some m.cls := findClass_of_methodNamed B.named
  have hlocks := B.notSynchronized
  subst hsz
  have hS : va_S A s.heap s.heap [] := va_S.rf
  have hl := lv_entry ([.ref (aa 0), .int (nI j), .int wh]) (n := 4) (Nat.le_of_ble_eq_true rfl)
  rw [lg_entry_eq]
  generalize (lg_sl ([.ref (aa 0), .int (nI j), .int wh]) ++ List.replicate (4 - (lg_sl ([.ref (aa 0), .int (nI j), .int wh])).length) Slot.unset).toArray = ls at hl ⊢
  have hl : lv_has ls 4 [(0, .ref (aa 0)), (1, .int (nI j)), (2, .int wh)] := hl
  have hL1 : S.2.1.length ≤ 24 := hy0.2.2.2.1
  have hL2 : S.2.2.2.length ≤ 60 := hy0.2.2.2.2
  obtain ⟨hs1, hs2, hs3, hs4, hs5⟩ := sp_at hy0 hy1
  refine lv_aload_n hx hb d_T_end_0 rfl (lv_at hl 0 rfl) ?_
  refine lv_iload_n hx hb d_T_end_1 rfl (lv_at hl 1 rfl) ?_
  refine va_csq (va_Run.run (va_runV (As := [.int (nI j)]) (rest := []) ⟨hx, hb, hml, hown, hw⟩ (k_T_spanNumbered l D T κ A aa zw kp fp e0 e1 oF oT kt ft ks fs fc S j q hy0 hy1) (cwV 1 hw (bg_V ml_T_141 wi_T_spanNumbered wv_T_spanNumbered wz_T wc_T_spanNumbered) rfl rfl rfl (by decide +kernel) ⟨Nat.le_of_ble_eq_true rfl, Nat.le_of_ble_eq_true rfl⟩) ⟨sPf_b, va_recv hK hP (ci := 5) (q0 := 0) rfl rfl, sPf_p hP hK hF hS⟩ rfl rfl hl.1 rfl (lv_room (Nat.le_of_ble_eq_true rfl)) d_T_end_2 ⟨Nat.le_of_ble_eq_true rfl, Nat.le_of_ble_eq_true rfl⟩)) (fun r1 hr1 => ?_)
  replace hr1 := hr1.symm; subst hr1
  refine W.eq (g2 := F0 m 5 ls [.ref q.1]) rfl ?_
  refine lv_astore_n (lv' := [(3, .ref q.1), (0, .ref (aa 0)), (1, .int (nI j)), (2, .int wh)]) hx hb d_T_end_5 rfl hl (by decide) rfl (fun ls hl => ?_)
  refine lv_iload_n hx hb d_T_end_6 rfl (lv_at hl 3 rfl) ?_
  refine va_csv (va_Run.run (va_runS (As := [.int wh]) (rest := []) ⟨hx, hb, hml, hown, hw⟩ (k_T_checkEnd l wh hy2) (va_cwS 1 hw (bg_S ml_T_145 wt_T_checkEnd wz_T wc_T_checkEnd) rfl rfl rfl (by decide +kernel) ⟨Nat.le_of_ble_eq_true rfl, Nat.le_of_ble_eq_true rfl⟩) ⟨nP_b, nP_p⟩ rfl rfl hl.1 rfl (lv_room (Nat.le_of_ble_eq_true rfl)) d_T_end_7 ⟨Nat.le_of_ble_eq_true rfl, Nat.le_of_ble_eq_true rfl⟩)) (fun hr2 => ?_)
  refine lv_aload_n hx hb d_T_end_10 rfl (lv_at hl 0 rfl) ?_
  refine lv_iload_n hx hb d_T_end_11 rfl (lv_at hl 3 rfl) ?_
  have hPc : va_P D gC ([(q.1, .inr (2, [.int q.2.1, .int q.2.2.1, .int (b2i q.2.2.2.1), .int (b2i q.2.2.2.2)]))]) s.heap := (pc1 (hP.mem (List.mem_append_right _ (tl_sp hs5))) pc0)
  refine vp_callSi (va_Run.run (va_runV (As := [.int wh]) (rest := []) ⟨hx, hb, hml, hown, hw⟩ (k_Y_isOpenAt l D T q.1 q.2.1 q.2.2.1 q.2.2.2.1 q.2.2.2.2 wh) (cwV 1 hw (bg_V ml_T_148 wi_Y_isOpenAt wv_Y_isOpenAt wz_Y wc_Y_isOpenAt) rfl rfl rfl (by decide +kernel) ⟨Nat.le_of_ble_eq_true rfl, Nat.le_of_ble_eq_true rfl⟩) ⟨sP_b, va_recv hK hPc (ci := 2) (q0 := 0) rfl rfl, sP_p hPc hK⟩ rfl rfl hl.1 rfl (lv_room (Nat.le_of_ble_eq_true rfl)) d_T_end_12 ⟨Nat.le_of_ble_eq_true rfl, Nat.le_of_ble_eq_true rfl⟩)) (fun r3 hr3 => ?_)
  replace hr3 := hr3.symm; subst hr3
  refine lv_if_eq (tgt := 28) hx hb d_T_end_15 (by decide) (fun c4 => absurd c4 ((by rw [hy3]; decide))) (fun c4 => ?_)
  exact vx_throwS (rest := []) hx hb hl9 hown th_IS_f th_n (hw _ kl_T_65) (hw _ wz_IS) (hF.2.2.2.2 (151, "the span is open there") (by decide)) (th_IS_w hw hF) th_IS_g hF.2.1.2.2.2.2.2.2.1 hF.2.1.2.2.2.2.2.2.2 hS (hl.1.trans hml.symm) (d_T_end_18) (d_T_end_21) (d_T_end_22) (d_T_end_24) (d_T_end_27) (fun x h9 => (htab x h9).elim) (Nat.le_of_ble_eq_true rfl) (Nat.le_of_ble_eq_true rfl) (Nat.le_of_ble_eq_true rfl) (Nat.le_of_ble_eq_true rfl) hlocks (fun t9 h8 h7 h6 => ⟨(), trivial, rfl, ⟨h7, fun q h1 _ => h6 q h1⟩⟩) (fun z h9 => absurd h9 List.not_mem_nil) (Nat.le_of_ble_eq_true rfl) (Nat.le_of_ble_eq_true rfl)

set_option maxHeartbeats 4000000 in
set_option maxRecDepth 100000 in
theorem k_T_open (l : Launch) (D : va_G) (T : gT) (κ : gS) (A : Nat → Prop) (aa : Nat → Nat) (zw : Int32) (kp : Nat) (fp : Nat → Int32) (e0 e1 : Int32) (oF oT : Bool) (kt : Nat) (ft : Nat → Int32) (ks : Nat) (fs fc : Nat → Int32) (S : tS) (j : Nat) (q : spD) (wh : Int32) (hy0 : tOk κ S) (hy1 : S.2.2.2[j]? = some q) (hy2 : j_in wh 0 1 = true) : Met l y_T_open (Cond.code y_T_open b_T_open 4 (some .boolean) :: bg_W) ({ frames := 4, cells := 0, slots := 0, locals := 85 }) (sPf κ A D T (cX T aa zw kp fp e0 e1 oF oT kt ft ks fs fc S ++ tl T S) [.ref (aa 0), .int (nI j), .int wh]) (vp_Si (fun r : Int32 => r = b2i (if wh = 0 then q.2.2.2.1 else q.2.2.2.2))) 0 0 (fun _ => False) := by
  refine Met.ofW (cc := b_T_open) (maxL := 4) (ret := (some .boolean)) (by decide) rfl ?_
  intro p e s m args below meth c s₁ B hml hv
  obtain ⟨rfl, hP, hK, hF⟩ := hv
  have hx := B.exec
  have hb := B.bytes
  have hr := B.returns
  have hw : ∀ w ∈ bg_W, w.before ([.ref (aa 0), .int (nI j), .int wh] : List Value).toArray s = true := fun w h => atoms_spec (ws := (Cond.code y_T_open b_T_open 4 (some .boolean) :: bg_W)) B.pre w (List.mem_cons_of_mem _ h)
  have hown : s.vm.findClass "TimeWords" = some m.cls := findClass_of_methodNamed B.named
  have hlocks := B.notSynchronized
  have hS : va_S A s.heap s.heap [] := va_S.rf
  have hl := lv_entry ([.ref (aa 0), .int (nI j), .int wh]) (n := 4) (Nat.le_of_ble_eq_true rfl)
  rw [lg_entry_eq]
  generalize (lg_sl ([.ref (aa 0), .int (nI j), .int wh]) ++ List.replicate (4 - (lg_sl ([.ref (aa 0), .int (nI j), .int wh])).length) Slot.unset).toArray = ls at hl ⊢
  have hl : lv_has ls 4 [(0, .ref (aa 0)), (1, .int (nI j)), (2, .int wh)] := hl
  have hL1 : S.2.1.length ≤ 24 := hy0.2.2.2.1
  have hL2 : S.2.2.2.length ≤ 60 := hy0.2.2.2.2
  obtain ⟨hs1, hs2, hs3, hs4, hs5⟩ := sp_at hy0 hy1
  refine lv_aload_n hx hb d_T_open_0 rfl (lv_at hl 0 rfl) ?_
  refine lv_iload_n hx hb d_T_open_1 rfl (lv_at hl 1 rfl) ?_
  refine va_csq (va_Run.run (va_runV (As := [.int (nI j)]) (rest := []) ⟨hx, hb, hml, hown, hw⟩ (k_T_spanNumbered l D T κ A aa zw kp fp e0 e1 oF oT kt ft ks fs fc S j q hy0 hy1) (cwV 1 hw (bg_V ml_T_141 wi_T_spanNumbered wv_T_spanNumbered wz_T wc_T_spanNumbered) rfl rfl rfl (by decide +kernel) ⟨Nat.le_of_ble_eq_true rfl, Nat.le_of_ble_eq_true rfl⟩) ⟨sPf_b, va_recv hK hP (ci := 5) (q0 := 0) rfl rfl, sPf_p hP hK hF hS⟩ rfl rfl hl.1 rfl (lv_room (Nat.le_of_ble_eq_true rfl)) d_T_open_2 ⟨Nat.le_of_ble_eq_true rfl, Nat.le_of_ble_eq_true rfl⟩)) (fun r1 hr1 => ?_)
  replace hr1 := hr1.symm; subst hr1
  refine W.eq (g2 := F0 m 5 ls [.ref q.1]) rfl ?_
  refine lv_astore_n (lv' := [(3, .ref q.1), (0, .ref (aa 0)), (1, .int (nI j)), (2, .int wh)]) hx hb d_T_open_5 rfl hl (by decide) rfl (fun ls hl => ?_)
  refine lv_iload_n hx hb d_T_open_6 rfl (lv_at hl 3 rfl) ?_
  refine va_csv (va_Run.run (va_runS (As := [.int wh]) (rest := []) ⟨hx, hb, hml, hown, hw⟩ (k_T_checkEnd l wh hy2) (va_cwS 1 hw (bg_S ml_T_145 wt_T_checkEnd wz_T wc_T_checkEnd) rfl rfl rfl (by decide +kernel) ⟨Nat.le_of_ble_eq_true rfl, Nat.le_of_ble_eq_true rfl⟩) ⟨nP_b, nP_p⟩ rfl rfl hl.1 rfl (lv_room (Nat.le_of_ble_eq_true rfl)) d_T_open_7 ⟨Nat.le_of_ble_eq_true rfl, Nat.le_of_ble_eq_true rfl⟩)) (fun hr2 => ?_)
  refine lv_aload_n hx hb d_T_open_10 rfl (lv_at hl 0 rfl) ?_
  refine lv_iload_n hx hb d_T_open_11 rfl (lv_at hl 3 rfl) ?_
  have hPc : va_P D gC ([(q.1, .inr (2, [.int q.2.1, .int q.2.2.1, .int (b2i q.2.2.2.1), .int (b2i q.2.2.2.2)]))]) s.heap := (pc1 (hP.mem (List.mem_append_right _ (tl_sp hs5))) pc0)
  refine vp_callSi (va_Run.run (va_runV (As := [.int wh]) (rest := []) ⟨hx, hb, hml, hown, hw⟩ (k_Y_isOpenAt l D T q.1 q.2.1 q.2.2.1 q.2.2.2.1 q.2.2.2.2 wh) (cwV 1 hw (bg_V ml_T_148 wi_Y_isOpenAt wv_Y_isOpenAt wz_Y wc_Y_isOpenAt) rfl rfl rfl (by decide +kernel) ⟨Nat.le_of_ble_eq_true rfl, Nat.le_of_ble_eq_true rfl⟩) ⟨sP_b, va_recv hK hPc (ci := 2) (q0 := 0) rfl rfl, sP_p hPc hK⟩ rfl rfl hl.1 rfl (lv_room (Nat.le_of_ble_eq_true rfl)) d_T_open_12 ⟨Nat.le_of_ble_eq_true rfl, Nat.le_of_ble_eq_true rfl⟩)) (fun r3 hr3 => ?_)
  replace hr3 := hr3.symm; subst hr3
  exact W.zret (v := b2i (if wh = 0 then q.2.2.2.1 else q.2.2.2.2)) hx hb hr (b2i_n _) (fun t ht hW => ⟨b2i (if wh = 0 then q.2.2.2.1 else q.2.2.2.2), rfl, rfl, ht⟩) (fun _ h => nomatch h) d_T_open_15

set_option maxHeartbeats 4000000 in
set_option maxRecDepth 100000 in
theorem k_T_open_x (l : Launch) (hl9 : l.stackTraces = false) (D : va_G) (T : gT) (κ : gS) (A : Nat → Prop) (aa : Nat → Nat) (zw : Int32) (kp : Nat) (fp : Nat → Int32) (e0 e1 : Int32) (oF oT : Bool) (kt : Nat) (ft : Nat → Int32) (ks : Nat) (fs fc : Nat → Int32) (S : tS) (sz : Nat) (x wh : Int32) (hy0 : j_ix x (nI S.2.2.2.length) = false) : vx_Met l y_T_open (Cond.code y_T_open b_T_open 4 (some .boolean) :: bg_W) ({ frames := 8, cells := 1, slots := 6, locals := 131 }) (xPf κ A D T (cX T aa zw kp fp e0 e1 oF oT kt ft ks fs fc S ++ tl T S) [.ref (aa 0), .int x, .int wh] sz) xN (xE "java/lang/IndexOutOfBoundsException" sz) 1 6 (fun q => sz ≤ q) := by
  refine vx_ofW (cc := b_T_open) (maxL := 4) (ret := (some .boolean)) (by decide) rfl ?_
  intro p e s m args below meth c s₁ B hml htab hv
  obtain ⟨rfl, hsz, hP, hK, hF⟩ := hv
  have hx := B.exec
  have hb := B.bytes
  have hr := B.returns
  have hw : ∀ w ∈ bg_W, w.before ([.ref (aa 0), .int x, .int wh] : List Value).toArray s = true := fun w h => atoms_spec (ws := (Cond.code y_T_open b_T_open 4 (some .boolean) :: bg_W)) B.pre w (List.mem_cons_of_mem _ h)
  have hown : s.vm.findClass "TimeWords" = some m.cls := findClass_of_methodNamed B.named
  have hlocks := B.notSynchronized
  subst hsz
  have hS : va_S A s.heap s.heap [] := va_S.rf
  have hl := lv_entry ([.ref (aa 0), .int x, .int wh]) (n := 4) (Nat.le_of_ble_eq_true rfl)
  rw [lg_entry_eq]
  generalize (lg_sl ([.ref (aa 0), .int x, .int wh]) ++ List.replicate (4 - (lg_sl ([.ref (aa 0), .int x, .int wh])).length) Slot.unset).toArray = ls at hl ⊢
  have hl : lv_has ls 4 [(0, .ref (aa 0)), (1, .int x), (2, .int wh)] := hl
  refine lv_aload_n hx hb d_T_open_0 rfl (lv_at hl 0 rfl) ?_
  refine lv_iload_n hx hb d_T_open_1 rfl (lv_at hl 1 rfl) ?_
  exact x_call (vx_runV (As := [.int x]) (rest := []) ⟨hx, hb, hml, hown, hw⟩ (k_T_spanNumbered_x l hl9 D T κ A aa zw kp fp e0 e1 oF oT kt ft ks fs fc S s.heap.size x hy0) (cwV 1 hw (bg_V ml_T_141 wi_T_spanNumbered wv_T_spanNumbered wz_T wc_T_spanNumbered) rfl rfl rfl (by decide +kernel) ⟨Nat.le_of_ble_eq_true rfl, Nat.le_of_ble_eq_true rfl⟩) ⟨xPf_b, va_recv hK hP (ci := 5) (q0 := 0) rfl rfl, xPf_p hP hK hF hS⟩ rfl rfl hl.1 rfl (lv_room (Nat.le_of_ble_eq_true rfl)) d_T_open_2 ⟨Nat.le_of_ble_eq_true rfl, Nat.le_of_ble_eq_true rfl⟩) htab hlocks

set_option maxHeartbeats 4000000 in
set_option maxRecDepth 100000 in
theorem k_T_open_y (l : Launch) (hl9 : l.stackTraces = false) (D : va_G) (T : gT) (κ : gS) (A : Nat → Prop) (aa : Nat → Nat) (zw : Int32) (kp : Nat) (fp : Nat → Int32) (e0 e1 : Int32) (oF oT : Bool) (kt : Nat) (ft : Nat → Int32) (ks : Nat) (fs fc : Nat → Int32) (S : tS) (sz : Nat) (j : Nat) (q : spD) (wh : Int32) (hy0 : tOk κ S) (hy1 : S.2.2.2[j]? = some q) (hy2 : j_in wh 0 1 = false) : vx_Met l y_T_open (Cond.code y_T_open b_T_open 4 (some .boolean) :: bg_W) ({ frames := 8, cells := 1, slots := 6, locals := 130 }) (xPf κ A D T (cX T aa zw kp fp e0 e1 oF oT kt ft ks fs fc S ++ tl T S) [.ref (aa 0), .int (nI j), .int wh] sz) xN (xE "java/lang/IndexOutOfBoundsException" sz) 1 6 (fun q => sz ≤ q) := by
  refine vx_ofW (cc := b_T_open) (maxL := 4) (ret := (some .boolean)) (by decide) rfl ?_
  intro p e s m args below meth c s₁ B hml htab hv
  obtain ⟨rfl, hsz, hP, hK, hF⟩ := hv
  have hx := B.exec
  have hb := B.bytes
  have hr := B.returns
  have hw : ∀ w ∈ bg_W, w.before ([.ref (aa 0), .int (nI j), .int wh] : List Value).toArray s = true := fun w h => atoms_spec (ws := (Cond.code y_T_open b_T_open 4 (some .boolean) :: bg_W)) B.pre w (List.mem_cons_of_mem _ h)
  have hown : s.vm.findClass "TimeWords" = some m.cls := findClass_of_methodNamed B.named
  have hlocks := B.notSynchronized
  subst hsz
  have hS : va_S A s.heap s.heap [] := va_S.rf
  have hl := lv_entry ([.ref (aa 0), .int (nI j), .int wh]) (n := 4) (Nat.le_of_ble_eq_true rfl)
  rw [lg_entry_eq]
  generalize (lg_sl ([.ref (aa 0), .int (nI j), .int wh]) ++ List.replicate (4 - (lg_sl ([.ref (aa 0), .int (nI j), .int wh])).length) Slot.unset).toArray = ls at hl ⊢
  have hl : lv_has ls 4 [(0, .ref (aa 0)), (1, .int (nI j)), (2, .int wh)] := hl
  have hL1 : S.2.1.length ≤ 24 := hy0.2.2.2.1
  have hL2 : S.2.2.2.length ≤ 60 := hy0.2.2.2.2
  obtain ⟨hs1, hs2, hs3, hs4, hs5⟩ := sp_at hy0 hy1
  refine lv_aload_n hx hb d_T_open_0 rfl (lv_at hl 0 rfl) ?_
  refine lv_iload_n hx hb d_T_open_1 rfl (lv_at hl 1 rfl) ?_
  refine va_csq (va_Run.run (va_runV (As := [.int (nI j)]) (rest := []) ⟨hx, hb, hml, hown, hw⟩ (k_T_spanNumbered l D T κ A aa zw kp fp e0 e1 oF oT kt ft ks fs fc S j q hy0 hy1) (cwV 1 hw (bg_V ml_T_141 wi_T_spanNumbered wv_T_spanNumbered wz_T wc_T_spanNumbered) rfl rfl rfl (by decide +kernel) ⟨Nat.le_of_ble_eq_true rfl, Nat.le_of_ble_eq_true rfl⟩) ⟨sPf_b, va_recv hK hP (ci := 5) (q0 := 0) rfl rfl, sPf_p hP hK hF hS⟩ rfl rfl hl.1 rfl (lv_room (Nat.le_of_ble_eq_true rfl)) d_T_open_2 ⟨Nat.le_of_ble_eq_true rfl, Nat.le_of_ble_eq_true rfl⟩)) (fun r1 hr1 => ?_)
  replace hr1 := hr1.symm; subst hr1
  refine W.eq (g2 := F0 m 5 ls [.ref q.1]) rfl ?_
  refine lv_astore_n (lv' := [(3, .ref q.1), (0, .ref (aa 0)), (1, .int (nI j)), (2, .int wh)]) hx hb d_T_open_5 rfl hl (by decide) rfl (fun ls hl => ?_)
  refine lv_iload_n hx hb d_T_open_6 rfl (lv_at hl 3 rfl) ?_
  have hPc : va_P D gC ([]) s.heap := pc0
  exact x_call (vx_runS (As := [.int wh]) (rest := []) ⟨hx, hb, hml, hown, hw⟩ (k_T_checkEnd_x l hl9 D T κ A s.heap.size wh hy2) (va_cwS 1 hw (bg_S ml_T_145 wt_T_checkEnd wz_T wc_T_checkEnd) rfl rfl rfl (by decide +kernel) ⟨Nat.le_of_ble_eq_true rfl, Nat.le_of_ble_eq_true rfl⟩) ⟨xPf_b, xPf_p hPc hK hF hS⟩ rfl rfl hl.1 rfl (lv_room (Nat.le_of_ble_eq_true rfl)) d_T_open_7 ⟨Nat.le_of_ble_eq_true rfl, Nat.le_of_ble_eq_true rfl⟩) htab hlocks

set_option maxHeartbeats 4000000 in
set_option maxRecDepth 100000 in
theorem k_T_relation (l : Launch) (D : va_G) (T : gT) (κ : gS) (A : Nat → Prop) (aa : Nat → Nat) (zw : Int32) (kp : Nat) (fp : Nat → Int32) (e0 e1 : Int32) (oF oT : Bool) (kt : Nat) (ft : Nat → Int32) (ks : Nat) (fs fc : Nat → Int32) (S : tS) (j : Nat) (q : spD) (j2 : Nat) (q2 : spD) (hy0 : tOk κ S) (hy1 : S.2.2.2[j]? = some q) (hy2 : S.2.2.2[j2]? = some q2) (hy3 : (q.2.2.2.1 || q.2.2.2.2) = false) (hy4 : (q2.2.2.2.1 || q2.2.2.2.2) = false) : Met l y_T_relation (Cond.code y_T_relation b_T_relation 5 (some .int) :: bg_W) ({ frames := 4, cells := 0, slots := 0, locals := 85 }) (sPf κ A D T (cX T aa zw kp fp e0 e1 oF oT kt ft ks fs fc S ++ tl T S) [.ref (aa 0), .int (nI j), .int (nI j2)]) (vp_Si (fun r : Int32 => r = c_rl q.2.1 q.2.2.1 q2.2.1 q2.2.2.1)) 0 0 (fun _ => False) := by
  refine Met.ofW (cc := b_T_relation) (maxL := 5) (ret := (some .int)) (by decide) rfl ?_
  intro p e s m args below meth c s₁ B hml hv
  obtain ⟨rfl, hP, hK, hF⟩ := hv
  have hx := B.exec
  have hb := B.bytes
  have hr := B.returns
  have hw : ∀ w ∈ bg_W, w.before ([.ref (aa 0), .int (nI j), .int (nI j2)] : List Value).toArray s = true := fun w h => atoms_spec (ws := (Cond.code y_T_relation b_T_relation 5 (some .int) :: bg_W)) B.pre w (List.mem_cons_of_mem _ h)
  have hown : s.vm.findClass "TimeWords" = some m.cls := findClass_of_methodNamed B.named
  have hlocks := B.notSynchronized
  have hS : va_S A s.heap s.heap [] := va_S.rf
  have hl := lv_entry ([.ref (aa 0), .int (nI j), .int (nI j2)]) (n := 5) (Nat.le_of_ble_eq_true rfl)
  rw [lg_entry_eq]
  generalize (lg_sl ([.ref (aa 0), .int (nI j), .int (nI j2)]) ++ List.replicate (5 - (lg_sl ([.ref (aa 0), .int (nI j), .int (nI j2)])).length) Slot.unset).toArray = ls at hl ⊢
  have hl : lv_has ls 5 [(0, .ref (aa 0)), (1, .int (nI j)), (2, .int (nI j2))] := hl
  have hL1 : S.2.1.length ≤ 24 := hy0.2.2.2.1
  have hL2 : S.2.2.2.length ≤ 60 := hy0.2.2.2.2
  obtain ⟨hs1, hs2, hs3, hs4, hs5⟩ := sp_at hy0 hy1
  obtain ⟨ht1, ht2, ht3, ht4, ht5⟩ := sp_at hy0 hy2
  refine lv_aload_n hx hb d_T_relation_0 rfl (lv_at hl 0 rfl) ?_
  refine lv_iload_n hx hb d_T_relation_1 rfl (lv_at hl 1 rfl) ?_
  refine va_csq (va_Run.run (va_runV (As := [.int (nI j)]) (rest := []) ⟨hx, hb, hml, hown, hw⟩ (k_T_spanNumbered l D T κ A aa zw kp fp e0 e1 oF oT kt ft ks fs fc S j q hy0 hy1) (cwV 1 hw (bg_V ml_T_141 wi_T_spanNumbered wv_T_spanNumbered wz_T wc_T_spanNumbered) rfl rfl rfl (by decide +kernel) ⟨Nat.le_of_ble_eq_true rfl, Nat.le_of_ble_eq_true rfl⟩) ⟨sPf_b, va_recv hK hP (ci := 5) (q0 := 0) rfl rfl, sPf_p hP hK hF hS⟩ rfl rfl hl.1 rfl (lv_room (Nat.le_of_ble_eq_true rfl)) d_T_relation_2 ⟨Nat.le_of_ble_eq_true rfl, Nat.le_of_ble_eq_true rfl⟩)) (fun r1 hr1 => ?_)
  replace hr1 := hr1.symm; subst hr1
  refine W.eq (g2 := F0 m 5 ls [.ref q.1]) rfl ?_
  refine lv_astore_n (lv' := [(3, .ref q.1), (0, .ref (aa 0)), (1, .int (nI j)), (2, .int (nI j2))]) hx hb d_T_relation_5 rfl hl (by decide) rfl (fun ls hl => ?_)
  refine lv_aload_n hx hb d_T_relation_6 rfl (lv_at hl 1 rfl) ?_
  refine lv_iload_n hx hb d_T_relation_7 rfl (lv_at hl 3 rfl) ?_
  refine va_csq (va_Run.run (va_runV (As := [.int (nI j2)]) (rest := []) ⟨hx, hb, hml, hown, hw⟩ (k_T_spanNumbered l D T κ A aa zw kp fp e0 e1 oF oT kt ft ks fs fc S j2 q2 hy0 hy2) (cwV 1 hw (bg_V ml_T_141 wi_T_spanNumbered wv_T_spanNumbered wz_T wc_T_spanNumbered) rfl rfl rfl (by decide +kernel) ⟨Nat.le_of_ble_eq_true rfl, Nat.le_of_ble_eq_true rfl⟩) ⟨sPf_b, va_recv hK hP (ci := 5) (q0 := 0) rfl rfl, sPf_p hP hK hF hS⟩ rfl rfl hl.1 rfl (lv_room (Nat.le_of_ble_eq_true rfl)) d_T_relation_8 ⟨Nat.le_of_ble_eq_true rfl, Nat.le_of_ble_eq_true rfl⟩)) (fun r2 hr2 => ?_)
  replace hr2 := hr2.symm; subst hr2
  refine W.eq (g2 := F0 m 11 ls [.ref q2.1]) rfl ?_
  refine lv_astore (lv' := [(4, .ref q2.1), (3, .ref q.1), (0, .ref (aa 0)), (1, .int (nI j)), (2, .int (nI j2))]) hx hb d_T_relation_11 hl (by decide) rfl (fun ls hl => ?_)
  refine lv_aload_n hx hb d_T_relation_13 rfl (lv_at hl 1 rfl) ?_
  have hPc : va_P D gC ([(q.1, .inr (2, [.int q.2.1, .int q.2.2.1, .int (b2i q.2.2.2.1), .int (b2i q.2.2.2.2)]))]) s.heap := (pc1 (hP.mem (List.mem_append_right _ (tl_sp hs5))) pc0)
  refine vp_callSi (va_Run.run (va_runV (As := []) (rest := []) ⟨hx, hb, hml, hown, hw⟩ (k_Y_isOpen l D T q.1 q.2.1 q.2.2.1 q.2.2.2.1 q.2.2.2.2) (cwV 0 hw (bg_V ml_T_173 wi_Y_isOpen wv_Y_isOpen wz_Y wc_Y_isOpen) rfl rfl rfl (by decide +kernel) ⟨Nat.le_of_ble_eq_true rfl, Nat.le_of_ble_eq_true rfl⟩) ⟨sP_b, va_recv hK hPc (ci := 2) (q0 := 0) rfl rfl, sP_p hPc hK⟩ rfl rfl hl.1 rfl (lv_room (Nat.le_of_ble_eq_true rfl)) d_T_relation_14 ⟨Nat.le_of_ble_eq_true rfl, Nat.le_of_ble_eq_true rfl⟩)) (fun r3 hr3 => ?_)
  replace hr3 := hr3.symm; subst hr3
  refine lv_if_ne (tgt := 28) hx hb d_T_relation_17 (by decide) (fun c4 => absurd c4 ((by rw [hy3]; decide))) (fun c4 => ?_)
  refine lv_aload hx hb d_T_relation_20 (lv_at hl 0 rfl) ?_
  have hPc : va_P D gC ([(q2.1, .inr (2, [.int q2.2.1, .int q2.2.2.1, .int (b2i q2.2.2.2.1), .int (b2i q2.2.2.2.2)]))]) s.heap := (pc1 (hP.mem (List.mem_append_right _ (tl_sp ht5))) pc0)
  refine vp_callSi (va_Run.run (va_runV (As := []) (rest := []) ⟨hx, hb, hml, hown, hw⟩ (k_Y_isOpen l D T q2.1 q2.2.1 q2.2.2.1 q2.2.2.2.1 q2.2.2.2.2) (cwV 0 hw (bg_V ml_T_173 wi_Y_isOpen wv_Y_isOpen wz_Y wc_Y_isOpen) rfl rfl rfl (by decide +kernel) ⟨Nat.le_of_ble_eq_true rfl, Nat.le_of_ble_eq_true rfl⟩) ⟨sP_b, va_recv hK hPc (ci := 2) (q0 := 0) rfl rfl, sP_p hPc hK⟩ rfl rfl hl.1 rfl (lv_room (Nat.le_of_ble_eq_true rfl)) d_T_relation_22 ⟨Nat.le_of_ble_eq_true rfl, Nat.le_of_ble_eq_true rfl⟩)) (fun r5 hr5 => ?_)
  replace hr5 := hr5.symm; subst hr5
  refine lv_if_eq (tgt := 38) hx hb d_T_relation_25 (by decide) (fun c6 => ?_) (fun c6 => absurd ((by rw [hy4]; rfl)) c6)
  refine lv_aload_n hx hb d_T_relation_38 rfl (lv_at hl 1 rfl) ?_
  refine lv_aload hx hb d_T_relation_39 (lv_at hl 0 rfl) ?_
  have hPc : va_P D gC ([(q.1, .inr (2, [.int q.2.1, .int q.2.2.1, .int (b2i q.2.2.2.1), .int (b2i q.2.2.2.2)])), (q2.1, .inr (2, [.int q2.2.1, .int q2.2.2.1, .int (b2i q2.2.2.2.1), .int (b2i q2.2.2.2.2)]))]) s.heap := (pc1 (hP.mem (List.mem_append_right _ (tl_sp hs5))) (pc1 (hP.mem (List.mem_append_right _ (tl_sp ht5))) pc0))
  refine vp_callSi (va_Run.run (va_runS (As := [.ref q.1, .ref q2.1]) (rest := []) ⟨hx, hb, hml, hown, hw⟩ (k_T_relationOf l D T q.1 q.2.1 q.2.2.1 q.2.2.2.1 q.2.2.2.2 q2.1 q2.2.1 q2.2.2.1 q2.2.2.2.1 q2.2.2.2.2) (va_cwS 2 hw (bg_S ml_T_178 wt_T_relationOf wz_T wc_T_relationOf) rfl rfl rfl (by decide +kernel) ⟨Nat.le_of_ble_eq_true rfl, Nat.le_of_ble_eq_true rfl⟩) ⟨sP_b, sP_p hPc hK⟩ rfl rfl hl.1 rfl (lv_room (Nat.le_of_ble_eq_true rfl)) d_T_relation_41 ⟨Nat.le_of_ble_eq_true rfl, Nat.le_of_ble_eq_true rfl⟩)) (fun r7 hr7 => ?_)
  replace hr7 := hr7.symm; subst hr7
  exact W.iret (v := c_rl q.2.1 q.2.2.1 q2.2.1 q2.2.2.1) hx hb hr (fun t ht hW => ⟨c_rl q.2.1 q.2.2.1 q2.2.1 q2.2.2.1, rfl, rfl, ht⟩) (fun _ h => nomatch h) d_T_relation_44

set_option maxHeartbeats 4000000 in
set_option maxRecDepth 100000 in
theorem k_T_relation_x (l : Launch) (hl9 : l.stackTraces = false) (D : va_G) (T : gT) (κ : gS) (A : Nat → Prop) (aa : Nat → Nat) (zw : Int32) (kp : Nat) (fp : Nat → Int32) (e0 e1 : Int32) (oF oT : Bool) (kt : Nat) (ft : Nat → Int32) (ks : Nat) (fs fc : Nat → Int32) (S : tS) (sz : Nat) (x x2 : Int32) (hy0 : j_ix x (nI S.2.2.2.length) = false) : vx_Met l y_T_relation (Cond.code y_T_relation b_T_relation 5 (some .int) :: bg_W) ({ frames := 8, cells := 1, slots := 6, locals := 131 }) (xPf κ A D T (cX T aa zw kp fp e0 e1 oF oT kt ft ks fs fc S ++ tl T S) [.ref (aa 0), .int x, .int x2] sz) xN (xE "java/lang/IndexOutOfBoundsException" sz) 1 6 (fun q => sz ≤ q) := by
  refine vx_ofW (cc := b_T_relation) (maxL := 5) (ret := (some .int)) (by decide) rfl ?_
  intro p e s m args below meth c s₁ B hml htab hv
  obtain ⟨rfl, hsz, hP, hK, hF⟩ := hv
  have hx := B.exec
  have hb := B.bytes
  have hr := B.returns
  have hw : ∀ w ∈ bg_W, w.before ([.ref (aa 0), .int x, .int x2] : List Value).toArray s = true := fun w h => atoms_spec (ws := (Cond.code y_T_relation b_T_relation 5 (some .int) :: bg_W)) B.pre w (List.mem_cons_of_mem _ h)
  have hown : s.vm.findClass "TimeWords" = some m.cls := findClass_of_methodNamed B.named
  have hlocks := B.notSynchronized
  subst hsz
  have hS : va_S A s.heap s.heap [] := va_S.rf
  have hl := lv_entry ([.ref (aa 0), .int x, .int x2]) (n := 5) (Nat.le_of_ble_eq_true rfl)
  rw [lg_entry_eq]
  generalize (lg_sl ([.ref (aa 0), .int x, .int x2]) ++ List.replicate (5 - (lg_sl ([.ref (aa 0), .int x, .int x2])).length) Slot.unset).toArray = ls at hl ⊢
  have hl : lv_has ls 5 [(0, .ref (aa 0)), (1, .int x), (2, .int x2)] := hl
  refine lv_aload_n hx hb d_T_relation_0 rfl (lv_at hl 0 rfl) ?_
  refine lv_iload_n hx hb d_T_relation_1 rfl (lv_at hl 1 rfl) ?_
  exact x_call (vx_runV (As := [.int x]) (rest := []) ⟨hx, hb, hml, hown, hw⟩ (k_T_spanNumbered_x l hl9 D T κ A aa zw kp fp e0 e1 oF oT kt ft ks fs fc S s.heap.size x hy0) (cwV 1 hw (bg_V ml_T_141 wi_T_spanNumbered wv_T_spanNumbered wz_T wc_T_spanNumbered) rfl rfl rfl (by decide +kernel) ⟨Nat.le_of_ble_eq_true rfl, Nat.le_of_ble_eq_true rfl⟩) ⟨xPf_b, va_recv hK hP (ci := 5) (q0 := 0) rfl rfl, xPf_p hP hK hF hS⟩ rfl rfl hl.1 rfl (lv_room (Nat.le_of_ble_eq_true rfl)) d_T_relation_2 ⟨Nat.le_of_ble_eq_true rfl, Nat.le_of_ble_eq_true rfl⟩) htab hlocks

set_option maxHeartbeats 4000000 in
set_option maxRecDepth 100000 in
theorem k_T_relation_y (l : Launch) (hl9 : l.stackTraces = false) (D : va_G) (T : gT) (κ : gS) (A : Nat → Prop) (aa : Nat → Nat) (zw : Int32) (kp : Nat) (fp : Nat → Int32) (e0 e1 : Int32) (oF oT : Bool) (kt : Nat) (ft : Nat → Int32) (ks : Nat) (fs fc : Nat → Int32) (S : tS) (sz : Nat) (j : Nat) (q : spD) (x2 : Int32) (hy0 : tOk κ S) (hy1 : S.2.2.2[j]? = some q) (hy2 : j_ix x2 (nI S.2.2.2.length) = false) : vx_Met l y_T_relation (Cond.code y_T_relation b_T_relation 5 (some .int) :: bg_W) ({ frames := 8, cells := 1, slots := 6, locals := 131 }) (xPf κ A D T (cX T aa zw kp fp e0 e1 oF oT kt ft ks fs fc S ++ tl T S) [.ref (aa 0), .int (nI j), .int x2] sz) xN (xE "java/lang/IndexOutOfBoundsException" sz) 1 6 (fun q => sz ≤ q) := by
  refine vx_ofW (cc := b_T_relation) (maxL := 5) (ret := (some .int)) (by decide) rfl ?_
  intro p e s m args below meth c s₁ B hml htab hv
  obtain ⟨rfl, hsz, hP, hK, hF⟩ := hv
  have hx := B.exec
  have hb := B.bytes
  have hr := B.returns
  have hw : ∀ w ∈ bg_W, w.before ([.ref (aa 0), .int (nI j), .int x2] : List Value).toArray s = true := fun w h => atoms_spec (ws := (Cond.code y_T_relation b_T_relation 5 (some .int) :: bg_W)) B.pre w (List.mem_cons_of_mem _ h)
  have hown : s.vm.findClass "TimeWords" = some m.cls := findClass_of_methodNamed B.named
  have hlocks := B.notSynchronized
  subst hsz
  have hS : va_S A s.heap s.heap [] := va_S.rf
  have hl := lv_entry ([.ref (aa 0), .int (nI j), .int x2]) (n := 5) (Nat.le_of_ble_eq_true rfl)
  rw [lg_entry_eq]
  generalize (lg_sl ([.ref (aa 0), .int (nI j), .int x2]) ++ List.replicate (5 - (lg_sl ([.ref (aa 0), .int (nI j), .int x2])).length) Slot.unset).toArray = ls at hl ⊢
  have hl : lv_has ls 5 [(0, .ref (aa 0)), (1, .int (nI j)), (2, .int x2)] := hl
  have hL1 : S.2.1.length ≤ 24 := hy0.2.2.2.1
  have hL2 : S.2.2.2.length ≤ 60 := hy0.2.2.2.2
  obtain ⟨hs1, hs2, hs3, hs4, hs5⟩ := sp_at hy0 hy1
  refine lv_aload_n hx hb d_T_relation_0 rfl (lv_at hl 0 rfl) ?_
  refine lv_iload_n hx hb d_T_relation_1 rfl (lv_at hl 1 rfl) ?_
  refine va_csq (va_Run.run (va_runV (As := [.int (nI j)]) (rest := []) ⟨hx, hb, hml, hown, hw⟩ (k_T_spanNumbered l D T κ A aa zw kp fp e0 e1 oF oT kt ft ks fs fc S j q hy0 hy1) (cwV 1 hw (bg_V ml_T_141 wi_T_spanNumbered wv_T_spanNumbered wz_T wc_T_spanNumbered) rfl rfl rfl (by decide +kernel) ⟨Nat.le_of_ble_eq_true rfl, Nat.le_of_ble_eq_true rfl⟩) ⟨sPf_b, va_recv hK hP (ci := 5) (q0 := 0) rfl rfl, sPf_p hP hK hF hS⟩ rfl rfl hl.1 rfl (lv_room (Nat.le_of_ble_eq_true rfl)) d_T_relation_2 ⟨Nat.le_of_ble_eq_true rfl, Nat.le_of_ble_eq_true rfl⟩)) (fun r1 hr1 => ?_)
  replace hr1 := hr1.symm; subst hr1
  refine W.eq (g2 := F0 m 5 ls [.ref q.1]) rfl ?_
  refine lv_astore_n (lv' := [(3, .ref q.1), (0, .ref (aa 0)), (1, .int (nI j)), (2, .int x2)]) hx hb d_T_relation_5 rfl hl (by decide) rfl (fun ls hl => ?_)
  refine lv_aload_n hx hb d_T_relation_6 rfl (lv_at hl 1 rfl) ?_
  refine lv_iload_n hx hb d_T_relation_7 rfl (lv_at hl 3 rfl) ?_
  exact x_call (vx_runV (As := [.int x2]) (rest := []) ⟨hx, hb, hml, hown, hw⟩ (k_T_spanNumbered_x l hl9 D T κ A aa zw kp fp e0 e1 oF oT kt ft ks fs fc S s.heap.size x2 hy2) (cwV 1 hw (bg_V ml_T_141 wi_T_spanNumbered wv_T_spanNumbered wz_T wc_T_spanNumbered) rfl rfl rfl (by decide +kernel) ⟨Nat.le_of_ble_eq_true rfl, Nat.le_of_ble_eq_true rfl⟩) ⟨xPf_b, va_recv hK hP (ci := 5) (q0 := 0) rfl rfl, xPf_p hP hK hF hS⟩ rfl rfl hl.1 rfl (lv_room (Nat.le_of_ble_eq_true rfl)) d_T_relation_8 ⟨Nat.le_of_ble_eq_true rfl, Nat.le_of_ble_eq_true rfl⟩) htab hlocks

set_option maxHeartbeats 4000000 in
set_option maxRecDepth 100000 in
theorem k_T_relation_z (l : Launch) (hl9 : l.stackTraces = false) (D : va_G) (T : gT) (κ : gS) (A : Nat → Prop) (aa : Nat → Nat) (zw : Int32) (kp : Nat) (fp : Nat → Int32) (e0 e1 : Int32) (oF oT : Bool) (kt : Nat) (ft : Nat → Int32) (ks : Nat) (fs fc : Nat → Int32) (S : tS) (sz : Nat) (j : Nat) (q : spD) (j2 : Nat) (q2 : spD) (hy0 : tOk κ S) (hy1 : S.2.2.2[j]? = some q) (hy2 : S.2.2.2[j2]? = some q2) (hy3 : ((q.2.2.2.1 || q.2.2.2.2) || (q2.2.2.2.1 || q2.2.2.2.2)) = true) : vx_Met l y_T_relation (Cond.code y_T_relation b_T_relation 5 (some .int) :: bg_W) ({ frames := 7, cells := 1, slots := 6, locals := 110 }) (xPf κ A D T (cX T aa zw kp fp e0 e1 oF oT kt ft ks fs fc S ++ tl T S) [.ref (aa 0), .int (nI j), .int (nI j2)] sz) xN (xE "java/lang/IllegalStateException" sz) 1 6 (fun q => sz ≤ q) := by
  refine vx_ofW (cc := b_T_relation) (maxL := 5) (ret := (some .int)) (by decide) rfl ?_
  intro p e s m args below meth c s₁ B hml htab hv
  obtain ⟨rfl, hsz, hP, hK, hF⟩ := hv
  have hx := B.exec
  have hb := B.bytes
  have hr := B.returns
  have hw : ∀ w ∈ bg_W, w.before ([.ref (aa 0), .int (nI j), .int (nI j2)] : List Value).toArray s = true := fun w h => atoms_spec (ws := (Cond.code y_T_relation b_T_relation 5 (some .int) :: bg_W)) B.pre w (List.mem_cons_of_mem _ h)
  have hown : s.vm.findClass "TimeWords" = some m.cls := findClass_of_methodNamed B.named
  have hlocks := B.notSynchronized
  subst hsz
  have hS : va_S A s.heap s.heap [] := va_S.rf
  have hl := lv_entry ([.ref (aa 0), .int (nI j), .int (nI j2)]) (n := 5) (Nat.le_of_ble_eq_true rfl)
  rw [lg_entry_eq]
  generalize (lg_sl ([.ref (aa 0), .int (nI j), .int (nI j2)]) ++ List.replicate (5 - (lg_sl ([.ref (aa 0), .int (nI j), .int (nI j2)])).length) Slot.unset).toArray = ls at hl ⊢
  have hl : lv_has ls 5 [(0, .ref (aa 0)), (1, .int (nI j)), (2, .int (nI j2))] := hl
  have hL1 : S.2.1.length ≤ 24 := hy0.2.2.2.1
  have hL2 : S.2.2.2.length ≤ 60 := hy0.2.2.2.2
  obtain ⟨hs1, hs2, hs3, hs4, hs5⟩ := sp_at hy0 hy1
  obtain ⟨ht1, ht2, ht3, ht4, ht5⟩ := sp_at hy0 hy2
  refine lv_aload_n hx hb d_T_relation_0 rfl (lv_at hl 0 rfl) ?_
  refine lv_iload_n hx hb d_T_relation_1 rfl (lv_at hl 1 rfl) ?_
  refine va_csq (va_Run.run (va_runV (As := [.int (nI j)]) (rest := []) ⟨hx, hb, hml, hown, hw⟩ (k_T_spanNumbered l D T κ A aa zw kp fp e0 e1 oF oT kt ft ks fs fc S j q hy0 hy1) (cwV 1 hw (bg_V ml_T_141 wi_T_spanNumbered wv_T_spanNumbered wz_T wc_T_spanNumbered) rfl rfl rfl (by decide +kernel) ⟨Nat.le_of_ble_eq_true rfl, Nat.le_of_ble_eq_true rfl⟩) ⟨sPf_b, va_recv hK hP (ci := 5) (q0 := 0) rfl rfl, sPf_p hP hK hF hS⟩ rfl rfl hl.1 rfl (lv_room (Nat.le_of_ble_eq_true rfl)) d_T_relation_2 ⟨Nat.le_of_ble_eq_true rfl, Nat.le_of_ble_eq_true rfl⟩)) (fun r1 hr1 => ?_)
  replace hr1 := hr1.symm; subst hr1
  refine W.eq (g2 := F0 m 5 ls [.ref q.1]) rfl ?_
  refine lv_astore_n (lv' := [(3, .ref q.1), (0, .ref (aa 0)), (1, .int (nI j)), (2, .int (nI j2))]) hx hb d_T_relation_5 rfl hl (by decide) rfl (fun ls hl => ?_)
  refine lv_aload_n hx hb d_T_relation_6 rfl (lv_at hl 1 rfl) ?_
  refine lv_iload_n hx hb d_T_relation_7 rfl (lv_at hl 3 rfl) ?_
  refine va_csq (va_Run.run (va_runV (As := [.int (nI j2)]) (rest := []) ⟨hx, hb, hml, hown, hw⟩ (k_T_spanNumbered l D T κ A aa zw kp fp e0 e1 oF oT kt ft ks fs fc S j2 q2 hy0 hy2) (cwV 1 hw (bg_V ml_T_141 wi_T_spanNumbered wv_T_spanNumbered wz_T wc_T_spanNumbered) rfl rfl rfl (by decide +kernel) ⟨Nat.le_of_ble_eq_true rfl, Nat.le_of_ble_eq_true rfl⟩) ⟨sPf_b, va_recv hK hP (ci := 5) (q0 := 0) rfl rfl, sPf_p hP hK hF hS⟩ rfl rfl hl.1 rfl (lv_room (Nat.le_of_ble_eq_true rfl)) d_T_relation_8 ⟨Nat.le_of_ble_eq_true rfl, Nat.le_of_ble_eq_true rfl⟩)) (fun r2 hr2 => ?_)
  replace hr2 := hr2.symm; subst hr2
  refine W.eq (g2 := F0 m 11 ls [.ref q2.1]) rfl ?_
  refine lv_astore (lv' := [(4, .ref q2.1), (3, .ref q.1), (0, .ref (aa 0)), (1, .int (nI j)), (2, .int (nI j2))]) hx hb d_T_relation_11 hl (by decide) rfl (fun ls hl => ?_)
  refine lv_aload_n hx hb d_T_relation_13 rfl (lv_at hl 1 rfl) ?_
  have hPc : va_P D gC ([(q.1, .inr (2, [.int q.2.1, .int q.2.2.1, .int (b2i q.2.2.2.1), .int (b2i q.2.2.2.2)]))]) s.heap := (pc1 (hP.mem (List.mem_append_right _ (tl_sp hs5))) pc0)
  refine vp_callSi (va_Run.run (va_runV (As := []) (rest := []) ⟨hx, hb, hml, hown, hw⟩ (k_Y_isOpen l D T q.1 q.2.1 q.2.2.1 q.2.2.2.1 q.2.2.2.2) (cwV 0 hw (bg_V ml_T_173 wi_Y_isOpen wv_Y_isOpen wz_Y wc_Y_isOpen) rfl rfl rfl (by decide +kernel) ⟨Nat.le_of_ble_eq_true rfl, Nat.le_of_ble_eq_true rfl⟩) ⟨sP_b, va_recv hK hPc (ci := 2) (q0 := 0) rfl rfl, sP_p hPc hK⟩ rfl rfl hl.1 rfl (lv_room (Nat.le_of_ble_eq_true rfl)) d_T_relation_14 ⟨Nat.le_of_ble_eq_true rfl, Nat.le_of_ble_eq_true rfl⟩)) (fun r3 hr3 => ?_)
  replace hr3 := hr3.symm; subst hr3
  refine lv_if_ne (tgt := 28) hx hb d_T_relation_17 (by decide) (fun c4 => ?_) (fun c4 => ?_)
  · have c4 := b2i_t c4
    exact vx_throwS (rest := []) hx hb hl9 hown th_IS_f th_n (hw _ kl_T_65) (hw _ wz_IS) (hF.2.2.2.2 (176, "a span is open") (by decide)) (th_IS_w hw hF) th_IS_g hF.2.1.2.2.2.2.2.2.1 hF.2.1.2.2.2.2.2.2.2 hS (hl.1.trans hml.symm) (d_T_relation_28) (d_T_relation_31) (d_T_relation_32) (d_T_relation_34) (d_T_relation_37) (fun x h9 => (htab x h9).elim) (Nat.le_of_ble_eq_true rfl) (Nat.le_of_ble_eq_true rfl) (Nat.le_of_ble_eq_true rfl) (Nat.le_of_ble_eq_true rfl) hlocks (fun t9 h8 h7 h6 => ⟨(), trivial, rfl, ⟨h7, fun q h1 _ => h6 q h1⟩⟩) (fun z h9 => absurd h9 List.not_mem_nil) (Nat.le_of_ble_eq_true rfl) (Nat.le_of_ble_eq_true rfl)
  · have c4 := b2i_f c4
    refine lv_aload hx hb d_T_relation_20 (lv_at hl 0 rfl) ?_
    have hPc : va_P D gC ([(q2.1, .inr (2, [.int q2.2.1, .int q2.2.2.1, .int (b2i q2.2.2.2.1), .int (b2i q2.2.2.2.2)]))]) s.heap := (pc1 (hP.mem (List.mem_append_right _ (tl_sp ht5))) pc0)
    refine vp_callSi (va_Run.run (va_runV (As := []) (rest := []) ⟨hx, hb, hml, hown, hw⟩ (k_Y_isOpen l D T q2.1 q2.2.1 q2.2.2.1 q2.2.2.2.1 q2.2.2.2.2) (cwV 0 hw (bg_V ml_T_173 wi_Y_isOpen wv_Y_isOpen wz_Y wc_Y_isOpen) rfl rfl rfl (by decide +kernel) ⟨Nat.le_of_ble_eq_true rfl, Nat.le_of_ble_eq_true rfl⟩) ⟨sP_b, va_recv hK hPc (ci := 2) (q0 := 0) rfl rfl, sP_p hPc hK⟩ rfl rfl hl.1 rfl (lv_room (Nat.le_of_ble_eq_true rfl)) d_T_relation_22 ⟨Nat.le_of_ble_eq_true rfl, Nat.le_of_ble_eq_true rfl⟩)) (fun r5 hr5 => ?_)
    replace hr5 := hr5.symm; subst hr5
    refine lv_if_eq (tgt := 38) hx hb d_T_relation_25 (by decide) (fun c6 => ?_) (fun c6 => ?_)
    · have c6 := b2i_f c6
      exact False.elim (by rw [c4, c6] at hy3; exact absurd hy3 (by decide))
    · have c6 := b2i_t c6
      exact vx_throwS (rest := []) hx hb hl9 hown th_IS_f th_n (hw _ kl_T_65) (hw _ wz_IS) (hF.2.2.2.2 (176, "a span is open") (by decide)) (th_IS_w hw hF) th_IS_g hF.2.1.2.2.2.2.2.2.1 hF.2.1.2.2.2.2.2.2.2 hS (hl.1.trans hml.symm) (d_T_relation_28) (d_T_relation_31) (d_T_relation_32) (d_T_relation_34) (d_T_relation_37) (fun x h9 => (htab x h9).elim) (Nat.le_of_ble_eq_true rfl) (Nat.le_of_ble_eq_true rfl) (Nat.le_of_ble_eq_true rfl) (Nat.le_of_ble_eq_true rfl) hlocks (fun t9 h8 h7 h6 => ⟨(), trivial, rfl, ⟨h7, fun q h1 _ => h6 q h1⟩⟩) (fun z h9 => absurd h9 List.not_mem_nil) (Nat.le_of_ble_eq_true rfl) (Nat.le_of_ble_eq_true rfl)

def c_rs (x y cv dv : Int32) : Int32 := if c_ra cv dv x y = 0 then c_ra x y cv dv ||| c_rb x y cv dv else (c_ra x y cv dv ||| c_rb x y cv dv) ||| 64
set_option maxHeartbeats 4000000 in
set_option maxRecDepth 100000 in
theorem k_T_relations (l : Launch) (D : va_G) (T : gT) (κ : gS) (A : Nat → Prop) (aa : Nat → Nat) (zw : Int32) (kp : Nat) (fp : Nat → Int32) (e0 e1 : Int32) (oF oT : Bool) (kt : Nat) (ft : Nat → Int32) (ks : Nat) (fs fc : Nat → Int32) (S : tS) (j : Nat) (q : spD) (j2 : Nat) (q2 : spD) (hy0 : tOk κ S) (hy1 : S.2.2.2[j]? = some q) (hy2 : S.2.2.2[j2]? = some q2) : Met l y_T_relations (Cond.code y_T_relations b_T_relations 6 (some .int) :: bg_W) ({ frames := 4, cells := 0, slots := 0, locals := 85 }) (sPf κ A D T (cX T aa zw kp fp e0 e1 oF oT kt ft ks fs fc S ++ tl T S) [.ref (aa 0), .int (nI j), .int (nI j2)]) (vp_Si (fun r : Int32 => r = c_rs q.2.1 q.2.2.1 q2.2.1 q2.2.2.1)) 0 0 (fun _ => False) := by
  refine Met.ofW (cc := b_T_relations) (maxL := 6) (ret := (some .int)) (by decide) rfl ?_
  intro p e s m args below meth c s₁ B hml hv
  obtain ⟨rfl, hP, hK, hF⟩ := hv
  have hx := B.exec
  have hb := B.bytes
  have hr := B.returns
  have hw : ∀ w ∈ bg_W, w.before ([.ref (aa 0), .int (nI j), .int (nI j2)] : List Value).toArray s = true := fun w h => atoms_spec (ws := (Cond.code y_T_relations b_T_relations 6 (some .int) :: bg_W)) B.pre w (List.mem_cons_of_mem _ h)
  have hown : s.vm.findClass "TimeWords" = some m.cls := findClass_of_methodNamed B.named
  have hlocks := B.notSynchronized
  have hS : va_S A s.heap s.heap [] := va_S.rf
  have hl := lv_entry ([.ref (aa 0), .int (nI j), .int (nI j2)]) (n := 6) (Nat.le_of_ble_eq_true rfl)
  rw [lg_entry_eq]
  generalize (lg_sl ([.ref (aa 0), .int (nI j), .int (nI j2)]) ++ List.replicate (6 - (lg_sl ([.ref (aa 0), .int (nI j), .int (nI j2)])).length) Slot.unset).toArray = ls at hl ⊢
  have hl : lv_has ls 6 [(0, .ref (aa 0)), (1, .int (nI j)), (2, .int (nI j2))] := hl
  have hL1 : S.2.1.length ≤ 24 := hy0.2.2.2.1
  have hL2 : S.2.2.2.length ≤ 60 := hy0.2.2.2.2
  obtain ⟨hs1, hs2, hs3, hs4, hs5⟩ := sp_at hy0 hy1
  obtain ⟨ht1, ht2, ht3, ht4, ht5⟩ := sp_at hy0 hy2
  refine lv_aload_n hx hb d_T_relations_0 rfl (lv_at hl 0 rfl) ?_
  refine lv_iload_n hx hb d_T_relations_1 rfl (lv_at hl 1 rfl) ?_
  refine va_csq (va_Run.run (va_runV (As := [.int (nI j)]) (rest := []) ⟨hx, hb, hml, hown, hw⟩ (k_T_spanNumbered l D T κ A aa zw kp fp e0 e1 oF oT kt ft ks fs fc S j q hy0 hy1) (cwV 1 hw (bg_V ml_T_141 wi_T_spanNumbered wv_T_spanNumbered wz_T wc_T_spanNumbered) rfl rfl rfl (by decide +kernel) ⟨Nat.le_of_ble_eq_true rfl, Nat.le_of_ble_eq_true rfl⟩) ⟨sPf_b, va_recv hK hP (ci := 5) (q0 := 0) rfl rfl, sPf_p hP hK hF hS⟩ rfl rfl hl.1 rfl (lv_room (Nat.le_of_ble_eq_true rfl)) d_T_relations_2 ⟨Nat.le_of_ble_eq_true rfl, Nat.le_of_ble_eq_true rfl⟩)) (fun r1 hr1 => ?_)
  replace hr1 := hr1.symm; subst hr1
  refine W.eq (g2 := F0 m 5 ls [.ref q.1]) rfl ?_
  refine lv_astore_n (lv' := [(3, .ref q.1), (0, .ref (aa 0)), (1, .int (nI j)), (2, .int (nI j2))]) hx hb d_T_relations_5 rfl hl (by decide) rfl (fun ls hl => ?_)
  refine lv_aload_n hx hb d_T_relations_6 rfl (lv_at hl 1 rfl) ?_
  refine lv_iload_n hx hb d_T_relations_7 rfl (lv_at hl 3 rfl) ?_
  refine va_csq (va_Run.run (va_runV (As := [.int (nI j2)]) (rest := []) ⟨hx, hb, hml, hown, hw⟩ (k_T_spanNumbered l D T κ A aa zw kp fp e0 e1 oF oT kt ft ks fs fc S j2 q2 hy0 hy2) (cwV 1 hw (bg_V ml_T_141 wi_T_spanNumbered wv_T_spanNumbered wz_T wc_T_spanNumbered) rfl rfl rfl (by decide +kernel) ⟨Nat.le_of_ble_eq_true rfl, Nat.le_of_ble_eq_true rfl⟩) ⟨sPf_b, va_recv hK hP (ci := 5) (q0 := 0) rfl rfl, sPf_p hP hK hF hS⟩ rfl rfl hl.1 rfl (lv_room (Nat.le_of_ble_eq_true rfl)) d_T_relations_8 ⟨Nat.le_of_ble_eq_true rfl, Nat.le_of_ble_eq_true rfl⟩)) (fun r2 hr2 => ?_)
  replace hr2 := hr2.symm; subst hr2
  refine W.eq (g2 := F0 m 11 ls [.ref q2.1]) rfl ?_
  refine lv_astore (lv' := [(4, .ref q2.1), (3, .ref q.1), (0, .ref (aa 0)), (1, .int (nI j)), (2, .int (nI j2))]) hx hb d_T_relations_11 hl (by decide) rfl (fun ls hl => ?_)
  refine lv_aload_n hx hb d_T_relations_13 rfl (lv_at hl 1 rfl) ?_
  refine lv_aload hx hb d_T_relations_14 (lv_at hl 0 rfl) ?_
  have hPc : va_P D gC ([(q.1, .inr (2, [.int q.2.1, .int q.2.2.1, .int (b2i q.2.2.2.1), .int (b2i q.2.2.2.2)])), (q2.1, .inr (2, [.int q2.2.1, .int q2.2.2.1, .int (b2i q2.2.2.2.1), .int (b2i q2.2.2.2.2)]))]) s.heap := (pc1 (hP.mem (List.mem_append_right _ (tl_sp hs5))) (pc1 (hP.mem (List.mem_append_right _ (tl_sp ht5))) pc0))
  refine vp_callSi (va_Run.run (va_runS (As := [.ref q.1, .ref q2.1]) (rest := []) ⟨hx, hb, hml, hown, hw⟩ (k_T_relationsAhead l D T q.1 q.2.1 q.2.2.1 q.2.2.2.1 q.2.2.2.2 q2.1 q2.2.1 q2.2.2.1 q2.2.2.2.1 q2.2.2.2.2) (va_cwS 2 hw (bg_S ml_T_166 wt_T_relationsAhead wz_T wc_T_relationsAhead) rfl rfl rfl (by decide +kernel) ⟨Nat.le_of_ble_eq_true rfl, Nat.le_of_ble_eq_true rfl⟩) ⟨sP_b, sP_p hPc hK⟩ rfl rfl hl.1 rfl (lv_room (Nat.le_of_ble_eq_true rfl)) d_T_relations_16 ⟨Nat.le_of_ble_eq_true rfl, Nat.le_of_ble_eq_true rfl⟩)) (fun r3 hr3 => ?_)
  replace hr3 := hr3.symm; subst hr3
  refine lv_aload_n hx hb d_T_relations_19 rfl (lv_at hl 1 rfl) ?_
  refine lv_aload hx hb d_T_relations_20 (lv_at hl 0 rfl) ?_
  have hPc : va_P D gC ([(q.1, .inr (2, [.int q.2.1, .int q.2.2.1, .int (b2i q.2.2.2.1), .int (b2i q.2.2.2.2)])), (q2.1, .inr (2, [.int q2.2.1, .int q2.2.2.1, .int (b2i q2.2.2.2.1), .int (b2i q2.2.2.2.2)]))]) s.heap := (pc1 (hP.mem (List.mem_append_right _ (tl_sp hs5))) (pc1 (hP.mem (List.mem_append_right _ (tl_sp ht5))) pc0))
  refine vp_callSi (va_Run.run (va_runS (As := [.ref q.1, .ref q2.1]) (rest := [.int (c_ra q.2.1 q.2.2.1 q2.2.1 q2.2.2.1)]) ⟨hx, hb, hml, hown, hw⟩ (k_T_relationsOfSharing l D T q.1 q.2.1 q.2.2.1 q.2.2.2.1 q.2.2.2.2 q2.1 q2.2.1 q2.2.2.1 q2.2.2.2.1 q2.2.2.2.2) (va_cwS 2 hw (bg_S ml_T_170 wt_T_relationsOfSharing wz_T wc_T_relationsOfSharing) rfl rfl rfl (by decide +kernel) ⟨Nat.le_of_ble_eq_true rfl, Nat.le_of_ble_eq_true rfl⟩) ⟨sP_b, sP_p hPc hK⟩ rfl rfl hl.1 rfl (lv_room (Nat.le_of_ble_eq_true rfl)) d_T_relations_22 ⟨Nat.le_of_ble_eq_true rfl, Nat.le_of_ble_eq_true rfl⟩)) (fun r4 hr4 => ?_)
  replace hr4 := hr4.symm; subst hr4
  refine lv_ior hx hb d_T_relations_25 ?_
  refine lv_istore (lv' := [(5, .int ((c_ra q.2.1 q.2.2.1 q2.2.1 q2.2.2.1) ||| (c_rb q.2.1 q.2.2.1 q2.2.1 q2.2.2.1))), (4, .ref q2.1), (3, .ref q.1), (0, .ref (aa 0)), (1, .int (nI j)), (2, .int (nI j2))]) hx hb d_T_relations_26 hl (by decide) rfl (fun ls hl => ?_)
  refine lv_aload hx hb d_T_relations_28 (lv_at hl 1 rfl) ?_
  refine lv_aload_n hx hb d_T_relations_30 rfl (lv_at hl 2 rfl) ?_
  have hPc : va_P D gC ([(q2.1, .inr (2, [.int q2.2.1, .int q2.2.2.1, .int (b2i q2.2.2.2.1), .int (b2i q2.2.2.2.2)])), (q.1, .inr (2, [.int q.2.1, .int q.2.2.1, .int (b2i q.2.2.2.1), .int (b2i q.2.2.2.2)]))]) s.heap := (pc1 (hP.mem (List.mem_append_right _ (tl_sp ht5))) (pc1 (hP.mem (List.mem_append_right _ (tl_sp hs5))) pc0))
  refine vp_callSi (va_Run.run (va_runS (As := [.ref q2.1, .ref q.1]) (rest := []) ⟨hx, hb, hml, hown, hw⟩ (k_T_relationsAhead l D T q2.1 q2.2.1 q2.2.2.1 q2.2.2.2.1 q2.2.2.2.2 q.1 q.2.1 q.2.2.1 q.2.2.2.1 q.2.2.2.2) (va_cwS 2 hw (bg_S ml_T_166 wt_T_relationsAhead wz_T wc_T_relationsAhead) rfl rfl rfl (by decide +kernel) ⟨Nat.le_of_ble_eq_true rfl, Nat.le_of_ble_eq_true rfl⟩) ⟨sP_b, sP_p hPc hK⟩ rfl rfl hl.1 rfl (lv_room (Nat.le_of_ble_eq_true rfl)) d_T_relations_31 ⟨Nat.le_of_ble_eq_true rfl, Nat.le_of_ble_eq_true rfl⟩)) (fun r5 hr5 => ?_)
  replace hr5 := hr5.symm; subst hr5
  refine lv_if_eq (tgt := 44) hx hb d_T_relations_34 (by decide) (fun c6 => ?_) (fun c6 => ?_)
  · refine lv_iload hx hb d_T_relations_44 (lv_at hl 0 rfl) ?_
    exact W.iret (v := (c_ra q.2.1 q.2.2.1 q2.2.1 q2.2.2.1) ||| (c_rb q.2.1 q.2.2.1 q2.2.1 q2.2.2.1)) hx hb hr (fun t ht hW => ⟨(c_ra q.2.1 q.2.2.1 q2.2.1 q2.2.2.1) ||| (c_rb q.2.1 q.2.2.1 q2.2.1 q2.2.2.1), rfl, (by simp only [c_rs, if_pos c6, decide_eq_true c6]), ht⟩) (fun _ h => nomatch h) d_T_relations_46
  · refine lv_iload hx hb d_T_relations_37 (lv_at hl 0 rfl) ?_
    refine lv_bipush (v := 64) hx hb d_T_relations_39 (by decide) ?_
    refine lv_ior hx hb d_T_relations_41 ?_
    refine lv_istore (lv' := [(5, .int (((c_ra q.2.1 q.2.2.1 q2.2.1 q2.2.2.1) ||| (c_rb q.2.1 q.2.2.1 q2.2.1 q2.2.2.1)) ||| 64)), (4, .ref q2.1), (3, .ref q.1), (0, .ref (aa 0)), (1, .int (nI j)), (2, .int (nI j2))]) hx hb d_T_relations_42 hl (by decide) rfl (fun ls hl => ?_)
    refine lv_iload hx hb d_T_relations_44 (lv_at hl 0 rfl) ?_
    exact W.iret (v := ((c_ra q.2.1 q.2.2.1 q2.2.1 q2.2.2.1) ||| (c_rb q.2.1 q.2.2.1 q2.2.1 q2.2.2.1)) ||| 64) hx hb hr (fun t ht hW => ⟨((c_ra q.2.1 q.2.2.1 q2.2.1 q2.2.2.1) ||| (c_rb q.2.1 q.2.2.1 q2.2.1 q2.2.2.1)) ||| 64, rfl, (by simp only [c_rs, if_neg c6, decide_eq_false c6]), ht⟩) (fun _ h => nomatch h) d_T_relations_46

set_option maxHeartbeats 4000000 in
set_option maxRecDepth 100000 in
theorem k_T_relations_x (l : Launch) (hl9 : l.stackTraces = false) (D : va_G) (T : gT) (κ : gS) (A : Nat → Prop) (aa : Nat → Nat) (zw : Int32) (kp : Nat) (fp : Nat → Int32) (e0 e1 : Int32) (oF oT : Bool) (kt : Nat) (ft : Nat → Int32) (ks : Nat) (fs fc : Nat → Int32) (S : tS) (sz : Nat) (x x2 : Int32) (hy0 : j_ix x (nI S.2.2.2.length) = false) : vx_Met l y_T_relations (Cond.code y_T_relations b_T_relations 6 (some .int) :: bg_W) ({ frames := 8, cells := 1, slots := 6, locals := 131 }) (xPf κ A D T (cX T aa zw kp fp e0 e1 oF oT kt ft ks fs fc S ++ tl T S) [.ref (aa 0), .int x, .int x2] sz) xN (xE "java/lang/IndexOutOfBoundsException" sz) 1 6 (fun q => sz ≤ q) := by
  refine vx_ofW (cc := b_T_relations) (maxL := 6) (ret := (some .int)) (by decide) rfl ?_
  intro p e s m args below meth c s₁ B hml htab hv
  obtain ⟨rfl, hsz, hP, hK, hF⟩ := hv
  have hx := B.exec
  have hb := B.bytes
  have hr := B.returns
  have hw : ∀ w ∈ bg_W, w.before ([.ref (aa 0), .int x, .int x2] : List Value).toArray s = true := fun w h => atoms_spec (ws := (Cond.code y_T_relations b_T_relations 6 (some .int) :: bg_W)) B.pre w (List.mem_cons_of_mem _ h)
  have hown : s.vm.findClass "TimeWords" = some m.cls := findClass_of_methodNamed B.named
  have hlocks := B.notSynchronized
  subst hsz
  have hS : va_S A s.heap s.heap [] := va_S.rf
  have hl := lv_entry ([.ref (aa 0), .int x, .int x2]) (n := 6) (Nat.le_of_ble_eq_true rfl)
  rw [lg_entry_eq]
  generalize (lg_sl ([.ref (aa 0), .int x, .int x2]) ++ List.replicate (6 - (lg_sl ([.ref (aa 0), .int x, .int x2])).length) Slot.unset).toArray = ls at hl ⊢
  have hl : lv_has ls 6 [(0, .ref (aa 0)), (1, .int x), (2, .int x2)] := hl
  refine lv_aload_n hx hb d_T_relations_0 rfl (lv_at hl 0 rfl) ?_
  refine lv_iload_n hx hb d_T_relations_1 rfl (lv_at hl 1 rfl) ?_
  exact x_call (vx_runV (As := [.int x]) (rest := []) ⟨hx, hb, hml, hown, hw⟩ (k_T_spanNumbered_x l hl9 D T κ A aa zw kp fp e0 e1 oF oT kt ft ks fs fc S s.heap.size x hy0) (cwV 1 hw (bg_V ml_T_141 wi_T_spanNumbered wv_T_spanNumbered wz_T wc_T_spanNumbered) rfl rfl rfl (by decide +kernel) ⟨Nat.le_of_ble_eq_true rfl, Nat.le_of_ble_eq_true rfl⟩) ⟨xPf_b, va_recv hK hP (ci := 5) (q0 := 0) rfl rfl, xPf_p hP hK hF hS⟩ rfl rfl hl.1 rfl (lv_room (Nat.le_of_ble_eq_true rfl)) d_T_relations_2 ⟨Nat.le_of_ble_eq_true rfl, Nat.le_of_ble_eq_true rfl⟩) htab hlocks

set_option maxHeartbeats 4000000 in
set_option maxRecDepth 100000 in
theorem k_T_relations_y (l : Launch) (hl9 : l.stackTraces = false) (D : va_G) (T : gT) (κ : gS) (A : Nat → Prop) (aa : Nat → Nat) (zw : Int32) (kp : Nat) (fp : Nat → Int32) (e0 e1 : Int32) (oF oT : Bool) (kt : Nat) (ft : Nat → Int32) (ks : Nat) (fs fc : Nat → Int32) (S : tS) (sz : Nat) (j : Nat) (q : spD) (x2 : Int32) (hy0 : tOk κ S) (hy1 : S.2.2.2[j]? = some q) (hy2 : j_ix x2 (nI S.2.2.2.length) = false) : vx_Met l y_T_relations (Cond.code y_T_relations b_T_relations 6 (some .int) :: bg_W) ({ frames := 8, cells := 1, slots := 6, locals := 131 }) (xPf κ A D T (cX T aa zw kp fp e0 e1 oF oT kt ft ks fs fc S ++ tl T S) [.ref (aa 0), .int (nI j), .int x2] sz) xN (xE "java/lang/IndexOutOfBoundsException" sz) 1 6 (fun q => sz ≤ q) := by
  refine vx_ofW (cc := b_T_relations) (maxL := 6) (ret := (some .int)) (by decide) rfl ?_
  intro p e s m args below meth c s₁ B hml htab hv
  obtain ⟨rfl, hsz, hP, hK, hF⟩ := hv
  have hx := B.exec
  have hb := B.bytes
  have hr := B.returns
  have hw : ∀ w ∈ bg_W, w.before ([.ref (aa 0), .int (nI j), .int x2] : List Value).toArray s = true := fun w h => atoms_spec (ws := (Cond.code y_T_relations b_T_relations 6 (some .int) :: bg_W)) B.pre w (List.mem_cons_of_mem _ h)
  have hown : s.vm.findClass "TimeWords" = some m.cls := findClass_of_methodNamed B.named
  have hlocks := B.notSynchronized
  subst hsz
  have hS : va_S A s.heap s.heap [] := va_S.rf
  have hl := lv_entry ([.ref (aa 0), .int (nI j), .int x2]) (n := 6) (Nat.le_of_ble_eq_true rfl)
  rw [lg_entry_eq]
  generalize (lg_sl ([.ref (aa 0), .int (nI j), .int x2]) ++ List.replicate (6 - (lg_sl ([.ref (aa 0), .int (nI j), .int x2])).length) Slot.unset).toArray = ls at hl ⊢
  have hl : lv_has ls 6 [(0, .ref (aa 0)), (1, .int (nI j)), (2, .int x2)] := hl
  have hL1 : S.2.1.length ≤ 24 := hy0.2.2.2.1
  have hL2 : S.2.2.2.length ≤ 60 := hy0.2.2.2.2
  obtain ⟨hs1, hs2, hs3, hs4, hs5⟩ := sp_at hy0 hy1
  refine lv_aload_n hx hb d_T_relations_0 rfl (lv_at hl 0 rfl) ?_
  refine lv_iload_n hx hb d_T_relations_1 rfl (lv_at hl 1 rfl) ?_
  refine va_csq (va_Run.run (va_runV (As := [.int (nI j)]) (rest := []) ⟨hx, hb, hml, hown, hw⟩ (k_T_spanNumbered l D T κ A aa zw kp fp e0 e1 oF oT kt ft ks fs fc S j q hy0 hy1) (cwV 1 hw (bg_V ml_T_141 wi_T_spanNumbered wv_T_spanNumbered wz_T wc_T_spanNumbered) rfl rfl rfl (by decide +kernel) ⟨Nat.le_of_ble_eq_true rfl, Nat.le_of_ble_eq_true rfl⟩) ⟨sPf_b, va_recv hK hP (ci := 5) (q0 := 0) rfl rfl, sPf_p hP hK hF hS⟩ rfl rfl hl.1 rfl (lv_room (Nat.le_of_ble_eq_true rfl)) d_T_relations_2 ⟨Nat.le_of_ble_eq_true rfl, Nat.le_of_ble_eq_true rfl⟩)) (fun r1 hr1 => ?_)
  replace hr1 := hr1.symm; subst hr1
  refine W.eq (g2 := F0 m 5 ls [.ref q.1]) rfl ?_
  refine lv_astore_n (lv' := [(3, .ref q.1), (0, .ref (aa 0)), (1, .int (nI j)), (2, .int x2)]) hx hb d_T_relations_5 rfl hl (by decide) rfl (fun ls hl => ?_)
  refine lv_aload_n hx hb d_T_relations_6 rfl (lv_at hl 1 rfl) ?_
  refine lv_iload_n hx hb d_T_relations_7 rfl (lv_at hl 3 rfl) ?_
  exact x_call (vx_runV (As := [.int x2]) (rest := []) ⟨hx, hb, hml, hown, hw⟩ (k_T_spanNumbered_x l hl9 D T κ A aa zw kp fp e0 e1 oF oT kt ft ks fs fc S s.heap.size x2 hy2) (cwV 1 hw (bg_V ml_T_141 wi_T_spanNumbered wv_T_spanNumbered wz_T wc_T_spanNumbered) rfl rfl rfl (by decide +kernel) ⟨Nat.le_of_ble_eq_true rfl, Nat.le_of_ble_eq_true rfl⟩) ⟨xPf_b, va_recv hK hP (ci := 5) (q0 := 0) rfl rfl, xPf_p hP hK hF hS⟩ rfl rfl hl.1 rfl (lv_room (Nat.le_of_ble_eq_true rfl)) d_T_relations_8 ⟨Nat.le_of_ble_eq_true rfl, Nat.le_of_ble_eq_true rfl⟩) htab hlocks

set_option maxHeartbeats 4000000 in
set_option maxRecDepth 100000 in
theorem k_T_regnal (l : Launch) (D : va_G) (T : gT) (κ : gS) (A : Nat → Prop) (aa : Nat → Nat) (zw : Int32) (kp : Nat) (fp : Nat → Int32) (e0 e1 : Int32) (oF oT : Bool) (kt : Nat) (ft : Nat → Int32) (ks : Nat) (fs fc : Nat → Int32) (S : tS) (j : Nat) (n : nmD) (x : Int32) (r9 : Nat × Int32 × Int32) (hy0 : tOk κ S) (hy1 : S.2.1[j]? = some n) (hy2 : 1 ≤ x) (hy3 : nG n = some r9) (hy4 : x ≤ r9.2.2 - r9.2.1 + 1) : Met l y_T_regnal (Cond.code y_T_regnal b_T_regnal 4 (some .int) :: bg_W) ({ frames := 4, cells := 0, slots := 0, locals := 85 }) (sPf κ A D T (cX T aa zw kp fp e0 e1 oF oT kt ft ks fs fc S ++ tl T S) [.ref (aa 0), .int (nI j), .int x]) (vp_Si (fun r : Int32 => r = r9.2.1 + x - 1)) 0 0 (fun _ => False) := by
  refine Met.ofW (cc := b_T_regnal) (maxL := 4) (ret := (some .int)) (by decide) rfl ?_
  intro p e s m args below meth c s₁ B hml hv
  obtain ⟨rfl, hP, hK, hF⟩ := hv
  have hx := B.exec
  have hb := B.bytes
  have hr := B.returns
  have hw : ∀ w ∈ bg_W, w.before ([.ref (aa 0), .int (nI j), .int x] : List Value).toArray s = true := fun w h => atoms_spec (ws := (Cond.code y_T_regnal b_T_regnal 4 (some .int) :: bg_W)) B.pre w (List.mem_cons_of_mem _ h)
  have hown : s.vm.findClass "TimeWords" = some m.cls := findClass_of_methodNamed B.named
  have hlocks := B.notSynchronized
  have hS : va_S A s.heap s.heap [] := va_S.rf
  have hl := lv_entry ([.ref (aa 0), .int (nI j), .int x]) (n := 4) (Nat.le_of_ble_eq_true rfl)
  rw [lg_entry_eq]
  generalize (lg_sl ([.ref (aa 0), .int (nI j), .int x]) ++ List.replicate (4 - (lg_sl ([.ref (aa 0), .int (nI j), .int x])).length) Slot.unset).toArray = ls at hl ⊢
  have hl : lv_has ls 4 [(0, .ref (aa 0)), (1, .int (nI j)), (2, .int x)] := hl
  have hL1 : S.2.1.length ≤ 24 := hy0.2.2.2.1
  have hL2 : S.2.2.2.length ≤ 60 := hy0.2.2.2.2
  obtain ⟨hn1, hn2, hn3, hn4, hn5, hn6⟩ := nm_at hy0 hy1
  have hyG := hy3
  refine lv_aload_n hx hb d_T_regnal_0 rfl (lv_at hl 0 rfl) ?_
  refine lv_iload_n hx hb d_T_regnal_1 rfl (lv_at hl 1 rfl) ?_
  refine va_csq (va_Run.run (va_runV (As := [.int (nI j)]) (rest := []) ⟨hx, hb, hml, hown, hw⟩ (k_T_nameNumbered l D T κ A aa zw kp fp e0 e1 oF oT kt ft ks fs fc S j n hy0 hy1) (cwV 1 hw (bg_V ml_T_100 wi_T_nameNumbered wv_T_nameNumbered wz_T wc_T_nameNumbered) rfl rfl rfl (by decide +kernel) ⟨Nat.le_of_ble_eq_true rfl, Nat.le_of_ble_eq_true rfl⟩) ⟨sPf_b, va_recv hK hP (ci := 5) (q0 := 0) rfl rfl, sPf_p hP hK hF hS⟩ rfl rfl hl.1 rfl (lv_room (Nat.le_of_ble_eq_true rfl)) d_T_regnal_2 ⟨Nat.le_of_ble_eq_true rfl, Nat.le_of_ble_eq_true rfl⟩)) (fun r1 hr1 => ?_)
  replace hr1 := hr1.symm; subst hr1
  refine W.eq (g2 := F0 m 5 ls [.ref (nA n)]) rfl ?_
  refine va_get (D := D) (ci := 4) (v := va_rf ((nG n).map (fun r => r.1))) (C := "TimeWords$Name") (T := F_N) (N := 3) hx hb hw in_N hown hK (pc1 (hP.mem (List.mem_append_right _ (tl_nm hn5 nmm_o))) pc0) 0 rfl rfl 2 (by decide) (hw _ fl_T_107) (fun _ h9 => h9) rfl d_T_regnal_5 ?_
  rw [hyG]
  refine W.eq (g2 := F0 m 8 ls [.ref r9.1]) rfl ?_
  refine lv_astore_n (lv' := [(3, .ref r9.1), (0, .ref (aa 0)), (1, .int (nI j)), (2, .int x)]) hx hb d_T_regnal_8 rfl hl (by decide) rfl (fun ls hl => ?_)
  refine lv_iload_n hx hb d_T_regnal_9 rfl (lv_at hl 3 rfl) ?_
  refine lv_iconst (v := 1) hx hb d_T_regnal_10 (by decide) ?_
  refine lv_icmp_ge (tgt := 24) hx hb d_T_regnal_11 (by decide) (fun c2 => ?_) (fun c2 => absurd (hy2) c2)
  refine lv_aload_n hx hb d_T_regnal_24 rfl (lv_at hl 0 rfl) ?_
  refine lv_ifnull hx hb d_T_regnal_25 ?_
  refine lv_iload_n hx hb d_T_regnal_28 rfl (lv_at hl 3 rfl) ?_
  refine lv_aload_n hx hb d_T_regnal_29 rfl (lv_at hl 0 rfl) ?_
  have hPc : va_P D gC ([(r9.1, .inr (2, [.int r9.2.1, .int r9.2.2, .int 0, .int 0]))]) s.heap := (pc1 (hP.mem (List.mem_append_right _ (tl_nm hn5 (nmm_g hyG)))) pc0)
  refine vp_callSi (va_Run.run (va_runV (As := []) (rest := [.int x]) ⟨hx, hb, hml, hown, hw⟩ (k_Y_length l D T r9.1 r9.2.1 r9.2.2 false false) (cwV 0 hw (bg_V ml_T_227 wi_Y_length wv_Y_length wz_Y wc_Y_length) rfl rfl rfl (by decide +kernel) ⟨Nat.le_of_ble_eq_true rfl, Nat.le_of_ble_eq_true rfl⟩) ⟨sP_b, va_recv hK hPc (ci := 2) (q0 := 0) rfl rfl, sP_p hPc hK⟩ rfl rfl hl.1 rfl (lv_room (Nat.le_of_ble_eq_true rfl)) d_T_regnal_30 ⟨Nat.le_of_ble_eq_true rfl, Nat.le_of_ble_eq_true rfl⟩)) (fun r3 hr3 => ?_)
  replace hr3 := hr3.symm; subst hr3
  refine lv_icmp_le (tgt := 46) hx hb d_T_regnal_33 (by decide) (fun c4 => ?_) (fun c4 => absurd (hy4) c4)
  refine lv_aload_n hx hb d_T_regnal_46 rfl (lv_at hl 0 rfl) ?_
  refine va_get (D := D) (ci := 2) (v := .int r9.2.1) (C := "TimeWords$Years") (T := F_Y) (N := 4) hx hb hw in_Y hown hK (pc1 (hP.mem (List.mem_append_right _ (tl_nm hn5 (nmm_g hyG)))) pc0) 0 rfl rfl 0 (by decide) (hw _ fl_T_153) (fun _ h9 => h9) rfl d_T_regnal_47 ?_
  refine lv_iload_n hx hb d_T_regnal_50 rfl (lv_at hl 3 rfl) ?_
  refine lv_iadd hx hb d_T_regnal_51 ?_
  refine lv_iconst (v := 1) hx hb d_T_regnal_52 (by decide) ?_
  refine lv_isub hx hb d_T_regnal_53 ?_
  exact W.iret (v := (r9.2.1 + x) - 1) hx hb hr (fun t ht hW => ⟨(r9.2.1 + x) - 1, rfl, rfl, ht⟩) (fun _ h => nomatch h) d_T_regnal_54

set_option maxHeartbeats 4000000 in
set_option maxRecDepth 100000 in
theorem k_T_regnal_x (l : Launch) (hl9 : l.stackTraces = false) (D : va_G) (T : gT) (κ : gS) (A : Nat → Prop) (aa : Nat → Nat) (zw : Int32) (kp : Nat) (fp : Nat → Int32) (e0 e1 : Int32) (oF oT : Bool) (kt : Nat) (ft : Nat → Int32) (ks : Nat) (fs fc : Nat → Int32) (S : tS) (sz : Nat) (x x2 : Int32) (hy0 : j_ix x (nI S.2.1.length) = false) : vx_Met l y_T_regnal (Cond.code y_T_regnal b_T_regnal 4 (some .int) :: bg_W) ({ frames := 8, cells := 1, slots := 6, locals := 131 }) (xPf κ A D T (cX T aa zw kp fp e0 e1 oF oT kt ft ks fs fc S ++ tl T S) [.ref (aa 0), .int x, .int x2] sz) xN (xE "java/lang/IndexOutOfBoundsException" sz) 1 6 (fun q => sz ≤ q) := by
  refine vx_ofW (cc := b_T_regnal) (maxL := 4) (ret := (some .int)) (by decide) rfl ?_
  intro p e s m args below meth c s₁ B hml htab hv
  obtain ⟨rfl, hsz, hP, hK, hF⟩ := hv
  have hx := B.exec
  have hb := B.bytes
  have hr := B.returns
  have hw : ∀ w ∈ bg_W, w.before ([.ref (aa 0), .int x, .int x2] : List Value).toArray s = true := fun w h => atoms_spec (ws := (Cond.code y_T_regnal b_T_regnal 4 (some .int) :: bg_W)) B.pre w (List.mem_cons_of_mem _ h)
  have hown : s.vm.findClass "TimeWords" = some m.cls := findClass_of_methodNamed B.named
  have hlocks := B.notSynchronized
  subst hsz
  have hS : va_S A s.heap s.heap [] := va_S.rf
  have hl := lv_entry ([.ref (aa 0), .int x, .int x2]) (n := 4) (Nat.le_of_ble_eq_true rfl)
  rw [lg_entry_eq]
  generalize (lg_sl ([.ref (aa 0), .int x, .int x2]) ++ List.replicate (4 - (lg_sl ([.ref (aa 0), .int x, .int x2])).length) Slot.unset).toArray = ls at hl ⊢
  have hl : lv_has ls 4 [(0, .ref (aa 0)), (1, .int x), (2, .int x2)] := hl
  refine lv_aload_n hx hb d_T_regnal_0 rfl (lv_at hl 0 rfl) ?_
  refine lv_iload_n hx hb d_T_regnal_1 rfl (lv_at hl 1 rfl) ?_
  exact x_call (vx_runV (As := [.int x]) (rest := []) ⟨hx, hb, hml, hown, hw⟩ (k_T_nameNumbered_x l hl9 D T κ A aa zw kp fp e0 e1 oF oT kt ft ks fs fc S s.heap.size x hy0) (cwV 1 hw (bg_V ml_T_100 wi_T_nameNumbered wv_T_nameNumbered wz_T wc_T_nameNumbered) rfl rfl rfl (by decide +kernel) ⟨Nat.le_of_ble_eq_true rfl, Nat.le_of_ble_eq_true rfl⟩) ⟨xPf_b, va_recv hK hP (ci := 5) (q0 := 0) rfl rfl, xPf_p hP hK hF hS⟩ rfl rfl hl.1 rfl (lv_room (Nat.le_of_ble_eq_true rfl)) d_T_regnal_2 ⟨Nat.le_of_ble_eq_true rfl, Nat.le_of_ble_eq_true rfl⟩) htab hlocks

set_option maxHeartbeats 4000000 in
set_option maxRecDepth 100000 in
theorem k_T_regnal_y (l : Launch) (hl9 : l.stackTraces = false) (D : va_G) (T : gT) (κ : gS) (A : Nat → Prop) (aa : Nat → Nat) (zw : Int32) (kp : Nat) (fp : Nat → Int32) (e0 e1 : Int32) (oF oT : Bool) (kt : Nat) (ft : Nat → Int32) (ks : Nat) (fs fc : Nat → Int32) (S : tS) (sz : Nat) (j : Nat) (n : nmD) (x : Int32) (hy0 : tOk κ S) (hy1 : S.2.1[j]? = some n) (hy2 : ¬ 1 ≤ x) : vx_Met l y_T_regnal (Cond.code y_T_regnal b_T_regnal 4 (some .int) :: bg_W) ({ frames := 7, cells := 1, slots := 6, locals := 110 }) (xPf κ A D T (cX T aa zw kp fp e0 e1 oF oT kt ft ks fs fc S ++ tl T S) [.ref (aa 0), .int (nI j), .int x] sz) xN (xE "java/lang/IllegalArgumentException" sz) 1 6 (fun q => sz ≤ q) := by
  refine vx_ofW (cc := b_T_regnal) (maxL := 4) (ret := (some .int)) (by decide) rfl ?_
  intro p e s m args below meth c s₁ B hml htab hv
  obtain ⟨rfl, hsz, hP, hK, hF⟩ := hv
  have hx := B.exec
  have hb := B.bytes
  have hr := B.returns
  have hw : ∀ w ∈ bg_W, w.before ([.ref (aa 0), .int (nI j), .int x] : List Value).toArray s = true := fun w h => atoms_spec (ws := (Cond.code y_T_regnal b_T_regnal 4 (some .int) :: bg_W)) B.pre w (List.mem_cons_of_mem _ h)
  have hown : s.vm.findClass "TimeWords" = some m.cls := findClass_of_methodNamed B.named
  have hlocks := B.notSynchronized
  subst hsz
  have hS : va_S A s.heap s.heap [] := va_S.rf
  have hl := lv_entry ([.ref (aa 0), .int (nI j), .int x]) (n := 4) (Nat.le_of_ble_eq_true rfl)
  rw [lg_entry_eq]
  generalize (lg_sl ([.ref (aa 0), .int (nI j), .int x]) ++ List.replicate (4 - (lg_sl ([.ref (aa 0), .int (nI j), .int x])).length) Slot.unset).toArray = ls at hl ⊢
  have hl : lv_has ls 4 [(0, .ref (aa 0)), (1, .int (nI j)), (2, .int x)] := hl
  have hL1 : S.2.1.length ≤ 24 := hy0.2.2.2.1
  have hL2 : S.2.2.2.length ≤ 60 := hy0.2.2.2.2
  obtain ⟨hn1, hn2, hn3, hn4, hn5, hn6⟩ := nm_at hy0 hy1
  refine lv_aload_n hx hb d_T_regnal_0 rfl (lv_at hl 0 rfl) ?_
  refine lv_iload_n hx hb d_T_regnal_1 rfl (lv_at hl 1 rfl) ?_
  refine va_csq (va_Run.run (va_runV (As := [.int (nI j)]) (rest := []) ⟨hx, hb, hml, hown, hw⟩ (k_T_nameNumbered l D T κ A aa zw kp fp e0 e1 oF oT kt ft ks fs fc S j n hy0 hy1) (cwV 1 hw (bg_V ml_T_100 wi_T_nameNumbered wv_T_nameNumbered wz_T wc_T_nameNumbered) rfl rfl rfl (by decide +kernel) ⟨Nat.le_of_ble_eq_true rfl, Nat.le_of_ble_eq_true rfl⟩) ⟨sPf_b, va_recv hK hP (ci := 5) (q0 := 0) rfl rfl, sPf_p hP hK hF hS⟩ rfl rfl hl.1 rfl (lv_room (Nat.le_of_ble_eq_true rfl)) d_T_regnal_2 ⟨Nat.le_of_ble_eq_true rfl, Nat.le_of_ble_eq_true rfl⟩)) (fun r1 hr1 => ?_)
  replace hr1 := hr1.symm; subst hr1
  refine W.eq (g2 := F0 m 5 ls [.ref (nA n)]) rfl ?_
  refine va_get (D := D) (ci := 4) (v := va_rf ((nG n).map (fun r => r.1))) (C := "TimeWords$Name") (T := F_N) (N := 3) hx hb hw in_N hown hK (pc1 (hP.mem (List.mem_append_right _ (tl_nm hn5 nmm_o))) pc0) 0 rfl rfl 2 (by decide) (hw _ fl_T_107) (fun _ h9 => h9) rfl d_T_regnal_5 ?_
  rcases hyG : nG n with _ | r9
  · refine W.eq (g2 := F0 m 8 ls [.null]) rfl ?_
    refine lv_astore_nN (lv' := [(3, .null), (0, .ref (aa 0)), (1, .int (nI j)), (2, .int x)]) hx hb d_T_regnal_8 rfl hl (by decide) rfl (fun ls hl => ?_)
    refine lv_iload_n hx hb d_T_regnal_9 rfl (lv_at hl 3 rfl) ?_
    refine lv_iconst (v := 1) hx hb d_T_regnal_10 (by decide) ?_
    refine lv_icmp_ge (tgt := 24) hx hb d_T_regnal_11 (by decide) (fun c2 => absurd c2 (hy2)) (fun c2 => ?_)
    exact vx_throwS (rest := []) hx hb hl9 hown th_IA_f th_n (hw _ kl_T_55) (hw _ wz_IA) (hF.2.2.2.2 (225, "no year of a reign") (by decide)) (th_IA_w hw hF) th_IA_g hF.2.1.2.2.2.2.2.2.1 hF.2.1.2.2.2.2.2.2.2 hS (hl.1.trans hml.symm) (d_T_regnal_14) (d_T_regnal_17) (d_T_regnal_18) (d_T_regnal_20) (d_T_regnal_23) (fun x h9 => (htab x h9).elim) (Nat.le_of_ble_eq_true rfl) (Nat.le_of_ble_eq_true rfl) (Nat.le_of_ble_eq_true rfl) (Nat.le_of_ble_eq_true rfl) hlocks (fun t9 h8 h7 h6 => ⟨(), trivial, rfl, ⟨h7, fun q h1 _ => h6 q h1⟩⟩) (fun z h9 => absurd h9 List.not_mem_nil) (Nat.le_of_ble_eq_true rfl) (Nat.le_of_ble_eq_true rfl)
  · refine W.eq (g2 := F0 m 8 ls [.ref r9.1]) rfl ?_
    refine lv_astore_n (lv' := [(3, .ref r9.1), (0, .ref (aa 0)), (1, .int (nI j)), (2, .int x)]) hx hb d_T_regnal_8 rfl hl (by decide) rfl (fun ls hl => ?_)
    refine lv_iload_n hx hb d_T_regnal_9 rfl (lv_at hl 3 rfl) ?_
    refine lv_iconst (v := 1) hx hb d_T_regnal_10 (by decide) ?_
    refine lv_icmp_ge (tgt := 24) hx hb d_T_regnal_11 (by decide) (fun c3 => absurd c3 (hy2)) (fun c3 => ?_)
    exact vx_throwS (rest := []) hx hb hl9 hown th_IA_f th_n (hw _ kl_T_55) (hw _ wz_IA) (hF.2.2.2.2 (225, "no year of a reign") (by decide)) (th_IA_w hw hF) th_IA_g hF.2.1.2.2.2.2.2.2.1 hF.2.1.2.2.2.2.2.2.2 hS (hl.1.trans hml.symm) (d_T_regnal_14) (d_T_regnal_17) (d_T_regnal_18) (d_T_regnal_20) (d_T_regnal_23) (fun x h9 => (htab x h9).elim) (Nat.le_of_ble_eq_true rfl) (Nat.le_of_ble_eq_true rfl) (Nat.le_of_ble_eq_true rfl) (Nat.le_of_ble_eq_true rfl) hlocks (fun t9 h8 h7 h6 => ⟨(), trivial, rfl, ⟨h7, fun q h1 _ => h6 q h1⟩⟩) (fun z h9 => absurd h9 List.not_mem_nil) (Nat.le_of_ble_eq_true rfl) (Nat.le_of_ble_eq_true rfl)

set_option maxHeartbeats 4000000 in
set_option maxRecDepth 100000 in
theorem k_T_regnal_z (l : Launch) (hl9 : l.stackTraces = false) (D : va_G) (T : gT) (κ : gS) (A : Nat → Prop) (aa : Nat → Nat) (zw : Int32) (kp : Nat) (fp : Nat → Int32) (e0 e1 : Int32) (oF oT : Bool) (kt : Nat) (ft : Nat → Int32) (ks : Nat) (fs fc : Nat → Int32) (S : tS) (sz : Nat) (j : Nat) (n : nmD) (x : Int32) (hy0 : tOk κ S) (hy1 : S.2.1[j]? = some n) (hy2 : 1 ≤ x) (hy3 : nG n = none) : vx_Met l y_T_regnal (Cond.code y_T_regnal b_T_regnal 4 (some .int) :: bg_W) ({ frames := 7, cells := 1, slots := 6, locals := 110 }) (xPf κ A D T (cX T aa zw kp fp e0 e1 oF oT kt ft ks fs fc S ++ tl T S) [.ref (aa 0), .int (nI j), .int x] sz) xN (xE "java/lang/IllegalStateException" sz) 1 6 (fun q => sz ≤ q) := by
  refine vx_ofW (cc := b_T_regnal) (maxL := 4) (ret := (some .int)) (by decide) rfl ?_
  intro p e s m args below meth c s₁ B hml htab hv
  obtain ⟨rfl, hsz, hP, hK, hF⟩ := hv
  have hx := B.exec
  have hb := B.bytes
  have hr := B.returns
  have hw : ∀ w ∈ bg_W, w.before ([.ref (aa 0), .int (nI j), .int x] : List Value).toArray s = true := fun w h => atoms_spec (ws := (Cond.code y_T_regnal b_T_regnal 4 (some .int) :: bg_W)) B.pre w (List.mem_cons_of_mem _ h)
  have hown : s.vm.findClass "TimeWords" = some m.cls := findClass_of_methodNamed B.named
  have hlocks := B.notSynchronized
  subst hsz
  have hS : va_S A s.heap s.heap [] := va_S.rf
  have hl := lv_entry ([.ref (aa 0), .int (nI j), .int x]) (n := 4) (Nat.le_of_ble_eq_true rfl)
  rw [lg_entry_eq]
  generalize (lg_sl ([.ref (aa 0), .int (nI j), .int x]) ++ List.replicate (4 - (lg_sl ([.ref (aa 0), .int (nI j), .int x])).length) Slot.unset).toArray = ls at hl ⊢
  have hl : lv_has ls 4 [(0, .ref (aa 0)), (1, .int (nI j)), (2, .int x)] := hl
  have hL1 : S.2.1.length ≤ 24 := hy0.2.2.2.1
  have hL2 : S.2.2.2.length ≤ 60 := hy0.2.2.2.2
  obtain ⟨hn1, hn2, hn3, hn4, hn5, hn6⟩ := nm_at hy0 hy1
  have hyG := hy3
  refine lv_aload_n hx hb d_T_regnal_0 rfl (lv_at hl 0 rfl) ?_
  refine lv_iload_n hx hb d_T_regnal_1 rfl (lv_at hl 1 rfl) ?_
  refine va_csq (va_Run.run (va_runV (As := [.int (nI j)]) (rest := []) ⟨hx, hb, hml, hown, hw⟩ (k_T_nameNumbered l D T κ A aa zw kp fp e0 e1 oF oT kt ft ks fs fc S j n hy0 hy1) (cwV 1 hw (bg_V ml_T_100 wi_T_nameNumbered wv_T_nameNumbered wz_T wc_T_nameNumbered) rfl rfl rfl (by decide +kernel) ⟨Nat.le_of_ble_eq_true rfl, Nat.le_of_ble_eq_true rfl⟩) ⟨sPf_b, va_recv hK hP (ci := 5) (q0 := 0) rfl rfl, sPf_p hP hK hF hS⟩ rfl rfl hl.1 rfl (lv_room (Nat.le_of_ble_eq_true rfl)) d_T_regnal_2 ⟨Nat.le_of_ble_eq_true rfl, Nat.le_of_ble_eq_true rfl⟩)) (fun r1 hr1 => ?_)
  replace hr1 := hr1.symm; subst hr1
  refine W.eq (g2 := F0 m 5 ls [.ref (nA n)]) rfl ?_
  refine va_get (D := D) (ci := 4) (v := va_rf ((nG n).map (fun r => r.1))) (C := "TimeWords$Name") (T := F_N) (N := 3) hx hb hw in_N hown hK (pc1 (hP.mem (List.mem_append_right _ (tl_nm hn5 nmm_o))) pc0) 0 rfl rfl 2 (by decide) (hw _ fl_T_107) (fun _ h9 => h9) rfl d_T_regnal_5 ?_
  rw [hyG]
  refine W.eq (g2 := F0 m 8 ls [.null]) rfl ?_
  refine lv_astore_nN (lv' := [(3, .null), (0, .ref (aa 0)), (1, .int (nI j)), (2, .int x)]) hx hb d_T_regnal_8 rfl hl (by decide) rfl (fun ls hl => ?_)
  refine lv_iload_n hx hb d_T_regnal_9 rfl (lv_at hl 3 rfl) ?_
  refine lv_iconst (v := 1) hx hb d_T_regnal_10 (by decide) ?_
  refine lv_icmp_ge (tgt := 24) hx hb d_T_regnal_11 (by decide) (fun c2 => ?_) (fun c2 => absurd (hy2) c2)
  refine lv_aload_nN hx hb d_T_regnal_24 rfl (lv_at hl 0 rfl) ?_
  refine lv_ifnullN (tgt := 36) hx hb d_T_regnal_25 (by decide) ?_
  exact vx_throwS (rest := []) hx hb hl9 hown th_IS_f th_n (hw _ kl_T_65) (hw _ wz_IS) (hF.2.2.2.2 (229, "no reign, or one that is too short") (by decide)) (th_IS_w hw hF) th_IS_g hF.2.1.2.2.2.2.2.2.1 hF.2.1.2.2.2.2.2.2.2 hS (hl.1.trans hml.symm) (d_T_regnal_36) (d_T_regnal_39) (d_T_regnal_40) (d_T_regnal_42) (d_T_regnal_45) (fun x h9 => (htab x h9).elim) (Nat.le_of_ble_eq_true rfl) (Nat.le_of_ble_eq_true rfl) (Nat.le_of_ble_eq_true rfl) (Nat.le_of_ble_eq_true rfl) hlocks (fun t9 h8 h7 h6 => ⟨(), trivial, rfl, ⟨h7, fun q h1 _ => h6 q h1⟩⟩) (fun z h9 => absurd h9 List.not_mem_nil) (Nat.le_of_ble_eq_true rfl) (Nat.le_of_ble_eq_true rfl)

set_option maxHeartbeats 4000000 in
set_option maxRecDepth 100000 in
theorem k_T_regnal_u (l : Launch) (hl9 : l.stackTraces = false) (D : va_G) (T : gT) (κ : gS) (A : Nat → Prop) (aa : Nat → Nat) (zw : Int32) (kp : Nat) (fp : Nat → Int32) (e0 e1 : Int32) (oF oT : Bool) (kt : Nat) (ft : Nat → Int32) (ks : Nat) (fs fc : Nat → Int32) (S : tS) (sz : Nat) (j : Nat) (n : nmD) (x : Int32) (r9 : Nat × Int32 × Int32) (hy0 : tOk κ S) (hy1 : S.2.1[j]? = some n) (hy2 : 1 ≤ x) (hy3 : nG n = some r9) (hy4 : ¬ x ≤ r9.2.2 - r9.2.1 + 1) : vx_Met l y_T_regnal (Cond.code y_T_regnal b_T_regnal 4 (some .int) :: bg_W) ({ frames := 7, cells := 1, slots := 6, locals := 110 }) (xPf κ A D T (cX T aa zw kp fp e0 e1 oF oT kt ft ks fs fc S ++ tl T S) [.ref (aa 0), .int (nI j), .int x] sz) xN (xE "java/lang/IllegalStateException" sz) 1 6 (fun q => sz ≤ q) := by
  refine vx_ofW (cc := b_T_regnal) (maxL := 4) (ret := (some .int)) (by decide) rfl ?_
  intro p e s m args below meth c s₁ B hml htab hv
  obtain ⟨rfl, hsz, hP, hK, hF⟩ := hv
  have hx := B.exec
  have hb := B.bytes
  have hr := B.returns
  have hw : ∀ w ∈ bg_W, w.before ([.ref (aa 0), .int (nI j), .int x] : List Value).toArray s = true := fun w h => atoms_spec (ws := (Cond.code y_T_regnal b_T_regnal 4 (some .int) :: bg_W)) B.pre w (List.mem_cons_of_mem _ h)
  have hown : s.vm.findClass "TimeWords" = some m.cls := findClass_of_methodNamed B.named
  have hlocks := B.notSynchronized
  subst hsz
  have hS : va_S A s.heap s.heap [] := va_S.rf
  have hl := lv_entry ([.ref (aa 0), .int (nI j), .int x]) (n := 4) (Nat.le_of_ble_eq_true rfl)
  rw [lg_entry_eq]
  generalize (lg_sl ([.ref (aa 0), .int (nI j), .int x]) ++ List.replicate (4 - (lg_sl ([.ref (aa 0), .int (nI j), .int x])).length) Slot.unset).toArray = ls at hl ⊢
  have hl : lv_has ls 4 [(0, .ref (aa 0)), (1, .int (nI j)), (2, .int x)] := hl
  have hL1 : S.2.1.length ≤ 24 := hy0.2.2.2.1
  have hL2 : S.2.2.2.length ≤ 60 := hy0.2.2.2.2
  obtain ⟨hn1, hn2, hn3, hn4, hn5, hn6⟩ := nm_at hy0 hy1
  have hyG := hy3
  refine lv_aload_n hx hb d_T_regnal_0 rfl (lv_at hl 0 rfl) ?_
  refine lv_iload_n hx hb d_T_regnal_1 rfl (lv_at hl 1 rfl) ?_
  refine va_csq (va_Run.run (va_runV (As := [.int (nI j)]) (rest := []) ⟨hx, hb, hml, hown, hw⟩ (k_T_nameNumbered l D T κ A aa zw kp fp e0 e1 oF oT kt ft ks fs fc S j n hy0 hy1) (cwV 1 hw (bg_V ml_T_100 wi_T_nameNumbered wv_T_nameNumbered wz_T wc_T_nameNumbered) rfl rfl rfl (by decide +kernel) ⟨Nat.le_of_ble_eq_true rfl, Nat.le_of_ble_eq_true rfl⟩) ⟨sPf_b, va_recv hK hP (ci := 5) (q0 := 0) rfl rfl, sPf_p hP hK hF hS⟩ rfl rfl hl.1 rfl (lv_room (Nat.le_of_ble_eq_true rfl)) d_T_regnal_2 ⟨Nat.le_of_ble_eq_true rfl, Nat.le_of_ble_eq_true rfl⟩)) (fun r1 hr1 => ?_)
  replace hr1 := hr1.symm; subst hr1
  refine W.eq (g2 := F0 m 5 ls [.ref (nA n)]) rfl ?_
  refine va_get (D := D) (ci := 4) (v := va_rf ((nG n).map (fun r => r.1))) (C := "TimeWords$Name") (T := F_N) (N := 3) hx hb hw in_N hown hK (pc1 (hP.mem (List.mem_append_right _ (tl_nm hn5 nmm_o))) pc0) 0 rfl rfl 2 (by decide) (hw _ fl_T_107) (fun _ h9 => h9) rfl d_T_regnal_5 ?_
  rw [hyG]
  refine W.eq (g2 := F0 m 8 ls [.ref r9.1]) rfl ?_
  refine lv_astore_n (lv' := [(3, .ref r9.1), (0, .ref (aa 0)), (1, .int (nI j)), (2, .int x)]) hx hb d_T_regnal_8 rfl hl (by decide) rfl (fun ls hl => ?_)
  refine lv_iload_n hx hb d_T_regnal_9 rfl (lv_at hl 3 rfl) ?_
  refine lv_iconst (v := 1) hx hb d_T_regnal_10 (by decide) ?_
  refine lv_icmp_ge (tgt := 24) hx hb d_T_regnal_11 (by decide) (fun c2 => ?_) (fun c2 => absurd (hy2) c2)
  refine lv_aload_n hx hb d_T_regnal_24 rfl (lv_at hl 0 rfl) ?_
  refine lv_ifnull hx hb d_T_regnal_25 ?_
  refine lv_iload_n hx hb d_T_regnal_28 rfl (lv_at hl 3 rfl) ?_
  refine lv_aload_n hx hb d_T_regnal_29 rfl (lv_at hl 0 rfl) ?_
  have hPc : va_P D gC ([(r9.1, .inr (2, [.int r9.2.1, .int r9.2.2, .int 0, .int 0]))]) s.heap := (pc1 (hP.mem (List.mem_append_right _ (tl_nm hn5 (nmm_g hyG)))) pc0)
  refine vp_callSi (va_Run.run (va_runV (As := []) (rest := [.int x]) ⟨hx, hb, hml, hown, hw⟩ (k_Y_length l D T r9.1 r9.2.1 r9.2.2 false false) (cwV 0 hw (bg_V ml_T_227 wi_Y_length wv_Y_length wz_Y wc_Y_length) rfl rfl rfl (by decide +kernel) ⟨Nat.le_of_ble_eq_true rfl, Nat.le_of_ble_eq_true rfl⟩) ⟨sP_b, va_recv hK hPc (ci := 2) (q0 := 0) rfl rfl, sP_p hPc hK⟩ rfl rfl hl.1 rfl (lv_room (Nat.le_of_ble_eq_true rfl)) d_T_regnal_30 ⟨Nat.le_of_ble_eq_true rfl, Nat.le_of_ble_eq_true rfl⟩)) (fun r3 hr3 => ?_)
  replace hr3 := hr3.symm; subst hr3
  refine lv_icmp_le (tgt := 46) hx hb d_T_regnal_33 (by decide) (fun c4 => absurd c4 (hy4)) (fun c4 => ?_)
  exact vx_throwS (rest := []) hx hb hl9 hown th_IS_f th_n (hw _ kl_T_65) (hw _ wz_IS) (hF.2.2.2.2 (229, "no reign, or one that is too short") (by decide)) (th_IS_w hw hF) th_IS_g hF.2.1.2.2.2.2.2.2.1 hF.2.1.2.2.2.2.2.2.2 hS (hl.1.trans hml.symm) (d_T_regnal_36) (d_T_regnal_39) (d_T_regnal_40) (d_T_regnal_42) (d_T_regnal_45) (fun x h9 => (htab x h9).elim) (Nat.le_of_ble_eq_true rfl) (Nat.le_of_ble_eq_true rfl) (Nat.le_of_ble_eq_true rfl) (Nat.le_of_ble_eq_true rfl) hlocks (fun t9 h8 h7 h6 => ⟨(), trivial, rfl, ⟨h7, fun q h1 _ => h6 q h1⟩⟩) (fun z h9 => absurd h9 List.not_mem_nil) (Nat.le_of_ble_eq_true rfl) (Nat.le_of_ble_eq_true rfl)
