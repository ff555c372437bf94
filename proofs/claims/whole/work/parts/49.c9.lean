set_option maxHeartbeats 4000000 in
set_option maxRecDepth 100000 in
theorem k_T_nameNumbered (l : Launch) (D : va_G) (T : gT) (κ : gS) (A : Nat → Prop) (aa : Nat → Nat) (zw : Int32) (kp : Nat) (fp : Nat → Int32) (e0 e1 : Int32) (oF oT : Bool) (kt : Nat) (ft : Nat → Int32) (ks : Nat) (fs fc : Nat → Int32) (S : tS) (j : Nat) (n : nmD) (hy0 : tOk κ S) (hy1 : S.2.1[j]? = some n) : Met l y_T_nameNumbered (Cond.code y_T_nameNumbered b_T_nameNumbered 2 (some (.object "TimeWords$Name")) :: bg_W) ({ frames := 3, cells := 0, slots := 0, locals := 64 }) (sPf κ A D T (cX T aa zw kp fp e0 e1 oF oT kt ft ks fs fc S ++ tl T S) [.ref (aa 0), .int (nI j)]) (va_Sq (fun r : Option Nat => r = some (nA n))) 0 0 (fun _ => False) := by
  refine Met.ofW (cc := b_T_nameNumbered) (maxL := 2) (ret := (some (.object "TimeWords$Name"))) (by decide) rfl ?_
  intro p e s m args below meth c s₁ B hml hv
  obtain ⟨rfl, hP, hK, hF⟩ := hv
  have hx := B.exec
  have hb := B.bytes
  have hr := B.returns
  have hw : ∀ w ∈ bg_W, w.before ([.ref (aa 0), .int (nI j)] : List Value).toArray s = true := fun w h => atoms_spec (ws := (Cond.code y_T_nameNumbered b_T_nameNumbered 2 (some (.object "TimeWords$Name")) :: bg_W)) B.pre w (List.mem_cons_of_mem _ h)
  have hown : s.vm.findClass "TimeWords" = some m.cls := findClass_of_methodNamed B.named
  have hlocks := B.notSynchronized
  have hS : va_S A s.heap s.heap [] := va_S.rf
  have hl := lv_entry ([.ref (aa 0), .int (nI j)]) (n := 2) (Nat.le_of_ble_eq_true rfl)
  rw [lg_entry_eq]
  generalize (lg_sl ([.ref (aa 0), .int (nI j)]) ++ List.replicate (2 - (lg_sl ([.ref (aa 0), .int (nI j)])).length) Slot.unset).toArray = ls at hl ⊢
  have hl : lv_has ls 2 [(0, .ref (aa 0)), (1, .int (nI j))] := hl
  have hL1 : S.2.1.length ≤ 24 := hy0.2.2.2.1
  have hL2 : S.2.2.2.length ≤ 60 := hy0.2.2.2.2
  obtain ⟨hn1, hn2, hn3, hn4, hn5, hn6⟩ := nm_at hy0 hy1
  refine lv_iload_n hx hb d_T_nameNumbered_0 rfl (lv_at hl 1 rfl) ?_
  refine lv_if_lt (tgt := 15) hx hb d_T_nameNumbered_1 (by decide) (fun c1 => absurd c1 (nI_pos (by omega))) (fun c1 => ?_)
  refine lv_iload_n hx hb d_T_nameNumbered_4 rfl (lv_at hl 1 rfl) ?_
  refine lv_aload_n hx hb d_T_nameNumbered_5 rfl (lv_at hl 0 rfl) ?_
  refine va_get (D := D) (ci := 5) (v := .ref S.1.1) (C := "TimeWords") (T := F_T) (N := 8) hx hb hw in_T hown hK hP 0 rfl rfl 1 (by decide) (hw _ fl_T_21) (fun _ h9 => h9) rfl d_T_nameNumbered_6 ?_
  have hPc : va_P D gC ([(S.1.1, .inr (0, [.ref S.1.2.1, .int (nI S.2.1.length), .int S.1.2.2.1]))]) s.heap := (pc1 (hP 9 _ rfl) pc0)
  refine vp_callSi (va_Run.run (va_runV (As := []) (rest := [.int (nI j)]) ⟨hx, hb, hml, hown, hw⟩ (k_A_size l D T S.1.1 S.1.2.1 S.2.1.length S.1.2.2.1) (cwV 0 hw (bg_V ml_T_86 wi_A_size wv_A_size wz_A wc_A_size) rfl rfl rfl (by decide +kernel) ⟨Nat.le_of_ble_eq_true rfl, Nat.le_of_ble_eq_true rfl⟩) ⟨sP_b, va_recv hK hPc (ci := 0) (q0 := 0) rfl rfl, sP_p hPc hK⟩ rfl rfl hl.1 rfl (lv_room (Nat.le_of_ble_eq_true rfl)) d_T_nameNumbered_9 ⟨Nat.le_of_ble_eq_true rfl, Nat.le_of_ble_eq_true rfl⟩)) (fun r2 hr2 => ?_)
  replace hr2 := hr2.symm; subst hr2
  refine lv_icmp_lt (tgt := 25) hx hb d_T_nameNumbered_12 (by decide) (fun c3 => ?_) (fun c3 => absurd ((nI_lt hn4 (by omega))) c3)
  refine lv_aload_n hx hb d_T_nameNumbered_25 rfl (lv_at hl 0 rfl) ?_
  refine va_get (D := D) (ci := 5) (v := .ref S.1.1) (C := "TimeWords") (T := F_T) (N := 8) hx hb hw in_T hown hK hP 0 rfl rfl 1 (by decide) (hw _ fl_T_21) (fun _ h9 => h9) rfl d_T_nameNumbered_26 ?_
  refine lv_iload_n hx hb d_T_nameNumbered_29 rfl (lv_at hl 1 rfl) ?_
  have hPc : va_P D gC ([(S.1.1, .inr (0, [.ref S.1.2.1, .int (nI S.2.1.length), .int S.1.2.2.1])), (S.1.2.1, .inl (T.2.2.2, S.1.2.2.2.1, .inr (.inr (.inr (.inr S.1.2.2.2.2)))))]) s.heap := (pc1 (hP 9 _ rfl) (pc1 (hP.mem (List.mem_append_right _ (tl_na (by omega)))) pc0))
  refine va_csq (va_Run.run (va_runV (As := [.int (nI j)]) (rest := []) ⟨hx, hb, hml, hown, hw⟩ (k_A_get l D T S.1.1 S.1.2.1 S.2.1.length S.1.2.2.1 S.1.2.2.2.1 S.1.2.2.2.2 j hn4 hn2 (by omega)) (cwV 1 hw (bg_V ml_T_192 wi_A_get wv_A_get wz_A wc_A_get) rfl rfl rfl (by decide +kernel) ⟨Nat.le_of_ble_eq_true rfl, Nat.le_of_ble_eq_true rfl⟩) ⟨sP_b, va_recv hK hPc (ci := 0) (q0 := 0) rfl rfl, sP_p hPc hK⟩ rfl rfl hl.1 rfl (lv_room (Nat.le_of_ble_eq_true rfl)) d_T_nameNumbered_30 ⟨Nat.le_of_ble_eq_true rfl, Nat.le_of_ble_eq_true rfl⟩)) (fun r4 hr4 => ?_)
  replace hr4 := hr4.symm; subst hr4
  rw [hn1]
  refine W.eq (g2 := F0 m 33 ls [.ref (nA n)]) rfl ?_
  refine va_castY (C := "TimeWords$Name") hx hb hown (hw _ kl_T_92) (hF.2.2.2.1 _ (by simp [sC])) (va_recv hK (pc1 (hP.mem (List.mem_append_right _ (tl_nm hn5 nmm_o))) pc0) (ci := 4) (q0 := 0) rfl rfl) d_T_nameNumbered_33 ?_
  exact W.aret (v := .ref (nA n)) hx hb hr (Or.inl ⟨_, rfl⟩) (Or.inr ⟨_, rfl⟩) (fun t ht hW => ⟨some (nA n), rfl, rfl, ht⟩) (fun _ h => nomatch h) d_T_nameNumbered_36

set_option maxHeartbeats 4000000 in
set_option maxRecDepth 100000 in
theorem k_T_nameNumbered_x (l : Launch) (hl9 : l.stackTraces = false) (D : va_G) (T : gT) (κ : gS) (A : Nat → Prop) (aa : Nat → Nat) (zw : Int32) (kp : Nat) (fp : Nat → Int32) (e0 e1 : Int32) (oF oT : Bool) (kt : Nat) (ft : Nat → Int32) (ks : Nat) (fs fc : Nat → Int32) (S : tS) (sz : Nat) (x : Int32) (hy0 : j_ix x (nI S.2.1.length) = false) : vx_Met l y_T_nameNumbered (Cond.code y_T_nameNumbered b_T_nameNumbered 2 (some (.object "TimeWords$Name")) :: bg_W) ({ frames := 7, cells := 1, slots := 6, locals := 110 }) (xPf κ A D T (cX T aa zw kp fp e0 e1 oF oT kt ft ks fs fc S ++ tl T S) [.ref (aa 0), .int x] sz) xN (xE "java/lang/IndexOutOfBoundsException" sz) 1 6 (fun q => sz ≤ q) := by
  refine vx_ofW (cc := b_T_nameNumbered) (maxL := 2) (ret := (some (.object "TimeWords$Name"))) (by decide) rfl ?_
  intro p e s m args below meth c s₁ B hml htab hv
  obtain ⟨rfl, hsz, hP, hK, hF⟩ := hv
  have hx := B.exec
  have hb := B.bytes
  have hr := B.returns
  have hw : ∀ w ∈ bg_W, w.before ([.ref (aa 0), .int x] : List Value).toArray s = true := fun w h => atoms_spec (ws := (Cond.code y_T_nameNumbered b_T_nameNumbered 2 (some (.object "TimeWords$Name")) :: bg_W)) B.pre w (List.mem_cons_of_mem _ h)
  have hown : s.vm.findClass "TimeWords" = some m.cls := findClass_of_methodNamed B.named
  have hlocks := B.notSynchronized
  subst hsz
  have hS : va_S A s.heap s.heap [] := va_S.rf
  have hl := lv_entry ([.ref (aa 0), .int x]) (n := 2) (Nat.le_of_ble_eq_true rfl)
  rw [lg_entry_eq]
  generalize (lg_sl ([.ref (aa 0), .int x]) ++ List.replicate (2 - (lg_sl ([.ref (aa 0), .int x])).length) Slot.unset).toArray = ls at hl ⊢
  have hl : lv_has ls 2 [(0, .ref (aa 0)), (1, .int x)] := hl
  refine lv_iload_n hx hb d_T_nameNumbered_0 rfl (lv_at hl 1 rfl) ?_
  refine lv_if_lt (tgt := 15) hx hb d_T_nameNumbered_1 (by decide) (fun c1 => ?_) (fun c1 => ?_)
  · exact vx_throwS (rest := []) hx hb hl9 hown th_IO_f th_n (hw _ kl_T_184) (hw _ wz_IO) (hF.2.2.2.2 (233, "no such name") (by decide)) (th_IO_w hw hF) th_IO_g hF.2.1.2.2.2.2.2.2.1 hF.2.1.2.2.2.2.2.2.2 hS (hl.1.trans hml.symm) (d_T_nameNumbered_15) (d_T_nameNumbered_18) (d_T_nameNumbered_19) (d_T_nameNumbered_21) (d_T_nameNumbered_24) (fun x h9 => (htab x h9).elim) (Nat.le_of_ble_eq_true rfl) (Nat.le_of_ble_eq_true rfl) (Nat.le_of_ble_eq_true rfl) (Nat.le_of_ble_eq_true rfl) hlocks (fun t9 h8 h7 h6 => ⟨(), trivial, rfl, ⟨h7, fun q h1 _ => h6 q h1⟩⟩) (fun z h9 => absurd h9 List.not_mem_nil) (Nat.le_of_ble_eq_true rfl) (Nat.le_of_ble_eq_true rfl)
  · refine lv_iload_n hx hb d_T_nameNumbered_4 rfl (lv_at hl 1 rfl) ?_
    refine lv_aload_n hx hb d_T_nameNumbered_5 rfl (lv_at hl 0 rfl) ?_
    refine va_get (D := D) (ci := 5) (v := .ref S.1.1) (C := "TimeWords") (T := F_T) (N := 8) hx hb hw in_T hown hK hP 0 rfl rfl 1 (by decide) (hw _ fl_T_21) (fun _ h9 => h9) rfl d_T_nameNumbered_6 ?_
    have hPc : va_P D gC ([(S.1.1, .inr (0, [.ref S.1.2.1, .int (nI S.2.1.length), .int S.1.2.2.1]))]) s.heap := (pc1 (hP 9 _ rfl) pc0)
    refine vp_callSi (va_Run.run (va_runV (As := []) (rest := [.int x]) ⟨hx, hb, hml, hown, hw⟩ (k_A_size l D T S.1.1 S.1.2.1 S.2.1.length S.1.2.2.1) (cwV 0 hw (bg_V ml_T_86 wi_A_size wv_A_size wz_A wc_A_size) rfl rfl rfl (by decide +kernel) ⟨Nat.le_of_ble_eq_true rfl, Nat.le_of_ble_eq_true rfl⟩) ⟨sP_b, va_recv hK hPc (ci := 0) (q0 := 0) rfl rfl, sP_p hPc hK⟩ rfl rfl hl.1 rfl (lv_room (Nat.le_of_ble_eq_true rfl)) d_T_nameNumbered_9 ⟨Nat.le_of_ble_eq_true rfl, Nat.le_of_ble_eq_true rfl⟩)) (fun r2 hr2 => ?_)
    replace hr2 := hr2.symm; subst hr2
    refine lv_icmp_lt (tgt := 25) hx hb d_T_nameNumbered_12 (by decide) (fun c3 => ?_) (fun c3 => ?_)
    · exact False.elim (ix_no hy0 c1 c3)
    · exact vx_throwS (rest := []) hx hb hl9 hown th_IO_f th_n (hw _ kl_T_184) (hw _ wz_IO) (hF.2.2.2.2 (233, "no such name") (by decide)) (th_IO_w hw hF) th_IO_g hF.2.1.2.2.2.2.2.2.1 hF.2.1.2.2.2.2.2.2.2 hS (hl.1.trans hml.symm) (d_T_nameNumbered_15) (d_T_nameNumbered_18) (d_T_nameNumbered_19) (d_T_nameNumbered_21) (d_T_nameNumbered_24) (fun x h9 => (htab x h9).elim) (Nat.le_of_ble_eq_true rfl) (Nat.le_of_ble_eq_true rfl) (Nat.le_of_ble_eq_true rfl) (Nat.le_of_ble_eq_true rfl) hlocks (fun t9 h8 h7 h6 => ⟨(), trivial, rfl, ⟨h7, fun q h1 _ => h6 q h1⟩⟩) (fun z h9 => absurd h9 List.not_mem_nil) (Nat.le_of_ble_eq_true rfl) (Nat.le_of_ble_eq_true rfl)

set_option maxHeartbeats 4000000 in
set_option maxRecDepth 100000 in
theorem k_T_spanNumbered (l : Launch) (D : va_G) (T : gT) (κ : gS) (A : Nat → Prop) (aa : Nat → Nat) (zw : Int32) (kp : Nat) (fp : Nat → Int32) (e0 e1 : Int32) (oF oT : Bool) (kt : Nat) (ft : Nat → Int32) (ks : Nat) (fs fc : Nat → Int32) (S : tS) (j : Nat) (q : spD) (hy0 : tOk κ S) (hy1 : S.2.2.2[j]? = some q) : Met l y_T_spanNumbered (Cond.code y_T_spanNumbered b_T_spanNumbered 2 (some (.object "TimeWords$Years")) :: bg_W) ({ frames := 3, cells := 0, slots := 0, locals := 64 }) (sPf κ A D T (cX T aa zw kp fp e0 e1 oF oT kt ft ks fs fc S ++ tl T S) [.ref (aa 0), .int (nI j)]) (va_Sq (fun r : Option Nat => r = some q.1)) 0 0 (fun _ => False) := by
  refine Met.ofW (cc := b_T_spanNumbered) (maxL := 2) (ret := (some (.object "TimeWords$Years"))) (by decide) rfl ?_
  intro p e s m args below meth c s₁ B hml hv
  obtain ⟨rfl, hP, hK, hF⟩ := hv
  have hx := B.exec
  have hb := B.bytes
  have hr := B.returns
  have hw : ∀ w ∈ bg_W, w.before ([.ref (aa 0), .int (nI j)] : List Value).toArray s = true := fun w h => atoms_spec (ws := (Cond.code y_T_spanNumbered b_T_spanNumbered 2 (some (.object "TimeWords$Years")) :: bg_W)) B.pre w (List.mem_cons_of_mem _ h)
  have hown : s.vm.findClass "TimeWords" = some m.cls := findClass_of_methodNamed B.named
  have hlocks := B.notSynchronized
  have hS : va_S A s.heap s.heap [] := va_S.rf
  have hl := lv_entry ([.ref (aa 0), .int (nI j)]) (n := 2) (Nat.le_of_ble_eq_true rfl)
  rw [lg_entry_eq]
  generalize (lg_sl ([.ref (aa 0), .int (nI j)]) ++ List.replicate (2 - (lg_sl ([.ref (aa 0), .int (nI j)])).length) Slot.unset).toArray = ls at hl ⊢
  have hl : lv_has ls 2 [(0, .ref (aa 0)), (1, .int (nI j))] := hl
  have hL1 : S.2.1.length ≤ 24 := hy0.2.2.2.1
  have hL2 : S.2.2.2.length ≤ 60 := hy0.2.2.2.2
  obtain ⟨hs1, hs2, hs3, hs4, hs5⟩ := sp_at hy0 hy1
  refine lv_iload_n hx hb d_T_spanNumbered_0 rfl (lv_at hl 1 rfl) ?_
  refine lv_if_lt (tgt := 15) hx hb d_T_spanNumbered_1 (by decide) (fun c1 => absurd c1 (nI_pos (by omega))) (fun c1 => ?_)
  refine lv_iload_n hx hb d_T_spanNumbered_4 rfl (lv_at hl 1 rfl) ?_
  refine lv_aload_n hx hb d_T_spanNumbered_5 rfl (lv_at hl 0 rfl) ?_
  refine va_get (D := D) (ci := 5) (v := .ref S.2.2.1.1) (C := "TimeWords") (T := F_T) (N := 8) hx hb hw in_T hown hK hP 0 rfl rfl 2 (by decide) (hw _ fl_T_25) (fun _ h9 => h9) rfl d_T_spanNumbered_6 ?_
  have hPc : va_P D gC ([(S.2.2.1.1, .inr (0, [.ref S.2.2.1.2.1, .int (nI S.2.2.2.length), .int S.2.2.1.2.2.1]))]) s.heap := (pc1 (hP 10 _ rfl) pc0)
  refine vp_callSi (va_Run.run (va_runV (As := []) (rest := [.int (nI j)]) ⟨hx, hb, hml, hown, hw⟩ (k_A_size l D T S.2.2.1.1 S.2.2.1.2.1 S.2.2.2.length S.2.2.1.2.2.1) (cwV 0 hw (bg_V ml_T_86 wi_A_size wv_A_size wz_A wc_A_size) rfl rfl rfl (by decide +kernel) ⟨Nat.le_of_ble_eq_true rfl, Nat.le_of_ble_eq_true rfl⟩) ⟨sP_b, va_recv hK hPc (ci := 0) (q0 := 0) rfl rfl, sP_p hPc hK⟩ rfl rfl hl.1 rfl (lv_room (Nat.le_of_ble_eq_true rfl)) d_T_spanNumbered_9 ⟨Nat.le_of_ble_eq_true rfl, Nat.le_of_ble_eq_true rfl⟩)) (fun r2 hr2 => ?_)
  replace hr2 := hr2.symm; subst hr2
  refine lv_icmp_lt (tgt := 25) hx hb d_T_spanNumbered_12 (by decide) (fun c3 => ?_) (fun c3 => absurd ((nI_lt hs4 (by omega))) c3)
  refine lv_aload_n hx hb d_T_spanNumbered_25 rfl (lv_at hl 0 rfl) ?_
  refine va_get (D := D) (ci := 5) (v := .ref S.2.2.1.1) (C := "TimeWords") (T := F_T) (N := 8) hx hb hw in_T hown hK hP 0 rfl rfl 2 (by decide) (hw _ fl_T_25) (fun _ h9 => h9) rfl d_T_spanNumbered_26 ?_
  refine lv_iload_n hx hb d_T_spanNumbered_29 rfl (lv_at hl 1 rfl) ?_
  have hPc : va_P D gC ([(S.2.2.1.1, .inr (0, [.ref S.2.2.1.2.1, .int (nI S.2.2.2.length), .int S.2.2.1.2.2.1])), (S.2.2.1.2.1, .inl (T.2.2.2, S.2.2.1.2.2.2.1, .inr (.inr (.inr (.inr S.2.2.1.2.2.2.2)))))]) s.heap := (pc1 (hP 10 _ rfl) (pc1 (hP.mem (List.mem_append_right _ (tl_sa (by omega)))) pc0))
  refine va_csq (va_Run.run (va_runV (As := [.int (nI j)]) (rest := []) ⟨hx, hb, hml, hown, hw⟩ (k_A_get l D T S.2.2.1.1 S.2.2.1.2.1 S.2.2.2.length S.2.2.1.2.2.1 S.2.2.1.2.2.2.1 S.2.2.1.2.2.2.2 j hs4 hs2 (by omega)) (cwV 1 hw (bg_V ml_T_192 wi_A_get wv_A_get wz_A wc_A_get) rfl rfl rfl (by decide +kernel) ⟨Nat.le_of_ble_eq_true rfl, Nat.le_of_ble_eq_true rfl⟩) ⟨sP_b, va_recv hK hPc (ci := 0) (q0 := 0) rfl rfl, sP_p hPc hK⟩ rfl rfl hl.1 rfl (lv_room (Nat.le_of_ble_eq_true rfl)) d_T_spanNumbered_30 ⟨Nat.le_of_ble_eq_true rfl, Nat.le_of_ble_eq_true rfl⟩)) (fun r4 hr4 => ?_)
  replace hr4 := hr4.symm; subst hr4
  rw [hs1]
  refine W.eq (g2 := F0 m 33 ls [.ref q.1]) rfl ?_
  refine va_castY (C := "TimeWords$Years") hx hb hown (hw _ kl_T_32) (hF.2.2.2.1 _ (by simp [sC])) (va_recv hK (pc1 (hP.mem (List.mem_append_right _ (tl_sp hs5))) pc0) (ci := 2) (q0 := 0) rfl rfl) d_T_spanNumbered_33 ?_
  exact W.aret (v := .ref q.1) hx hb hr (Or.inl ⟨_, rfl⟩) (Or.inr ⟨_, rfl⟩) (fun t ht hW => ⟨some q.1, rfl, rfl, ht⟩) (fun _ h => nomatch h) d_T_spanNumbered_36

set_option maxHeartbeats 4000000 in
set_option maxRecDepth 100000 in
theorem k_T_spanNumbered_x (l : Launch) (hl9 : l.stackTraces = false) (D : va_G) (T : gT) (κ : gS) (A : Nat → Prop) (aa : Nat → Nat) (zw : Int32) (kp : Nat) (fp : Nat → Int32) (e0 e1 : Int32) (oF oT : Bool) (kt : Nat) (ft : Nat → Int32) (ks : Nat) (fs fc : Nat → Int32) (S : tS) (sz : Nat) (x : Int32) (hy0 : j_ix x (nI S.2.2.2.length) = false) : vx_Met l y_T_spanNumbered (Cond.code y_T_spanNumbered b_T_spanNumbered 2 (some (.object "TimeWords$Years")) :: bg_W) ({ frames := 7, cells := 1, slots := 6, locals := 110 }) (xPf κ A D T (cX T aa zw kp fp e0 e1 oF oT kt ft ks fs fc S ++ tl T S) [.ref (aa 0), .int x] sz) xN (xE "java/lang/IndexOutOfBoundsException" sz) 1 6 (fun q => sz ≤ q) := by
  refine vx_ofW (cc := b_T_spanNumbered) (maxL := 2) (ret := (some (.object "TimeWords$Years"))) (by decide) rfl ?_
  intro p e s m args below meth c s₁ B hml htab hv
  obtain ⟨rfl, hsz, hP, hK, hF⟩ := hv
  have hx := B.exec
  have hb := B.bytes
  have hr := B.returns
  have hw : ∀ w ∈ bg_W, w.before ([.ref (aa 0), .int x] : List Value).toArray s = true := fun w h => atoms_spec (ws := (Cond.code y_T_spanNumbered b_T_spanNumbered 2 (some (.object "TimeWords$Years")) :: bg_W)) B.pre w (List.mem_cons_of_mem _ h)
  have hown : s.vm.findClass "TimeWords" = some m.cls := findClass_of_methodNamed B.named
  have hlocks := B.notSynchronized
  subst hsz
  have hS : va_S A s.heap s.heap [] := va_S.rf
  have hl := lv_entry ([.ref (aa 0), .int x]) (n := 2) (Nat.le_of_ble_eq_true rfl)
  rw [lg_entry_eq]
  generalize (lg_sl ([.ref (aa 0), .int x]) ++ List.replicate (2 - (lg_sl ([.ref (aa 0), .int x])).length) Slot.unset).toArray = ls at hl ⊢
  have hl : lv_has ls 2 [(0, .ref (aa 0)), (1, .int x)] := hl
  refine lv_iload_n hx hb d_T_spanNumbered_0 rfl (lv_at hl 1 rfl) ?_
  refine lv_if_lt (tgt := 15) hx hb d_T_spanNumbered_1 (by decide) (fun c1 => ?_) (fun c1 => ?_)
  · exact vx_throwS (rest := []) hx hb hl9 hown th_IO_f th_n (hw _ kl_T_184) (hw _ wz_IO) (hF.2.2.2.2 (235, "no such span") (by decide)) (th_IO_w hw hF) th_IO_g hF.2.1.2.2.2.2.2.2.1 hF.2.1.2.2.2.2.2.2.2 hS (hl.1.trans hml.symm) (d_T_spanNumbered_15) (d_T_spanNumbered_18) (d_T_spanNumbered_19) (d_T_spanNumbered_21) (d_T_spanNumbered_24) (fun x h9 => (htab x h9).elim) (Nat.le_of_ble_eq_true rfl) (Nat.le_of_ble_eq_true rfl) (Nat.le_of_ble_eq_true rfl) (Nat.le_of_ble_eq_true rfl) hlocks (fun t9 h8 h7 h6 => ⟨(), trivial, rfl, ⟨h7, fun q h1 _ => h6 q h1⟩⟩) (fun z h9 => absurd h9 List.not_mem_nil) (Nat.le_of_ble_eq_true rfl) (Nat.le_of_ble_eq_true rfl)
  · refine lv_iload_n hx hb d_T_spanNumbered_4 rfl (lv_at hl 1 rfl) ?_
    refine lv_aload_n hx hb d_T_spanNumbered_5 rfl (lv_at hl 0 rfl) ?_
    refine va_get (D := D) (ci := 5) (v := .ref S.2.2.1.1) (C := "TimeWords") (T := F_T) (N := 8) hx hb hw in_T hown hK hP 0 rfl rfl 2 (by decide) (hw _ fl_T_25) (fun _ h9 => h9) rfl d_T_spanNumbered_6 ?_
    have hPc : va_P D gC ([(S.2.2.1.1, .inr (0, [.ref S.2.2.1.2.1, .int (nI S.2.2.2.length), .int S.2.2.1.2.2.1]))]) s.heap := (pc1 (hP 10 _ rfl) pc0)
    refine vp_callSi (va_Run.run (va_runV (As := []) (rest := [.int x]) ⟨hx, hb, hml, hown, hw⟩ (k_A_size l D T S.2.2.1.1 S.2.2.1.2.1 S.2.2.2.length S.2.2.1.2.2.1) (cwV 0 hw (bg_V ml_T_86 wi_A_size wv_A_size wz_A wc_A_size) rfl rfl rfl (by decide +kernel) ⟨Nat.le_of_ble_eq_true rfl, Nat.le_of_ble_eq_true rfl⟩) ⟨sP_b, va_recv hK hPc (ci := 0) (q0 := 0) rfl rfl, sP_p hPc hK⟩ rfl rfl hl.1 rfl (lv_room (Nat.le_of_ble_eq_true rfl)) d_T_spanNumbered_9 ⟨Nat.le_of_ble_eq_true rfl, Nat.le_of_ble_eq_true rfl⟩)) (fun r2 hr2 => ?_)
    replace hr2 := hr2.symm; subst hr2
    refine lv_icmp_lt (tgt := 25) hx hb d_T_spanNumbered_12 (by decide) (fun c3 => ?_) (fun c3 => ?_)
    · exact False.elim (ix_no hy0 c1 c3)
    · exact vx_throwS (rest := []) hx hb hl9 hown th_IO_f th_n (hw _ kl_T_184) (hw _ wz_IO) (hF.2.2.2.2 (235, "no such span") (by decide)) (th_IO_w hw hF) th_IO_g hF.2.1.2.2.2.2.2.2.1 hF.2.1.2.2.2.2.2.2.2 hS (hl.1.trans hml.symm) (d_T_spanNumbered_15) (d_T_spanNumbered_18) (d_T_spanNumbered_19) (d_T_spanNumbered_21) (d_T_spanNumbered_24) (fun x h9 => (htab x h9).elim) (Nat.le_of_ble_eq_true rfl) (Nat.le_of_ble_eq_true rfl) (Nat.le_of_ble_eq_true rfl) (Nat.le_of_ble_eq_true rfl) hlocks (fun t9 h8 h7 h6 => ⟨(), trivial, rfl, ⟨h7, fun q h1 _ => h6 q h1⟩⟩) (fun z h9 => absurd h9 List.not_mem_nil) (Nat.le_of_ble_eq_true rfl) (Nat.le_of_ble_eq_true rfl)

set_option maxHeartbeats 4000000 in
set_option maxRecDepth 100000 in
theorem k_T_checkRoomForSpan (l : Launch) (D : va_G) (T : gT) (κ : gS) (A : Nat → Prop) (aa : Nat → Nat) (zw : Int32) (kp : Nat) (fp : Nat → Int32) (e0 e1 : Int32) (oF oT : Bool) (kt : Nat) (ft : Nat → Int32) (ks : Nat) (fs fc : Nat → Int32) (S : tS) (hy0 : S.2.2.2.length < 60) : Met l y_T_checkRoomForSpan (Cond.code y_T_checkRoomForSpan b_T_checkRoomForSpan 1 none :: bg_W) ({ frames := 1, cells := 0, slots := 0, locals := 20 }) (sPf κ A D T (cX T aa zw kp fp e0 e1 oF oT kt ft ks fs fc S ++ tl T S) [.ref (aa 0)]) (va_Sv (fun _ => True)) 0 0 (fun _ => False) := by
  refine Met.ofW (cc := b_T_checkRoomForSpan) (maxL := 1) (ret := none) (by decide) rfl ?_
  intro p e s m args below meth c s₁ B hml hv
  obtain ⟨rfl, hP, hK, hF⟩ := hv
  have hx := B.exec
  have hb := B.bytes
  have hr := B.returns
  have hw : ∀ w ∈ bg_W, w.before ([.ref (aa 0)] : List Value).toArray s = true := fun w h => atoms_spec (ws := (Cond.code y_T_checkRoomForSpan b_T_checkRoomForSpan 1 none :: bg_W)) B.pre w (List.mem_cons_of_mem _ h)
  have hown : s.vm.findClass "TimeWords" = some m.cls := findClass_of_methodNamed B.named
  have hlocks := B.notSynchronized
  have hS : va_S A s.heap s.heap [] := va_S.rf
  have hl := lv_entry ([.ref (aa 0)]) (n := 1) (Nat.le_of_ble_eq_true rfl)
  rw [lg_entry_eq]
  generalize (lg_sl ([.ref (aa 0)]) ++ List.replicate (1 - (lg_sl ([.ref (aa 0)])).length) Slot.unset).toArray = ls at hl ⊢
  have hl : lv_has ls 1 [(0, .ref (aa 0))] := hl
  refine lv_aload_n hx hb d_T_checkRoomForSpan_0 rfl (lv_at hl 0 rfl) ?_
  refine va_get (D := D) (ci := 5) (v := .ref S.2.2.1.1) (C := "TimeWords") (T := F_T) (N := 8) hx hb hw in_T hown hK hP 0 rfl rfl 2 (by decide) (hw _ fl_T_25) (fun _ h9 => h9) rfl d_T_checkRoomForSpan_1 ?_
  have hPc : va_P D gC ([(S.2.2.1.1, .inr (0, [.ref S.2.2.1.2.1, .int (nI S.2.2.2.length), .int S.2.2.1.2.2.1]))]) s.heap := (pc1 (hP 10 _ rfl) pc0)
  refine vp_callSi (va_Run.run (va_runV (As := []) (rest := []) ⟨hx, hb, hml, hown, hw⟩ (k_A_size l D T S.2.2.1.1 S.2.2.1.2.1 S.2.2.2.length S.2.2.1.2.2.1) (cwV 0 hw (bg_V ml_T_86 wi_A_size wv_A_size wz_A wc_A_size) rfl rfl rfl (by decide +kernel) ⟨Nat.le_of_ble_eq_true rfl, Nat.le_of_ble_eq_true rfl⟩) ⟨sP_b, va_recv hK hPc (ci := 0) (q0 := 0) rfl rfl, sP_p hPc hK⟩ rfl rfl hl.1 rfl (lv_room (Nat.le_of_ble_eq_true rfl)) d_T_checkRoomForSpan_4 ⟨Nat.le_of_ble_eq_true rfl, Nat.le_of_ble_eq_true rfl⟩)) (fun r1 hr1 => ?_)
  replace hr1 := hr1.symm; subst hr1
  refine lv_bipush (v := 60) hx hb d_T_checkRoomForSpan_7 (by decide) ?_
  refine lv_icmp_lt (tgt := 22) hx hb d_T_checkRoomForSpan_9 (by decide) (fun c2 => ?_) (fun c2 => absurd ((show nI S.2.2.2.length < nI 60 from nI_lt (by omega) (by decide))) c2)
  exact W.vret hx hb hr (fun t ht hW => ⟨rfl, trivial, ht⟩) (fun _ h => nomatch h) d_T_checkRoomForSpan_22

set_option maxHeartbeats 4000000 in
set_option maxRecDepth 100000 in
theorem k_T_checkRoomForSpan_x (l : Launch) (hl9 : l.stackTraces = false) (D : va_G) (T : gT) (κ : gS) (A : Nat → Prop) (aa : Nat → Nat) (zw : Int32) (kp : Nat) (fp : Nat → Int32) (e0 e1 : Int32) (oF oT : Bool) (kt : Nat) (ft : Nat → Int32) (ks : Nat) (fs fc : Nat → Int32) (S : tS) (sz : Nat) (hy0 : S.2.2.2.length = 60) : vx_Met l y_T_checkRoomForSpan (Cond.code y_T_checkRoomForSpan b_T_checkRoomForSpan 1 none :: bg_W) ({ frames := 7, cells := 1, slots := 6, locals := 110 }) (xPf κ A D T (cX T aa zw kp fp e0 e1 oF oT kt ft ks fs fc S ++ tl T S) [.ref (aa 0)] sz) xN (xE "java/lang/IllegalStateException" sz) 1 6 (fun q => sz ≤ q) := by
  refine vx_ofW (cc := b_T_checkRoomForSpan) (maxL := 1) (ret := none) (by decide) rfl ?_
  intro p e s m args below meth c s₁ B hml htab hv
  obtain ⟨rfl, hsz, hP, hK, hF⟩ := hv
  have hx := B.exec
  have hb := B.bytes
  have hr := B.returns
  have hw : ∀ w ∈ bg_W, w.before ([.ref (aa 0)] : List Value).toArray s = true := fun w h => atoms_spec (ws := (Cond.code y_T_checkRoomForSpan b_T_checkRoomForSpan 1 none :: bg_W)) B.pre w (List.mem_cons_of_mem _ h)
  have hown : s.vm.findClass "TimeWords" = some m.cls := findClass_of_methodNamed B.named
  have hlocks := B.notSynchronized
  subst hsz
  have hS : va_S A s.heap s.heap [] := va_S.rf
  have hl := lv_entry ([.ref (aa 0)]) (n := 1) (Nat.le_of_ble_eq_true rfl)
  rw [lg_entry_eq]
  generalize (lg_sl ([.ref (aa 0)]) ++ List.replicate (1 - (lg_sl ([.ref (aa 0)])).length) Slot.unset).toArray = ls at hl ⊢
  have hl : lv_has ls 1 [(0, .ref (aa 0))] := hl
  refine lv_aload_n hx hb d_T_checkRoomForSpan_0 rfl (lv_at hl 0 rfl) ?_
  refine va_get (D := D) (ci := 5) (v := .ref S.2.2.1.1) (C := "TimeWords") (T := F_T) (N := 8) hx hb hw in_T hown hK hP 0 rfl rfl 2 (by decide) (hw _ fl_T_25) (fun _ h9 => h9) rfl d_T_checkRoomForSpan_1 ?_
  have hPc : va_P D gC ([(S.2.2.1.1, .inr (0, [.ref S.2.2.1.2.1, .int (nI S.2.2.2.length), .int S.2.2.1.2.2.1]))]) s.heap := (pc1 (hP 10 _ rfl) pc0)
  refine vp_callSi (va_Run.run (va_runV (As := []) (rest := []) ⟨hx, hb, hml, hown, hw⟩ (k_A_size l D T S.2.2.1.1 S.2.2.1.2.1 S.2.2.2.length S.2.2.1.2.2.1) (cwV 0 hw (bg_V ml_T_86 wi_A_size wv_A_size wz_A wc_A_size) rfl rfl rfl (by decide +kernel) ⟨Nat.le_of_ble_eq_true rfl, Nat.le_of_ble_eq_true rfl⟩) ⟨sP_b, va_recv hK hPc (ci := 0) (q0 := 0) rfl rfl, sP_p hPc hK⟩ rfl rfl hl.1 rfl (lv_room (Nat.le_of_ble_eq_true rfl)) d_T_checkRoomForSpan_4 ⟨Nat.le_of_ble_eq_true rfl, Nat.le_of_ble_eq_true rfl⟩)) (fun r1 hr1 => ?_)
  replace hr1 := hr1.symm; subst hr1
  refine lv_bipush (v := 60) hx hb d_T_checkRoomForSpan_7 (by decide) ?_
  refine lv_icmp_lt (tgt := 22) hx hb d_T_checkRoomForSpan_9 (by decide) (fun c2 => absurd c2 ((show ¬ nI S.2.2.2.length < nI 60 from nI_nlt (by omega) (by omega)))) (fun c2 => ?_)
  exact vx_throwS (rest := []) hx hb hl9 hown th_IS_f th_n (hw _ kl_T_65) (hw _ wz_IS) (hF.2.2.2.2 (237, "no room for another span") (by decide)) (th_IS_w hw hF) th_IS_g hF.2.1.2.2.2.2.2.2.1 hF.2.1.2.2.2.2.2.2.2 hS (hl.1.trans hml.symm) (d_T_checkRoomForSpan_12) (d_T_checkRoomForSpan_15) (d_T_checkRoomForSpan_16) (d_T_checkRoomForSpan_18) (d_T_checkRoomForSpan_21) (fun x h9 => (htab x h9).elim) (Nat.le_of_ble_eq_true rfl) (Nat.le_of_ble_eq_true rfl) (Nat.le_of_ble_eq_true rfl) (Nat.le_of_ble_eq_true rfl) hlocks (fun t9 h8 h7 h6 => ⟨(), trivial, rfl, ⟨h7, fun q h1 _ => h6 q h1⟩⟩) (fun z h9 => absurd h9 List.not_mem_nil) (Nat.le_of_ble_eq_true rfl) (Nat.le_of_ble_eq_true rfl)

set_option maxHeartbeats 4000000 in
set_option maxRecDepth 100000 in
theorem k_T_unit (l : Launch) (D : va_G) (T : gT) (κ : gS) (aa : Nat → Nat) (zw : Int32) (kp : Nat) (fp : Nat → Int32) (e0 e1 : Int32) (oF oT : Bool) (kt : Nat) (ft : Nat → Int32) (ks : Nat) (fs fc : Nat → Int32) (S : tS) (sz : Nat) (x : Int32) (hy0 : j_sg x = true) (hy1 : kp < 24) : Met l y_T_unit (Cond.code y_T_unit b_T_unit 2 (some .int) :: bg_W) ({ frames := 2, cells := 0, slots := 0, locals := 40 }) (qPf κ D T (cX T aa zw kp fp e0 e1 oF oT kt ft ks fs fc S ++ tl T S) [.ref (aa 0), .int x] sz) (va_Qi (fun (r : Int32) (u : Nat × (Nat → Int32)) => match u with | (kp1, fp1) => r = nI (kp + 1) ∧ kp1 = kp + 1 ∧ fp1 = upd fp kp x) (qB D T (va_A (cX T aa zw kp fp e0 e1 oF oT kt ft ks fs fc S ++ tl T S) sz) (fun u : Nat × (Nat → Int32) => match u with | (kp1, fp1) => cX T aa zw kp1 fp1 e0 e1 oF oT kt ft ks fs fc S ++ tl T S)) (va_A (cX T aa zw kp fp e0 e1 oF oT kt ft ks fs fc S ++ tl T S) sz)) 0 0 (va_A (cX T aa zw kp fp e0 e1 oF oT kt ft ks fs fc S ++ tl T S) sz) := by
  refine Met.ofW (cc := b_T_unit) (maxL := 2) (ret := (some .int)) (by decide) rfl ?_
  intro p e s m args below meth c s₁ B hml hv
  obtain ⟨rfl, hsz, hP, hK, hD0, hF⟩ := hv
  have hx := B.exec
  have hb := B.bytes
  have hr := B.returns
  have hw : ∀ w ∈ bg_W, w.before ([.ref (aa 0), .int x] : List Value).toArray s = true := fun w h => atoms_spec (ws := (Cond.code y_T_unit b_T_unit 2 (some .int) :: bg_W)) B.pre w (List.mem_cons_of_mem _ h)
  have hown : s.vm.findClass "TimeWords" = some m.cls := findClass_of_methodNamed B.named
  have hlocks := B.notSynchronized
  subst hsz
  have hD := hD0.self (sz := s.heap.size)
  generalize hAe : va_A (cX T aa zw kp fp e0 e1 oF oT kt ft ks fs fc S ++ tl T S) s.heap.size = A at hD hF ⊢
  have hA : ∀ q : Nat, s.heap.size ≤ q → A q := fun q h => by rw [← hAe]; exact Or.inr h
  have hS : va_S A s.heap s.heap [] := va_S.rf
  have hl := lv_entry ([.ref (aa 0), .int x]) (n := 2) (Nat.le_of_ble_eq_true rfl)
  rw [lg_entry_eq]
  generalize (lg_sl ([.ref (aa 0), .int x]) ++ List.replicate (2 - (lg_sl ([.ref (aa 0), .int x])).length) Slot.unset).toArray = ls at hl ⊢
  have hl : lv_has ls 2 [(0, .ref (aa 0)), (1, .int x)] := hl
  refine lv_iload_n hx hb d_T_unit_0 rfl (lv_at hl 1 rfl) ?_
  refine vp_callSi (va_Run.run (va_runS (As := [.int x]) (rest := []) ⟨hx, hb, hml, hown, hw⟩ (k_T_isSign l x) (va_cwS 1 hw (bg_S ml_T_51 wt_T_isSign wz_T wc_T_isSign) rfl rfl rfl (by decide +kernel) ⟨Nat.le_of_ble_eq_true rfl, Nat.le_of_ble_eq_true rfl⟩) ⟨nP_b, nP_p⟩ rfl rfl hl.1 rfl (lv_room (Nat.le_of_ble_eq_true rfl)) d_T_unit_1 ⟨Nat.le_of_ble_eq_true rfl, Nat.le_of_ble_eq_true rfl⟩)) (fun r1 hr1 => ?_)
  replace hr1 := hr1.symm; subst hr1
  refine lv_if_ne (tgt := 17) hx hb d_T_unit_4 (by decide) (fun c2 => ?_) (fun c2 => absurd c2 ((by rw [hy0]; decide)))
  refine lv_aload_n hx hb d_T_unit_17 rfl (lv_at hl 0 rfl) ?_
  refine va_get (D := D) (ci := 5) (v := .ref (aa 1)) (C := "TimeWords") (T := F_T) (N := 8) hx hb hw in_T hown hK hP 0 rfl rfl 0 (by decide) (hw _ fl_T_14) (fun _ h9 => h9) rfl d_T_unit_18 ?_
  refine va_get (D := D) (ci := 1) (v := .int (nI kp)) (C := "TimeWords$Row") (T := F_R) (N := 2) hx hb hw in_R hown hK hP 1 rfl rfl 1 (by decide) (hw _ fl_T_62) (fun _ h9 => h9) rfl d_T_unit_21 ?_
  refine lv_bipush (v := 24) hx hb d_T_unit_24 (by decide) ?_
  refine lv_icmp_lt (tgt := 39) hx hb d_T_unit_26 (by decide) (fun c3 => ?_) (fun c3 => absurd ((show nI kp < nI 24 from nI_lt (by omega) (by decide))) c3)
  refine lv_aload_n hx hb d_T_unit_39 rfl (lv_at hl 0 rfl) ?_
  refine va_get (D := D) (ci := 5) (v := .ref (aa 1)) (C := "TimeWords") (T := F_T) (N := 8) hx hb hw in_T hown hK hP 0 rfl rfl 0 (by decide) (hw _ fl_T_14) (fun _ h9 => h9) rfl d_T_unit_40 ?_
  refine lv_iload_n hx hb d_T_unit_43 rfl (lv_at hl 1 rfl) ?_
  have hPc : va_P D gC ([(aa 1, .inr (1, [.ref (aa 2), .int (nI kp)])), (aa 2, .inl (T.1, 24, .inl fp))]) s.heap := (pc1 (hP 1 _ rfl) (pc1 (hP 2 _ rfl) pc0))
  have hDc : va_D A ([(aa 1, .inr (1, [.ref (aa 2), .int (nI kp)])), (aa 2, .inl (T.1, 24, .inl fp))]) := by have h9 := hD.part (cx := [(aa 1, .inr (1, [.ref (aa 2), .int (nI kp)])), (aa 2, .inl (T.1, 24, .inl fp))]) [1, 2] (by decide) rfl; exact dl_l h9
  refine g_subv (X := cX T aa zw kp fp e0 e1 oF oT kt ft ks fs fc S) (pl := tl T S) (wr := [(aa 0, .inr (5, [.ref (aa 1), .ref S.1.1, .ref S.2.2.1.1, .int zw, .ref (aa 3), .ref (aa 4), .ref (aa 6), .ref (aa 8)])), (aa 3, .inr (2, [.int e0, .int e1, .int (b2i oF), .int (b2i oT)])), (aa 4, .inr (1, [.ref (aa 5), .int (nI kt)])), (aa 5, .inl (T.1, 24, .inl ft)), (aa 6, .inr (1, [.ref (aa 7), .int (nI ks)])), (aa 7, .inl (T.1, 24, .inl fs)), (aa 8, .inl (T.1, 9, .inl fc)), (S.1.1, .inr (0, [.ref S.1.2.1, .int (nI S.2.1.length), .int S.1.2.2.1])), (S.2.2.1.1, .inr (0, [.ref S.2.2.1.2.1, .int (nI S.2.2.2.length), .int S.2.2.1.2.2.1]))]) (cx := [(aa 1, .inr (1, [.ref (aa 2), .int (nI kp)])), (aa 2, .inl (T.1, 24, .inl fp))]) (va_runV (As := [.int x]) (rest := []) ⟨hx, hb, hml, hown, hw⟩ (k_R_add l D T (aa 1) (aa 2) kp 24 fp s.heap.size x hy1 (by decide)) (cwV 1 hw (bg_V ml_T_70 wi_R_add wv_R_add wz_R wc_R_add) rfl rfl rfl (by decide +kernel) ⟨Nat.le_of_ble_eq_true rfl, Nat.le_of_ble_eq_true rfl⟩) ⟨qP_b, va_recv hK hPc (ci := 1) (q0 := 0) rfl rfl, qP_p hPc hK hDc⟩ rfl rfl hl.1 rfl (lv_room (Nat.le_of_ble_eq_true rfl)) d_T_unit_44 ⟨Nat.le_of_ble_eq_true rfl, Nat.le_of_ble_eq_true rfl⟩) hP hD hS hA [1, 2] [0, 3, 4, 5, 6, 7, 8, 9, 10] rfl rfl (by decide) (by decide) (fun u9 H locs hr4 hP hD hS => ?_)
  obtain ⟨u5, u6⟩ := u9
  dsimp only at hr4 hP hD
  obtain ⟨q0, q1⟩ := hr4
  replace q0 := q0.symm; subst q0; replace q1 := q1.symm; subst q1
  have hP : va_P D gC (cX T aa zw (kp + 1) (upd fp kp x) e0 e1 oF oT kt ft ks fs fc S ++ tl T S) H := hP.part (cx := cX T aa zw (kp + 1) (upd fp kp x) e0 e1 oF oT kt ft ks fs fc S) [0, 9, 10, 1, 2, 3, 4, 5, 6, 7, 8] rfl
  have hD : va_D A (cX T aa zw (kp + 1) (upd fp kp x) e0 e1 oF oT kt ft ks fs fc S ++ tl T S) := hD.part (cx := cX T aa zw (kp + 1) (upd fp kp x) e0 e1 oF oT kt ft ks fs fc S) [0, 9, 10, 1, 2, 3, 4, 5, 6, 7, 8] (by decide) rfl
  refine lv_aload_n hx hb d_T_unit_47 rfl (lv_at hl 0 rfl) ?_
  refine va_get (D := D) (ci := 5) (v := .ref (aa 1)) (C := "TimeWords") (T := F_T) (N := 8) hx hb hw in_T hown hK hP 0 rfl rfl 0 (by decide) (hw _ fl_T_14) (fun _ h9 => h9) rfl d_T_unit_48 ?_
  refine va_get (D := D) (ci := 1) (v := .int (nI (kp + 1))) (C := "TimeWords$Row") (T := F_R) (N := 2) hx hb hw in_R hown hK hP 1 rfl rfl 1 (by decide) (hw _ fl_T_62) (fun _ h9 => h9) rfl d_T_unit_51 ?_
  exact W.iret (v := nI (kp + 1)) hx hb hr (fun t ht hW => ⟨⟨nI (kp + 1), (kp + 1, upd fp kp x), rfl, ⟨rfl, rfl, rfl⟩, by rw [ht]; exact hP, va_K.moved hW.alike hK, hD⟩, hS.F ht⟩) hS.2.2 d_T_unit_54

set_option maxHeartbeats 4000000 in
set_option maxRecDepth 100000 in
theorem k_T_unit_x (l : Launch) (hl9 : l.stackTraces = false) (D : va_G) (T : gT) (κ : gS) (A : Nat → Prop) (aa : Nat → Nat) (zw : Int32) (kp : Nat) (fp : Nat → Int32) (e0 e1 : Int32) (oF oT : Bool) (kt : Nat) (ft : Nat → Int32) (ks : Nat) (fs fc : Nat → Int32) (S : tS) (sz : Nat) (x : Int32) (hy0 : j_sg x = false) : vx_Met l y_T_unit (Cond.code y_T_unit b_T_unit 2 (some .int) :: bg_W) ({ frames := 7, cells := 1, slots := 6, locals := 110 }) (xPf κ A D T (cX T aa zw kp fp e0 e1 oF oT kt ft ks fs fc S ++ tl T S) [.ref (aa 0), .int x] sz) xN (xE "java/lang/IllegalArgumentException" sz) 1 6 (fun q => sz ≤ q) := by
  refine vx_ofW (cc := b_T_unit) (maxL := 2) (ret := (some .int)) (by decide) rfl ?_
  intro p e s m args below meth c s₁ B hml htab hv
  obtain ⟨rfl, hsz, hP, hK, hF⟩ := hv
  have hx := B.exec
  have hb := B.bytes
  have hr := B.returns
  have hw : ∀ w ∈ bg_W, w.before ([.ref (aa 0), .int x] : List Value).toArray s = true := fun w h => atoms_spec (ws := (Cond.code y_T_unit b_T_unit 2 (some .int) :: bg_W)) B.pre w (List.mem_cons_of_mem _ h)
  have hown : s.vm.findClass "TimeWords" = some m.cls := findClass_of_methodNamed B.named
  have hlocks := B.notSynchronized
  subst hsz
  have hS : va_S A s.heap s.heap [] := va_S.rf
  have hl := lv_entry ([.ref (aa 0), .int x]) (n := 2) (Nat.le_of_ble_eq_true rfl)
  rw [lg_entry_eq]
  generalize (lg_sl ([.ref (aa 0), .int x]) ++ List.replicate (2 - (lg_sl ([.ref (aa 0), .int x])).length) Slot.unset).toArray = ls at hl ⊢
  have hl : lv_has ls 2 [(0, .ref (aa 0)), (1, .int x)] := hl
  refine lv_iload_n hx hb d_T_unit_0 rfl (lv_at hl 1 rfl) ?_
  refine vp_callSi (va_Run.run (va_runS (As := [.int x]) (rest := []) ⟨hx, hb, hml, hown, hw⟩ (k_T_isSign l x) (va_cwS 1 hw (bg_S ml_T_51 wt_T_isSign wz_T wc_T_isSign) rfl rfl rfl (by decide +kernel) ⟨Nat.le_of_ble_eq_true rfl, Nat.le_of_ble_eq_true rfl⟩) ⟨nP_b, nP_p⟩ rfl rfl hl.1 rfl (lv_room (Nat.le_of_ble_eq_true rfl)) d_T_unit_1 ⟨Nat.le_of_ble_eq_true rfl, Nat.le_of_ble_eq_true rfl⟩)) (fun r1 hr1 => ?_)
  replace hr1 := hr1.symm; subst hr1
  refine lv_if_ne (tgt := 17) hx hb d_T_unit_4 (by decide) (fun c2 => absurd c2 ((by rw [hy0]; decide))) (fun c2 => ?_)
  exact vx_throwS (rest := []) hx hb hl9 hown th_IA_f th_n (hw _ kl_T_55) (hw _ wz_IA) (hF.2.2.2.2 (57, "no sign") (by decide)) (th_IA_w hw hF) th_IA_g hF.2.1.2.2.2.2.2.2.1 hF.2.1.2.2.2.2.2.2.2 hS (hl.1.trans hml.symm) (d_T_unit_7) (d_T_unit_10) (d_T_unit_11) (d_T_unit_13) (d_T_unit_16) (fun x h9 => (htab x h9).elim) (Nat.le_of_ble_eq_true rfl) (Nat.le_of_ble_eq_true rfl) (Nat.le_of_ble_eq_true rfl) (Nat.le_of_ble_eq_true rfl) hlocks (fun t9 h8 h7 h6 => ⟨(), trivial, rfl, ⟨h7, fun q h1 _ => h6 q h1⟩⟩) (fun z h9 => absurd h9 List.not_mem_nil) (Nat.le_of_ble_eq_true rfl) (Nat.le_of_ble_eq_true rfl)

set_option maxHeartbeats 4000000 in
set_option maxRecDepth 100000 in
theorem k_T_unit_y (l : Launch) (hl9 : l.stackTraces = false) (D : va_G) (T : gT) (κ : gS) (A : Nat → Prop) (aa : Nat → Nat) (zw : Int32) (kp : Nat) (fp : Nat → Int32) (e0 e1 : Int32) (oF oT : Bool) (kt : Nat) (ft : Nat → Int32) (ks : Nat) (fs fc : Nat → Int32) (S : tS) (sz : Nat) (x : Int32) (hy0 : j_sg x = true) (hy1 : kp = 24) : vx_Met l y_T_unit (Cond.code y_T_unit b_T_unit 2 (some .int) :: bg_W) ({ frames := 7, cells := 1, slots := 6, locals := 110 }) (xPf κ A D T (cX T aa zw kp fp e0 e1 oF oT kt ft ks fs fc S ++ tl T S) [.ref (aa 0), .int x] sz) xN (xE "java/lang/IllegalStateException" sz) 1 6 (fun q => sz ≤ q) := by
  refine vx_ofW (cc := b_T_unit) (maxL := 2) (ret := (some .int)) (by decide) rfl ?_
  intro p e s m args below meth c s₁ B hml htab hv
  obtain ⟨rfl, hsz, hP, hK, hF⟩ := hv
  have hx := B.exec
  have hb := B.bytes
  have hr := B.returns
  have hw : ∀ w ∈ bg_W, w.before ([.ref (aa 0), .int x] : List Value).toArray s = true := fun w h => atoms_spec (ws := (Cond.code y_T_unit b_T_unit 2 (some .int) :: bg_W)) B.pre w (List.mem_cons_of_mem _ h)
  have hown : s.vm.findClass "TimeWords" = some m.cls := findClass_of_methodNamed B.named
  have hlocks := B.notSynchronized
  subst hsz
  have hS : va_S A s.heap s.heap [] := va_S.rf
  have hl := lv_entry ([.ref (aa 0), .int x]) (n := 2) (Nat.le_of_ble_eq_true rfl)
  rw [lg_entry_eq]
  generalize (lg_sl ([.ref (aa 0), .int x]) ++ List.replicate (2 - (lg_sl ([.ref (aa 0), .int x])).length) Slot.unset).toArray = ls at hl ⊢
  have hl : lv_has ls 2 [(0, .ref (aa 0)), (1, .int x)] := hl
  refine lv_iload_n hx hb d_T_unit_0 rfl (lv_at hl 1 rfl) ?_
  refine vp_callSi (va_Run.run (va_runS (As := [.int x]) (rest := []) ⟨hx, hb, hml, hown, hw⟩ (k_T_isSign l x) (va_cwS 1 hw (bg_S ml_T_51 wt_T_isSign wz_T wc_T_isSign) rfl rfl rfl (by decide +kernel) ⟨Nat.le_of_ble_eq_true rfl, Nat.le_of_ble_eq_true rfl⟩) ⟨nP_b, nP_p⟩ rfl rfl hl.1 rfl (lv_room (Nat.le_of_ble_eq_true rfl)) d_T_unit_1 ⟨Nat.le_of_ble_eq_true rfl, Nat.le_of_ble_eq_true rfl⟩)) (fun r1 hr1 => ?_)
  replace hr1 := hr1.symm; subst hr1
  refine lv_if_ne (tgt := 17) hx hb d_T_unit_4 (by decide) (fun c2 => ?_) (fun c2 => absurd c2 ((by rw [hy0]; decide)))
  refine lv_aload_n hx hb d_T_unit_17 rfl (lv_at hl 0 rfl) ?_
  refine va_get (D := D) (ci := 5) (v := .ref (aa 1)) (C := "TimeWords") (T := F_T) (N := 8) hx hb hw in_T hown hK hP 0 rfl rfl 0 (by decide) (hw _ fl_T_14) (fun _ h9 => h9) rfl d_T_unit_18 ?_
  refine va_get (D := D) (ci := 1) (v := .int (nI kp)) (C := "TimeWords$Row") (T := F_R) (N := 2) hx hb hw in_R hown hK hP 1 rfl rfl 1 (by decide) (hw _ fl_T_62) (fun _ h9 => h9) rfl d_T_unit_21 ?_
  refine lv_bipush (v := 24) hx hb d_T_unit_24 (by decide) ?_
  refine lv_icmp_lt (tgt := 39) hx hb d_T_unit_26 (by decide) (fun c3 => absurd c3 ((show ¬ nI kp < nI 24 from nI_nlt (by omega) (by omega)))) (fun c3 => ?_)
  exact vx_throwS (rest := []) hx hb hl9 hown th_IS_f th_n (hw _ kl_T_65) (hw _ wz_IS) (hF.2.2.2.2 (67, "the pad is full") (by decide)) (th_IS_w hw hF) th_IS_g hF.2.1.2.2.2.2.2.2.1 hF.2.1.2.2.2.2.2.2.2 hS (hl.1.trans hml.symm) (d_T_unit_29) (d_T_unit_32) (d_T_unit_33) (d_T_unit_35) (d_T_unit_38) (fun x h9 => (htab x h9).elim) (Nat.le_of_ble_eq_true rfl) (Nat.le_of_ble_eq_true rfl) (Nat.le_of_ble_eq_true rfl) (Nat.le_of_ble_eq_true rfl) hlocks (fun t9 h8 h7 h6 => ⟨(), trivial, rfl, ⟨h7, fun q h1 _ => h6 q h1⟩⟩) (fun z h9 => absurd h9 List.not_mem_nil) (Nat.le_of_ble_eq_true rfl) (Nat.le_of_ble_eq_true rfl)

set_option maxHeartbeats 4000000 in
set_option maxRecDepth 100000 in
theorem k_T_clear (l : Launch) (D : va_G) (T : gT) (κ : gS) (aa : Nat → Nat) (zw : Int32) (kp : Nat) (fp : Nat → Int32) (e0 e1 : Int32) (oF oT : Bool) (kt : Nat) (ft : Nat → Int32) (ks : Nat) (fs fc : Nat → Int32) (S : tS) (sz : Nat) : Met l y_T_clear (Cond.code y_T_clear b_T_clear 2 (some .int) :: bg_W) ({ frames := 1, cells := 0, slots := 0, locals := 20 }) (qPf κ D T (cX T aa zw kp fp e0 e1 oF oT kt ft ks fs fc S ++ tl T S) [.ref (aa 0)] sz) (va_Qi (fun (r : Int32) (kp1 : Nat) => r = nI kp ∧ kp1 = 0) (qB D T (va_A (cX T aa zw kp fp e0 e1 oF oT kt ft ks fs fc S ++ tl T S) sz) (fun kp1 : Nat => cX T aa zw kp1 fp e0 e1 oF oT kt ft ks fs fc S ++ tl T S)) (va_A (cX T aa zw kp fp e0 e1 oF oT kt ft ks fs fc S ++ tl T S) sz)) 0 0 (va_A (cX T aa zw kp fp e0 e1 oF oT kt ft ks fs fc S ++ tl T S) sz) := by
  refine Met.ofW (cc := b_T_clear) (maxL := 2) (ret := (some .int)) (by decide) rfl ?_
  intro p e s m args below meth c s₁ B hml hv
  obtain ⟨rfl, hsz, hP, hK, hD0, hF⟩ := hv
  have hx := B.exec
  have hb := B.bytes
  have hr := B.returns
  have hw : ∀ w ∈ bg_W, w.before ([.ref (aa 0)] : List Value).toArray s = true := fun w h => atoms_spec (ws := (Cond.code y_T_clear b_T_clear 2 (some .int) :: bg_W)) B.pre w (List.mem_cons_of_mem _ h)
  have hown : s.vm.findClass "TimeWords" = some m.cls := findClass_of_methodNamed B.named
  have hlocks := B.notSynchronized
  subst hsz
  have hD := hD0.self (sz := s.heap.size)
  generalize hAe : va_A (cX T aa zw kp fp e0 e1 oF oT kt ft ks fs fc S ++ tl T S) s.heap.size = A at hD hF ⊢
  have hA : ∀ q : Nat, s.heap.size ≤ q → A q := fun q h => by rw [← hAe]; exact Or.inr h
  have hS : va_S A s.heap s.heap [] := va_S.rf
  have hl := lv_entry ([.ref (aa 0)]) (n := 2) (Nat.le_of_ble_eq_true rfl)
  rw [lg_entry_eq]
  generalize (lg_sl ([.ref (aa 0)]) ++ List.replicate (2 - (lg_sl ([.ref (aa 0)])).length) Slot.unset).toArray = ls at hl ⊢
  have hl : lv_has ls 2 [(0, .ref (aa 0))] := hl
  refine lv_aload_n hx hb d_T_clear_0 rfl (lv_at hl 0 rfl) ?_
  refine va_get (D := D) (ci := 5) (v := .ref (aa 1)) (C := "TimeWords") (T := F_T) (N := 8) hx hb hw in_T hown hK hP 0 rfl rfl 0 (by decide) (hw _ fl_T_14) (fun _ h9 => h9) rfl d_T_clear_1 ?_
  refine va_get (D := D) (ci := 1) (v := .int (nI kp)) (C := "TimeWords$Row") (T := F_R) (N := 2) hx hb hw in_R hown hK hP 1 rfl rfl 1 (by decide) (hw _ fl_T_62) (fun _ h9 => h9) rfl d_T_clear_4 ?_
  refine lv_istore_n (lv' := [(1, .int (nI kp)), (0, .ref (aa 0))]) hx hb d_T_clear_7 rfl hl (by decide) rfl (fun ls hl => ?_)
  refine lv_aload_n hx hb d_T_clear_8 rfl (lv_at hl 1 rfl) ?_
  refine va_get (D := D) (ci := 5) (v := .ref (aa 1)) (C := "TimeWords") (T := F_T) (N := 8) hx hb hw in_T hown hK hP 0 rfl rfl 0 (by decide) (hw _ fl_T_14) (fun _ h9 => h9) rfl d_T_clear_9 ?_
  have hPc : va_P D gC ([(aa 1, .inr (1, [.ref (aa 2), .int (nI kp)])), (aa 2, .inl (T.1, 24, .inl fp))]) s.heap := (pc1 (hP 1 _ rfl) (pc1 (hP 2 _ rfl) pc0))
  have hDc : va_D A ([(aa 1, .inr (1, [.ref (aa 2), .int (nI kp)])), (aa 2, .inl (T.1, 24, .inl fp))]) := by have h9 := hD.part (cx := [(aa 1, .inr (1, [.ref (aa 2), .int (nI kp)])), (aa 2, .inl (T.1, 24, .inl fp))]) [1, 2] (by decide) rfl; exact dl_l h9
  refine g_subv (X := cX T aa zw kp fp e0 e1 oF oT kt ft ks fs fc S) (pl := tl T S) (wr := [(aa 0, .inr (5, [.ref (aa 1), .ref S.1.1, .ref S.2.2.1.1, .int zw, .ref (aa 3), .ref (aa 4), .ref (aa 6), .ref (aa 8)])), (aa 3, .inr (2, [.int e0, .int e1, .int (b2i oF), .int (b2i oT)])), (aa 4, .inr (1, [.ref (aa 5), .int (nI kt)])), (aa 5, .inl (T.1, 24, .inl ft)), (aa 6, .inr (1, [.ref (aa 7), .int (nI ks)])), (aa 7, .inl (T.1, 24, .inl fs)), (aa 8, .inl (T.1, 9, .inl fc)), (S.1.1, .inr (0, [.ref S.1.2.1, .int (nI S.2.1.length), .int S.1.2.2.1])), (S.2.2.1.1, .inr (0, [.ref S.2.2.1.2.1, .int (nI S.2.2.2.length), .int S.2.2.1.2.2.1]))]) (cx := [(aa 1, .inr (1, [.ref (aa 2), .int (nI kp)])), (aa 2, .inl (T.1, 24, .inl fp))]) (va_runV (As := []) (rest := []) ⟨hx, hb, hml, hown, hw⟩ (k_R_empty l D T (aa 1) (aa 2) kp 24 fp s.heap.size) (cwV 0 hw (bg_V ml_T_73 wi_R_empty wv_R_empty wz_R wc_R_empty) rfl rfl rfl (by decide +kernel) ⟨Nat.le_of_ble_eq_true rfl, Nat.le_of_ble_eq_true rfl⟩) ⟨qP_b, va_recv hK hPc (ci := 1) (q0 := 0) rfl rfl, qP_p hPc hK hDc⟩ rfl rfl hl.1 rfl (lv_room (Nat.le_of_ble_eq_true rfl)) d_T_clear_12 ⟨Nat.le_of_ble_eq_true rfl, Nat.le_of_ble_eq_true rfl⟩) hP hD hS hA [1, 2] [0, 3, 4, 5, 6, 7, 8, 9, 10] rfl rfl (by decide) (by decide) (fun u2 H locs hr1 hP hD hS => ?_)
  have q0 := hr1
  replace q0 := q0.symm; subst q0
  have hP : va_P D gC (cX T aa zw 0 fp e0 e1 oF oT kt ft ks fs fc S ++ tl T S) H := hP.part (cx := cX T aa zw 0 fp e0 e1 oF oT kt ft ks fs fc S) [0, 9, 10, 1, 2, 3, 4, 5, 6, 7, 8] rfl
  have hD : va_D A (cX T aa zw 0 fp e0 e1 oF oT kt ft ks fs fc S ++ tl T S) := hD.part (cx := cX T aa zw 0 fp e0 e1 oF oT kt ft ks fs fc S) [0, 9, 10, 1, 2, 3, 4, 5, 6, 7, 8] (by decide) rfl
  refine lv_iload_n hx hb d_T_clear_15 rfl (lv_at hl 0 rfl) ?_
  exact W.iret (v := nI kp) hx hb hr (fun t ht hW => ⟨⟨nI kp, 0, rfl, ⟨rfl, rfl⟩, by rw [ht]; exact hP, va_K.moved hW.alike hK, hD⟩, hS.F ht⟩) hS.2.2 d_T_clear_16

set_option maxHeartbeats 4000000 in
set_option maxRecDepth 100000 in
theorem k_T_width (l : Launch) (D : va_G) (T : gT) (κ : gS) (aa : Nat → Nat) (zw : Int32) (kp : Nat) (fp : Nat → Int32) (e0 e1 : Int32) (oF oT : Bool) (kt : Nat) (ft : Nat → Int32) (ks : Nat) (fs fc : Nat → Int32) (S : tS) (sz : Nat) (x : Int32) (hy0 : j_in x 0 1000 = true) : Met l y_T_width (Cond.code y_T_width b_T_width 3 (some .int) :: bg_W) ({ frames := 0, cells := 0, slots := 0, locals := 0 }) (qPf κ D T (cX T aa zw kp fp e0 e1 oF oT kt ft ks fs fc S ++ tl T S) [.ref (aa 0), .int x] sz) (va_Qi (fun (r : Int32) (w3 : Int32) => r = zw ∧ w3 = x) (qB D T (va_A (cX T aa zw kp fp e0 e1 oF oT kt ft ks fs fc S ++ tl T S) sz) (fun w3 : Int32 => cX T aa w3 kp fp e0 e1 oF oT kt ft ks fs fc S ++ tl T S)) (va_A (cX T aa zw kp fp e0 e1 oF oT kt ft ks fs fc S ++ tl T S) sz)) 0 0 (va_A (cX T aa zw kp fp e0 e1 oF oT kt ft ks fs fc S ++ tl T S) sz) := by
  refine Met.ofW (cc := b_T_width) (maxL := 3) (ret := (some .int)) (by decide) rfl ?_
  intro p e s m args below meth c s₁ B hml hv
  obtain ⟨rfl, hsz, hP, hK, hD0, hF⟩ := hv
  have hx := B.exec
  have hb := B.bytes
  have hr := B.returns
  have hw : ∀ w ∈ bg_W, w.before ([.ref (aa 0), .int x] : List Value).toArray s = true := fun w h => atoms_spec (ws := (Cond.code y_T_width b_T_width 3 (some .int) :: bg_W)) B.pre w (List.mem_cons_of_mem _ h)
  have hown : s.vm.findClass "TimeWords" = some m.cls := findClass_of_methodNamed B.named
  have hlocks := B.notSynchronized
  subst hsz
  have hD := hD0.self (sz := s.heap.size)
  generalize hAe : va_A (cX T aa zw kp fp e0 e1 oF oT kt ft ks fs fc S ++ tl T S) s.heap.size = A at hD hF ⊢
  have hA : ∀ q : Nat, s.heap.size ≤ q → A q := fun q h => by rw [← hAe]; exact Or.inr h
  have hS : va_S A s.heap s.heap [] := va_S.rf
  have hl := lv_entry ([.ref (aa 0), .int x]) (n := 3) (Nat.le_of_ble_eq_true rfl)
  rw [lg_entry_eq]
  generalize (lg_sl ([.ref (aa 0), .int x]) ++ List.replicate (3 - (lg_sl ([.ref (aa 0), .int x])).length) Slot.unset).toArray = ls at hl ⊢
  have hl : lv_has ls 3 [(0, .ref (aa 0)), (1, .int x)] := hl
  obtain ⟨hA1, hA2⟩ : ¬ x < 0 ∧ ¬ 1000 < x := by simpa [j_in] using hy0
  refine lv_iload_n hx hb d_T_width_0 rfl (lv_at hl 1 rfl) ?_
  refine lv_if_lt (tgt := 11) hx hb d_T_width_1 (by decide) (fun c1 => absurd c1 (hA1)) (fun c1 => ?_)
  refine lv_iload_n hx hb d_T_width_4 rfl (lv_at hl 1 rfl) ?_
  refine lv_sipush (v := 1000) hx hb d_T_width_5 (by decide) ?_
  refine lv_icmp_le (tgt := 21) hx hb d_T_width_8 (by decide) (fun c2 => ?_) (fun c2 => absurd ((Int32.not_lt.mp hA2)) c2)
  refine lv_aload_n hx hb d_T_width_21 rfl (lv_at hl 0 rfl) ?_
  refine va_get (D := D) (ci := 5) (v := .int zw) (C := "TimeWords") (T := F_T) (N := 8) hx hb hw in_T hown hK hP 0 rfl rfl 3 (by decide) (hw _ fl_T_28) (fun _ h9 => h9) rfl d_T_width_22 ?_
  refine lv_istore_n (lv' := [(2, .int zw), (0, .ref (aa 0)), (1, .int x)]) hx hb d_T_width_25 rfl hl (by decide) rfl (fun ls hl => ?_)
  refine lv_aload_n hx hb d_T_width_26 rfl (lv_at hl 1 rfl) ?_
  refine lv_iload_n hx hb d_T_width_27 rfl (lv_at hl 2 rfl) ?_
  refine va_put (D := D) (ci := 5) (v := .int x) (ty := .int) (C := "TimeWords") (T := F_T) (N := 8) hx hb hw in_T ty_T ty_T_ok n_T hown hK hP hD hS 0 rfl rfl 3 (by decide) (hw _ fl_T_28) (fun _ h9 => h9) rfl (by decide +kernel) rfl rfl (Nat.le_of_ble_eq_true rfl) d_T_width_28 (fun H locs hP hD hS => ?_)
  have hP : va_P D gC (cX T aa x kp fp e0 e1 oF oT kt ft ks fs fc S ++ tl T S) H := hP
  have hD : va_D A (cX T aa x kp fp e0 e1 oF oT kt ft ks fs fc S ++ tl T S) := hD
  refine lv_iload_n hx hb d_T_width_31 rfl (lv_at hl 0 rfl) ?_
  exact W.iret (v := zw) hx hb hr (fun t ht hW => ⟨⟨zw, x, rfl, ⟨rfl, rfl⟩, by rw [ht]; exact hP, va_K.moved hW.alike hK, hD⟩, hS.F ht⟩) hS.2.2 d_T_width_32

set_option maxHeartbeats 4000000 in
set_option maxRecDepth 100000 in
theorem k_T_width_x (l : Launch) (hl9 : l.stackTraces = false) (D : va_G) (T : gT) (κ : gS) (A : Nat → Prop) (aa : Nat → Nat) (zw : Int32) (kp : Nat) (fp : Nat → Int32) (e0 e1 : Int32) (oF oT : Bool) (kt : Nat) (ft : Nat → Int32) (ks : Nat) (fs fc : Nat → Int32) (S : tS) (sz : Nat) (x : Int32) (hy0 : j_in x 0 1000 = false) : vx_Met l y_T_width (Cond.code y_T_width b_T_width 3 (some .int) :: bg_W) ({ frames := 7, cells := 1, slots := 6, locals := 110 }) (xPf κ A D T (cX T aa zw kp fp e0 e1 oF oT kt ft ks fs fc S ++ tl T S) [.ref (aa 0), .int x] sz) xN (xE "java/lang/IllegalArgumentException" sz) 1 6 (fun q => sz ≤ q) := by
  refine vx_ofW (cc := b_T_width) (maxL := 3) (ret := (some .int)) (by decide) rfl ?_
  intro p e s m args below meth c s₁ B hml htab hv
  obtain ⟨rfl, hsz, hP, hK, hF⟩ := hv
  have hx := B.exec
  have hb := B.bytes
  have hr := B.returns
  have hw : ∀ w ∈ bg_W, w.before ([.ref (aa 0), .int x] : List Value).toArray s = true := fun w h => atoms_spec (ws := (Cond.code y_T_width b_T_width 3 (some .int) :: bg_W)) B.pre w (List.mem_cons_of_mem _ h)
  have hown : s.vm.findClass "TimeWords" = some m.cls := findClass_of_methodNamed B.named
  have hlocks := B.notSynchronized
  subst hsz
  have hS : va_S A s.heap s.heap [] := va_S.rf
  have hl := lv_entry ([.ref (aa 0), .int x]) (n := 3) (Nat.le_of_ble_eq_true rfl)
  rw [lg_entry_eq]
  generalize (lg_sl ([.ref (aa 0), .int x]) ++ List.replicate (3 - (lg_sl ([.ref (aa 0), .int x])).length) Slot.unset).toArray = ls at hl ⊢
  have hl : lv_has ls 3 [(0, .ref (aa 0)), (1, .int x)] := hl
  refine lv_iload_n hx hb d_T_width_0 rfl (lv_at hl 1 rfl) ?_
  refine lv_if_lt (tgt := 11) hx hb d_T_width_1 (by decide) (fun c1 => ?_) (fun c1 => ?_)
  · exact vx_throwS (rest := []) hx hb hl9 hown th_IA_f th_n (hw _ kl_T_55) (hw _ wz_IA) (hF.2.2.2.2 (126, "no width") (by decide)) (th_IA_w hw hF) th_IA_g hF.2.1.2.2.2.2.2.2.1 hF.2.1.2.2.2.2.2.2.2 hS (hl.1.trans hml.symm) (d_T_width_11) (d_T_width_14) (d_T_width_15) (d_T_width_17) (d_T_width_20) (fun x h9 => (htab x h9).elim) (Nat.le_of_ble_eq_true rfl) (Nat.le_of_ble_eq_true rfl) (Nat.le_of_ble_eq_true rfl) (Nat.le_of_ble_eq_true rfl) hlocks (fun t9 h8 h7 h6 => ⟨(), trivial, rfl, ⟨h7, fun q h1 _ => h6 q h1⟩⟩) (fun z h9 => absurd h9 List.not_mem_nil) (Nat.le_of_ble_eq_true rfl) (Nat.le_of_ble_eq_true rfl)
  · refine lv_iload_n hx hb d_T_width_4 rfl (lv_at hl 1 rfl) ?_
    refine lv_sipush (v := 1000) hx hb d_T_width_5 (by decide) ?_
    refine lv_icmp_le (tgt := 21) hx hb d_T_width_8 (by decide) (fun c2 => ?_) (fun c2 => ?_)
    · exact False.elim (by simp [j_in, Int32.not_lt.mpr, *] at hy0)
    · exact vx_throwS (rest := []) hx hb hl9 hown th_IA_f th_n (hw _ kl_T_55) (hw _ wz_IA) (hF.2.2.2.2 (126, "no width") (by decide)) (th_IA_w hw hF) th_IA_g hF.2.1.2.2.2.2.2.2.1 hF.2.1.2.2.2.2.2.2.2 hS (hl.1.trans hml.symm) (d_T_width_11) (d_T_width_14) (d_T_width_15) (d_T_width_17) (d_T_width_20) (fun x h9 => (htab x h9).elim) (Nat.le_of_ble_eq_true rfl) (Nat.le_of_ble_eq_true rfl) (Nat.le_of_ble_eq_true rfl) (Nat.le_of_ble_eq_true rfl) hlocks (fun t9 h8 h7 h6 => ⟨(), trivial, rfl, ⟨h7, fun q h1 _ => h6 q h1⟩⟩) (fun z h9 => absurd h9 List.not_mem_nil) (Nat.le_of_ble_eq_true rfl) (Nat.le_of_ble_eq_true rfl)

set_option maxHeartbeats 4000000 in
set_option maxRecDepth 100000 in
theorem k_T_count (l : Launch) (D : va_G) (T : gT) (κ : gS) (A : Nat → Prop) (aa : Nat → Nat) (zw : Int32) (kp : Nat) (fp : Nat → Int32) (e0 e1 : Int32) (oF oT : Bool) (kt : Nat) (ft : Nat → Int32) (ks : Nat) (fs fc : Nat → Int32) (S : tS) (x : Int32) (hy0 : j_in x 0 2 = true) : Met l y_T_count (Cond.code y_T_count b_T_count 2 (some .int) :: bg_W) ({ frames := 1, cells := 0, slots := 0, locals := 20 }) (sPf κ A D T (cX T aa zw kp fp e0 e1 oF oT kt ft ks fs fc S ++ tl T S) [.ref (aa 0), .int x]) (vp_Si (fun r : Int32 => r = (if x = 0 then nI kp else if x = 1 then nI S.2.1.length else nI S.2.2.2.length))) 0 0 (fun _ => False) := by
  refine Met.ofW (cc := b_T_count) (maxL := 2) (ret := (some .int)) (by decide) rfl ?_
  intro p e s m args below meth c s₁ B hml hv
  obtain ⟨rfl, hP, hK, hF⟩ := hv
  have hx := B.exec
  have hb := B.bytes
  have hr := B.returns
  have hw : ∀ w ∈ bg_W, w.before ([.ref (aa 0), .int x] : List Value).toArray s = true := fun w h => atoms_spec (ws := (Cond.code y_T_count b_T_count 2 (some .int) :: bg_W)) B.pre w (List.mem_cons_of_mem _ h)
  have hown : s.vm.findClass "TimeWords" = some m.cls := findClass_of_methodNamed B.named
  have hlocks := B.notSynchronized
  have hS : va_S A s.heap s.heap [] := va_S.rf
  have hl := lv_entry ([.ref (aa 0), .int x]) (n := 2) (Nat.le_of_ble_eq_true rfl)
  rw [lg_entry_eq]
  generalize (lg_sl ([.ref (aa 0), .int x]) ++ List.replicate (2 - (lg_sl ([.ref (aa 0), .int x])).length) Slot.unset).toArray = ls at hl ⊢
  have hl : lv_has ls 2 [(0, .ref (aa 0)), (1, .int x)] := hl
  rcases in_012 hy0 with rfl | rfl | rfl
  · refine lv_iload_n hx hb d_T_count_0 rfl (lv_at hl 1 rfl) ?_
    refine lv_tableIn (tgt := 28) hx hb d_T_count_1 (by decide) (by decide) rfl (by decide) ?_
    refine lv_aload_n hx hb d_T_count_28 rfl (lv_at hl 0 rfl) ?_
    refine va_get (D := D) (ci := 5) (v := .ref (aa 1)) (C := "TimeWords") (T := F_T) (N := 8) hx hb hw in_T hown hK hP 0 rfl rfl 0 (by decide) (hw _ fl_T_14) (fun _ h9 => h9) rfl d_T_count_29 ?_
    refine va_get (D := D) (ci := 1) (v := .int (nI kp)) (C := "TimeWords$Row") (T := F_R) (N := 2) hx hb hw in_R hown hK hP 1 rfl rfl 1 (by decide) (hw _ fl_T_62) (fun _ h9 => h9) rfl d_T_count_32 ?_
    exact W.iret (v := nI kp) hx hb hr (fun t ht hW => ⟨nI kp, rfl, rfl, ht⟩) (fun _ h => nomatch h) d_T_count_35
  · refine lv_iload_n hx hb d_T_count_0 rfl (lv_at hl 1 rfl) ?_
    refine lv_tableIn (tgt := 36) hx hb d_T_count_1 (by decide) (by decide) rfl (by decide) ?_
    refine lv_aload_n hx hb d_T_count_36 rfl (lv_at hl 0 rfl) ?_
    refine va_get (D := D) (ci := 5) (v := .ref S.1.1) (C := "TimeWords") (T := F_T) (N := 8) hx hb hw in_T hown hK hP 0 rfl rfl 1 (by decide) (hw _ fl_T_21) (fun _ h9 => h9) rfl d_T_count_37 ?_
    have hPc : va_P D gC ([(S.1.1, .inr (0, [.ref S.1.2.1, .int (nI S.2.1.length), .int S.1.2.2.1]))]) s.heap := (pc1 (hP 9 _ rfl) pc0)
    refine vp_callSi (va_Run.run (va_runV (As := []) (rest := []) ⟨hx, hb, hml, hown, hw⟩ (k_A_size l D T S.1.1 S.1.2.1 S.2.1.length S.1.2.2.1) (cwV 0 hw (bg_V ml_T_86 wi_A_size wv_A_size wz_A wc_A_size) rfl rfl rfl (by decide +kernel) ⟨Nat.le_of_ble_eq_true rfl, Nat.le_of_ble_eq_true rfl⟩) ⟨sP_b, va_recv hK hPc (ci := 0) (q0 := 0) rfl rfl, sP_p hPc hK⟩ rfl rfl hl.1 rfl (lv_room (Nat.le_of_ble_eq_true rfl)) d_T_count_40 ⟨Nat.le_of_ble_eq_true rfl, Nat.le_of_ble_eq_true rfl⟩)) (fun r1 hr1 => ?_)
    replace hr1 := hr1.symm; subst hr1
    exact W.iret (v := nI S.2.1.length) hx hb hr (fun t ht hW => ⟨nI S.2.1.length, rfl, rfl, ht⟩) (fun _ h => nomatch h) d_T_count_43
  · refine lv_iload_n hx hb d_T_count_0 rfl (lv_at hl 1 rfl) ?_
    refine lv_tableIn (tgt := 44) hx hb d_T_count_1 (by decide) (by decide) rfl (by decide) ?_
    refine lv_aload_n hx hb d_T_count_44 rfl (lv_at hl 0 rfl) ?_
    refine va_get (D := D) (ci := 5) (v := .ref S.2.2.1.1) (C := "TimeWords") (T := F_T) (N := 8) hx hb hw in_T hown hK hP 0 rfl rfl 2 (by decide) (hw _ fl_T_25) (fun _ h9 => h9) rfl d_T_count_45 ?_
    have hPc : va_P D gC ([(S.2.2.1.1, .inr (0, [.ref S.2.2.1.2.1, .int (nI S.2.2.2.length), .int S.2.2.1.2.2.1]))]) s.heap := (pc1 (hP 10 _ rfl) pc0)
    refine vp_callSi (va_Run.run (va_runV (As := []) (rest := []) ⟨hx, hb, hml, hown, hw⟩ (k_A_size l D T S.2.2.1.1 S.2.2.1.2.1 S.2.2.2.length S.2.2.1.2.2.1) (cwV 0 hw (bg_V ml_T_86 wi_A_size wv_A_size wz_A wc_A_size) rfl rfl rfl (by decide +kernel) ⟨Nat.le_of_ble_eq_true rfl, Nat.le_of_ble_eq_true rfl⟩) ⟨sP_b, va_recv hK hPc (ci := 0) (q0 := 0) rfl rfl, sP_p hPc hK⟩ rfl rfl hl.1 rfl (lv_room (Nat.le_of_ble_eq_true rfl)) d_T_count_48 ⟨Nat.le_of_ble_eq_true rfl, Nat.le_of_ble_eq_true rfl⟩)) (fun r2 hr2 => ?_)
    replace hr2 := hr2.symm; subst hr2
    exact W.iret (v := nI S.2.2.2.length) hx hb hr (fun t ht hW => ⟨nI S.2.2.2.length, rfl, rfl, ht⟩) (fun _ h => nomatch h) d_T_count_51

set_option maxHeartbeats 4000000 in
set_option maxRecDepth 100000 in
theorem k_T_count_x (l : Launch) (hl9 : l.stackTraces = false) (D : va_G) (T : gT) (κ : gS) (A : Nat → Prop) (aa : Nat → Nat) (zw : Int32) (kp : Nat) (fp : Nat → Int32) (e0 e1 : Int32) (oF oT : Bool) (kt : Nat) (ft : Nat → Int32) (ks : Nat) (fs fc : Nat → Int32) (S : tS) (sz : Nat) (x : Int32) (hy0 : j_in x 0 2 = false) : vx_Met l y_T_count (Cond.code y_T_count b_T_count 2 (some .int) :: bg_W) ({ frames := 7, cells := 1, slots := 6, locals := 110 }) (xPf κ A D T (cX T aa zw kp fp e0 e1 oF oT kt ft ks fs fc S ++ tl T S) [.ref (aa 0), .int x] sz) xN (xE "java/lang/IndexOutOfBoundsException" sz) 1 6 (fun q => sz ≤ q) := by
  refine vx_ofW (cc := b_T_count) (maxL := 2) (ret := (some .int)) (by decide) rfl ?_
  intro p e s m args below meth c s₁ B hml htab hv
  obtain ⟨rfl, hsz, hP, hK, hF⟩ := hv
  have hx := B.exec
  have hb := B.bytes
  have hr := B.returns
  have hw : ∀ w ∈ bg_W, w.before ([.ref (aa 0), .int x] : List Value).toArray s = true := fun w h => atoms_spec (ws := (Cond.code y_T_count b_T_count 2 (some .int) :: bg_W)) B.pre w (List.mem_cons_of_mem _ h)
  have hown : s.vm.findClass "TimeWords" = some m.cls := findClass_of_methodNamed B.named
  have hlocks := B.notSynchronized
  subst hsz
  have hS : va_S A s.heap s.heap [] := va_S.rf
  have hl := lv_entry ([.ref (aa 0), .int x]) (n := 2) (Nat.le_of_ble_eq_true rfl)
  rw [lg_entry_eq]
  generalize (lg_sl ([.ref (aa 0), .int x]) ++ List.replicate (2 - (lg_sl ([.ref (aa 0), .int x])).length) Slot.unset).toArray = ls at hl ⊢
  have hl : lv_has ls 2 [(0, .ref (aa 0)), (1, .int x)] := hl
  refine lv_iload_n hx hb d_T_count_0 rfl (lv_at hl 1 rfl) ?_
  refine lv_tableOut (tgt := 52) hx hb d_T_count_1 (in_n012 hy0) (by decide) ?_
  exact vx_throwS (rest := []) hx hb hl9 hown th_IO_f th_n (hw _ kl_T_184) (hw _ wz_IO) (hF.2.2.2.2 (231, "nothing to count") (by decide)) (th_IO_w hw hF) th_IO_g hF.2.1.2.2.2.2.2.2.1 hF.2.1.2.2.2.2.2.2.2 hS (hl.1.trans hml.symm) (d_T_count_52) (d_T_count_55) (d_T_count_56) (d_T_count_58) (d_T_count_61) (fun x h9 => (htab x h9).elim) (Nat.le_of_ble_eq_true rfl) (Nat.le_of_ble_eq_true rfl) (Nat.le_of_ble_eq_true rfl) (Nat.le_of_ble_eq_true rfl) hlocks (fun t9 h8 h7 h6 => ⟨(), trivial, rfl, ⟨h7, fun q h1 _ => h6 q h1⟩⟩) (fun z h9 => absurd h9 List.not_mem_nil) (Nat.le_of_ble_eq_true rfl) (Nat.le_of_ble_eq_true rfl)

set_option maxHeartbeats 4000000 in
set_option maxRecDepth 100000 in
theorem k_T_padMayBeName (l : Launch) (D : va_G) (T : gT) (κ : gS) (A : Nat → Prop) (aa : Nat → Nat) (zw : Int32) (kp : Nat) (fp : Nat → Int32) (e0 e1 : Int32) (oF oT : Bool) (kt : Nat) (ft : Nat → Int32) (ks : Nat) (fs fc : Nat → Int32) (S : tS) (hy0 : kp ≤ 24) : Met l y_T_padMayBeName (Cond.code y_T_padMayBeName b_T_padMayBeName 2 (some .boolean) :: bg_W) ({ frames := 1, cells := 0, slots := 0, locals := 21 }) (sPf κ A D T (cX T aa zw kp fp e0 e1 oF oT kt ft ks fs fc S ++ tl T S) [.ref (aa 0)]) (vp_Si (fun r : Int32 => (r = 1 ∧ j_gd fp kp) ∨ (r = 0 ∧ ¬ j_gd fp kp))) 0 0 (fun _ => False) := by
  refine Met.ofW (cc := b_T_padMayBeName) (maxL := 2) (ret := (some .boolean)) (by decide) rfl ?_
  intro p e s m args below meth c s₁ B hml hv
  obtain ⟨rfl, hP, hK, hF⟩ := hv
  have hx := B.exec
  have hb := B.bytes
  have hr := B.returns
  have hw : ∀ w ∈ bg_W, w.before ([.ref (aa 0)] : List Value).toArray s = true := fun w h => atoms_spec (ws := (Cond.code y_T_padMayBeName b_T_padMayBeName 2 (some .boolean) :: bg_W)) B.pre w (List.mem_cons_of_mem _ h)
  have hown : s.vm.findClass "TimeWords" = some m.cls := findClass_of_methodNamed B.named
  have hlocks := B.notSynchronized
  have hS : va_S A s.heap s.heap [] := va_S.rf
  have hl := lv_entry ([.ref (aa 0)]) (n := 2) (Nat.le_of_ble_eq_true rfl)
  rw [lg_entry_eq]
  generalize (lg_sl ([.ref (aa 0)]) ++ List.replicate (2 - (lg_sl ([.ref (aa 0)])).length) Slot.unset).toArray = ls at hl ⊢
  have hl : lv_has ls 2 [(0, .ref (aa 0))] := hl
  refine lv_aload_n hx hb d_T_padMayBeName_0 rfl (lv_at hl 0 rfl) ?_
  refine va_get (D := D) (ci := 5) (v := .ref (aa 1)) (C := "TimeWords") (T := F_T) (N := 8) hx hb hw in_T hown hK hP 0 rfl rfl 0 (by decide) (hw _ fl_T_14) (fun _ h9 => h9) rfl d_T_padMayBeName_1 ?_
  refine va_get (D := D) (ci := 1) (v := .int (nI kp)) (C := "TimeWords$Row") (T := F_R) (N := 2) hx hb hw in_R hown hK hP 1 rfl rfl 1 (by decide) (hw _ fl_T_62) (fun _ h9 => h9) rfl d_T_padMayBeName_4 ?_
  refine lv_iconst (v := 1) hx hb d_T_padMayBeName_7 (by decide) ?_
  refine lv_icmp_lt (tgt := 23) hx hb d_T_padMayBeName_8 (by decide) (fun c1 => ?_) (fun c1 => ?_)
  · have c1 := nc_lt (a := kp) (b := 1) c1 (by omega) (by omega)
    refine lv_iconst (v := 0) hx hb d_T_padMayBeName_23 (by decide) ?_
    exact W.zret (v := 0) hx hb hr rfl (fun t ht hW => ⟨0, rfl, (Or.inr ⟨rfl, fun q => by have := q.1; have := q.2.1; omega⟩), ht⟩) (fun _ h => nomatch h) d_T_padMayBeName_24
  · have c1 := nc_nlt (a := kp) (b := 1) c1 (by omega) (by omega)
    refine lv_aload_n hx hb d_T_padMayBeName_11 rfl (lv_at hl 0 rfl) ?_
    refine va_get (D := D) (ci := 5) (v := .ref (aa 1)) (C := "TimeWords") (T := F_T) (N := 8) hx hb hw in_T hown hK hP 0 rfl rfl 0 (by decide) (hw _ fl_T_14) (fun _ h9 => h9) rfl d_T_padMayBeName_12 ?_
    refine va_get (D := D) (ci := 1) (v := .int (nI kp)) (C := "TimeWords$Row") (T := F_R) (N := 2) hx hb hw in_R hown hK hP 1 rfl rfl 1 (by decide) (hw _ fl_T_62) (fun _ h9 => h9) rfl d_T_padMayBeName_15 ?_
    refine lv_bipush (v := 8) hx hb d_T_padMayBeName_18 (by decide) ?_
    refine lv_icmp_le (tgt := 25) hx hb d_T_padMayBeName_20 (by decide) (fun c2 => ?_) (fun c2 => ?_)
    · have c2 := nc_le (a := kp) (b := 8) c2 (by omega) (by omega)
      refine lv_iconst (v := 0) hx hb d_T_padMayBeName_25 (by decide) ?_
      refine lv_istore_n (lv' := [(1, .int 0), (0, .ref (aa 0))]) hx hb d_T_padMayBeName_26 rfl hl (by decide) rfl (fun ls hl => ?_)
      have loop : ∀ (nf : Nat) (j : Nat), (j ≤ kp) → (∀ i, i < j → j_in (fp i) 97 122 = true) → ∀ (ls : Array Slot), lv_has ls 2 [(0, .ref (aa 0)), (1, .int (nI j))] → kp - j < nf → W p l e (headSpec (Cond.code y_T_padMayBeName b_T_padMayBeName 2 (some .boolean) :: bg_W) ({ frames := 1, cells := 0, slots := 0, locals := 21 })).room s m ([.ref (aa 0)] : List Value).toArray below meth c s.heap [] 0 0 (MQ below (vp_Si (fun r : Int32 => (r = 1 ∧ j_gd fp kp) ∨ (r = 0 ∧ ¬ j_gd fp kp))) ([.ref (aa 0)] : List Value).toArray s 0 0 (fun _ => False)) (F0 m 27 ls []) := by
        intro nf
        induction nf with
        | zero => intro j hj hE ls hl hm; exact absurd hm (Nat.not_lt_zero _)
        | succ nf ih =>
          intro j hj hE ls hl hm
          refine lv_iload_n hx hb d_T_padMayBeName_27 rfl (lv_at hl 1 rfl) ?_
          refine lv_aload_n hx hb d_T_padMayBeName_28 rfl (lv_at hl 0 rfl) ?_
          refine va_get (D := D) (ci := 5) (v := .ref (aa 1)) (C := "TimeWords") (T := F_T) (N := 8) hx hb hw in_T hown hK hP 0 rfl rfl 0 (by decide) (hw _ fl_T_14) (fun _ h9 => h9) rfl d_T_padMayBeName_29 ?_
          refine va_get (D := D) (ci := 1) (v := .int (nI kp)) (C := "TimeWords$Row") (T := F_R) (N := 2) hx hb hw in_R hown hK hP 1 rfl rfl 1 (by decide) (hw _ fl_T_62) (fun _ h9 => h9) rfl d_T_padMayBeName_32 ?_
          refine lv_icmp_ge (tgt := 60) hx hb d_T_padMayBeName_35 (by decide) (fun c3 => ?_) (fun c3 => ?_)
          · have c3 := nc_le (a := kp) (b := j) c3 (by omega) (by omega)
            refine lv_iconst (v := 1) hx hb d_T_padMayBeName_60 (by decide) ?_
            exact W.zret (v := 1) hx hb hr rfl (fun t ht hW => ⟨1, rfl, (Or.inl ⟨rfl, by omega, by omega, fun i hi => hE i (by omega)⟩), ht⟩) (fun _ h => nomatch h) d_T_padMayBeName_61
          · have c3 := nc_nle (a := kp) (b := j) c3 (by omega) (by omega)
            refine lv_aload_n hx hb d_T_padMayBeName_38 rfl (lv_at hl 0 rfl) ?_
            refine va_get (D := D) (ci := 5) (v := .ref (aa 1)) (C := "TimeWords") (T := F_T) (N := 8) hx hb hw in_T hown hK hP 0 rfl rfl 0 (by decide) (hw _ fl_T_14) (fun _ h9 => h9) rfl d_T_padMayBeName_39 ?_
            refine lv_iload_n hx hb d_T_padMayBeName_42 rfl (lv_at hl 1 rfl) ?_
            have hPc : va_P D gC ([(aa 1, .inr (1, [.ref (aa 2), .int (nI kp)])), (aa 2, .inl (T.1, 24, .inl fp))]) s.heap := (pc1 (hP 1 _ rfl) (pc1 (hP 2 _ rfl) pc0))
            refine vp_callSi (va_Run.run (va_runV (As := [.int (nI j)]) (rest := []) ⟨hx, hb, hml, hown, hw⟩ (k_R_at l D T (aa 1) (aa 2) kp 24 fp (nI j) hy0 (by decide)) (cwV 1 hw (bg_V ml_T_189 wi_R_at wv_R_at wz_R wc_R_at) rfl rfl rfl (by decide +kernel) ⟨Nat.le_of_ble_eq_true rfl, Nat.le_of_ble_eq_true rfl⟩) ⟨sP_b, va_recv hK hPc (ci := 1) (q0 := 0) rfl rfl, sP_p hPc hK⟩ rfl rfl hl.1 rfl (lv_room (Nat.le_of_ble_eq_true rfl)) d_T_padMayBeName_43 ⟨Nat.le_of_ble_eq_true rfl, Nat.le_of_ble_eq_true rfl⟩)) (fun r4 hr4 => ?_)
            replace hr4 := hr4.symm; subst hr4
            rw [at_in (by omega) (by omega)]
            refine vp_callSi (va_Run.run (va_runS (As := [.int (fp j)]) (rest := []) ⟨hx, hb, hml, hown, hw⟩ (k_T_isLetter l (fp j)) (va_cwS 1 hw (bg_S ml_T_248 wt_T_isLetter wz_T wc_T_isLetter) rfl rfl rfl (by decide +kernel) ⟨Nat.le_of_ble_eq_true rfl, Nat.le_of_ble_eq_true rfl⟩) ⟨nP_b, nP_p⟩ rfl rfl hl.1 rfl (lv_room (Nat.le_of_ble_eq_true rfl)) d_T_padMayBeName_46 ⟨Nat.le_of_ble_eq_true rfl, Nat.le_of_ble_eq_true rfl⟩)) (fun r5 hr5 => ?_)
            replace hr5 := hr5.symm; subst hr5
            refine lv_if_ne (tgt := 54) hx hb d_T_padMayBeName_49 (by decide) (fun c6 => ?_) (fun c6 => ?_)
            · have c6 := b2i_t c6
              refine lv_iinc (v := nI (j + 1)) (lv' := [(1, .int (nI (j + 1))), (0, .ref (aa 0))]) hx hb d_T_padMayBeName_54 hl (k := 1) rfl (nI_add j 1) (by decide) rfl (fun ls hl => ?_)
              refine lv_goto (tgt := 27) hx hb d_T_padMayBeName_57 (by decide) ?_
              exact ih (j + 1) (by omega) (lt_s hE c6) ls (lv_sub hl [1, 0] rfl) (by omega)
            · have c6 := b2i_f c6
              refine lv_iconst (v := 0) hx hb d_T_padMayBeName_52 (by decide) ?_
              exact W.zret (v := 0) hx hb hr rfl (fun t ht hW => ⟨0, rfl, (Or.inr ⟨rfl, fun q => by rw [q.2.2 j (by omega)] at c6; exact absurd c6 (by decide)⟩), ht⟩) (fun _ h => nomatch h) d_T_padMayBeName_53
      exact loop ((kp - 0) + 1) 0 (Nat.zero_le _) lt_0 ls (lv_sub hl [1, 0] rfl) (Nat.lt_succ_self _)
    · have c2 := nc_nle (a := kp) (b := 8) c2 (by omega) (by omega)
      refine lv_iconst (v := 0) hx hb d_T_padMayBeName_23 (by decide) ?_
      exact W.zret (v := 0) hx hb hr rfl (fun t ht hW => ⟨0, rfl, (Or.inr ⟨rfl, fun q => by have := q.1; have := q.2.1; omega⟩), ht⟩) (fun _ h => nomatch h) d_T_padMayBeName_24

theorem nf_s {S : tS} {fp : Nat → Int32} {kp t9 j : Nat} {n : nmD} (hn : S.2.1[j]? = some n) (hE : ∀ i n, i < j → S.2.1[i]? = some n → ¬ c_mt fp kp t9 n) (h : ¬ c_mt fp kp t9 n) : ∀ i n, i < j + 1 → S.2.1[i]? = some n → ¬ c_mt fp kp t9 n := by
  intro i n' hi hn'
  by_cases e : i = j
  · subst e
    cases hn.symm.trans hn'
    exact h
  · exact hE i n' (by omega) hn'
/-- the first name that the pad is, from a sign on -/
def c_nf (fp : Nat → Int32) (kp t9 : Nat) (S : tS) (r : Int32) : Prop := (r = -1 ∧ ∀ (i : Nat) (n : nmD), S.2.1[i]? = some n → ¬ c_mt fp kp t9 n) ∨ ∃ (i : Nat) (n : nmD), r = nI i ∧ S.2.1[i]? = some n ∧ c_mt fp kp t9 n
set_option maxHeartbeats 4000000 in
set_option maxRecDepth 100000 in
theorem k_T_nameFrom (l : Launch) (D : va_G) (T : gT) (κ : gS) (A : Nat → Prop) (aa : Nat → Nat) (zw : Int32) (kp : Nat) (fp : Nat → Int32) (e0 e1 : Int32) (oF oT : Bool) (kt : Nat) (ft : Nat → Int32) (ks : Nat) (fs fc : Nat → Int32) (S : tS) (t9 : Nat) (hy0 : tOk κ S) (hy1 : kp ≤ 24) (hy2 : t9 ≤ kp) : Met l y_T_nameFrom (Cond.code y_T_nameFrom b_T_nameFrom 3 (some .int) :: bg_W) ({ frames := 3, cells := 0, slots := 0, locals := 64 }) (sPf κ A D T (cX T aa zw kp fp e0 e1 oF oT kt ft ks fs fc S ++ tl T S) [.ref (aa 0), .int (nI t9)]) (vp_Si (fun r : Int32 => c_nf fp kp t9 S r)) 0 0 (fun _ => False) := by
  refine Met.ofW (cc := b_T_nameFrom) (maxL := 3) (ret := (some .int)) (by decide) rfl ?_
  intro p e s m args below meth c s₁ B hml hv
  obtain ⟨rfl, hP, hK, hF⟩ := hv
  have hx := B.exec
  have hb := B.bytes
  have hr := B.returns
  have hw : ∀ w ∈ bg_W, w.before ([.ref (aa 0), .int (nI t9)] : List Value).toArray s = true := fun w h => atoms_spec (ws := (Cond.code y_T_nameFrom b_T_nameFrom 3 (some .int) :: bg_W)) B.pre w (List.mem_cons_of_mem _ h)
  have hown : s.vm.findClass "TimeWords" = some m.cls := findClass_of_methodNamed B.named
  have hlocks := B.notSynchronized
  have hS : va_S A s.heap s.heap [] := va_S.rf
  have hl := lv_entry ([.ref (aa 0), .int (nI t9)]) (n := 3) (Nat.le_of_ble_eq_true rfl)
  rw [lg_entry_eq]
  generalize (lg_sl ([.ref (aa 0), .int (nI t9)]) ++ List.replicate (3 - (lg_sl ([.ref (aa 0), .int (nI t9)])).length) Slot.unset).toArray = ls at hl ⊢
  have hl : lv_has ls 3 [(0, .ref (aa 0)), (1, .int (nI t9))] := hl
  have hL1 : S.2.1.length ≤ 24 := hy0.2.2.2.1
  have hL2 : S.2.2.2.length ≤ 60 := hy0.2.2.2.2
  refine lv_iconst (v := 0) hx hb d_T_nameFrom_0 (by decide) ?_
  refine lv_istore_n (lv' := [(2, .int 0), (0, .ref (aa 0)), (1, .int (nI t9))]) hx hb d_T_nameFrom_1 rfl hl (by decide) rfl (fun ls hl => ?_)
  have loop : ∀ (nf : Nat) (j : Nat), (j ≤ S.2.1.length) → (∀ i n, i < j → S.2.1[i]? = some n → ¬ c_mt fp kp t9 n) → ∀ (ls : Array Slot), lv_has ls 3 [(0, .ref (aa 0)), (1, .int (nI t9)), (2, .int (nI j))] → S.2.1.length - j < nf → W p l e (headSpec (Cond.code y_T_nameFrom b_T_nameFrom 3 (some .int) :: bg_W) ({ frames := 3, cells := 0, slots := 0, locals := 64 })).room s m ([.ref (aa 0), .int (nI t9)] : List Value).toArray below meth c s.heap [] 0 0 (MQ below (vp_Si (fun r : Int32 => c_nf fp kp t9 S r)) ([.ref (aa 0), .int (nI t9)] : List Value).toArray s 0 0 (fun _ => False)) (F0 m 2 ls []) := by
    intro nf
    induction nf with
    | zero => intro j hj hE ls hl hm; exact absurd hm (Nat.not_lt_zero _)
    | succ nf ih =>
      intro j hj hE ls hl hm
      refine lv_iload_n hx hb d_T_nameFrom_2 rfl (lv_at hl 2 rfl) ?_
      refine lv_aload_n hx hb d_T_nameFrom_3 rfl (lv_at hl 0 rfl) ?_
      refine va_get (D := D) (ci := 5) (v := .ref S.1.1) (C := "TimeWords") (T := F_T) (N := 8) hx hb hw in_T hown hK hP 0 rfl rfl 1 (by decide) (hw _ fl_T_21) (fun _ h9 => h9) rfl d_T_nameFrom_4 ?_
      have hPc : va_P D gC ([(S.1.1, .inr (0, [.ref S.1.2.1, .int (nI S.2.1.length), .int S.1.2.2.1]))]) s.heap := (pc1 (hP 9 _ rfl) pc0)
      refine vp_callSi (va_Run.run (va_runV (As := []) (rest := [.int (nI j)]) ⟨hx, hb, hml, hown, hw⟩ (k_A_size l D T S.1.1 S.1.2.1 S.2.1.length S.1.2.2.1) (cwV 0 hw (bg_V ml_T_86 wi_A_size wv_A_size wz_A wc_A_size) rfl rfl rfl (by decide +kernel) ⟨Nat.le_of_ble_eq_true rfl, Nat.le_of_ble_eq_true rfl⟩) ⟨sP_b, va_recv hK hPc (ci := 0) (q0 := 0) rfl rfl, sP_p hPc hK⟩ rfl rfl hl.1 rfl (lv_room (Nat.le_of_ble_eq_true rfl)) d_T_nameFrom_7 ⟨Nat.le_of_ble_eq_true rfl, Nat.le_of_ble_eq_true rfl⟩)) (fun r1 hr1 => ?_)
      replace hr1 := hr1.symm; subst hr1
      refine lv_icmp_ge (tgt := 46) hx hb d_T_nameFrom_10 (by decide) (fun c2 => ?_) (fun c2 => ?_)
      · have c2 := nc_le (a := S.2.1.length) (b := j) c2 (by omega) (by omega)
        refine lv_iconst (v := (-1)) hx hb d_T_nameFrom_46 (by decide) ?_
        exact W.iret (v := (-1)) hx hb hr (fun t ht hW => ⟨(-1), rfl, (Or.inl ⟨rfl, fun i n h => hE i n (by have := (List.getElem?_eq_some_iff.mp h).1; omega) h⟩), ht⟩) (fun _ h => nomatch h) d_T_nameFrom_47
      · have c2 := nc_nle (a := S.2.1.length) (b := j) c2 (by omega) (by omega)
        obtain ⟨n, hn⟩ : ∃ n, S.2.1[j]? = some n := ⟨_, List.getElem?_eq_getElem (by omega)⟩
        obtain ⟨hn1, hn2, hn3, hn4, hn5, hn6⟩ := nm_at hy0 hn
        refine lv_aload_n hx hb d_T_nameFrom_13 rfl (lv_at hl 0 rfl) ?_
        refine va_get (D := D) (ci := 5) (v := .ref (aa 1)) (C := "TimeWords") (T := F_T) (N := 8) hx hb hw in_T hown hK hP 0 rfl rfl 0 (by decide) (hw _ fl_T_14) (fun _ h9 => h9) rfl d_T_nameFrom_14 ?_
        refine lv_iload_n hx hb d_T_nameFrom_17 rfl (lv_at hl 1 rfl) ?_
        refine lv_aload_n hx hb d_T_nameFrom_18 rfl (lv_at hl 0 rfl) ?_
        refine va_get (D := D) (ci := 5) (v := .ref S.1.1) (C := "TimeWords") (T := F_T) (N := 8) hx hb hw in_T hown hK hP 0 rfl rfl 1 (by decide) (hw _ fl_T_21) (fun _ h9 => h9) rfl d_T_nameFrom_19 ?_
        refine lv_iload_n hx hb d_T_nameFrom_22 rfl (lv_at hl 2 rfl) ?_
        have hPc : va_P D gC ([(S.1.1, .inr (0, [.ref S.1.2.1, .int (nI S.2.1.length), .int S.1.2.2.1])), (S.1.2.1, .inl (T.2.2.2, S.1.2.2.2.1, .inr (.inr (.inr (.inr S.1.2.2.2.2)))))]) s.heap := (pc1 (hP 9 _ rfl) (pc1 (hP.mem (List.mem_append_right _ (tl_na (by omega)))) pc0))
        refine va_csq (va_Run.run (va_runV (As := [.int (nI j)]) (rest := [.int (nI t9), .ref (aa 1)]) ⟨hx, hb, hml, hown, hw⟩ (k_A_get l D T S.1.1 S.1.2.1 S.2.1.length S.1.2.2.1 S.1.2.2.2.1 S.1.2.2.2.2 j hn4 hn2 (by omega)) (cwV 1 hw (bg_V ml_T_192 wi_A_get wv_A_get wz_A wc_A_get) rfl rfl rfl (by decide +kernel) ⟨Nat.le_of_ble_eq_true rfl, Nat.le_of_ble_eq_true rfl⟩) ⟨sP_b, va_recv hK hPc (ci := 0) (q0 := 0) rfl rfl, sP_p hPc hK⟩ rfl rfl hl.1 rfl (lv_room (Nat.le_of_ble_eq_true rfl)) d_T_nameFrom_23 ⟨Nat.le_of_ble_eq_true rfl, Nat.le_of_ble_eq_true rfl⟩)) (fun r3 hr3 => ?_)
        replace hr3 := hr3.symm; subst hr3
        rw [hn1]
        refine W.eq (g2 := F0 m 26 ls [.ref (nA n), .int (nI t9), .ref (aa 1)]) rfl ?_
        refine va_castY (C := "TimeWords$Name") hx hb hown (hw _ kl_T_92) (hF.2.2.2.1 _ (by simp [sC])) (va_recv hK (pc1 (hP.mem (List.mem_append_right _ (tl_nm hn5 nmm_o))) pc0) (ci := 4) (q0 := 0) rfl rfl) d_T_nameFrom_26 ?_
        refine va_get (D := D) (ci := 4) (v := .ref (nR n)) (C := "TimeWords$Name") (T := F_N) (N := 3) hx hb hw in_N hown hK (pc1 (hP.mem (List.mem_append_right _ (tl_nm hn5 nmm_o))) pc0) 0 rfl rfl 0 (by decide) (hw _ fl_T_196) (fun _ h9 => h9) rfl d_T_nameFrom_29 ?_
        have hPc : va_P D gC ([(aa 1, .inr (1, [.ref (aa 2), .int (nI kp)])), (aa 2, .inl (T.1, 24, .inl fp)), (nR n, .inr (1, [.ref (nV n), .int (nI (nK n))])), (nV n, .inl (T.1, 8, .inl (nF n)))]) s.heap := (pc1 (hP 1 _ rfl) (pc1 (hP 2 _ rfl) (pc1 (hP.mem (List.mem_append_right _ (tl_nm hn5 nmm_r))) (pc1 (hP.mem (List.mem_append_right _ (tl_nm hn5 nmm_v))) pc0))))
        refine vp_callSi (va_Run.run (va_runV (As := [.int (nI t9), .ref (nR n)]) (rest := []) ⟨hx, hb, hml, hown, hw⟩ (k_R_endsWith l D T (aa 1) (aa 2) kp 24 fp (nR n) (nV n) (nK n) 8 (nF n) t9 (by omega) (by decide) hn6.1 (by decide) (by omega)) (cwV 2 hw (bg_V ml_T_254 wi_R_endsWith wv_R_endsWith wz_R wc_R_endsWith) rfl rfl rfl (by decide +kernel) ⟨Nat.le_of_ble_eq_true rfl, Nat.le_of_ble_eq_true rfl⟩) ⟨sP_b, va_recv hK hPc (ci := 1) (q0 := 0) rfl rfl, sP_p hPc hK⟩ rfl rfl hl.1 rfl (lv_room (Nat.le_of_ble_eq_true rfl)) d_T_nameFrom_32 ⟨Nat.le_of_ble_eq_true rfl, Nat.le_of_ble_eq_true rfl⟩)) (fun r4 hr4 => ?_)
        rcases hr4 with ⟨hr0, hr1⟩ | ⟨hr0, hr1⟩
        · subst hr0; refine lv_if_eq (tgt := 40) hx hb d_T_nameFrom_35 (by decide) (fun h9 => absurd h9 (by decide)) (fun _ => ?_)
          refine lv_iload_n hx hb d_T_nameFrom_38 rfl (lv_at hl 2 rfl) ?_
          exact W.iret (v := nI j) hx hb hr (fun t ht hW => ⟨nI j, rfl, (Or.inr ⟨j, n, rfl, hn, hr1⟩), ht⟩) (fun _ h => nomatch h) d_T_nameFrom_39
        · subst hr0; refine lv_if_eq (tgt := 40) hx hb d_T_nameFrom_35 (by decide) (fun _ => ?_) (fun h9 => absurd rfl h9)
          refine lv_iinc (v := nI (j + 1)) (lv' := [(2, .int (nI (j + 1))), (0, .ref (aa 0)), (1, .int (nI t9))]) hx hb d_T_nameFrom_40 hl (k := 2) rfl (nI_add j 1) (by decide) rfl (fun ls hl => ?_)
          refine lv_goto (tgt := 2) hx hb d_T_nameFrom_43 (by decide) ?_
          exact ih (j + 1) (by omega) (nf_s hn hE (fun q => hr1 q)) ls (lv_sub hl [1, 2, 0] rfl) (by omega)
  exact loop ((S.2.1.length - 0) + 1) 0 (Nat.zero_le _) (fun i n h => absurd h (Nat.not_lt_zero _)) ls (lv_sub hl [1, 2, 0] rfl) (Nat.lt_succ_self _)
