set_option maxHeartbeats 4000000 in
set_option maxRecDepth 100000 in
theorem k_T_word_y (l : Launch) (hl9 : l.stackTraces = false) (D : va_G) (T : gT) (κ : gS) (aa : Nat → Nat) (zw : Int32) (kp : Nat) (fp : Nat → Int32) (e0 e1 : Int32) (oF oT : Bool) (kt : Nat) (ft : Nat → Int32) (ks : Nat) (fs fc : Nat → Int32) (S : tS) (sz : Nat) (j : Nat) (q : spD) (ii : Int32) (hy0 : tOk κ S) (hy1 : S.2.2.2[j]? = some q) (hy2 : ¬ ii = -1) (hy3 : ∀ i, i < (c_wl zw q S).length → ¬ ii = nI i) : vx_Met l y_T_word (Cond.code y_T_word b_T_word 3 (some .int) :: bg_W) ({ frames := 8, cells := 1, slots := 6, locals := 175 }) (qPf κ D T (cX T aa zw kp fp e0 e1 oF oT kt ft ks fs fc S ++ tl T S) [.ref (aa 0), .int (nI j), .int ii] sz) xN (xQ "java/lang/IndexOutOfBoundsException" D T (va_A (cX T aa zw kp fp e0 e1 oF oT kt ft ks fs fc S ++ tl T S) sz) (fun u : Int32 × Int32 × Bool × Bool × Nat × (Nat → Int32) × Nat × (Nat → Int32) => match u with | (w0, w1, v2, v3, kt1, ft1, ks1, fs1) => cX T aa zw kp fp w0 w1 v2 v3 kt1 ft1 ks1 fs1 fc S ++ tl T S)) 1 6 (va_A (cX T aa zw kp fp e0 e1 oF oT kt ft ks fs fc S ++ tl T S) sz) := by
  refine vx_ofW (cc := b_T_word) (maxL := 3) (ret := (some .int)) (by decide) rfl ?_
  intro p e s m args below meth c s₁ B hml htab hv
  obtain ⟨rfl, hsz, hP, hK, hD0, hF⟩ := hv
  have hx := B.exec
  have hb := B.bytes
  have hr := B.returns
  have hw : ∀ w ∈ bg_W, w.before ([.ref (aa 0), .int (nI j), .int ii] : List Value).toArray s = true := fun w h => atoms_spec (ws := (Cond.code y_T_word b_T_word 3 (some .int) :: bg_W)) B.pre w (List.mem_cons_of_mem _ h)
  have hown : s.vm.findClass "TimeWords" = some m.cls := findClass_of_methodNamed B.named
  have hlocks := B.notSynchronized
  subst hsz
  have hD := hD0.self (sz := s.heap.size)
  generalize hAe : va_A (cX T aa zw kp fp e0 e1 oF oT kt ft ks fs fc S ++ tl T S) s.heap.size = A at hD hF ⊢
  have hA : ∀ q : Nat, s.heap.size ≤ q → A q := fun q h => by rw [← hAe]; exact Or.inr h
  have hS : va_S A s.heap s.heap [] := va_S.rf
  have hl := lv_entry ([.ref (aa 0), .int (nI j), .int ii]) (n := 3) (Nat.le_of_ble_eq_true rfl)
  rw [lg_entry_eq]
  generalize (lg_sl ([.ref (aa 0), .int (nI j), .int ii]) ++ List.replicate (3 - (lg_sl ([.ref (aa 0), .int (nI j), .int ii])).length) Slot.unset).toArray = ls at hl ⊢
  have hl : lv_has ls 3 [(0, .ref (aa 0)), (1, .int (nI j)), (2, .int ii)] := hl
  have hL1 : S.2.1.length ≤ 24 := hy0.2.2.2.1
  have hL2 : S.2.2.2.length ≤ 60 := hy0.2.2.2.2
  obtain ⟨hs1, hs2, hs3, hs4, hs5⟩ := sp_at hy0 hy1
  refine lv_aload_n hx hb d_T_word_0 rfl (lv_at hl 0 rfl) ?_
  refine lv_aload_n hx hb d_T_word_1 rfl (lv_at hl 0 rfl) ?_
  refine lv_iload_n hx hb d_T_word_2 rfl (lv_at hl 1 rfl) ?_
  refine va_csq (va_Run.run (va_runV (As := [.int (nI j)]) (rest := [.ref (aa 0)]) ⟨hx, hb, hml, hown, hw⟩ (k_T_spanNumbered l D T κ A aa zw kp fp e0 e1 oF oT kt ft ks fs fc S j q hy0 hy1) (cwV 1 hw (bg_V ml_T_141 wi_T_spanNumbered wv_T_spanNumbered wz_T wc_T_spanNumbered) rfl rfl rfl (by decide +kernel) ⟨Nat.le_of_ble_eq_true rfl, Nat.le_of_ble_eq_true rfl⟩) ⟨sPf_b, va_recv hK hP (ci := 5) (q0 := 0) rfl rfl, sPf_p hP hK hF hS⟩ rfl rfl hl.1 rfl (lv_room (Nat.le_of_ble_eq_true rfl)) d_T_word_3 ⟨Nat.le_of_ble_eq_true rfl, Nat.le_of_ble_eq_true rfl⟩)) (fun r1 hr1 => ?_)
  replace hr1 := hr1.symm; subst hr1
  refine W.eq (g2 := F0 m 6 ls [.ref q.1, .ref (aa 0)]) rfl ?_
  refine g_callv (va_runV (As := [.ref q.1]) (rest := []) ⟨hx, hb, hml, hown, hw⟩ (k_T_findShortest l D T κ aa zw kp fp e0 e1 oF oT kt ft ks fs fc S s.heap.size q hy0 hs5) (cwV 1 hw (bg_V ml_T_181 wi_T_findShortest wv_T_findShortest wz_T wc_T_findShortest) rfl rfl rfl (by decide +kernel) ⟨Nat.le_of_ble_eq_true rfl, Nat.le_of_ble_eq_true rfl⟩) ⟨qPf_b, va_recv hK hP (ci := 5) (q0 := 0) rfl rfl, qPf_p hP hK hD hF hS (g_free hD hS hA)⟩ rfl rfl hl.1 rfl (lv_room (Nat.le_of_ble_eq_true rfl)) d_T_word_6 ⟨Nat.le_of_ble_eq_true rfl, Nat.le_of_ble_eq_true rfl⟩) hD hS hA (fun u9 H locs hr2 hP hD hS => ?_)
  obtain ⟨u3, u4, u5, u6, u7, u8, u9, u10⟩ := u9
  dsimp only at hr2 hP hD
  have hP : va_P D gC (cX T aa zw kp fp u3 u4 u5 u6 u7 u8 u9 u10 fc S ++ tl T S) H := hP
  have hD : va_D A (cX T aa zw kp fp u3 u4 u5 u6 u7 u8 u9 u10 fc S ++ tl T S) := hD
  obtain ⟨ha1, ha2⟩ := hr2
  have ha3 : (c_wl zw q S).length = u9 := by rw [← ha1, ls_len]
  refine lv_iload_n hx hb d_T_word_9 rfl (lv_at hl 2 rfl) ?_
  refine lv_iconst (v := (-1)) hx hb d_T_word_10 (by decide) ?_
  refine lv_icmp_ne (tgt := 36) hx hb d_T_word_11 (by decide) (fun c11 => ?_) (fun c11 => absurd c11 (hy2))
  refine lv_iload_n hx hb d_T_word_36 rfl (lv_at hl 2 rfl) ?_
  refine lv_if_lt (tgt := 51) hx hb d_T_word_37 (by decide) (fun c12 => ?_) (fun c12 => ?_)
  · exact vx_throwS (rest := []) hx hb hl9 hown th_IO_f th_n (hw _ kl_T_184) (hw _ wz_IO) (hF.2.2.2.2 (186, "no such sign") (by decide)) (th_IO_w hw hF) th_IO_g hF.2.1.2.2.2.2.2.2.1 hF.2.1.2.2.2.2.2.2.2 hS (hl.1.trans hml.symm) (d_T_word_51) (d_T_word_54) (d_T_word_55) (d_T_word_57) (d_T_word_60) (fun x h9 => (htab x h9).elim) (Nat.le_of_ble_eq_true rfl) (Nat.le_of_ble_eq_true rfl) (Nat.le_of_ble_eq_true rfl) (Nat.le_of_ble_eq_true rfl) hlocks (fun t9 h8 h7 h6 => ⟨(u3, u4, u5, u6, u7, u8, u9, u10), trivial, ⟨rfl, hP.kept (fun k q hk => h6 _ (hP k q hk).lt), va_K.moved h8 hK, hD⟩, ⟨Nat.le_trans hS.1 h7, fun q h1 h2 => (h6 q (Nat.lt_of_lt_of_le h1 hS.1)).trans (hS.2.1 q h1 h2)⟩⟩) hS.2.2 (Nat.le_of_ble_eq_true rfl) (Nat.le_of_ble_eq_true rfl)
  · refine lv_iload_n hx hb d_T_word_40 rfl (lv_at hl 2 rfl) ?_
    refine lv_aload_n hx hb d_T_word_41 rfl (lv_at hl 0 rfl) ?_
    refine va_get (D := D) (ci := 5) (v := .ref (aa 6)) (C := "TimeWords") (T := F_T) (N := 8) hx hb hw in_T hown hK hP 0 rfl rfl 6 (by decide) (hw _ fl_T_44) (fun _ h9 => h9) rfl d_T_word_42 ?_
    refine va_get (D := D) (ci := 1) (v := .int (nI u9)) (C := "TimeWords$Row") (T := F_R) (N := 2) hx hb hw in_R hown hK hP 6 rfl rfl 1 (by decide) (hw _ fl_T_62) (fun _ h9 => h9) rfl d_T_word_45 ?_
    refine lv_icmp_lt (tgt := 61) hx hb d_T_word_48 (by decide) (fun c13 => ?_) (fun c13 => ?_)
    · exact False.elim (by obtain ⟨i9, g8, g9⟩ := wl_no c12 c13 ha2; exact hy3 i9 (by omega) g9)
    · exact vx_throwS (rest := []) hx hb hl9 hown th_IO_f th_n (hw _ kl_T_184) (hw _ wz_IO) (hF.2.2.2.2 (186, "no such sign") (by decide)) (th_IO_w hw hF) th_IO_g hF.2.1.2.2.2.2.2.2.1 hF.2.1.2.2.2.2.2.2.2 hS (hl.1.trans hml.symm) (d_T_word_51) (d_T_word_54) (d_T_word_55) (d_T_word_57) (d_T_word_60) (fun x h9 => (htab x h9).elim) (Nat.le_of_ble_eq_true rfl) (Nat.le_of_ble_eq_true rfl) (Nat.le_of_ble_eq_true rfl) (Nat.le_of_ble_eq_true rfl) hlocks (fun t9 h8 h7 h6 => ⟨(u3, u4, u5, u6, u7, u8, u9, u10), trivial, ⟨rfl, hP.kept (fun k q hk => h6 _ (hP k q hk).lt), va_K.moved h8 hK, hD⟩, ⟨Nat.le_trans hS.1 h7, fun q h1 h2 => (h6 q (Nat.lt_of_lt_of_le h1 hS.1)).trans (hS.2.1 q h1 h2)⟩⟩) hS.2.2 (Nat.le_of_ble_eq_true rfl) (Nat.le_of_ble_eq_true rfl)

set_option maxHeartbeats 4000000 in
set_option maxRecDepth 100000 in
theorem k_T_feast (l : Launch) (D : va_G) (T : gT) (κ : gS) (A : Nat → Prop) (aa : Nat → Nat) (zw : Int32) (kp : Nat) (fp : Nat → Int32) (e0 e1 : Int32) (oF oT : Bool) (kt : Nat) (ft : Nat → Int32) (ks : Nat) (fs fc : Nat → Int32) (S : tS) (x : Int32) (mm : Nat) (wk kk : Int32) (hy0 : j_in x (-9999) 9999 = true) (hy1 : 1 ≤ mm) (hy2 : mm ≤ 12) (hy3 : j_in wk 0 6 = true) (hy4 : (decide (kk = -1) || j_in kk 1 5) = true) : Met l y_T_feast (Cond.code y_T_feast b_T_feast 8 (some .int) :: bg_W) ({ frames := 3, cells := 0, slots := 0, locals := 65 }) (sPf κ A D T (cX T aa zw kp fp e0 e1 oF oT kt ft ks fs fc S ++ tl T S) [.ref (aa 0), .int x, .int (nI mm), .int wk, .int kk]) (vp_Si (fun r : Int32 => r = c_ff x mm wk kk)) 0 0 (fun _ => False) := by
  refine Met.ofW (cc := b_T_feast) (maxL := 8) (ret := (some .int)) (by decide) rfl ?_
  intro p e s m args below meth c s₁ B hml hv
  obtain ⟨rfl, hP, hK, hF⟩ := hv
  have hx := B.exec
  have hb := B.bytes
  have hr := B.returns
  have hw : ∀ w ∈ bg_W, w.before ([.ref (aa 0), .int x, .int (nI mm), .int wk, .int kk] : List Value).toArray s = true := fun w h => atoms_spec (ws := (Cond.code y_T_feast b_T_feast 8 (some .int) :: bg_W)) B.pre w (List.mem_cons_of_mem _ h)
  have hown : s.vm.findClass "TimeWords" = some m.cls := findClass_of_methodNamed B.named
  have hlocks := B.notSynchronized
  have hS : va_S A s.heap s.heap [] := va_S.rf
  have hl := lv_entry ([.ref (aa 0), .int x, .int (nI mm), .int wk, .int kk]) (n := 8) (Nat.le_of_ble_eq_true rfl)
  rw [lg_entry_eq]
  generalize (lg_sl ([.ref (aa 0), .int x, .int (nI mm), .int wk, .int kk]) ++ List.replicate (8 - (lg_sl ([.ref (aa 0), .int x, .int (nI mm), .int wk, .int kk])).length) Slot.unset).toArray = ls at hl ⊢
  have hl : lv_has ls 8 [(0, .ref (aa 0)), (1, .int x), (2, .int (nI mm)), (3, .int wk), (4, .int kk)] := hl
  obtain ⟨hA1, hA2⟩ : ¬ wk < 0 ∧ ¬ 6 < wk := by simpa [j_in] using hy3
  rcases ft_k hy4 with rfl | ⟨hk0, hk1, hk2⟩
  · refine lv_iload_n hx hb d_T_feast_0 rfl (lv_at hl 1 rfl) ?_
    refine vp_callSi (va_Run.run (va_runS (As := [.int x]) (rest := []) ⟨hx, hb, hml, hown, hw⟩ (k_T_isYear l x) (va_cwS 1 hw (bg_S ml_T_203 wt_T_isYear wz_T wc_T_isYear) rfl rfl rfl (by decide +kernel) ⟨Nat.le_of_ble_eq_true rfl, Nat.le_of_ble_eq_true rfl⟩) ⟨nP_b, nP_p⟩ rfl rfl hl.1 rfl (lv_room (Nat.le_of_ble_eq_true rfl)) d_T_feast_1 ⟨Nat.le_of_ble_eq_true rfl, Nat.le_of_ble_eq_true rfl⟩)) (fun r1 hr1 => ?_)
    replace hr1 := hr1.symm; subst hr1
    refine lv_if_eq (tgt := 30) hx hb d_T_feast_4 (by decide) (fun c2 => absurd c2 ((by rw [hy0]; decide))) (fun c2 => ?_)
    refine lv_iload_n hx hb d_T_feast_7 rfl (lv_at hl 2 rfl) ?_
    refine lv_iconst (v := 1) hx hb d_T_feast_8 (by decide) ?_
    refine lv_icmp_lt (tgt := 30) hx hb d_T_feast_9 (by decide) (fun c3 => absurd c3 ((show ¬ nI mm < nI 1 from nI_nlt (by omega) (by omega)))) (fun c3 => ?_)
    refine lv_iload_n hx hb d_T_feast_12 rfl (lv_at hl 2 rfl) ?_
    refine va_gets (v := .ref κ.2.2.2.1) hx hb hF.2.1.2.2.2.1 hS hown (hw _ fl_T_206) (fun _ h9 => h9) d_T_feast_13 ?_
    refine va_tlen (v := 12) hx hb hF.2.1.2.2.2.2.1 hS rfl d_T_feast_16 ?_
    refine lv_icmp_gt (tgt := 30) hx hb d_T_feast_17 (by decide) (fun c4 => absurd c4 ((show ¬ nI 12 < nI mm from nI_nlt (by omega) (by decide)))) (fun c4 => ?_)
    refine lv_iload_n hx hb d_T_feast_20 rfl (lv_at hl 3 rfl) ?_
    refine lv_if_lt (tgt := 30) hx hb d_T_feast_21 (by decide) (fun c5 => absurd c5 (hA1)) (fun c5 => ?_)
    refine lv_iload_n hx hb d_T_feast_24 rfl (lv_at hl 3 rfl) ?_
    refine lv_bipush (v := 7) hx hb d_T_feast_25 (by decide) ?_
    refine lv_icmp_lt (tgt := 40) hx hb d_T_feast_27 (by decide) (fun c6 => ?_) (fun c6 => absurd ((ft_7 hA2)) c6)
    refine lv_iload hx hb d_T_feast_40 (lv_at hl 4 rfl) ?_
    refine lv_iconst (v := (-1)) hx hb d_T_feast_42 (by decide) ?_
    refine lv_icmp_eq (tgt := 68) hx hb d_T_feast_43 (by decide) (fun c7 => ?_) (fun c7 => absurd c7 (by decide))
    refine lv_iload_n hx hb d_T_feast_68 rfl (lv_at hl 1 rfl) ?_
    refine lv_iload_n hx hb d_T_feast_69 rfl (lv_at hl 2 rfl) ?_
    have hPc : va_P D gC ([]) s.heap := pc0
    refine vp_callSi (va_Run.run (va_runS (As := [.int x, .int (nI mm)]) (rest := []) ⟨hx, hb, hml, hown, hw⟩ (k_T_daysIn l D T κ A x mm hy1 hy2) (va_cwS 2 hw (bg_S ml_T_213 wt_T_daysIn wz_T wc_T_daysIn) rfl rfl rfl (by decide +kernel) ⟨Nat.le_of_ble_eq_true rfl, Nat.le_of_ble_eq_true rfl⟩) ⟨sPf_b, sPf_p hPc hK hF hS⟩ rfl rfl hl.1 rfl (lv_room (Nat.le_of_ble_eq_true rfl)) d_T_feast_70 ⟨Nat.le_of_ble_eq_true rfl, Nat.le_of_ble_eq_true rfl⟩)) (fun r8 hr8 => ?_)
    replace hr8 := hr8.symm; subst hr8
    refine lv_istore (lv' := [(5, .int (j_dy x (nI mm))), (0, .ref (aa 0)), (1, .int x), (2, .int (nI mm)), (3, .int wk), (4, .int (-1))]) hx hb d_T_feast_73 hl (by decide) rfl (fun ls hl => ?_)
    refine lv_iconst (v := 1) hx hb d_T_feast_75 (by decide) ?_
    refine lv_iload_n hx hb d_T_feast_76 rfl (lv_at hl 4 rfl) ?_
    refine lv_iload_n hx hb d_T_feast_77 rfl (lv_at hl 2 rfl) ?_
    refine lv_iload_n hx hb d_T_feast_78 rfl (lv_at hl 3 rfl) ?_
    have hPc : va_P D gC ([]) s.heap := pc0
    refine vp_callSi (va_Run.run (va_runS (As := [.int x, .int (nI mm)]) (rest := [.int wk, .int 1]) ⟨hx, hb, hml, hown, hw⟩ (k_T_firstWeekday l D T κ A x mm hy1 hy2) (va_cwS 2 hw (bg_S ml_T_217 wt_T_firstWeekday wz_T wc_T_firstWeekday) rfl rfl rfl (by decide +kernel) ⟨Nat.le_of_ble_eq_true rfl, Nat.le_of_ble_eq_true rfl⟩) ⟨sPf_b, sPf_p hPc hK hF hS⟩ rfl rfl hl.1 rfl (lv_room (Nat.le_of_ble_eq_true rfl)) d_T_feast_79 ⟨Nat.le_of_ble_eq_true rfl, Nat.le_of_ble_eq_true rfl⟩)) (fun r9 hr9 => ?_)
    replace hr9 := hr9.symm; subst hr9
    refine lv_isub hx hb d_T_feast_82 ?_
    refine lv_bipush (v := 7) hx hb d_T_feast_83 (by decide) ?_
    refine vp_callSi (va_Run.run (va_runS (As := [.int (wk - (c_fm (j_md x (365 * (x - 1) + c_fd (x - 1) 4 - c_fd (x - 1) 100 + c_fd (x - 1) 400) (mm - 1)) 7)), .int 7]) (rest := [.int 1]) ⟨hx, hb, hml, hown, hw⟩ (k_MA_floorMod l (wk - (c_fm (j_md x (365 * (x - 1) + c_fd (x - 1) 4 - c_fd (x - 1) 100 + c_fd (x - 1) 400) (mm - 1)) 7)) 7 (by decide)) (va_cwS 2 hw (bg_S ml_T_220 wt_MA_floorMod wz_MA wc_MA_floorMod) rfl rfl rfl (by decide +kernel) ⟨Nat.le_of_ble_eq_true rfl, Nat.le_of_ble_eq_true rfl⟩) ⟨nP_b, nP_p⟩ rfl rfl hl.1 rfl (lv_room (Nat.le_of_ble_eq_true rfl)) d_T_feast_85 ⟨Nat.le_of_ble_eq_true rfl, Nat.le_of_ble_eq_true rfl⟩)) (fun r10 hr10 => ?_)
    replace hr10 := hr10.symm; subst hr10
    refine lv_iadd hx hb d_T_feast_88 ?_
    refine lv_istore (lv' := [(6, .int (1 + (c_fm (wk - (c_fm (j_md x (365 * (x - 1) + c_fd (x - 1) 4 - c_fd (x - 1) 100 + c_fd (x - 1) 400) (mm - 1)) 7)) 7))), (5, .int (j_dy x (nI mm))), (0, .ref (aa 0)), (1, .int x), (2, .int (nI mm)), (3, .int wk), (4, .int (-1))]) hx hb d_T_feast_89 hl (by decide) rfl (fun ls hl => ?_)
    refine lv_iload hx hb d_T_feast_91 (lv_at hl 6 rfl) ?_
    refine lv_iconst (v := (-1)) hx hb d_T_feast_93 (by decide) ?_
    refine lv_icmp_ne (tgt := 112) hx hb d_T_feast_94 (by decide) (fun c11 => absurd c11 (by decide)) (fun c11 => ?_)
    refine lv_iload hx hb d_T_feast_97 (lv_at hl 0 rfl) ?_
    refine lv_iload hx hb d_T_feast_99 (lv_at hl 1 rfl) ?_
    refine lv_iload hx hb d_T_feast_101 (lv_at hl 0 rfl) ?_
    refine lv_isub hx hb d_T_feast_103 ?_
    refine lv_bipush (v := 7) hx hb d_T_feast_104 (by decide) ?_
    refine lv_idiv hx hb d_T_feast_106 (by decide) ?_
    refine lv_bipush (v := 7) hx hb d_T_feast_107 (by decide) ?_
    refine lv_imul hx hb d_T_feast_109 ?_
    refine lv_iadd hx hb d_T_feast_110 ?_
    exact W.iret (v := (1 + (c_fm (wk - (c_fm (j_md x (365 * (x - 1) + c_fd (x - 1) 4 - c_fd (x - 1) 100 + c_fd (x - 1) 400) (mm - 1)) 7)) 7)) + ((((j_dy x (nI mm)) - (1 + (c_fm (wk - (c_fm (j_md x (365 * (x - 1) + c_fd (x - 1) 4 - c_fd (x - 1) 100 + c_fd (x - 1) 400) (mm - 1)) 7)) 7))) / 7) * 7)) hx hb hr (fun t ht hW => ⟨(1 + (c_fm (wk - (c_fm (j_md x (365 * (x - 1) + c_fd (x - 1) 4 - c_fd (x - 1) 100 + c_fd (x - 1) 400) (mm - 1)) 7)) 7)) + ((((j_dy x (nI mm)) - (1 + (c_fm (wk - (c_fm (j_md x (365 * (x - 1) + c_fd (x - 1) 4 - c_fd (x - 1) 100 + c_fd (x - 1) 400) (mm - 1)) 7)) 7))) / 7) * 7), rfl, (if_pos rfl).symm, ht⟩) (fun _ h => nomatch h) d_T_feast_111
  · refine lv_iload_n hx hb d_T_feast_0 rfl (lv_at hl 1 rfl) ?_
    refine vp_callSi (va_Run.run (va_runS (As := [.int x]) (rest := []) ⟨hx, hb, hml, hown, hw⟩ (k_T_isYear l x) (va_cwS 1 hw (bg_S ml_T_203 wt_T_isYear wz_T wc_T_isYear) rfl rfl rfl (by decide +kernel) ⟨Nat.le_of_ble_eq_true rfl, Nat.le_of_ble_eq_true rfl⟩) ⟨nP_b, nP_p⟩ rfl rfl hl.1 rfl (lv_room (Nat.le_of_ble_eq_true rfl)) d_T_feast_1 ⟨Nat.le_of_ble_eq_true rfl, Nat.le_of_ble_eq_true rfl⟩)) (fun r12 hr12 => ?_)
    replace hr12 := hr12.symm; subst hr12
    refine lv_if_eq (tgt := 30) hx hb d_T_feast_4 (by decide) (fun c13 => absurd c13 ((by rw [hy0]; decide))) (fun c13 => ?_)
    refine lv_iload_n hx hb d_T_feast_7 rfl (lv_at hl 2 rfl) ?_
    refine lv_iconst (v := 1) hx hb d_T_feast_8 (by decide) ?_
    refine lv_icmp_lt (tgt := 30) hx hb d_T_feast_9 (by decide) (fun c14 => absurd c14 ((show ¬ nI mm < nI 1 from nI_nlt (by omega) (by omega)))) (fun c14 => ?_)
    refine lv_iload_n hx hb d_T_feast_12 rfl (lv_at hl 2 rfl) ?_
    refine va_gets (v := .ref κ.2.2.2.1) hx hb hF.2.1.2.2.2.1 hS hown (hw _ fl_T_206) (fun _ h9 => h9) d_T_feast_13 ?_
    refine va_tlen (v := 12) hx hb hF.2.1.2.2.2.2.1 hS rfl d_T_feast_16 ?_
    refine lv_icmp_gt (tgt := 30) hx hb d_T_feast_17 (by decide) (fun c15 => absurd c15 ((show ¬ nI 12 < nI mm from nI_nlt (by omega) (by decide)))) (fun c15 => ?_)
    refine lv_iload_n hx hb d_T_feast_20 rfl (lv_at hl 3 rfl) ?_
    refine lv_if_lt (tgt := 30) hx hb d_T_feast_21 (by decide) (fun c16 => absurd c16 (hA1)) (fun c16 => ?_)
    refine lv_iload_n hx hb d_T_feast_24 rfl (lv_at hl 3 rfl) ?_
    refine lv_bipush (v := 7) hx hb d_T_feast_25 (by decide) ?_
    refine lv_icmp_lt (tgt := 40) hx hb d_T_feast_27 (by decide) (fun c17 => ?_) (fun c17 => absurd ((ft_7 hA2)) c17)
    refine lv_iload hx hb d_T_feast_40 (lv_at hl 4 rfl) ?_
    refine lv_iconst (v := (-1)) hx hb d_T_feast_42 (by decide) ?_
    refine lv_icmp_eq (tgt := 68) hx hb d_T_feast_43 (by decide) (fun c18 => absurd c18 (hk0)) (fun c18 => ?_)
    refine lv_iload hx hb d_T_feast_46 (lv_at hl 4 rfl) ?_
    refine lv_iconst (v := 1) hx hb d_T_feast_48 (by decide) ?_
    refine lv_icmp_lt (tgt := 58) hx hb d_T_feast_49 (by decide) (fun c19 => absurd c19 (hk1)) (fun c19 => ?_)
    refine lv_iload hx hb d_T_feast_52 (lv_at hl 4 rfl) ?_
    refine lv_iconst (v := 5) hx hb d_T_feast_54 (by decide) ?_
    refine lv_icmp_le (tgt := 68) hx hb d_T_feast_55 (by decide) (fun c20 => ?_) (fun c20 => absurd (hk2) c20)
    refine lv_iload_n hx hb d_T_feast_68 rfl (lv_at hl 1 rfl) ?_
    refine lv_iload_n hx hb d_T_feast_69 rfl (lv_at hl 2 rfl) ?_
    have hPc : va_P D gC ([]) s.heap := pc0
    refine vp_callSi (va_Run.run (va_runS (As := [.int x, .int (nI mm)]) (rest := []) ⟨hx, hb, hml, hown, hw⟩ (k_T_daysIn l D T κ A x mm hy1 hy2) (va_cwS 2 hw (bg_S ml_T_213 wt_T_daysIn wz_T wc_T_daysIn) rfl rfl rfl (by decide +kernel) ⟨Nat.le_of_ble_eq_true rfl, Nat.le_of_ble_eq_true rfl⟩) ⟨sPf_b, sPf_p hPc hK hF hS⟩ rfl rfl hl.1 rfl (lv_room (Nat.le_of_ble_eq_true rfl)) d_T_feast_70 ⟨Nat.le_of_ble_eq_true rfl, Nat.le_of_ble_eq_true rfl⟩)) (fun r21 hr21 => ?_)
    replace hr21 := hr21.symm; subst hr21
    refine lv_istore (lv' := [(5, .int (j_dy x (nI mm))), (0, .ref (aa 0)), (1, .int x), (2, .int (nI mm)), (3, .int wk), (4, .int kk)]) hx hb d_T_feast_73 hl (by decide) rfl (fun ls hl => ?_)
    refine lv_iconst (v := 1) hx hb d_T_feast_75 (by decide) ?_
    refine lv_iload_n hx hb d_T_feast_76 rfl (lv_at hl 4 rfl) ?_
    refine lv_iload_n hx hb d_T_feast_77 rfl (lv_at hl 2 rfl) ?_
    refine lv_iload_n hx hb d_T_feast_78 rfl (lv_at hl 3 rfl) ?_
    have hPc : va_P D gC ([]) s.heap := pc0
    refine vp_callSi (va_Run.run (va_runS (As := [.int x, .int (nI mm)]) (rest := [.int wk, .int 1]) ⟨hx, hb, hml, hown, hw⟩ (k_T_firstWeekday l D T κ A x mm hy1 hy2) (va_cwS 2 hw (bg_S ml_T_217 wt_T_firstWeekday wz_T wc_T_firstWeekday) rfl rfl rfl (by decide +kernel) ⟨Nat.le_of_ble_eq_true rfl, Nat.le_of_ble_eq_true rfl⟩) ⟨sPf_b, sPf_p hPc hK hF hS⟩ rfl rfl hl.1 rfl (lv_room (Nat.le_of_ble_eq_true rfl)) d_T_feast_79 ⟨Nat.le_of_ble_eq_true rfl, Nat.le_of_ble_eq_true rfl⟩)) (fun r22 hr22 => ?_)
    replace hr22 := hr22.symm; subst hr22
    refine lv_isub hx hb d_T_feast_82 ?_
    refine lv_bipush (v := 7) hx hb d_T_feast_83 (by decide) ?_
    refine vp_callSi (va_Run.run (va_runS (As := [.int (wk - (c_fm (j_md x (365 * (x - 1) + c_fd (x - 1) 4 - c_fd (x - 1) 100 + c_fd (x - 1) 400) (mm - 1)) 7)), .int 7]) (rest := [.int 1]) ⟨hx, hb, hml, hown, hw⟩ (k_MA_floorMod l (wk - (c_fm (j_md x (365 * (x - 1) + c_fd (x - 1) 4 - c_fd (x - 1) 100 + c_fd (x - 1) 400) (mm - 1)) 7)) 7 (by decide)) (va_cwS 2 hw (bg_S ml_T_220 wt_MA_floorMod wz_MA wc_MA_floorMod) rfl rfl rfl (by decide +kernel) ⟨Nat.le_of_ble_eq_true rfl, Nat.le_of_ble_eq_true rfl⟩) ⟨nP_b, nP_p⟩ rfl rfl hl.1 rfl (lv_room (Nat.le_of_ble_eq_true rfl)) d_T_feast_85 ⟨Nat.le_of_ble_eq_true rfl, Nat.le_of_ble_eq_true rfl⟩)) (fun r23 hr23 => ?_)
    replace hr23 := hr23.symm; subst hr23
    refine lv_iadd hx hb d_T_feast_88 ?_
    refine lv_istore (lv' := [(6, .int (1 + (c_fm (wk - (c_fm (j_md x (365 * (x - 1) + c_fd (x - 1) 4 - c_fd (x - 1) 100 + c_fd (x - 1) 400) (mm - 1)) 7)) 7))), (5, .int (j_dy x (nI mm))), (0, .ref (aa 0)), (1, .int x), (2, .int (nI mm)), (3, .int wk), (4, .int kk)]) hx hb d_T_feast_89 hl (by decide) rfl (fun ls hl => ?_)
    refine lv_iload hx hb d_T_feast_91 (lv_at hl 6 rfl) ?_
    refine lv_iconst (v := (-1)) hx hb d_T_feast_93 (by decide) ?_
    refine lv_icmp_ne (tgt := 112) hx hb d_T_feast_94 (by decide) (fun c24 => ?_) (fun c24 => absurd c24 (hk0))
    refine lv_iload hx hb d_T_feast_112 (lv_at hl 0 rfl) ?_
    refine lv_iload hx hb d_T_feast_114 (lv_at hl 6 rfl) ?_
    refine lv_iconst (v := 1) hx hb d_T_feast_116 (by decide) ?_
    refine lv_isub hx hb d_T_feast_117 ?_
    refine lv_bipush (v := 7) hx hb d_T_feast_118 (by decide) ?_
    refine lv_imul hx hb d_T_feast_120 ?_
    refine lv_iadd hx hb d_T_feast_121 ?_
    refine lv_istore (lv' := [(7, .int ((1 + (c_fm (wk - (c_fm (j_md x (365 * (x - 1) + c_fd (x - 1) 4 - c_fd (x - 1) 100 + c_fd (x - 1) 400) (mm - 1)) 7)) 7)) + ((kk - 1) * 7))), (6, .int (1 + (c_fm (wk - (c_fm (j_md x (365 * (x - 1) + c_fd (x - 1) 4 - c_fd (x - 1) 100 + c_fd (x - 1) 400) (mm - 1)) 7)) 7))), (5, .int (j_dy x (nI mm))), (0, .ref (aa 0)), (1, .int x), (2, .int (nI mm)), (3, .int wk), (4, .int kk)]) hx hb d_T_feast_122 hl (by decide) rfl (fun ls hl => ?_)
    refine lv_iload hx hb d_T_feast_124 (lv_at hl 0 rfl) ?_
    refine lv_iload hx hb d_T_feast_126 (lv_at hl 2 rfl) ?_
    refine lv_icmp_gt (tgt := 136) hx hb d_T_feast_128 (by decide) (fun c25 => ?_) (fun c25 => ?_)
    · refine lv_iconst (v := 0) hx hb d_T_feast_136 (by decide) ?_
      exact W.iret (v := 0) hx hb hr (fun t ht hW => ⟨0, rfl, ((if_neg hk0).trans (if_pos c25)).symm, ht⟩) (fun _ h => nomatch h) d_T_feast_137
    · refine lv_iload hx hb d_T_feast_131 (lv_at hl 0 rfl) ?_
      refine lv_goto (tgt := 137) hx hb d_T_feast_133 (by decide) ?_
      exact W.iret (v := (1 + (c_fm (wk - (c_fm (j_md x (365 * (x - 1) + c_fd (x - 1) 4 - c_fd (x - 1) 100 + c_fd (x - 1) 400) (mm - 1)) 7)) 7)) + ((kk - 1) * 7)) hx hb hr (fun t ht hW => ⟨(1 + (c_fm (wk - (c_fm (j_md x (365 * (x - 1) + c_fd (x - 1) 4 - c_fd (x - 1) 100 + c_fd (x - 1) 400) (mm - 1)) 7)) 7)) + ((kk - 1) * 7), rfl, ((if_neg hk0).trans (if_neg c25)).symm, ht⟩) (fun _ h => nomatch h) d_T_feast_137

set_option maxHeartbeats 4000000 in
set_option maxRecDepth 100000 in
theorem k_T_feast_x (l : Launch) (hl9 : l.stackTraces = false) (D : va_G) (T : gT) (κ : gS) (A : Nat → Prop) (aa : Nat → Nat) (zw : Int32) (kp : Nat) (fp : Nat → Int32) (e0 e1 : Int32) (oF oT : Bool) (kt : Nat) (ft : Nat → Int32) (ks : Nat) (fs fc : Nat → Int32) (S : tS) (sz : Nat) (x mo wk kk : Int32) (hy0 : (j_in x (-9999) 9999 && (j_in mo 1 12 && j_in wk 0 6)) = false) : vx_Met l y_T_feast (Cond.code y_T_feast b_T_feast 8 (some .int) :: bg_W) ({ frames := 7, cells := 1, slots := 6, locals := 110 }) (xPf κ A D T (cX T aa zw kp fp e0 e1 oF oT kt ft ks fs fc S ++ tl T S) [.ref (aa 0), .int x, .int mo, .int wk, .int kk] sz) xN (xE "java/lang/IllegalArgumentException" sz) 1 6 (fun q => sz ≤ q) := by
  refine vx_ofW (cc := b_T_feast) (maxL := 8) (ret := (some .int)) (by decide) rfl ?_
  intro p e s m args below meth c s₁ B hml htab hv
  obtain ⟨rfl, hsz, hP, hK, hF⟩ := hv
  have hx := B.exec
  have hb := B.bytes
  have hr := B.returns
  have hw : ∀ w ∈ bg_W, w.before ([.ref (aa 0), .int x, .int mo, .int wk, .int kk] : List Value).toArray s = true := fun w h => atoms_spec (ws := (Cond.code y_T_feast b_T_feast 8 (some .int) :: bg_W)) B.pre w (List.mem_cons_of_mem _ h)
  have hown : s.vm.findClass "TimeWords" = some m.cls := findClass_of_methodNamed B.named
  have hlocks := B.notSynchronized
  subst hsz
  have hS : va_S A s.heap s.heap [] := va_S.rf
  have hl := lv_entry ([.ref (aa 0), .int x, .int mo, .int wk, .int kk]) (n := 8) (Nat.le_of_ble_eq_true rfl)
  rw [lg_entry_eq]
  generalize (lg_sl ([.ref (aa 0), .int x, .int mo, .int wk, .int kk]) ++ List.replicate (8 - (lg_sl ([.ref (aa 0), .int x, .int mo, .int wk, .int kk])).length) Slot.unset).toArray = ls at hl ⊢
  have hl : lv_has ls 8 [(0, .ref (aa 0)), (1, .int x), (2, .int mo), (3, .int wk), (4, .int kk)] := hl
  refine lv_iload_n hx hb d_T_feast_0 rfl (lv_at hl 1 rfl) ?_
  refine vp_callSi (va_Run.run (va_runS (As := [.int x]) (rest := []) ⟨hx, hb, hml, hown, hw⟩ (k_T_isYear l x) (va_cwS 1 hw (bg_S ml_T_203 wt_T_isYear wz_T wc_T_isYear) rfl rfl rfl (by decide +kernel) ⟨Nat.le_of_ble_eq_true rfl, Nat.le_of_ble_eq_true rfl⟩) ⟨nP_b, nP_p⟩ rfl rfl hl.1 rfl (lv_room (Nat.le_of_ble_eq_true rfl)) d_T_feast_1 ⟨Nat.le_of_ble_eq_true rfl, Nat.le_of_ble_eq_true rfl⟩)) (fun r1 hr1 => ?_)
  replace hr1 := hr1.symm; subst hr1
  refine lv_if_eq (tgt := 30) hx hb d_T_feast_4 (by decide) (fun c2 => ?_) (fun c2 => ?_)
  · have c2 := b2i_f c2
    exact vx_throwS (rest := []) hx hb hl9 hown th_IA_f th_n (hw _ kl_T_55) (hw _ wz_IA) (hF.2.2.2.2 (209, "no year, month or day of the week") (by decide)) (th_IA_w hw hF) th_IA_g hF.2.1.2.2.2.2.2.2.1 hF.2.1.2.2.2.2.2.2.2 hS (hl.1.trans hml.symm) (d_T_feast_30) (d_T_feast_33) (d_T_feast_34) (d_T_feast_36) (d_T_feast_39) (fun x h9 => (htab x h9).elim) (Nat.le_of_ble_eq_true rfl) (Nat.le_of_ble_eq_true rfl) (Nat.le_of_ble_eq_true rfl) (Nat.le_of_ble_eq_true rfl) hlocks (fun t9 h8 h7 h6 => ⟨(), trivial, rfl, ⟨h7, fun q h1 _ => h6 q h1⟩⟩) (fun z h9 => absurd h9 List.not_mem_nil) (Nat.le_of_ble_eq_true rfl) (Nat.le_of_ble_eq_true rfl)
  · have c2 := b2i_t c2
    refine lv_iload_n hx hb d_T_feast_7 rfl (lv_at hl 2 rfl) ?_
    refine lv_iconst (v := 1) hx hb d_T_feast_8 (by decide) ?_
    refine lv_icmp_lt (tgt := 30) hx hb d_T_feast_9 (by decide) (fun c3 => ?_) (fun c3 => ?_)
    · exact vx_throwS (rest := []) hx hb hl9 hown th_IA_f th_n (hw _ kl_T_55) (hw _ wz_IA) (hF.2.2.2.2 (209, "no year, month or day of the week") (by decide)) (th_IA_w hw hF) th_IA_g hF.2.1.2.2.2.2.2.2.1 hF.2.1.2.2.2.2.2.2.2 hS (hl.1.trans hml.symm) (d_T_feast_30) (d_T_feast_33) (d_T_feast_34) (d_T_feast_36) (d_T_feast_39) (fun x h9 => (htab x h9).elim) (Nat.le_of_ble_eq_true rfl) (Nat.le_of_ble_eq_true rfl) (Nat.le_of_ble_eq_true rfl) (Nat.le_of_ble_eq_true rfl) hlocks (fun t9 h8 h7 h6 => ⟨(), trivial, rfl, ⟨h7, fun q h1 _ => h6 q h1⟩⟩) (fun z h9 => absurd h9 List.not_mem_nil) (Nat.le_of_ble_eq_true rfl) (Nat.le_of_ble_eq_true rfl)
    · refine lv_iload_n hx hb d_T_feast_12 rfl (lv_at hl 2 rfl) ?_
      refine va_gets (v := .ref κ.2.2.2.1) hx hb hF.2.1.2.2.2.1 hS hown (hw _ fl_T_206) (fun _ h9 => h9) d_T_feast_13 ?_
      refine va_tlen (v := 12) hx hb hF.2.1.2.2.2.2.1 hS rfl d_T_feast_16 ?_
      refine lv_icmp_gt (tgt := 30) hx hb d_T_feast_17 (by decide) (fun c4 => ?_) (fun c4 => ?_)
      · exact vx_throwS (rest := []) hx hb hl9 hown th_IA_f th_n (hw _ kl_T_55) (hw _ wz_IA) (hF.2.2.2.2 (209, "no year, month or day of the week") (by decide)) (th_IA_w hw hF) th_IA_g hF.2.1.2.2.2.2.2.2.1 hF.2.1.2.2.2.2.2.2.2 hS (hl.1.trans hml.symm) (d_T_feast_30) (d_T_feast_33) (d_T_feast_34) (d_T_feast_36) (d_T_feast_39) (fun x h9 => (htab x h9).elim) (Nat.le_of_ble_eq_true rfl) (Nat.le_of_ble_eq_true rfl) (Nat.le_of_ble_eq_true rfl) (Nat.le_of_ble_eq_true rfl) hlocks (fun t9 h8 h7 h6 => ⟨(), trivial, rfl, ⟨h7, fun q h1 _ => h6 q h1⟩⟩) (fun z h9 => absurd h9 List.not_mem_nil) (Nat.le_of_ble_eq_true rfl) (Nat.le_of_ble_eq_true rfl)
      · refine lv_iload_n hx hb d_T_feast_20 rfl (lv_at hl 3 rfl) ?_
        refine lv_if_lt (tgt := 30) hx hb d_T_feast_21 (by decide) (fun c5 => ?_) (fun c5 => ?_)
        · exact vx_throwS (rest := []) hx hb hl9 hown th_IA_f th_n (hw _ kl_T_55) (hw _ wz_IA) (hF.2.2.2.2 (209, "no year, month or day of the week") (by decide)) (th_IA_w hw hF) th_IA_g hF.2.1.2.2.2.2.2.2.1 hF.2.1.2.2.2.2.2.2.2 hS (hl.1.trans hml.symm) (d_T_feast_30) (d_T_feast_33) (d_T_feast_34) (d_T_feast_36) (d_T_feast_39) (fun x h9 => (htab x h9).elim) (Nat.le_of_ble_eq_true rfl) (Nat.le_of_ble_eq_true rfl) (Nat.le_of_ble_eq_true rfl) (Nat.le_of_ble_eq_true rfl) hlocks (fun t9 h8 h7 h6 => ⟨(), trivial, rfl, ⟨h7, fun q h1 _ => h6 q h1⟩⟩) (fun z h9 => absurd h9 List.not_mem_nil) (Nat.le_of_ble_eq_true rfl) (Nat.le_of_ble_eq_true rfl)
        · refine lv_iload_n hx hb d_T_feast_24 rfl (lv_at hl 3 rfl) ?_
          refine lv_bipush (v := 7) hx hb d_T_feast_25 (by decide) ?_
          refine lv_icmp_lt (tgt := 40) hx hb d_T_feast_27 (by decide) (fun c6 => ?_) (fun c6 => ?_)
          · exact False.elim (by rw [c2] at hy0; simp [j_in, c3, c4, c5, ft_6 c6] at hy0)
          · exact vx_throwS (rest := []) hx hb hl9 hown th_IA_f th_n (hw _ kl_T_55) (hw _ wz_IA) (hF.2.2.2.2 (209, "no year, month or day of the week") (by decide)) (th_IA_w hw hF) th_IA_g hF.2.1.2.2.2.2.2.2.1 hF.2.1.2.2.2.2.2.2.2 hS (hl.1.trans hml.symm) (d_T_feast_30) (d_T_feast_33) (d_T_feast_34) (d_T_feast_36) (d_T_feast_39) (fun x h9 => (htab x h9).elim) (Nat.le_of_ble_eq_true rfl) (Nat.le_of_ble_eq_true rfl) (Nat.le_of_ble_eq_true rfl) (Nat.le_of_ble_eq_true rfl) hlocks (fun t9 h8 h7 h6 => ⟨(), trivial, rfl, ⟨h7, fun q h1 _ => h6 q h1⟩⟩) (fun z h9 => absurd h9 List.not_mem_nil) (Nat.le_of_ble_eq_true rfl) (Nat.le_of_ble_eq_true rfl)

set_option maxHeartbeats 4000000 in
set_option maxRecDepth 100000 in
theorem k_T_feast_y (l : Launch) (hl9 : l.stackTraces = false) (D : va_G) (T : gT) (κ : gS) (A : Nat → Prop) (aa : Nat → Nat) (zw : Int32) (kp : Nat) (fp : Nat → Int32) (e0 e1 : Int32) (oF oT : Bool) (kt : Nat) (ft : Nat → Int32) (ks : Nat) (fs fc : Nat → Int32) (S : tS) (sz : Nat) (x mo wk kk : Int32) (hy0 : (j_in x (-9999) 9999 && (j_in mo 1 12 && j_in wk 0 6)) = true) (hy1 : (decide (kk = -1) || j_in kk 1 5) = false) : vx_Met l y_T_feast (Cond.code y_T_feast b_T_feast 8 (some .int) :: bg_W) ({ frames := 7, cells := 1, slots := 6, locals := 110 }) (xPf κ A D T (cX T aa zw kp fp e0 e1 oF oT kt ft ks fs fc S ++ tl T S) [.ref (aa 0), .int x, .int mo, .int wk, .int kk] sz) xN (xE "java/lang/IllegalArgumentException" sz) 1 6 (fun q => sz ≤ q) := by
  refine vx_ofW (cc := b_T_feast) (maxL := 8) (ret := (some .int)) (by decide) rfl ?_
  intro p e s m args below meth c s₁ B hml htab hv
  obtain ⟨rfl, hsz, hP, hK, hF⟩ := hv
  have hx := B.exec
  have hb := B.bytes
  have hr := B.returns
  have hw : ∀ w ∈ bg_W, w.before ([.ref (aa 0), .int x, .int mo, .int wk, .int kk] : List Value).toArray s = true := fun w h => atoms_spec (ws := (Cond.code y_T_feast b_T_feast 8 (some .int) :: bg_W)) B.pre w (List.mem_cons_of_mem _ h)
  have hown : s.vm.findClass "TimeWords" = some m.cls := findClass_of_methodNamed B.named
  have hlocks := B.notSynchronized
  subst hsz
  have hS : va_S A s.heap s.heap [] := va_S.rf
  have hl := lv_entry ([.ref (aa 0), .int x, .int mo, .int wk, .int kk]) (n := 8) (Nat.le_of_ble_eq_true rfl)
  rw [lg_entry_eq]
  generalize (lg_sl ([.ref (aa 0), .int x, .int mo, .int wk, .int kk]) ++ List.replicate (8 - (lg_sl ([.ref (aa 0), .int x, .int mo, .int wk, .int kk])).length) Slot.unset).toArray = ls at hl ⊢
  have hl : lv_has ls 8 [(0, .ref (aa 0)), (1, .int x), (2, .int mo), (3, .int wk), (4, .int kk)] := hl
  obtain ⟨hB0, hC0, hC1⟩ : j_in x (-9999) 9999 = true ∧ j_in mo 1 12 = true ∧ j_in wk 0 6 = true := by simpa only [Bool.and_eq_true] using hy0
  obtain ⟨hB1, hB2⟩ : ¬ mo < 1 ∧ ¬ 12 < mo := by simpa [j_in] using hC0
  obtain ⟨hA1, hA2⟩ : ¬ wk < 0 ∧ ¬ 6 < wk := by simpa [j_in] using hC1
  refine lv_iload_n hx hb d_T_feast_0 rfl (lv_at hl 1 rfl) ?_
  refine vp_callSi (va_Run.run (va_runS (As := [.int x]) (rest := []) ⟨hx, hb, hml, hown, hw⟩ (k_T_isYear l x) (va_cwS 1 hw (bg_S ml_T_203 wt_T_isYear wz_T wc_T_isYear) rfl rfl rfl (by decide +kernel) ⟨Nat.le_of_ble_eq_true rfl, Nat.le_of_ble_eq_true rfl⟩) ⟨nP_b, nP_p⟩ rfl rfl hl.1 rfl (lv_room (Nat.le_of_ble_eq_true rfl)) d_T_feast_1 ⟨Nat.le_of_ble_eq_true rfl, Nat.le_of_ble_eq_true rfl⟩)) (fun r1 hr1 => ?_)
  replace hr1 := hr1.symm; subst hr1
  refine lv_if_eq (tgt := 30) hx hb d_T_feast_4 (by decide) (fun c2 => absurd c2 ((by rw [hB0]; decide))) (fun c2 => ?_)
  refine lv_iload_n hx hb d_T_feast_7 rfl (lv_at hl 2 rfl) ?_
  refine lv_iconst (v := 1) hx hb d_T_feast_8 (by decide) ?_
  refine lv_icmp_lt (tgt := 30) hx hb d_T_feast_9 (by decide) (fun c3 => absurd c3 (hB1)) (fun c3 => ?_)
  refine lv_iload_n hx hb d_T_feast_12 rfl (lv_at hl 2 rfl) ?_
  refine va_gets (v := .ref κ.2.2.2.1) hx hb hF.2.1.2.2.2.1 hS hown (hw _ fl_T_206) (fun _ h9 => h9) d_T_feast_13 ?_
  refine va_tlen (v := 12) hx hb hF.2.1.2.2.2.2.1 hS rfl d_T_feast_16 ?_
  refine lv_icmp_gt (tgt := 30) hx hb d_T_feast_17 (by decide) (fun c4 => absurd c4 (hB2)) (fun c4 => ?_)
  refine lv_iload_n hx hb d_T_feast_20 rfl (lv_at hl 3 rfl) ?_
  refine lv_if_lt (tgt := 30) hx hb d_T_feast_21 (by decide) (fun c5 => absurd c5 (hA1)) (fun c5 => ?_)
  refine lv_iload_n hx hb d_T_feast_24 rfl (lv_at hl 3 rfl) ?_
  refine lv_bipush (v := 7) hx hb d_T_feast_25 (by decide) ?_
  refine lv_icmp_lt (tgt := 40) hx hb d_T_feast_27 (by decide) (fun c6 => ?_) (fun c6 => absurd ((ft_7 hA2)) c6)
  refine lv_iload hx hb d_T_feast_40 (lv_at hl 4 rfl) ?_
  refine lv_iconst (v := (-1)) hx hb d_T_feast_42 (by decide) ?_
  refine lv_icmp_eq (tgt := 68) hx hb d_T_feast_43 (by decide) (fun c7 => ?_) (fun c7 => ?_)
  · exact False.elim (by simp [c7] at hy1)
  · refine lv_iload hx hb d_T_feast_46 (lv_at hl 4 rfl) ?_
    refine lv_iconst (v := 1) hx hb d_T_feast_48 (by decide) ?_
    refine lv_icmp_lt (tgt := 58) hx hb d_T_feast_49 (by decide) (fun c8 => ?_) (fun c8 => ?_)
    · exact vx_throwS (rest := []) hx hb hl9 hown th_IA_f th_n (hw _ kl_T_55) (hw _ wz_IA) (hF.2.2.2.2 (211, "no such one of the month") (by decide)) (th_IA_w hw hF) th_IA_g hF.2.1.2.2.2.2.2.2.1 hF.2.1.2.2.2.2.2.2.2 hS (hl.1.trans hml.symm) (d_T_feast_58) (d_T_feast_61) (d_T_feast_62) (d_T_feast_64) (d_T_feast_67) (fun x h9 => (htab x h9).elim) (Nat.le_of_ble_eq_true rfl) (Nat.le_of_ble_eq_true rfl) (Nat.le_of_ble_eq_true rfl) (Nat.le_of_ble_eq_true rfl) hlocks (fun t9 h8 h7 h6 => ⟨(), trivial, rfl, ⟨h7, fun q h1 _ => h6 q h1⟩⟩) (fun z h9 => absurd h9 List.not_mem_nil) (Nat.le_of_ble_eq_true rfl) (Nat.le_of_ble_eq_true rfl)
    · refine lv_iload hx hb d_T_feast_52 (lv_at hl 4 rfl) ?_
      refine lv_iconst (v := 5) hx hb d_T_feast_54 (by decide) ?_
      refine lv_icmp_le (tgt := 68) hx hb d_T_feast_55 (by decide) (fun c9 => ?_) (fun c9 => ?_)
      · exact False.elim (by simp [j_in, c8, Int32.not_lt.mpr c9] at hy1)
      · exact vx_throwS (rest := []) hx hb hl9 hown th_IA_f th_n (hw _ kl_T_55) (hw _ wz_IA) (hF.2.2.2.2 (211, "no such one of the month") (by decide)) (th_IA_w hw hF) th_IA_g hF.2.1.2.2.2.2.2.2.1 hF.2.1.2.2.2.2.2.2.2 hS (hl.1.trans hml.symm) (d_T_feast_58) (d_T_feast_61) (d_T_feast_62) (d_T_feast_64) (d_T_feast_67) (fun x h9 => (htab x h9).elim) (Nat.le_of_ble_eq_true rfl) (Nat.le_of_ble_eq_true rfl) (Nat.le_of_ble_eq_true rfl) (Nat.le_of_ble_eq_true rfl) hlocks (fun t9 h8 h7 h6 => ⟨(), trivial, rfl, ⟨h7, fun q h1 _ => h6 q h1⟩⟩) (fun z h9 => absurd h9 List.not_mem_nil) (Nat.le_of_ble_eq_true rfl) (Nat.le_of_ble_eq_true rfl)

set_option maxHeartbeats 4000000 in
set_option maxRecDepth 100000 in
theorem k_T_init (l : Launch) (D : va_G) (T : gT) (κ : gS) (to : Nat) (sz : Nat) : Met l y_T_init (Cond.code y_T_init b_T_init 1 none :: bg_W) ({ frames := 4, cells := 10, slots := 97, locals := 72 }) (qPf κ D T ([(to, .inr (5, [.null, .null, .null, .int 0, .null, .null, .null, .null]))]) [.ref to] sz) (va_Qv (fun u : Nat × Nat × Nat × Nat × Nat × Nat × Nat × Nat × Nat × Nat => match u with | (g1, g2, g3, g4, g5, g6, g7, g8, g9, g10) => True) (qB D T (va_A ([(to, .inr (5, [.null, .null, .null, .int 0, .null, .null, .null, .null]))]) sz) (fun u : Nat × Nat × Nat × Nat × Nat × Nat × Nat × Nat × Nat × Nat => match u with | (g1, g2, g3, g4, g5, g6, g7, g8, g9, g10) => [(to, .inr (5, [.ref g1, .ref g3, .ref g4, .int 25, .ref g5, .ref g6, .ref g8, .ref g10])), (g1, .inr (1, [.ref g2, .int 0])), (g2, .inl (T.1, 24, .inl (fun _ => 0))), (g3, .inr (0, [.ref κ.2.2.1, .int 0, .int 0])), (g4, .inr (0, [.ref κ.2.2.1, .int 0, .int 0])), (g5, .inr (2, [.int 0, .int 0, .int 0, .int 0])), (g6, .inr (1, [.ref g7, .int 0])), (g7, .inl (T.1, 24, .inl (fun _ => 0))), (g8, .inr (1, [.ref g9, .int 0])), (g9, .inl (T.1, 24, .inl (fun _ => 0))), (g10, .inl (T.1, 9, .inl (fun _ => 0)))])) (va_A ([(to, .inr (5, [.null, .null, .null, .int 0, .null, .null, .null, .null]))]) sz)) 10 97 (va_A ([(to, .inr (5, [.null, .null, .null, .int 0, .null, .null, .null, .null]))]) sz) := by
  refine Met.ofW (cc := b_T_init) (maxL := 1) (ret := none) (by decide) rfl ?_
  intro p e s m args below meth c s₁ B hml hv
  obtain ⟨rfl, hsz, hP, hK, hD0, hF⟩ := hv
  have hx := B.exec
  have hb := B.bytes
  have hr := B.returns
  have hw : ∀ w ∈ bg_W, w.before ([.ref to] : List Value).toArray s = true := fun w h => atoms_spec (ws := (Cond.code y_T_init b_T_init 1 none :: bg_W)) B.pre w (List.mem_cons_of_mem _ h)
  have hown : s.vm.findClass "TimeWords" = some m.cls := findClass_of_methodNamed B.named
  have hlocks := B.notSynchronized
  subst hsz
  have hD := hD0.self (sz := s.heap.size)
  generalize hAe : va_A ([(to, .inr (5, [.null, .null, .null, .int 0, .null, .null, .null, .null]))]) s.heap.size = A at hD hF ⊢
  have hA : ∀ q : Nat, s.heap.size ≤ q → A q := fun q h => by rw [← hAe]; exact Or.inr h
  have hS : va_S A s.heap s.heap [] := va_S.rf
  have hl := lv_entry ([.ref to]) (n := 1) (Nat.le_of_ble_eq_true rfl)
  rw [lg_entry_eq]
  generalize (lg_sl ([.ref to]) ++ List.replicate (1 - (lg_sl ([.ref to])).length) Slot.unset).toArray = ls at hl ⊢
  have hl : lv_has ls 1 [(0, .ref to)] := hl
  have hin : meth.name = "<init>" := (name_of_methodNamed B.named B.method).1
  refine lv_aload_n hx hb d_T_init_0 rfl (lv_at hl 0 rfl) ?_
  refine W.objInit hx hb hown (hw _ ml_T_1) (hw _ wi_OB_init) (hw _ wc_OB_init) rfl (by rw [hml]; exact hl.1) rfl d_T_init_1 (Nat.le_of_ble_eq_true rfl) (Nat.le_of_ble_eq_true rfl) ?_
  refine W.eq (g2 := F0 m 4 ls []) rfl ?_
  refine lv_aload_n hx hb d_T_init_4 rfl (lv_at hl 0 rfl) ?_
  refine va_new (ci := 1) (fs := [.null, .int 0]) (C := "TimeWords$Row") (T := F_R) (N := 2) hx hb hw in_R ty_R ty_R_ok hown (hw _ kl_T_7) (hw _ wn_R) (hw _ wz_R) hK hP hD hS hA rfl (by decide +kernel) (Nat.le_of_ble_eq_true rfl) (Nat.le_of_ble_eq_true rfl) d_T_init_5 (fun q1 H hP hD hS => ?_)
  have hP : va_P D gC ([(to, .inr (5, [.null, .null, .null, .int 0, .null, .null, .null, .null])), (q1, .inr (1, [.null, .int 0]))]) H := hP
  have hD : va_D A ([(to, .inr (5, [.null, .null, .null, .int 0, .null, .null, .null, .null])), (q1, .inr (1, [.null, .int 0]))]) := hD
  refine W.widen (k := 1) (n := 2) (by omega) (by omega) ?_
  refine lv_dup hx hb d_T_init_8 rfl ?_
  refine lv_bipush (v := 24) hx hb d_T_init_9 (by decide) ?_
  have hPc : va_P D gC ([(q1, .inr (1, [.null, .int 0]))]) H := (pc1 (hP 1 _ rfl) pc0)
  have hDc : va_D A ([(q1, .inr (1, [.null, .int 0]))]) := hD.sub (ws' := [(q1, .inr (1, [.null, .int 0]))]) [1] (by decide) rfl
  refine g_subv (X := [(to, .inr (5, [.null, .null, .null, .int 0, .null, .null, .null, .null])), (q1, .inr (1, [.null, .int 0]))]) (pl := []) (wr := [(to, .inr (5, [.null, .null, .null, .int 0, .null, .null, .null, .null]))]) (cx := [(q1, .inr (1, [.null, .int 0]))]) (va_runI (As := [.int 24]) (rest := [.ref q1, .ref to]) ⟨hx, hb, hml, hown, hw⟩ (k_R_init_24 l D T q1 H.size) (cwI 1 hw (bg_c wc_R_init) rfl rfl rfl (hw _ wz_R) (hw _ ml_T_11) (hw _ wi_R_init) rfl (by decide +kernel) ⟨Nat.le_of_ble_eq_true rfl, Nat.le_of_ble_eq_true rfl⟩) ⟨qP_b, qP_p hPc hK hDc⟩ rfl rfl hl.1 rfl (lv_room (Nat.le_of_ble_eq_true rfl)) d_T_init_11 ⟨Nat.le_of_ble_eq_true rfl, Nat.le_of_ble_eq_true rfl⟩) (by rw [List.append_nil]; exact hP) (by rw [List.append_nil]; exact hD) hS hA [1] [0] rfl rfl (by decide) (by decide) (fun u3 H locs hr2 hP hD hS => ?_)
  have hP : va_P D gC ([(to, .inr (5, [.null, .null, .null, .int 0, .null, .null, .null, .null])), (q1, .inr (1, [.ref u3, .int 0])), (u3, .inl (T.1, 24, .inl (fun _ => 0)))]) H := (by rw [List.append_nil] at hP; exact hP.sub [0, 1, 2] rfl)
  have hD : va_D A ([(to, .inr (5, [.null, .null, .null, .int 0, .null, .null, .null, .null])), (q1, .inr (1, [.ref u3, .int 0])), (u3, .inl (T.1, 24, .inl (fun _ => 0)))]) := (by rw [List.append_nil] at hD; exact hD.sub [0, 1, 2] (by decide) rfl)
  refine va_putF (D := D) (ci := 5) (v := .ref q1) (ty := .object "TimeWords$Row") (C := "TimeWords") (T := F_T) (N := 8) hx hb hw in_T ty_T ty_T_ok n_T hown hK hP hD hS 0 rfl rfl 0 (by decide) (hw _ fl_T_14) (fun _ h9 => h9) rfl hin rfl (by decide +kernel) rfl rfl (Nat.le_of_ble_eq_true rfl) d_T_init_14 (fun H locs hP hD hS => ?_)
  have hP : va_P D gC ([(to, .inr (5, [.ref q1, .null, .null, .int 0, .null, .null, .null, .null])), (q1, .inr (1, [.ref u3, .int 0])), (u3, .inl (T.1, 24, .inl (fun _ => 0)))]) H := hP
  have hD : va_D A ([(to, .inr (5, [.ref q1, .null, .null, .int 0, .null, .null, .null, .null])), (q1, .inr (1, [.ref u3, .int 0])), (u3, .inl (T.1, 24, .inl (fun _ => 0)))]) := hD
  refine lv_aload_n hx hb d_T_init_17 rfl (lv_at hl 0 rfl) ?_
  refine va_new (ci := 0) (fs := [.null, .int 0, .int 0]) (C := "java/util/ArrayList") (T := F_A) (N := 3) hx hb hw in_A ty_A ty_A_ok hown (hw _ kl_T_18) (hw _ wn_A) (hw _ wz_A) hK hP hD hS hA rfl (by decide +kernel) (Nat.le_of_ble_eq_true rfl) (Nat.le_of_ble_eq_true rfl) d_T_init_18 (fun q4 H hP hD hS => ?_)
  have hP : va_P D gC ([(to, .inr (5, [.ref q1, .null, .null, .int 0, .null, .null, .null, .null])), (q1, .inr (1, [.ref u3, .int 0])), (u3, .inl (T.1, 24, .inl (fun _ => 0))), (q4, .inr (0, [.null, .int 0, .int 0]))]) H := hP
  have hD : va_D A ([(to, .inr (5, [.ref q1, .null, .null, .int 0, .null, .null, .null, .null])), (q1, .inr (1, [.ref u3, .int 0])), (u3, .inl (T.1, 24, .inl (fun _ => 0))), (q4, .inr (0, [.null, .int 0, .int 0]))]) := hD
  refine W.widen (k := 3) (n := 29) (by omega) (by omega) ?_
  refine lv_dup hx hb d_T_init_21 rfl ?_
  have hPc : va_P D gC ([(q4, .inr (0, [.null, .int 0, .int 0]))]) H := (pc1 (hP 3 _ rfl) pc0)
  have hDc : va_D A ([(q4, .inr (0, [.null, .int 0, .int 0]))]) := hD.sub (ws' := [(q4, .inr (0, [.null, .int 0, .int 0]))]) [3] (by decide) rfl
  refine g_subv (X := [(to, .inr (5, [.ref q1, .null, .null, .int 0, .null, .null, .null, .null])), (q1, .inr (1, [.ref u3, .int 0])), (u3, .inl (T.1, 24, .inl (fun _ => 0))), (q4, .inr (0, [.null, .int 0, .int 0]))]) (pl := []) (wr := [(to, .inr (5, [.ref q1, .null, .null, .int 0, .null, .null, .null, .null])), (q1, .inr (1, [.ref u3, .int 0])), (u3, .inl (T.1, 24, .inl (fun _ => 0)))]) (cx := [(q4, .inr (0, [.null, .int 0, .int 0]))]) (va_runI (As := []) (rest := [.ref q4, .ref to]) ⟨hx, hb, hml, hown, hw⟩ (k_A_init l D T κ q4 H.size) (cwI 0 hw (bg_c wc_A_init) rfl rfl rfl (hw _ wz_A) (hw _ ml_T_20) (hw _ wi_A_init) rfl (by decide +kernel) ⟨Nat.le_of_ble_eq_true rfl, Nat.le_of_ble_eq_true rfl⟩) ⟨qPf_b, qPf_p hPc hK hDc hF hS (g_free hDc hS hA)⟩ rfl rfl hl.1 rfl (lv_room (Nat.le_of_ble_eq_true rfl)) d_T_init_22 ⟨Nat.le_of_ble_eq_true rfl, Nat.le_of_ble_eq_true rfl⟩) (by rw [List.append_nil]; exact hP) (by rw [List.append_nil]; exact hD) hS hA [3] [0, 1, 2] rfl rfl (by decide) (by decide) (fun _ H locs hr5 hP hD hS => ?_)
  have hP : va_P D gC ([(to, .inr (5, [.ref q1, .null, .null, .int 0, .null, .null, .null, .null])), (q1, .inr (1, [.ref u3, .int 0])), (u3, .inl (T.1, 24, .inl (fun _ => 0))), (q4, .inr (0, [.ref κ.2.2.1, .int 0, .int 0]))]) H := (by rw [List.append_nil] at hP; exact hP.sub [0, 1, 2, 3] rfl)
  have hD : va_D A ([(to, .inr (5, [.ref q1, .null, .null, .int 0, .null, .null, .null, .null])), (q1, .inr (1, [.ref u3, .int 0])), (u3, .inl (T.1, 24, .inl (fun _ => 0))), (q4, .inr (0, [.ref κ.2.2.1, .int 0, .int 0]))]) := (by rw [List.append_nil] at hD; exact hD.sub [0, 1, 2, 3] (by decide) rfl)
  refine va_putF (D := D) (ci := 5) (v := .ref q4) (ty := .object "java/util/ArrayList") (C := "TimeWords") (T := F_T) (N := 8) hx hb hw in_T ty_T ty_T_ok n_T hown hK hP hD hS 0 rfl rfl 1 (by decide) (hw _ fl_T_21) (fun _ h9 => h9) rfl hin rfl (by decide +kernel) rfl rfl (Nat.le_of_ble_eq_true rfl) d_T_init_25 (fun H locs hP hD hS => ?_)
  have hP : va_P D gC ([(to, .inr (5, [.ref q1, .ref q4, .null, .int 0, .null, .null, .null, .null])), (q1, .inr (1, [.ref u3, .int 0])), (u3, .inl (T.1, 24, .inl (fun _ => 0))), (q4, .inr (0, [.ref κ.2.2.1, .int 0, .int 0]))]) H := hP
  have hD : va_D A ([(to, .inr (5, [.ref q1, .ref q4, .null, .int 0, .null, .null, .null, .null])), (q1, .inr (1, [.ref u3, .int 0])), (u3, .inl (T.1, 24, .inl (fun _ => 0))), (q4, .inr (0, [.ref κ.2.2.1, .int 0, .int 0]))]) := hD
  refine lv_aload_n hx hb d_T_init_28 rfl (lv_at hl 0 rfl) ?_
  refine va_new (ci := 0) (fs := [.null, .int 0, .int 0]) (C := "java/util/ArrayList") (T := F_A) (N := 3) hx hb hw in_A ty_A ty_A_ok hown (hw _ kl_T_18) (hw _ wn_A) (hw _ wz_A) hK hP hD hS hA rfl (by decide +kernel) (Nat.le_of_ble_eq_true rfl) (Nat.le_of_ble_eq_true rfl) d_T_init_29 (fun q6 H hP hD hS => ?_)
  have hP : va_P D gC ([(to, .inr (5, [.ref q1, .ref q4, .null, .int 0, .null, .null, .null, .null])), (q1, .inr (1, [.ref u3, .int 0])), (u3, .inl (T.1, 24, .inl (fun _ => 0))), (q4, .inr (0, [.ref κ.2.2.1, .int 0, .int 0])), (q6, .inr (0, [.null, .int 0, .int 0]))]) H := hP
  have hD : va_D A ([(to, .inr (5, [.ref q1, .ref q4, .null, .int 0, .null, .null, .null, .null])), (q1, .inr (1, [.ref u3, .int 0])), (u3, .inl (T.1, 24, .inl (fun _ => 0))), (q4, .inr (0, [.ref κ.2.2.1, .int 0, .int 0])), (q6, .inr (0, [.null, .int 0, .int 0]))]) := hD
  refine W.widen (k := 4) (n := 32) (by omega) (by omega) ?_
  refine lv_dup hx hb d_T_init_32 rfl ?_
  have hPc : va_P D gC ([(q6, .inr (0, [.null, .int 0, .int 0]))]) H := (pc1 (hP 4 _ rfl) pc0)
  have hDc : va_D A ([(q6, .inr (0, [.null, .int 0, .int 0]))]) := hD.sub (ws' := [(q6, .inr (0, [.null, .int 0, .int 0]))]) [4] (by decide) rfl
  refine g_subv (X := [(to, .inr (5, [.ref q1, .ref q4, .null, .int 0, .null, .null, .null, .null])), (q1, .inr (1, [.ref u3, .int 0])), (u3, .inl (T.1, 24, .inl (fun _ => 0))), (q4, .inr (0, [.ref κ.2.2.1, .int 0, .int 0])), (q6, .inr (0, [.null, .int 0, .int 0]))]) (pl := []) (wr := [(to, .inr (5, [.ref q1, .ref q4, .null, .int 0, .null, .null, .null, .null])), (q1, .inr (1, [.ref u3, .int 0])), (u3, .inl (T.1, 24, .inl (fun _ => 0))), (q4, .inr (0, [.ref κ.2.2.1, .int 0, .int 0]))]) (cx := [(q6, .inr (0, [.null, .int 0, .int 0]))]) (va_runI (As := []) (rest := [.ref q6, .ref to]) ⟨hx, hb, hml, hown, hw⟩ (k_A_init l D T κ q6 H.size) (cwI 0 hw (bg_c wc_A_init) rfl rfl rfl (hw _ wz_A) (hw _ ml_T_20) (hw _ wi_A_init) rfl (by decide +kernel) ⟨Nat.le_of_ble_eq_true rfl, Nat.le_of_ble_eq_true rfl⟩) ⟨qPf_b, qPf_p hPc hK hDc hF hS (g_free hDc hS hA)⟩ rfl rfl hl.1 rfl (lv_room (Nat.le_of_ble_eq_true rfl)) d_T_init_33 ⟨Nat.le_of_ble_eq_true rfl, Nat.le_of_ble_eq_true rfl⟩) (by rw [List.append_nil]; exact hP) (by rw [List.append_nil]; exact hD) hS hA [4] [0, 1, 2, 3] rfl rfl (by decide) (by decide) (fun _ H locs hr7 hP hD hS => ?_)
  have hP : va_P D gC ([(to, .inr (5, [.ref q1, .ref q4, .null, .int 0, .null, .null, .null, .null])), (q1, .inr (1, [.ref u3, .int 0])), (u3, .inl (T.1, 24, .inl (fun _ => 0))), (q4, .inr (0, [.ref κ.2.2.1, .int 0, .int 0])), (q6, .inr (0, [.ref κ.2.2.1, .int 0, .int 0]))]) H := (by rw [List.append_nil] at hP; exact hP.sub [0, 1, 2, 3, 4] rfl)
  have hD : va_D A ([(to, .inr (5, [.ref q1, .ref q4, .null, .int 0, .null, .null, .null, .null])), (q1, .inr (1, [.ref u3, .int 0])), (u3, .inl (T.1, 24, .inl (fun _ => 0))), (q4, .inr (0, [.ref κ.2.2.1, .int 0, .int 0])), (q6, .inr (0, [.ref κ.2.2.1, .int 0, .int 0]))]) := (by rw [List.append_nil] at hD; exact hD.sub [0, 1, 2, 3, 4] (by decide) rfl)
  refine va_putF (D := D) (ci := 5) (v := .ref q6) (ty := .object "java/util/ArrayList") (C := "TimeWords") (T := F_T) (N := 8) hx hb hw in_T ty_T ty_T_ok n_T hown hK hP hD hS 0 rfl rfl 2 (by decide) (hw _ fl_T_25) (fun _ h9 => h9) rfl hin rfl (by decide +kernel) rfl rfl (Nat.le_of_ble_eq_true rfl) d_T_init_36 (fun H locs hP hD hS => ?_)
  have hP : va_P D gC ([(to, .inr (5, [.ref q1, .ref q4, .ref q6, .int 0, .null, .null, .null, .null])), (q1, .inr (1, [.ref u3, .int 0])), (u3, .inl (T.1, 24, .inl (fun _ => 0))), (q4, .inr (0, [.ref κ.2.2.1, .int 0, .int 0])), (q6, .inr (0, [.ref κ.2.2.1, .int 0, .int 0]))]) H := hP
  have hD : va_D A ([(to, .inr (5, [.ref q1, .ref q4, .ref q6, .int 0, .null, .null, .null, .null])), (q1, .inr (1, [.ref u3, .int 0])), (u3, .inl (T.1, 24, .inl (fun _ => 0))), (q4, .inr (0, [.ref κ.2.2.1, .int 0, .int 0])), (q6, .inr (0, [.ref κ.2.2.1, .int 0, .int 0]))]) := hD
  refine lv_aload_n hx hb d_T_init_39 rfl (lv_at hl 0 rfl) ?_
  refine lv_bipush (v := 25) hx hb d_T_init_40 (by decide) ?_
  refine va_put (D := D) (ci := 5) (v := .int 25) (ty := .int) (C := "TimeWords") (T := F_T) (N := 8) hx hb hw in_T ty_T ty_T_ok n_T hown hK hP hD hS 0 rfl rfl 3 (by decide) (hw _ fl_T_28) (fun _ h9 => h9) rfl (by decide +kernel) rfl rfl (Nat.le_of_ble_eq_true rfl) d_T_init_42 (fun H locs hP hD hS => ?_)
  have hP : va_P D gC ([(to, .inr (5, [.ref q1, .ref q4, .ref q6, .int 25, .null, .null, .null, .null])), (q1, .inr (1, [.ref u3, .int 0])), (u3, .inl (T.1, 24, .inl (fun _ => 0))), (q4, .inr (0, [.ref κ.2.2.1, .int 0, .int 0])), (q6, .inr (0, [.ref κ.2.2.1, .int 0, .int 0]))]) H := hP
  have hD : va_D A ([(to, .inr (5, [.ref q1, .ref q4, .ref q6, .int 25, .null, .null, .null, .null])), (q1, .inr (1, [.ref u3, .int 0])), (u3, .inl (T.1, 24, .inl (fun _ => 0))), (q4, .inr (0, [.ref κ.2.2.1, .int 0, .int 0])), (q6, .inr (0, [.ref κ.2.2.1, .int 0, .int 0]))]) := hD
  refine lv_aload_n hx hb d_T_init_45 rfl (lv_at hl 0 rfl) ?_
  refine va_new (ci := 2) (fs := [.int 0, .int 0, .int 0, .int 0]) (C := "TimeWords$Years") (T := F_Y) (N := 4) hx hb hw in_Y ty_Y ty_Y_ok hown (hw _ kl_T_32) (hw _ wn_Y) (hw _ wz_Y) hK hP hD hS hA rfl (by decide +kernel) (Nat.le_of_ble_eq_true rfl) (Nat.le_of_ble_eq_true rfl) d_T_init_46 (fun q8 H hP hD hS => ?_)
  have hP : va_P D gC ([(to, .inr (5, [.ref q1, .ref q4, .ref q6, .int 25, .null, .null, .null, .null])), (q1, .inr (1, [.ref u3, .int 0])), (u3, .inl (T.1, 24, .inl (fun _ => 0))), (q4, .inr (0, [.ref κ.2.2.1, .int 0, .int 0])), (q6, .inr (0, [.ref κ.2.2.1, .int 0, .int 0])), (q8, .inr (2, [.int 0, .int 0, .int 0, .int 0]))]) H := hP
  have hD : va_D A ([(to, .inr (5, [.ref q1, .ref q4, .ref q6, .int 25, .null, .null, .null, .null])), (q1, .inr (1, [.ref u3, .int 0])), (u3, .inl (T.1, 24, .inl (fun _ => 0))), (q4, .inr (0, [.ref κ.2.2.1, .int 0, .int 0])), (q6, .inr (0, [.ref κ.2.2.1, .int 0, .int 0])), (q8, .inr (2, [.int 0, .int 0, .int 0, .int 0]))]) := hD
  refine W.widen (k := 5) (n := 36) (by omega) (by omega) ?_
  refine lv_dup hx hb d_T_init_49 rfl ?_
  refine lv_iconst (v := 0) hx hb d_T_init_50 (by decide) ?_
  refine lv_iconst (v := 0) hx hb d_T_init_51 (by decide) ?_
  have hPc : va_P D gC ([(q8, .inr (2, [.int 0, .int 0, .int 0, .int 0]))]) H := (pc1 (hP 5 _ rfl) pc0)
  have hDc : va_D A ([(q8, .inr (2, [.int 0, .int 0, .int 0, .int 0]))]) := hD.sub (ws' := [(q8, .inr (2, [.int 0, .int 0, .int 0, .int 0]))]) [5] (by decide) rfl
  refine g_subv (X := [(to, .inr (5, [.ref q1, .ref q4, .ref q6, .int 25, .null, .null, .null, .null])), (q1, .inr (1, [.ref u3, .int 0])), (u3, .inl (T.1, 24, .inl (fun _ => 0))), (q4, .inr (0, [.ref κ.2.2.1, .int 0, .int 0])), (q6, .inr (0, [.ref κ.2.2.1, .int 0, .int 0])), (q8, .inr (2, [.int 0, .int 0, .int 0, .int 0]))]) (pl := []) (wr := [(to, .inr (5, [.ref q1, .ref q4, .ref q6, .int 25, .null, .null, .null, .null])), (q1, .inr (1, [.ref u3, .int 0])), (u3, .inl (T.1, 24, .inl (fun _ => 0))), (q4, .inr (0, [.ref κ.2.2.1, .int 0, .int 0])), (q6, .inr (0, [.ref κ.2.2.1, .int 0, .int 0]))]) (cx := [(q8, .inr (2, [.int 0, .int 0, .int 0, .int 0]))]) (va_runI (As := [.int 0, .int 0]) (rest := [.ref q8, .ref to]) ⟨hx, hb, hml, hown, hw⟩ (k_Y_init l D T q8 0 0 0 0 H.size 0 0) (cwI 2 hw (bg_c wc_Y_init) rfl rfl rfl (hw _ wz_Y) (hw _ ml_T_34) (hw _ wi_Y_init) rfl (by decide +kernel) ⟨Nat.le_of_ble_eq_true rfl, Nat.le_of_ble_eq_true rfl⟩) ⟨qP_b, qP_p hPc hK hDc⟩ rfl rfl hl.1 rfl (lv_room (Nat.le_of_ble_eq_true rfl)) d_T_init_52 ⟨Nat.le_of_ble_eq_true rfl, Nat.le_of_ble_eq_true rfl⟩) (by rw [List.append_nil]; exact hP) (by rw [List.append_nil]; exact hD) hS hA [5] [0, 1, 2, 3, 4] rfl rfl (by decide) (by decide) (fun u9 H locs hr9 hP hD hS => ?_)
  obtain ⟨u10, u11, u12, u13⟩ := u9
  dsimp only at hr9 hP hD
  obtain ⟨q0, q1, q2, q3⟩ := hr9
  replace q0 := q0.symm; subst q0; replace q1 := q1.symm; subst q1; replace q2 := q2.symm; subst q2; replace q3 := q3.symm; subst q3
  have hP : va_P D gC ([(to, .inr (5, [.ref q1, .ref q4, .ref q6, .int 25, .null, .null, .null, .null])), (q1, .inr (1, [.ref u3, .int 0])), (u3, .inl (T.1, 24, .inl (fun _ => 0))), (q4, .inr (0, [.ref κ.2.2.1, .int 0, .int 0])), (q6, .inr (0, [.ref κ.2.2.1, .int 0, .int 0])), (q8, .inr (2, [.int 0, .int 0, .int 0, .int 0]))]) H := (by rw [List.append_nil] at hP; exact hP.sub [0, 1, 2, 3, 4, 5] rfl)
  have hD : va_D A ([(to, .inr (5, [.ref q1, .ref q4, .ref q6, .int 25, .null, .null, .null, .null])), (q1, .inr (1, [.ref u3, .int 0])), (u3, .inl (T.1, 24, .inl (fun _ => 0))), (q4, .inr (0, [.ref κ.2.2.1, .int 0, .int 0])), (q6, .inr (0, [.ref κ.2.2.1, .int 0, .int 0])), (q8, .inr (2, [.int 0, .int 0, .int 0, .int 0]))]) := (by rw [List.append_nil] at hD; exact hD.sub [0, 1, 2, 3, 4, 5] (by decide) rfl)
  refine va_putF (D := D) (ci := 5) (v := .ref q8) (ty := .object "TimeWords$Years") (C := "TimeWords") (T := F_T) (N := 8) hx hb hw in_T ty_T ty_T_ok n_T hown hK hP hD hS 0 rfl rfl 4 (by decide) (hw _ fl_T_37) (fun _ h9 => h9) rfl hin rfl (by decide +kernel) rfl rfl (Nat.le_of_ble_eq_true rfl) d_T_init_55 (fun H locs hP hD hS => ?_)
  have hP : va_P D gC ([(to, .inr (5, [.ref q1, .ref q4, .ref q6, .int 25, .ref q8, .null, .null, .null])), (q1, .inr (1, [.ref u3, .int 0])), (u3, .inl (T.1, 24, .inl (fun _ => 0))), (q4, .inr (0, [.ref κ.2.2.1, .int 0, .int 0])), (q6, .inr (0, [.ref κ.2.2.1, .int 0, .int 0])), (q8, .inr (2, [.int 0, .int 0, .int 0, .int 0]))]) H := hP
  have hD : va_D A ([(to, .inr (5, [.ref q1, .ref q4, .ref q6, .int 25, .ref q8, .null, .null, .null])), (q1, .inr (1, [.ref u3, .int 0])), (u3, .inl (T.1, 24, .inl (fun _ => 0))), (q4, .inr (0, [.ref κ.2.2.1, .int 0, .int 0])), (q6, .inr (0, [.ref κ.2.2.1, .int 0, .int 0])), (q8, .inr (2, [.int 0, .int 0, .int 0, .int 0]))]) := hD
  refine lv_aload_n hx hb d_T_init_58 rfl (lv_at hl 0 rfl) ?_
  refine va_new (ci := 1) (fs := [.null, .int 0]) (C := "TimeWords$Row") (T := F_R) (N := 2) hx hb hw in_R ty_R ty_R_ok hown (hw _ kl_T_7) (hw _ wn_R) (hw _ wz_R) hK hP hD hS hA rfl (by decide +kernel) (Nat.le_of_ble_eq_true rfl) (Nat.le_of_ble_eq_true rfl) d_T_init_59 (fun q14 H hP hD hS => ?_)
  have hP : va_P D gC ([(to, .inr (5, [.ref q1, .ref q4, .ref q6, .int 25, .ref q8, .null, .null, .null])), (q1, .inr (1, [.ref u3, .int 0])), (u3, .inl (T.1, 24, .inl (fun _ => 0))), (q4, .inr (0, [.ref κ.2.2.1, .int 0, .int 0])), (q6, .inr (0, [.ref κ.2.2.1, .int 0, .int 0])), (q8, .inr (2, [.int 0, .int 0, .int 0, .int 0])), (q14, .inr (1, [.null, .int 0]))]) H := hP
  have hD : va_D A ([(to, .inr (5, [.ref q1, .ref q4, .ref q6, .int 25, .ref q8, .null, .null, .null])), (q1, .inr (1, [.ref u3, .int 0])), (u3, .inl (T.1, 24, .inl (fun _ => 0))), (q4, .inr (0, [.ref κ.2.2.1, .int 0, .int 0])), (q6, .inr (0, [.ref κ.2.2.1, .int 0, .int 0])), (q8, .inr (2, [.int 0, .int 0, .int 0, .int 0])), (q14, .inr (1, [.null, .int 0]))]) := hD
  refine W.widen (k := 6) (n := 38) (by omega) (by omega) ?_
  refine lv_dup hx hb d_T_init_62 rfl ?_
  refine lv_bipush (v := 24) hx hb d_T_init_63 (by decide) ?_
  have hPc : va_P D gC ([(q14, .inr (1, [.null, .int 0]))]) H := (pc1 (hP 6 _ rfl) pc0)
  have hDc : va_D A ([(q14, .inr (1, [.null, .int 0]))]) := hD.sub (ws' := [(q14, .inr (1, [.null, .int 0]))]) [6] (by decide) rfl
  refine g_subv (X := [(to, .inr (5, [.ref q1, .ref q4, .ref q6, .int 25, .ref q8, .null, .null, .null])), (q1, .inr (1, [.ref u3, .int 0])), (u3, .inl (T.1, 24, .inl (fun _ => 0))), (q4, .inr (0, [.ref κ.2.2.1, .int 0, .int 0])), (q6, .inr (0, [.ref κ.2.2.1, .int 0, .int 0])), (q8, .inr (2, [.int 0, .int 0, .int 0, .int 0])), (q14, .inr (1, [.null, .int 0]))]) (pl := []) (wr := [(to, .inr (5, [.ref q1, .ref q4, .ref q6, .int 25, .ref q8, .null, .null, .null])), (q1, .inr (1, [.ref u3, .int 0])), (u3, .inl (T.1, 24, .inl (fun _ => 0))), (q4, .inr (0, [.ref κ.2.2.1, .int 0, .int 0])), (q6, .inr (0, [.ref κ.2.2.1, .int 0, .int 0])), (q8, .inr (2, [.int 0, .int 0, .int 0, .int 0]))]) (cx := [(q14, .inr (1, [.null, .int 0]))]) (va_runI (As := [.int 24]) (rest := [.ref q14, .ref to]) ⟨hx, hb, hml, hown, hw⟩ (k_R_init_24 l D T q14 H.size) (cwI 1 hw (bg_c wc_R_init) rfl rfl rfl (hw _ wz_R) (hw _ ml_T_11) (hw _ wi_R_init) rfl (by decide +kernel) ⟨Nat.le_of_ble_eq_true rfl, Nat.le_of_ble_eq_true rfl⟩) ⟨qP_b, qP_p hPc hK hDc⟩ rfl rfl hl.1 rfl (lv_room (Nat.le_of_ble_eq_true rfl)) d_T_init_65 ⟨Nat.le_of_ble_eq_true rfl, Nat.le_of_ble_eq_true rfl⟩) (by rw [List.append_nil]; exact hP) (by rw [List.append_nil]; exact hD) hS hA [6] [0, 1, 2, 3, 4, 5] rfl rfl (by decide) (by decide) (fun u16 H locs hr15 hP hD hS => ?_)
  have hP : va_P D gC ([(to, .inr (5, [.ref q1, .ref q4, .ref q6, .int 25, .ref q8, .null, .null, .null])), (q1, .inr (1, [.ref u3, .int 0])), (u3, .inl (T.1, 24, .inl (fun _ => 0))), (q4, .inr (0, [.ref κ.2.2.1, .int 0, .int 0])), (q6, .inr (0, [.ref κ.2.2.1, .int 0, .int 0])), (q8, .inr (2, [.int 0, .int 0, .int 0, .int 0])), (q14, .inr (1, [.ref u16, .int 0])), (u16, .inl (T.1, 24, .inl (fun _ => 0)))]) H := (by rw [List.append_nil] at hP; exact hP.sub [0, 1, 2, 3, 4, 5, 6, 7] rfl)
  have hD : va_D A ([(to, .inr (5, [.ref q1, .ref q4, .ref q6, .int 25, .ref q8, .null, .null, .null])), (q1, .inr (1, [.ref u3, .int 0])), (u3, .inl (T.1, 24, .inl (fun _ => 0))), (q4, .inr (0, [.ref κ.2.2.1, .int 0, .int 0])), (q6, .inr (0, [.ref κ.2.2.1, .int 0, .int 0])), (q8, .inr (2, [.int 0, .int 0, .int 0, .int 0])), (q14, .inr (1, [.ref u16, .int 0])), (u16, .inl (T.1, 24, .inl (fun _ => 0)))]) := (by rw [List.append_nil] at hD; exact hD.sub [0, 1, 2, 3, 4, 5, 6, 7] (by decide) rfl)
  refine va_putF (D := D) (ci := 5) (v := .ref q14) (ty := .object "TimeWords$Row") (C := "TimeWords") (T := F_T) (N := 8) hx hb hw in_T ty_T ty_T_ok n_T hown hK hP hD hS 0 rfl rfl 5 (by decide) (hw _ fl_T_41) (fun _ h9 => h9) rfl hin rfl (by decide +kernel) rfl rfl (Nat.le_of_ble_eq_true rfl) d_T_init_68 (fun H locs hP hD hS => ?_)
  have hP : va_P D gC ([(to, .inr (5, [.ref q1, .ref q4, .ref q6, .int 25, .ref q8, .ref q14, .null, .null])), (q1, .inr (1, [.ref u3, .int 0])), (u3, .inl (T.1, 24, .inl (fun _ => 0))), (q4, .inr (0, [.ref κ.2.2.1, .int 0, .int 0])), (q6, .inr (0, [.ref κ.2.2.1, .int 0, .int 0])), (q8, .inr (2, [.int 0, .int 0, .int 0, .int 0])), (q14, .inr (1, [.ref u16, .int 0])), (u16, .inl (T.1, 24, .inl (fun _ => 0)))]) H := hP
  have hD : va_D A ([(to, .inr (5, [.ref q1, .ref q4, .ref q6, .int 25, .ref q8, .ref q14, .null, .null])), (q1, .inr (1, [.ref u3, .int 0])), (u3, .inl (T.1, 24, .inl (fun _ => 0))), (q4, .inr (0, [.ref κ.2.2.1, .int 0, .int 0])), (q6, .inr (0, [.ref κ.2.2.1, .int 0, .int 0])), (q8, .inr (2, [.int 0, .int 0, .int 0, .int 0])), (q14, .inr (1, [.ref u16, .int 0])), (u16, .inl (T.1, 24, .inl (fun _ => 0)))]) := hD
  refine lv_aload_n hx hb d_T_init_71 rfl (lv_at hl 0 rfl) ?_
  refine va_new (ci := 1) (fs := [.null, .int 0]) (C := "TimeWords$Row") (T := F_R) (N := 2) hx hb hw in_R ty_R ty_R_ok hown (hw _ kl_T_7) (hw _ wn_R) (hw _ wz_R) hK hP hD hS hA rfl (by decide +kernel) (Nat.le_of_ble_eq_true rfl) (Nat.le_of_ble_eq_true rfl) d_T_init_72 (fun q17 H hP hD hS => ?_)
  have hP : va_P D gC ([(to, .inr (5, [.ref q1, .ref q4, .ref q6, .int 25, .ref q8, .ref q14, .null, .null])), (q1, .inr (1, [.ref u3, .int 0])), (u3, .inl (T.1, 24, .inl (fun _ => 0))), (q4, .inr (0, [.ref κ.2.2.1, .int 0, .int 0])), (q6, .inr (0, [.ref κ.2.2.1, .int 0, .int 0])), (q8, .inr (2, [.int 0, .int 0, .int 0, .int 0])), (q14, .inr (1, [.ref u16, .int 0])), (u16, .inl (T.1, 24, .inl (fun _ => 0))), (q17, .inr (1, [.null, .int 0]))]) H := hP
  have hD : va_D A ([(to, .inr (5, [.ref q1, .ref q4, .ref q6, .int 25, .ref q8, .ref q14, .null, .null])), (q1, .inr (1, [.ref u3, .int 0])), (u3, .inl (T.1, 24, .inl (fun _ => 0))), (q4, .inr (0, [.ref κ.2.2.1, .int 0, .int 0])), (q6, .inr (0, [.ref κ.2.2.1, .int 0, .int 0])), (q8, .inr (2, [.int 0, .int 0, .int 0, .int 0])), (q14, .inr (1, [.ref u16, .int 0])), (u16, .inl (T.1, 24, .inl (fun _ => 0))), (q17, .inr (1, [.null, .int 0]))]) := hD
  refine W.widen (k := 8) (n := 64) (by omega) (by omega) ?_
  refine lv_dup hx hb d_T_init_75 rfl ?_
  refine lv_bipush (v := 24) hx hb d_T_init_76 (by decide) ?_
  have hPc : va_P D gC ([(q17, .inr (1, [.null, .int 0]))]) H := (pc1 (hP 8 _ rfl) pc0)
  have hDc : va_D A ([(q17, .inr (1, [.null, .int 0]))]) := hD.sub (ws' := [(q17, .inr (1, [.null, .int 0]))]) [8] (by decide) rfl
  refine g_subv (X := [(to, .inr (5, [.ref q1, .ref q4, .ref q6, .int 25, .ref q8, .ref q14, .null, .null])), (q1, .inr (1, [.ref u3, .int 0])), (u3, .inl (T.1, 24, .inl (fun _ => 0))), (q4, .inr (0, [.ref κ.2.2.1, .int 0, .int 0])), (q6, .inr (0, [.ref κ.2.2.1, .int 0, .int 0])), (q8, .inr (2, [.int 0, .int 0, .int 0, .int 0])), (q14, .inr (1, [.ref u16, .int 0])), (u16, .inl (T.1, 24, .inl (fun _ => 0))), (q17, .inr (1, [.null, .int 0]))]) (pl := []) (wr := [(to, .inr (5, [.ref q1, .ref q4, .ref q6, .int 25, .ref q8, .ref q14, .null, .null])), (q1, .inr (1, [.ref u3, .int 0])), (u3, .inl (T.1, 24, .inl (fun _ => 0))), (q4, .inr (0, [.ref κ.2.2.1, .int 0, .int 0])), (q6, .inr (0, [.ref κ.2.2.1, .int 0, .int 0])), (q8, .inr (2, [.int 0, .int 0, .int 0, .int 0])), (q14, .inr (1, [.ref u16, .int 0])), (u16, .inl (T.1, 24, .inl (fun _ => 0)))]) (cx := [(q17, .inr (1, [.null, .int 0]))]) (va_runI (As := [.int 24]) (rest := [.ref q17, .ref to]) ⟨hx, hb, hml, hown, hw⟩ (k_R_init_24 l D T q17 H.size) (cwI 1 hw (bg_c wc_R_init) rfl rfl rfl (hw _ wz_R) (hw _ ml_T_11) (hw _ wi_R_init) rfl (by decide +kernel) ⟨Nat.le_of_ble_eq_true rfl, Nat.le_of_ble_eq_true rfl⟩) ⟨qP_b, qP_p hPc hK hDc⟩ rfl rfl hl.1 rfl (lv_room (Nat.le_of_ble_eq_true rfl)) d_T_init_78 ⟨Nat.le_of_ble_eq_true rfl, Nat.le_of_ble_eq_true rfl⟩) (by rw [List.append_nil]; exact hP) (by rw [List.append_nil]; exact hD) hS hA [8] [0, 1, 2, 3, 4, 5, 6, 7] rfl rfl (by decide) (by decide) (fun u19 H locs hr18 hP hD hS => ?_)
  have hP : va_P D gC ([(to, .inr (5, [.ref q1, .ref q4, .ref q6, .int 25, .ref q8, .ref q14, .null, .null])), (q1, .inr (1, [.ref u3, .int 0])), (u3, .inl (T.1, 24, .inl (fun _ => 0))), (q4, .inr (0, [.ref κ.2.2.1, .int 0, .int 0])), (q6, .inr (0, [.ref κ.2.2.1, .int 0, .int 0])), (q8, .inr (2, [.int 0, .int 0, .int 0, .int 0])), (q14, .inr (1, [.ref u16, .int 0])), (u16, .inl (T.1, 24, .inl (fun _ => 0))), (q17, .inr (1, [.ref u19, .int 0])), (u19, .inl (T.1, 24, .inl (fun _ => 0)))]) H := (by rw [List.append_nil] at hP; exact hP.sub [0, 1, 2, 3, 4, 5, 6, 7, 8, 9] rfl)
  have hD : va_D A ([(to, .inr (5, [.ref q1, .ref q4, .ref q6, .int 25, .ref q8, .ref q14, .null, .null])), (q1, .inr (1, [.ref u3, .int 0])), (u3, .inl (T.1, 24, .inl (fun _ => 0))), (q4, .inr (0, [.ref κ.2.2.1, .int 0, .int 0])), (q6, .inr (0, [.ref κ.2.2.1, .int 0, .int 0])), (q8, .inr (2, [.int 0, .int 0, .int 0, .int 0])), (q14, .inr (1, [.ref u16, .int 0])), (u16, .inl (T.1, 24, .inl (fun _ => 0))), (q17, .inr (1, [.ref u19, .int 0])), (u19, .inl (T.1, 24, .inl (fun _ => 0)))]) := (by rw [List.append_nil] at hD; exact hD.sub [0, 1, 2, 3, 4, 5, 6, 7, 8, 9] (by decide) rfl)
  refine va_putF (D := D) (ci := 5) (v := .ref q17) (ty := .object "TimeWords$Row") (C := "TimeWords") (T := F_T) (N := 8) hx hb hw in_T ty_T ty_T_ok n_T hown hK hP hD hS 0 rfl rfl 6 (by decide) (hw _ fl_T_44) (fun _ h9 => h9) rfl hin rfl (by decide +kernel) rfl rfl (Nat.le_of_ble_eq_true rfl) d_T_init_81 (fun H locs hP hD hS => ?_)
  have hP : va_P D gC ([(to, .inr (5, [.ref q1, .ref q4, .ref q6, .int 25, .ref q8, .ref q14, .ref q17, .null])), (q1, .inr (1, [.ref u3, .int 0])), (u3, .inl (T.1, 24, .inl (fun _ => 0))), (q4, .inr (0, [.ref κ.2.2.1, .int 0, .int 0])), (q6, .inr (0, [.ref κ.2.2.1, .int 0, .int 0])), (q8, .inr (2, [.int 0, .int 0, .int 0, .int 0])), (q14, .inr (1, [.ref u16, .int 0])), (u16, .inl (T.1, 24, .inl (fun _ => 0))), (q17, .inr (1, [.ref u19, .int 0])), (u19, .inl (T.1, 24, .inl (fun _ => 0)))]) H := hP
  have hD : va_D A ([(to, .inr (5, [.ref q1, .ref q4, .ref q6, .int 25, .ref q8, .ref q14, .ref q17, .null])), (q1, .inr (1, [.ref u3, .int 0])), (u3, .inl (T.1, 24, .inl (fun _ => 0))), (q4, .inr (0, [.ref κ.2.2.1, .int 0, .int 0])), (q6, .inr (0, [.ref κ.2.2.1, .int 0, .int 0])), (q8, .inr (2, [.int 0, .int 0, .int 0, .int 0])), (q14, .inr (1, [.ref u16, .int 0])), (u16, .inl (T.1, 24, .inl (fun _ => 0))), (q17, .inr (1, [.ref u19, .int 0])), (u19, .inl (T.1, 24, .inl (fun _ => 0)))]) := hD
  refine lv_aload_n hx hb d_T_init_84 rfl (lv_at hl 0 rfl) ?_
  refine lv_bipush (v := 9) hx hb d_T_init_85 (by decide) ?_
  refine g_newi (N' := 9) hx hb (hw _ wa_int) hK hP hD hS hA (by decide) (by decide) (by decide) (Nat.le_of_ble_eq_true rfl) (Nat.le_of_ble_eq_true rfl) d_T_init_87 (fun q20 H hP hD hS => ?_)
  have hP : va_P D gC ([(to, .inr (5, [.ref q1, .ref q4, .ref q6, .int 25, .ref q8, .ref q14, .ref q17, .null])), (q1, .inr (1, [.ref u3, .int 0])), (u3, .inl (T.1, 24, .inl (fun _ => 0))), (q4, .inr (0, [.ref κ.2.2.1, .int 0, .int 0])), (q6, .inr (0, [.ref κ.2.2.1, .int 0, .int 0])), (q8, .inr (2, [.int 0, .int 0, .int 0, .int 0])), (q14, .inr (1, [.ref u16, .int 0])), (u16, .inl (T.1, 24, .inl (fun _ => 0))), (q17, .inr (1, [.ref u19, .int 0])), (u19, .inl (T.1, 24, .inl (fun _ => 0))), (q20, .inl (T.1, 9, .inl (fun _ => 0)))]) H := hP
  have hD : va_D A ([(to, .inr (5, [.ref q1, .ref q4, .ref q6, .int 25, .ref q8, .ref q14, .ref q17, .null])), (q1, .inr (1, [.ref u3, .int 0])), (u3, .inl (T.1, 24, .inl (fun _ => 0))), (q4, .inr (0, [.ref κ.2.2.1, .int 0, .int 0])), (q6, .inr (0, [.ref κ.2.2.1, .int 0, .int 0])), (q8, .inr (2, [.int 0, .int 0, .int 0, .int 0])), (q14, .inr (1, [.ref u16, .int 0])), (u16, .inl (T.1, 24, .inl (fun _ => 0))), (q17, .inr (1, [.ref u19, .int 0])), (u19, .inl (T.1, 24, .inl (fun _ => 0))), (q20, .inl (T.1, 9, .inl (fun _ => 0)))]) := hD
  refine W.widen (k := 10) (n := 97) (by omega) (by omega) ?_
  refine va_putF (D := D) (ci := 5) (v := .ref q20) (ty := .array .int) (C := "TimeWords") (T := F_T) (N := 8) hx hb hw in_T ty_T ty_T_ok n_T hown hK hP hD hS 0 rfl rfl 7 (by decide) (hw _ fl_T_47) (fun _ h9 => h9) rfl hin rfl (by decide +kernel) rfl rfl (Nat.le_of_ble_eq_true rfl) d_T_init_89 (fun H locs hP hD hS => ?_)
  have hP : va_P D gC ([(to, .inr (5, [.ref q1, .ref q4, .ref q6, .int 25, .ref q8, .ref q14, .ref q17, .ref q20])), (q1, .inr (1, [.ref u3, .int 0])), (u3, .inl (T.1, 24, .inl (fun _ => 0))), (q4, .inr (0, [.ref κ.2.2.1, .int 0, .int 0])), (q6, .inr (0, [.ref κ.2.2.1, .int 0, .int 0])), (q8, .inr (2, [.int 0, .int 0, .int 0, .int 0])), (q14, .inr (1, [.ref u16, .int 0])), (u16, .inl (T.1, 24, .inl (fun _ => 0))), (q17, .inr (1, [.ref u19, .int 0])), (u19, .inl (T.1, 24, .inl (fun _ => 0))), (q20, .inl (T.1, 9, .inl (fun _ => 0)))]) H := hP
  have hD : va_D A ([(to, .inr (5, [.ref q1, .ref q4, .ref q6, .int 25, .ref q8, .ref q14, .ref q17, .ref q20])), (q1, .inr (1, [.ref u3, .int 0])), (u3, .inl (T.1, 24, .inl (fun _ => 0))), (q4, .inr (0, [.ref κ.2.2.1, .int 0, .int 0])), (q6, .inr (0, [.ref κ.2.2.1, .int 0, .int 0])), (q8, .inr (2, [.int 0, .int 0, .int 0, .int 0])), (q14, .inr (1, [.ref u16, .int 0])), (u16, .inl (T.1, 24, .inl (fun _ => 0))), (q17, .inr (1, [.ref u19, .int 0])), (u19, .inl (T.1, 24, .inl (fun _ => 0))), (q20, .inl (T.1, 9, .inl (fun _ => 0)))]) := hD
  exact W.vret hx hb hr (fun t ht hW => ⟨⟨(q1, u3, q4, q6, q8, q14, u16, q17, u19, q20), rfl, trivial, by rw [ht]; exact hP, va_K.moved hW.alike hK, hD⟩, hS.F ht⟩) hS.2.2 d_T_init_92
