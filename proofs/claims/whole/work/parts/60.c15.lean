theorem cw_0 {p w : Nat → Int32} {f : Nat → Int32} {i : Nat} : ∀ k, k ≤ 0 → upd f 0 (nI (ed_st p w (i + 1) 0)) k = nI (ed_st p w (i + 1) k) := by
  intro k hk
  have : k = 0 := by omega
  subst this
  rw [up_eq]
theorem cw_1 {p w g : Nat → Int32} {i q : Nat} (h : ∀ k, k ≤ q → g k = nI (ed_st p w (i + 1) k)) : ∀ k, k ≤ q + 1 → upd g (q + 1) (nI (ed_st p w (i + 1) (q + 1))) k = nI (ed_st p w (i + 1) k) := by
  intro k hk
  by_cases e : k = q + 1
  · subst e; rw [up_eq]
  · rw [up_lt e]; exact h k (by omega)
theorem cw_2 {p w g : Nat → Int32} {i q L : Nat} {v : Int32} (h : ∀ k, q < k → k ≤ L → g k = nI (ed_st p w i k)) : ∀ k, q + 1 < k → k ≤ L → upd g (q + 1) v k = nI (ed_st p w i k) := by
  intro k hk hl
  rw [up_lt (by omega)]; exact h k (by omega) hl
theorem cw_3 {p w g : Nat → Int32} {i L : Nat} {v : Int32} (h : ∀ k, k ≤ L → g k = nI (ed_st p w i k)) : ∀ k, 0 < k → k ≤ L → upd g 0 v k = nI (ed_st p w i k) := by
  intro k hk hl
  rw [up_lt (by omega)]; exact h k hl
set_option maxHeartbeats 4000000 in
set_option maxRecDepth 100000 in
theorem k_T_changesWithSign (l : Launch) (D : va_G) (T : gT) (κ : gS) (aa : Nat → Nat) (zw : Int32) (kp : Nat) (fp : Nat → Int32) (e0 e1 : Int32) (oF oT : Bool) (kt : Nat) (ft : Nat → Int32) (ks : Nat) (fs fc : Nat → Int32) (S : tS) (sz : Nat) (i : Nat) (n : nmD) (hy0 : n ∈ S.2.1) (hy1 : nK n ≤ 8) (hy2 : kp ≤ 24) (hy3 : i < kp) (hy4 : ∀ k, k ≤ nK n → fc k = nI (ed_st fp (nF n) i k)) : Met l y_T_changesWithSign (Cond.code y_T_changesWithSign b_T_changesWithSign 7 (some .int) :: bg_W) ({ frames := 1, cells := 0, slots := 0, locals := 21 }) (qPf κ D T (cX T aa zw kp fp e0 e1 oF oT kt ft ks fs fc S ++ tl T S) [.ref (aa 0), .int (nI i), .ref (nR n)] sz) (va_Qi (fun (r : Int32) (fc1 : (Nat → Int32)) => r = nI (ed_st fp (nF n) (i + 1) (nK n)) ∧ ∀ k, k ≤ nK n → fc1 k = nI (ed_st fp (nF n) (i + 1) k)) (qB D T (va_A (cX T aa zw kp fp e0 e1 oF oT kt ft ks fs fc S ++ tl T S) sz) (fun fc1 : (Nat → Int32) => cX T aa zw kp fp e0 e1 oF oT kt ft ks fs fc1 S ++ tl T S)) (va_A (cX T aa zw kp fp e0 e1 oF oT kt ft ks fs fc S ++ tl T S) sz)) 0 0 (va_A (cX T aa zw kp fp e0 e1 oF oT kt ft ks fs fc S ++ tl T S) sz) := by
  refine Met.ofW (cc := b_T_changesWithSign) (maxL := 7) (ret := (some .int)) (by decide) rfl ?_
  intro p e s m args below meth c s₁ B hml hv
  obtain ⟨rfl, hsz, hP, hK, hD0, hF⟩ := hv
  have hx := B.exec
  have hb := B.bytes
  have hr := B.returns
  have hw : ∀ w ∈ bg_W, w.before ([.ref (aa 0), .int (nI i), .ref (nR n)] : List Value).toArray s = true := fun w h => atoms_spec (ws := (Cond.code y_T_changesWithSign b_T_changesWithSign 7 (some .int) :: bg_W)) B.pre w (List.mem_cons_of_mem _ h)
  have hown : s.vm.findClass "TimeWords" = some m.cls := findClass_of_methodNamed B.named
  have hlocks := B.notSynchronized
  subst hsz
  have hD := hD0.self (sz := s.heap.size)
  generalize hAe : va_A (cX T aa zw kp fp e0 e1 oF oT kt ft ks fs fc S ++ tl T S) s.heap.size = A at hD hF ⊢
  have hA : ∀ q : Nat, s.heap.size ≤ q → A q := fun q h => by rw [← hAe]; exact Or.inr h
  have hS : va_S A s.heap s.heap [] := va_S.rf
  have hl := lv_entry ([.ref (aa 0), .int (nI i), .ref (nR n)]) (n := 7) (Nat.le_of_ble_eq_true rfl)
  rw [lg_entry_eq]
  generalize (lg_sl ([.ref (aa 0), .int (nI i), .ref (nR n)]) ++ List.replicate (7 - (lg_sl ([.ref (aa 0), .int (nI i), .ref (nR n)])).length) Slot.unset).toArray = ls at hl ⊢
  have hl : lv_has ls 7 [(0, .ref (aa 0)), (1, .int (nI i)), (2, .ref (nR n))] := hl
  have b0 := ed_i0 fp (nF n) i
  refine lv_aload_n hx hb d_T_changesWithSign_0 rfl (lv_at hl 0 rfl) ?_
  refine va_get (D := D) (ci := 5) (v := .ref (aa 8)) (C := "TimeWords") (T := F_T) (N := 8) hx hb hw in_T hown hK hP 0 rfl rfl 7 (by decide) (hw _ fl_T_47) (fun _ h9 => h9) rfl d_T_changesWithSign_1 ?_
  refine lv_iconst (v := 0) hx hb d_T_changesWithSign_4 (by decide) ?_
  refine va_iald hx hb hK hP 8 0 rfl rfl (vp_in_nI (n := 0) (by decide) (by decide)) d_T_changesWithSign_5 ?_
  rw [show (0 : Int32).toNatClampNeg = 0 from by decide]
  rw [hy4 0 (Nat.zero_le _)]
  refine lv_istore_n (lv' := [(3, .int (nI (ed_st fp (nF n) i 0))), (0, .ref (aa 0)), (1, .int (nI i)), (2, .ref (nR n))]) hx hb d_T_changesWithSign_6 rfl hl (by decide) rfl (fun ls hl => ?_)
  refine lv_iload_n hx hb d_T_changesWithSign_7 rfl (lv_at hl 2 rfl) ?_
  refine lv_iconst (v := 1) hx hb d_T_changesWithSign_8 (by decide) ?_
  refine lv_iadd hx hb d_T_changesWithSign_9 ?_
  rw [nI_1]
  rw [show nI (i + 1) = nI (ed_st fp (nF n) (i + 1) 0) from rfl]
  refine lv_istore (lv' := [(4, .int (nI (ed_st fp (nF n) (i + 1) 0))), (3, .int (nI (ed_st fp (nF n) i 0))), (0, .ref (aa 0)), (1, .int (nI i)), (2, .ref (nR n))]) hx hb d_T_changesWithSign_10 hl (by decide) rfl (fun ls hl => ?_)
  refine lv_aload_n hx hb d_T_changesWithSign_12 rfl (lv_at hl 2 rfl) ?_
  refine va_get (D := D) (ci := 5) (v := .ref (aa 8)) (C := "TimeWords") (T := F_T) (N := 8) hx hb hw in_T hown hK hP 0 rfl rfl 7 (by decide) (hw _ fl_T_47) (fun _ h9 => h9) rfl d_T_changesWithSign_13 ?_
  refine lv_iconst (v := 0) hx hb d_T_changesWithSign_16 (by decide) ?_
  refine lv_iload hx hb d_T_changesWithSign_17 (lv_at hl 0 rfl) ?_
  refine va_iast hx hb hK hP hD hS 8 0 rfl rfl (vp_in_nI (n := 0) (by decide) (by decide)) d_T_changesWithSign_19 (fun H locs hP hD hS => ?_)
  rw [show (0 : Int32).toNatClampNeg = 0 from by decide] at hP hD
  have hP : va_P D gC (cX T aa zw kp fp e0 e1 oF oT kt ft ks fs (upd fc 0 (nI (ed_st fp (nF n) (i + 1) 0))) S ++ tl T S) H := hP
  have hD : va_D A (cX T aa zw kp fp e0 e1 oF oT kt ft ks fs (upd fc 0 (nI (ed_st fp (nF n) (i + 1) 0))) S ++ tl T S) := hD
  refine lv_iconst (v := 1) hx hb d_T_changesWithSign_20 (by decide) ?_
  refine lv_istore (lv' := [(5, .int 1), (4, .int (nI (ed_st fp (nF n) (i + 1) 0))), (3, .int (nI (ed_st fp (nF n) i 0))), (0, .ref (aa 0)), (1, .int (nI i)), (2, .ref (nR n))]) hx hb d_T_changesWithSign_21 hl (by decide) rfl (fun ls hl => ?_)
  have loop : ∀ (nf : Nat) (q : Nat) (g : Nat → Int32), (q ≤ nK n) → (∀ k, k ≤ q → g k = nI (ed_st fp (nF n) (i + 1) k)) → (∀ k, q < k → k ≤ nK n → g k = nI (ed_st fp (nF n) i k)) → ∀ (H : Heap) (locs : List Loc), va_P D gC (cX T aa zw kp fp e0 e1 oF oT kt ft ks fs g S ++ tl T S) H → va_D A (cX T aa zw kp fp e0 e1 oF oT kt ft ks fs g S ++ tl T S) → va_S A s.heap H locs → ∀ (ls : Array Slot), lv_has ls 7 [(0, .ref (aa 0)), (1, .int (nI i)), (2, .ref (nR n)), (3, .int (nI (ed_st fp (nF n) i q))), (4, .int (nI (ed_st fp (nF n) (i + 1) q))), (5, .int (nI (q + 1)))] → nK n - q < nf → W p l e (headSpec (Cond.code y_T_changesWithSign b_T_changesWithSign 7 (some .int) :: bg_W) ({ frames := 1, cells := 0, slots := 0, locals := 21 })).room s m ([.ref (aa 0), .int (nI i), .ref (nR n)] : List Value).toArray below meth c H locs 0 0 (MQ below (va_Qi (fun (r : Int32) (fc1 : (Nat → Int32)) => r = nI (ed_st fp (nF n) (i + 1) (nK n)) ∧ ∀ k, k ≤ nK n → fc1 k = nI (ed_st fp (nF n) (i + 1) k)) (qB D T A (fun fc1 : (Nat → Int32) => cX T aa zw kp fp e0 e1 oF oT kt ft ks fs fc1 S ++ tl T S)) A) ([.ref (aa 0), .int (nI i), .ref (nR n)] : List Value).toArray s 0 0 A) (F0 m 23 ls []) := by
    intro nf
    induction nf with
    | zero => intro q g hq hG1 hG2 H locs hP hD hS ls hl hm; exact absurd hm (Nat.not_lt_zero _)
    | succ nf ih =>
      intro q g hq hG1 hG2 H locs hP hD hS ls hl hm
      have b1 := ed_le fp (nF n) i q
      have b2 := ed_le fp (nF n) i (q + 1)
      have b3 := ed_le fp (nF n) (i + 1) q
      have b4 := ed_le fp (nF n) (i + 1) (q + 1)
      refine lv_iload hx hb d_T_changesWithSign_23 (lv_at hl 5 rfl) ?_
      refine lv_aload_n hx hb d_T_changesWithSign_25 rfl (lv_at hl 2 rfl) ?_
      refine va_get (D := D) (ci := 1) (v := .int (nI (nK n))) (C := "TimeWords$Row") (T := F_R) (N := 2) hx hb hw in_R hown hK (pc1 (hP.mem (List.mem_append_right _ (tl_nm hy0 nmm_r))) pc0) 0 rfl rfl 1 (by decide) (hw _ fl_T_62) (fun _ h9 => h9) rfl d_T_changesWithSign_26 ?_
      refine lv_icmp_gt (tgt := 108) hx hb d_T_changesWithSign_29 (by decide) (fun c1 => ?_) (fun c1 => ?_)
      · have c1 := nc_lt (a := nK n) (b := q + 1) c1 (by omega) (by omega)
        refine lv_iload hx hb d_T_changesWithSign_108 (lv_at hl 4 rfl) ?_
        exact W.iret (v := nI (ed_st fp (nF n) (i + 1) q)) hx hb hr (fun t ht hW => ⟨⟨nI (ed_st fp (nF n) (i + 1) q), g, rfl, (by have e9 : q = nK n := (by omega); subst e9; exact ⟨rfl, hG1⟩), by rw [ht]; exact hP, va_K.moved hW.alike hK, hD⟩, hS.F ht⟩) hS.2.2 d_T_changesWithSign_110
      · have c1 := nc_nlt (a := nK n) (b := q + 1) c1 (by omega) (by omega)
        refine lv_iload hx hb d_T_changesWithSign_32 (lv_at hl 5 rfl) ?_
        refine lv_aload_n hx hb d_T_changesWithSign_34 rfl (lv_at hl 0 rfl) ?_
        refine va_get (D := D) (ci := 5) (v := .ref (aa 8)) (C := "TimeWords") (T := F_T) (N := 8) hx hb hw in_T hown hK hP 0 rfl rfl 7 (by decide) (hw _ fl_T_47) (fun _ h9 => h9) rfl d_T_changesWithSign_35 ?_
        refine va_alen hx hb hK hP 8 0 rfl rfl (v := nI 9) rfl d_T_changesWithSign_38 ?_
        refine lv_icmp_ge (tgt := 108) hx hb d_T_changesWithSign_39 (by decide) (fun c2 => absurd c2 ((nI_ge (a := q + 1) (b := 9) (by omega) (by decide)))) (fun c2 => ?_)
        refine lv_iload_n hx hb d_T_changesWithSign_42 rfl (lv_at hl 3 rfl) ?_
        refine lv_aload_n hx hb d_T_changesWithSign_43 rfl (lv_at hl 0 rfl) ?_
        refine va_get (D := D) (ci := 5) (v := .ref (aa 1)) (C := "TimeWords") (T := F_T) (N := 8) hx hb hw in_T hown hK hP 0 rfl rfl 0 (by decide) (hw _ fl_T_14) (fun _ h9 => h9) rfl d_T_changesWithSign_44 ?_
        refine lv_iload_n hx hb d_T_changesWithSign_47 rfl (lv_at hl 1 rfl) ?_
        have hPc : va_P D gC ([(aa 1, .inr (1, [.ref (aa 2), .int (nI kp)])), (aa 2, .inl (T.1, 24, .inl fp))]) H := (pc1 (hP 1 _ rfl) (pc1 (hP 2 _ rfl) pc0))
        refine vp_callSi (va_Run.run (va_runV (As := [.int (nI i)]) (rest := [.int (nI (ed_st fp (nF n) i q))]) ⟨hx, hb, hml, hown, hw⟩ (k_R_at l D T (aa 1) (aa 2) kp 24 fp (nI i) hy2 (by decide)) (cwV 1 hw (bg_V ml_T_189 wi_R_at wv_R_at wz_R wc_R_at) rfl rfl rfl (by decide +kernel) ⟨Nat.le_of_ble_eq_true rfl, Nat.le_of_ble_eq_true rfl⟩) ⟨sP_b, va_recv hK hPc (ci := 1) (q0 := 0) rfl rfl, sP_p hPc hK⟩ rfl rfl hl.1 rfl (lv_room (Nat.le_of_ble_eq_true rfl)) d_T_changesWithSign_48 ⟨Nat.le_of_ble_eq_true rfl, Nat.le_of_ble_eq_true rfl⟩)) (fun r3 hr3 => ?_)
        replace hr3 := hr3.symm; subst hr3
        rw [at_in (by omega) (by omega)]
        refine lv_aload_n hx hb d_T_changesWithSign_51 rfl (lv_at hl 2 rfl) ?_
        refine lv_iload hx hb d_T_changesWithSign_52 (lv_at hl 5 rfl) ?_
        refine lv_iconst (v := 1) hx hb d_T_changesWithSign_54 (by decide) ?_
        refine lv_isub hx hb d_T_changesWithSign_55 ?_
        rw [nI_pred]
        have hPc : va_P D gC ([(nR n, .inr (1, [.ref (nV n), .int (nI (nK n))])), (nV n, .inl (T.1, 8, .inl (nF n)))]) H := (pc1 (hP.mem (List.mem_append_right _ (tl_nm hy0 nmm_r))) (pc1 (hP.mem (List.mem_append_right _ (tl_nm hy0 nmm_v))) pc0))
        refine vp_callSi (va_Run.run (va_runV (As := [.int (nI q)]) (rest := [.int (fp i), .int (nI (ed_st fp (nF n) i q))]) ⟨hx, hb, hml, hown, hw⟩ (k_R_at l D T (nR n) (nV n) (nK n) 8 (nF n) (nI q) hy1 (by decide)) (cwV 1 hw (bg_V ml_T_189 wi_R_at wv_R_at wz_R wc_R_at) rfl rfl rfl (by decide +kernel) ⟨Nat.le_of_ble_eq_true rfl, Nat.le_of_ble_eq_true rfl⟩) ⟨sP_b, va_recv hK hPc (ci := 1) (q0 := 0) rfl rfl, sP_p hPc hK⟩ rfl rfl hl.1 rfl (lv_room (Nat.le_of_ble_eq_true rfl)) d_T_changesWithSign_56 ⟨Nat.le_of_ble_eq_true rfl, Nat.le_of_ble_eq_true rfl⟩)) (fun r4 hr4 => ?_)
        replace hr4 := hr4.symm; subst hr4
        rw [at_in (by omega) (by omega)]
        refine lv_icmp_ne (tgt := 66) hx hb d_T_changesWithSign_59 (by decide) (fun c5 => ?_) (fun c5 => ?_)
        · refine lv_iconst (v := 1) hx hb d_T_changesWithSign_66 (by decide) ?_
          refine lv_iadd hx hb d_T_changesWithSign_67 ?_
          rw [nI_1]
          refine lv_istore (lv' := [(6, .int (nI (ed_st fp (nF n) i q + 1))), (0, .ref (aa 0)), (1, .int (nI i)), (2, .ref (nR n)), (3, .int (nI (ed_st fp (nF n) i q))), (4, .int (nI (ed_st fp (nF n) (i + 1) q))), (5, .int (nI (q + 1)))]) hx hb d_T_changesWithSign_68 hl (by decide) rfl (fun ls hl => ?_)
          refine lv_aload_n hx hb d_T_changesWithSign_70 rfl (lv_at hl 1 rfl) ?_
          refine va_get (D := D) (ci := 5) (v := .ref (aa 8)) (C := "TimeWords") (T := F_T) (N := 8) hx hb hw in_T hown hK hP 0 rfl rfl 7 (by decide) (hw _ fl_T_47) (fun _ h9 => h9) rfl d_T_changesWithSign_71 ?_
          refine lv_iload hx hb d_T_changesWithSign_74 (lv_at hl 6 rfl) ?_
          refine va_iald hx hb hK hP 8 0 rfl rfl (by first | assumption | exact vp_in_nI (by omega) (by omega)) d_T_changesWithSign_76 ?_
          rw [show (nI (q + 1)).toNatClampNeg = q + 1 from nI_clamp (by omega)]
          rw [hG2 (q + 1) (by omega) (by omega)]
          refine lv_istore_n (lv' := [(3, .int (nI (ed_st fp (nF n) i (q + 1)))), (6, .int (nI (ed_st fp (nF n) i q + 1))), (0, .ref (aa 0)), (1, .int (nI i)), (2, .ref (nR n)), (4, .int (nI (ed_st fp (nF n) (i + 1) q))), (5, .int (nI (q + 1)))]) hx hb d_T_changesWithSign_77 rfl hl (by decide) rfl (fun ls hl => ?_)
          refine lv_iload hx hb d_T_changesWithSign_78 (lv_at hl 1 rfl) ?_
          refine lv_iload_n hx hb d_T_changesWithSign_80 rfl (lv_at hl 0 rfl) ?_
          refine lv_iload hx hb d_T_changesWithSign_81 (lv_at hl 5 rfl) ?_
          refine va_mmin hx hb (hml.trans hl.1.symm) hown (hw _ ml_T_365) (hw _ wt_MA_min) (hw _ wz_MA) (hw _ wc_MA_min) (Nat.le_of_ble_eq_true rfl) (Nat.le_of_ble_eq_true rfl) (Nat.le_of_ble_eq_true rfl) (Nat.le_of_ble_eq_true rfl) d_T_changesWithSign_83 ?_
          rw [mn_nI (by omega) (by omega)]
          refine lv_iconst (v := 1) hx hb d_T_changesWithSign_86 (by decide) ?_
          refine lv_iadd hx hb d_T_changesWithSign_87 ?_
          rw [nI_1]
          refine va_mmin hx hb (hml.trans hl.1.symm) hown (hw _ ml_T_365) (hw _ wt_MA_min) (hw _ wz_MA) (hw _ wc_MA_min) (Nat.le_of_ble_eq_true rfl) (Nat.le_of_ble_eq_true rfl) (Nat.le_of_ble_eq_true rfl) (Nat.le_of_ble_eq_true rfl) d_T_changesWithSign_88 ?_
          rw [mn_nI (by omega) (by omega)]
          rw [show min (ed_st fp (nF n) i q + 1) (min (ed_st fp (nF n) i (q + 1)) (ed_st fp (nF n) (i + 1) q) + 1) = ed_st fp (nF n) (i + 1) (q + 1) from by rw [ed_ss, if_neg c5]]
          refine lv_istore (lv' := [(4, .int (nI (ed_st fp (nF n) (i + 1) (q + 1)))), (3, .int (nI (ed_st fp (nF n) i (q + 1)))), (6, .int (nI (ed_st fp (nF n) i q + 1))), (0, .ref (aa 0)), (1, .int (nI i)), (2, .ref (nR n)), (5, .int (nI (q + 1)))]) hx hb d_T_changesWithSign_91 hl (by decide) rfl (fun ls hl => ?_)
          refine lv_aload_n hx hb d_T_changesWithSign_93 rfl (lv_at hl 3 rfl) ?_
          refine va_get (D := D) (ci := 5) (v := .ref (aa 8)) (C := "TimeWords") (T := F_T) (N := 8) hx hb hw in_T hown hK hP 0 rfl rfl 7 (by decide) (hw _ fl_T_47) (fun _ h9 => h9) rfl d_T_changesWithSign_94 ?_
          refine lv_iload hx hb d_T_changesWithSign_97 (lv_at hl 6 rfl) ?_
          refine lv_iload hx hb d_T_changesWithSign_99 (lv_at hl 0 rfl) ?_
          refine va_iast hx hb hK hP hD hS 8 0 rfl rfl (by first | assumption | exact vp_in_nI (by omega) (by omega)) d_T_changesWithSign_101 (fun H locs hP hD hS => ?_)
          rw [show (nI (q + 1)).toNatClampNeg = (q + 1) from nI_clamp (by omega)] at hP hD
          have hP : va_P D gC (cX T aa zw kp fp e0 e1 oF oT kt ft ks fs (upd g (q + 1) (nI (ed_st fp (nF n) (i + 1) (q + 1)))) S ++ tl T S) H := hP
          have hD : va_D A (cX T aa zw kp fp e0 e1 oF oT kt ft ks fs (upd g (q + 1) (nI (ed_st fp (nF n) (i + 1) (q + 1)))) S ++ tl T S) := hD
          refine lv_iinc (v := nI (q + 1 + 1)) (lv' := [(5, .int (nI (q + 1 + 1))), (4, .int (nI (ed_st fp (nF n) (i + 1) (q + 1)))), (3, .int (nI (ed_st fp (nF n) i (q + 1)))), (6, .int (nI (ed_st fp (nF n) i q + 1))), (0, .ref (aa 0)), (1, .int (nI i)), (2, .ref (nR n))]) hx hb d_T_changesWithSign_102 hl (k := 6) rfl (nI_add (q + 1) 1) (by decide) rfl (fun ls hl => ?_)
          refine lv_goto (tgt := 23) hx hb d_T_changesWithSign_105 (by decide) ?_
          exact ih (q + 1) (upd g (q + 1) (nI (ed_st fp (nF n) (i + 1) (q + 1)))) (by omega) (cw_1 hG1) (cw_2 hG2) _ _ hP hD hS ls (lv_sub hl [4, 5, 6, 2, 1, 0] rfl) (by omega)
        · refine lv_iconst (v := 0) hx hb d_T_changesWithSign_62 (by decide) ?_
          refine lv_goto (tgt := 67) hx hb d_T_changesWithSign_63 (by decide) ?_
          refine lv_iadd hx hb d_T_changesWithSign_67 ?_
          rw [show (nI (ed_st fp (nF n) i q)) + 0 = nI (ed_st fp (nF n) i q + 0) from nI_add (ed_st fp (nF n) i q) 0]
          refine lv_istore (lv' := [(6, .int (nI (ed_st fp (nF n) i q + 0))), (0, .ref (aa 0)), (1, .int (nI i)), (2, .ref (nR n)), (3, .int (nI (ed_st fp (nF n) i q))), (4, .int (nI (ed_st fp (nF n) (i + 1) q))), (5, .int (nI (q + 1)))]) hx hb d_T_changesWithSign_68 hl (by decide) rfl (fun ls hl => ?_)
          refine lv_aload_n hx hb d_T_changesWithSign_70 rfl (lv_at hl 1 rfl) ?_
          refine va_get (D := D) (ci := 5) (v := .ref (aa 8)) (C := "TimeWords") (T := F_T) (N := 8) hx hb hw in_T hown hK hP 0 rfl rfl 7 (by decide) (hw _ fl_T_47) (fun _ h9 => h9) rfl d_T_changesWithSign_71 ?_
          refine lv_iload hx hb d_T_changesWithSign_74 (lv_at hl 6 rfl) ?_
          refine va_iald hx hb hK hP 8 0 rfl rfl (by first | assumption | exact vp_in_nI (by omega) (by omega)) d_T_changesWithSign_76 ?_
          rw [show (nI (q + 1)).toNatClampNeg = q + 1 from nI_clamp (by omega)]
          rw [hG2 (q + 1) (by omega) (by omega)]
          refine lv_istore_n (lv' := [(3, .int (nI (ed_st fp (nF n) i (q + 1)))), (6, .int (nI (ed_st fp (nF n) i q + 0))), (0, .ref (aa 0)), (1, .int (nI i)), (2, .ref (nR n)), (4, .int (nI (ed_st fp (nF n) (i + 1) q))), (5, .int (nI (q + 1)))]) hx hb d_T_changesWithSign_77 rfl hl (by decide) rfl (fun ls hl => ?_)
          refine lv_iload hx hb d_T_changesWithSign_78 (lv_at hl 1 rfl) ?_
          refine lv_iload_n hx hb d_T_changesWithSign_80 rfl (lv_at hl 0 rfl) ?_
          refine lv_iload hx hb d_T_changesWithSign_81 (lv_at hl 5 rfl) ?_
          refine va_mmin hx hb (hml.trans hl.1.symm) hown (hw _ ml_T_365) (hw _ wt_MA_min) (hw _ wz_MA) (hw _ wc_MA_min) (Nat.le_of_ble_eq_true rfl) (Nat.le_of_ble_eq_true rfl) (Nat.le_of_ble_eq_true rfl) (Nat.le_of_ble_eq_true rfl) d_T_changesWithSign_83 ?_
          rw [mn_nI (by omega) (by omega)]
          refine lv_iconst (v := 1) hx hb d_T_changesWithSign_86 (by decide) ?_
          refine lv_iadd hx hb d_T_changesWithSign_87 ?_
          rw [nI_1]
          refine va_mmin hx hb (hml.trans hl.1.symm) hown (hw _ ml_T_365) (hw _ wt_MA_min) (hw _ wz_MA) (hw _ wc_MA_min) (Nat.le_of_ble_eq_true rfl) (Nat.le_of_ble_eq_true rfl) (Nat.le_of_ble_eq_true rfl) (Nat.le_of_ble_eq_true rfl) d_T_changesWithSign_88 ?_
          rw [mn_nI (by omega) (by omega)]
          rw [show min (ed_st fp (nF n) i q + 0) (min (ed_st fp (nF n) i (q + 1)) (ed_st fp (nF n) (i + 1) q) + 1) = ed_st fp (nF n) (i + 1) (q + 1) from by rw [ed_ss, if_pos c5]]
          refine lv_istore (lv' := [(4, .int (nI (ed_st fp (nF n) (i + 1) (q + 1)))), (3, .int (nI (ed_st fp (nF n) i (q + 1)))), (6, .int (nI (ed_st fp (nF n) i q + 0))), (0, .ref (aa 0)), (1, .int (nI i)), (2, .ref (nR n)), (5, .int (nI (q + 1)))]) hx hb d_T_changesWithSign_91 hl (by decide) rfl (fun ls hl => ?_)
          refine lv_aload_n hx hb d_T_changesWithSign_93 rfl (lv_at hl 3 rfl) ?_
          refine va_get (D := D) (ci := 5) (v := .ref (aa 8)) (C := "TimeWords") (T := F_T) (N := 8) hx hb hw in_T hown hK hP 0 rfl rfl 7 (by decide) (hw _ fl_T_47) (fun _ h9 => h9) rfl d_T_changesWithSign_94 ?_
          refine lv_iload hx hb d_T_changesWithSign_97 (lv_at hl 6 rfl) ?_
          refine lv_iload hx hb d_T_changesWithSign_99 (lv_at hl 0 rfl) ?_
          refine va_iast hx hb hK hP hD hS 8 0 rfl rfl (by first | assumption | exact vp_in_nI (by omega) (by omega)) d_T_changesWithSign_101 (fun H locs hP hD hS => ?_)
          rw [show (nI (q + 1)).toNatClampNeg = (q + 1) from nI_clamp (by omega)] at hP hD
          have hP : va_P D gC (cX T aa zw kp fp e0 e1 oF oT kt ft ks fs (upd g (q + 1) (nI (ed_st fp (nF n) (i + 1) (q + 1)))) S ++ tl T S) H := hP
          have hD : va_D A (cX T aa zw kp fp e0 e1 oF oT kt ft ks fs (upd g (q + 1) (nI (ed_st fp (nF n) (i + 1) (q + 1)))) S ++ tl T S) := hD
          refine lv_iinc (v := nI (q + 1 + 1)) (lv' := [(5, .int (nI (q + 1 + 1))), (4, .int (nI (ed_st fp (nF n) (i + 1) (q + 1)))), (3, .int (nI (ed_st fp (nF n) i (q + 1)))), (6, .int (nI (ed_st fp (nF n) i q + 0))), (0, .ref (aa 0)), (1, .int (nI i)), (2, .ref (nR n))]) hx hb d_T_changesWithSign_102 hl (k := 6) rfl (nI_add (q + 1) 1) (by decide) rfl (fun ls hl => ?_)
          refine lv_goto (tgt := 23) hx hb d_T_changesWithSign_105 (by decide) ?_
          exact ih (q + 1) (upd g (q + 1) (nI (ed_st fp (nF n) (i + 1) (q + 1)))) (by omega) (cw_1 hG1) (cw_2 hG2) _ _ hP hD hS ls (lv_sub hl [4, 5, 6, 2, 1, 0] rfl) (by omega)
  exact loop ((nK n - 0) + 1) 0 (upd fc 0 (nI (ed_st fp (nF n) (i + 1) 0))) (Nat.zero_le _) cw_0 (cw_3 hy4) _ _ hP hD hS ls (lv_sub hl [3, 4, 5, 2, 1, 0] rfl) (Nat.lt_succ_self _)

theorem ct_1 {g : Nat → Int32} {j : Nat} (h : ∀ k, k < j → g k = nI k) : ∀ k, k < j + 1 → upd g j (nI j) k = nI k := by
  intro k hk
  by_cases e : k = j
  · subst e; rw [up_eq]
  · rw [up_lt e]; exact h k (by omega)
set_option maxHeartbeats 4000000 in
set_option maxRecDepth 100000 in
theorem k_T_changesTo (l : Launch) (D : va_G) (T : gT) (κ : gS) (aa : Nat → Nat) (zw : Int32) (kp : Nat) (fp : Nat → Int32) (e0 e1 : Int32) (oF oT : Bool) (kt : Nat) (ft : Nat → Int32) (ks : Nat) (fs fc : Nat → Int32) (S : tS) (sz : Nat) (n : nmD) (hy0 : n ∈ S.2.1) (hy1 : nK n ≤ 8) (hy2 : kp ≤ 24) : Met l y_T_changesTo (Cond.code y_T_changesTo b_T_changesTo 4 (some .int) :: bg_W) ({ frames := 2, cells := 0, slots := 0, locals := 47 }) (qPf κ D T (cX T aa zw kp fp e0 e1 oF oT kt ft ks fs fc S ++ tl T S) [.ref (aa 0), .ref (nR n)] sz) (va_Qi (fun (r : Int32) (fc1 : (Nat → Int32)) => r = nI (ed_st fp (nF n) kp (nK n))) (qB D T (va_A (cX T aa zw kp fp e0 e1 oF oT kt ft ks fs fc S ++ tl T S) sz) (fun fc1 : (Nat → Int32) => cX T aa zw kp fp e0 e1 oF oT kt ft ks fs fc1 S ++ tl T S)) (va_A (cX T aa zw kp fp e0 e1 oF oT kt ft ks fs fc S ++ tl T S) sz)) 0 0 (va_A (cX T aa zw kp fp e0 e1 oF oT kt ft ks fs fc S ++ tl T S) sz) := by
  refine Met.ofW (cc := b_T_changesTo) (maxL := 4) (ret := (some .int)) (by decide) rfl ?_
  intro p e s m args below meth c s₁ B hml hv
  obtain ⟨rfl, hsz, hP, hK, hD0, hF⟩ := hv
  have hx := B.exec
  have hb := B.bytes
  have hr := B.returns
  have hw : ∀ w ∈ bg_W, w.before ([.ref (aa 0), .ref (nR n)] : List Value).toArray s = true := fun w h => atoms_spec (ws := (Cond.code y_T_changesTo b_T_changesTo 4 (some .int) :: bg_W)) B.pre w (List.mem_cons_of_mem _ h)
  have hown : s.vm.findClass "TimeWords" = some m.cls := findClass_of_methodNamed B.named
  have hlocks := B.notSynchronized
  subst hsz
  have hD := hD0.self (sz := s.heap.size)
  generalize hAe : va_A (cX T aa zw kp fp e0 e1 oF oT kt ft ks fs fc S ++ tl T S) s.heap.size = A at hD hF ⊢
  have hA : ∀ q : Nat, s.heap.size ≤ q → A q := fun q h => by rw [← hAe]; exact Or.inr h
  have hS : va_S A s.heap s.heap [] := va_S.rf
  have hl := lv_entry ([.ref (aa 0), .ref (nR n)]) (n := 4) (Nat.le_of_ble_eq_true rfl)
  rw [lg_entry_eq]
  generalize (lg_sl ([.ref (aa 0), .ref (nR n)]) ++ List.replicate (4 - (lg_sl ([.ref (aa 0), .ref (nR n)])).length) Slot.unset).toArray = ls at hl ⊢
  have hl : lv_has ls 4 [(0, .ref (aa 0)), (1, .ref (nR n))] := hl
  refine lv_iconst (v := 0) hx hb d_T_changesTo_0 (by decide) ?_
  refine lv_istore_n (lv' := [(2, .int 0), (0, .ref (aa 0)), (1, .ref (nR n))]) hx hb d_T_changesTo_1 rfl hl (by decide) rfl (fun ls hl => ?_)
  have loop : ∀ (nf : Nat) (j : Nat) (g : Nat → Int32), (j ≤ nK n + 1) → (∀ k, k < j → g k = nI k) → ∀ (H : Heap) (locs : List Loc), va_P D gC (cX T aa zw kp fp e0 e1 oF oT kt ft ks fs g S ++ tl T S) H → va_D A (cX T aa zw kp fp e0 e1 oF oT kt ft ks fs g S ++ tl T S) → va_S A s.heap H locs → ∀ (ls : Array Slot), lv_has ls 4 [(0, .ref (aa 0)), (1, .ref (nR n)), (2, .int (nI j))] → nK n + 1 - j < nf → W p l e (headSpec (Cond.code y_T_changesTo b_T_changesTo 4 (some .int) :: bg_W) ({ frames := 2, cells := 0, slots := 0, locals := 47 })).room s m ([.ref (aa 0), .ref (nR n)] : List Value).toArray below meth c H locs 0 0 (MQ below (va_Qi (fun (r : Int32) (fc1 : (Nat → Int32)) => r = nI (ed_st fp (nF n) kp (nK n))) (qB D T A (fun fc1 : (Nat → Int32) => cX T aa zw kp fp e0 e1 oF oT kt ft ks fs fc1 S ++ tl T S)) A) ([.ref (aa 0), .ref (nR n)] : List Value).toArray s 0 0 A) (F0 m 2 ls []) := by
    intro nf
    induction nf with
    | zero => intro j g hj hG H locs hP hD hS ls hl hm; exact absurd hm (Nat.not_lt_zero _)
    | succ nf ih =>
      intro j g hj hG H locs hP hD hS ls hl hm
      refine lv_iload_n hx hb d_T_changesTo_2 rfl (lv_at hl 2 rfl) ?_
      refine lv_aload_n hx hb d_T_changesTo_3 rfl (lv_at hl 1 rfl) ?_
      refine va_get (D := D) (ci := 1) (v := .int (nI (nK n))) (C := "TimeWords$Row") (T := F_R) (N := 2) hx hb hw in_R hown hK (pc1 (hP.mem (List.mem_append_right _ (tl_nm hy0 nmm_r))) pc0) 0 rfl rfl 1 (by decide) (hw _ fl_T_62) (fun _ h9 => h9) rfl d_T_changesTo_4 ?_
      refine lv_icmp_gt (tgt := 32) hx hb d_T_changesTo_7 (by decide) (fun c1 => ?_) (fun c1 => ?_)
      · have c1 := nc_lt (a := nK n) (b := j) c1 (by omega) (by omega)
        refine lv_aload_n hx hb d_T_changesTo_32 rfl (lv_at hl 1 rfl) ?_
        refine va_get (D := D) (ci := 1) (v := .int (nI (nK n))) (C := "TimeWords$Row") (T := F_R) (N := 2) hx hb hw in_R hown hK (pc1 (hP.mem (List.mem_append_right _ (tl_nm hy0 nmm_r))) pc0) 0 rfl rfl 1 (by decide) (hw _ fl_T_62) (fun _ h9 => h9) rfl d_T_changesTo_33 ?_
        refine lv_istore_n (lv' := [(2, .int (nI (nK n))), (0, .ref (aa 0)), (1, .ref (nR n))]) hx hb d_T_changesTo_36 rfl hl (by decide) rfl (fun ls hl => ?_)
        refine lv_iconst (v := 0) hx hb d_T_changesTo_37 (by decide) ?_
        refine lv_istore_n (lv' := [(3, .int 0), (2, .int (nI (nK n))), (0, .ref (aa 0)), (1, .ref (nR n))]) hx hb d_T_changesTo_38 rfl hl (by decide) rfl (fun ls hl => ?_)
        have hF0 : ∀ k, k ≤ nK n → g k = nI (ed_st fp (nF n) 0 k) := fun k hk => hG k (by omega)
        have loop2 : ∀ (nf2 : Nat) (i : Nat) (g2 : Nat → Int32), (i ≤ kp) → (∀ k, k ≤ nK n → g2 k = nI (ed_st fp (nF n) i k)) → ∀ (H : Heap) (locs : List Loc), va_P D gC (cX T aa zw kp fp e0 e1 oF oT kt ft ks fs g2 S ++ tl T S) H → va_D A (cX T aa zw kp fp e0 e1 oF oT kt ft ks fs g2 S ++ tl T S) → va_S A s.heap H locs → ∀ (ls : Array Slot), lv_has ls 4 [(0, .ref (aa 0)), (1, .ref (nR n)), (2, .int (nI (ed_st fp (nF n) i (nK n)))), (3, .int (nI i))] → kp - i < nf2 → W p l e (headSpec (Cond.code y_T_changesTo b_T_changesTo 4 (some .int) :: bg_W) ({ frames := 2, cells := 0, slots := 0, locals := 47 })).room s m ([.ref (aa 0), .ref (nR n)] : List Value).toArray below meth c H locs 0 0 (MQ below (va_Qi (fun (r : Int32) (fc1 : (Nat → Int32)) => r = nI (ed_st fp (nF n) kp (nK n))) (qB D T A (fun fc1 : (Nat → Int32) => cX T aa zw kp fp e0 e1 oF oT kt ft ks fs fc1 S ++ tl T S)) A) ([.ref (aa 0), .ref (nR n)] : List Value).toArray s 0 0 A) (F0 m 39 ls []) := by
          intro nf2
          induction nf2 with
          | zero => intro i g2 hi hG2 H locs hP hD hS ls hl hm; exact absurd hm (Nat.not_lt_zero _)
          | succ nf2 ih2 =>
            intro i g2 hi hG2 H locs hP hD hS ls hl hm
            refine lv_iload_n hx hb d_T_changesTo_39 rfl (lv_at hl 3 rfl) ?_
            refine lv_aload_n hx hb d_T_changesTo_40 rfl (lv_at hl 0 rfl) ?_
            refine va_get (D := D) (ci := 5) (v := .ref (aa 1)) (C := "TimeWords") (T := F_T) (N := 8) hx hb hw in_T hown hK hP 0 rfl rfl 0 (by decide) (hw _ fl_T_14) (fun _ h9 => h9) rfl d_T_changesTo_41 ?_
            refine va_get (D := D) (ci := 1) (v := .int (nI kp)) (C := "TimeWords$Row") (T := F_R) (N := 2) hx hb hw in_R hown hK hP 1 rfl rfl 1 (by decide) (hw _ fl_T_62) (fun _ h9 => h9) rfl d_T_changesTo_44 ?_
            refine lv_icmp_ge (tgt := 63) hx hb d_T_changesTo_47 (by decide) (fun c2 => ?_) (fun c2 => ?_)
            · have c2 := nc_le (a := kp) (b := i) c2 (by omega) (by omega)
              refine lv_iload_n hx hb d_T_changesTo_63 rfl (lv_at hl 2 rfl) ?_
              exact W.iret (v := nI (ed_st fp (nF n) i (nK n))) hx hb hr (fun t ht hW => ⟨⟨nI (ed_st fp (nF n) i (nK n)), g2, rfl, (by rw [show i = kp by omega]), by rw [ht]; exact hP, va_K.moved hW.alike hK, hD⟩, hS.F ht⟩) hS.2.2 d_T_changesTo_64
            · have c2 := nc_nle (a := kp) (b := i) c2 (by omega) (by omega)
              refine lv_aload_n hx hb d_T_changesTo_50 rfl (lv_at hl 0 rfl) ?_
              refine lv_iload_n hx hb d_T_changesTo_51 rfl (lv_at hl 3 rfl) ?_
              refine lv_aload_n hx hb d_T_changesTo_52 rfl (lv_at hl 1 rfl) ?_
              refine g_calli (va_runV (As := [.int (nI i), .ref (nR n)]) (rest := []) ⟨hx, hb, hml, hown, hw⟩ (k_T_changesWithSign l D T κ aa zw kp fp e0 e1 oF oT kt ft ks fs g2 S H.size i n hy0 hy1 hy2 (by omega) hG2) (cwV 2 hw (bg_V ml_T_361 wi_T_changesWithSign wv_T_changesWithSign wz_T wc_T_changesWithSign) rfl rfl rfl (by decide +kernel) ⟨Nat.le_of_ble_eq_true rfl, Nat.le_of_ble_eq_true rfl⟩) ⟨qPf_b, va_recv hK hP (ci := 5) (q0 := 0) rfl rfl, qPf_p hP hK hD hF hS (g_free hD hS hA)⟩ rfl rfl hl.1 rfl (lv_room (Nat.le_of_ble_eq_true rfl)) d_T_changesTo_53 ⟨Nat.le_of_ble_eq_true rfl, Nat.le_of_ble_eq_true rfl⟩) hD hS hA (fun r3 u4 H locs hr3 hP hD hS => ?_)
              have hP : va_P D gC (cX T aa zw kp fp e0 e1 oF oT kt ft ks fs u4 S ++ tl T S) H := hP
              have hD : va_D A (cX T aa zw kp fp e0 e1 oF oT kt ft ks fs u4 S ++ tl T S) := hD
              rw [hr3.1]
              refine lv_istore_n (lv' := [(2, .int (nI (ed_st fp (nF n) (i + 1) (nK n)))), (0, .ref (aa 0)), (1, .ref (nR n)), (3, .int (nI i))]) hx hb d_T_changesTo_56 rfl hl (by decide) rfl (fun ls hl => ?_)
              refine lv_iinc (v := nI (i + 1)) (lv' := [(3, .int (nI (i + 1))), (2, .int (nI (ed_st fp (nF n) (i + 1) (nK n)))), (0, .ref (aa 0)), (1, .ref (nR n))]) hx hb d_T_changesTo_57 hl (k := 3) rfl (nI_add i 1) (by decide) rfl (fun ls hl => ?_)
              refine lv_goto (tgt := 39) hx hb d_T_changesTo_60 (by decide) ?_
              exact ih2 (i + 1) u4 (by omega) hr3.2 _ _ hP hD hS ls (lv_sub hl [2, 3, 1, 0] rfl) (by omega)
        exact loop2 ((kp - 0) + 1) 0 g (Nat.zero_le _) hF0 _ _ hP hD hS ls (lv_sub hl [2, 3, 1, 0] rfl) (Nat.lt_succ_self _)
      · have c1 := nc_nlt (a := nK n) (b := j) c1 (by omega) (by omega)
        refine lv_iload_n hx hb d_T_changesTo_10 rfl (lv_at hl 2 rfl) ?_
        refine lv_aload_n hx hb d_T_changesTo_11 rfl (lv_at hl 0 rfl) ?_
        refine va_get (D := D) (ci := 5) (v := .ref (aa 8)) (C := "TimeWords") (T := F_T) (N := 8) hx hb hw in_T hown hK hP 0 rfl rfl 7 (by decide) (hw _ fl_T_47) (fun _ h9 => h9) rfl d_T_changesTo_12 ?_
        refine va_alen hx hb hK hP 8 0 rfl rfl (v := nI 9) rfl d_T_changesTo_15 ?_
        refine lv_icmp_ge (tgt := 32) hx hb d_T_changesTo_16 (by decide) (fun c5 => absurd c5 ((nI_ge (a := j) (b := 9) (by omega) (by decide)))) (fun c5 => ?_)
        refine lv_aload_n hx hb d_T_changesTo_19 rfl (lv_at hl 0 rfl) ?_
        refine va_get (D := D) (ci := 5) (v := .ref (aa 8)) (C := "TimeWords") (T := F_T) (N := 8) hx hb hw in_T hown hK hP 0 rfl rfl 7 (by decide) (hw _ fl_T_47) (fun _ h9 => h9) rfl d_T_changesTo_20 ?_
        refine lv_iload_n hx hb d_T_changesTo_23 rfl (lv_at hl 2 rfl) ?_
        refine lv_iload_n hx hb d_T_changesTo_24 rfl (lv_at hl 2 rfl) ?_
        refine va_iast hx hb hK hP hD hS 8 0 rfl rfl (by first | assumption | exact vp_in_nI (by omega) (by omega)) d_T_changesTo_25 (fun H locs hP hD hS => ?_)
        rw [show (nI j).toNatClampNeg = j from nI_clamp (by omega)] at hP hD
        have hP : va_P D gC (cX T aa zw kp fp e0 e1 oF oT kt ft ks fs (upd g j (nI j)) S ++ tl T S) H := hP
        have hD : va_D A (cX T aa zw kp fp e0 e1 oF oT kt ft ks fs (upd g j (nI j)) S ++ tl T S) := hD
        refine lv_iinc (v := nI (j + 1)) (lv' := [(2, .int (nI (j + 1))), (0, .ref (aa 0)), (1, .ref (nR n))]) hx hb d_T_changesTo_26 hl (k := 2) rfl (nI_add j 1) (by decide) rfl (fun ls hl => ?_)
        refine lv_goto (tgt := 2) hx hb d_T_changesTo_29 (by decide) ?_
        exact ih (j + 1) (upd g j (nI j)) (by omega) (ct_1 hG) _ _ hP hD hS ls (lv_sub hl [1, 2, 0] rfl) (by omega)
  exact loop ((nK n + 1 - 0) + 1) 0 fc (Nat.zero_le _) lt_0 _ _ hP hD hS ls (lv_sub hl [1, 2, 0] rfl) (Nat.lt_succ_self _)

set_option maxHeartbeats 4000000 in
set_option maxRecDepth 100000 in
theorem k_T_near (l : Launch) (D : va_G) (T : gT) (κ : gS) (aa : Nat → Nat) (zw : Int32) (kp : Nat) (fp : Nat → Int32) (e0 e1 : Int32) (oF oT : Bool) (kt : Nat) (ft : Nat → Int32) (ks : Nat) (fs fc : Nat → Int32) (S : tS) (sz : Nat) (hy0 : tOk κ S) (hy1 : kp ≤ 24) : Met l y_T_near (Cond.code y_T_near b_T_near 5 (some .int) :: bg_W) ({ frames := 3, cells := 0, slots := 0, locals := 70 }) (qPf κ D T (cX T aa zw kp fp e0 e1 oF oT kt ft ks fs fc S ++ tl T S) [.ref (aa 0)] sz) (va_Qi (fun (r : Int32) (fc1 : (Nat → Int32)) => r = (j_nr (nd S fp kp) S.2.1.length).1) (qB D T (va_A (cX T aa zw kp fp e0 e1 oF oT kt ft ks fs fc S ++ tl T S) sz) (fun fc1 : (Nat → Int32) => cX T aa zw kp fp e0 e1 oF oT kt ft ks fs fc1 S ++ tl T S)) (va_A (cX T aa zw kp fp e0 e1 oF oT kt ft ks fs fc S ++ tl T S) sz)) 0 0 (va_A (cX T aa zw kp fp e0 e1 oF oT kt ft ks fs fc S ++ tl T S) sz) := by
  refine Met.ofW (cc := b_T_near) (maxL := 5) (ret := (some .int)) (by decide) rfl ?_
  intro p e s m args below meth c s₁ B hml hv
  obtain ⟨rfl, hsz, hP, hK, hD0, hF⟩ := hv
  have hx := B.exec
  have hb := B.bytes
  have hr := B.returns
  have hw : ∀ w ∈ bg_W, w.before ([.ref (aa 0)] : List Value).toArray s = true := fun w h => atoms_spec (ws := (Cond.code y_T_near b_T_near 5 (some .int) :: bg_W)) B.pre w (List.mem_cons_of_mem _ h)
  have hown : s.vm.findClass "TimeWords" = some m.cls := findClass_of_methodNamed B.named
  have hlocks := B.notSynchronized
  subst hsz
  have hD := hD0.self (sz := s.heap.size)
  generalize hAe : va_A (cX T aa zw kp fp e0 e1 oF oT kt ft ks fs fc S ++ tl T S) s.heap.size = A at hD hF ⊢
  have hA : ∀ q : Nat, s.heap.size ≤ q → A q := fun q h => by rw [← hAe]; exact Or.inr h
  have hS : va_S A s.heap s.heap [] := va_S.rf
  have hl := lv_entry ([.ref (aa 0)]) (n := 5) (Nat.le_of_ble_eq_true rfl)
  rw [lg_entry_eq]
  generalize (lg_sl ([.ref (aa 0)]) ++ List.replicate (5 - (lg_sl ([.ref (aa 0)])).length) Slot.unset).toArray = ls at hl ⊢
  have hl : lv_has ls 5 [(0, .ref (aa 0))] := hl
  have hL1 : S.2.1.length ≤ 24 := hy0.2.2.2.1
  have hL2 : S.2.2.2.length ≤ 60 := hy0.2.2.2.2
  refine lv_iconst (v := (-1)) hx hb d_T_near_0 (by decide) ?_
  refine lv_istore_n (lv' := [(1, .int (-1)), (0, .ref (aa 0))]) hx hb d_T_near_1 rfl hl (by decide) rfl (fun ls hl => ?_)
  refine lv_iconst (v := 0) hx hb d_T_near_2 (by decide) ?_
  refine lv_istore_n (lv' := [(2, .int 0), (1, .int (-1)), (0, .ref (aa 0))]) hx hb d_T_near_3 rfl hl (by decide) rfl (fun ls hl => ?_)
  refine lv_iconst (v := 0) hx hb d_T_near_4 (by decide) ?_
  refine lv_istore_n (lv' := [(3, .int 0), (2, .int 0), (1, .int (-1)), (0, .ref (aa 0))]) hx hb d_T_near_5 rfl hl (by decide) rfl (fun ls hl => ?_)
  have loop : ∀ (nf : Nat) (i : Nat) (av fv : Int32) (g : Nat → Int32), (i ≤ S.2.1.length) → (c_nr (nd S fp kp) i av fv) → ∀ (H : Heap) (locs : List Loc), va_P D gC (cX T aa zw kp fp e0 e1 oF oT kt ft ks fs g S ++ tl T S) H → va_D A (cX T aa zw kp fp e0 e1 oF oT kt ft ks fs g S ++ tl T S) → va_S A s.heap H locs → ∀ (ls : Array Slot), lv_has ls 5 [(0, .ref (aa 0)), (1, .int av), (2, .int fv), (3, .int (nI i))] → S.2.1.length - i < nf → W p l e (headSpec (Cond.code y_T_near b_T_near 5 (some .int) :: bg_W) ({ frames := 3, cells := 0, slots := 0, locals := 70 })).room s m ([.ref (aa 0)] : List Value).toArray below meth c H locs 0 0 (MQ below (va_Qi (fun (r : Int32) (fc1 : (Nat → Int32)) => r = (j_nr (nd S fp kp) S.2.1.length).1) (qB D T A (fun fc1 : (Nat → Int32) => cX T aa zw kp fp e0 e1 oF oT kt ft ks fs fc1 S ++ tl T S)) A) ([.ref (aa 0)] : List Value).toArray s 0 0 A) (F0 m 6 ls []) := by
    intro nf
    induction nf with
    | zero => intro i av fv g hi hC H locs hP hD hS ls hl hm; exact absurd hm (Nat.not_lt_zero _)
    | succ nf ih =>
      intro i av fv g hi hC H locs hP hD hS ls hl hm
      refine lv_iload_n hx hb d_T_near_6 rfl (lv_at hl 3 rfl) ?_
      refine lv_aload_n hx hb d_T_near_7 rfl (lv_at hl 0 rfl) ?_
      refine va_get (D := D) (ci := 5) (v := .ref S.1.1) (C := "TimeWords") (T := F_T) (N := 8) hx hb hw in_T hown hK hP 0 rfl rfl 1 (by decide) (hw _ fl_T_21) (fun _ h9 => h9) rfl d_T_near_8 ?_
      have hPc : va_P D gC ([(S.1.1, .inr (0, [.ref S.1.2.1, .int (nI S.2.1.length), .int S.1.2.2.1]))]) H := (pc1 (hP 9 _ rfl) pc0)
      refine vp_callSi (va_Run.run (va_runV (As := []) (rest := [.int (nI i)]) ⟨hx, hb, hml, hown, hw⟩ (k_A_size l D T S.1.1 S.1.2.1 S.2.1.length S.1.2.2.1) (cwV 0 hw (bg_V ml_T_86 wi_A_size wv_A_size wz_A wc_A_size) rfl rfl rfl (by decide +kernel) ⟨Nat.le_of_ble_eq_true rfl, Nat.le_of_ble_eq_true rfl⟩) ⟨sP_b, va_recv hK hPc (ci := 0) (q0 := 0) rfl rfl, sP_p hPc hK⟩ rfl rfl hl.1 rfl (lv_room (Nat.le_of_ble_eq_true rfl)) d_T_near_11 ⟨Nat.le_of_ble_eq_true rfl, Nat.le_of_ble_eq_true rfl⟩)) (fun r1 hr1 => ?_)
      replace hr1 := hr1.symm; subst hr1
      refine lv_icmp_ge (tgt := 59) hx hb d_T_near_14 (by decide) (fun c2 => ?_) (fun c2 => ?_)
      · have c2 := nc_le (a := S.2.1.length) (b := i) c2 (by omega) (by omega)
        refine lv_iload_n hx hb d_T_near_59 rfl (lv_at hl 1 rfl) ?_
        exact W.iret (v := av) hx hb hr (fun t ht hW => ⟨⟨av, g, rfl, (by rw [show S.2.1.length = i by omega]; exact c_nr_e hC), by rw [ht]; exact hP, va_K.moved hW.alike hK, hD⟩, hS.F ht⟩) hS.2.2 d_T_near_60
      · have c2 := nc_nle (a := S.2.1.length) (b := i) c2 (by omega) (by omega)
        obtain ⟨n, hn⟩ : ∃ n, S.2.1[i]? = some n := ⟨_, List.getElem?_eq_getElem (by omega)⟩
        obtain ⟨hn1, hn2, hn3, hn4, hn5, hn6⟩ := nm_at hy0 hn
        have hd := ed_le fp (nF n) kp (nK n)
        have h8 := hn6.1
        have hnd := nd_at (fp := fp) (kp := kp) hn
        refine lv_aload_n hx hb d_T_near_17 rfl (lv_at hl 0 rfl) ?_
        refine lv_aload_n hx hb d_T_near_18 rfl (lv_at hl 0 rfl) ?_
        refine va_get (D := D) (ci := 5) (v := .ref S.1.1) (C := "TimeWords") (T := F_T) (N := 8) hx hb hw in_T hown hK hP 0 rfl rfl 1 (by decide) (hw _ fl_T_21) (fun _ h9 => h9) rfl d_T_near_19 ?_
        refine lv_iload_n hx hb d_T_near_22 rfl (lv_at hl 3 rfl) ?_
        have hPc : va_P D gC ([(S.1.1, .inr (0, [.ref S.1.2.1, .int (nI S.2.1.length), .int S.1.2.2.1])), (S.1.2.1, .inl (T.2.2.2, S.1.2.2.2.1, .inr (.inr (.inr (.inr S.1.2.2.2.2)))))]) H := (pc1 (hP 9 _ rfl) (pc1 (hP.mem (List.mem_append_right _ (tl_na (by omega)))) pc0))
        refine va_csq (va_Run.run (va_runV (As := [.int (nI i)]) (rest := [.ref (aa 0)]) ⟨hx, hb, hml, hown, hw⟩ (k_A_get l D T S.1.1 S.1.2.1 S.2.1.length S.1.2.2.1 S.1.2.2.2.1 S.1.2.2.2.2 i hn4 hn2 (by omega)) (cwV 1 hw (bg_V ml_T_192 wi_A_get wv_A_get wz_A wc_A_get) rfl rfl rfl (by decide +kernel) ⟨Nat.le_of_ble_eq_true rfl, Nat.le_of_ble_eq_true rfl⟩) ⟨sP_b, va_recv hK hPc (ci := 0) (q0 := 0) rfl rfl, sP_p hPc hK⟩ rfl rfl hl.1 rfl (lv_room (Nat.le_of_ble_eq_true rfl)) d_T_near_23 ⟨Nat.le_of_ble_eq_true rfl, Nat.le_of_ble_eq_true rfl⟩)) (fun r3 hr3 => ?_)
        replace hr3 := hr3.symm; subst hr3
        rw [hn1]
        refine W.eq (g2 := F0 m 26 ls [.ref (nA n), .ref (aa 0)]) rfl ?_
        refine va_castY (C := "TimeWords$Name") hx hb hown (hw _ kl_T_92) (hF.2.2.2.1 _ (by simp [sC])) (va_recv hK (pc1 (hP.mem (List.mem_append_right _ (tl_nm hn5 nmm_o))) pc0) (ci := 4) (q0 := 0) rfl rfl) d_T_near_26 ?_
        refine va_get (D := D) (ci := 4) (v := .ref (nR n)) (C := "TimeWords$Name") (T := F_N) (N := 3) hx hb hw in_N hown hK (pc1 (hP.mem (List.mem_append_right _ (tl_nm hn5 nmm_o))) pc0) 0 rfl rfl 0 (by decide) (hw _ fl_T_196) (fun _ h9 => h9) rfl d_T_near_29 ?_
        refine g_calli (va_runV (As := [.ref (nR n)]) (rest := []) ⟨hx, hb, hml, hown, hw⟩ (k_T_changesTo l D T κ aa zw kp fp e0 e1 oF oT kt ft ks fs g S H.size n hn5 h8 hy1) (cwV 1 hw (bg_V ml_T_199 wi_T_changesTo wv_T_changesTo wz_T wc_T_changesTo) rfl rfl rfl (by decide +kernel) ⟨Nat.le_of_ble_eq_true rfl, Nat.le_of_ble_eq_true rfl⟩) ⟨qPf_b, va_recv hK hP (ci := 5) (q0 := 0) rfl rfl, qPf_p hP hK hD hF hS (g_free hD hS hA)⟩ rfl rfl hl.1 rfl (lv_room (Nat.le_of_ble_eq_true rfl)) d_T_near_32 ⟨Nat.le_of_ble_eq_true rfl, Nat.le_of_ble_eq_true rfl⟩) hD hS hA (fun r4 u5 H locs hr4 hP hD hS => ?_)
        have hP : va_P D gC (cX T aa zw kp fp e0 e1 oF oT kt ft ks fs u5 S ++ tl T S) H := hP
        have hD : va_D A (cX T aa zw kp fp e0 e1 oF oT kt ft ks fs u5 S ++ tl T S) := hD
        have hq9 := hr4; subst hq9
        rw [← hnd]
        refine lv_istore (lv' := [(4, .int (nI (nd S fp kp i))), (0, .ref (aa 0)), (1, .int av), (2, .int fv), (3, .int (nI i))]) hx hb d_T_near_35 hl (by decide) rfl (fun ls hl => ?_)
        refine lv_iload_n hx hb d_T_near_37 rfl (lv_at hl 2 rfl) ?_
        refine lv_iconst (v := (-1)) hx hb d_T_near_38 (by decide) ?_
        refine lv_icmp_eq (tgt := 48) hx hb d_T_near_39 (by decide) (fun c6 => ?_) (fun c6 => ?_)
        · refine lv_iload_n hx hb d_T_near_48 rfl (lv_at hl 4 rfl) ?_
          refine lv_istore_n (lv' := [(1, .int (nI i)), (4, .int (nI (nd S fp kp i))), (0, .ref (aa 0)), (2, .int fv), (3, .int (nI i))]) hx hb d_T_near_49 rfl hl (by decide) rfl (fun ls hl => ?_)
          refine lv_iload hx hb d_T_near_50 (lv_at hl 1 rfl) ?_
          refine lv_istore_n (lv' := [(2, .int (nI (nd S fp kp i))), (1, .int (nI i)), (4, .int (nI (nd S fp kp i))), (0, .ref (aa 0)), (3, .int (nI i))]) hx hb d_T_near_52 rfl hl (by decide) rfl (fun ls hl => ?_)
          refine lv_iinc (v := nI (i + 1)) (lv' := [(3, .int (nI (i + 1))), (2, .int (nI (nd S fp kp i))), (1, .int (nI i)), (4, .int (nI (nd S fp kp i))), (0, .ref (aa 0))]) hx hb d_T_near_53 hl (k := 4) rfl (nI_add i 1) (by decide) rfl (fun ls hl => ?_)
          refine lv_goto (tgt := 6) hx hb d_T_near_56 (by decide) ?_
          exact ih (i + 1) (nI i) (nI (nd S fp kp i)) u5 (by omega) (c_nr_y hC (by omega) (by omega) (Or.inl c6)) _ _ hP hD hS ls (lv_sub hl [4, 2, 1, 0] rfl) (by omega)
        · refine lv_iload hx hb d_T_near_42 (lv_at hl 0 rfl) ?_
          refine lv_iload_n hx hb d_T_near_44 rfl (lv_at hl 3 rfl) ?_
          refine lv_icmp_ge (tgt := 53) hx hb d_T_near_45 (by decide) (fun c7 => ?_) (fun c7 => ?_)
          · refine lv_iinc (v := nI (i + 1)) (lv' := [(3, .int (nI (i + 1))), (4, .int (nI (nd S fp kp i))), (0, .ref (aa 0)), (1, .int av), (2, .int fv)]) hx hb d_T_near_53 hl (k := 4) rfl (nI_add i 1) (by decide) rfl (fun ls hl => ?_)
            refine lv_goto (tgt := 6) hx hb d_T_near_56 (by decide) ?_
            exact ih (i + 1) av fv u5 (by omega) (c_nr_n hC (by omega) c6 (Int32.not_lt.mpr c7)) _ _ hP hD hS ls (lv_sub hl [2, 3, 4, 0] rfl) (by omega)
          · refine lv_iload_n hx hb d_T_near_48 rfl (lv_at hl 4 rfl) ?_
            refine lv_istore_n (lv' := [(1, .int (nI i)), (4, .int (nI (nd S fp kp i))), (0, .ref (aa 0)), (2, .int fv), (3, .int (nI i))]) hx hb d_T_near_49 rfl hl (by decide) rfl (fun ls hl => ?_)
            refine lv_iload hx hb d_T_near_50 (lv_at hl 1 rfl) ?_
            refine lv_istore_n (lv' := [(2, .int (nI (nd S fp kp i))), (1, .int (nI i)), (4, .int (nI (nd S fp kp i))), (0, .ref (aa 0)), (3, .int (nI i))]) hx hb d_T_near_52 rfl hl (by decide) rfl (fun ls hl => ?_)
            refine lv_iinc (v := nI (i + 1)) (lv' := [(3, .int (nI (i + 1))), (2, .int (nI (nd S fp kp i))), (1, .int (nI i)), (4, .int (nI (nd S fp kp i))), (0, .ref (aa 0))]) hx hb d_T_near_53 hl (k := 4) rfl (nI_add i 1) (by decide) rfl (fun ls hl => ?_)
            refine lv_goto (tgt := 6) hx hb d_T_near_56 (by decide) ?_
            exact ih (i + 1) (nI i) (nI (nd S fp kp i)) u5 (by omega) (c_nr_y hC (by omega) (by omega) (Or.inr (Int32.not_le.mp c7))) _ _ hP hD hS ls (lv_sub hl [4, 2, 1, 0] rfl) (by omega)
  exact loop ((S.2.1.length - 0) + 1) 0 (-1) 0 fc (Nat.zero_le _) (Or.inl ⟨rfl, rfl, rfl⟩) _ _ hP hD hS ls (lv_sub hl [3, 2, 1, 0] rfl) (Nat.lt_succ_self _)
