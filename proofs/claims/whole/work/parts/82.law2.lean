set_option maxHeartbeats 4000000 in
set_option maxRecDepth 100000 in
theorem law_open {p : Program} {l : Launch} {e : Env} {s : State} {m : MethodId} {below : List Frame} {meth : Method} {c : Code} {b L : Nat} {xs : Nat → Int32} {D : va_G} {T : gT} {κ : gS} {aa : Nat → Nat} {ox o : Nat} {a : Nat → Nat} {t : Nat} {Q : State → Prop} {H : Heap} {locs : List Loc} {ls : Array Slot} {ov : Nat → Int64} {zw : Int32} {kp : Nat} {fp : Nat → Int32} {e0 : Int32} {e1 : Int32} {oF : Bool} {oT : Bool} {kt : Nat} {ft : Nat → Int32} {ks : Nat} {fs : Nat → Int32} {fc : Nat → Int32} {S : tS} {z0 : Int32} {pn : Nat} {nn : Nat} {sn : Nat} {z18 : Int32} {z19 : Int32} {z20 : Int32} {z21 : Int32} {z24 : Int32} {z26 : Int32} {f1 : Nat → Int32} {f4 : Nat → Int32} {f5 : Nat → Int32} {f6 : Nat → Int32} {f7 : Nat → Int32} {f8 : Nat → Int32} {f9 : Nat → Int32} {f10 : Nat → Int32} {f11 : Nat → Int32} {f12 : Nat → Int32} {f13 : Nat → Int32} {f15 : Nat → Int32} {f16 : Nat → Int32} {f17 : Nat → Int32} {f22 : Nat → Int32} {f23 : Nat → Int32} {f25 : Nat → Int32} {f27 : Nat → Int32} {ln : Nat → Nat} {ck : Nat → Nat} (hC : lawC p l s m c b L xs D T κ) (ht : 6 * t + 6 ≤ L) (hR : lawR κ zw kp fp S pn nn sn z18 f1 f4 f5 f6 f7 f8 f9 f10 f11 f12 f13 f15 f16 f17 ln ck) (hP : va_P D gC (mX T o a z0 (nI pn) (nI nn) (nI sn) z18 z19 z20 z21 z24 z26 f1 f4 f5 f6 f7 f8 f9 f10 f11 f12 f13 f15 f16 f17 f22 f23 f25 f27 ++ ([(ox, .inl (T.2.2.1, 1, .inr (.inl ov)))] ++ (cX T aa zw kp fp e0 e1 oF oT kt ft ks fs fc S ++ tl T S))) H) (hD : va_D (fun q : Nat => s.heap.size ≤ q) (mX T o a z0 (nI pn) (nI nn) (nI sn) z18 z19 z20 z21 z24 z26 f1 f4 f5 f6 f7 f8 f9 f10 f11 f12 f13 f15 f16 f17 f22 f23 f25 f27 ++ ([(ox, .inl (T.2.2.1, 1, .inr (.inl ov)))] ++ (cX T aa zw kp fp e0 e1 oF oT kt ft ks fs fc S ++ tl T S)))) (hS : va_S (fun q : Nat => s.heap.size ≤ q) s.heap H locs) (hl : lv_has ls 7 [(0, .ref b), (1, .ref (aa 0)), (2, .ref o), (3, .ref ox), (4, .int (nI (6 * t)))]) (kk : lawK p l e s m below meth c b D T κ aa ox o a t Q) : W p l e room_1 s m #[Value.ref b] below meth c H locs (40 + 8 * t) (1400 + 200 * t) Q (F0 m 692 ls []) := by
  obtain ⟨hl9, hx, hb, hml, hown, hw, hX, hbl, hK, hF, hL⟩ := hC
  have hA : ∀ q : Nat, s.heap.size ≤ q → (fun q : Nat => s.heap.size ≤ q) q := fun _ h => h
  have hbA : ¬ (fun q : Nat => s.heap.size ≤ q) b := Nat.not_le.mpr hbl
  refine lv_aload_n hx hb d_L_law_692 rfl (lv_at hl 1 rfl) ?_
  refine lv_aload_n hx hb d_L_law_693 rfl (lv_at hl 0 rfl) ?_
  refine lv_iload hx hb d_L_law_694 (lv_at hl 4 rfl) ?_
  refine lv_iconst (v := 1) hx hb d_L_law_696 (by decide) ?_
  refine lv_iadd hx hb d_L_law_697 ?_
  rw [nI_1]
  refine va_sld hx hb hX hbl hbA hS (vp_in_nI (n := 6 * t + 1) (by omega) (by omega)) d_L_law_698 ?_
  rw [show (nI (6 * t + 1)).toNatClampNeg = 6 * t + 1 from nI_clamp (by omega)]
  refine lv_aload_n hx hb d_L_law_699 rfl (lv_at hl 0 rfl) ?_
  refine lv_iload hx hb d_L_law_700 (lv_at hl 4 rfl) ?_
  refine lv_iconst (v := 2) hx hb d_L_law_702 (by decide) ?_
  refine lv_iadd hx hb d_L_law_703 ?_
  rw [show (nI (6 * t)) + 2 = nI (6 * t + 2) from nI_add (6 * t) 2]
  refine va_sld hx hb hX hbl hbA hS (vp_in_nI (n := 6 * t + 2) (by omega) (by omega)) d_L_law_704 ?_
  rw [show (nI (6 * t + 2)).toNatClampNeg = 6 * t + 2 from nI_clamp (by omega)]
  refine lv_aload_n hx hb d_L_law_705 rfl (lv_at hl 3 rfl) ?_
  have hPc : va_P D gC ([(ox, .inl (T.2.2.1, 1, .inr (.inl ov)))] ++ (cX T aa zw kp fp e0 e1 oF oT kt ft ks fs fc S ++ tl T S)) H := hP.rt
  have hDc : va_D (fun q : Nat => s.heap.size ≤ q) ([(ox, .inl (T.2.2.1, 1, .inr (.inl ov)))] ++ (cX T aa zw kp fp e0 e1 oF oT kt ft ks fs fc S ++ tl T S)) := hD.rt
  refine g_blki (B := mX T o a z0 (nI pn) (nI nn) (nI sn) z18 z19 z20 z21 z24 z26 f1 f4 f5 f6 f7 f8 f9 f10 f11 f12 f13 f15 f16 f17 f22 f23 f25 f27) (C := [(ox, .inl (T.2.2.1, 1, .inr (.inl ov)))] ++ (cX T aa zw kp fp e0 e1 oF oT kt ft ks fs fc S ++ tl T S)) (vx_va (vx_runSX (As := [.ref (aa 0), .int (xs (6 * t + 1)), .int (xs (6 * t + 2)), .ref ox]) (rest := []) ⟨hx, hb, hml, hown, hw⟩ (k_L_open l hl9 D T κ ox ov aa zw kp fp e0 e1 oF oT kt ft ks fs fc S H.size (xs (6 * t + 1)) (xs (6 * t + 2)) hR.1.1) (vx_cwSW 4 hw (bg_SW ml_L_112 wt_L_open wz_L wc_L_open) rfl rfl rfl (by decide +kernel) ⟨Nat.le_of_ble_eq_true rfl, Nat.le_of_ble_eq_true rfl⟩) ⟨qPf_b, qPf_p hPc hK hDc hF hS (g_free hDc hS hA)⟩ rfl rfl hl.1 rfl (lv_room (Nat.le_of_ble_eq_true rfl)) d_L_law_706 ⟨by show 40 + 8 * t + 1 ≤ 601024; omega, by show 1400 + 200 * t + 6 ≤ 7293034; omega⟩)) hP hD hS hA (fun r1 u1 H locs P1 hP hD hS => ?_)
  have hP : va_P D gC (mX T o a z0 (nI pn) (nI nn) (nI sn) z18 z19 z20 z21 z24 z26 f1 f4 f5 f6 f7 f8 f9 f10 f11 f12 f13 f15 f16 f17 f22 f23 f25 f27 ++ ([(ox, .inl (T.2.2.1, 1, .inr (.inl u1)))] ++ (cX T aa zw kp fp e0 e1 oF oT kt ft ks fs fc S ++ tl T S))) H := hP
  have hD : va_D (fun q : Nat => s.heap.size ≤ q) (mX T o a z0 (nI pn) (nI nn) (nI sn) z18 z19 z20 z21 z24 z26 f1 f4 f5 f6 f7 f8 f9 f10 f11 f12 f13 f15 f16 f17 f22 f23 f25 f27 ++ ([(ox, .inl (T.2.2.1, 1, .inr (.inl u1)))] ++ (cX T aa zw kp fp e0 e1 oF oT kt ft ks fs fc S ++ tl T S))) := hD
  refine lv_istore (lv' := [(5, .int r1), (0, .ref b), (1, .ref (aa 0)), (2, .ref o), (3, .ref ox), (4, .int (nI (6 * t)))]) hx hb d_L_law_709 hl (by decide) rfl (fun ls hl => ?_)
  refine lv_aload_n hx hb d_L_law_711 rfl (lv_at hl 3 rfl) ?_
  refine lv_aload_n hx hb d_L_law_712 rfl (lv_at hl 1 rfl) ?_
  refine lv_iload hx hb d_L_law_713 (lv_at hl 5 rfl) ?_
  refine lv_iconst (v := 1) hx hb d_L_law_715 (by decide) ?_
  refine lv_iadd hx hb d_L_law_716 ?_
  rw [nI_1]
  refine va_sld hx hb hX hbl hbA hS (vp_in_nI (n := 6 * t + 1) (by omega) (by omega)) d_L_law_717 ?_
  rw [show (nI (6 * t + 1)).toNatClampNeg = 6 * t + 1 from nI_clamp (by omega)]
  refine lv_aload_n hx hb d_L_law_718 rfl (lv_at hl 1 rfl) ?_
  refine lv_iload hx hb d_L_law_719 (lv_at hl 5 rfl) ?_
  refine lv_iconst (v := 2) hx hb d_L_law_721 (by decide) ?_
  refine lv_iadd hx hb d_L_law_722 ?_
  rw [show (nI (6 * t)) + 2 = nI (6 * t + 2) from nI_add (6 * t) 2]
  refine va_sld hx hb hX hbl hbA hS (vp_in_nI (n := 6 * t + 2) (by omega) (by omega)) d_L_law_723 ?_
  rw [show (nI (6 * t + 2)).toNatClampNeg = 6 * t + 2 from nI_clamp (by omega)]
  have hPc : va_P D gC (mX T o a z0 (nI pn) (nI nn) (nI sn) z18 z19 z20 z21 z24 z26 f1 f4 f5 f6 f7 f8 f9 f10 f11 f12 f13 f15 f16 f17 f22 f23 f25 f27) H := hP.lt
  have hDc : va_D (fun q : Nat => s.heap.size ≤ q) (mX T o a z0 (nI pn) (nI nn) (nI sn) z18 z19 z20 z21 z24 z26 f1 f4 f5 f6 f7 f8 f9 f10 f11 f12 f13 f15 f16 f17 f22 f23 f25 f27) := hD.lt
  refine g_blqi (C := mX T o a z0 (nI pn) (nI nn) (nI sn) z18 z19 z20 z21 z24 z26 f1 f4 f5 f6 f7 f8 f9 f10 f11 f12 f13 f15 f16 f17 f22 f23 f25 f27) (B := [(ox, .inl (T.2.2.1, 1, .inr (.inl u1)))] ++ (cX T aa zw kp fp e0 e1 oF oT kt ft ks fs fc S ++ tl T S)) (va_runV (As := [.int (xs (6 * t + 1)), .int (xs (6 * t + 2))]) (rest := []) ⟨hx, hb, hml, hown, hw⟩ (k_M_open l D T o a z0 (nI pn) (nI nn) sn z18 z19 z20 z21 z24 z26 f1 f4 f5 f6 f7 f8 f9 f10 f11 f12 f13 f15 f16 f17 f22 f23 f25 f27 H.size (xs (6 * t + 1)) (xs (6 * t + 2)) hR.sn60) (cwV 2 hw (bg_V ml_L_114 wi_M_open wv_M_open wz_M wc_M_open) rfl rfl rfl (by decide +kernel) ⟨Nat.le_of_ble_eq_true rfl, Nat.le_of_ble_eq_true rfl⟩) ⟨qP_b, va_recv hK hPc (ci := 6) (q0 := 0) rfl rfl, qP_p hPc hK hDc⟩ rfl rfl hl.1 rfl (lv_room (Nat.le_of_ble_eq_true rfl)) d_L_law_724 ⟨by show 40 + 8 * t + 1 + 0 ≤ 601024; omega, by show 1400 + 200 * t + 6 + 0 ≤ 7293034; omega⟩) hP hD hS hA (fun r2 u2 H locs P2 hP hD hS => ?_)
  have hP : va_P D gC (mX T o a u2 (nI pn) (nI nn) (nI sn) z18 z19 z20 z21 z24 z26 f1 f4 f5 f6 f7 f8 f9 f10 f11 f12 f13 f15 f16 f17 f22 f23 f25 f27 ++ ([(ox, .inl (T.2.2.1, 1, .inr (.inl u1)))] ++ (cX T aa zw kp fp e0 e1 oF oT kt ft ks fs fc S ++ tl T S))) H := hP
  have hD : va_D (fun q : Nat => s.heap.size ≤ q) (mX T o a u2 (nI pn) (nI nn) (nI sn) z18 z19 z20 z21 z24 z26 f1 f4 f5 f6 f7 f8 f9 f10 f11 f12 f13 f15 f16 f17 f22 f23 f25 f27 ++ ([(ox, .inl (T.2.2.1, 1, .inr (.inl u1)))] ++ (cX T aa zw kp fp e0 e1 oF oT kt ft ks fs fc S ++ tl T S))) := hD
  obtain ⟨hk, hv, hR⟩ := tie_open hR P1 P2
  refine lv_istore (lv' := [(6, .int r2), (5, .int r1), (0, .ref b), (1, .ref (aa 0)), (2, .ref o), (3, .ref ox), (4, .int (nI (6 * t)))]) hx hb d_L_law_727 hl (by decide) rfl (fun ls hl => ?_)
  refine lv_aload_n hx hb d_L_law_729 rfl (lv_at hl 4 rfl) ?_
  have hPc : va_P D gC (mX T o a u2 (nI pn) (nI nn) (nI sn) z18 z19 z20 z21 z24 z26 f1 f4 f5 f6 f7 f8 f9 f10 f11 f12 f13 f15 f16 f17 f22 f23 f25 f27) H := hP.lt
  refine vp_callSi (va_Run.run (va_runV (As := []) (rest := []) ⟨hx, hb, hml, hown, hw⟩ (k_M_thrown l D T o a u2 (nI pn) (nI nn) (nI sn) z18 z19 z20 z21 z24 z26 f1 f4 f5 f6 f7 f8 f9 f10 f11 f12 f13 f15 f16 f17 f22 f23 f25 f27) (cwV 0 hw (bg_V ml_L_80 wi_M_thrown wv_M_thrown wz_M wc_M_thrown) rfl rfl rfl (by decide +kernel) ⟨Nat.le_of_ble_eq_true rfl, Nat.le_of_ble_eq_true rfl⟩) ⟨sP_b, va_recv hK hPc (ci := 6) (q0 := 0) rfl rfl, sP_p hPc hK⟩ rfl rfl hl.1 rfl (lv_room (Nat.le_of_ble_eq_true rfl)) d_L_law_730 ⟨by show 40 + 8 * t + 1 + 0 + 0 ≤ 601024; omega, by show 1400 + 200 * t + 6 + 0 + 0 ≤ 7293034; omega⟩)) (fun r3 hr3 => ?_)
  replace hr3 := hr3.symm; subst hr3
  refine lv_iload hx hb d_L_law_733 (lv_at hl 1 rfl) ?_
  refine lv_icmp_eq (tgt := 740) hx hb d_L_law_735 (by decide) (fun c3 => ?_) (fun c3 => absurd (hk) c3)
  refine lv_iload hx hb d_L_law_740 (lv_at hl 1 rfl) ?_
  refine lv_if_ne (tgt := 764) hx hb d_L_law_742 (by decide) (fun c4 => ?_) (fun c4 => ?_)
  · refine lv_goto (tgt := 1268) hx hb d_L_law_764 (by decide) ?_
    refine W.widen (k := 40 + 8 * (t + 1)) (n := 1400 + 200 * (t + 1)) (by show 40 + 8 * t + 1 + 0 ≤ 40 + 8 * (t + 1); omega) (by show 1400 + 200 * t + 6 + 0 ≤ 1400 + 200 * (t + 1); omega) ?_
    exact kk H locs ls u1 zw kp fp e0 e1 oF oT kt ft ks fs fc S u2 pn nn sn z18 z19 z20 z21 z24 z26 f1 f4 f5 f6 f7 f8 f9 f10 f11 f12 f13 f15 f16 f17 f22 f23 f25 f27 ln ck hR hP hD hS (lv_sub hl [2, 3, 4, 5, 6] rfl)
  · refine lv_aload_n hx hb d_L_law_745 rfl (lv_at hl 5 rfl) ?_
    refine lv_iconst (v := 0) hx hb d_L_law_746 (by decide) ?_
    refine va_lald hx hb hK hP 19 2 rfl rfl (vp_in_nI (n := 0) (by decide) (by decide)) d_L_law_747 ?_
    rw [show (0 : Int32).toNatClampNeg = 0 from by decide]
    refine lv_iload hx hb d_L_law_748 (lv_at hl 0 rfl) ?_
    refine lv_if_eq (tgt := 757) hx hb d_L_law_750 (by decide) (fun c5 => ?_) (fun c5 => ?_)
    · refine lv_lconst (v := 0) hx hb d_L_law_757 (by decide) ?_
      rw [hv c4, if_pos c5]
      refine W.lcmp hx hb d_L_law_758 ?_
      refine lv_if_eq (tgt := 764) hx hb d_L_law_759 (by decide) (fun c6 => ?_) (fun c6 => absurd (lgc _) c6)
      refine lv_goto (tgt := 1268) hx hb d_L_law_764 (by decide) ?_
      refine W.widen (k := 40 + 8 * (t + 1)) (n := 1400 + 200 * (t + 1)) (by show 40 + 8 * t + 1 + 0 ≤ 40 + 8 * (t + 1); omega) (by show 1400 + 200 * t + 6 + 0 ≤ 1400 + 200 * (t + 1); omega) ?_
      exact kk H locs ls u1 zw kp fp e0 e1 oF oT kt ft ks fs fc S u2 pn nn sn z18 z19 z20 z21 z24 z26 f1 f4 f5 f6 f7 f8 f9 f10 f11 f12 f13 f15 f16 f17 f22 f23 f25 f27 ln ck hR hP hD hS (lv_sub hl [2, 3, 4, 5, 6] rfl)
    · refine lv_lconst (v := 1) hx hb d_L_law_753 (by decide) ?_
      refine lv_goto (tgt := 758) hx hb d_L_law_754 (by decide) ?_
      rw [hv c4, if_neg c5]
      refine W.lcmp hx hb d_L_law_758 ?_
      refine lv_if_eq (tgt := 764) hx hb d_L_law_759 (by decide) (fun c7 => ?_) (fun c7 => absurd (lgc _) c7)
      refine lv_goto (tgt := 1268) hx hb d_L_law_764 (by decide) ?_
      refine W.widen (k := 40 + 8 * (t + 1)) (n := 1400 + 200 * (t + 1)) (by show 40 + 8 * t + 1 + 0 ≤ 40 + 8 * (t + 1); omega) (by show 1400 + 200 * t + 6 + 0 ≤ 1400 + 200 * (t + 1); omega) ?_
      exact kk H locs ls u1 zw kp fp e0 e1 oF oT kt ft ks fs fc S u2 pn nn sn z18 z19 z20 z21 z24 z26 f1 f4 f5 f6 f7 f8 f9 f10 f11 f12 f13 f15 f16 f17 f22 f23 f25 f27 ln ck hR hP hD hS (lv_sub hl [2, 3, 4, 5, 6] rfl)

set_option maxHeartbeats 4000000 in
set_option maxRecDepth 100000 in
theorem law_join {p : Program} {l : Launch} {e : Env} {s : State} {m : MethodId} {below : List Frame} {meth : Method} {c : Code} {b L : Nat} {xs : Nat → Int32} {D : va_G} {T : gT} {κ : gS} {aa : Nat → Nat} {ox o : Nat} {a : Nat → Nat} {t : Nat} {Q : State → Prop} {H : Heap} {locs : List Loc} {ls : Array Slot} {ov : Nat → Int64} {zw : Int32} {kp : Nat} {fp : Nat → Int32} {e0 : Int32} {e1 : Int32} {oF : Bool} {oT : Bool} {kt : Nat} {ft : Nat → Int32} {ks : Nat} {fs : Nat → Int32} {fc : Nat → Int32} {S : tS} {z0 : Int32} {pn : Nat} {nn : Nat} {sn : Nat} {z18 : Int32} {z19 : Int32} {z20 : Int32} {z21 : Int32} {z24 : Int32} {z26 : Int32} {f1 : Nat → Int32} {f4 : Nat → Int32} {f5 : Nat → Int32} {f6 : Nat → Int32} {f7 : Nat → Int32} {f8 : Nat → Int32} {f9 : Nat → Int32} {f10 : Nat → Int32} {f11 : Nat → Int32} {f12 : Nat → Int32} {f13 : Nat → Int32} {f15 : Nat → Int32} {f16 : Nat → Int32} {f17 : Nat → Int32} {f22 : Nat → Int32} {f23 : Nat → Int32} {f25 : Nat → Int32} {f27 : Nat → Int32} {ln : Nat → Nat} {ck : Nat → Nat} (hC : lawC p l s m c b L xs D T κ) (ht : 6 * t + 6 ≤ L) (hR : lawR κ zw kp fp S pn nn sn z18 f1 f4 f5 f6 f7 f8 f9 f10 f11 f12 f13 f15 f16 f17 ln ck) (hP : va_P D gC (mX T o a z0 (nI pn) (nI nn) (nI sn) z18 z19 z20 z21 z24 z26 f1 f4 f5 f6 f7 f8 f9 f10 f11 f12 f13 f15 f16 f17 f22 f23 f25 f27 ++ ([(ox, .inl (T.2.2.1, 1, .inr (.inl ov)))] ++ (cX T aa zw kp fp e0 e1 oF oT kt ft ks fs fc S ++ tl T S))) H) (hD : va_D (fun q : Nat => s.heap.size ≤ q) (mX T o a z0 (nI pn) (nI nn) (nI sn) z18 z19 z20 z21 z24 z26 f1 f4 f5 f6 f7 f8 f9 f10 f11 f12 f13 f15 f16 f17 f22 f23 f25 f27 ++ ([(ox, .inl (T.2.2.1, 1, .inr (.inl ov)))] ++ (cX T aa zw kp fp e0 e1 oF oT kt ft ks fs fc S ++ tl T S)))) (hS : va_S (fun q : Nat => s.heap.size ≤ q) s.heap H locs) (hl : lv_has ls 7 [(0, .ref b), (1, .ref (aa 0)), (2, .ref o), (3, .ref ox), (4, .int (nI (6 * t)))]) (kk : lawK p l e s m below meth c b D T κ aa ox o a t Q) : W p l e room_1 s m #[Value.ref b] below meth c H locs (40 + 8 * t) (1400 + 200 * t) Q (F0 m 767 ls []) := by
  obtain ⟨hl9, hx, hb, hml, hown, hw, hX, hbl, hK, hF, hL⟩ := hC
  have hA : ∀ q : Nat, s.heap.size ≤ q → (fun q : Nat => s.heap.size ≤ q) q := fun _ h => h
  have hbA : ¬ (fun q : Nat => s.heap.size ≤ q) b := Nat.not_le.mpr hbl
  refine lv_aload_n hx hb d_L_law_767 rfl (lv_at hl 1 rfl) ?_
  refine lv_aload_n hx hb d_L_law_768 rfl (lv_at hl 0 rfl) ?_
  refine lv_iload hx hb d_L_law_769 (lv_at hl 4 rfl) ?_
  refine lv_iconst (v := 1) hx hb d_L_law_771 (by decide) ?_
  refine lv_iadd hx hb d_L_law_772 ?_
  rw [nI_1]
  refine va_sld hx hb hX hbl hbA hS (vp_in_nI (n := 6 * t + 1) (by omega) (by omega)) d_L_law_773 ?_
  rw [show (nI (6 * t + 1)).toNatClampNeg = 6 * t + 1 from nI_clamp (by omega)]
  refine lv_aload_n hx hb d_L_law_774 rfl (lv_at hl 0 rfl) ?_
  refine lv_iload hx hb d_L_law_775 (lv_at hl 4 rfl) ?_
  refine lv_iconst (v := 2) hx hb d_L_law_777 (by decide) ?_
  refine lv_iadd hx hb d_L_law_778 ?_
  rw [show (nI (6 * t)) + 2 = nI (6 * t + 2) from nI_add (6 * t) 2]
  refine va_sld hx hb hX hbl hbA hS (vp_in_nI (n := 6 * t + 2) (by omega) (by omega)) d_L_law_779 ?_
  rw [show (nI (6 * t + 2)).toNatClampNeg = 6 * t + 2 from nI_clamp (by omega)]
  refine lv_aload_n hx hb d_L_law_780 rfl (lv_at hl 3 rfl) ?_
  have hPc : va_P D gC ([(ox, .inl (T.2.2.1, 1, .inr (.inl ov)))] ++ (cX T aa zw kp fp e0 e1 oF oT kt ft ks fs fc S ++ tl T S)) H := hP.rt
  have hDc : va_D (fun q : Nat => s.heap.size ≤ q) ([(ox, .inl (T.2.2.1, 1, .inr (.inl ov)))] ++ (cX T aa zw kp fp e0 e1 oF oT kt ft ks fs fc S ++ tl T S)) := hD.rt
  refine g_blki (B := mX T o a z0 (nI pn) (nI nn) (nI sn) z18 z19 z20 z21 z24 z26 f1 f4 f5 f6 f7 f8 f9 f10 f11 f12 f13 f15 f16 f17 f22 f23 f25 f27) (C := [(ox, .inl (T.2.2.1, 1, .inr (.inl ov)))] ++ (cX T aa zw kp fp e0 e1 oF oT kt ft ks fs fc S ++ tl T S)) (vx_va (vx_runSX (As := [.ref (aa 0), .int (xs (6 * t + 1)), .int (xs (6 * t + 2)), .ref ox]) (rest := []) ⟨hx, hb, hml, hown, hw⟩ (k_L_join l hl9 D T κ ox ov aa zw kp fp e0 e1 oF oT kt ft ks fs fc S H.size (xs (6 * t + 1)) (xs (6 * t + 2)) hR.1.1) (vx_cwSW 4 hw (bg_SW ml_L_115 wt_L_join wz_L wc_L_join) rfl rfl rfl (by decide +kernel) ⟨Nat.le_of_ble_eq_true rfl, Nat.le_of_ble_eq_true rfl⟩) ⟨qPf_b, qPf_p hPc hK hDc hF hS (g_free hDc hS hA)⟩ rfl rfl hl.1 rfl (lv_room (Nat.le_of_ble_eq_true rfl)) d_L_law_781 ⟨by show 40 + 8 * t + 2 ≤ 601024; omega, by show 1400 + 200 * t + 94 ≤ 7293034; omega⟩)) hP hD hS hA (fun r1 u9 H locs P1 hP hD hS => ?_)
  obtain ⟨u1, u2, u3, u4, u5, u6⟩ := u9
  dsimp only at P1 hP hD
  have hP : va_P D gC (mX T o a z0 (nI pn) (nI nn) (nI sn) z18 z19 z20 z21 z24 z26 f1 f4 f5 f6 f7 f8 f9 f10 f11 f12 f13 f15 f16 f17 f22 f23 f25 f27 ++ ([(ox, .inl (T.2.2.1, 1, .inr (.inl u1)))] ++ (cX T aa zw kp fp u2 u3 u4 u5 kt ft ks fs fc u6 ++ tl T u6))) H := hP
  have hD : va_D (fun q : Nat => s.heap.size ≤ q) (mX T o a z0 (nI pn) (nI nn) (nI sn) z18 z19 z20 z21 z24 z26 f1 f4 f5 f6 f7 f8 f9 f10 f11 f12 f13 f15 f16 f17 f22 f23 f25 f27 ++ ([(ox, .inl (T.2.2.1, 1, .inr (.inl u1)))] ++ (cX T aa zw kp fp u2 u3 u4 u5 kt ft ks fs fc u6 ++ tl T u6))) := hD
  refine lv_istore (lv' := [(5, .int r1), (0, .ref b), (1, .ref (aa 0)), (2, .ref o), (3, .ref ox), (4, .int (nI (6 * t)))]) hx hb d_L_law_784 hl (by decide) rfl (fun ls hl => ?_)
  refine lv_aload_n hx hb d_L_law_786 rfl (lv_at hl 3 rfl) ?_
  refine lv_aload_n hx hb d_L_law_787 rfl (lv_at hl 1 rfl) ?_
  refine lv_iload hx hb d_L_law_788 (lv_at hl 5 rfl) ?_
  refine lv_iconst (v := 1) hx hb d_L_law_790 (by decide) ?_
  refine lv_iadd hx hb d_L_law_791 ?_
  rw [nI_1]
  refine va_sld hx hb hX hbl hbA hS (vp_in_nI (n := 6 * t + 1) (by omega) (by omega)) d_L_law_792 ?_
  rw [show (nI (6 * t + 1)).toNatClampNeg = 6 * t + 1 from nI_clamp (by omega)]
  refine lv_aload_n hx hb d_L_law_793 rfl (lv_at hl 1 rfl) ?_
  refine lv_iload hx hb d_L_law_794 (lv_at hl 5 rfl) ?_
  refine lv_iconst (v := 2) hx hb d_L_law_796 (by decide) ?_
  refine lv_iadd hx hb d_L_law_797 ?_
  rw [show (nI (6 * t)) + 2 = nI (6 * t + 2) from nI_add (6 * t) 2]
  refine va_sld hx hb hX hbl hbA hS (vp_in_nI (n := 6 * t + 2) (by omega) (by omega)) d_L_law_798 ?_
  rw [show (nI (6 * t + 2)).toNatClampNeg = 6 * t + 2 from nI_clamp (by omega)]
  have hPc : va_P D gC (mX T o a z0 (nI pn) (nI nn) (nI sn) z18 z19 z20 z21 z24 z26 f1 f4 f5 f6 f7 f8 f9 f10 f11 f12 f13 f15 f16 f17 f22 f23 f25 f27) H := hP.lt
  have hDc : va_D (fun q : Nat => s.heap.size ≤ q) (mX T o a z0 (nI pn) (nI nn) (nI sn) z18 z19 z20 z21 z24 z26 f1 f4 f5 f6 f7 f8 f9 f10 f11 f12 f13 f15 f16 f17 f22 f23 f25 f27) := hD.lt
  refine g_blqi (C := mX T o a z0 (nI pn) (nI nn) (nI sn) z18 z19 z20 z21 z24 z26 f1 f4 f5 f6 f7 f8 f9 f10 f11 f12 f13 f15 f16 f17 f22 f23 f25 f27) (B := [(ox, .inl (T.2.2.1, 1, .inr (.inl u1)))] ++ (cX T aa zw kp fp u2 u3 u4 u5 kt ft ks fs fc u6 ++ tl T u6)) (va_runV (As := [.int (xs (6 * t + 1)), .int (xs (6 * t + 2))]) (rest := []) ⟨hx, hb, hml, hown, hw⟩ (k_M_join l D T o a z0 (nI pn) (nI nn) sn z18 z19 z20 z21 z24 z26 f1 f4 f5 f6 f7 f8 f9 f10 f11 f12 f13 f15 f16 f17 f22 f23 f25 f27 H.size (xs (6 * t + 1)) (xs (6 * t + 2)) hR.sn60) (cwV 2 hw (bg_V ml_L_117 wi_M_join wv_M_join wz_M wc_M_join) rfl rfl rfl (by decide +kernel) ⟨Nat.le_of_ble_eq_true rfl, Nat.le_of_ble_eq_true rfl⟩) ⟨qP_b, va_recv hK hPc (ci := 6) (q0 := 0) rfl rfl, qP_p hPc hK hDc⟩ rfl rfl hl.1 rfl (lv_room (Nat.le_of_ble_eq_true rfl)) d_L_law_799 ⟨by show 40 + 8 * t + 2 + 0 ≤ 601024; omega, by show 1400 + 200 * t + 94 + 0 ≤ 7293034; omega⟩) hP hD hS hA (fun r2 u9 H locs P2 hP hD hS => ?_)
  obtain ⟨u7, u8, u9, u10, u11, u12, u13, u14⟩ := u9
  dsimp only at P2 hP hD
  have hP : va_P D gC (mX T o a u7 (nI pn) (nI nn) u14 z18 u8 u9 u10 z24 z26 f1 f4 f5 f6 f7 f8 f9 f10 f11 f12 f13 u11 u12 u13 f22 f23 f25 f27 ++ ([(ox, .inl (T.2.2.1, 1, .inr (.inl u1)))] ++ (cX T aa zw kp fp u2 u3 u4 u5 kt ft ks fs fc u6 ++ tl T u6))) H := hP
  have hD : va_D (fun q : Nat => s.heap.size ≤ q) (mX T o a u7 (nI pn) (nI nn) u14 z18 u8 u9 u10 z24 z26 f1 f4 f5 f6 f7 f8 f9 f10 f11 f12 f13 u11 u12 u13 f22 f23 f25 f27 ++ ([(ox, .inl (T.2.2.1, 1, .inr (.inl u1)))] ++ (cX T aa zw kp fp u2 u3 u4 u5 kt ft ks fs fc u6 ++ tl T u6))) := hD
  obtain ⟨hk, hv, sn9, e0, hR⟩ := tie_join hR P1 P2
  subst e0
  refine lv_istore (lv' := [(6, .int r2), (5, .int r1), (0, .ref b), (1, .ref (aa 0)), (2, .ref o), (3, .ref ox), (4, .int (nI (6 * t)))]) hx hb d_L_law_802 hl (by decide) rfl (fun ls hl => ?_)
  refine lv_aload_n hx hb d_L_law_804 rfl (lv_at hl 4 rfl) ?_
  have hPc : va_P D gC (mX T o a u7 (nI pn) (nI nn) (nI sn9) z18 u8 u9 u10 z24 z26 f1 f4 f5 f6 f7 f8 f9 f10 f11 f12 f13 u11 u12 u13 f22 f23 f25 f27) H := hP.lt
  refine vp_callSi (va_Run.run (va_runV (As := []) (rest := []) ⟨hx, hb, hml, hown, hw⟩ (k_M_thrown l D T o a u7 (nI pn) (nI nn) (nI sn9) z18 u8 u9 u10 z24 z26 f1 f4 f5 f6 f7 f8 f9 f10 f11 f12 f13 u11 u12 u13 f22 f23 f25 f27) (cwV 0 hw (bg_V ml_L_80 wi_M_thrown wv_M_thrown wz_M wc_M_thrown) rfl rfl rfl (by decide +kernel) ⟨Nat.le_of_ble_eq_true rfl, Nat.le_of_ble_eq_true rfl⟩) ⟨sP_b, va_recv hK hPc (ci := 6) (q0 := 0) rfl rfl, sP_p hPc hK⟩ rfl rfl hl.1 rfl (lv_room (Nat.le_of_ble_eq_true rfl)) d_L_law_805 ⟨by show 40 + 8 * t + 2 + 0 + 0 ≤ 601024; omega, by show 1400 + 200 * t + 94 + 0 + 0 ≤ 7293034; omega⟩)) (fun r3 hr3 => ?_)
  replace hr3 := hr3.symm; subst hr3
  refine lv_iload hx hb d_L_law_808 (lv_at hl 1 rfl) ?_
  refine lv_icmp_eq (tgt := 815) hx hb d_L_law_810 (by decide) (fun c15 => ?_) (fun c15 => absurd (hk) c15)
  refine lv_iload hx hb d_L_law_815 (lv_at hl 1 rfl) ?_
  refine lv_if_ne (tgt := 832) hx hb d_L_law_817 (by decide) (fun c16 => ?_) (fun c16 => ?_)
  · refine lv_goto (tgt := 1268) hx hb d_L_law_832 (by decide) ?_
    refine W.widen (k := 40 + 8 * (t + 1)) (n := 1400 + 200 * (t + 1)) (by show 40 + 8 * t + 2 + 0 ≤ 40 + 8 * (t + 1); omega) (by show 1400 + 200 * t + 94 + 0 ≤ 1400 + 200 * (t + 1); omega) ?_
    exact kk H locs ls u1 zw kp fp u2 u3 u4 u5 kt ft ks fs fc u6 u7 pn nn sn9 z18 u8 u9 u10 z24 z26 f1 f4 f5 f6 f7 f8 f9 f10 f11 f12 f13 u11 u12 u13 f22 f23 f25 f27 ln ck hR hP hD hS (lv_sub hl [2, 3, 4, 5, 6] rfl)
  · refine lv_aload_n hx hb d_L_law_820 rfl (lv_at hl 5 rfl) ?_
    refine lv_iconst (v := 0) hx hb d_L_law_821 (by decide) ?_
    refine va_lald hx hb hK hP 19 2 rfl rfl (vp_in_nI (n := 0) (by decide) (by decide)) d_L_law_822 ?_
    rw [show (0 : Int32).toNatClampNeg = 0 from by decide]
    refine lv_iload hx hb d_L_law_823 (lv_at hl 0 rfl) ?_
    refine lv_i2l hx hb d_L_law_825 rfl ?_
    rw [hv c16]
    refine W.lcmp hx hb d_L_law_826 ?_
    refine lv_if_eq (tgt := 832) hx hb d_L_law_827 (by decide) (fun c17 => ?_) (fun c17 => absurd (lgc _) c17)
    refine lv_goto (tgt := 1268) hx hb d_L_law_832 (by decide) ?_
    refine W.widen (k := 40 + 8 * (t + 1)) (n := 1400 + 200 * (t + 1)) (by show 40 + 8 * t + 2 + 0 ≤ 40 + 8 * (t + 1); omega) (by show 1400 + 200 * t + 94 + 0 ≤ 1400 + 200 * (t + 1); omega) ?_
    exact kk H locs ls u1 zw kp fp u2 u3 u4 u5 kt ft ks fs fc u6 u7 pn nn sn9 z18 u8 u9 u10 z24 z26 f1 f4 f5 f6 f7 f8 f9 f10 f11 f12 f13 u11 u12 u13 f22 f23 f25 f27 ln ck hR hP hD hS (lv_sub hl [2, 3, 4, 5, 6] rfl)

set_option maxHeartbeats 4000000 in
set_option maxRecDepth 100000 in
theorem law_relations {p : Program} {l : Launch} {e : Env} {s : State} {m : MethodId} {below : List Frame} {meth : Method} {c : Code} {b L : Nat} {xs : Nat → Int32} {D : va_G} {T : gT} {κ : gS} {aa : Nat → Nat} {ox o : Nat} {a : Nat → Nat} {t : Nat} {Q : State → Prop} {H : Heap} {locs : List Loc} {ls : Array Slot} {ov : Nat → Int64} {zw : Int32} {kp : Nat} {fp : Nat → Int32} {e0 : Int32} {e1 : Int32} {oF : Bool} {oT : Bool} {kt : Nat} {ft : Nat → Int32} {ks : Nat} {fs : Nat → Int32} {fc : Nat → Int32} {S : tS} {z0 : Int32} {pn : Nat} {nn : Nat} {sn : Nat} {z18 : Int32} {z19 : Int32} {z20 : Int32} {z21 : Int32} {z24 : Int32} {z26 : Int32} {f1 : Nat → Int32} {f4 : Nat → Int32} {f5 : Nat → Int32} {f6 : Nat → Int32} {f7 : Nat → Int32} {f8 : Nat → Int32} {f9 : Nat → Int32} {f10 : Nat → Int32} {f11 : Nat → Int32} {f12 : Nat → Int32} {f13 : Nat → Int32} {f15 : Nat → Int32} {f16 : Nat → Int32} {f17 : Nat → Int32} {f22 : Nat → Int32} {f23 : Nat → Int32} {f25 : Nat → Int32} {f27 : Nat → Int32} {ln : Nat → Nat} {ck : Nat → Nat} (hC : lawC p l s m c b L xs D T κ) (ht : 6 * t + 6 ≤ L) (hR : lawR κ zw kp fp S pn nn sn z18 f1 f4 f5 f6 f7 f8 f9 f10 f11 f12 f13 f15 f16 f17 ln ck) (hP : va_P D gC (mX T o a z0 (nI pn) (nI nn) (nI sn) z18 z19 z20 z21 z24 z26 f1 f4 f5 f6 f7 f8 f9 f10 f11 f12 f13 f15 f16 f17 f22 f23 f25 f27 ++ ([(ox, .inl (T.2.2.1, 1, .inr (.inl ov)))] ++ (cX T aa zw kp fp e0 e1 oF oT kt ft ks fs fc S ++ tl T S))) H) (hD : va_D (fun q : Nat => s.heap.size ≤ q) (mX T o a z0 (nI pn) (nI nn) (nI sn) z18 z19 z20 z21 z24 z26 f1 f4 f5 f6 f7 f8 f9 f10 f11 f12 f13 f15 f16 f17 f22 f23 f25 f27 ++ ([(ox, .inl (T.2.2.1, 1, .inr (.inl ov)))] ++ (cX T aa zw kp fp e0 e1 oF oT kt ft ks fs fc S ++ tl T S)))) (hS : va_S (fun q : Nat => s.heap.size ≤ q) s.heap H locs) (hl : lv_has ls 7 [(0, .ref b), (1, .ref (aa 0)), (2, .ref o), (3, .ref ox), (4, .int (nI (6 * t)))]) (kk : lawK p l e s m below meth c b D T κ aa ox o a t Q) : W p l e room_1 s m #[Value.ref b] below meth c H locs (40 + 8 * t) (1400 + 200 * t) Q (F0 m 835 ls []) := by
  obtain ⟨hl9, hx, hb, hml, hown, hw, hX, hbl, hK, hF, hL⟩ := hC
  have hA : ∀ q : Nat, s.heap.size ≤ q → (fun q : Nat => s.heap.size ≤ q) q := fun _ h => h
  have hbA : ¬ (fun q : Nat => s.heap.size ≤ q) b := Nat.not_le.mpr hbl
  refine lv_aload_n hx hb d_L_law_835 rfl (lv_at hl 1 rfl) ?_
  refine lv_aload_n hx hb d_L_law_836 rfl (lv_at hl 0 rfl) ?_
  refine lv_iload hx hb d_L_law_837 (lv_at hl 4 rfl) ?_
  refine lv_iconst (v := 1) hx hb d_L_law_839 (by decide) ?_
  refine lv_iadd hx hb d_L_law_840 ?_
  rw [nI_1]
  refine va_sld hx hb hX hbl hbA hS (vp_in_nI (n := 6 * t + 1) (by omega) (by omega)) d_L_law_841 ?_
  rw [show (nI (6 * t + 1)).toNatClampNeg = 6 * t + 1 from nI_clamp (by omega)]
  refine lv_aload_n hx hb d_L_law_842 rfl (lv_at hl 0 rfl) ?_
  refine lv_iload hx hb d_L_law_843 (lv_at hl 4 rfl) ?_
  refine lv_iconst (v := 2) hx hb d_L_law_845 (by decide) ?_
  refine lv_iadd hx hb d_L_law_846 ?_
  rw [show (nI (6 * t)) + 2 = nI (6 * t + 2) from nI_add (6 * t) 2]
  refine va_sld hx hb hX hbl hbA hS (vp_in_nI (n := 6 * t + 2) (by omega) (by omega)) d_L_law_847 ?_
  rw [show (nI (6 * t + 2)).toNatClampNeg = 6 * t + 2 from nI_clamp (by omega)]
  refine lv_aload_n hx hb d_L_law_848 rfl (lv_at hl 3 rfl) ?_
  have hPc : va_P D gC ([(ox, .inl (T.2.2.1, 1, .inr (.inl ov)))] ++ (cX T aa zw kp fp e0 e1 oF oT kt ft ks fs fc S ++ tl T S)) H := hP.rt
  have hDc : va_D (fun q : Nat => s.heap.size ≤ q) ([(ox, .inl (T.2.2.1, 1, .inr (.inl ov)))] ++ (cX T aa zw kp fp e0 e1 oF oT kt ft ks fs fc S ++ tl T S)) := hD.rt
  refine g_blki (B := mX T o a z0 (nI pn) (nI nn) (nI sn) z18 z19 z20 z21 z24 z26 f1 f4 f5 f6 f7 f8 f9 f10 f11 f12 f13 f15 f16 f17 f22 f23 f25 f27) (C := [(ox, .inl (T.2.2.1, 1, .inr (.inl ov)))] ++ (cX T aa zw kp fp e0 e1 oF oT kt ft ks fs fc S ++ tl T S)) (vx_va (vx_runSX (As := [.ref (aa 0), .int (xs (6 * t + 1)), .int (xs (6 * t + 2)), .ref ox]) (rest := []) ⟨hx, hb, hml, hown, hw⟩ (k_L_relations l hl9 D T κ ox ov aa zw kp fp e0 e1 oF oT kt ft ks fs fc S H.size (xs (6 * t + 1)) (xs (6 * t + 2)) hR.1.1) (vx_cwSW 4 hw (bg_SW ml_L_118 wt_L_relations wz_L wc_L_relations) rfl rfl rfl (by decide +kernel) ⟨Nat.le_of_ble_eq_true rfl, Nat.le_of_ble_eq_true rfl⟩) ⟨qPf_b, qPf_p hPc hK hDc hF hS (g_free hDc hS hA)⟩ rfl rfl hl.1 rfl (lv_room (Nat.le_of_ble_eq_true rfl)) d_L_law_849 ⟨by show 40 + 8 * t + 1 ≤ 601024; omega, by show 1400 + 200 * t + 6 ≤ 7293034; omega⟩)) hP hD hS hA (fun r1 u1 H locs P1 hP hD hS => ?_)
  have hP : va_P D gC (mX T o a z0 (nI pn) (nI nn) (nI sn) z18 z19 z20 z21 z24 z26 f1 f4 f5 f6 f7 f8 f9 f10 f11 f12 f13 f15 f16 f17 f22 f23 f25 f27 ++ ([(ox, .inl (T.2.2.1, 1, .inr (.inl u1)))] ++ (cX T aa zw kp fp e0 e1 oF oT kt ft ks fs fc S ++ tl T S))) H := hP
  have hD : va_D (fun q : Nat => s.heap.size ≤ q) (mX T o a z0 (nI pn) (nI nn) (nI sn) z18 z19 z20 z21 z24 z26 f1 f4 f5 f6 f7 f8 f9 f10 f11 f12 f13 f15 f16 f17 f22 f23 f25 f27 ++ ([(ox, .inl (T.2.2.1, 1, .inr (.inl u1)))] ++ (cX T aa zw kp fp e0 e1 oF oT kt ft ks fs fc S ++ tl T S))) := hD
  refine lv_istore (lv' := [(5, .int r1), (0, .ref b), (1, .ref (aa 0)), (2, .ref o), (3, .ref ox), (4, .int (nI (6 * t)))]) hx hb d_L_law_852 hl (by decide) rfl (fun ls hl => ?_)
  refine lv_aload_n hx hb d_L_law_854 rfl (lv_at hl 3 rfl) ?_
  refine lv_aload_n hx hb d_L_law_855 rfl (lv_at hl 1 rfl) ?_
  refine lv_iload hx hb d_L_law_856 (lv_at hl 5 rfl) ?_
  refine lv_iconst (v := 1) hx hb d_L_law_858 (by decide) ?_
  refine lv_iadd hx hb d_L_law_859 ?_
  rw [nI_1]
  refine va_sld hx hb hX hbl hbA hS (vp_in_nI (n := 6 * t + 1) (by omega) (by omega)) d_L_law_860 ?_
  rw [show (nI (6 * t + 1)).toNatClampNeg = 6 * t + 1 from nI_clamp (by omega)]
  refine lv_aload_n hx hb d_L_law_861 rfl (lv_at hl 1 rfl) ?_
  refine lv_iload hx hb d_L_law_862 (lv_at hl 5 rfl) ?_
  refine lv_iconst (v := 2) hx hb d_L_law_864 (by decide) ?_
  refine lv_iadd hx hb d_L_law_865 ?_
  rw [show (nI (6 * t)) + 2 = nI (6 * t + 2) from nI_add (6 * t) 2]
  refine va_sld hx hb hX hbl hbA hS (vp_in_nI (n := 6 * t + 2) (by omega) (by omega)) d_L_law_866 ?_
  rw [show (nI (6 * t + 2)).toNatClampNeg = 6 * t + 2 from nI_clamp (by omega)]
  have hPc : va_P D gC (mX T o a z0 (nI pn) (nI nn) (nI sn) z18 z19 z20 z21 z24 z26 f1 f4 f5 f6 f7 f8 f9 f10 f11 f12 f13 f15 f16 f17 f22 f23 f25 f27) H := hP.lt
  have hDc : va_D (fun q : Nat => s.heap.size ≤ q) (mX T o a z0 (nI pn) (nI nn) (nI sn) z18 z19 z20 z21 z24 z26 f1 f4 f5 f6 f7 f8 f9 f10 f11 f12 f13 f15 f16 f17 f22 f23 f25 f27) := hD.lt
  refine g_blqi (C := mX T o a z0 (nI pn) (nI nn) (nI sn) z18 z19 z20 z21 z24 z26 f1 f4 f5 f6 f7 f8 f9 f10 f11 f12 f13 f15 f16 f17 f22 f23 f25 f27) (B := [(ox, .inl (T.2.2.1, 1, .inr (.inl u1)))] ++ (cX T aa zw kp fp e0 e1 oF oT kt ft ks fs fc S ++ tl T S)) (va_runV (As := [.int (xs (6 * t + 1)), .int (xs (6 * t + 2))]) (rest := []) ⟨hx, hb, hml, hown, hw⟩ (k_M_relations l D T o a z0 (nI pn) (nI nn) sn z18 z19 z20 z21 z24 z26 f1 f4 f5 f6 f7 f8 f9 f10 f11 f12 f13 f15 f16 f17 f22 f23 f25 f27 H.size (xs (6 * t + 1)) (xs (6 * t + 2)) hR.sn60) (cwV 2 hw (bg_V ml_L_120 wi_M_relations wv_M_relations wz_M wc_M_relations) rfl rfl rfl (by decide +kernel) ⟨Nat.le_of_ble_eq_true rfl, Nat.le_of_ble_eq_true rfl⟩) ⟨qP_b, va_recv hK hPc (ci := 6) (q0 := 0) rfl rfl, qP_p hPc hK hDc⟩ rfl rfl hl.1 rfl (lv_room (Nat.le_of_ble_eq_true rfl)) d_L_law_867 ⟨by show 40 + 8 * t + 1 + 0 ≤ 601024; omega, by show 1400 + 200 * t + 6 + 0 ≤ 7293034; omega⟩) hP hD hS hA (fun r2 u2 H locs P2 hP hD hS => ?_)
  have hP : va_P D gC (mX T o a u2 (nI pn) (nI nn) (nI sn) z18 z19 z20 z21 z24 z26 f1 f4 f5 f6 f7 f8 f9 f10 f11 f12 f13 f15 f16 f17 f22 f23 f25 f27 ++ ([(ox, .inl (T.2.2.1, 1, .inr (.inl u1)))] ++ (cX T aa zw kp fp e0 e1 oF oT kt ft ks fs fc S ++ tl T S))) H := hP
  have hD : va_D (fun q : Nat => s.heap.size ≤ q) (mX T o a u2 (nI pn) (nI nn) (nI sn) z18 z19 z20 z21 z24 z26 f1 f4 f5 f6 f7 f8 f9 f10 f11 f12 f13 f15 f16 f17 f22 f23 f25 f27 ++ ([(ox, .inl (T.2.2.1, 1, .inr (.inl u1)))] ++ (cX T aa zw kp fp e0 e1 oF oT kt ft ks fs fc S ++ tl T S))) := hD
  obtain ⟨hk, hv, hR⟩ := tie_relations hR P1 P2
  refine lv_istore (lv' := [(6, .int r2), (5, .int r1), (0, .ref b), (1, .ref (aa 0)), (2, .ref o), (3, .ref ox), (4, .int (nI (6 * t)))]) hx hb d_L_law_870 hl (by decide) rfl (fun ls hl => ?_)
  refine lv_aload_n hx hb d_L_law_872 rfl (lv_at hl 4 rfl) ?_
  have hPc : va_P D gC (mX T o a u2 (nI pn) (nI nn) (nI sn) z18 z19 z20 z21 z24 z26 f1 f4 f5 f6 f7 f8 f9 f10 f11 f12 f13 f15 f16 f17 f22 f23 f25 f27) H := hP.lt
  refine vp_callSi (va_Run.run (va_runV (As := []) (rest := []) ⟨hx, hb, hml, hown, hw⟩ (k_M_thrown l D T o a u2 (nI pn) (nI nn) (nI sn) z18 z19 z20 z21 z24 z26 f1 f4 f5 f6 f7 f8 f9 f10 f11 f12 f13 f15 f16 f17 f22 f23 f25 f27) (cwV 0 hw (bg_V ml_L_80 wi_M_thrown wv_M_thrown wz_M wc_M_thrown) rfl rfl rfl (by decide +kernel) ⟨Nat.le_of_ble_eq_true rfl, Nat.le_of_ble_eq_true rfl⟩) ⟨sP_b, va_recv hK hPc (ci := 6) (q0 := 0) rfl rfl, sP_p hPc hK⟩ rfl rfl hl.1 rfl (lv_room (Nat.le_of_ble_eq_true rfl)) d_L_law_873 ⟨by show 40 + 8 * t + 1 + 0 + 0 ≤ 601024; omega, by show 1400 + 200 * t + 6 + 0 + 0 ≤ 7293034; omega⟩)) (fun r3 hr3 => ?_)
  replace hr3 := hr3.symm; subst hr3
  refine lv_iload hx hb d_L_law_876 (lv_at hl 1 rfl) ?_
  refine lv_icmp_eq (tgt := 883) hx hb d_L_law_878 (by decide) (fun c3 => ?_) (fun c3 => absurd (hk) c3)
  refine lv_iload hx hb d_L_law_883 (lv_at hl 1 rfl) ?_
  refine lv_if_ne (tgt := 900) hx hb d_L_law_885 (by decide) (fun c4 => ?_) (fun c4 => ?_)
  · refine lv_goto (tgt := 1268) hx hb d_L_law_900 (by decide) ?_
    refine W.widen (k := 40 + 8 * (t + 1)) (n := 1400 + 200 * (t + 1)) (by show 40 + 8 * t + 1 + 0 ≤ 40 + 8 * (t + 1); omega) (by show 1400 + 200 * t + 6 + 0 ≤ 1400 + 200 * (t + 1); omega) ?_
    exact kk H locs ls u1 zw kp fp e0 e1 oF oT kt ft ks fs fc S u2 pn nn sn z18 z19 z20 z21 z24 z26 f1 f4 f5 f6 f7 f8 f9 f10 f11 f12 f13 f15 f16 f17 f22 f23 f25 f27 ln ck hR hP hD hS (lv_sub hl [2, 3, 4, 5, 6] rfl)
  · refine lv_aload_n hx hb d_L_law_888 rfl (lv_at hl 5 rfl) ?_
    refine lv_iconst (v := 0) hx hb d_L_law_889 (by decide) ?_
    refine va_lald hx hb hK hP 19 2 rfl rfl (vp_in_nI (n := 0) (by decide) (by decide)) d_L_law_890 ?_
    rw [show (0 : Int32).toNatClampNeg = 0 from by decide]
    refine lv_iload hx hb d_L_law_891 (lv_at hl 0 rfl) ?_
    refine lv_i2l hx hb d_L_law_893 rfl ?_
    rw [hv c4]
    refine W.lcmp hx hb d_L_law_894 ?_
    refine lv_if_eq (tgt := 900) hx hb d_L_law_895 (by decide) (fun c5 => ?_) (fun c5 => absurd (lgc _) c5)
    refine lv_goto (tgt := 1268) hx hb d_L_law_900 (by decide) ?_
    refine W.widen (k := 40 + 8 * (t + 1)) (n := 1400 + 200 * (t + 1)) (by show 40 + 8 * t + 1 + 0 ≤ 40 + 8 * (t + 1); omega) (by show 1400 + 200 * t + 6 + 0 ≤ 1400 + 200 * (t + 1); omega) ?_
    exact kk H locs ls u1 zw kp fp e0 e1 oF oT kt ft ks fs fc S u2 pn nn sn z18 z19 z20 z21 z24 z26 f1 f4 f5 f6 f7 f8 f9 f10 f11 f12 f13 f15 f16 f17 f22 f23 f25 f27 ln ck hR hP hD hS (lv_sub hl [2, 3, 4, 5, 6] rfl)

set_option maxHeartbeats 4000000 in
set_option maxRecDepth 100000 in
theorem law_relation {p : Program} {l : Launch} {e : Env} {s : State} {m : MethodId} {below : List Frame} {meth : Method} {c : Code} {b L : Nat} {xs : Nat → Int32} {D : va_G} {T : gT} {κ : gS} {aa : Nat → Nat} {ox o : Nat} {a : Nat → Nat} {t : Nat} {Q : State → Prop} {H : Heap} {locs : List Loc} {ls : Array Slot} {ov : Nat → Int64} {zw : Int32} {kp : Nat} {fp : Nat → Int32} {e0 : Int32} {e1 : Int32} {oF : Bool} {oT : Bool} {kt : Nat} {ft : Nat → Int32} {ks : Nat} {fs : Nat → Int32} {fc : Nat → Int32} {S : tS} {z0 : Int32} {pn : Nat} {nn : Nat} {sn : Nat} {z18 : Int32} {z19 : Int32} {z20 : Int32} {z21 : Int32} {z24 : Int32} {z26 : Int32} {f1 : Nat → Int32} {f4 : Nat → Int32} {f5 : Nat → Int32} {f6 : Nat → Int32} {f7 : Nat → Int32} {f8 : Nat → Int32} {f9 : Nat → Int32} {f10 : Nat → Int32} {f11 : Nat → Int32} {f12 : Nat → Int32} {f13 : Nat → Int32} {f15 : Nat → Int32} {f16 : Nat → Int32} {f17 : Nat → Int32} {f22 : Nat → Int32} {f23 : Nat → Int32} {f25 : Nat → Int32} {f27 : Nat → Int32} {ln : Nat → Nat} {ck : Nat → Nat} (hC : lawC p l s m c b L xs D T κ) (ht : 6 * t + 6 ≤ L) (hR : lawR κ zw kp fp S pn nn sn z18 f1 f4 f5 f6 f7 f8 f9 f10 f11 f12 f13 f15 f16 f17 ln ck) (hP : va_P D gC (mX T o a z0 (nI pn) (nI nn) (nI sn) z18 z19 z20 z21 z24 z26 f1 f4 f5 f6 f7 f8 f9 f10 f11 f12 f13 f15 f16 f17 f22 f23 f25 f27 ++ ([(ox, .inl (T.2.2.1, 1, .inr (.inl ov)))] ++ (cX T aa zw kp fp e0 e1 oF oT kt ft ks fs fc S ++ tl T S))) H) (hD : va_D (fun q : Nat => s.heap.size ≤ q) (mX T o a z0 (nI pn) (nI nn) (nI sn) z18 z19 z20 z21 z24 z26 f1 f4 f5 f6 f7 f8 f9 f10 f11 f12 f13 f15 f16 f17 f22 f23 f25 f27 ++ ([(ox, .inl (T.2.2.1, 1, .inr (.inl ov)))] ++ (cX T aa zw kp fp e0 e1 oF oT kt ft ks fs fc S ++ tl T S)))) (hS : va_S (fun q : Nat => s.heap.size ≤ q) s.heap H locs) (hl : lv_has ls 7 [(0, .ref b), (1, .ref (aa 0)), (2, .ref o), (3, .ref ox), (4, .int (nI (6 * t)))]) (kk : lawK p l e s m below meth c b D T κ aa ox o a t Q) : W p l e room_1 s m #[Value.ref b] below meth c H locs (40 + 8 * t) (1400 + 200 * t) Q (F0 m 903 ls []) := by
  obtain ⟨hl9, hx, hb, hml, hown, hw, hX, hbl, hK, hF, hL⟩ := hC
  have hA : ∀ q : Nat, s.heap.size ≤ q → (fun q : Nat => s.heap.size ≤ q) q := fun _ h => h
  have hbA : ¬ (fun q : Nat => s.heap.size ≤ q) b := Nat.not_le.mpr hbl
  refine lv_aload_n hx hb d_L_law_903 rfl (lv_at hl 1 rfl) ?_
  refine lv_aload_n hx hb d_L_law_904 rfl (lv_at hl 0 rfl) ?_
  refine lv_iload hx hb d_L_law_905 (lv_at hl 4 rfl) ?_
  refine lv_iconst (v := 1) hx hb d_L_law_907 (by decide) ?_
  refine lv_iadd hx hb d_L_law_908 ?_
  rw [nI_1]
  refine va_sld hx hb hX hbl hbA hS (vp_in_nI (n := 6 * t + 1) (by omega) (by omega)) d_L_law_909 ?_
  rw [show (nI (6 * t + 1)).toNatClampNeg = 6 * t + 1 from nI_clamp (by omega)]
  refine lv_aload_n hx hb d_L_law_910 rfl (lv_at hl 0 rfl) ?_
  refine lv_iload hx hb d_L_law_911 (lv_at hl 4 rfl) ?_
  refine lv_iconst (v := 2) hx hb d_L_law_913 (by decide) ?_
  refine lv_iadd hx hb d_L_law_914 ?_
  rw [show (nI (6 * t)) + 2 = nI (6 * t + 2) from nI_add (6 * t) 2]
  refine va_sld hx hb hX hbl hbA hS (vp_in_nI (n := 6 * t + 2) (by omega) (by omega)) d_L_law_915 ?_
  rw [show (nI (6 * t + 2)).toNatClampNeg = 6 * t + 2 from nI_clamp (by omega)]
  refine lv_aload_n hx hb d_L_law_916 rfl (lv_at hl 3 rfl) ?_
  have hPc : va_P D gC ([(ox, .inl (T.2.2.1, 1, .inr (.inl ov)))] ++ (cX T aa zw kp fp e0 e1 oF oT kt ft ks fs fc S ++ tl T S)) H := hP.rt
  have hDc : va_D (fun q : Nat => s.heap.size ≤ q) ([(ox, .inl (T.2.2.1, 1, .inr (.inl ov)))] ++ (cX T aa zw kp fp e0 e1 oF oT kt ft ks fs fc S ++ tl T S)) := hD.rt
  refine g_blki (B := mX T o a z0 (nI pn) (nI nn) (nI sn) z18 z19 z20 z21 z24 z26 f1 f4 f5 f6 f7 f8 f9 f10 f11 f12 f13 f15 f16 f17 f22 f23 f25 f27) (C := [(ox, .inl (T.2.2.1, 1, .inr (.inl ov)))] ++ (cX T aa zw kp fp e0 e1 oF oT kt ft ks fs fc S ++ tl T S)) (vx_va (vx_runSX (As := [.ref (aa 0), .int (xs (6 * t + 1)), .int (xs (6 * t + 2)), .ref ox]) (rest := []) ⟨hx, hb, hml, hown, hw⟩ (k_L_relation l hl9 D T κ ox ov aa zw kp fp e0 e1 oF oT kt ft ks fs fc S H.size (xs (6 * t + 1)) (xs (6 * t + 2)) hR.1.1) (vx_cwSW 4 hw (bg_SW ml_L_121 wt_L_relation wz_L wc_L_relation) rfl rfl rfl (by decide +kernel) ⟨Nat.le_of_ble_eq_true rfl, Nat.le_of_ble_eq_true rfl⟩) ⟨qPf_b, qPf_p hPc hK hDc hF hS (g_free hDc hS hA)⟩ rfl rfl hl.1 rfl (lv_room (Nat.le_of_ble_eq_true rfl)) d_L_law_917 ⟨by show 40 + 8 * t + 1 ≤ 601024; omega, by show 1400 + 200 * t + 6 ≤ 7293034; omega⟩)) hP hD hS hA (fun r1 u1 H locs P1 hP hD hS => ?_)
  have hP : va_P D gC (mX T o a z0 (nI pn) (nI nn) (nI sn) z18 z19 z20 z21 z24 z26 f1 f4 f5 f6 f7 f8 f9 f10 f11 f12 f13 f15 f16 f17 f22 f23 f25 f27 ++ ([(ox, .inl (T.2.2.1, 1, .inr (.inl u1)))] ++ (cX T aa zw kp fp e0 e1 oF oT kt ft ks fs fc S ++ tl T S))) H := hP
  have hD : va_D (fun q : Nat => s.heap.size ≤ q) (mX T o a z0 (nI pn) (nI nn) (nI sn) z18 z19 z20 z21 z24 z26 f1 f4 f5 f6 f7 f8 f9 f10 f11 f12 f13 f15 f16 f17 f22 f23 f25 f27 ++ ([(ox, .inl (T.2.2.1, 1, .inr (.inl u1)))] ++ (cX T aa zw kp fp e0 e1 oF oT kt ft ks fs fc S ++ tl T S))) := hD
  refine lv_istore (lv' := [(5, .int r1), (0, .ref b), (1, .ref (aa 0)), (2, .ref o), (3, .ref ox), (4, .int (nI (6 * t)))]) hx hb d_L_law_920 hl (by decide) rfl (fun ls hl => ?_)
  refine lv_aload_n hx hb d_L_law_922 rfl (lv_at hl 3 rfl) ?_
  refine lv_aload_n hx hb d_L_law_923 rfl (lv_at hl 1 rfl) ?_
  refine lv_iload hx hb d_L_law_924 (lv_at hl 5 rfl) ?_
  refine lv_iconst (v := 1) hx hb d_L_law_926 (by decide) ?_
  refine lv_iadd hx hb d_L_law_927 ?_
  rw [nI_1]
  refine va_sld hx hb hX hbl hbA hS (vp_in_nI (n := 6 * t + 1) (by omega) (by omega)) d_L_law_928 ?_
  rw [show (nI (6 * t + 1)).toNatClampNeg = 6 * t + 1 from nI_clamp (by omega)]
  refine lv_aload_n hx hb d_L_law_929 rfl (lv_at hl 1 rfl) ?_
  refine lv_iload hx hb d_L_law_930 (lv_at hl 5 rfl) ?_
  refine lv_iconst (v := 2) hx hb d_L_law_932 (by decide) ?_
  refine lv_iadd hx hb d_L_law_933 ?_
  rw [show (nI (6 * t)) + 2 = nI (6 * t + 2) from nI_add (6 * t) 2]
  refine va_sld hx hb hX hbl hbA hS (vp_in_nI (n := 6 * t + 2) (by omega) (by omega)) d_L_law_934 ?_
  rw [show (nI (6 * t + 2)).toNatClampNeg = 6 * t + 2 from nI_clamp (by omega)]
  have hPc : va_P D gC (mX T o a z0 (nI pn) (nI nn) (nI sn) z18 z19 z20 z21 z24 z26 f1 f4 f5 f6 f7 f8 f9 f10 f11 f12 f13 f15 f16 f17 f22 f23 f25 f27) H := hP.lt
  have hDc : va_D (fun q : Nat => s.heap.size ≤ q) (mX T o a z0 (nI pn) (nI nn) (nI sn) z18 z19 z20 z21 z24 z26 f1 f4 f5 f6 f7 f8 f9 f10 f11 f12 f13 f15 f16 f17 f22 f23 f25 f27) := hD.lt
  refine g_blqi (C := mX T o a z0 (nI pn) (nI nn) (nI sn) z18 z19 z20 z21 z24 z26 f1 f4 f5 f6 f7 f8 f9 f10 f11 f12 f13 f15 f16 f17 f22 f23 f25 f27) (B := [(ox, .inl (T.2.2.1, 1, .inr (.inl u1)))] ++ (cX T aa zw kp fp e0 e1 oF oT kt ft ks fs fc S ++ tl T S)) (va_runV (As := [.int (xs (6 * t + 1)), .int (xs (6 * t + 2))]) (rest := []) ⟨hx, hb, hml, hown, hw⟩ (k_M_relation l D T o a z0 (nI pn) (nI nn) sn z18 z19 z20 z21 z24 z26 f1 f4 f5 f6 f7 f8 f9 f10 f11 f12 f13 f15 f16 f17 f22 f23 f25 f27 H.size (xs (6 * t + 1)) (xs (6 * t + 2)) hR.sn60) (cwV 2 hw (bg_V ml_L_123 wi_M_relation wv_M_relation wz_M wc_M_relation) rfl rfl rfl (by decide +kernel) ⟨Nat.le_of_ble_eq_true rfl, Nat.le_of_ble_eq_true rfl⟩) ⟨qP_b, va_recv hK hPc (ci := 6) (q0 := 0) rfl rfl, qP_p hPc hK hDc⟩ rfl rfl hl.1 rfl (lv_room (Nat.le_of_ble_eq_true rfl)) d_L_law_935 ⟨by show 40 + 8 * t + 1 + 0 ≤ 601024; omega, by show 1400 + 200 * t + 6 + 0 ≤ 7293034; omega⟩) hP hD hS hA (fun r2 u2 H locs P2 hP hD hS => ?_)
  have hP : va_P D gC (mX T o a u2 (nI pn) (nI nn) (nI sn) z18 z19 z20 z21 z24 z26 f1 f4 f5 f6 f7 f8 f9 f10 f11 f12 f13 f15 f16 f17 f22 f23 f25 f27 ++ ([(ox, .inl (T.2.2.1, 1, .inr (.inl u1)))] ++ (cX T aa zw kp fp e0 e1 oF oT kt ft ks fs fc S ++ tl T S))) H := hP
  have hD : va_D (fun q : Nat => s.heap.size ≤ q) (mX T o a u2 (nI pn) (nI nn) (nI sn) z18 z19 z20 z21 z24 z26 f1 f4 f5 f6 f7 f8 f9 f10 f11 f12 f13 f15 f16 f17 f22 f23 f25 f27 ++ ([(ox, .inl (T.2.2.1, 1, .inr (.inl u1)))] ++ (cX T aa zw kp fp e0 e1 oF oT kt ft ks fs fc S ++ tl T S))) := hD
  obtain ⟨hk, hv, hR⟩ := tie_relation hR P1 P2
  refine lv_istore (lv' := [(6, .int r2), (5, .int r1), (0, .ref b), (1, .ref (aa 0)), (2, .ref o), (3, .ref ox), (4, .int (nI (6 * t)))]) hx hb d_L_law_938 hl (by decide) rfl (fun ls hl => ?_)
  refine lv_aload_n hx hb d_L_law_940 rfl (lv_at hl 4 rfl) ?_
  have hPc : va_P D gC (mX T o a u2 (nI pn) (nI nn) (nI sn) z18 z19 z20 z21 z24 z26 f1 f4 f5 f6 f7 f8 f9 f10 f11 f12 f13 f15 f16 f17 f22 f23 f25 f27) H := hP.lt
  refine vp_callSi (va_Run.run (va_runV (As := []) (rest := []) ⟨hx, hb, hml, hown, hw⟩ (k_M_thrown l D T o a u2 (nI pn) (nI nn) (nI sn) z18 z19 z20 z21 z24 z26 f1 f4 f5 f6 f7 f8 f9 f10 f11 f12 f13 f15 f16 f17 f22 f23 f25 f27) (cwV 0 hw (bg_V ml_L_80 wi_M_thrown wv_M_thrown wz_M wc_M_thrown) rfl rfl rfl (by decide +kernel) ⟨Nat.le_of_ble_eq_true rfl, Nat.le_of_ble_eq_true rfl⟩) ⟨sP_b, va_recv hK hPc (ci := 6) (q0 := 0) rfl rfl, sP_p hPc hK⟩ rfl rfl hl.1 rfl (lv_room (Nat.le_of_ble_eq_true rfl)) d_L_law_941 ⟨by show 40 + 8 * t + 1 + 0 + 0 ≤ 601024; omega, by show 1400 + 200 * t + 6 + 0 + 0 ≤ 7293034; omega⟩)) (fun r3 hr3 => ?_)
  replace hr3 := hr3.symm; subst hr3
  refine lv_iload hx hb d_L_law_944 (lv_at hl 1 rfl) ?_
  refine lv_icmp_eq (tgt := 951) hx hb d_L_law_946 (by decide) (fun c3 => ?_) (fun c3 => absurd (hk) c3)
  refine lv_iload hx hb d_L_law_951 (lv_at hl 1 rfl) ?_
  refine lv_if_ne (tgt := 968) hx hb d_L_law_953 (by decide) (fun c4 => ?_) (fun c4 => ?_)
  · refine lv_goto (tgt := 1268) hx hb d_L_law_968 (by decide) ?_
    refine W.widen (k := 40 + 8 * (t + 1)) (n := 1400 + 200 * (t + 1)) (by show 40 + 8 * t + 1 + 0 ≤ 40 + 8 * (t + 1); omega) (by show 1400 + 200 * t + 6 + 0 ≤ 1400 + 200 * (t + 1); omega) ?_
    exact kk H locs ls u1 zw kp fp e0 e1 oF oT kt ft ks fs fc S u2 pn nn sn z18 z19 z20 z21 z24 z26 f1 f4 f5 f6 f7 f8 f9 f10 f11 f12 f13 f15 f16 f17 f22 f23 f25 f27 ln ck hR hP hD hS (lv_sub hl [2, 3, 4, 5, 6] rfl)
  · refine lv_aload_n hx hb d_L_law_956 rfl (lv_at hl 5 rfl) ?_
    refine lv_iconst (v := 0) hx hb d_L_law_957 (by decide) ?_
    refine va_lald hx hb hK hP 19 2 rfl rfl (vp_in_nI (n := 0) (by decide) (by decide)) d_L_law_958 ?_
    rw [show (0 : Int32).toNatClampNeg = 0 from by decide]
    refine lv_iload hx hb d_L_law_959 (lv_at hl 0 rfl) ?_
    refine lv_i2l hx hb d_L_law_961 rfl ?_
    rw [hv c4]
    refine W.lcmp hx hb d_L_law_962 ?_
    refine lv_if_eq (tgt := 968) hx hb d_L_law_963 (by decide) (fun c5 => ?_) (fun c5 => absurd (lgc _) c5)
    refine lv_goto (tgt := 1268) hx hb d_L_law_968 (by decide) ?_
    refine W.widen (k := 40 + 8 * (t + 1)) (n := 1400 + 200 * (t + 1)) (by show 40 + 8 * t + 1 + 0 ≤ 40 + 8 * (t + 1); omega) (by show 1400 + 200 * t + 6 + 0 ≤ 1400 + 200 * (t + 1); omega) ?_
    exact kk H locs ls u1 zw kp fp e0 e1 oF oT kt ft ks fs fc S u2 pn nn sn z18 z19 z20 z21 z24 z26 f1 f4 f5 f6 f7 f8 f9 f10 f11 f12 f13 f15 f16 f17 f22 f23 f25 f27 ln ck hR hP hD hS (lv_sub hl [2, 3, 4, 5, 6] rfl)

set_option maxHeartbeats 4000000 in
set_option maxRecDepth 100000 in
theorem law_word {p : Program} {l : Launch} {e : Env} {s : State} {m : MethodId} {below : List Frame} {meth : Method} {c : Code} {b L : Nat} {xs : Nat → Int32} {D : va_G} {T : gT} {κ : gS} {aa : Nat → Nat} {ox o : Nat} {a : Nat → Nat} {t : Nat} {Q : State → Prop} {H : Heap} {locs : List Loc} {ls : Array Slot} {ov : Nat → Int64} {zw : Int32} {kp : Nat} {fp : Nat → Int32} {e0 : Int32} {e1 : Int32} {oF : Bool} {oT : Bool} {kt : Nat} {ft : Nat → Int32} {ks : Nat} {fs : Nat → Int32} {fc : Nat → Int32} {S : tS} {z0 : Int32} {pn : Nat} {nn : Nat} {sn : Nat} {z18 : Int32} {z19 : Int32} {z20 : Int32} {z21 : Int32} {z24 : Int32} {z26 : Int32} {f1 : Nat → Int32} {f4 : Nat → Int32} {f5 : Nat → Int32} {f6 : Nat → Int32} {f7 : Nat → Int32} {f8 : Nat → Int32} {f9 : Nat → Int32} {f10 : Nat → Int32} {f11 : Nat → Int32} {f12 : Nat → Int32} {f13 : Nat → Int32} {f15 : Nat → Int32} {f16 : Nat → Int32} {f17 : Nat → Int32} {f22 : Nat → Int32} {f23 : Nat → Int32} {f25 : Nat → Int32} {f27 : Nat → Int32} {ln : Nat → Nat} {ck : Nat → Nat} (hC : lawC p l s m c b L xs D T κ) (ht : 6 * t + 6 ≤ L) (hR : lawR κ zw kp fp S pn nn sn z18 f1 f4 f5 f6 f7 f8 f9 f10 f11 f12 f13 f15 f16 f17 ln ck) (hP : va_P D gC (mX T o a z0 (nI pn) (nI nn) (nI sn) z18 z19 z20 z21 z24 z26 f1 f4 f5 f6 f7 f8 f9 f10 f11 f12 f13 f15 f16 f17 f22 f23 f25 f27 ++ ([(ox, .inl (T.2.2.1, 1, .inr (.inl ov)))] ++ (cX T aa zw kp fp e0 e1 oF oT kt ft ks fs fc S ++ tl T S))) H) (hD : va_D (fun q : Nat => s.heap.size ≤ q) (mX T o a z0 (nI pn) (nI nn) (nI sn) z18 z19 z20 z21 z24 z26 f1 f4 f5 f6 f7 f8 f9 f10 f11 f12 f13 f15 f16 f17 f22 f23 f25 f27 ++ ([(ox, .inl (T.2.2.1, 1, .inr (.inl ov)))] ++ (cX T aa zw kp fp e0 e1 oF oT kt ft ks fs fc S ++ tl T S)))) (hS : va_S (fun q : Nat => s.heap.size ≤ q) s.heap H locs) (hl : lv_has ls 7 [(0, .ref b), (1, .ref (aa 0)), (2, .ref o), (3, .ref ox), (4, .int (nI (6 * t)))]) (kk : lawK p l e s m below meth c b D T κ aa ox o a t Q) : W p l e room_1 s m #[Value.ref b] below meth c H locs (40 + 8 * t) (1400 + 200 * t) Q (F0 m 971 ls []) := by
  obtain ⟨hl9, hx, hb, hml, hown, hw, hX, hbl, hK, hF, hL⟩ := hC
  have hA : ∀ q : Nat, s.heap.size ≤ q → (fun q : Nat => s.heap.size ≤ q) q := fun _ h => h
  have hbA : ¬ (fun q : Nat => s.heap.size ≤ q) b := Nat.not_le.mpr hbl
  refine lv_aload_n hx hb d_L_law_971 rfl (lv_at hl 1 rfl) ?_
  refine lv_aload_n hx hb d_L_law_972 rfl (lv_at hl 0 rfl) ?_
  refine lv_iload hx hb d_L_law_973 (lv_at hl 4 rfl) ?_
  refine lv_iconst (v := 1) hx hb d_L_law_975 (by decide) ?_
  refine lv_iadd hx hb d_L_law_976 ?_
  rw [nI_1]
  refine va_sld hx hb hX hbl hbA hS (vp_in_nI (n := 6 * t + 1) (by omega) (by omega)) d_L_law_977 ?_
  rw [show (nI (6 * t + 1)).toNatClampNeg = 6 * t + 1 from nI_clamp (by omega)]
  refine lv_aload_n hx hb d_L_law_978 rfl (lv_at hl 0 rfl) ?_
  refine lv_iload hx hb d_L_law_979 (lv_at hl 4 rfl) ?_
  refine lv_iconst (v := 2) hx hb d_L_law_981 (by decide) ?_
  refine lv_iadd hx hb d_L_law_982 ?_
  rw [show (nI (6 * t)) + 2 = nI (6 * t + 2) from nI_add (6 * t) 2]
  refine va_sld hx hb hX hbl hbA hS (vp_in_nI (n := 6 * t + 2) (by omega) (by omega)) d_L_law_983 ?_
  rw [show (nI (6 * t + 2)).toNatClampNeg = 6 * t + 2 from nI_clamp (by omega)]
  refine lv_aload_n hx hb d_L_law_984 rfl (lv_at hl 3 rfl) ?_
  have hPc : va_P D gC ([(ox, .inl (T.2.2.1, 1, .inr (.inl ov)))] ++ (cX T aa zw kp fp e0 e1 oF oT kt ft ks fs fc S ++ tl T S)) H := hP.rt
  have hDc : va_D (fun q : Nat => s.heap.size ≤ q) ([(ox, .inl (T.2.2.1, 1, .inr (.inl ov)))] ++ (cX T aa zw kp fp e0 e1 oF oT kt ft ks fs fc S ++ tl T S)) := hD.rt
  refine g_blki (B := mX T o a z0 (nI pn) (nI nn) (nI sn) z18 z19 z20 z21 z24 z26 f1 f4 f5 f6 f7 f8 f9 f10 f11 f12 f13 f15 f16 f17 f22 f23 f25 f27) (C := [(ox, .inl (T.2.2.1, 1, .inr (.inl ov)))] ++ (cX T aa zw kp fp e0 e1 oF oT kt ft ks fs fc S ++ tl T S)) (vx_va (vx_runSX (As := [.ref (aa 0), .int (xs (6 * t + 1)), .int (xs (6 * t + 2)), .ref ox]) (rest := []) ⟨hx, hb, hml, hown, hw⟩ (k_L_word l hl9 D T κ ox ov aa zw kp fp e0 e1 oF oT kt ft ks fs fc S H.size (xs (6 * t + 1)) (xs (6 * t + 2)) hR.1.1 (fun q9 _ k9 h9 => nI_m1 (by have := wl_24 (zw := zw) (q := q9) hR.1.1; omega))) (vx_cwSW 4 hw (bg_SW ml_L_124 wt_L_word wz_L wc_L_word) rfl rfl rfl (by decide +kernel) ⟨Nat.le_of_ble_eq_true rfl, Nat.le_of_ble_eq_true rfl⟩) ⟨qPf_b, qPf_p hPc hK hDc hF hS (g_free hDc hS hA)⟩ rfl rfl hl.1 rfl (lv_room (Nat.le_of_ble_eq_true rfl)) d_L_law_985 ⟨by show 40 + 8 * t + 1 ≤ 601024; omega, by show 1400 + 200 * t + 6 ≤ 7293034; omega⟩)) hP hD hS hA (fun r1 u9 H locs P1 hP hD hS => ?_)
  obtain ⟨u1, u2, u3, u4, u5, u6, u7, u8, u9⟩ := u9
  dsimp only at P1 hP hD
  have hP : va_P D gC (mX T o a z0 (nI pn) (nI nn) (nI sn) z18 z19 z20 z21 z24 z26 f1 f4 f5 f6 f7 f8 f9 f10 f11 f12 f13 f15 f16 f17 f22 f23 f25 f27 ++ ([(ox, .inl (T.2.2.1, 1, .inr (.inl u1)))] ++ (cX T aa zw kp fp u2 u3 u4 u5 u6 u7 u8 u9 fc S ++ tl T S))) H := hP
  have hD : va_D (fun q : Nat => s.heap.size ≤ q) (mX T o a z0 (nI pn) (nI nn) (nI sn) z18 z19 z20 z21 z24 z26 f1 f4 f5 f6 f7 f8 f9 f10 f11 f12 f13 f15 f16 f17 f22 f23 f25 f27 ++ ([(ox, .inl (T.2.2.1, 1, .inr (.inl u1)))] ++ (cX T aa zw kp fp u2 u3 u4 u5 u6 u7 u8 u9 fc S ++ tl T S))) := hD
  refine lv_istore (lv' := [(5, .int r1), (0, .ref b), (1, .ref (aa 0)), (2, .ref o), (3, .ref ox), (4, .int (nI (6 * t)))]) hx hb d_L_law_988 hl (by decide) rfl (fun ls hl => ?_)
  refine lv_aload_n hx hb d_L_law_990 rfl (lv_at hl 3 rfl) ?_
  refine lv_aload_n hx hb d_L_law_991 rfl (lv_at hl 1 rfl) ?_
  refine lv_iload hx hb d_L_law_992 (lv_at hl 5 rfl) ?_
  refine lv_iconst (v := 1) hx hb d_L_law_994 (by decide) ?_
  refine lv_iadd hx hb d_L_law_995 ?_
  rw [nI_1]
  refine va_sld hx hb hX hbl hbA hS (vp_in_nI (n := 6 * t + 1) (by omega) (by omega)) d_L_law_996 ?_
  rw [show (nI (6 * t + 1)).toNatClampNeg = 6 * t + 1 from nI_clamp (by omega)]
  refine lv_aload_n hx hb d_L_law_997 rfl (lv_at hl 1 rfl) ?_
  refine lv_iload hx hb d_L_law_998 (lv_at hl 5 rfl) ?_
  refine lv_iconst (v := 2) hx hb d_L_law_1000 (by decide) ?_
  refine lv_iadd hx hb d_L_law_1001 ?_
  rw [show (nI (6 * t)) + 2 = nI (6 * t + 2) from nI_add (6 * t) 2]
  refine va_sld hx hb hX hbl hbA hS (vp_in_nI (n := 6 * t + 2) (by omega) (by omega)) d_L_law_1002 ?_
  rw [show (nI (6 * t + 2)).toNatClampNeg = 6 * t + 2 from nI_clamp (by omega)]
  have hPc : va_P D gC (mX T o a z0 (nI pn) (nI nn) (nI sn) z18 z19 z20 z21 z24 z26 f1 f4 f5 f6 f7 f8 f9 f10 f11 f12 f13 f15 f16 f17 f22 f23 f25 f27) H := hP.lt
  have hDc : va_D (fun q : Nat => s.heap.size ≤ q) (mX T o a z0 (nI pn) (nI nn) (nI sn) z18 z19 z20 z21 z24 z26 f1 f4 f5 f6 f7 f8 f9 f10 f11 f12 f13 f15 f16 f17 f22 f23 f25 f27) := hD.lt
  refine g_blqi (C := mX T o a z0 (nI pn) (nI nn) (nI sn) z18 z19 z20 z21 z24 z26 f1 f4 f5 f6 f7 f8 f9 f10 f11 f12 f13 f15 f16 f17 f22 f23 f25 f27) (B := [(ox, .inl (T.2.2.1, 1, .inr (.inl u1)))] ++ (cX T aa zw kp fp u2 u3 u4 u5 u6 u7 u8 u9 fc S ++ tl T S)) (va_runV (As := [.int (xs (6 * t + 1)), .int (xs (6 * t + 2))]) (rest := []) ⟨hx, hb, hml, hown, hw⟩ (k_M_word l D T o a z0 (nI pn) nn sn z18 z19 z20 z21 z24 z26 f1 f4 f5 f6 f7 f8 f9 f10 f11 f12 f13 f15 f16 f17 f22 f23 f25 f27 H.size (xs (6 * t + 1)) (xs (6 * t + 2)) ln ck hR.sn60 hR.nn24 hR.2.1.2.2.2.2.1 hR.2.1.2.2.2.2.2.1 hR.ln1 hR.2.1.2.2.2.2.2.2.1 hR.2.1.2.2.2.2.2.2.2.1) (cwV 2 hw (bg_V ml_L_126 wi_M_word wv_M_word wz_M wc_M_word) rfl rfl rfl (by decide +kernel) ⟨Nat.le_of_ble_eq_true rfl, Nat.le_of_ble_eq_true rfl⟩) ⟨qP_b, va_recv hK hPc (ci := 6) (q0 := 0) rfl rfl, qP_p hPc hK hDc⟩ rfl rfl hl.1 rfl (lv_room (Nat.le_of_ble_eq_true rfl)) d_L_law_1003 ⟨by show 40 + 8 * t + 1 + 0 ≤ 601024; omega, by show 1400 + 200 * t + 6 + 0 ≤ 7293034; omega⟩) hP hD hS hA (fun r2 u9 H locs P2 hP hD hS => ?_)
  obtain ⟨u10, u11, u12, u13, u14, u15, u16, u17⟩ := u9
  dsimp only at P2 hP hD
  have hP : va_P D gC (mX T o a u10 (nI pn) (nI nn) (nI sn) z18 u11 u12 u13 u15 u17 f1 f4 f5 f6 f7 f8 f9 f10 f11 f12 f13 f15 f16 f17 f22 u14 u16 f27 ++ ([(ox, .inl (T.2.2.1, 1, .inr (.inl u1)))] ++ (cX T aa zw kp fp u2 u3 u4 u5 u6 u7 u8 u9 fc S ++ tl T S))) H := hP
  have hD : va_D (fun q : Nat => s.heap.size ≤ q) (mX T o a u10 (nI pn) (nI nn) (nI sn) z18 u11 u12 u13 u15 u17 f1 f4 f5 f6 f7 f8 f9 f10 f11 f12 f13 f15 f16 f17 f22 u14 u16 f27 ++ ([(ox, .inl (T.2.2.1, 1, .inr (.inl u1)))] ++ (cX T aa zw kp fp u2 u3 u4 u5 u6 u7 u8 u9 fc S ++ tl T S))) := hD
  obtain ⟨hk, hv, hR⟩ := tie_word hR P1 P2
  refine lv_istore (lv' := [(6, .int r2), (5, .int r1), (0, .ref b), (1, .ref (aa 0)), (2, .ref o), (3, .ref ox), (4, .int (nI (6 * t)))]) hx hb d_L_law_1006 hl (by decide) rfl (fun ls hl => ?_)
  refine lv_aload_n hx hb d_L_law_1008 rfl (lv_at hl 4 rfl) ?_
  have hPc : va_P D gC (mX T o a u10 (nI pn) (nI nn) (nI sn) z18 u11 u12 u13 u15 u17 f1 f4 f5 f6 f7 f8 f9 f10 f11 f12 f13 f15 f16 f17 f22 u14 u16 f27) H := hP.lt
  refine vp_callSi (va_Run.run (va_runV (As := []) (rest := []) ⟨hx, hb, hml, hown, hw⟩ (k_M_thrown l D T o a u10 (nI pn) (nI nn) (nI sn) z18 u11 u12 u13 u15 u17 f1 f4 f5 f6 f7 f8 f9 f10 f11 f12 f13 f15 f16 f17 f22 u14 u16 f27) (cwV 0 hw (bg_V ml_L_80 wi_M_thrown wv_M_thrown wz_M wc_M_thrown) rfl rfl rfl (by decide +kernel) ⟨Nat.le_of_ble_eq_true rfl, Nat.le_of_ble_eq_true rfl⟩) ⟨sP_b, va_recv hK hPc (ci := 6) (q0 := 0) rfl rfl, sP_p hPc hK⟩ rfl rfl hl.1 rfl (lv_room (Nat.le_of_ble_eq_true rfl)) d_L_law_1009 ⟨by show 40 + 8 * t + 1 + 0 + 0 ≤ 601024; omega, by show 1400 + 200 * t + 6 + 0 + 0 ≤ 7293034; omega⟩)) (fun r3 hr3 => ?_)
  replace hr3 := hr3.symm; subst hr3
  refine lv_iload hx hb d_L_law_1012 (lv_at hl 1 rfl) ?_
  refine lv_icmp_eq (tgt := 1019) hx hb d_L_law_1014 (by decide) (fun c18 => ?_) (fun c18 => absurd (hk) c18)
  refine lv_iload hx hb d_L_law_1019 (lv_at hl 1 rfl) ?_
  refine lv_if_ne (tgt := 1036) hx hb d_L_law_1021 (by decide) (fun c19 => ?_) (fun c19 => ?_)
  · refine lv_goto (tgt := 1268) hx hb d_L_law_1036 (by decide) ?_
    refine W.widen (k := 40 + 8 * (t + 1)) (n := 1400 + 200 * (t + 1)) (by show 40 + 8 * t + 1 + 0 ≤ 40 + 8 * (t + 1); omega) (by show 1400 + 200 * t + 6 + 0 ≤ 1400 + 200 * (t + 1); omega) ?_
    exact kk H locs ls u1 zw kp fp u2 u3 u4 u5 u6 u7 u8 u9 fc S u10 pn nn sn z18 u11 u12 u13 u15 u17 f1 f4 f5 f6 f7 f8 f9 f10 f11 f12 f13 f15 f16 f17 f22 u14 u16 f27 ln ck hR hP hD hS (lv_sub hl [2, 3, 4, 5, 6] rfl)
  · refine lv_aload_n hx hb d_L_law_1024 rfl (lv_at hl 5 rfl) ?_
    refine lv_iconst (v := 0) hx hb d_L_law_1025 (by decide) ?_
    refine va_lald hx hb hK hP 19 2 rfl rfl (vp_in_nI (n := 0) (by decide) (by decide)) d_L_law_1026 ?_
    rw [show (0 : Int32).toNatClampNeg = 0 from by decide]
    refine lv_iload hx hb d_L_law_1027 (lv_at hl 0 rfl) ?_
    refine lv_i2l hx hb d_L_law_1029 rfl ?_
    rw [hv c19]
    refine W.lcmp hx hb d_L_law_1030 ?_
    refine lv_if_eq (tgt := 1036) hx hb d_L_law_1031 (by decide) (fun c20 => ?_) (fun c20 => absurd (lgc _) c20)
    refine lv_goto (tgt := 1268) hx hb d_L_law_1036 (by decide) ?_
    refine W.widen (k := 40 + 8 * (t + 1)) (n := 1400 + 200 * (t + 1)) (by show 40 + 8 * t + 1 + 0 ≤ 40 + 8 * (t + 1); omega) (by show 1400 + 200 * t + 6 + 0 ≤ 1400 + 200 * (t + 1); omega) ?_
    exact kk H locs ls u1 zw kp fp u2 u3 u4 u5 u6 u7 u8 u9 fc S u10 pn nn sn z18 u11 u12 u13 u15 u17 f1 f4 f5 f6 f7 f8 f9 f10 f11 f12 f13 f15 f16 f17 f22 u14 u16 f27 ln ck hR hP hD hS (lv_sub hl [2, 3, 4, 5, 6] rfl)

set_option maxHeartbeats 4000000 in
set_option maxRecDepth 100000 in
theorem law_near {p : Program} {l : Launch} {e : Env} {s : State} {m : MethodId} {below : List Frame} {meth : Method} {c : Code} {b L : Nat} {xs : Nat → Int32} {D : va_G} {T : gT} {κ : gS} {aa : Nat → Nat} {ox o : Nat} {a : Nat → Nat} {t : Nat} {Q : State → Prop} {H : Heap} {locs : List Loc} {ls : Array Slot} {ov : Nat → Int64} {zw : Int32} {kp : Nat} {fp : Nat → Int32} {e0 : Int32} {e1 : Int32} {oF : Bool} {oT : Bool} {kt : Nat} {ft : Nat → Int32} {ks : Nat} {fs : Nat → Int32} {fc : Nat → Int32} {S : tS} {z0 : Int32} {pn : Nat} {nn : Nat} {sn : Nat} {z18 : Int32} {z19 : Int32} {z20 : Int32} {z21 : Int32} {z24 : Int32} {z26 : Int32} {f1 : Nat → Int32} {f4 : Nat → Int32} {f5 : Nat → Int32} {f6 : Nat → Int32} {f7 : Nat → Int32} {f8 : Nat → Int32} {f9 : Nat → Int32} {f10 : Nat → Int32} {f11 : Nat → Int32} {f12 : Nat → Int32} {f13 : Nat → Int32} {f15 : Nat → Int32} {f16 : Nat → Int32} {f17 : Nat → Int32} {f22 : Nat → Int32} {f23 : Nat → Int32} {f25 : Nat → Int32} {f27 : Nat → Int32} {ln : Nat → Nat} {ck : Nat → Nat} (hC : lawC p l s m c b L xs D T κ) (ht : 6 * t + 6 ≤ L) (hR : lawR κ zw kp fp S pn nn sn z18 f1 f4 f5 f6 f7 f8 f9 f10 f11 f12 f13 f15 f16 f17 ln ck) (hP : va_P D gC (mX T o a z0 (nI pn) (nI nn) (nI sn) z18 z19 z20 z21 z24 z26 f1 f4 f5 f6 f7 f8 f9 f10 f11 f12 f13 f15 f16 f17 f22 f23 f25 f27 ++ ([(ox, .inl (T.2.2.1, 1, .inr (.inl ov)))] ++ (cX T aa zw kp fp e0 e1 oF oT kt ft ks fs fc S ++ tl T S))) H) (hD : va_D (fun q : Nat => s.heap.size ≤ q) (mX T o a z0 (nI pn) (nI nn) (nI sn) z18 z19 z20 z21 z24 z26 f1 f4 f5 f6 f7 f8 f9 f10 f11 f12 f13 f15 f16 f17 f22 f23 f25 f27 ++ ([(ox, .inl (T.2.2.1, 1, .inr (.inl ov)))] ++ (cX T aa zw kp fp e0 e1 oF oT kt ft ks fs fc S ++ tl T S)))) (hS : va_S (fun q : Nat => s.heap.size ≤ q) s.heap H locs) (hl : lv_has ls 7 [(0, .ref b), (1, .ref (aa 0)), (2, .ref o), (3, .ref ox), (4, .int (nI (6 * t)))]) (kk : lawK p l e s m below meth c b D T κ aa ox o a t Q) : W p l e room_1 s m #[Value.ref b] below meth c H locs (40 + 8 * t) (1400 + 200 * t) Q (F0 m 1039 ls []) := by
  obtain ⟨hl9, hx, hb, hml, hown, hw, hX, hbl, hK, hF, hL⟩ := hC
  have hA : ∀ q : Nat, s.heap.size ≤ q → (fun q : Nat => s.heap.size ≤ q) q := fun _ h => h
  have hbA : ¬ (fun q : Nat => s.heap.size ≤ q) b := Nat.not_le.mpr hbl
  refine lv_aload_n hx hb d_L_law_1039 rfl (lv_at hl 1 rfl) ?_
  have hP9 : va_P D gC ((mX T o a z0 (nI pn) (nI nn) (nI sn) z18 z19 z20 z21 z24 z26 f1 f4 f5 f6 f7 f8 f9 f10 f11 f12 f13 f15 f16 f17 f22 f23 f25 f27 ++ [(ox, .inl (T.2.2.1, 1, .inr (.inl ov)))]) ++ (cX T aa zw kp fp e0 e1 oF oT kt ft ks fs fc S ++ tl T S)) H := by rw [List.append_assoc]; exact hP
  have hD9 : va_D (fun q : Nat => s.heap.size ≤ q) ((mX T o a z0 (nI pn) (nI nn) (nI sn) z18 z19 z20 z21 z24 z26 f1 f4 f5 f6 f7 f8 f9 f10 f11 f12 f13 f15 f16 f17 f22 f23 f25 f27 ++ [(ox, .inl (T.2.2.1, 1, .inr (.inl ov)))]) ++ (cX T aa zw kp fp e0 e1 oF oT kt ft ks fs fc S ++ tl T S)) := by rw [List.append_assoc]; exact hD
  have hPc : va_P D gC (cX T aa zw kp fp e0 e1 oF oT kt ft ks fs fc S ++ tl T S) H := hP9.rt
  have hDc : va_D (fun q : Nat => s.heap.size ≤ q) (cX T aa zw kp fp e0 e1 oF oT kt ft ks fs fc S ++ tl T S) := hD9.rt
  refine g_blki (B := mX T o a z0 (nI pn) (nI nn) (nI sn) z18 z19 z20 z21 z24 z26 f1 f4 f5 f6 f7 f8 f9 f10 f11 f12 f13 f15 f16 f17 f22 f23 f25 f27 ++ [(ox, .inl (T.2.2.1, 1, .inr (.inl ov)))]) (C := cX T aa zw kp fp e0 e1 oF oT kt ft ks fs fc S ++ tl T S) (va_runV (As := []) (rest := []) ⟨hx, hb, hml, hown, hw⟩ (k_T_near l D T κ aa zw kp fp e0 e1 oF oT kt ft ks fs fc S H.size hR.1.1 hR.1.2.1) (cwV 0 hw (bg_V ml_L_127 wi_T_near wv_T_near wz_T wc_T_near) rfl rfl rfl (by decide +kernel) ⟨Nat.le_of_ble_eq_true rfl, Nat.le_of_ble_eq_true rfl⟩) ⟨qPf_b, va_recv hK hPc (ci := 5) (q0 := 0) rfl rfl, qPf_p hPc hK hDc hF hS (g_free hDc hS hA)⟩ rfl rfl hl.1 rfl (lv_room (Nat.le_of_ble_eq_true rfl)) d_L_law_1040 ⟨by show 40 + 8 * t + 0 ≤ 601024; omega, by show 1400 + 200 * t + 0 ≤ 7293034; omega⟩) hP9 hD9 hS hA (fun r1 u1 H locs P1 hP hD hS => ?_)
  rw [List.append_assoc] at hP hD
  have hP : va_P D gC (mX T o a z0 (nI pn) (nI nn) (nI sn) z18 z19 z20 z21 z24 z26 f1 f4 f5 f6 f7 f8 f9 f10 f11 f12 f13 f15 f16 f17 f22 f23 f25 f27 ++ ([(ox, .inl (T.2.2.1, 1, .inr (.inl ov)))] ++ (cX T aa zw kp fp e0 e1 oF oT kt ft ks fs u1 S ++ tl T S))) H := hP
  have hD : va_D (fun q : Nat => s.heap.size ≤ q) (mX T o a z0 (nI pn) (nI nn) (nI sn) z18 z19 z20 z21 z24 z26 f1 f4 f5 f6 f7 f8 f9 f10 f11 f12 f13 f15 f16 f17 f22 f23 f25 f27 ++ ([(ox, .inl (T.2.2.1, 1, .inr (.inl ov)))] ++ (cX T aa zw kp fp e0 e1 oF oT kt ft ks fs u1 S ++ tl T S))) := hD
  refine lv_aload_n hx hb d_L_law_1043 rfl (lv_at hl 2 rfl) ?_
  have hPc : va_P D gC (mX T o a z0 (nI pn) (nI nn) (nI sn) z18 z19 z20 z21 z24 z26 f1 f4 f5 f6 f7 f8 f9 f10 f11 f12 f13 f15 f16 f17 f22 f23 f25 f27) H := hP.lt
  have hDc : va_D (fun q : Nat => s.heap.size ≤ q) (mX T o a z0 (nI pn) (nI nn) (nI sn) z18 z19 z20 z21 z24 z26 f1 f4 f5 f6 f7 f8 f9 f10 f11 f12 f13 f15 f16 f17 f22 f23 f25 f27) := hD.lt
  refine g_blqi (C := mX T o a z0 (nI pn) (nI nn) (nI sn) z18 z19 z20 z21 z24 z26 f1 f4 f5 f6 f7 f8 f9 f10 f11 f12 f13 f15 f16 f17 f22 f23 f25 f27) (B := [(ox, .inl (T.2.2.1, 1, .inr (.inl ov)))] ++ (cX T aa zw kp fp e0 e1 oF oT kt ft ks fs u1 S ++ tl T S)) (va_runV (As := []) (rest := [.int r1]) ⟨hx, hb, hml, hown, hw⟩ (k_M_near l D T o a z0 pn nn (nI sn) z18 z19 z20 z21 z24 z26 f1 f4 f5 f6 f7 f8 f9 f10 f11 f12 f13 f15 f16 f17 f22 f23 f25 f27 H.size ln hR.nn24 hR.pn24 hR.2.1.2.2.2.2.1 hR.2.1.2.2.2.2.2.1) (cwV 0 hw (bg_V ml_L_130 wi_M_near wv_M_near wz_M wc_M_near) rfl rfl rfl (by decide +kernel) ⟨Nat.le_of_ble_eq_true rfl, Nat.le_of_ble_eq_true rfl⟩) ⟨qP_b, va_recv hK hPc (ci := 6) (q0 := 0) rfl rfl, qP_p hPc hK hDc⟩ rfl rfl hl.1 rfl (lv_room (Nat.le_of_ble_eq_true rfl)) d_L_law_1044 ⟨by show 40 + 8 * t + 0 + 0 ≤ 601024; omega, by show 1400 + 200 * t + 0 + 0 ≤ 7293034; omega⟩) hP hD hS hA (fun r2 u9 H locs P2 hP hD hS => ?_)
  obtain ⟨u2, u3⟩ := u9
  dsimp only at P2 hP hD
  have hP : va_P D gC (mX T o a u2 (nI pn) (nI nn) (nI sn) z18 z19 z20 z21 z24 z26 f1 f4 f5 f6 f7 f8 f9 f10 f11 f12 f13 f15 f16 f17 f22 f23 f25 u3 ++ ([(ox, .inl (T.2.2.1, 1, .inr (.inl ov)))] ++ (cX T aa zw kp fp e0 e1 oF oT kt ft ks fs u1 S ++ tl T S))) H := hP
  have hD : va_D (fun q : Nat => s.heap.size ≤ q) (mX T o a u2 (nI pn) (nI nn) (nI sn) z18 z19 z20 z21 z24 z26 f1 f4 f5 f6 f7 f8 f9 f10 f11 f12 f13 f15 f16 f17 f22 f23 f25 u3 ++ ([(ox, .inl (T.2.2.1, 1, .inr (.inl ov)))] ++ (cX T aa zw kp fp e0 e1 oF oT kt ft ks fs u1 S ++ tl T S))) := hD
  have hk2 : r1 = r2 := by rw [P1, P2.1]; exact tie_near hR
  refine lv_icmp_eq (tgt := 1268) hx hb d_L_law_1047 (by decide) (fun c4 => ?_) (fun c4 => absurd (hk2) c4)
  refine W.widen (k := 40 + 8 * (t + 1)) (n := 1400 + 200 * (t + 1)) (by show 40 + 8 * t + 0 + 0 ≤ 40 + 8 * (t + 1); omega) (by show 1400 + 200 * t + 0 + 0 ≤ 1400 + 200 * (t + 1); omega) ?_
  exact kk H locs ls ov zw kp fp e0 e1 oF oT kt ft ks fs u1 S u2 pn nn sn z18 z19 z20 z21 z24 z26 f1 f4 f5 f6 f7 f8 f9 f10 f11 f12 f13 f15 f16 f17 f22 f23 f25 u3 ln ck hR hP hD hS (lv_sub hl [0, 1, 2, 3, 4] rfl)

set_option maxHeartbeats 4000000 in
set_option maxRecDepth 100000 in
theorem law_feast {p : Program} {l : Launch} {e : Env} {s : State} {m : MethodId} {below : List Frame} {meth : Method} {c : Code} {b L : Nat} {xs : Nat → Int32} {D : va_G} {T : gT} {κ : gS} {aa : Nat → Nat} {ox o : Nat} {a : Nat → Nat} {t : Nat} {Q : State → Prop} {H : Heap} {locs : List Loc} {ls : Array Slot} {ov : Nat → Int64} {zw : Int32} {kp : Nat} {fp : Nat → Int32} {e0 : Int32} {e1 : Int32} {oF : Bool} {oT : Bool} {kt : Nat} {ft : Nat → Int32} {ks : Nat} {fs : Nat → Int32} {fc : Nat → Int32} {S : tS} {z0 : Int32} {pn : Nat} {nn : Nat} {sn : Nat} {z18 : Int32} {z19 : Int32} {z20 : Int32} {z21 : Int32} {z24 : Int32} {z26 : Int32} {f1 : Nat → Int32} {f4 : Nat → Int32} {f5 : Nat → Int32} {f6 : Nat → Int32} {f7 : Nat → Int32} {f8 : Nat → Int32} {f9 : Nat → Int32} {f10 : Nat → Int32} {f11 : Nat → Int32} {f12 : Nat → Int32} {f13 : Nat → Int32} {f15 : Nat → Int32} {f16 : Nat → Int32} {f17 : Nat → Int32} {f22 : Nat → Int32} {f23 : Nat → Int32} {f25 : Nat → Int32} {f27 : Nat → Int32} {ln : Nat → Nat} {ck : Nat → Nat} (hC : lawC p l s m c b L xs D T κ) (ht : 6 * t + 6 ≤ L) (hR : lawR κ zw kp fp S pn nn sn z18 f1 f4 f5 f6 f7 f8 f9 f10 f11 f12 f13 f15 f16 f17 ln ck) (hP : va_P D gC (mX T o a z0 (nI pn) (nI nn) (nI sn) z18 z19 z20 z21 z24 z26 f1 f4 f5 f6 f7 f8 f9 f10 f11 f12 f13 f15 f16 f17 f22 f23 f25 f27 ++ ([(ox, .inl (T.2.2.1, 1, .inr (.inl ov)))] ++ (cX T aa zw kp fp e0 e1 oF oT kt ft ks fs fc S ++ tl T S))) H) (hD : va_D (fun q : Nat => s.heap.size ≤ q) (mX T o a z0 (nI pn) (nI nn) (nI sn) z18 z19 z20 z21 z24 z26 f1 f4 f5 f6 f7 f8 f9 f10 f11 f12 f13 f15 f16 f17 f22 f23 f25 f27 ++ ([(ox, .inl (T.2.2.1, 1, .inr (.inl ov)))] ++ (cX T aa zw kp fp e0 e1 oF oT kt ft ks fs fc S ++ tl T S)))) (hS : va_S (fun q : Nat => s.heap.size ≤ q) s.heap H locs) (hl : lv_has ls 7 [(0, .ref b), (1, .ref (aa 0)), (2, .ref o), (3, .ref ox), (4, .int (nI (6 * t)))]) (kk : lawK p l e s m below meth c b D T κ aa ox o a t Q) : W p l e room_1 s m #[Value.ref b] below meth c H locs (40 + 8 * t) (1400 + 200 * t) Q (F0 m 1052 ls []) := by
  obtain ⟨hl9, hx, hb, hml, hown, hw, hX, hbl, hK, hF, hL⟩ := hC
  have hA : ∀ q : Nat, s.heap.size ≤ q → (fun q : Nat => s.heap.size ≤ q) q := fun _ h => h
  have hbA : ¬ (fun q : Nat => s.heap.size ≤ q) b := Nat.not_le.mpr hbl
  refine lv_aload_n hx hb d_L_law_1052 rfl (lv_at hl 1 rfl) ?_
  refine lv_aload_n hx hb d_L_law_1053 rfl (lv_at hl 0 rfl) ?_
  refine lv_iload hx hb d_L_law_1054 (lv_at hl 4 rfl) ?_
  refine lv_iconst (v := 1) hx hb d_L_law_1056 (by decide) ?_
  refine lv_iadd hx hb d_L_law_1057 ?_
  rw [nI_1]
  refine va_sld hx hb hX hbl hbA hS (vp_in_nI (n := 6 * t + 1) (by omega) (by omega)) d_L_law_1058 ?_
  rw [show (nI (6 * t + 1)).toNatClampNeg = 6 * t + 1 from nI_clamp (by omega)]
  refine lv_aload_n hx hb d_L_law_1059 rfl (lv_at hl 0 rfl) ?_
  refine lv_iload hx hb d_L_law_1060 (lv_at hl 4 rfl) ?_
  refine lv_iconst (v := 2) hx hb d_L_law_1062 (by decide) ?_
  refine lv_iadd hx hb d_L_law_1063 ?_
  rw [show (nI (6 * t)) + 2 = nI (6 * t + 2) from nI_add (6 * t) 2]
  refine va_sld hx hb hX hbl hbA hS (vp_in_nI (n := 6 * t + 2) (by omega) (by omega)) d_L_law_1064 ?_
  rw [show (nI (6 * t + 2)).toNatClampNeg = 6 * t + 2 from nI_clamp (by omega)]
  refine lv_aload_n hx hb d_L_law_1065 rfl (lv_at hl 0 rfl) ?_
  refine lv_iload hx hb d_L_law_1066 (lv_at hl 4 rfl) ?_
  refine lv_iconst (v := 3) hx hb d_L_law_1068 (by decide) ?_
  refine lv_iadd hx hb d_L_law_1069 ?_
  rw [show (nI (6 * t)) + 3 = nI (6 * t + 3) from nI_add (6 * t) 3]
  refine va_sld hx hb hX hbl hbA hS (vp_in_nI (n := 6 * t + 3) (by omega) (by omega)) d_L_law_1070 ?_
  rw [show (nI (6 * t + 3)).toNatClampNeg = 6 * t + 3 from nI_clamp (by omega)]
  refine lv_aload_n hx hb d_L_law_1071 rfl (lv_at hl 0 rfl) ?_
  refine lv_iload hx hb d_L_law_1072 (lv_at hl 4 rfl) ?_
  refine lv_iconst (v := 4) hx hb d_L_law_1074 (by decide) ?_
  refine lv_iadd hx hb d_L_law_1075 ?_
  rw [show (nI (6 * t)) + 4 = nI (6 * t + 4) from nI_add (6 * t) 4]
  refine va_sld hx hb hX hbl hbA hS (vp_in_nI (n := 6 * t + 4) (by omega) (by omega)) d_L_law_1076 ?_
  rw [show (nI (6 * t + 4)).toNatClampNeg = 6 * t + 4 from nI_clamp (by omega)]
  refine lv_aload_n hx hb d_L_law_1077 rfl (lv_at hl 3 rfl) ?_
  have hPc : va_P D gC ([(ox, .inl (T.2.2.1, 1, .inr (.inl ov)))] ++ (cX T aa zw kp fp e0 e1 oF oT kt ft ks fs fc S ++ tl T S)) H := hP.rt
  have hDc : va_D (fun q : Nat => s.heap.size ≤ q) ([(ox, .inl (T.2.2.1, 1, .inr (.inl ov)))] ++ (cX T aa zw kp fp e0 e1 oF oT kt ft ks fs fc S ++ tl T S)) := hD.rt
  refine g_blki (B := mX T o a z0 (nI pn) (nI nn) (nI sn) z18 z19 z20 z21 z24 z26 f1 f4 f5 f6 f7 f8 f9 f10 f11 f12 f13 f15 f16 f17 f22 f23 f25 f27) (C := [(ox, .inl (T.2.2.1, 1, .inr (.inl ov)))] ++ (cX T aa zw kp fp e0 e1 oF oT kt ft ks fs fc S ++ tl T S)) (vx_va (vx_runSX (As := [.ref (aa 0), .int (xs (6 * t + 1)), .int (xs (6 * t + 2)), .int (xs (6 * t + 3)), .int (xs (6 * t + 4)), .ref ox]) (rest := []) ⟨hx, hb, hml, hown, hw⟩ (k_L_feast l hl9 D T κ ox ov aa zw kp fp e0 e1 oF oT kt ft ks fs fc S H.size (xs (6 * t + 1)) (xs (6 * t + 2)) (xs (6 * t + 3)) (xs (6 * t + 4))) (vx_cwSW 6 hw (bg_SW ml_L_131 wt_L_feast wz_L wc_L_feast) rfl rfl rfl (by decide +kernel) ⟨Nat.le_of_ble_eq_true rfl, Nat.le_of_ble_eq_true rfl⟩) ⟨qPf_b, qPf_p hPc hK hDc hF hS (g_free hDc hS hA)⟩ rfl rfl hl.1 rfl (lv_room (Nat.le_of_ble_eq_true rfl)) d_L_law_1078 ⟨by show 40 + 8 * t + 1 ≤ 601024; omega, by show 1400 + 200 * t + 6 ≤ 7293034; omega⟩)) hP hD hS hA (fun r1 u1 H locs P1 hP hD hS => ?_)
  have hP : va_P D gC (mX T o a z0 (nI pn) (nI nn) (nI sn) z18 z19 z20 z21 z24 z26 f1 f4 f5 f6 f7 f8 f9 f10 f11 f12 f13 f15 f16 f17 f22 f23 f25 f27 ++ ([(ox, .inl (T.2.2.1, 1, .inr (.inl u1)))] ++ (cX T aa zw kp fp e0 e1 oF oT kt ft ks fs fc S ++ tl T S))) H := hP
  have hD : va_D (fun q : Nat => s.heap.size ≤ q) (mX T o a z0 (nI pn) (nI nn) (nI sn) z18 z19 z20 z21 z24 z26 f1 f4 f5 f6 f7 f8 f9 f10 f11 f12 f13 f15 f16 f17 f22 f23 f25 f27 ++ ([(ox, .inl (T.2.2.1, 1, .inr (.inl u1)))] ++ (cX T aa zw kp fp e0 e1 oF oT kt ft ks fs fc S ++ tl T S))) := hD
  refine lv_istore (lv' := [(5, .int r1), (0, .ref b), (1, .ref (aa 0)), (2, .ref o), (3, .ref ox), (4, .int (nI (6 * t)))]) hx hb d_L_law_1081 hl (by decide) rfl (fun ls hl => ?_)
  refine lv_aload_n hx hb d_L_law_1083 rfl (lv_at hl 3 rfl) ?_
  refine lv_aload_n hx hb d_L_law_1084 rfl (lv_at hl 1 rfl) ?_
  refine lv_iload hx hb d_L_law_1085 (lv_at hl 5 rfl) ?_
  refine lv_iconst (v := 1) hx hb d_L_law_1087 (by decide) ?_
  refine lv_iadd hx hb d_L_law_1088 ?_
  rw [nI_1]
  refine va_sld hx hb hX hbl hbA hS (vp_in_nI (n := 6 * t + 1) (by omega) (by omega)) d_L_law_1089 ?_
  rw [show (nI (6 * t + 1)).toNatClampNeg = 6 * t + 1 from nI_clamp (by omega)]
  refine lv_aload_n hx hb d_L_law_1090 rfl (lv_at hl 1 rfl) ?_
  refine lv_iload hx hb d_L_law_1091 (lv_at hl 5 rfl) ?_
  refine lv_iconst (v := 2) hx hb d_L_law_1093 (by decide) ?_
  refine lv_iadd hx hb d_L_law_1094 ?_
  rw [show (nI (6 * t)) + 2 = nI (6 * t + 2) from nI_add (6 * t) 2]
  refine va_sld hx hb hX hbl hbA hS (vp_in_nI (n := 6 * t + 2) (by omega) (by omega)) d_L_law_1095 ?_
  rw [show (nI (6 * t + 2)).toNatClampNeg = 6 * t + 2 from nI_clamp (by omega)]
  refine lv_aload_n hx hb d_L_law_1096 rfl (lv_at hl 1 rfl) ?_
  refine lv_iload hx hb d_L_law_1097 (lv_at hl 5 rfl) ?_
  refine lv_iconst (v := 3) hx hb d_L_law_1099 (by decide) ?_
  refine lv_iadd hx hb d_L_law_1100 ?_
  rw [show (nI (6 * t)) + 3 = nI (6 * t + 3) from nI_add (6 * t) 3]
  refine va_sld hx hb hX hbl hbA hS (vp_in_nI (n := 6 * t + 3) (by omega) (by omega)) d_L_law_1101 ?_
  rw [show (nI (6 * t + 3)).toNatClampNeg = 6 * t + 3 from nI_clamp (by omega)]
  refine lv_aload_n hx hb d_L_law_1102 rfl (lv_at hl 1 rfl) ?_
  refine lv_iload hx hb d_L_law_1103 (lv_at hl 5 rfl) ?_
  refine lv_iconst (v := 4) hx hb d_L_law_1105 (by decide) ?_
  refine lv_iadd hx hb d_L_law_1106 ?_
  rw [show (nI (6 * t)) + 4 = nI (6 * t + 4) from nI_add (6 * t) 4]
  refine va_sld hx hb hX hbl hbA hS (vp_in_nI (n := 6 * t + 4) (by omega) (by omega)) d_L_law_1107 ?_
  rw [show (nI (6 * t + 4)).toNatClampNeg = 6 * t + 4 from nI_clamp (by omega)]
  have hPc : va_P D gC (mX T o a z0 (nI pn) (nI nn) (nI sn) z18 z19 z20 z21 z24 z26 f1 f4 f5 f6 f7 f8 f9 f10 f11 f12 f13 f15 f16 f17 f22 f23 f25 f27) H := hP.lt
  have hDc : va_D (fun q : Nat => s.heap.size ≤ q) (mX T o a z0 (nI pn) (nI nn) (nI sn) z18 z19 z20 z21 z24 z26 f1 f4 f5 f6 f7 f8 f9 f10 f11 f12 f13 f15 f16 f17 f22 f23 f25 f27) := hD.lt
  refine g_blqi (C := mX T o a z0 (nI pn) (nI nn) (nI sn) z18 z19 z20 z21 z24 z26 f1 f4 f5 f6 f7 f8 f9 f10 f11 f12 f13 f15 f16 f17 f22 f23 f25 f27) (B := [(ox, .inl (T.2.2.1, 1, .inr (.inl u1)))] ++ (cX T aa zw kp fp e0 e1 oF oT kt ft ks fs fc S ++ tl T S)) (va_runV (As := [.int (xs (6 * t + 1)), .int (xs (6 * t + 2)), .int (xs (6 * t + 3)), .int (xs (6 * t + 4))]) (rest := []) ⟨hx, hb, hml, hown, hw⟩ (k_M_feast l D T o a z0 (nI pn) (nI nn) (nI sn) z18 z19 z20 z21 z24 z26 f1 f4 f5 f6 f7 f8 f9 f10 f11 f12 f13 f15 f16 f17 f22 f23 f25 f27 H.size (xs (6 * t + 1)) (xs (6 * t + 2)) (xs (6 * t + 3)) (xs (6 * t + 4))) (cwV 4 hw (bg_V ml_L_134 wi_M_feast wv_M_feast wz_M wc_M_feast) rfl rfl rfl (by decide +kernel) ⟨Nat.le_of_ble_eq_true rfl, Nat.le_of_ble_eq_true rfl⟩) ⟨qP_b, va_recv hK hPc (ci := 6) (q0 := 0) rfl rfl, qP_p hPc hK hDc⟩ rfl rfl hl.1 rfl (lv_room (Nat.le_of_ble_eq_true rfl)) d_L_law_1108 ⟨by show 40 + 8 * t + 1 + 0 ≤ 601024; omega, by show 1400 + 200 * t + 6 + 0 ≤ 7293034; omega⟩) hP hD hS hA (fun r2 u2 H locs P2 hP hD hS => ?_)
  have hP : va_P D gC (mX T o a u2 (nI pn) (nI nn) (nI sn) z18 z19 z20 z21 z24 z26 f1 f4 f5 f6 f7 f8 f9 f10 f11 f12 f13 f15 f16 f17 f22 f23 f25 f27 ++ ([(ox, .inl (T.2.2.1, 1, .inr (.inl u1)))] ++ (cX T aa zw kp fp e0 e1 oF oT kt ft ks fs fc S ++ tl T S))) H := hP
  have hD : va_D (fun q : Nat => s.heap.size ≤ q) (mX T o a u2 (nI pn) (nI nn) (nI sn) z18 z19 z20 z21 z24 z26 f1 f4 f5 f6 f7 f8 f9 f10 f11 f12 f13 f15 f16 f17 f22 f23 f25 f27 ++ ([(ox, .inl (T.2.2.1, 1, .inr (.inl u1)))] ++ (cX T aa zw kp fp e0 e1 oF oT kt ft ks fs fc S ++ tl T S))) := hD
  obtain ⟨hk, hv, hR⟩ := tie_feast hR P1 P2
  refine lv_istore (lv' := [(6, .int r2), (5, .int r1), (0, .ref b), (1, .ref (aa 0)), (2, .ref o), (3, .ref ox), (4, .int (nI (6 * t)))]) hx hb d_L_law_1111 hl (by decide) rfl (fun ls hl => ?_)
  refine lv_aload_n hx hb d_L_law_1113 rfl (lv_at hl 4 rfl) ?_
  have hPc : va_P D gC (mX T o a u2 (nI pn) (nI nn) (nI sn) z18 z19 z20 z21 z24 z26 f1 f4 f5 f6 f7 f8 f9 f10 f11 f12 f13 f15 f16 f17 f22 f23 f25 f27) H := hP.lt
  refine vp_callSi (va_Run.run (va_runV (As := []) (rest := []) ⟨hx, hb, hml, hown, hw⟩ (k_M_thrown l D T o a u2 (nI pn) (nI nn) (nI sn) z18 z19 z20 z21 z24 z26 f1 f4 f5 f6 f7 f8 f9 f10 f11 f12 f13 f15 f16 f17 f22 f23 f25 f27) (cwV 0 hw (bg_V ml_L_80 wi_M_thrown wv_M_thrown wz_M wc_M_thrown) rfl rfl rfl (by decide +kernel) ⟨Nat.le_of_ble_eq_true rfl, Nat.le_of_ble_eq_true rfl⟩) ⟨sP_b, va_recv hK hPc (ci := 6) (q0 := 0) rfl rfl, sP_p hPc hK⟩ rfl rfl hl.1 rfl (lv_room (Nat.le_of_ble_eq_true rfl)) d_L_law_1114 ⟨by show 40 + 8 * t + 1 + 0 + 0 ≤ 601024; omega, by show 1400 + 200 * t + 6 + 0 + 0 ≤ 7293034; omega⟩)) (fun r3 hr3 => ?_)
  replace hr3 := hr3.symm; subst hr3
  refine lv_iload hx hb d_L_law_1117 (lv_at hl 1 rfl) ?_
  refine lv_icmp_eq (tgt := 1124) hx hb d_L_law_1119 (by decide) (fun c3 => ?_) (fun c3 => absurd (hk) c3)
  refine lv_iload hx hb d_L_law_1124 (lv_at hl 1 rfl) ?_
  refine lv_if_ne (tgt := 1141) hx hb d_L_law_1126 (by decide) (fun c4 => ?_) (fun c4 => ?_)
  · refine lv_goto (tgt := 1268) hx hb d_L_law_1141 (by decide) ?_
    refine W.widen (k := 40 + 8 * (t + 1)) (n := 1400 + 200 * (t + 1)) (by show 40 + 8 * t + 1 + 0 ≤ 40 + 8 * (t + 1); omega) (by show 1400 + 200 * t + 6 + 0 ≤ 1400 + 200 * (t + 1); omega) ?_
    exact kk H locs ls u1 zw kp fp e0 e1 oF oT kt ft ks fs fc S u2 pn nn sn z18 z19 z20 z21 z24 z26 f1 f4 f5 f6 f7 f8 f9 f10 f11 f12 f13 f15 f16 f17 f22 f23 f25 f27 ln ck hR hP hD hS (lv_sub hl [2, 3, 4, 5, 6] rfl)
  · refine lv_aload_n hx hb d_L_law_1129 rfl (lv_at hl 5 rfl) ?_
    refine lv_iconst (v := 0) hx hb d_L_law_1130 (by decide) ?_
    refine va_lald hx hb hK hP 19 2 rfl rfl (vp_in_nI (n := 0) (by decide) (by decide)) d_L_law_1131 ?_
    rw [show (0 : Int32).toNatClampNeg = 0 from by decide]
    refine lv_iload hx hb d_L_law_1132 (lv_at hl 0 rfl) ?_
    refine lv_i2l hx hb d_L_law_1134 rfl ?_
    rw [hv c4]
    refine W.lcmp hx hb d_L_law_1135 ?_
    refine lv_if_eq (tgt := 1141) hx hb d_L_law_1136 (by decide) (fun c5 => ?_) (fun c5 => absurd (lgc _) c5)
    refine lv_goto (tgt := 1268) hx hb d_L_law_1141 (by decide) ?_
    refine W.widen (k := 40 + 8 * (t + 1)) (n := 1400 + 200 * (t + 1)) (by show 40 + 8 * t + 1 + 0 ≤ 40 + 8 * (t + 1); omega) (by show 1400 + 200 * t + 6 + 0 ≤ 1400 + 200 * (t + 1); omega) ?_
    exact kk H locs ls u1 zw kp fp e0 e1 oF oT kt ft ks fs fc S u2 pn nn sn z18 z19 z20 z21 z24 z26 f1 f4 f5 f6 f7 f8 f9 f10 f11 f12 f13 f15 f16 f17 f22 f23 f25 f27 ln ck hR hP hD hS (lv_sub hl [2, 3, 4, 5, 6] rfl)

set_option maxHeartbeats 4000000 in
set_option maxRecDepth 100000 in
theorem law_regnal {p : Program} {l : Launch} {e : Env} {s : State} {m : MethodId} {below : List Frame} {meth : Method} {c : Code} {b L : Nat} {xs : Nat → Int32} {D : va_G} {T : gT} {κ : gS} {aa : Nat → Nat} {ox o : Nat} {a : Nat → Nat} {t : Nat} {Q : State → Prop} {H : Heap} {locs : List Loc} {ls : Array Slot} {ov : Nat → Int64} {zw : Int32} {kp : Nat} {fp : Nat → Int32} {e0 : Int32} {e1 : Int32} {oF : Bool} {oT : Bool} {kt : Nat} {ft : Nat → Int32} {ks : Nat} {fs : Nat → Int32} {fc : Nat → Int32} {S : tS} {z0 : Int32} {pn : Nat} {nn : Nat} {sn : Nat} {z18 : Int32} {z19 : Int32} {z20 : Int32} {z21 : Int32} {z24 : Int32} {z26 : Int32} {f1 : Nat → Int32} {f4 : Nat → Int32} {f5 : Nat → Int32} {f6 : Nat → Int32} {f7 : Nat → Int32} {f8 : Nat → Int32} {f9 : Nat → Int32} {f10 : Nat → Int32} {f11 : Nat → Int32} {f12 : Nat → Int32} {f13 : Nat → Int32} {f15 : Nat → Int32} {f16 : Nat → Int32} {f17 : Nat → Int32} {f22 : Nat → Int32} {f23 : Nat → Int32} {f25 : Nat → Int32} {f27 : Nat → Int32} {ln : Nat → Nat} {ck : Nat → Nat} (hC : lawC p l s m c b L xs D T κ) (ht : 6 * t + 6 ≤ L) (hR : lawR κ zw kp fp S pn nn sn z18 f1 f4 f5 f6 f7 f8 f9 f10 f11 f12 f13 f15 f16 f17 ln ck) (hP : va_P D gC (mX T o a z0 (nI pn) (nI nn) (nI sn) z18 z19 z20 z21 z24 z26 f1 f4 f5 f6 f7 f8 f9 f10 f11 f12 f13 f15 f16 f17 f22 f23 f25 f27 ++ ([(ox, .inl (T.2.2.1, 1, .inr (.inl ov)))] ++ (cX T aa zw kp fp e0 e1 oF oT kt ft ks fs fc S ++ tl T S))) H) (hD : va_D (fun q : Nat => s.heap.size ≤ q) (mX T o a z0 (nI pn) (nI nn) (nI sn) z18 z19 z20 z21 z24 z26 f1 f4 f5 f6 f7 f8 f9 f10 f11 f12 f13 f15 f16 f17 f22 f23 f25 f27 ++ ([(ox, .inl (T.2.2.1, 1, .inr (.inl ov)))] ++ (cX T aa zw kp fp e0 e1 oF oT kt ft ks fs fc S ++ tl T S)))) (hS : va_S (fun q : Nat => s.heap.size ≤ q) s.heap H locs) (hl : lv_has ls 7 [(0, .ref b), (1, .ref (aa 0)), (2, .ref o), (3, .ref ox), (4, .int (nI (6 * t)))]) (kk : lawK p l e s m below meth c b D T κ aa ox o a t Q) : W p l e room_1 s m #[Value.ref b] below meth c H locs (40 + 8 * t) (1400 + 200 * t) Q (F0 m 1144 ls []) := by
  obtain ⟨hl9, hx, hb, hml, hown, hw, hX, hbl, hK, hF, hL⟩ := hC
  have hA : ∀ q : Nat, s.heap.size ≤ q → (fun q : Nat => s.heap.size ≤ q) q := fun _ h => h
  have hbA : ¬ (fun q : Nat => s.heap.size ≤ q) b := Nat.not_le.mpr hbl
  refine lv_aload_n hx hb d_L_law_1144 rfl (lv_at hl 1 rfl) ?_
  refine lv_aload_n hx hb d_L_law_1145 rfl (lv_at hl 0 rfl) ?_
  refine lv_iload hx hb d_L_law_1146 (lv_at hl 4 rfl) ?_
  refine lv_iconst (v := 1) hx hb d_L_law_1148 (by decide) ?_
  refine lv_iadd hx hb d_L_law_1149 ?_
  rw [nI_1]
  refine va_sld hx hb hX hbl hbA hS (vp_in_nI (n := 6 * t + 1) (by omega) (by omega)) d_L_law_1150 ?_
  rw [show (nI (6 * t + 1)).toNatClampNeg = 6 * t + 1 from nI_clamp (by omega)]
  refine lv_aload_n hx hb d_L_law_1151 rfl (lv_at hl 0 rfl) ?_
  refine lv_iload hx hb d_L_law_1152 (lv_at hl 4 rfl) ?_
  refine lv_iconst (v := 2) hx hb d_L_law_1154 (by decide) ?_
  refine lv_iadd hx hb d_L_law_1155 ?_
  rw [show (nI (6 * t)) + 2 = nI (6 * t + 2) from nI_add (6 * t) 2]
  refine va_sld hx hb hX hbl hbA hS (vp_in_nI (n := 6 * t + 2) (by omega) (by omega)) d_L_law_1156 ?_
  rw [show (nI (6 * t + 2)).toNatClampNeg = 6 * t + 2 from nI_clamp (by omega)]
  refine lv_aload_n hx hb d_L_law_1157 rfl (lv_at hl 3 rfl) ?_
  have hPc : va_P D gC ([(ox, .inl (T.2.2.1, 1, .inr (.inl ov)))] ++ (cX T aa zw kp fp e0 e1 oF oT kt ft ks fs fc S ++ tl T S)) H := hP.rt
  have hDc : va_D (fun q : Nat => s.heap.size ≤ q) ([(ox, .inl (T.2.2.1, 1, .inr (.inl ov)))] ++ (cX T aa zw kp fp e0 e1 oF oT kt ft ks fs fc S ++ tl T S)) := hD.rt
  refine g_blki (B := mX T o a z0 (nI pn) (nI nn) (nI sn) z18 z19 z20 z21 z24 z26 f1 f4 f5 f6 f7 f8 f9 f10 f11 f12 f13 f15 f16 f17 f22 f23 f25 f27) (C := [(ox, .inl (T.2.2.1, 1, .inr (.inl ov)))] ++ (cX T aa zw kp fp e0 e1 oF oT kt ft ks fs fc S ++ tl T S)) (vx_va (vx_runSX (As := [.ref (aa 0), .int (xs (6 * t + 1)), .int (xs (6 * t + 2)), .ref ox]) (rest := []) ⟨hx, hb, hml, hown, hw⟩ (k_L_regnal l hl9 D T κ ox ov aa zw kp fp e0 e1 oF oT kt ft ks fs fc S H.size (xs (6 * t + 1)) (xs (6 * t + 2)) hR.1.1) (vx_cwSW 4 hw (bg_SW ml_L_135 wt_L_regnal wz_L wc_L_regnal) rfl rfl rfl (by decide +kernel) ⟨Nat.le_of_ble_eq_true rfl, Nat.le_of_ble_eq_true rfl⟩) ⟨qPf_b, qPf_p hPc hK hDc hF hS (g_free hDc hS hA)⟩ rfl rfl hl.1 rfl (lv_room (Nat.le_of_ble_eq_true rfl)) d_L_law_1158 ⟨by show 40 + 8 * t + 1 ≤ 601024; omega, by show 1400 + 200 * t + 6 ≤ 7293034; omega⟩)) hP hD hS hA (fun r1 u1 H locs P1 hP hD hS => ?_)
  have hP : va_P D gC (mX T o a z0 (nI pn) (nI nn) (nI sn) z18 z19 z20 z21 z24 z26 f1 f4 f5 f6 f7 f8 f9 f10 f11 f12 f13 f15 f16 f17 f22 f23 f25 f27 ++ ([(ox, .inl (T.2.2.1, 1, .inr (.inl u1)))] ++ (cX T aa zw kp fp e0 e1 oF oT kt ft ks fs fc S ++ tl T S))) H := hP
  have hD : va_D (fun q : Nat => s.heap.size ≤ q) (mX T o a z0 (nI pn) (nI nn) (nI sn) z18 z19 z20 z21 z24 z26 f1 f4 f5 f6 f7 f8 f9 f10 f11 f12 f13 f15 f16 f17 f22 f23 f25 f27 ++ ([(ox, .inl (T.2.2.1, 1, .inr (.inl u1)))] ++ (cX T aa zw kp fp e0 e1 oF oT kt ft ks fs fc S ++ tl T S))) := hD
  refine lv_istore (lv' := [(5, .int r1), (0, .ref b), (1, .ref (aa 0)), (2, .ref o), (3, .ref ox), (4, .int (nI (6 * t)))]) hx hb d_L_law_1161 hl (by decide) rfl (fun ls hl => ?_)
  refine lv_aload_n hx hb d_L_law_1163 rfl (lv_at hl 3 rfl) ?_
  refine lv_aload_n hx hb d_L_law_1164 rfl (lv_at hl 1 rfl) ?_
  refine lv_iload hx hb d_L_law_1165 (lv_at hl 5 rfl) ?_
  refine lv_iconst (v := 1) hx hb d_L_law_1167 (by decide) ?_
  refine lv_iadd hx hb d_L_law_1168 ?_
  rw [nI_1]
  refine va_sld hx hb hX hbl hbA hS (vp_in_nI (n := 6 * t + 1) (by omega) (by omega)) d_L_law_1169 ?_
  rw [show (nI (6 * t + 1)).toNatClampNeg = 6 * t + 1 from nI_clamp (by omega)]
  refine lv_aload_n hx hb d_L_law_1170 rfl (lv_at hl 1 rfl) ?_
  refine lv_iload hx hb d_L_law_1171 (lv_at hl 5 rfl) ?_
  refine lv_iconst (v := 2) hx hb d_L_law_1173 (by decide) ?_
  refine lv_iadd hx hb d_L_law_1174 ?_
  rw [show (nI (6 * t)) + 2 = nI (6 * t + 2) from nI_add (6 * t) 2]
  refine va_sld hx hb hX hbl hbA hS (vp_in_nI (n := 6 * t + 2) (by omega) (by omega)) d_L_law_1175 ?_
  rw [show (nI (6 * t + 2)).toNatClampNeg = 6 * t + 2 from nI_clamp (by omega)]
  have hPc : va_P D gC (mX T o a z0 (nI pn) (nI nn) (nI sn) z18 z19 z20 z21 z24 z26 f1 f4 f5 f6 f7 f8 f9 f10 f11 f12 f13 f15 f16 f17 f22 f23 f25 f27) H := hP.lt
  have hDc : va_D (fun q : Nat => s.heap.size ≤ q) (mX T o a z0 (nI pn) (nI nn) (nI sn) z18 z19 z20 z21 z24 z26 f1 f4 f5 f6 f7 f8 f9 f10 f11 f12 f13 f15 f16 f17 f22 f23 f25 f27) := hD.lt
  refine g_blqi (C := mX T o a z0 (nI pn) (nI nn) (nI sn) z18 z19 z20 z21 z24 z26 f1 f4 f5 f6 f7 f8 f9 f10 f11 f12 f13 f15 f16 f17 f22 f23 f25 f27) (B := [(ox, .inl (T.2.2.1, 1, .inr (.inl u1)))] ++ (cX T aa zw kp fp e0 e1 oF oT kt ft ks fs fc S ++ tl T S)) (va_runV (As := [.int (xs (6 * t + 1)), .int (xs (6 * t + 2))]) (rest := []) ⟨hx, hb, hml, hown, hw⟩ (k_M_regnal l D T o a z0 (nI pn) nn (nI sn) z18 z19 z20 z21 z24 z26 f1 f4 f5 f6 f7 f8 f9 f10 f11 f12 f13 f15 f16 f17 f22 f23 f25 f27 H.size (xs (6 * t + 1)) (xs (6 * t + 2)) hR.nn24) (cwV 2 hw (bg_V ml_L_137 wi_M_regnal wv_M_regnal wz_M wc_M_regnal) rfl rfl rfl (by decide +kernel) ⟨Nat.le_of_ble_eq_true rfl, Nat.le_of_ble_eq_true rfl⟩) ⟨qP_b, va_recv hK hPc (ci := 6) (q0 := 0) rfl rfl, qP_p hPc hK hDc⟩ rfl rfl hl.1 rfl (lv_room (Nat.le_of_ble_eq_true rfl)) d_L_law_1176 ⟨by show 40 + 8 * t + 1 + 0 ≤ 601024; omega, by show 1400 + 200 * t + 6 + 0 ≤ 7293034; omega⟩) hP hD hS hA (fun r2 u2 H locs P2 hP hD hS => ?_)
  have hP : va_P D gC (mX T o a u2 (nI pn) (nI nn) (nI sn) z18 z19 z20 z21 z24 z26 f1 f4 f5 f6 f7 f8 f9 f10 f11 f12 f13 f15 f16 f17 f22 f23 f25 f27 ++ ([(ox, .inl (T.2.2.1, 1, .inr (.inl u1)))] ++ (cX T aa zw kp fp e0 e1 oF oT kt ft ks fs fc S ++ tl T S))) H := hP
  have hD : va_D (fun q : Nat => s.heap.size ≤ q) (mX T o a u2 (nI pn) (nI nn) (nI sn) z18 z19 z20 z21 z24 z26 f1 f4 f5 f6 f7 f8 f9 f10 f11 f12 f13 f15 f16 f17 f22 f23 f25 f27 ++ ([(ox, .inl (T.2.2.1, 1, .inr (.inl u1)))] ++ (cX T aa zw kp fp e0 e1 oF oT kt ft ks fs fc S ++ tl T S))) := hD
  obtain ⟨hk, hv, hR⟩ := tie_regnal hR P1 P2
  refine lv_istore (lv' := [(6, .int r2), (5, .int r1), (0, .ref b), (1, .ref (aa 0)), (2, .ref o), (3, .ref ox), (4, .int (nI (6 * t)))]) hx hb d_L_law_1179 hl (by decide) rfl (fun ls hl => ?_)
  refine lv_aload_n hx hb d_L_law_1181 rfl (lv_at hl 4 rfl) ?_
  have hPc : va_P D gC (mX T o a u2 (nI pn) (nI nn) (nI sn) z18 z19 z20 z21 z24 z26 f1 f4 f5 f6 f7 f8 f9 f10 f11 f12 f13 f15 f16 f17 f22 f23 f25 f27) H := hP.lt
  refine vp_callSi (va_Run.run (va_runV (As := []) (rest := []) ⟨hx, hb, hml, hown, hw⟩ (k_M_thrown l D T o a u2 (nI pn) (nI nn) (nI sn) z18 z19 z20 z21 z24 z26 f1 f4 f5 f6 f7 f8 f9 f10 f11 f12 f13 f15 f16 f17 f22 f23 f25 f27) (cwV 0 hw (bg_V ml_L_80 wi_M_thrown wv_M_thrown wz_M wc_M_thrown) rfl rfl rfl (by decide +kernel) ⟨Nat.le_of_ble_eq_true rfl, Nat.le_of_ble_eq_true rfl⟩) ⟨sP_b, va_recv hK hPc (ci := 6) (q0 := 0) rfl rfl, sP_p hPc hK⟩ rfl rfl hl.1 rfl (lv_room (Nat.le_of_ble_eq_true rfl)) d_L_law_1182 ⟨by show 40 + 8 * t + 1 + 0 + 0 ≤ 601024; omega, by show 1400 + 200 * t + 6 + 0 + 0 ≤ 7293034; omega⟩)) (fun r3 hr3 => ?_)
  replace hr3 := hr3.symm; subst hr3
  refine lv_iload hx hb d_L_law_1185 (lv_at hl 1 rfl) ?_
  refine lv_icmp_eq (tgt := 1192) hx hb d_L_law_1187 (by decide) (fun c3 => ?_) (fun c3 => absurd (hk) c3)
  refine lv_iload hx hb d_L_law_1192 (lv_at hl 1 rfl) ?_
  refine lv_if_ne (tgt := 1209) hx hb d_L_law_1194 (by decide) (fun c4 => ?_) (fun c4 => ?_)
  · refine lv_goto (tgt := 1268) hx hb d_L_law_1209 (by decide) ?_
    refine W.widen (k := 40 + 8 * (t + 1)) (n := 1400 + 200 * (t + 1)) (by show 40 + 8 * t + 1 + 0 ≤ 40 + 8 * (t + 1); omega) (by show 1400 + 200 * t + 6 + 0 ≤ 1400 + 200 * (t + 1); omega) ?_
    exact kk H locs ls u1 zw kp fp e0 e1 oF oT kt ft ks fs fc S u2 pn nn sn z18 z19 z20 z21 z24 z26 f1 f4 f5 f6 f7 f8 f9 f10 f11 f12 f13 f15 f16 f17 f22 f23 f25 f27 ln ck hR hP hD hS (lv_sub hl [2, 3, 4, 5, 6] rfl)
  · refine lv_aload_n hx hb d_L_law_1197 rfl (lv_at hl 5 rfl) ?_
    refine lv_iconst (v := 0) hx hb d_L_law_1198 (by decide) ?_
    refine va_lald hx hb hK hP 19 2 rfl rfl (vp_in_nI (n := 0) (by decide) (by decide)) d_L_law_1199 ?_
    rw [show (0 : Int32).toNatClampNeg = 0 from by decide]
    refine lv_iload hx hb d_L_law_1200 (lv_at hl 0 rfl) ?_
    refine lv_i2l hx hb d_L_law_1202 rfl ?_
    rw [hv c4]
    refine W.lcmp hx hb d_L_law_1203 ?_
    refine lv_if_eq (tgt := 1209) hx hb d_L_law_1204 (by decide) (fun c5 => ?_) (fun c5 => absurd (lgc _) c5)
    refine lv_goto (tgt := 1268) hx hb d_L_law_1209 (by decide) ?_
    refine W.widen (k := 40 + 8 * (t + 1)) (n := 1400 + 200 * (t + 1)) (by show 40 + 8 * t + 1 + 0 ≤ 40 + 8 * (t + 1); omega) (by show 1400 + 200 * t + 6 + 0 ≤ 1400 + 200 * (t + 1); omega) ?_
    exact kk H locs ls u1 zw kp fp e0 e1 oF oT kt ft ks fs fc S u2 pn nn sn z18 z19 z20 z21 z24 z26 f1 f4 f5 f6 f7 f8 f9 f10 f11 f12 f13 f15 f16 f17 f22 f23 f25 f27 ln ck hR hP hD hS (lv_sub hl [2, 3, 4, 5, 6] rfl)

set_option maxHeartbeats 4000000 in
set_option maxRecDepth 100000 in
theorem law_count {p : Program} {l : Launch} {e : Env} {s : State} {m : MethodId} {below : List Frame} {meth : Method} {c : Code} {b L : Nat} {xs : Nat → Int32} {D : va_G} {T : gT} {κ : gS} {aa : Nat → Nat} {ox o : Nat} {a : Nat → Nat} {t : Nat} {Q : State → Prop} {H : Heap} {locs : List Loc} {ls : Array Slot} {ov : Nat → Int64} {zw : Int32} {kp : Nat} {fp : Nat → Int32} {e0 : Int32} {e1 : Int32} {oF : Bool} {oT : Bool} {kt : Nat} {ft : Nat → Int32} {ks : Nat} {fs : Nat → Int32} {fc : Nat → Int32} {S : tS} {z0 : Int32} {pn : Nat} {nn : Nat} {sn : Nat} {z18 : Int32} {z19 : Int32} {z20 : Int32} {z21 : Int32} {z24 : Int32} {z26 : Int32} {f1 : Nat → Int32} {f4 : Nat → Int32} {f5 : Nat → Int32} {f6 : Nat → Int32} {f7 : Nat → Int32} {f8 : Nat → Int32} {f9 : Nat → Int32} {f10 : Nat → Int32} {f11 : Nat → Int32} {f12 : Nat → Int32} {f13 : Nat → Int32} {f15 : Nat → Int32} {f16 : Nat → Int32} {f17 : Nat → Int32} {f22 : Nat → Int32} {f23 : Nat → Int32} {f25 : Nat → Int32} {f27 : Nat → Int32} {ln : Nat → Nat} {ck : Nat → Nat} (hC : lawC p l s m c b L xs D T κ) (ht : 6 * t + 6 ≤ L) (hR : lawR κ zw kp fp S pn nn sn z18 f1 f4 f5 f6 f7 f8 f9 f10 f11 f12 f13 f15 f16 f17 ln ck) (hP : va_P D gC (mX T o a z0 (nI pn) (nI nn) (nI sn) z18 z19 z20 z21 z24 z26 f1 f4 f5 f6 f7 f8 f9 f10 f11 f12 f13 f15 f16 f17 f22 f23 f25 f27 ++ ([(ox, .inl (T.2.2.1, 1, .inr (.inl ov)))] ++ (cX T aa zw kp fp e0 e1 oF oT kt ft ks fs fc S ++ tl T S))) H) (hD : va_D (fun q : Nat => s.heap.size ≤ q) (mX T o a z0 (nI pn) (nI nn) (nI sn) z18 z19 z20 z21 z24 z26 f1 f4 f5 f6 f7 f8 f9 f10 f11 f12 f13 f15 f16 f17 f22 f23 f25 f27 ++ ([(ox, .inl (T.2.2.1, 1, .inr (.inl ov)))] ++ (cX T aa zw kp fp e0 e1 oF oT kt ft ks fs fc S ++ tl T S)))) (hS : va_S (fun q : Nat => s.heap.size ≤ q) s.heap H locs) (hl : lv_has ls 7 [(0, .ref b), (1, .ref (aa 0)), (2, .ref o), (3, .ref ox), (4, .int (nI (6 * t)))]) (kk : lawK p l e s m below meth c b D T κ aa ox o a t Q) : W p l e room_1 s m #[Value.ref b] below meth c H locs (40 + 8 * t) (1400 + 200 * t) Q (F0 m 1212 ls []) := by
  obtain ⟨hl9, hx, hb, hml, hown, hw, hX, hbl, hK, hF, hL⟩ := hC
  have hA : ∀ q : Nat, s.heap.size ≤ q → (fun q : Nat => s.heap.size ≤ q) q := fun _ h => h
  have hbA : ¬ (fun q : Nat => s.heap.size ≤ q) b := Nat.not_le.mpr hbl
  refine lv_aload_n hx hb d_L_law_1212 rfl (lv_at hl 1 rfl) ?_
  refine lv_aload_n hx hb d_L_law_1213 rfl (lv_at hl 0 rfl) ?_
  refine lv_iload hx hb d_L_law_1214 (lv_at hl 4 rfl) ?_
  refine lv_iconst (v := 1) hx hb d_L_law_1216 (by decide) ?_
  refine lv_iadd hx hb d_L_law_1217 ?_
  rw [nI_1]
  refine va_sld hx hb hX hbl hbA hS (vp_in_nI (n := 6 * t + 1) (by omega) (by omega)) d_L_law_1218 ?_
  rw [show (nI (6 * t + 1)).toNatClampNeg = 6 * t + 1 from nI_clamp (by omega)]
  refine lv_aload_n hx hb d_L_law_1219 rfl (lv_at hl 3 rfl) ?_
  have hPc : va_P D gC ([(ox, .inl (T.2.2.1, 1, .inr (.inl ov)))] ++ (cX T aa zw kp fp e0 e1 oF oT kt ft ks fs fc S ++ tl T S)) H := hP.rt
  have hDc : va_D (fun q : Nat => s.heap.size ≤ q) ([(ox, .inl (T.2.2.1, 1, .inr (.inl ov)))] ++ (cX T aa zw kp fp e0 e1 oF oT kt ft ks fs fc S ++ tl T S)) := hD.rt
  refine g_blki (B := mX T o a z0 (nI pn) (nI nn) (nI sn) z18 z19 z20 z21 z24 z26 f1 f4 f5 f6 f7 f8 f9 f10 f11 f12 f13 f15 f16 f17 f22 f23 f25 f27) (C := [(ox, .inl (T.2.2.1, 1, .inr (.inl ov)))] ++ (cX T aa zw kp fp e0 e1 oF oT kt ft ks fs fc S ++ tl T S)) (vx_va (vx_runSX (As := [.ref (aa 0), .int (xs (6 * t + 1)), .ref ox]) (rest := []) ⟨hx, hb, hml, hown, hw⟩ (k_L_count l hl9 D T κ ox ov aa zw kp fp e0 e1 oF oT kt ft ks fs fc S H.size (xs (6 * t + 1))) (vx_cwSW 3 hw (bg_SW ml_L_138 wt_L_count wz_L wc_L_count) rfl rfl rfl (by decide +kernel) ⟨Nat.le_of_ble_eq_true rfl, Nat.le_of_ble_eq_true rfl⟩) ⟨qPf_b, qPf_p hPc hK hDc hF hS (g_free hDc hS hA)⟩ rfl rfl hl.1 rfl (lv_room (Nat.le_of_ble_eq_true rfl)) d_L_law_1220 ⟨by show 40 + 8 * t + 1 ≤ 601024; omega, by show 1400 + 200 * t + 6 ≤ 7293034; omega⟩)) hP hD hS hA (fun r1 u1 H locs P1 hP hD hS => ?_)
  have hP : va_P D gC (mX T o a z0 (nI pn) (nI nn) (nI sn) z18 z19 z20 z21 z24 z26 f1 f4 f5 f6 f7 f8 f9 f10 f11 f12 f13 f15 f16 f17 f22 f23 f25 f27 ++ ([(ox, .inl (T.2.2.1, 1, .inr (.inl u1)))] ++ (cX T aa zw kp fp e0 e1 oF oT kt ft ks fs fc S ++ tl T S))) H := hP
  have hD : va_D (fun q : Nat => s.heap.size ≤ q) (mX T o a z0 (nI pn) (nI nn) (nI sn) z18 z19 z20 z21 z24 z26 f1 f4 f5 f6 f7 f8 f9 f10 f11 f12 f13 f15 f16 f17 f22 f23 f25 f27 ++ ([(ox, .inl (T.2.2.1, 1, .inr (.inl u1)))] ++ (cX T aa zw kp fp e0 e1 oF oT kt ft ks fs fc S ++ tl T S))) := hD
  refine lv_istore (lv' := [(5, .int r1), (0, .ref b), (1, .ref (aa 0)), (2, .ref o), (3, .ref ox), (4, .int (nI (6 * t)))]) hx hb d_L_law_1223 hl (by decide) rfl (fun ls hl => ?_)
  refine lv_aload_n hx hb d_L_law_1225 rfl (lv_at hl 3 rfl) ?_
  refine lv_aload_n hx hb d_L_law_1226 rfl (lv_at hl 1 rfl) ?_
  refine lv_iload hx hb d_L_law_1227 (lv_at hl 5 rfl) ?_
  refine lv_iconst (v := 1) hx hb d_L_law_1229 (by decide) ?_
  refine lv_iadd hx hb d_L_law_1230 ?_
  rw [nI_1]
  refine va_sld hx hb hX hbl hbA hS (vp_in_nI (n := 6 * t + 1) (by omega) (by omega)) d_L_law_1231 ?_
  rw [show (nI (6 * t + 1)).toNatClampNeg = 6 * t + 1 from nI_clamp (by omega)]
  have hPc : va_P D gC (mX T o a z0 (nI pn) (nI nn) (nI sn) z18 z19 z20 z21 z24 z26 f1 f4 f5 f6 f7 f8 f9 f10 f11 f12 f13 f15 f16 f17 f22 f23 f25 f27) H := hP.lt
  have hDc : va_D (fun q : Nat => s.heap.size ≤ q) (mX T o a z0 (nI pn) (nI nn) (nI sn) z18 z19 z20 z21 z24 z26 f1 f4 f5 f6 f7 f8 f9 f10 f11 f12 f13 f15 f16 f17 f22 f23 f25 f27) := hD.lt
  refine g_blqi (C := mX T o a z0 (nI pn) (nI nn) (nI sn) z18 z19 z20 z21 z24 z26 f1 f4 f5 f6 f7 f8 f9 f10 f11 f12 f13 f15 f16 f17 f22 f23 f25 f27) (B := [(ox, .inl (T.2.2.1, 1, .inr (.inl u1)))] ++ (cX T aa zw kp fp e0 e1 oF oT kt ft ks fs fc S ++ tl T S)) (va_runV (As := [.int (xs (6 * t + 1))]) (rest := []) ⟨hx, hb, hml, hown, hw⟩ (k_M_count l D T o a z0 (nI pn) (nI nn) (nI sn) z18 z19 z20 z21 z24 z26 f1 f4 f5 f6 f7 f8 f9 f10 f11 f12 f13 f15 f16 f17 f22 f23 f25 f27 H.size (xs (6 * t + 1))) (cwV 1 hw (bg_V ml_L_140 wi_M_count wv_M_count wz_M wc_M_count) rfl rfl rfl (by decide +kernel) ⟨Nat.le_of_ble_eq_true rfl, Nat.le_of_ble_eq_true rfl⟩) ⟨qP_b, va_recv hK hPc (ci := 6) (q0 := 0) rfl rfl, qP_p hPc hK hDc⟩ rfl rfl hl.1 rfl (lv_room (Nat.le_of_ble_eq_true rfl)) d_L_law_1232 ⟨by show 40 + 8 * t + 1 + 0 ≤ 601024; omega, by show 1400 + 200 * t + 6 + 0 ≤ 7293034; omega⟩) hP hD hS hA (fun r2 u2 H locs P2 hP hD hS => ?_)
  have hP : va_P D gC (mX T o a u2 (nI pn) (nI nn) (nI sn) z18 z19 z20 z21 z24 z26 f1 f4 f5 f6 f7 f8 f9 f10 f11 f12 f13 f15 f16 f17 f22 f23 f25 f27 ++ ([(ox, .inl (T.2.2.1, 1, .inr (.inl u1)))] ++ (cX T aa zw kp fp e0 e1 oF oT kt ft ks fs fc S ++ tl T S))) H := hP
  have hD : va_D (fun q : Nat => s.heap.size ≤ q) (mX T o a u2 (nI pn) (nI nn) (nI sn) z18 z19 z20 z21 z24 z26 f1 f4 f5 f6 f7 f8 f9 f10 f11 f12 f13 f15 f16 f17 f22 f23 f25 f27 ++ ([(ox, .inl (T.2.2.1, 1, .inr (.inl u1)))] ++ (cX T aa zw kp fp e0 e1 oF oT kt ft ks fs fc S ++ tl T S))) := hD
  obtain ⟨hk, hv, hR⟩ := tie_count hR P1 P2
  refine lv_istore (lv' := [(6, .int r2), (5, .int r1), (0, .ref b), (1, .ref (aa 0)), (2, .ref o), (3, .ref ox), (4, .int (nI (6 * t)))]) hx hb d_L_law_1235 hl (by decide) rfl (fun ls hl => ?_)
  refine lv_aload_n hx hb d_L_law_1237 rfl (lv_at hl 4 rfl) ?_
  have hPc : va_P D gC (mX T o a u2 (nI pn) (nI nn) (nI sn) z18 z19 z20 z21 z24 z26 f1 f4 f5 f6 f7 f8 f9 f10 f11 f12 f13 f15 f16 f17 f22 f23 f25 f27) H := hP.lt
  refine vp_callSi (va_Run.run (va_runV (As := []) (rest := []) ⟨hx, hb, hml, hown, hw⟩ (k_M_thrown l D T o a u2 (nI pn) (nI nn) (nI sn) z18 z19 z20 z21 z24 z26 f1 f4 f5 f6 f7 f8 f9 f10 f11 f12 f13 f15 f16 f17 f22 f23 f25 f27) (cwV 0 hw (bg_V ml_L_80 wi_M_thrown wv_M_thrown wz_M wc_M_thrown) rfl rfl rfl (by decide +kernel) ⟨Nat.le_of_ble_eq_true rfl, Nat.le_of_ble_eq_true rfl⟩) ⟨sP_b, va_recv hK hPc (ci := 6) (q0 := 0) rfl rfl, sP_p hPc hK⟩ rfl rfl hl.1 rfl (lv_room (Nat.le_of_ble_eq_true rfl)) d_L_law_1238 ⟨by show 40 + 8 * t + 1 + 0 + 0 ≤ 601024; omega, by show 1400 + 200 * t + 6 + 0 + 0 ≤ 7293034; omega⟩)) (fun r3 hr3 => ?_)
  replace hr3 := hr3.symm; subst hr3
  refine lv_iload hx hb d_L_law_1241 (lv_at hl 1 rfl) ?_
  refine lv_icmp_eq (tgt := 1248) hx hb d_L_law_1243 (by decide) (fun c3 => ?_) (fun c3 => absurd (hk) c3)
  refine lv_iload hx hb d_L_law_1248 (lv_at hl 1 rfl) ?_
  refine lv_if_ne (tgt := 1265) hx hb d_L_law_1250 (by decide) (fun c4 => ?_) (fun c4 => ?_)
  · refine lv_goto (tgt := 1268) hx hb d_L_law_1265 (by decide) ?_
    refine W.widen (k := 40 + 8 * (t + 1)) (n := 1400 + 200 * (t + 1)) (by show 40 + 8 * t + 1 + 0 ≤ 40 + 8 * (t + 1); omega) (by show 1400 + 200 * t + 6 + 0 ≤ 1400 + 200 * (t + 1); omega) ?_
    exact kk H locs ls u1 zw kp fp e0 e1 oF oT kt ft ks fs fc S u2 pn nn sn z18 z19 z20 z21 z24 z26 f1 f4 f5 f6 f7 f8 f9 f10 f11 f12 f13 f15 f16 f17 f22 f23 f25 f27 ln ck hR hP hD hS (lv_sub hl [2, 3, 4, 5, 6] rfl)
  · refine lv_aload_n hx hb d_L_law_1253 rfl (lv_at hl 5 rfl) ?_
    refine lv_iconst (v := 0) hx hb d_L_law_1254 (by decide) ?_
    refine va_lald hx hb hK hP 19 2 rfl rfl (vp_in_nI (n := 0) (by decide) (by decide)) d_L_law_1255 ?_
    rw [show (0 : Int32).toNatClampNeg = 0 from by decide]
    refine lv_iload hx hb d_L_law_1256 (lv_at hl 0 rfl) ?_
    refine lv_i2l hx hb d_L_law_1258 rfl ?_
    rw [hv c4]
    refine W.lcmp hx hb d_L_law_1259 ?_
    refine lv_if_eq (tgt := 1265) hx hb d_L_law_1260 (by decide) (fun c5 => ?_) (fun c5 => absurd (lgc _) c5)
    refine lv_goto (tgt := 1268) hx hb d_L_law_1265 (by decide) ?_
    refine W.widen (k := 40 + 8 * (t + 1)) (n := 1400 + 200 * (t + 1)) (by show 40 + 8 * t + 1 + 0 ≤ 40 + 8 * (t + 1); omega) (by show 1400 + 200 * t + 6 + 0 ≤ 1400 + 200 * (t + 1); omega) ?_
    exact kk H locs ls u1 zw kp fp e0 e1 oF oT kt ft ks fs fc S u2 pn nn sn z18 z19 z20 z21 z24 z26 f1 f4 f5 f6 f7 f8 f9 f10 f11 f12 f13 f15 f16 f17 f22 f23 f25 f27 ln ck hR hP hD hS (lv_sub hl [2, 3, 4, 5, 6] rfl)
