set_option maxHeartbeats 4000000 in
set_option maxRecDepth 100000 in
theorem law_unit {p : Program} {l : Launch} {e : Env} {s : State} {m : MethodId} {below : List Frame} {meth : Method} {c : Code} {b L : Nat} {xs : Nat → Int32} {D : va_G} {T : gT} {κ : gS} {aa : Nat → Nat} {ox o : Nat} {a : Nat → Nat} {t : Nat} {Q : State → Prop} {H : Heap} {locs : List Loc} {ls : Array Slot} {ov : Nat → Int64} {zw : Int32} {kp : Nat} {fp : Nat → Int32} {e0 : Int32} {e1 : Int32} {oF : Bool} {oT : Bool} {kt : Nat} {ft : Nat → Int32} {ks : Nat} {fs : Nat → Int32} {fc : Nat → Int32} {S : tS} {z0 : Int32} {pn : Nat} {nn : Nat} {sn : Nat} {z18 : Int32} {z19 : Int32} {z20 : Int32} {z21 : Int32} {z24 : Int32} {z26 : Int32} {f1 : Nat → Int32} {f4 : Nat → Int32} {f5 : Nat → Int32} {f6 : Nat → Int32} {f7 : Nat → Int32} {f8 : Nat → Int32} {f9 : Nat → Int32} {f10 : Nat → Int32} {f11 : Nat → Int32} {f12 : Nat → Int32} {f13 : Nat → Int32} {f15 : Nat → Int32} {f16 : Nat → Int32} {f17 : Nat → Int32} {f22 : Nat → Int32} {f23 : Nat → Int32} {f25 : Nat → Int32} {f27 : Nat → Int32} {ln : Nat → Nat} {ck : Nat → Nat} (hC : lawC p l s m c b L xs D T κ) (ht : 6 * t + 6 ≤ L) (hR : lawR κ zw kp fp S pn nn sn z18 f1 f4 f5 f6 f7 f8 f9 f10 f11 f12 f13 f15 f16 f17 ln ck) (hP : va_P D gC (mX T o a z0 (nI pn) (nI nn) (nI sn) z18 z19 z20 z21 z24 z26 f1 f4 f5 f6 f7 f8 f9 f10 f11 f12 f13 f15 f16 f17 f22 f23 f25 f27 ++ ([(ox, .inl (T.2.2.1, 1, .inr (.inl ov)))] ++ (cX T aa zw kp fp e0 e1 oF oT kt ft ks fs fc S ++ tl T S))) H) (hD : va_D (fun q : Nat => s.heap.size ≤ q) (mX T o a z0 (nI pn) (nI nn) (nI sn) z18 z19 z20 z21 z24 z26 f1 f4 f5 f6 f7 f8 f9 f10 f11 f12 f13 f15 f16 f17 f22 f23 f25 f27 ++ ([(ox, .inl (T.2.2.1, 1, .inr (.inl ov)))] ++ (cX T aa zw kp fp e0 e1 oF oT kt ft ks fs fc S ++ tl T S)))) (hS : va_S (fun q : Nat => s.heap.size ≤ q) s.heap H locs) (hl : lv_has ls 7 [(0, .ref b), (1, .ref (aa 0)), (2, .ref o), (3, .ref ox), (4, .int (nI (6 * t)))]) (kk : lawK p l e s m below meth c b D T κ aa ox o a t Q) : W p l e room_1 s m #[Value.ref b] below meth c H locs (40 + 8 * t) (1400 + 200 * t) Q (F0 m 128 ls []) := by
  obtain ⟨hl9, hx, hb, hml, hown, hw, hX, hbl, hK, hF, hL⟩ := hC
  have hA : ∀ q : Nat, s.heap.size ≤ q → (fun q : Nat => s.heap.size ≤ q) q := fun _ h => h
  have hbA : ¬ (fun q : Nat => s.heap.size ≤ q) b := Nat.not_le.mpr hbl
  refine lv_aload_n hx hb d_L_law_128 rfl (lv_at hl 1 rfl) ?_
  refine lv_aload_n hx hb d_L_law_129 rfl (lv_at hl 0 rfl) ?_
  refine lv_iload hx hb d_L_law_130 (lv_at hl 4 rfl) ?_
  refine lv_iconst (v := 1) hx hb d_L_law_132 (by decide) ?_
  refine lv_iadd hx hb d_L_law_133 ?_
  rw [nI_1]
  refine va_sld hx hb hX hbl hbA hS (vp_in_nI (n := 6 * t + 1) (by omega) (by omega)) d_L_law_134 ?_
  rw [show (nI (6 * t + 1)).toNatClampNeg = 6 * t + 1 from nI_clamp (by omega)]
  refine lv_aload_n hx hb d_L_law_135 rfl (lv_at hl 3 rfl) ?_
  have hPc : va_P D gC ([(ox, .inl (T.2.2.1, 1, .inr (.inl ov)))] ++ (cX T aa zw kp fp e0 e1 oF oT kt ft ks fs fc S ++ tl T S)) H := hP.rt
  have hDc : va_D (fun q : Nat => s.heap.size ≤ q) ([(ox, .inl (T.2.2.1, 1, .inr (.inl ov)))] ++ (cX T aa zw kp fp e0 e1 oF oT kt ft ks fs fc S ++ tl T S)) := hD.rt
  refine g_blki (B := mX T o a z0 (nI pn) (nI nn) (nI sn) z18 z19 z20 z21 z24 z26 f1 f4 f5 f6 f7 f8 f9 f10 f11 f12 f13 f15 f16 f17 f22 f23 f25 f27) (C := [(ox, .inl (T.2.2.1, 1, .inr (.inl ov)))] ++ (cX T aa zw kp fp e0 e1 oF oT kt ft ks fs fc S ++ tl T S)) (vx_va (vx_runSX (As := [.ref (aa 0), .int (xs (6 * t + 1)), .ref ox]) (rest := []) ⟨hx, hb, hml, hown, hw⟩ (k_L_unit l hl9 D T κ ox ov aa zw kp fp e0 e1 oF oT kt ft ks fs fc S H.size (xs (6 * t + 1)) hR.1.2.1) (vx_cwSW 3 hw (bg_SW ml_L_74 wt_L_unit wz_L wc_L_unit) rfl rfl rfl (by decide +kernel) ⟨Nat.le_of_ble_eq_true rfl, Nat.le_of_ble_eq_true rfl⟩) ⟨qPf_b, qPf_p hPc hK hDc hF hS (g_free hDc hS hA)⟩ rfl rfl hl.1 rfl (lv_room (Nat.le_of_ble_eq_true rfl)) d_L_law_136 ⟨by show 40 + 8 * t + 1 ≤ 601024; omega, by show 1400 + 200 * t + 6 ≤ 7293034; omega⟩)) hP hD hS hA (fun r1 u9 H locs P1 hP hD hS => ?_)
  obtain ⟨u1, u2, u3⟩ := u9
  dsimp only at P1 hP hD
  have hP : va_P D gC (mX T o a z0 (nI pn) (nI nn) (nI sn) z18 z19 z20 z21 z24 z26 f1 f4 f5 f6 f7 f8 f9 f10 f11 f12 f13 f15 f16 f17 f22 f23 f25 f27 ++ ([(ox, .inl (T.2.2.1, 1, .inr (.inl u1)))] ++ (cX T aa zw u2 u3 e0 e1 oF oT kt ft ks fs fc S ++ tl T S))) H := hP
  have hD : va_D (fun q : Nat => s.heap.size ≤ q) (mX T o a z0 (nI pn) (nI nn) (nI sn) z18 z19 z20 z21 z24 z26 f1 f4 f5 f6 f7 f8 f9 f10 f11 f12 f13 f15 f16 f17 f22 f23 f25 f27 ++ ([(ox, .inl (T.2.2.1, 1, .inr (.inl u1)))] ++ (cX T aa zw u2 u3 e0 e1 oF oT kt ft ks fs fc S ++ tl T S))) := hD
  refine lv_istore (lv' := [(5, .int r1), (0, .ref b), (1, .ref (aa 0)), (2, .ref o), (3, .ref ox), (4, .int (nI (6 * t)))]) hx hb d_L_law_139 hl (by decide) rfl (fun ls hl => ?_)
  refine lv_aload_n hx hb d_L_law_141 rfl (lv_at hl 3 rfl) ?_
  refine lv_aload_n hx hb d_L_law_142 rfl (lv_at hl 1 rfl) ?_
  refine lv_iload hx hb d_L_law_143 (lv_at hl 5 rfl) ?_
  refine lv_iconst (v := 1) hx hb d_L_law_145 (by decide) ?_
  refine lv_iadd hx hb d_L_law_146 ?_
  rw [nI_1]
  refine va_sld hx hb hX hbl hbA hS (vp_in_nI (n := 6 * t + 1) (by omega) (by omega)) d_L_law_147 ?_
  rw [show (nI (6 * t + 1)).toNatClampNeg = 6 * t + 1 from nI_clamp (by omega)]
  have hPc : va_P D gC (mX T o a z0 (nI pn) (nI nn) (nI sn) z18 z19 z20 z21 z24 z26 f1 f4 f5 f6 f7 f8 f9 f10 f11 f12 f13 f15 f16 f17 f22 f23 f25 f27) H := hP.lt
  have hDc : va_D (fun q : Nat => s.heap.size ≤ q) (mX T o a z0 (nI pn) (nI nn) (nI sn) z18 z19 z20 z21 z24 z26 f1 f4 f5 f6 f7 f8 f9 f10 f11 f12 f13 f15 f16 f17 f22 f23 f25 f27) := hD.lt
  refine g_blqi (C := mX T o a z0 (nI pn) (nI nn) (nI sn) z18 z19 z20 z21 z24 z26 f1 f4 f5 f6 f7 f8 f9 f10 f11 f12 f13 f15 f16 f17 f22 f23 f25 f27) (B := [(ox, .inl (T.2.2.1, 1, .inr (.inl u1)))] ++ (cX T aa zw u2 u3 e0 e1 oF oT kt ft ks fs fc S ++ tl T S)) (va_runV (As := [.int (xs (6 * t + 1))]) (rest := []) ⟨hx, hb, hml, hown, hw⟩ (k_M_unit l D T o a z0 pn (nI nn) (nI sn) z18 z19 z20 z21 z24 z26 f1 f4 f5 f6 f7 f8 f9 f10 f11 f12 f13 f15 f16 f17 f22 f23 f25 f27 H.size (xs (6 * t + 1)) hR.pn24) (cwV 1 hw (bg_V ml_L_79 wi_M_unit wv_M_unit wz_M wc_M_unit) rfl rfl rfl (by decide +kernel) ⟨Nat.le_of_ble_eq_true rfl, Nat.le_of_ble_eq_true rfl⟩) ⟨qP_b, va_recv hK hPc (ci := 6) (q0 := 0) rfl rfl, qP_p hPc hK hDc⟩ rfl rfl hl.1 rfl (lv_room (Nat.le_of_ble_eq_true rfl)) d_L_law_148 ⟨by show 40 + 8 * t + 1 + 0 ≤ 601024; omega, by show 1400 + 200 * t + 6 + 0 ≤ 7293034; omega⟩) hP hD hS hA (fun r2 u9 H locs P2 hP hD hS => ?_)
  obtain ⟨u4, u5, u6⟩ := u9
  dsimp only at P2 hP hD
  have hP : va_P D gC (mX T o a u4 u5 (nI nn) (nI sn) z18 z19 z20 z21 z24 z26 u6 f4 f5 f6 f7 f8 f9 f10 f11 f12 f13 f15 f16 f17 f22 f23 f25 f27 ++ ([(ox, .inl (T.2.2.1, 1, .inr (.inl u1)))] ++ (cX T aa zw u2 u3 e0 e1 oF oT kt ft ks fs fc S ++ tl T S))) H := hP
  have hD : va_D (fun q : Nat => s.heap.size ≤ q) (mX T o a u4 u5 (nI nn) (nI sn) z18 z19 z20 z21 z24 z26 u6 f4 f5 f6 f7 f8 f9 f10 f11 f12 f13 f15 f16 f17 f22 f23 f25 f27 ++ ([(ox, .inl (T.2.2.1, 1, .inr (.inl u1)))] ++ (cX T aa zw u2 u3 e0 e1 oF oT kt ft ks fs fc S ++ tl T S))) := hD
  obtain ⟨hk, hv, pn9, e0, hR⟩ := tie_unit hR P1 P2
  subst e0
  refine lv_istore (lv' := [(6, .int r2), (5, .int r1), (0, .ref b), (1, .ref (aa 0)), (2, .ref o), (3, .ref ox), (4, .int (nI (6 * t)))]) hx hb d_L_law_151 hl (by decide) rfl (fun ls hl => ?_)
  refine lv_aload_n hx hb d_L_law_153 rfl (lv_at hl 4 rfl) ?_
  have hPc : va_P D gC (mX T o a u4 (nI pn9) (nI nn) (nI sn) z18 z19 z20 z21 z24 z26 u6 f4 f5 f6 f7 f8 f9 f10 f11 f12 f13 f15 f16 f17 f22 f23 f25 f27) H := hP.lt
  refine vp_callSi (va_Run.run (va_runV (As := []) (rest := []) ⟨hx, hb, hml, hown, hw⟩ (k_M_thrown l D T o a u4 (nI pn9) (nI nn) (nI sn) z18 z19 z20 z21 z24 z26 u6 f4 f5 f6 f7 f8 f9 f10 f11 f12 f13 f15 f16 f17 f22 f23 f25 f27) (cwV 0 hw (bg_V ml_L_80 wi_M_thrown wv_M_thrown wz_M wc_M_thrown) rfl rfl rfl (by decide +kernel) ⟨Nat.le_of_ble_eq_true rfl, Nat.le_of_ble_eq_true rfl⟩) ⟨sP_b, va_recv hK hPc (ci := 6) (q0 := 0) rfl rfl, sP_p hPc hK⟩ rfl rfl hl.1 rfl (lv_room (Nat.le_of_ble_eq_true rfl)) d_L_law_154 ⟨by show 40 + 8 * t + 1 + 0 + 0 ≤ 601024; omega, by show 1400 + 200 * t + 6 + 0 + 0 ≤ 7293034; omega⟩)) (fun r3 hr3 => ?_)
  replace hr3 := hr3.symm; subst hr3
  refine lv_iload hx hb d_L_law_157 (lv_at hl 1 rfl) ?_
  refine lv_icmp_eq (tgt := 164) hx hb d_L_law_159 (by decide) (fun c7 => ?_) (fun c7 => absurd (hk) c7)
  refine lv_iload hx hb d_L_law_164 (lv_at hl 1 rfl) ?_
  refine lv_if_ne (tgt := 181) hx hb d_L_law_166 (by decide) (fun c8 => ?_) (fun c8 => ?_)
  · refine lv_goto (tgt := 1268) hx hb d_L_law_181 (by decide) ?_
    refine W.widen (k := 40 + 8 * (t + 1)) (n := 1400 + 200 * (t + 1)) (by show 40 + 8 * t + 1 + 0 ≤ 40 + 8 * (t + 1); omega) (by show 1400 + 200 * t + 6 + 0 ≤ 1400 + 200 * (t + 1); omega) ?_
    exact kk H locs ls u1 zw u2 u3 e0 e1 oF oT kt ft ks fs fc S u4 pn9 nn sn z18 z19 z20 z21 z24 z26 u6 f4 f5 f6 f7 f8 f9 f10 f11 f12 f13 f15 f16 f17 f22 f23 f25 f27 ln ck hR hP hD hS (lv_sub hl [2, 3, 4, 5, 6] rfl)
  · refine lv_aload_n hx hb d_L_law_169 rfl (lv_at hl 5 rfl) ?_
    refine lv_iconst (v := 0) hx hb d_L_law_170 (by decide) ?_
    refine va_lald hx hb hK hP 19 2 rfl rfl (vp_in_nI (n := 0) (by decide) (by decide)) d_L_law_171 ?_
    rw [show (0 : Int32).toNatClampNeg = 0 from by decide]
    refine lv_iload hx hb d_L_law_172 (lv_at hl 0 rfl) ?_
    refine lv_i2l hx hb d_L_law_174 rfl ?_
    rw [hv c8]
    refine W.lcmp hx hb d_L_law_175 ?_
    refine lv_if_eq (tgt := 181) hx hb d_L_law_176 (by decide) (fun c9 => ?_) (fun c9 => absurd (lgc _) c9)
    refine lv_goto (tgt := 1268) hx hb d_L_law_181 (by decide) ?_
    refine W.widen (k := 40 + 8 * (t + 1)) (n := 1400 + 200 * (t + 1)) (by show 40 + 8 * t + 1 + 0 ≤ 40 + 8 * (t + 1); omega) (by show 1400 + 200 * t + 6 + 0 ≤ 1400 + 200 * (t + 1); omega) ?_
    exact kk H locs ls u1 zw u2 u3 e0 e1 oF oT kt ft ks fs fc S u4 pn9 nn sn z18 z19 z20 z21 z24 z26 u6 f4 f5 f6 f7 f8 f9 f10 f11 f12 f13 f15 f16 f17 f22 f23 f25 f27 ln ck hR hP hD hS (lv_sub hl [2, 3, 4, 5, 6] rfl)
