set_option maxHeartbeats 4000000 in
set_option maxRecDepth 100000 in
theorem law_unit {p : Program} {l : Launch} {e : Env} {s : State} {m : MethodId} {below : List Frame} {meth : Method} {c : Code} {b L : Nat} {xs : Nat → Int32} {D : va_G} {T : gT} {κ : gS} {aa : Nat → Nat} {ox o : Nat} {a : Nat → Nat} {t : Nat} {Q : State → Prop} {H : Heap} {locs : List Loc} {ls : Array Slot} {ov : Nat → Int64} {zw : Int32} {kp : Nat} {fp : Nat → Int32} {e0 : Int32} {e1 : Int32} {oF : Bool} {oT : Bool} {kt : Nat} {ft : Nat → Int32} {ks : Nat} {fs : Nat → Int32} {fc : Nat → Int32} {S : tS} {z0 : Int32} {pn : Nat} {nn : Nat} {sn : Nat} {z18 : Int32} {z19 : Int32} {z20 : Int32} {z21 : Int32} {z24 : Int32} {z26 : Int32} {f1 : Nat → Int32} {f4 : Nat → Int32} {f5 : Nat → Int32} {f6 : Nat → Int32} {f7 : Nat → Int32} {f8 : Nat → Int32} {f9 : Nat → Int32} {f10 : Nat → Int32} {f11 : Nat → Int32} {f12 : Nat → Int32} {f13 : Nat → Int32} {f15 : Nat → Int32} {f16 : Nat → Int32} {f17 : Nat → Int32} {f22 : Nat → Int32} {f23 : Nat → Int32} {f25 : Nat → Int32} {f27 : Nat → Int32} {ln : Nat → Nat} {ck : Nat → Nat} (hC : lawC p l s m c b L xs D T κ) (ht : 6 * t + 6 ≤ L) (hR : lawR κ zw kp fp S pn nn sn z18 f1 f4 f5 f6 f7 f8 f9 f10 f11 f12 f13 f15 f16 f17 ln ck) (hP : va_P D gC (mX T o a z0 (nI pn) (nI nn) (nI sn) z18 z19 z20 z21 z24 z26 f1 f4 f5 f6 f7 f8 f9 f10 f11 f12 f13 f15 f16 f17 f22 f23 f25 f27 ++ ([(ox, .inl (T.2.2.1, 1, .inr (.inl ov)))] ++ (cX T aa zw kp fp e0 e1 oF oT kt ft ks fs fc S ++ tl T S))) H) (hD : va_D (fun q : Nat => s.heap.size ≤ q) (mX T o a z0 (nI pn) (nI nn) (nI sn) z18 z19 z20 z21 z24 z26 f1 f4 f5 f6 f7 f8 f9 f10 f11 f12 f13 f15 f16 f17 f22 f23 f25 f27 ++ ([(ox, .inl (T.2.2.1, 1, .inr (.inl ov)))] ++ (cX T aa zw kp fp e0 e1 oF oT kt ft ks fs fc S ++ tl T S)))) (hS : va_S (fun q : Nat => s.heap.size ≤ q) s.heap H locs) (hl : lv_has ls 7 [(0, .ref b), (1, .ref (aa 0)), (2, .ref o), (3, .ref ox), (4, .int (nI (6 * t)))]) (kk : lawK p l e s m below meth c b D T κ aa ox o a t Q) : W p l e room_1 s m #[Value.ref b] below meth c H locs (40 + 8 * t) (1400 + 200 * t) Q (F0 m 128 ls []) := by
  obtain ⟨hl9, hx, hb, hml, hown, hw, hX, hbl, hK, hF, hL⟩ := hC
  have hA : ∀ q : Nat, s.heap.size ≤ q → (fun q : Nat => s.heap.size ≤ q) q := fun _ h => h
  have hbA : ¬ (fun q : Nat => s.heap.size ≤ q) b := Nat.not_le.mpr hbl
  refine lv_aload_n hx hb d_L_law_128 rfl (lv_at hl 1 rfl) ?_
  refine lv_aload_n hx hb d_L_law_129 rfl (lv_at hl 0 rfl) ?_
  refine lv_iload hx hb d_L_law_130 (lv_at hl 4 rfl) ?_
  refine lv_iconst (v := 1) hx hb d_L_law_132 (by decide) ?_
  refine lv_iadd hx hb d_L_law_133 ?_
  rw [nI_1]
  refine va_sld hx hb hX hbl hbA hS (vp_in_nI (n := 6 * t + 1) (by omega) (by omega)) d_L_law_134 ?_
  rw [show (nI (6 * t + 1)).toNatClampNeg = 6 * t + 1 from nI_clamp (by omega)]
  refine lv_aload_n hx hb d_L_law_135 rfl (lv_at hl 3 rfl) ?_
  have hPc : va_P D gC ([(ox, .inl (T.2.2.1, 1, .inr (.inl ov)))] ++ (cX T aa zw kp fp e0 e1 oF oT kt ft ks fs fc S ++ tl T S)) H := hP.rt
  have hDc : va_D (fun q : Nat => s.heap.size ≤ q) ([(ox, .inl (T.2.2.1, 1, .inr (.inl ov)))] ++ (cX T aa zw kp fp e0 e1 oF oT kt ft ks fs fc S ++ tl T S)) := hD.rt
  refine g_blki (B := mX T o a z0 (nI pn) (nI nn) (nI sn) z18 z19 z20 z21 z24 z26 f1 f4 f5 f6 f7 f8 f9 f10 f11 f12 f13 f15 f16 f17 f22 f23 f25 f27) (C := [(ox, .inl (T.2.2.1, 1, .inr (.inl ov)))] ++ (cX T aa zw kp fp e0 e1 oF oT kt ft ks fs fc S ++ tl T S)) (vx_va (vx_runSX (As := [.ref (aa 0), .int (xs (6 * t + 1)), .ref ox]) (rest := []) ⟨hx, hb, hml, hown, hw⟩ (k_L_unit l hl9 D T κ ox ov aa zw kp fp e0 e1 oF oT kt ft ks fs fc S H.size (xs (6 * t + 1)) hR.1.2.1) (vx_cwSW 3 hw (bg_SW ml_L_74 wt_L_unit wz_L wc_L_unit) rfl rfl rfl (by decide +kernel) ⟨Nat.le_of_ble_eq_true rfl, Nat.le_of_ble_eq_true rfl⟩) ⟨qPf_b, qPf_p hPc hK hDc hF hS (g_free hDc hS hA)⟩ rfl rfl hl.1 rfl (lv_room (Nat.le_of_ble_eq_true rfl)) d_L_law_136 ⟨by show 40 + 8 * t + 1 ≤ 601024; omega, by show 1400 + 200 * t + 6 ≤ 7293034; omega⟩)) hP hD hS hA (fun r1 u9 H locs P1 hP hD hS => ?_)
  obtain ⟨u1, u2, u3⟩ := u9
  dsimp only at P1 hP hD
  have hP : va_P D gC (mX T o a z0 (nI pn) (nI nn) (nI sn) z18 z19 z20 z21 z24 z26 f1 f4 f5 f6 f7 f8 f9 f10 f11 f12 f13 f15 f16 f17 f22 f23 f25 f27 ++ ([(ox, .inl (T.2.2.1, 1, .inr (.inl u1)))] ++ (cX T aa zw u2 u3 e0 e1 oF oT kt ft ks fs fc S ++ tl T S))) H := hP
  have hD : va_D (fun q : Nat => s.heap.size ≤ q) (mX T o a z0 (nI pn) (nI nn) (nI sn) z18 z19 z20 z21 z24 z26 f1 f4 f5 f6 f7 f8 f9 f10 f11 f12 f13 f15 f16 f17 f22 f23 f25 f27 ++ ([(ox, .inl (T.2.2.1, 1, .inr (.inl u1)))] ++ (cX T aa zw u2 u3 e0 e1 oF oT kt ft ks fs fc S ++ tl T S))) := hD
  refine lv_istore (lv' := [(5, .int r1), (0, .ref b), (1, .ref (aa 0)), (2, .ref o), (3, .ref ox), (4, .int (nI (6 * t)))]) hx hb d_L_law_139 hl (by decide) rfl (fun ls hl => ?_)
  refine lv_aload_n hx hb d_L_law_141 rfl (lv_at hl 3 rfl) ?_
  refine lv_aload_n hx hb d_L_law_142 rfl (lv_at hl 1 rfl) ?_
  refine lv_iload hx hb d_L_law_143 (lv_at hl 5 rfl) ?_
  refine lv_iconst (v := 1) hx hb d_L_law_145 (by decide) ?_
  refine lv_iadd hx hb d_L_law_146 ?_
  rw [nI_1]
  refine va_sld hx hb hX hbl hbA hS (vp_in_nI (n := 6 * t + 1) (by omega) (by omega)) d_L_law_147 ?_
  rw [show (nI (6 * t + 1)).toNatClampNeg = 6 * t + 1 from nI_clamp (by omega)]
  have hPc : va_P D gC (mX T o a z0 (nI pn) (nI nn) (nI sn) z18 z19 z20 z21 z24 z26 f1 f4 f5 f6 f7 f8 f9 f10 f11 f12 f13 f15 f16 f17 f22 f23 f25 f27) H := hP.lt
  have hDc : va_D (fun q : Nat => s.heap.size ≤ q) (mX T o a z0 (nI pn) (nI nn) (nI sn) z18 z19 z20 z21 z24 z26 f1 f4 f5 f6 f7 f8 f9 f10 f11 f12 f13 f15 f16 f17 f22 f23 f25 f27) := hD.lt
  refine g_blqi (C := mX T o a z0 (nI pn) (nI nn) (nI sn) z18 z19 z20 z21 z24 z26 f1 f4 f5 f6 f7 f8 f9 f10 f11 f12 f13 f15 f16 f17 f22 f23 f25 f27) (B := [(ox, .inl (T.2.2.1, 1, .inr (.inl u1)))] ++ (cX T aa zw u2 u3 e0 e1 oF oT kt ft ks fs fc S ++ tl T S)) (va_runV (As := [.int (xs (6 * t + 1))]) (rest := []) ⟨hx, hb, hml, hown, hw⟩ (k_M_unit l D T o a z0 pn (nI nn) (nI sn) z18 z19 z20 z21 z24 z26 f1 f4 f5 f6 f7 f8 f9 f10 f11 f12 f13 f15 f16 f17 f22 f23 f25 f27 H.size (xs (6 * t + 1)) hR.pn24) (cwV 1 hw (bg_V ml_L_79 wi_M_unit wv_M_unit wz_M wc_M_unit) rfl rfl rfl (by decide +kernel) ⟨Nat.le_of_ble_eq_true rfl, Nat.le_of_ble_eq_true rfl⟩) ⟨qP_b, va_recv hK hPc (ci := 6) (q0 := 0) rfl rfl, qP_p hPc hK hDc⟩ rfl rfl hl.1 rfl (lv_room (Nat.le_of_ble_eq_true rfl)) d_L_law_148 ⟨by show 40 + 8 * t + 1 + 0 ≤ 601024; omega, by show 1400 + 200 * t + 6 + 0 ≤ 7293034; omega⟩) hP hD hS hA (fun r2 u9 H locs P2 hP hD hS => ?_)
  obtain ⟨u4, u5, u6⟩ := u9
  dsimp only at P2 hP hD
  have hP : va_P D gC (mX T o a u4 u5 (nI nn) (nI sn) z18 z19 z20 z21 z24 z26 u6 f4 f5 f6 f7 f8 f9 f10 f11 f12 f13 f15 f16 f17 f22 f23 f25 f27 ++ ([(ox, .inl (T.2.2.1, 1, .inr (.inl u1)))] ++ (cX T aa zw u2 u3 e0 e1 oF oT kt ft ks fs fc S ++ tl T S))) H := hP
  have hD : va_D (fun q : Nat => s.heap.size ≤ q) (mX T o a u4 u5 (nI nn) (nI sn) z18 z19 z20 z21 z24 z26 u6 f4 f5 f6 f7 f8 f9 f10 f11 f12 f13 f15 f16 f17 f22 f23 f25 f27 ++ ([(ox, .inl (T.2.2.1, 1, .inr (.inl u1)))] ++ (cX T aa zw u2 u3 e0 e1 oF oT kt ft ks fs fc S ++ tl T S))) := hD
  obtain ⟨hk, hv, pn9, e0, hR⟩ := tie_unit hR P1 P2
  subst e0
  refine lv_istore (lv' := [(6, .int r2), (5, .int r1), (0, .ref b), (1, .ref (aa 0)), (2, .ref o), (3, .ref ox), (4, .int (nI (6 * t)))]) hx hb d_L_law_151 hl (by decide) rfl (fun ls hl => ?_)
  refine lv_aload_n hx hb d_L_law_153 rfl (lv_at hl 4 rfl) ?_
  have hPc : va_P D gC (mX T o a u4 (nI pn9) (nI nn) (nI sn) z18 z19 z20 z21 z24 z26 u6 f4 f5 f6 f7 f8 f9 f10 f11 f12 f13 f15 f16 f17 f22 f23 f25 f27) H := hP.lt
  refine vp_callSi (va_Run.run (va_runV (As := []) (rest := []) ⟨hx, hb, hml, hown, hw⟩ (k_M_thrown l D T o a u4 (nI pn9) (nI nn) (nI sn) z18 z19 z20 z21 z24 z26 u6 f4 f5 f6 f7 f8 f9 f10 f11 f12 f13 f15 f16 f17 f22 f23 f25 f27) (cwV 0 hw (bg_V ml_L_80 wi_M_thrown wv_M_thrown wz_M wc_M_thrown) rfl rfl rfl (by decide +kernel) ⟨Nat.le_of_ble_eq_true rfl, Nat.le_of_ble_eq_true rfl⟩) ⟨sP_b, va_recv hK hPc (ci := 6) (q0 := 0) rfl rfl, sP_p hPc hK⟩ rfl rfl hl.1 rfl (lv_room (Nat.le_of_ble_eq_true rfl)) d_L_law_154 ⟨by show 40 + 8 * t + 1 + 0 + 0 ≤ 601024; omega, by show 1400 + 200 * t + 6 + 0 + 0 ≤ 7293034; omega⟩)) (fun r3 hr3 => ?_)
  replace hr3 := hr3.symm; subst hr3
  refine lv_iload hx hb d_L_law_157 (lv_at hl 1 rfl) ?_
  refine lv_icmp_eq (tgt := 164) hx hb d_L_law_159 (by decide) (fun c7 => ?_) (fun c7 => absurd (hk) c7)
  refine lv_iload hx hb d_L_law_164 (lv_at hl 1 rfl) ?_
  refine lv_if_ne (tgt := 181) hx hb d_L_law_166 (by decide) (fun c8 => ?_) (fun c8 => ?_)
  · refine lv_goto (tgt := 1268) hx hb d_L_law_181 (by decide) ?_
    refine W.widen (k := 40 + 8 * (t + 1)) (n := 1400 + 200 * (t + 1)) (by show 40 + 8 * t + 1 + 0 ≤ 40 + 8 * (t + 1); omega) (by show 1400 + 200 * t + 6 + 0 ≤ 1400 + 200 * (t + 1); omega) ?_
    exact kk H locs ls u1 zw u2 u3 e0 e1 oF oT kt ft ks fs fc S u4 pn9 nn sn z18 z19 z20 z21 z24 z26 u6 f4 f5 f6 f7 f8 f9 f10 f11 f12 f13 f15 f16 f17 f22 f23 f25 f27 ln ck hR hP hD hS (lv_sub hl [2, 3, 4, 5, 6] rfl)
  · refine lv_aload_n hx hb d_L_law_169 rfl (lv_at hl 5 rfl) ?_
    refine lv_iconst (v := 0) hx hb d_L_law_170 (by decide) ?_
    refine va_lald hx hb hK hP 19 2 rfl rfl (vp_in_nI (n := 0) (by decide) (by decide)) d_L_law_171 ?_
    rw [show (0 : Int32).toNatClampNeg = 0 from by decide]
    refine lv_iload hx hb d_L_law_172 (lv_at hl 0 rfl) ?_
    refine lv_i2l hx hb d_L_law_174 rfl ?_
    rw [hv c8]
    refine W.lcmp hx hb d_L_law_175 ?_
    refine lv_if_eq (tgt := 181) hx hb d_L_law_176 (by decide) (fun c9 => ?_) (fun c9 => absurd (lgc _) c9)
    refine lv_goto (tgt := 1268) hx hb d_L_law_181 (by decide) ?_
    refine W.widen (k := 40 + 8 * (t + 1)) (n := 1400 + 200 * (t + 1)) (by show 40 + 8 * t + 1 + 0 ≤ 40 + 8 * (t + 1); omega) (by show 1400 + 200 * t + 6 + 0 ≤ 1400 + 200 * (t + 1); omega) ?_
    exact kk H locs ls u1 zw u2 u3 e0 e1 oF oT kt ft ks fs fc S u4 pn9 nn sn z18 z19 z20 z21 z24 z26 u6 f4 f5 f6 f7 f8 f9 f10 f11 f12 f13 f15 f16 f17 f22 f23 f25 f27 ln ck hR hP hD hS (lv_sub hl [2, 3, 4, 5, 6] rfl)

set_option maxHeartbeats 4000000 in
set_option maxRecDepth 100000 in
theorem law_clear {p : Program} {l : Launch} {e : Env} {s : State} {m : MethodId} {below : List Frame} {meth : Method} {c : Code} {b L : Nat} {xs : Nat → Int32} {D : va_G} {T : gT} {κ : gS} {aa : Nat → Nat} {ox o : Nat} {a : Nat → Nat} {t : Nat} {Q : State → Prop} {H : Heap} {locs : List Loc} {ls : Array Slot} {ov : Nat → Int64} {zw : Int32} {kp : Nat} {fp : Nat → Int32} {e0 : Int32} {e1 : Int32} {oF : Bool} {oT : Bool} {kt : Nat} {ft : Nat → Int32} {ks : Nat} {fs : Nat → Int32} {fc : Nat → Int32} {S : tS} {z0 : Int32} {pn : Nat} {nn : Nat} {sn : Nat} {z18 : Int32} {z19 : Int32} {z20 : Int32} {z21 : Int32} {z24 : Int32} {z26 : Int32} {f1 : Nat → Int32} {f4 : Nat → Int32} {f5 : Nat → Int32} {f6 : Nat → Int32} {f7 : Nat → Int32} {f8 : Nat → Int32} {f9 : Nat → Int32} {f10 : Nat → Int32} {f11 : Nat → Int32} {f12 : Nat → Int32} {f13 : Nat → Int32} {f15 : Nat → Int32} {f16 : Nat → Int32} {f17 : Nat → Int32} {f22 : Nat → Int32} {f23 : Nat → Int32} {f25 : Nat → Int32} {f27 : Nat → Int32} {ln : Nat → Nat} {ck : Nat → Nat} (hC : lawC p l s m c b L xs D T κ) (ht : 6 * t + 6 ≤ L) (hR : lawR κ zw kp fp S pn nn sn z18 f1 f4 f5 f6 f7 f8 f9 f10 f11 f12 f13 f15 f16 f17 ln ck) (hP : va_P D gC (mX T o a z0 (nI pn) (nI nn) (nI sn) z18 z19 z20 z21 z24 z26 f1 f4 f5 f6 f7 f8 f9 f10 f11 f12 f13 f15 f16 f17 f22 f23 f25 f27 ++ ([(ox, .inl (T.2.2.1, 1, .inr (.inl ov)))] ++ (cX T aa zw kp fp e0 e1 oF oT kt ft ks fs fc S ++ tl T S))) H) (hD : va_D (fun q : Nat => s.heap.size ≤ q) (mX T o a z0 (nI pn) (nI nn) (nI sn) z18 z19 z20 z21 z24 z26 f1 f4 f5 f6 f7 f8 f9 f10 f11 f12 f13 f15 f16 f17 f22 f23 f25 f27 ++ ([(ox, .inl (T.2.2.1, 1, .inr (.inl ov)))] ++ (cX T aa zw kp fp e0 e1 oF oT kt ft ks fs fc S ++ tl T S)))) (hS : va_S (fun q : Nat => s.heap.size ≤ q) s.heap H locs) (hl : lv_has ls 7 [(0, .ref b), (1, .ref (aa 0)), (2, .ref o), (3, .ref ox), (4, .int (nI (6 * t)))]) (kk : lawK p l e s m below meth c b D T κ aa ox o a t Q) : W p l e room_1 s m #[Value.ref b] below meth c H locs (40 + 8 * t) (1400 + 200 * t) Q (F0 m 184 ls []) := by
  obtain ⟨hl9, hx, hb, hml, hown, hw, hX, hbl, hK, hF, hL⟩ := hC
  have hA : ∀ q : Nat, s.heap.size ≤ q → (fun q : Nat => s.heap.size ≤ q) q := fun _ h => h
  have hbA : ¬ (fun q : Nat => s.heap.size ≤ q) b := Nat.not_le.mpr hbl
  refine lv_aload_n hx hb d_L_law_184 rfl (lv_at hl 1 rfl) ?_
  have hP9 : va_P D gC ((mX T o a z0 (nI pn) (nI nn) (nI sn) z18 z19 z20 z21 z24 z26 f1 f4 f5 f6 f7 f8 f9 f10 f11 f12 f13 f15 f16 f17 f22 f23 f25 f27 ++ [(ox, .inl (T.2.2.1, 1, .inr (.inl ov)))]) ++ (cX T aa zw kp fp e0 e1 oF oT kt ft ks fs fc S ++ tl T S)) H := by rw [List.append_assoc]; exact hP
  have hD9 : va_D (fun q : Nat => s.heap.size ≤ q) ((mX T o a z0 (nI pn) (nI nn) (nI sn) z18 z19 z20 z21 z24 z26 f1 f4 f5 f6 f7 f8 f9 f10 f11 f12 f13 f15 f16 f17 f22 f23 f25 f27 ++ [(ox, .inl (T.2.2.1, 1, .inr (.inl ov)))]) ++ (cX T aa zw kp fp e0 e1 oF oT kt ft ks fs fc S ++ tl T S)) := by rw [List.append_assoc]; exact hD
  have hPc : va_P D gC (cX T aa zw kp fp e0 e1 oF oT kt ft ks fs fc S ++ tl T S) H := hP9.rt
  have hDc : va_D (fun q : Nat => s.heap.size ≤ q) (cX T aa zw kp fp e0 e1 oF oT kt ft ks fs fc S ++ tl T S) := hD9.rt
  refine g_blki (B := mX T o a z0 (nI pn) (nI nn) (nI sn) z18 z19 z20 z21 z24 z26 f1 f4 f5 f6 f7 f8 f9 f10 f11 f12 f13 f15 f16 f17 f22 f23 f25 f27 ++ [(ox, .inl (T.2.2.1, 1, .inr (.inl ov)))]) (C := cX T aa zw kp fp e0 e1 oF oT kt ft ks fs fc S ++ tl T S) (va_runV (As := []) (rest := []) ⟨hx, hb, hml, hown, hw⟩ (k_T_clear l D T κ aa zw kp fp e0 e1 oF oT kt ft ks fs fc S H.size) (cwV 0 hw (bg_V ml_L_83 wi_T_clear wv_T_clear wz_T wc_T_clear) rfl rfl rfl (by decide +kernel) ⟨Nat.le_of_ble_eq_true rfl, Nat.le_of_ble_eq_true rfl⟩) ⟨qPf_b, va_recv hK hPc (ci := 5) (q0 := 0) rfl rfl, qPf_p hPc hK hDc hF hS (g_free hDc hS hA)⟩ rfl rfl hl.1 rfl (lv_room (Nat.le_of_ble_eq_true rfl)) d_L_law_185 ⟨by show 40 + 8 * t + 0 ≤ 601024; omega, by show 1400 + 200 * t + 0 ≤ 7293034; omega⟩) hP9 hD9 hS hA (fun r1 u1 H locs P1 hP hD hS => ?_)
  rw [List.append_assoc] at hP hD
  have hP : va_P D gC (mX T o a z0 (nI pn) (nI nn) (nI sn) z18 z19 z20 z21 z24 z26 f1 f4 f5 f6 f7 f8 f9 f10 f11 f12 f13 f15 f16 f17 f22 f23 f25 f27 ++ ([(ox, .inl (T.2.2.1, 1, .inr (.inl ov)))] ++ (cX T aa zw u1 fp e0 e1 oF oT kt ft ks fs fc S ++ tl T S))) H := hP
  have hD : va_D (fun q : Nat => s.heap.size ≤ q) (mX T o a z0 (nI pn) (nI nn) (nI sn) z18 z19 z20 z21 z24 z26 f1 f4 f5 f6 f7 f8 f9 f10 f11 f12 f13 f15 f16 f17 f22 f23 f25 f27 ++ ([(ox, .inl (T.2.2.1, 1, .inr (.inl ov)))] ++ (cX T aa zw u1 fp e0 e1 oF oT kt ft ks fs fc S ++ tl T S))) := hD
  refine lv_aload_n hx hb d_L_law_188 rfl (lv_at hl 2 rfl) ?_
  have hPc : va_P D gC (mX T o a z0 (nI pn) (nI nn) (nI sn) z18 z19 z20 z21 z24 z26 f1 f4 f5 f6 f7 f8 f9 f10 f11 f12 f13 f15 f16 f17 f22 f23 f25 f27) H := hP.lt
  have hDc : va_D (fun q : Nat => s.heap.size ≤ q) (mX T o a z0 (nI pn) (nI nn) (nI sn) z18 z19 z20 z21 z24 z26 f1 f4 f5 f6 f7 f8 f9 f10 f11 f12 f13 f15 f16 f17 f22 f23 f25 f27) := hD.lt
  refine g_blqi (C := mX T o a z0 (nI pn) (nI nn) (nI sn) z18 z19 z20 z21 z24 z26 f1 f4 f5 f6 f7 f8 f9 f10 f11 f12 f13 f15 f16 f17 f22 f23 f25 f27) (B := [(ox, .inl (T.2.2.1, 1, .inr (.inl ov)))] ++ (cX T aa zw u1 fp e0 e1 oF oT kt ft ks fs fc S ++ tl T S)) (va_runV (As := []) (rest := [.int r1]) ⟨hx, hb, hml, hown, hw⟩ (k_M_clear l D T o a z0 (nI pn) (nI nn) (nI sn) z18 z19 z20 z21 z24 z26 f1 f4 f5 f6 f7 f8 f9 f10 f11 f12 f13 f15 f16 f17 f22 f23 f25 f27 H.size) (cwV 0 hw (bg_V ml_L_86 wi_M_clear wv_M_clear wz_M wc_M_clear) rfl rfl rfl (by decide +kernel) ⟨Nat.le_of_ble_eq_true rfl, Nat.le_of_ble_eq_true rfl⟩) ⟨qP_b, va_recv hK hPc (ci := 6) (q0 := 0) rfl rfl, qP_p hPc hK hDc⟩ rfl rfl hl.1 rfl (lv_room (Nat.le_of_ble_eq_true rfl)) d_L_law_189 ⟨by show 40 + 8 * t + 0 + 0 ≤ 601024; omega, by show 1400 + 200 * t + 0 + 0 ≤ 7293034; omega⟩) hP hD hS hA (fun r2 u9 H locs P2 hP hD hS => ?_)
  obtain ⟨u2, u3⟩ := u9
  dsimp only at P2 hP hD
  have hP : va_P D gC (mX T o a u2 u3 (nI nn) (nI sn) z18 z19 z20 z21 z24 z26 f1 f4 f5 f6 f7 f8 f9 f10 f11 f12 f13 f15 f16 f17 f22 f23 f25 f27 ++ ([(ox, .inl (T.2.2.1, 1, .inr (.inl ov)))] ++ (cX T aa zw u1 fp e0 e1 oF oT kt ft ks fs fc S ++ tl T S))) H := hP
  have hD : va_D (fun q : Nat => s.heap.size ≤ q) (mX T o a u2 u3 (nI nn) (nI sn) z18 z19 z20 z21 z24 z26 f1 f4 f5 f6 f7 f8 f9 f10 f11 f12 f13 f15 f16 f17 f22 f23 f25 f27 ++ ([(ox, .inl (T.2.2.1, 1, .inr (.inl ov)))] ++ (cX T aa zw u1 fp e0 e1 oF oT kt ft ks fs fc S ++ tl T S))) := hD
  obtain ⟨p1, p2⟩ := P1
  obtain ⟨p3, p4, p5⟩ := P2
  obtain ⟨hk, hR⟩ := tie_clear hR
  subst p2; subst p4; subst p5
  have hk2 : r1 = r2 := by rw [p1, p3, hk]
  have hP : va_P D gC (mX T o a 0 (nI 0) (nI nn) (nI sn) z18 z19 z20 z21 z24 z26 f1 f4 f5 f6 f7 f8 f9 f10 f11 f12 f13 f15 f16 f17 f22 f23 f25 f27 ++ ([(ox, .inl (T.2.2.1, 1, .inr (.inl ov)))] ++ (cX T aa zw 0 fp e0 e1 oF oT kt ft ks fs fc S ++ tl T S))) H := hP
  have hD : va_D (fun q : Nat => s.heap.size ≤ q) (mX T o a 0 (nI 0) (nI nn) (nI sn) z18 z19 z20 z21 z24 z26 f1 f4 f5 f6 f7 f8 f9 f10 f11 f12 f13 f15 f16 f17 f22 f23 f25 f27 ++ ([(ox, .inl (T.2.2.1, 1, .inr (.inl ov)))] ++ (cX T aa zw 0 fp e0 e1 oF oT kt ft ks fs fc S ++ tl T S))) := hD
  refine lv_icmp_eq (tgt := 1268) hx hb d_L_law_192 (by decide) (fun c4 => ?_) (fun c4 => absurd (hk2) c4)
  refine W.widen (k := 40 + 8 * (t + 1)) (n := 1400 + 200 * (t + 1)) (by show 40 + 8 * t + 0 + 0 ≤ 40 + 8 * (t + 1); omega) (by show 1400 + 200 * t + 0 + 0 ≤ 1400 + 200 * (t + 1); omega) ?_
  exact kk H locs ls ov zw 0 fp e0 e1 oF oT kt ft ks fs fc S 0 0 nn sn z18 z19 z20 z21 z24 z26 f1 f4 f5 f6 f7 f8 f9 f10 f11 f12 f13 f15 f16 f17 f22 f23 f25 f27 ln ck hR hP hD hS (lv_sub hl [0, 1, 2, 3, 4] rfl)

set_option maxHeartbeats 4000000 in
set_option maxRecDepth 100000 in
theorem law_name {p : Program} {l : Launch} {e : Env} {s : State} {m : MethodId} {below : List Frame} {meth : Method} {c : Code} {b L : Nat} {xs : Nat → Int32} {D : va_G} {T : gT} {κ : gS} {aa : Nat → Nat} {ox o : Nat} {a : Nat → Nat} {t : Nat} {Q : State → Prop} {H : Heap} {locs : List Loc} {ls : Array Slot} {ov : Nat → Int64} {zw : Int32} {kp : Nat} {fp : Nat → Int32} {e0 : Int32} {e1 : Int32} {oF : Bool} {oT : Bool} {kt : Nat} {ft : Nat → Int32} {ks : Nat} {fs : Nat → Int32} {fc : Nat → Int32} {S : tS} {z0 : Int32} {pn : Nat} {nn : Nat} {sn : Nat} {z18 : Int32} {z19 : Int32} {z20 : Int32} {z21 : Int32} {z24 : Int32} {z26 : Int32} {f1 : Nat → Int32} {f4 : Nat → Int32} {f5 : Nat → Int32} {f6 : Nat → Int32} {f7 : Nat → Int32} {f8 : Nat → Int32} {f9 : Nat → Int32} {f10 : Nat → Int32} {f11 : Nat → Int32} {f12 : Nat → Int32} {f13 : Nat → Int32} {f15 : Nat → Int32} {f16 : Nat → Int32} {f17 : Nat → Int32} {f22 : Nat → Int32} {f23 : Nat → Int32} {f25 : Nat → Int32} {f27 : Nat → Int32} {ln : Nat → Nat} {ck : Nat → Nat} (hC : lawC p l s m c b L xs D T κ) (ht : 6 * t + 6 ≤ L) (hR : lawR κ zw kp fp S pn nn sn z18 f1 f4 f5 f6 f7 f8 f9 f10 f11 f12 f13 f15 f16 f17 ln ck) (hP : va_P D gC (mX T o a z0 (nI pn) (nI nn) (nI sn) z18 z19 z20 z21 z24 z26 f1 f4 f5 f6 f7 f8 f9 f10 f11 f12 f13 f15 f16 f17 f22 f23 f25 f27 ++ ([(ox, .inl (T.2.2.1, 1, .inr (.inl ov)))] ++ (cX T aa zw kp fp e0 e1 oF oT kt ft ks fs fc S ++ tl T S))) H) (hD : va_D (fun q : Nat => s.heap.size ≤ q) (mX T o a z0 (nI pn) (nI nn) (nI sn) z18 z19 z20 z21 z24 z26 f1 f4 f5 f6 f7 f8 f9 f10 f11 f12 f13 f15 f16 f17 f22 f23 f25 f27 ++ ([(ox, .inl (T.2.2.1, 1, .inr (.inl ov)))] ++ (cX T aa zw kp fp e0 e1 oF oT kt ft ks fs fc S ++ tl T S)))) (hS : va_S (fun q : Nat => s.heap.size ≤ q) s.heap H locs) (hl : lv_has ls 7 [(0, .ref b), (1, .ref (aa 0)), (2, .ref o), (3, .ref ox), (4, .int (nI (6 * t)))]) (kk : lawK p l e s m below meth c b D T κ aa ox o a t Q) : W p l e room_1 s m #[Value.ref b] below meth c H locs (40 + 8 * t) (1400 + 200 * t) Q (F0 m 197 ls []) := by
  obtain ⟨hl9, hx, hb, hml, hown, hw, hX, hbl, hK, hF, hL⟩ := hC
  have hA : ∀ q : Nat, s.heap.size ≤ q → (fun q : Nat => s.heap.size ≤ q) q := fun _ h => h
  have hbA : ¬ (fun q : Nat => s.heap.size ≤ q) b := Nat.not_le.mpr hbl
  refine lv_aload_n hx hb d_L_law_197 rfl (lv_at hl 1 rfl) ?_
  refine lv_aload_n hx hb d_L_law_198 rfl (lv_at hl 3 rfl) ?_
  have hPc : va_P D gC ([(ox, .inl (T.2.2.1, 1, .inr (.inl ov)))] ++ (cX T aa zw kp fp e0 e1 oF oT kt ft ks fs fc S ++ tl T S)) H := hP.rt
  have hDc : va_D (fun q : Nat => s.heap.size ≤ q) ([(ox, .inl (T.2.2.1, 1, .inr (.inl ov)))] ++ (cX T aa zw kp fp e0 e1 oF oT kt ft ks fs fc S ++ tl T S)) := hD.rt
  refine g_blki (B := mX T o a z0 (nI pn) (nI nn) (nI sn) z18 z19 z20 z21 z24 z26 f1 f4 f5 f6 f7 f8 f9 f10 f11 f12 f13 f15 f16 f17 f22 f23 f25 f27) (C := [(ox, .inl (T.2.2.1, 1, .inr (.inl ov)))] ++ (cX T aa zw kp fp e0 e1 oF oT kt ft ks fs fc S ++ tl T S)) (vx_va (vx_runSX (As := [.ref (aa 0), .ref ox]) (rest := []) ⟨hx, hb, hml, hown, hw⟩ (k_L_name l hl9 D T κ ox ov aa zw kp fp e0 e1 oF oT kt ft ks fs fc S H.size hR.1.1 hR.1.2.1) (vx_cwSW 2 hw (bg_SW ml_L_87 wt_L_name wz_L wc_L_name) rfl rfl rfl (by decide +kernel) ⟨Nat.le_of_ble_eq_true rfl, Nat.le_of_ble_eq_true rfl⟩) ⟨qPf_b, qPf_p hPc hK hDc hF hS (g_free hDc hS hA)⟩ rfl rfl hl.1 rfl (lv_room (Nat.le_of_ble_eq_true rfl)) d_L_law_199 ⟨by show 40 + 8 * t + 5 ≤ 601024; omega, by show 1400 + 200 * t + 106 ≤ 7293034; omega⟩)) hP hD hS hA (fun r1 u9 H locs P1 hP hD hS => ?_)
  obtain ⟨u1, u2, u3⟩ := u9
  dsimp only at P1 hP hD
  have hP : va_P D gC (mX T o a z0 (nI pn) (nI nn) (nI sn) z18 z19 z20 z21 z24 z26 f1 f4 f5 f6 f7 f8 f9 f10 f11 f12 f13 f15 f16 f17 f22 f23 f25 f27 ++ ([(ox, .inl (T.2.2.1, 1, .inr (.inl u1)))] ++ (cX T aa zw u2 fp e0 e1 oF oT kt ft ks fs fc u3 ++ tl T u3))) H := hP
  have hD : va_D (fun q : Nat => s.heap.size ≤ q) (mX T o a z0 (nI pn) (nI nn) (nI sn) z18 z19 z20 z21 z24 z26 f1 f4 f5 f6 f7 f8 f9 f10 f11 f12 f13 f15 f16 f17 f22 f23 f25 f27 ++ ([(ox, .inl (T.2.2.1, 1, .inr (.inl u1)))] ++ (cX T aa zw u2 fp e0 e1 oF oT kt ft ks fs fc u3 ++ tl T u3))) := hD
  refine lv_istore (lv' := [(5, .int r1), (0, .ref b), (1, .ref (aa 0)), (2, .ref o), (3, .ref ox), (4, .int (nI (6 * t)))]) hx hb d_L_law_202 hl (by decide) rfl (fun ls hl => ?_)
  refine lv_aload_n hx hb d_L_law_204 rfl (lv_at hl 3 rfl) ?_
  have hPc : va_P D gC (mX T o a z0 (nI pn) (nI nn) (nI sn) z18 z19 z20 z21 z24 z26 f1 f4 f5 f6 f7 f8 f9 f10 f11 f12 f13 f15 f16 f17 f22 f23 f25 f27) H := hP.lt
  have hDc : va_D (fun q : Nat => s.heap.size ≤ q) (mX T o a z0 (nI pn) (nI nn) (nI sn) z18 z19 z20 z21 z24 z26 f1 f4 f5 f6 f7 f8 f9 f10 f11 f12 f13 f15 f16 f17 f22 f23 f25 f27) := hD.lt
  refine g_blqi (C := mX T o a z0 (nI pn) (nI nn) (nI sn) z18 z19 z20 z21 z24 z26 f1 f4 f5 f6 f7 f8 f9 f10 f11 f12 f13 f15 f16 f17 f22 f23 f25 f27) (B := [(ox, .inl (T.2.2.1, 1, .inr (.inl u1)))] ++ (cX T aa zw u2 fp e0 e1 oF oT kt ft ks fs fc u3 ++ tl T u3)) (va_runV (As := []) (rest := []) ⟨hx, hb, hml, hown, hw⟩ (k_M_name l D T o a z0 pn nn (nI sn) z18 z19 z20 z21 z24 z26 f1 f4 f5 f6 f7 f8 f9 f10 f11 f12 f13 f15 f16 f17 f22 f23 f25 f27 H.size ln hR.pn24 hR.nn24 hR.2.1.2.2.2.2.1 hR.2.1.2.2.2.2.2.1) (cwV 0 hw (bg_V ml_L_90 wi_M_name wv_M_name wz_M wc_M_name) rfl rfl rfl (by decide +kernel) ⟨Nat.le_of_ble_eq_true rfl, Nat.le_of_ble_eq_true rfl⟩) ⟨qP_b, va_recv hK hPc (ci := 6) (q0 := 0) rfl rfl, qP_p hPc hK hDc⟩ rfl rfl hl.1 rfl (lv_room (Nat.le_of_ble_eq_true rfl)) d_L_law_205 ⟨by show 40 + 8 * t + 5 + 0 ≤ 601024; omega, by show 1400 + 200 * t + 106 + 0 ≤ 7293034; omega⟩) hP hD hS hA (fun r2 u9 H locs P2 hP hD hS => ?_)
  obtain ⟨u4, u5, u6, u7, u8⟩ := u9
  dsimp only at P2 hP hD
  have hP : va_P D gC (mX T o a u4 u5 u6 (nI sn) z18 z19 z20 z21 z24 z26 f1 u7 u8 f6 f7 f8 f9 f10 f11 f12 f13 f15 f16 f17 f22 f23 f25 f27 ++ ([(ox, .inl (T.2.2.1, 1, .inr (.inl u1)))] ++ (cX T aa zw u2 fp e0 e1 oF oT kt ft ks fs fc u3 ++ tl T u3))) H := hP
  have hD : va_D (fun q : Nat => s.heap.size ≤ q) (mX T o a u4 u5 u6 (nI sn) z18 z19 z20 z21 z24 z26 f1 u7 u8 f6 f7 f8 f9 f10 f11 f12 f13 f15 f16 f17 f22 f23 f25 f27 ++ ([(ox, .inl (T.2.2.1, 1, .inr (.inl u1)))] ++ (cX T aa zw u2 fp e0 e1 oF oT kt ft ks fs fc u3 ++ tl T u3))) := hD
  obtain ⟨hk, hv, pn9, nn9, ln9, e0, e1, hR⟩ := tie_name hR P1 P2
  subst e0
  subst e1
  refine lv_istore (lv' := [(6, .int r2), (5, .int r1), (0, .ref b), (1, .ref (aa 0)), (2, .ref o), (3, .ref ox), (4, .int (nI (6 * t)))]) hx hb d_L_law_208 hl (by decide) rfl (fun ls hl => ?_)
  refine lv_aload_n hx hb d_L_law_210 rfl (lv_at hl 4 rfl) ?_
  have hPc : va_P D gC (mX T o a u4 (nI pn9) (nI nn9) (nI sn) z18 z19 z20 z21 z24 z26 f1 u7 u8 f6 f7 f8 f9 f10 f11 f12 f13 f15 f16 f17 f22 f23 f25 f27) H := hP.lt
  refine vp_callSi (va_Run.run (va_runV (As := []) (rest := []) ⟨hx, hb, hml, hown, hw⟩ (k_M_thrown l D T o a u4 (nI pn9) (nI nn9) (nI sn) z18 z19 z20 z21 z24 z26 f1 u7 u8 f6 f7 f8 f9 f10 f11 f12 f13 f15 f16 f17 f22 f23 f25 f27) (cwV 0 hw (bg_V ml_L_80 wi_M_thrown wv_M_thrown wz_M wc_M_thrown) rfl rfl rfl (by decide +kernel) ⟨Nat.le_of_ble_eq_true rfl, Nat.le_of_ble_eq_true rfl⟩) ⟨sP_b, va_recv hK hPc (ci := 6) (q0 := 0) rfl rfl, sP_p hPc hK⟩ rfl rfl hl.1 rfl (lv_room (Nat.le_of_ble_eq_true rfl)) d_L_law_211 ⟨by show 40 + 8 * t + 5 + 0 + 0 ≤ 601024; omega, by show 1400 + 200 * t + 106 + 0 + 0 ≤ 7293034; omega⟩)) (fun r3 hr3 => ?_)
  replace hr3 := hr3.symm; subst hr3
  refine lv_iload hx hb d_L_law_214 (lv_at hl 1 rfl) ?_
  refine lv_icmp_eq (tgt := 221) hx hb d_L_law_216 (by decide) (fun c9 => ?_) (fun c9 => absurd (hk) c9)
  refine lv_iload hx hb d_L_law_221 (lv_at hl 1 rfl) ?_
  refine lv_if_ne (tgt := 238) hx hb d_L_law_223 (by decide) (fun c10 => ?_) (fun c10 => ?_)
  · refine lv_goto (tgt := 1268) hx hb d_L_law_238 (by decide) ?_
    refine W.widen (k := 40 + 8 * (t + 1)) (n := 1400 + 200 * (t + 1)) (by show 40 + 8 * t + 5 + 0 ≤ 40 + 8 * (t + 1); omega) (by show 1400 + 200 * t + 106 + 0 ≤ 1400 + 200 * (t + 1); omega) ?_
    exact kk H locs ls u1 zw u2 fp e0 e1 oF oT kt ft ks fs fc u3 u4 pn9 nn9 sn z18 z19 z20 z21 z24 z26 f1 u7 u8 f6 f7 f8 f9 f10 f11 f12 f13 f15 f16 f17 f22 f23 f25 f27 ln9 ck hR hP hD hS (lv_sub hl [2, 3, 4, 5, 6] rfl)
  · refine lv_aload_n hx hb d_L_law_226 rfl (lv_at hl 5 rfl) ?_
    refine lv_iconst (v := 0) hx hb d_L_law_227 (by decide) ?_
    refine va_lald hx hb hK hP 19 2 rfl rfl (vp_in_nI (n := 0) (by decide) (by decide)) d_L_law_228 ?_
    rw [show (0 : Int32).toNatClampNeg = 0 from by decide]
    refine lv_iload hx hb d_L_law_229 (lv_at hl 0 rfl) ?_
    refine lv_i2l hx hb d_L_law_231 rfl ?_
    rw [hv c10]
    refine W.lcmp hx hb d_L_law_232 ?_
    refine lv_if_eq (tgt := 238) hx hb d_L_law_233 (by decide) (fun c11 => ?_) (fun c11 => absurd (lgc _) c11)
    refine lv_goto (tgt := 1268) hx hb d_L_law_238 (by decide) ?_
    refine W.widen (k := 40 + 8 * (t + 1)) (n := 1400 + 200 * (t + 1)) (by show 40 + 8 * t + 5 + 0 ≤ 40 + 8 * (t + 1); omega) (by show 1400 + 200 * t + 106 + 0 ≤ 1400 + 200 * (t + 1); omega) ?_
    exact kk H locs ls u1 zw u2 fp e0 e1 oF oT kt ft ks fs fc u3 u4 pn9 nn9 sn z18 z19 z20 z21 z24 z26 f1 u7 u8 f6 f7 f8 f9 f10 f11 f12 f13 f15 f16 f17 f22 f23 f25 f27 ln9 ck hR hP hD hS (lv_sub hl [2, 3, 4, 5, 6] rfl)

set_option maxHeartbeats 4000000 in
set_option maxRecDepth 100000 in
theorem law_reign {p : Program} {l : Launch} {e : Env} {s : State} {m : MethodId} {below : List Frame} {meth : Method} {c : Code} {b L : Nat} {xs : Nat → Int32} {D : va_G} {T : gT} {κ : gS} {aa : Nat → Nat} {ox o : Nat} {a : Nat → Nat} {t : Nat} {Q : State → Prop} {H : Heap} {locs : List Loc} {ls : Array Slot} {ov : Nat → Int64} {zw : Int32} {kp : Nat} {fp : Nat → Int32} {e0 : Int32} {e1 : Int32} {oF : Bool} {oT : Bool} {kt : Nat} {ft : Nat → Int32} {ks : Nat} {fs : Nat → Int32} {fc : Nat → Int32} {S : tS} {z0 : Int32} {pn : Nat} {nn : Nat} {sn : Nat} {z18 : Int32} {z19 : Int32} {z20 : Int32} {z21 : Int32} {z24 : Int32} {z26 : Int32} {f1 : Nat → Int32} {f4 : Nat → Int32} {f5 : Nat → Int32} {f6 : Nat → Int32} {f7 : Nat → Int32} {f8 : Nat → Int32} {f9 : Nat → Int32} {f10 : Nat → Int32} {f11 : Nat → Int32} {f12 : Nat → Int32} {f13 : Nat → Int32} {f15 : Nat → Int32} {f16 : Nat → Int32} {f17 : Nat → Int32} {f22 : Nat → Int32} {f23 : Nat → Int32} {f25 : Nat → Int32} {f27 : Nat → Int32} {ln : Nat → Nat} {ck : Nat → Nat} (hC : lawC p l s m c b L xs D T κ) (ht : 6 * t + 6 ≤ L) (hR : lawR κ zw kp fp S pn nn sn z18 f1 f4 f5 f6 f7 f8 f9 f10 f11 f12 f13 f15 f16 f17 ln ck) (hP : va_P D gC (mX T o a z0 (nI pn) (nI nn) (nI sn) z18 z19 z20 z21 z24 z26 f1 f4 f5 f6 f7 f8 f9 f10 f11 f12 f13 f15 f16 f17 f22 f23 f25 f27 ++ ([(ox, .inl (T.2.2.1, 1, .inr (.inl ov)))] ++ (cX T aa zw kp fp e0 e1 oF oT kt ft ks fs fc S ++ tl T S))) H) (hD : va_D (fun q : Nat => s.heap.size ≤ q) (mX T o a z0 (nI pn) (nI nn) (nI sn) z18 z19 z20 z21 z24 z26 f1 f4 f5 f6 f7 f8 f9 f10 f11 f12 f13 f15 f16 f17 f22 f23 f25 f27 ++ ([(ox, .inl (T.2.2.1, 1, .inr (.inl ov)))] ++ (cX T aa zw kp fp e0 e1 oF oT kt ft ks fs fc S ++ tl T S)))) (hS : va_S (fun q : Nat => s.heap.size ≤ q) s.heap H locs) (hl : lv_has ls 7 [(0, .ref b), (1, .ref (aa 0)), (2, .ref o), (3, .ref ox), (4, .int (nI (6 * t)))]) (kk : lawK p l e s m below meth c b D T κ aa ox o a t Q) : W p l e room_1 s m #[Value.ref b] below meth c H locs (40 + 8 * t) (1400 + 200 * t) Q (F0 m 241 ls []) := by
  obtain ⟨hl9, hx, hb, hml, hown, hw, hX, hbl, hK, hF, hL⟩ := hC
  have hA : ∀ q : Nat, s.heap.size ≤ q → (fun q : Nat => s.heap.size ≤ q) q := fun _ h => h
  have hbA : ¬ (fun q : Nat => s.heap.size ≤ q) b := Nat.not_le.mpr hbl
  refine lv_aload_n hx hb d_L_law_241 rfl (lv_at hl 1 rfl) ?_
  refine lv_aload_n hx hb d_L_law_242 rfl (lv_at hl 0 rfl) ?_
  refine lv_iload hx hb d_L_law_243 (lv_at hl 4 rfl) ?_
  refine lv_iconst (v := 1) hx hb d_L_law_245 (by decide) ?_
  refine lv_iadd hx hb d_L_law_246 ?_
  rw [nI_1]
  refine va_sld hx hb hX hbl hbA hS (vp_in_nI (n := 6 * t + 1) (by omega) (by omega)) d_L_law_247 ?_
  rw [show (nI (6 * t + 1)).toNatClampNeg = 6 * t + 1 from nI_clamp (by omega)]
  refine lv_aload_n hx hb d_L_law_248 rfl (lv_at hl 0 rfl) ?_
  refine lv_iload hx hb d_L_law_249 (lv_at hl 4 rfl) ?_
  refine lv_iconst (v := 2) hx hb d_L_law_251 (by decide) ?_
  refine lv_iadd hx hb d_L_law_252 ?_
  rw [show (nI (6 * t)) + 2 = nI (6 * t + 2) from nI_add (6 * t) 2]
  refine va_sld hx hb hX hbl hbA hS (vp_in_nI (n := 6 * t + 2) (by omega) (by omega)) d_L_law_253 ?_
  rw [show (nI (6 * t + 2)).toNatClampNeg = 6 * t + 2 from nI_clamp (by omega)]
  refine lv_aload_n hx hb d_L_law_254 rfl (lv_at hl 0 rfl) ?_
  refine lv_iload hx hb d_L_law_255 (lv_at hl 4 rfl) ?_
  refine lv_iconst (v := 3) hx hb d_L_law_257 (by decide) ?_
  refine lv_iadd hx hb d_L_law_258 ?_
  rw [show (nI (6 * t)) + 3 = nI (6 * t + 3) from nI_add (6 * t) 3]
  refine va_sld hx hb hX hbl hbA hS (vp_in_nI (n := 6 * t + 3) (by omega) (by omega)) d_L_law_259 ?_
  rw [show (nI (6 * t + 3)).toNatClampNeg = 6 * t + 3 from nI_clamp (by omega)]
  refine lv_aload_n hx hb d_L_law_260 rfl (lv_at hl 3 rfl) ?_
  have hPc : va_P D gC ([(ox, .inl (T.2.2.1, 1, .inr (.inl ov)))] ++ (cX T aa zw kp fp e0 e1 oF oT kt ft ks fs fc S ++ tl T S)) H := hP.rt
  have hDc : va_D (fun q : Nat => s.heap.size ≤ q) ([(ox, .inl (T.2.2.1, 1, .inr (.inl ov)))] ++ (cX T aa zw kp fp e0 e1 oF oT kt ft ks fs fc S ++ tl T S)) := hD.rt
  refine g_blki (B := mX T o a z0 (nI pn) (nI nn) (nI sn) z18 z19 z20 z21 z24 z26 f1 f4 f5 f6 f7 f8 f9 f10 f11 f12 f13 f15 f16 f17 f22 f23 f25 f27) (C := [(ox, .inl (T.2.2.1, 1, .inr (.inl ov)))] ++ (cX T aa zw kp fp e0 e1 oF oT kt ft ks fs fc S ++ tl T S)) (vx_va (vx_runSX (As := [.ref (aa 0), .int (xs (6 * t + 1)), .int (xs (6 * t + 2)), .int (xs (6 * t + 3)), .ref ox]) (rest := []) ⟨hx, hb, hml, hown, hw⟩ (k_L_reign l hl9 D T κ ox ov aa zw kp fp e0 e1 oF oT kt ft ks fs fc S H.size (xs (6 * t + 1)) (xs (6 * t + 2)) (xs (6 * t + 3)) hR.1.1) (vx_cwSW 5 hw (bg_SW ml_L_91 wt_L_reign wz_L wc_L_reign) rfl rfl rfl (by decide +kernel) ⟨Nat.le_of_ble_eq_true rfl, Nat.le_of_ble_eq_true rfl⟩) ⟨qPf_b, qPf_p hPc hK hDc hF hS (g_free hDc hS hA)⟩ rfl rfl hl.1 rfl (lv_room (Nat.le_of_ble_eq_true rfl)) d_L_law_261 ⟨by show 40 + 8 * t + 1 ≤ 601024; omega, by show 1400 + 200 * t + 6 ≤ 7293034; omega⟩)) hP hD hS hA (fun r1 u9 H locs P1 hP hD hS => ?_)
  obtain ⟨u1, u2⟩ := u9
  dsimp only at P1 hP hD
  have hP : va_P D gC (mX T o a z0 (nI pn) (nI nn) (nI sn) z18 z19 z20 z21 z24 z26 f1 f4 f5 f6 f7 f8 f9 f10 f11 f12 f13 f15 f16 f17 f22 f23 f25 f27 ++ ([(ox, .inl (T.2.2.1, 1, .inr (.inl u1)))] ++ (cX T aa zw kp fp e0 e1 oF oT kt ft ks fs fc u2 ++ tl T u2))) H := hP
  have hD : va_D (fun q : Nat => s.heap.size ≤ q) (mX T o a z0 (nI pn) (nI nn) (nI sn) z18 z19 z20 z21 z24 z26 f1 f4 f5 f6 f7 f8 f9 f10 f11 f12 f13 f15 f16 f17 f22 f23 f25 f27 ++ ([(ox, .inl (T.2.2.1, 1, .inr (.inl u1)))] ++ (cX T aa zw kp fp e0 e1 oF oT kt ft ks fs fc u2 ++ tl T u2))) := hD
  refine lv_istore (lv' := [(5, .int r1), (0, .ref b), (1, .ref (aa 0)), (2, .ref o), (3, .ref ox), (4, .int (nI (6 * t)))]) hx hb d_L_law_264 hl (by decide) rfl (fun ls hl => ?_)
  refine lv_aload_n hx hb d_L_law_266 rfl (lv_at hl 3 rfl) ?_
  refine lv_aload_n hx hb d_L_law_267 rfl (lv_at hl 1 rfl) ?_
  refine lv_iload hx hb d_L_law_268 (lv_at hl 5 rfl) ?_
  refine lv_iconst (v := 1) hx hb d_L_law_270 (by decide) ?_
  refine lv_iadd hx hb d_L_law_271 ?_
  rw [nI_1]
  refine va_sld hx hb hX hbl hbA hS (vp_in_nI (n := 6 * t + 1) (by omega) (by omega)) d_L_law_272 ?_
  rw [show (nI (6 * t + 1)).toNatClampNeg = 6 * t + 1 from nI_clamp (by omega)]
  refine lv_aload_n hx hb d_L_law_273 rfl (lv_at hl 1 rfl) ?_
  refine lv_iload hx hb d_L_law_274 (lv_at hl 5 rfl) ?_
  refine lv_iconst (v := 2) hx hb d_L_law_276 (by decide) ?_
  refine lv_iadd hx hb d_L_law_277 ?_
  rw [show (nI (6 * t)) + 2 = nI (6 * t + 2) from nI_add (6 * t) 2]
  refine va_sld hx hb hX hbl hbA hS (vp_in_nI (n := 6 * t + 2) (by omega) (by omega)) d_L_law_278 ?_
  rw [show (nI (6 * t + 2)).toNatClampNeg = 6 * t + 2 from nI_clamp (by omega)]
  refine lv_aload_n hx hb d_L_law_279 rfl (lv_at hl 1 rfl) ?_
  refine lv_iload hx hb d_L_law_280 (lv_at hl 5 rfl) ?_
  refine lv_iconst (v := 3) hx hb d_L_law_282 (by decide) ?_
  refine lv_iadd hx hb d_L_law_283 ?_
  rw [show (nI (6 * t)) + 3 = nI (6 * t + 3) from nI_add (6 * t) 3]
  refine va_sld hx hb hX hbl hbA hS (vp_in_nI (n := 6 * t + 3) (by omega) (by omega)) d_L_law_284 ?_
  rw [show (nI (6 * t + 3)).toNatClampNeg = 6 * t + 3 from nI_clamp (by omega)]
  have hPc : va_P D gC (mX T o a z0 (nI pn) (nI nn) (nI sn) z18 z19 z20 z21 z24 z26 f1 f4 f5 f6 f7 f8 f9 f10 f11 f12 f13 f15 f16 f17 f22 f23 f25 f27) H := hP.lt
  have hDc : va_D (fun q : Nat => s.heap.size ≤ q) (mX T o a z0 (nI pn) (nI nn) (nI sn) z18 z19 z20 z21 z24 z26 f1 f4 f5 f6 f7 f8 f9 f10 f11 f12 f13 f15 f16 f17 f22 f23 f25 f27) := hD.lt
  refine g_blqi (C := mX T o a z0 (nI pn) (nI nn) (nI sn) z18 z19 z20 z21 z24 z26 f1 f4 f5 f6 f7 f8 f9 f10 f11 f12 f13 f15 f16 f17 f22 f23 f25 f27) (B := [(ox, .inl (T.2.2.1, 1, .inr (.inl u1)))] ++ (cX T aa zw kp fp e0 e1 oF oT kt ft ks fs fc u2 ++ tl T u2)) (va_runV (As := [.int (xs (6 * t + 1)), .int (xs (6 * t + 2)), .int (xs (6 * t + 3))]) (rest := []) ⟨hx, hb, hml, hown, hw⟩ (k_M_reign l D T o a z0 (nI pn) nn (nI sn) z18 z19 z20 z21 z24 z26 f1 f4 f5 f6 f7 f8 f9 f10 f11 f12 f13 f15 f16 f17 f22 f23 f25 f27 H.size (xs (6 * t + 1)) (xs (6 * t + 2)) (xs (6 * t + 3)) hR.nn24) (cwV 3 hw (bg_V ml_L_94 wi_M_reign wv_M_reign wz_M wc_M_reign) rfl rfl rfl (by decide +kernel) ⟨Nat.le_of_ble_eq_true rfl, Nat.le_of_ble_eq_true rfl⟩) ⟨qP_b, va_recv hK hPc (ci := 6) (q0 := 0) rfl rfl, qP_p hPc hK hDc⟩ rfl rfl hl.1 rfl (lv_room (Nat.le_of_ble_eq_true rfl)) d_L_law_285 ⟨by show 40 + 8 * t + 1 + 0 ≤ 601024; omega, by show 1400 + 200 * t + 6 + 0 ≤ 7293034; omega⟩) hP hD hS hA (fun r2 u9 H locs P2 hP hD hS => ?_)
  obtain ⟨u3, u4, u5, u6⟩ := u9
  dsimp only at P2 hP hD
  have hP : va_P D gC (mX T o a u3 (nI pn) (nI nn) (nI sn) z18 z19 z20 z21 z24 z26 f1 f4 f5 u4 u5 u6 f9 f10 f11 f12 f13 f15 f16 f17 f22 f23 f25 f27 ++ ([(ox, .inl (T.2.2.1, 1, .inr (.inl u1)))] ++ (cX T aa zw kp fp e0 e1 oF oT kt ft ks fs fc u2 ++ tl T u2))) H := hP
  have hD : va_D (fun q : Nat => s.heap.size ≤ q) (mX T o a u3 (nI pn) (nI nn) (nI sn) z18 z19 z20 z21 z24 z26 f1 f4 f5 u4 u5 u6 f9 f10 f11 f12 f13 f15 f16 f17 f22 f23 f25 f27 ++ ([(ox, .inl (T.2.2.1, 1, .inr (.inl u1)))] ++ (cX T aa zw kp fp e0 e1 oF oT kt ft ks fs fc u2 ++ tl T u2))) := hD
  obtain ⟨hk, hv, hR⟩ := tie_reign hR P1 P2
  refine lv_istore (lv' := [(6, .int r2), (5, .int r1), (0, .ref b), (1, .ref (aa 0)), (2, .ref o), (3, .ref ox), (4, .int (nI (6 * t)))]) hx hb d_L_law_288 hl (by decide) rfl (fun ls hl => ?_)
  refine lv_aload_n hx hb d_L_law_290 rfl (lv_at hl 4 rfl) ?_
  have hPc : va_P D gC (mX T o a u3 (nI pn) (nI nn) (nI sn) z18 z19 z20 z21 z24 z26 f1 f4 f5 u4 u5 u6 f9 f10 f11 f12 f13 f15 f16 f17 f22 f23 f25 f27) H := hP.lt
  refine vp_callSi (va_Run.run (va_runV (As := []) (rest := []) ⟨hx, hb, hml, hown, hw⟩ (k_M_thrown l D T o a u3 (nI pn) (nI nn) (nI sn) z18 z19 z20 z21 z24 z26 f1 f4 f5 u4 u5 u6 f9 f10 f11 f12 f13 f15 f16 f17 f22 f23 f25 f27) (cwV 0 hw (bg_V ml_L_80 wi_M_thrown wv_M_thrown wz_M wc_M_thrown) rfl rfl rfl (by decide +kernel) ⟨Nat.le_of_ble_eq_true rfl, Nat.le_of_ble_eq_true rfl⟩) ⟨sP_b, va_recv hK hPc (ci := 6) (q0 := 0) rfl rfl, sP_p hPc hK⟩ rfl rfl hl.1 rfl (lv_room (Nat.le_of_ble_eq_true rfl)) d_L_law_291 ⟨by show 40 + 8 * t + 1 + 0 + 0 ≤ 601024; omega, by show 1400 + 200 * t + 6 + 0 + 0 ≤ 7293034; omega⟩)) (fun r3 hr3 => ?_)
  replace hr3 := hr3.symm; subst hr3
  refine lv_iload hx hb d_L_law_294 (lv_at hl 1 rfl) ?_
  refine lv_icmp_eq (tgt := 301) hx hb d_L_law_296 (by decide) (fun c7 => ?_) (fun c7 => absurd (hk) c7)
  refine lv_iload hx hb d_L_law_301 (lv_at hl 1 rfl) ?_
  refine lv_if_ne (tgt := 325) hx hb d_L_law_303 (by decide) (fun c8 => ?_) (fun c8 => ?_)
  · refine lv_goto (tgt := 1268) hx hb d_L_law_325 (by decide) ?_
    refine W.widen (k := 40 + 8 * (t + 1)) (n := 1400 + 200 * (t + 1)) (by show 40 + 8 * t + 1 + 0 ≤ 40 + 8 * (t + 1); omega) (by show 1400 + 200 * t + 6 + 0 ≤ 1400 + 200 * (t + 1); omega) ?_
    exact kk H locs ls u1 zw kp fp e0 e1 oF oT kt ft ks fs fc u2 u3 pn nn sn z18 z19 z20 z21 z24 z26 f1 f4 f5 u4 u5 u6 f9 f10 f11 f12 f13 f15 f16 f17 f22 f23 f25 f27 ln ck hR hP hD hS (lv_sub hl [2, 3, 4, 5, 6] rfl)
  · refine lv_aload_n hx hb d_L_law_306 rfl (lv_at hl 5 rfl) ?_
    refine lv_iconst (v := 0) hx hb d_L_law_307 (by decide) ?_
    refine va_lald hx hb hK hP 19 2 rfl rfl (vp_in_nI (n := 0) (by decide) (by decide)) d_L_law_308 ?_
    rw [show (0 : Int32).toNatClampNeg = 0 from by decide]
    refine lv_iload hx hb d_L_law_309 (lv_at hl 0 rfl) ?_
    refine lv_if_eq (tgt := 318) hx hb d_L_law_311 (by decide) (fun c9 => ?_) (fun c9 => ?_)
    · refine lv_lconst (v := 0) hx hb d_L_law_318 (by decide) ?_
      rw [hv c8, if_pos c9]
      refine W.lcmp hx hb d_L_law_319 ?_
      refine lv_if_eq (tgt := 325) hx hb d_L_law_320 (by decide) (fun c10 => ?_) (fun c10 => absurd (lgc _) c10)
      refine lv_goto (tgt := 1268) hx hb d_L_law_325 (by decide) ?_
      refine W.widen (k := 40 + 8 * (t + 1)) (n := 1400 + 200 * (t + 1)) (by show 40 + 8 * t + 1 + 0 ≤ 40 + 8 * (t + 1); omega) (by show 1400 + 200 * t + 6 + 0 ≤ 1400 + 200 * (t + 1); omega) ?_
      exact kk H locs ls u1 zw kp fp e0 e1 oF oT kt ft ks fs fc u2 u3 pn nn sn z18 z19 z20 z21 z24 z26 f1 f4 f5 u4 u5 u6 f9 f10 f11 f12 f13 f15 f16 f17 f22 f23 f25 f27 ln ck hR hP hD hS (lv_sub hl [2, 3, 4, 5, 6] rfl)
    · refine lv_lconst (v := 1) hx hb d_L_law_314 (by decide) ?_
      refine lv_goto (tgt := 319) hx hb d_L_law_315 (by decide) ?_
      rw [hv c8, if_neg c9]
      refine W.lcmp hx hb d_L_law_319 ?_
      refine lv_if_eq (tgt := 325) hx hb d_L_law_320 (by decide) (fun c11 => ?_) (fun c11 => absurd (lgc _) c11)
      refine lv_goto (tgt := 1268) hx hb d_L_law_325 (by decide) ?_
      refine W.widen (k := 40 + 8 * (t + 1)) (n := 1400 + 200 * (t + 1)) (by show 40 + 8 * t + 1 + 0 ≤ 40 + 8 * (t + 1); omega) (by show 1400 + 200 * t + 6 + 0 ≤ 1400 + 200 * (t + 1); omega) ?_
      exact kk H locs ls u1 zw kp fp e0 e1 oF oT kt ft ks fs fc u2 u3 pn nn sn z18 z19 z20 z21 z24 z26 f1 f4 f5 u4 u5 u6 f9 f10 f11 f12 f13 f15 f16 f17 f22 f23 f25 f27 ln ck hR hP hD hS (lv_sub hl [2, 3, 4, 5, 6] rfl)

set_option maxHeartbeats 4000000 in
set_option maxRecDepth 100000 in
theorem law_phase {p : Program} {l : Launch} {e : Env} {s : State} {m : MethodId} {below : List Frame} {meth : Method} {c : Code} {b L : Nat} {xs : Nat → Int32} {D : va_G} {T : gT} {κ : gS} {aa : Nat → Nat} {ox o : Nat} {a : Nat → Nat} {t : Nat} {Q : State → Prop} {H : Heap} {locs : List Loc} {ls : Array Slot} {ov : Nat → Int64} {zw : Int32} {kp : Nat} {fp : Nat → Int32} {e0 : Int32} {e1 : Int32} {oF : Bool} {oT : Bool} {kt : Nat} {ft : Nat → Int32} {ks : Nat} {fs : Nat → Int32} {fc : Nat → Int32} {S : tS} {z0 : Int32} {pn : Nat} {nn : Nat} {sn : Nat} {z18 : Int32} {z19 : Int32} {z20 : Int32} {z21 : Int32} {z24 : Int32} {z26 : Int32} {f1 : Nat → Int32} {f4 : Nat → Int32} {f5 : Nat → Int32} {f6 : Nat → Int32} {f7 : Nat → Int32} {f8 : Nat → Int32} {f9 : Nat → Int32} {f10 : Nat → Int32} {f11 : Nat → Int32} {f12 : Nat → Int32} {f13 : Nat → Int32} {f15 : Nat → Int32} {f16 : Nat → Int32} {f17 : Nat → Int32} {f22 : Nat → Int32} {f23 : Nat → Int32} {f25 : Nat → Int32} {f27 : Nat → Int32} {ln : Nat → Nat} {ck : Nat → Nat} (hC : lawC p l s m c b L xs D T κ) (ht : 6 * t + 6 ≤ L) (hR : lawR κ zw kp fp S pn nn sn z18 f1 f4 f5 f6 f7 f8 f9 f10 f11 f12 f13 f15 f16 f17 ln ck) (hP : va_P D gC (mX T o a z0 (nI pn) (nI nn) (nI sn) z18 z19 z20 z21 z24 z26 f1 f4 f5 f6 f7 f8 f9 f10 f11 f12 f13 f15 f16 f17 f22 f23 f25 f27 ++ ([(ox, .inl (T.2.2.1, 1, .inr (.inl ov)))] ++ (cX T aa zw kp fp e0 e1 oF oT kt ft ks fs fc S ++ tl T S))) H) (hD : va_D (fun q : Nat => s.heap.size ≤ q) (mX T o a z0 (nI pn) (nI nn) (nI sn) z18 z19 z20 z21 z24 z26 f1 f4 f5 f6 f7 f8 f9 f10 f11 f12 f13 f15 f16 f17 f22 f23 f25 f27 ++ ([(ox, .inl (T.2.2.1, 1, .inr (.inl ov)))] ++ (cX T aa zw kp fp e0 e1 oF oT kt ft ks fs fc S ++ tl T S)))) (hS : va_S (fun q : Nat => s.heap.size ≤ q) s.heap H locs) (hl : lv_has ls 7 [(0, .ref b), (1, .ref (aa 0)), (2, .ref o), (3, .ref ox), (4, .int (nI (6 * t)))]) (kk : lawK p l e s m below meth c b D T κ aa ox o a t Q) : W p l e room_1 s m #[Value.ref b] below meth c H locs (40 + 8 * t) (1400 + 200 * t) Q (F0 m 328 ls []) := by
  obtain ⟨hl9, hx, hb, hml, hown, hw, hX, hbl, hK, hF, hL⟩ := hC
  have hA : ∀ q : Nat, s.heap.size ≤ q → (fun q : Nat => s.heap.size ≤ q) q := fun _ h => h
  have hbA : ¬ (fun q : Nat => s.heap.size ≤ q) b := Nat.not_le.mpr hbl
  refine lv_aload_n hx hb d_L_law_328 rfl (lv_at hl 1 rfl) ?_
  refine lv_aload_n hx hb d_L_law_329 rfl (lv_at hl 0 rfl) ?_
  refine lv_iload hx hb d_L_law_330 (lv_at hl 4 rfl) ?_
  refine lv_iconst (v := 1) hx hb d_L_law_332 (by decide) ?_
  refine lv_iadd hx hb d_L_law_333 ?_
  rw [nI_1]
  refine va_sld hx hb hX hbl hbA hS (vp_in_nI (n := 6 * t + 1) (by omega) (by omega)) d_L_law_334 ?_
  rw [show (nI (6 * t + 1)).toNatClampNeg = 6 * t + 1 from nI_clamp (by omega)]
  refine lv_aload_n hx hb d_L_law_335 rfl (lv_at hl 0 rfl) ?_
  refine lv_iload hx hb d_L_law_336 (lv_at hl 4 rfl) ?_
  refine lv_iconst (v := 2) hx hb d_L_law_338 (by decide) ?_
  refine lv_iadd hx hb d_L_law_339 ?_
  rw [show (nI (6 * t)) + 2 = nI (6 * t + 2) from nI_add (6 * t) 2]
  refine va_sld hx hb hX hbl hbA hS (vp_in_nI (n := 6 * t + 2) (by omega) (by omega)) d_L_law_340 ?_
  rw [show (nI (6 * t + 2)).toNatClampNeg = 6 * t + 2 from nI_clamp (by omega)]
  refine lv_aload_n hx hb d_L_law_341 rfl (lv_at hl 0 rfl) ?_
  refine lv_iload hx hb d_L_law_342 (lv_at hl 4 rfl) ?_
  refine lv_iconst (v := 3) hx hb d_L_law_344 (by decide) ?_
  refine lv_iadd hx hb d_L_law_345 ?_
  rw [show (nI (6 * t)) + 3 = nI (6 * t + 3) from nI_add (6 * t) 3]
  refine va_sld hx hb hX hbl hbA hS (vp_in_nI (n := 6 * t + 3) (by omega) (by omega)) d_L_law_346 ?_
  rw [show (nI (6 * t + 3)).toNatClampNeg = 6 * t + 3 from nI_clamp (by omega)]
  refine lv_aload_n hx hb d_L_law_347 rfl (lv_at hl 0 rfl) ?_
  refine lv_iload hx hb d_L_law_348 (lv_at hl 4 rfl) ?_
  refine lv_iconst (v := 4) hx hb d_L_law_350 (by decide) ?_
  refine lv_iadd hx hb d_L_law_351 ?_
  rw [show (nI (6 * t)) + 4 = nI (6 * t + 4) from nI_add (6 * t) 4]
  refine va_sld hx hb hX hbl hbA hS (vp_in_nI (n := 6 * t + 4) (by omega) (by omega)) d_L_law_352 ?_
  rw [show (nI (6 * t + 4)).toNatClampNeg = 6 * t + 4 from nI_clamp (by omega)]
  refine lv_aload_n hx hb d_L_law_353 rfl (lv_at hl 0 rfl) ?_
  refine lv_iload hx hb d_L_law_354 (lv_at hl 4 rfl) ?_
  refine lv_iconst (v := 5) hx hb d_L_law_356 (by decide) ?_
  refine lv_iadd hx hb d_L_law_357 ?_
  rw [show (nI (6 * t)) + 5 = nI (6 * t + 5) from nI_add (6 * t) 5]
  refine va_sld hx hb hX hbl hbA hS (vp_in_nI (n := 6 * t + 5) (by omega) (by omega)) d_L_law_358 ?_
  rw [show (nI (6 * t + 5)).toNatClampNeg = 6 * t + 5 from nI_clamp (by omega)]
  refine lv_aload_n hx hb d_L_law_359 rfl (lv_at hl 3 rfl) ?_
  have hPc : va_P D gC ([(ox, .inl (T.2.2.1, 1, .inr (.inl ov)))] ++ (cX T aa zw kp fp e0 e1 oF oT kt ft ks fs fc S ++ tl T S)) H := hP.rt
  have hDc : va_D (fun q : Nat => s.heap.size ≤ q) ([(ox, .inl (T.2.2.1, 1, .inr (.inl ov)))] ++ (cX T aa zw kp fp e0 e1 oF oT kt ft ks fs fc S ++ tl T S)) := hD.rt
  refine g_blki (B := mX T o a z0 (nI pn) (nI nn) (nI sn) z18 z19 z20 z21 z24 z26 f1 f4 f5 f6 f7 f8 f9 f10 f11 f12 f13 f15 f16 f17 f22 f23 f25 f27) (C := [(ox, .inl (T.2.2.1, 1, .inr (.inl ov)))] ++ (cX T aa zw kp fp e0 e1 oF oT kt ft ks fs fc S ++ tl T S)) (vx_va (vx_runSX (As := [.ref (aa 0), .int (xs (6 * t + 1)), .int (xs (6 * t + 2)), .int (xs (6 * t + 3)), .int (xs (6 * t + 4)), .int (xs (6 * t + 5)), .ref ox]) (rest := []) ⟨hx, hb, hml, hown, hw⟩ (k_L_phase l hl9 D T κ ox ov aa zw kp fp e0 e1 oF oT kt ft ks fs fc S H.size (xs (6 * t + 1)) (xs (6 * t + 2)) (xs (6 * t + 3)) (xs (6 * t + 4)) (xs (6 * t + 5)) hR.1.1) (vx_cwSW 7 hw (bg_SW ml_L_95 wt_L_phase wz_L wc_L_phase) rfl rfl rfl (by decide +kernel) ⟨Nat.le_of_ble_eq_true rfl, Nat.le_of_ble_eq_true rfl⟩) ⟨qPf_b, qPf_p hPc hK hDc hF hS (g_free hDc hS hA)⟩ rfl rfl hl.1 rfl (lv_room (Nat.le_of_ble_eq_true rfl)) d_L_law_360 ⟨by show 40 + 8 * t + 3 ≤ 601024; omega, by show 1400 + 200 * t + 97 ≤ 7293034; omega⟩)) hP hD hS hA (fun r1 u9 H locs P1 hP hD hS => ?_)
  obtain ⟨u1, u2⟩ := u9
  dsimp only at P1 hP hD
  have hP : va_P D gC (mX T o a z0 (nI pn) (nI nn) (nI sn) z18 z19 z20 z21 z24 z26 f1 f4 f5 f6 f7 f8 f9 f10 f11 f12 f13 f15 f16 f17 f22 f23 f25 f27 ++ ([(ox, .inl (T.2.2.1, 1, .inr (.inl u1)))] ++ (cX T aa zw kp fp e0 e1 oF oT kt ft ks fs fc u2 ++ tl T u2))) H := hP
  have hD : va_D (fun q : Nat => s.heap.size ≤ q) (mX T o a z0 (nI pn) (nI nn) (nI sn) z18 z19 z20 z21 z24 z26 f1 f4 f5 f6 f7 f8 f9 f10 f11 f12 f13 f15 f16 f17 f22 f23 f25 f27 ++ ([(ox, .inl (T.2.2.1, 1, .inr (.inl u1)))] ++ (cX T aa zw kp fp e0 e1 oF oT kt ft ks fs fc u2 ++ tl T u2))) := hD
  refine lv_istore (lv' := [(5, .int r1), (0, .ref b), (1, .ref (aa 0)), (2, .ref o), (3, .ref ox), (4, .int (nI (6 * t)))]) hx hb d_L_law_363 hl (by decide) rfl (fun ls hl => ?_)
  refine lv_aload_n hx hb d_L_law_365 rfl (lv_at hl 3 rfl) ?_
  refine lv_aload_n hx hb d_L_law_366 rfl (lv_at hl 1 rfl) ?_
  refine lv_iload hx hb d_L_law_367 (lv_at hl 5 rfl) ?_
  refine lv_iconst (v := 1) hx hb d_L_law_369 (by decide) ?_
  refine lv_iadd hx hb d_L_law_370 ?_
  rw [nI_1]
  refine va_sld hx hb hX hbl hbA hS (vp_in_nI (n := 6 * t + 1) (by omega) (by omega)) d_L_law_371 ?_
  rw [show (nI (6 * t + 1)).toNatClampNeg = 6 * t + 1 from nI_clamp (by omega)]
  refine lv_aload_n hx hb d_L_law_372 rfl (lv_at hl 1 rfl) ?_
  refine lv_iload hx hb d_L_law_373 (lv_at hl 5 rfl) ?_
  refine lv_iconst (v := 2) hx hb d_L_law_375 (by decide) ?_
  refine lv_iadd hx hb d_L_law_376 ?_
  rw [show (nI (6 * t)) + 2 = nI (6 * t + 2) from nI_add (6 * t) 2]
  refine va_sld hx hb hX hbl hbA hS (vp_in_nI (n := 6 * t + 2) (by omega) (by omega)) d_L_law_377 ?_
  rw [show (nI (6 * t + 2)).toNatClampNeg = 6 * t + 2 from nI_clamp (by omega)]
  refine lv_aload_n hx hb d_L_law_378 rfl (lv_at hl 1 rfl) ?_
  refine lv_iload hx hb d_L_law_379 (lv_at hl 5 rfl) ?_
  refine lv_iconst (v := 3) hx hb d_L_law_381 (by decide) ?_
  refine lv_iadd hx hb d_L_law_382 ?_
  rw [show (nI (6 * t)) + 3 = nI (6 * t + 3) from nI_add (6 * t) 3]
  refine va_sld hx hb hX hbl hbA hS (vp_in_nI (n := 6 * t + 3) (by omega) (by omega)) d_L_law_383 ?_
  rw [show (nI (6 * t + 3)).toNatClampNeg = 6 * t + 3 from nI_clamp (by omega)]
  refine lv_aload_n hx hb d_L_law_384 rfl (lv_at hl 1 rfl) ?_
  refine lv_iload hx hb d_L_law_385 (lv_at hl 5 rfl) ?_
  refine lv_iconst (v := 4) hx hb d_L_law_387 (by decide) ?_
  refine lv_iadd hx hb d_L_law_388 ?_
  rw [show (nI (6 * t)) + 4 = nI (6 * t + 4) from nI_add (6 * t) 4]
  refine va_sld hx hb hX hbl hbA hS (vp_in_nI (n := 6 * t + 4) (by omega) (by omega)) d_L_law_389 ?_
  rw [show (nI (6 * t + 4)).toNatClampNeg = 6 * t + 4 from nI_clamp (by omega)]
  refine lv_aload_n hx hb d_L_law_390 rfl (lv_at hl 1 rfl) ?_
  refine lv_iload hx hb d_L_law_391 (lv_at hl 5 rfl) ?_
  refine lv_iconst (v := 5) hx hb d_L_law_393 (by decide) ?_
  refine lv_iadd hx hb d_L_law_394 ?_
  rw [show (nI (6 * t)) + 5 = nI (6 * t + 5) from nI_add (6 * t) 5]
  refine va_sld hx hb hX hbl hbA hS (vp_in_nI (n := 6 * t + 5) (by omega) (by omega)) d_L_law_395 ?_
  rw [show (nI (6 * t + 5)).toNatClampNeg = 6 * t + 5 from nI_clamp (by omega)]
  have hPc : va_P D gC (mX T o a z0 (nI pn) (nI nn) (nI sn) z18 z19 z20 z21 z24 z26 f1 f4 f5 f6 f7 f8 f9 f10 f11 f12 f13 f15 f16 f17 f22 f23 f25 f27) H := hP.lt
  have hDc : va_D (fun q : Nat => s.heap.size ≤ q) (mX T o a z0 (nI pn) (nI nn) (nI sn) z18 z19 z20 z21 z24 z26 f1 f4 f5 f6 f7 f8 f9 f10 f11 f12 f13 f15 f16 f17 f22 f23 f25 f27) := hD.lt
  refine g_blqi (C := mX T o a z0 (nI pn) (nI nn) (nI sn) z18 z19 z20 z21 z24 z26 f1 f4 f5 f6 f7 f8 f9 f10 f11 f12 f13 f15 f16 f17 f22 f23 f25 f27) (B := [(ox, .inl (T.2.2.1, 1, .inr (.inl u1)))] ++ (cX T aa zw kp fp e0 e1 oF oT kt ft ks fs fc u2 ++ tl T u2)) (va_runV (As := [.int (xs (6 * t + 1)), .int (xs (6 * t + 2)), .int (xs (6 * t + 3)), .int (xs (6 * t + 4)), .int (xs (6 * t + 5))]) (rest := []) ⟨hx, hb, hml, hown, hw⟩ (k_M_phase l D T o a z0 (nI pn) nn (nI sn) z18 z19 z20 z21 z24 z26 f1 f4 f5 f6 f7 f8 f9 f10 f11 f12 f13 f15 f16 f17 f22 f23 f25 f27 H.size (xs (6 * t + 1)) (xs (6 * t + 2)) (xs (6 * t + 3)) (xs (6 * t + 4)) (xs (6 * t + 5)) ck hR.nn24 hR.2.1.2.2.2.2.2.2.1 hR.2.1.2.2.2.2.2.2.2.1) (cwV 5 hw (bg_V ml_L_98 wi_M_phase wv_M_phase wz_M wc_M_phase) rfl rfl rfl (by decide +kernel) ⟨Nat.le_of_ble_eq_true rfl, Nat.le_of_ble_eq_true rfl⟩) ⟨qP_b, va_recv hK hPc (ci := 6) (q0 := 0) rfl rfl, qP_p hPc hK hDc⟩ rfl rfl hl.1 rfl (lv_room (Nat.le_of_ble_eq_true rfl)) d_L_law_396 ⟨by show 40 + 8 * t + 3 + 0 ≤ 601024; omega, by show 1400 + 200 * t + 97 + 0 ≤ 7293034; omega⟩) hP hD hS hA (fun r2 u9 H locs P2 hP hD hS => ?_)
  obtain ⟨u3, u4, u5, u6, u7, u8⟩ := u9
  dsimp only at P2 hP hD
  have hP : va_P D gC (mX T o a u3 (nI pn) (nI nn) (nI sn) z18 z19 z20 z21 z24 z26 f1 f4 f5 f6 f7 f8 u4 u5 u6 u7 u8 f15 f16 f17 f22 f23 f25 f27 ++ ([(ox, .inl (T.2.2.1, 1, .inr (.inl u1)))] ++ (cX T aa zw kp fp e0 e1 oF oT kt ft ks fs fc u2 ++ tl T u2))) H := hP
  have hD : va_D (fun q : Nat => s.heap.size ≤ q) (mX T o a u3 (nI pn) (nI nn) (nI sn) z18 z19 z20 z21 z24 z26 f1 f4 f5 f6 f7 f8 u4 u5 u6 u7 u8 f15 f16 f17 f22 f23 f25 f27 ++ ([(ox, .inl (T.2.2.1, 1, .inr (.inl u1)))] ++ (cX T aa zw kp fp e0 e1 oF oT kt ft ks fs fc u2 ++ tl T u2))) := hD
  obtain ⟨hk, hv, ck9, hR⟩ := tie_phase hR P1 P2
  refine lv_istore (lv' := [(6, .int r2), (5, .int r1), (0, .ref b), (1, .ref (aa 0)), (2, .ref o), (3, .ref ox), (4, .int (nI (6 * t)))]) hx hb d_L_law_399 hl (by decide) rfl (fun ls hl => ?_)
  refine lv_aload_n hx hb d_L_law_401 rfl (lv_at hl 4 rfl) ?_
  have hPc : va_P D gC (mX T o a u3 (nI pn) (nI nn) (nI sn) z18 z19 z20 z21 z24 z26 f1 f4 f5 f6 f7 f8 u4 u5 u6 u7 u8 f15 f16 f17 f22 f23 f25 f27) H := hP.lt
  refine vp_callSi (va_Run.run (va_runV (As := []) (rest := []) ⟨hx, hb, hml, hown, hw⟩ (k_M_thrown l D T o a u3 (nI pn) (nI nn) (nI sn) z18 z19 z20 z21 z24 z26 f1 f4 f5 f6 f7 f8 u4 u5 u6 u7 u8 f15 f16 f17 f22 f23 f25 f27) (cwV 0 hw (bg_V ml_L_80 wi_M_thrown wv_M_thrown wz_M wc_M_thrown) rfl rfl rfl (by decide +kernel) ⟨Nat.le_of_ble_eq_true rfl, Nat.le_of_ble_eq_true rfl⟩) ⟨sP_b, va_recv hK hPc (ci := 6) (q0 := 0) rfl rfl, sP_p hPc hK⟩ rfl rfl hl.1 rfl (lv_room (Nat.le_of_ble_eq_true rfl)) d_L_law_402 ⟨by show 40 + 8 * t + 3 + 0 + 0 ≤ 601024; omega, by show 1400 + 200 * t + 97 + 0 + 0 ≤ 7293034; omega⟩)) (fun r3 hr3 => ?_)
  replace hr3 := hr3.symm; subst hr3
  refine lv_iload hx hb d_L_law_405 (lv_at hl 1 rfl) ?_
  refine lv_icmp_eq (tgt := 412) hx hb d_L_law_407 (by decide) (fun c9 => ?_) (fun c9 => absurd (hk) c9)
  refine lv_iload hx hb d_L_law_412 (lv_at hl 1 rfl) ?_
  refine lv_if_ne (tgt := 429) hx hb d_L_law_414 (by decide) (fun c10 => ?_) (fun c10 => ?_)
  · refine lv_goto (tgt := 1268) hx hb d_L_law_429 (by decide) ?_
    refine W.widen (k := 40 + 8 * (t + 1)) (n := 1400 + 200 * (t + 1)) (by show 40 + 8 * t + 3 + 0 ≤ 40 + 8 * (t + 1); omega) (by show 1400 + 200 * t + 97 + 0 ≤ 1400 + 200 * (t + 1); omega) ?_
    exact kk H locs ls u1 zw kp fp e0 e1 oF oT kt ft ks fs fc u2 u3 pn nn sn z18 z19 z20 z21 z24 z26 f1 f4 f5 f6 f7 f8 u4 u5 u6 u7 u8 f15 f16 f17 f22 f23 f25 f27 ln ck9 hR hP hD hS (lv_sub hl [2, 3, 4, 5, 6] rfl)
  · refine lv_aload_n hx hb d_L_law_417 rfl (lv_at hl 5 rfl) ?_
    refine lv_iconst (v := 0) hx hb d_L_law_418 (by decide) ?_
    refine va_lald hx hb hK hP 19 2 rfl rfl (vp_in_nI (n := 0) (by decide) (by decide)) d_L_law_419 ?_
    rw [show (0 : Int32).toNatClampNeg = 0 from by decide]
    refine lv_iload hx hb d_L_law_420 (lv_at hl 0 rfl) ?_
    refine lv_i2l hx hb d_L_law_422 rfl ?_
    rw [hv c10]
    refine W.lcmp hx hb d_L_law_423 ?_
    refine lv_if_eq (tgt := 429) hx hb d_L_law_424 (by decide) (fun c11 => ?_) (fun c11 => absurd (lgc _) c11)
    refine lv_goto (tgt := 1268) hx hb d_L_law_429 (by decide) ?_
    refine W.widen (k := 40 + 8 * (t + 1)) (n := 1400 + 200 * (t + 1)) (by show 40 + 8 * t + 3 + 0 ≤ 40 + 8 * (t + 1); omega) (by show 1400 + 200 * t + 97 + 0 ≤ 1400 + 200 * (t + 1); omega) ?_
    exact kk H locs ls u1 zw kp fp e0 e1 oF oT kt ft ks fs fc u2 u3 pn nn sn z18 z19 z20 z21 z24 z26 f1 f4 f5 f6 f7 f8 u4 u5 u6 u7 u8 f15 f16 f17 f22 f23 f25 f27 ln ck9 hR hP hD hS (lv_sub hl [2, 3, 4, 5, 6] rfl)

set_option maxHeartbeats 4000000 in
set_option maxRecDepth 100000 in
theorem law_width {p : Program} {l : Launch} {e : Env} {s : State} {m : MethodId} {below : List Frame} {meth : Method} {c : Code} {b L : Nat} {xs : Nat → Int32} {D : va_G} {T : gT} {κ : gS} {aa : Nat → Nat} {ox o : Nat} {a : Nat → Nat} {t : Nat} {Q : State → Prop} {H : Heap} {locs : List Loc} {ls : Array Slot} {ov : Nat → Int64} {zw : Int32} {kp : Nat} {fp : Nat → Int32} {e0 : Int32} {e1 : Int32} {oF : Bool} {oT : Bool} {kt : Nat} {ft : Nat → Int32} {ks : Nat} {fs : Nat → Int32} {fc : Nat → Int32} {S : tS} {z0 : Int32} {pn : Nat} {nn : Nat} {sn : Nat} {z18 : Int32} {z19 : Int32} {z20 : Int32} {z21 : Int32} {z24 : Int32} {z26 : Int32} {f1 : Nat → Int32} {f4 : Nat → Int32} {f5 : Nat → Int32} {f6 : Nat → Int32} {f7 : Nat → Int32} {f8 : Nat → Int32} {f9 : Nat → Int32} {f10 : Nat → Int32} {f11 : Nat → Int32} {f12 : Nat → Int32} {f13 : Nat → Int32} {f15 : Nat → Int32} {f16 : Nat → Int32} {f17 : Nat → Int32} {f22 : Nat → Int32} {f23 : Nat → Int32} {f25 : Nat → Int32} {f27 : Nat → Int32} {ln : Nat → Nat} {ck : Nat → Nat} (hC : lawC p l s m c b L xs D T κ) (ht : 6 * t + 6 ≤ L) (hR : lawR κ zw kp fp S pn nn sn z18 f1 f4 f5 f6 f7 f8 f9 f10 f11 f12 f13 f15 f16 f17 ln ck) (hP : va_P D gC (mX T o a z0 (nI pn) (nI nn) (nI sn) z18 z19 z20 z21 z24 z26 f1 f4 f5 f6 f7 f8 f9 f10 f11 f12 f13 f15 f16 f17 f22 f23 f25 f27 ++ ([(ox, .inl (T.2.2.1, 1, .inr (.inl ov)))] ++ (cX T aa zw kp fp e0 e1 oF oT kt ft ks fs fc S ++ tl T S))) H) (hD : va_D (fun q : Nat => s.heap.size ≤ q) (mX T o a z0 (nI pn) (nI nn) (nI sn) z18 z19 z20 z21 z24 z26 f1 f4 f5 f6 f7 f8 f9 f10 f11 f12 f13 f15 f16 f17 f22 f23 f25 f27 ++ ([(ox, .inl (T.2.2.1, 1, .inr (.inl ov)))] ++ (cX T aa zw kp fp e0 e1 oF oT kt ft ks fs fc S ++ tl T S)))) (hS : va_S (fun q : Nat => s.heap.size ≤ q) s.heap H locs) (hl : lv_has ls 7 [(0, .ref b), (1, .ref (aa 0)), (2, .ref o), (3, .ref ox), (4, .int (nI (6 * t)))]) (kk : lawK p l e s m below meth c b D T κ aa ox o a t Q) : W p l e room_1 s m #[Value.ref b] below meth c H locs (40 + 8 * t) (1400 + 200 * t) Q (F0 m 432 ls []) := by
  obtain ⟨hl9, hx, hb, hml, hown, hw, hX, hbl, hK, hF, hL⟩ := hC
  have hA : ∀ q : Nat, s.heap.size ≤ q → (fun q : Nat => s.heap.size ≤ q) q := fun _ h => h
  have hbA : ¬ (fun q : Nat => s.heap.size ≤ q) b := Nat.not_le.mpr hbl
  refine lv_aload_n hx hb d_L_law_432 rfl (lv_at hl 1 rfl) ?_
  refine lv_aload_n hx hb d_L_law_433 rfl (lv_at hl 0 rfl) ?_
  refine lv_iload hx hb d_L_law_434 (lv_at hl 4 rfl) ?_
  refine lv_iconst (v := 1) hx hb d_L_law_436 (by decide) ?_
  refine lv_iadd hx hb d_L_law_437 ?_
  rw [nI_1]
  refine va_sld hx hb hX hbl hbA hS (vp_in_nI (n := 6 * t + 1) (by omega) (by omega)) d_L_law_438 ?_
  rw [show (nI (6 * t + 1)).toNatClampNeg = 6 * t + 1 from nI_clamp (by omega)]
  refine lv_aload_n hx hb d_L_law_439 rfl (lv_at hl 3 rfl) ?_
  have hPc : va_P D gC ([(ox, .inl (T.2.2.1, 1, .inr (.inl ov)))] ++ (cX T aa zw kp fp e0 e1 oF oT kt ft ks fs fc S ++ tl T S)) H := hP.rt
  have hDc : va_D (fun q : Nat => s.heap.size ≤ q) ([(ox, .inl (T.2.2.1, 1, .inr (.inl ov)))] ++ (cX T aa zw kp fp e0 e1 oF oT kt ft ks fs fc S ++ tl T S)) := hD.rt
  refine g_blki (B := mX T o a z0 (nI pn) (nI nn) (nI sn) z18 z19 z20 z21 z24 z26 f1 f4 f5 f6 f7 f8 f9 f10 f11 f12 f13 f15 f16 f17 f22 f23 f25 f27) (C := [(ox, .inl (T.2.2.1, 1, .inr (.inl ov)))] ++ (cX T aa zw kp fp e0 e1 oF oT kt ft ks fs fc S ++ tl T S)) (vx_va (vx_runSX (As := [.ref (aa 0), .int (xs (6 * t + 1)), .ref ox]) (rest := []) ⟨hx, hb, hml, hown, hw⟩ (k_L_width l hl9 D T κ ox ov aa zw kp fp e0 e1 oF oT kt ft ks fs fc S H.size (xs (6 * t + 1))) (vx_cwSW 3 hw (bg_SW ml_L_99 wt_L_width wz_L wc_L_width) rfl rfl rfl (by decide +kernel) ⟨Nat.le_of_ble_eq_true rfl, Nat.le_of_ble_eq_true rfl⟩) ⟨qPf_b, qPf_p hPc hK hDc hF hS (g_free hDc hS hA)⟩ rfl rfl hl.1 rfl (lv_room (Nat.le_of_ble_eq_true rfl)) d_L_law_440 ⟨by show 40 + 8 * t + 1 ≤ 601024; omega, by show 1400 + 200 * t + 6 ≤ 7293034; omega⟩)) hP hD hS hA (fun r1 u9 H locs P1 hP hD hS => ?_)
  obtain ⟨u1, u2⟩ := u9
  dsimp only at P1 hP hD
  have hP : va_P D gC (mX T o a z0 (nI pn) (nI nn) (nI sn) z18 z19 z20 z21 z24 z26 f1 f4 f5 f6 f7 f8 f9 f10 f11 f12 f13 f15 f16 f17 f22 f23 f25 f27 ++ ([(ox, .inl (T.2.2.1, 1, .inr (.inl u1)))] ++ (cX T aa u2 kp fp e0 e1 oF oT kt ft ks fs fc S ++ tl T S))) H := hP
  have hD : va_D (fun q : Nat => s.heap.size ≤ q) (mX T o a z0 (nI pn) (nI nn) (nI sn) z18 z19 z20 z21 z24 z26 f1 f4 f5 f6 f7 f8 f9 f10 f11 f12 f13 f15 f16 f17 f22 f23 f25 f27 ++ ([(ox, .inl (T.2.2.1, 1, .inr (.inl u1)))] ++ (cX T aa u2 kp fp e0 e1 oF oT kt ft ks fs fc S ++ tl T S))) := hD
  refine lv_istore (lv' := [(5, .int r1), (0, .ref b), (1, .ref (aa 0)), (2, .ref o), (3, .ref ox), (4, .int (nI (6 * t)))]) hx hb d_L_law_443 hl (by decide) rfl (fun ls hl => ?_)
  refine lv_aload_n hx hb d_L_law_445 rfl (lv_at hl 3 rfl) ?_
  refine lv_aload_n hx hb d_L_law_446 rfl (lv_at hl 1 rfl) ?_
  refine lv_iload hx hb d_L_law_447 (lv_at hl 5 rfl) ?_
  refine lv_iconst (v := 1) hx hb d_L_law_449 (by decide) ?_
  refine lv_iadd hx hb d_L_law_450 ?_
  rw [nI_1]
  refine va_sld hx hb hX hbl hbA hS (vp_in_nI (n := 6 * t + 1) (by omega) (by omega)) d_L_law_451 ?_
  rw [show (nI (6 * t + 1)).toNatClampNeg = 6 * t + 1 from nI_clamp (by omega)]
  have hPc : va_P D gC (mX T o a z0 (nI pn) (nI nn) (nI sn) z18 z19 z20 z21 z24 z26 f1 f4 f5 f6 f7 f8 f9 f10 f11 f12 f13 f15 f16 f17 f22 f23 f25 f27) H := hP.lt
  have hDc : va_D (fun q : Nat => s.heap.size ≤ q) (mX T o a z0 (nI pn) (nI nn) (nI sn) z18 z19 z20 z21 z24 z26 f1 f4 f5 f6 f7 f8 f9 f10 f11 f12 f13 f15 f16 f17 f22 f23 f25 f27) := hD.lt
  refine g_blqi (C := mX T o a z0 (nI pn) (nI nn) (nI sn) z18 z19 z20 z21 z24 z26 f1 f4 f5 f6 f7 f8 f9 f10 f11 f12 f13 f15 f16 f17 f22 f23 f25 f27) (B := [(ox, .inl (T.2.2.1, 1, .inr (.inl u1)))] ++ (cX T aa u2 kp fp e0 e1 oF oT kt ft ks fs fc S ++ tl T S)) (va_runV (As := [.int (xs (6 * t + 1))]) (rest := []) ⟨hx, hb, hml, hown, hw⟩ (k_M_width l D T o a z0 (nI pn) (nI nn) (nI sn) z18 z19 z20 z21 z24 z26 f1 f4 f5 f6 f7 f8 f9 f10 f11 f12 f13 f15 f16 f17 f22 f23 f25 f27 H.size (xs (6 * t + 1))) (cwV 1 hw (bg_V ml_L_101 wi_M_width wv_M_width wz_M wc_M_width) rfl rfl rfl (by decide +kernel) ⟨Nat.le_of_ble_eq_true rfl, Nat.le_of_ble_eq_true rfl⟩) ⟨qP_b, va_recv hK hPc (ci := 6) (q0 := 0) rfl rfl, qP_p hPc hK hDc⟩ rfl rfl hl.1 rfl (lv_room (Nat.le_of_ble_eq_true rfl)) d_L_law_452 ⟨by show 40 + 8 * t + 1 + 0 ≤ 601024; omega, by show 1400 + 200 * t + 6 + 0 ≤ 7293034; omega⟩) hP hD hS hA (fun r2 u9 H locs P2 hP hD hS => ?_)
  obtain ⟨u3, u4⟩ := u9
  dsimp only at P2 hP hD
  have hP : va_P D gC (mX T o a u3 (nI pn) (nI nn) (nI sn) u4 z19 z20 z21 z24 z26 f1 f4 f5 f6 f7 f8 f9 f10 f11 f12 f13 f15 f16 f17 f22 f23 f25 f27 ++ ([(ox, .inl (T.2.2.1, 1, .inr (.inl u1)))] ++ (cX T aa u2 kp fp e0 e1 oF oT kt ft ks fs fc S ++ tl T S))) H := hP
  have hD : va_D (fun q : Nat => s.heap.size ≤ q) (mX T o a u3 (nI pn) (nI nn) (nI sn) u4 z19 z20 z21 z24 z26 f1 f4 f5 f6 f7 f8 f9 f10 f11 f12 f13 f15 f16 f17 f22 f23 f25 f27 ++ ([(ox, .inl (T.2.2.1, 1, .inr (.inl u1)))] ++ (cX T aa u2 kp fp e0 e1 oF oT kt ft ks fs fc S ++ tl T S))) := hD
  obtain ⟨hk, hv, hR⟩ := tie_width hR P1 P2
  refine lv_istore (lv' := [(6, .int r2), (5, .int r1), (0, .ref b), (1, .ref (aa 0)), (2, .ref o), (3, .ref ox), (4, .int (nI (6 * t)))]) hx hb d_L_law_455 hl (by decide) rfl (fun ls hl => ?_)
  refine lv_aload_n hx hb d_L_law_457 rfl (lv_at hl 4 rfl) ?_
  have hPc : va_P D gC (mX T o a u3 (nI pn) (nI nn) (nI sn) u4 z19 z20 z21 z24 z26 f1 f4 f5 f6 f7 f8 f9 f10 f11 f12 f13 f15 f16 f17 f22 f23 f25 f27) H := hP.lt
  refine vp_callSi (va_Run.run (va_runV (As := []) (rest := []) ⟨hx, hb, hml, hown, hw⟩ (k_M_thrown l D T o a u3 (nI pn) (nI nn) (nI sn) u4 z19 z20 z21 z24 z26 f1 f4 f5 f6 f7 f8 f9 f10 f11 f12 f13 f15 f16 f17 f22 f23 f25 f27) (cwV 0 hw (bg_V ml_L_80 wi_M_thrown wv_M_thrown wz_M wc_M_thrown) rfl rfl rfl (by decide +kernel) ⟨Nat.le_of_ble_eq_true rfl, Nat.le_of_ble_eq_true rfl⟩) ⟨sP_b, va_recv hK hPc (ci := 6) (q0 := 0) rfl rfl, sP_p hPc hK⟩ rfl rfl hl.1 rfl (lv_room (Nat.le_of_ble_eq_true rfl)) d_L_law_458 ⟨by show 40 + 8 * t + 1 + 0 + 0 ≤ 601024; omega, by show 1400 + 200 * t + 6 + 0 + 0 ≤ 7293034; omega⟩)) (fun r3 hr3 => ?_)
  replace hr3 := hr3.symm; subst hr3
  refine lv_iload hx hb d_L_law_461 (lv_at hl 1 rfl) ?_
  refine lv_icmp_eq (tgt := 468) hx hb d_L_law_463 (by decide) (fun c5 => ?_) (fun c5 => absurd (hk) c5)
  refine lv_iload hx hb d_L_law_468 (lv_at hl 1 rfl) ?_
  refine lv_if_ne (tgt := 485) hx hb d_L_law_470 (by decide) (fun c6 => ?_) (fun c6 => ?_)
  · refine lv_goto (tgt := 1268) hx hb d_L_law_485 (by decide) ?_
    refine W.widen (k := 40 + 8 * (t + 1)) (n := 1400 + 200 * (t + 1)) (by show 40 + 8 * t + 1 + 0 ≤ 40 + 8 * (t + 1); omega) (by show 1400 + 200 * t + 6 + 0 ≤ 1400 + 200 * (t + 1); omega) ?_
    exact kk H locs ls u1 u2 kp fp e0 e1 oF oT kt ft ks fs fc S u3 pn nn sn u4 z19 z20 z21 z24 z26 f1 f4 f5 f6 f7 f8 f9 f10 f11 f12 f13 f15 f16 f17 f22 f23 f25 f27 ln ck hR hP hD hS (lv_sub hl [2, 3, 4, 5, 6] rfl)
  · refine lv_aload_n hx hb d_L_law_473 rfl (lv_at hl 5 rfl) ?_
    refine lv_iconst (v := 0) hx hb d_L_law_474 (by decide) ?_
    refine va_lald hx hb hK hP 19 2 rfl rfl (vp_in_nI (n := 0) (by decide) (by decide)) d_L_law_475 ?_
    rw [show (0 : Int32).toNatClampNeg = 0 from by decide]
    refine lv_iload hx hb d_L_law_476 (lv_at hl 0 rfl) ?_
    refine lv_i2l hx hb d_L_law_478 rfl ?_
    rw [hv c6]
    refine W.lcmp hx hb d_L_law_479 ?_
    refine lv_if_eq (tgt := 485) hx hb d_L_law_480 (by decide) (fun c7 => ?_) (fun c7 => absurd (lgc _) c7)
    refine lv_goto (tgt := 1268) hx hb d_L_law_485 (by decide) ?_
    refine W.widen (k := 40 + 8 * (t + 1)) (n := 1400 + 200 * (t + 1)) (by show 40 + 8 * t + 1 + 0 ≤ 40 + 8 * (t + 1); omega) (by show 1400 + 200 * t + 6 + 0 ≤ 1400 + 200 * (t + 1); omega) ?_
    exact kk H locs ls u1 u2 kp fp e0 e1 oF oT kt ft ks fs fc S u3 pn nn sn u4 z19 z20 z21 z24 z26 f1 f4 f5 f6 f7 f8 f9 f10 f11 f12 f13 f15 f16 f17 f22 f23 f25 f27 ln ck hR hP hD hS (lv_sub hl [2, 3, 4, 5, 6] rfl)

set_option maxHeartbeats 4000000 in
set_option maxRecDepth 100000 in
theorem law_read {p : Program} {l : Launch} {e : Env} {s : State} {m : MethodId} {below : List Frame} {meth : Method} {c : Code} {b L : Nat} {xs : Nat → Int32} {D : va_G} {T : gT} {κ : gS} {aa : Nat → Nat} {ox o : Nat} {a : Nat → Nat} {t : Nat} {Q : State → Prop} {H : Heap} {locs : List Loc} {ls : Array Slot} {ov : Nat → Int64} {zw : Int32} {kp : Nat} {fp : Nat → Int32} {e0 : Int32} {e1 : Int32} {oF : Bool} {oT : Bool} {kt : Nat} {ft : Nat → Int32} {ks : Nat} {fs : Nat → Int32} {fc : Nat → Int32} {S : tS} {z0 : Int32} {pn : Nat} {nn : Nat} {sn : Nat} {z18 : Int32} {z19 : Int32} {z20 : Int32} {z21 : Int32} {z24 : Int32} {z26 : Int32} {f1 : Nat → Int32} {f4 : Nat → Int32} {f5 : Nat → Int32} {f6 : Nat → Int32} {f7 : Nat → Int32} {f8 : Nat → Int32} {f9 : Nat → Int32} {f10 : Nat → Int32} {f11 : Nat → Int32} {f12 : Nat → Int32} {f13 : Nat → Int32} {f15 : Nat → Int32} {f16 : Nat → Int32} {f17 : Nat → Int32} {f22 : Nat → Int32} {f23 : Nat → Int32} {f25 : Nat → Int32} {f27 : Nat → Int32} {ln : Nat → Nat} {ck : Nat → Nat} (hC : lawC p l s m c b L xs D T κ) (ht : 6 * t + 6 ≤ L) (hR : lawR κ zw kp fp S pn nn sn z18 f1 f4 f5 f6 f7 f8 f9 f10 f11 f12 f13 f15 f16 f17 ln ck) (hP : va_P D gC (mX T o a z0 (nI pn) (nI nn) (nI sn) z18 z19 z20 z21 z24 z26 f1 f4 f5 f6 f7 f8 f9 f10 f11 f12 f13 f15 f16 f17 f22 f23 f25 f27 ++ ([(ox, .inl (T.2.2.1, 1, .inr (.inl ov)))] ++ (cX T aa zw kp fp e0 e1 oF oT kt ft ks fs fc S ++ tl T S))) H) (hD : va_D (fun q : Nat => s.heap.size ≤ q) (mX T o a z0 (nI pn) (nI nn) (nI sn) z18 z19 z20 z21 z24 z26 f1 f4 f5 f6 f7 f8 f9 f10 f11 f12 f13 f15 f16 f17 f22 f23 f25 f27 ++ ([(ox, .inl (T.2.2.1, 1, .inr (.inl ov)))] ++ (cX T aa zw kp fp e0 e1 oF oT kt ft ks fs fc S ++ tl T S)))) (hS : va_S (fun q : Nat => s.heap.size ≤ q) s.heap H locs) (hl : lv_has ls 7 [(0, .ref b), (1, .ref (aa 0)), (2, .ref o), (3, .ref ox), (4, .int (nI (6 * t)))]) (kk : lawK p l e s m below meth c b D T κ aa ox o a t Q) : W p l e room_1 s m #[Value.ref b] below meth c H locs (40 + 8 * t) (1400 + 200 * t) Q (F0 m 488 ls []) := by
  obtain ⟨hl9, hx, hb, hml, hown, hw, hX, hbl, hK, hF, hL⟩ := hC
  have hA : ∀ q : Nat, s.heap.size ≤ q → (fun q : Nat => s.heap.size ≤ q) q := fun _ h => h
  have hbA : ¬ (fun q : Nat => s.heap.size ≤ q) b := Nat.not_le.mpr hbl
  obtain ⟨co, hco1, hcoB, hco6, hco7, hco8⟩ := hR.co (xs (6 * t + 1)) (xs (6 * t + 2))
  refine lv_aload_n hx hb d_L_law_488 rfl (lv_at hl 1 rfl) ?_
  refine lv_aload_n hx hb d_L_law_489 rfl (lv_at hl 0 rfl) ?_
  refine lv_iload hx hb d_L_law_490 (lv_at hl 4 rfl) ?_
  refine lv_iconst (v := 1) hx hb d_L_law_492 (by decide) ?_
  refine lv_iadd hx hb d_L_law_493 ?_
  rw [nI_1]
  refine va_sld hx hb hX hbl hbA hS (vp_in_nI (n := 6 * t + 1) (by omega) (by omega)) d_L_law_494 ?_
  rw [show (nI (6 * t + 1)).toNatClampNeg = 6 * t + 1 from nI_clamp (by omega)]
  refine lv_aload_n hx hb d_L_law_495 rfl (lv_at hl 0 rfl) ?_
  refine lv_iload hx hb d_L_law_496 (lv_at hl 4 rfl) ?_
  refine lv_iconst (v := 2) hx hb d_L_law_498 (by decide) ?_
  refine lv_iadd hx hb d_L_law_499 ?_
  rw [show (nI (6 * t)) + 2 = nI (6 * t + 2) from nI_add (6 * t) 2]
  refine va_sld hx hb hX hbl hbA hS (vp_in_nI (n := 6 * t + 2) (by omega) (by omega)) d_L_law_500 ?_
  rw [show (nI (6 * t + 2)).toNatClampNeg = 6 * t + 2 from nI_clamp (by omega)]
  refine lv_aload_n hx hb d_L_law_501 rfl (lv_at hl 3 rfl) ?_
  have hPc : va_P D gC ([(ox, .inl (T.2.2.1, 1, .inr (.inl ov)))] ++ (cX T aa zw kp fp e0 e1 oF oT kt ft ks fs fc S ++ tl T S)) H := hP.rt
  have hDc : va_D (fun q : Nat => s.heap.size ≤ q) ([(ox, .inl (T.2.2.1, 1, .inr (.inl ov)))] ++ (cX T aa zw kp fp e0 e1 oF oT kt ft ks fs fc S ++ tl T S)) := hD.rt
  refine g_blki (B := mX T o a z0 (nI pn) (nI nn) (nI sn) z18 z19 z20 z21 z24 z26 f1 f4 f5 f6 f7 f8 f9 f10 f11 f12 f13 f15 f16 f17 f22 f23 f25 f27) (C := [(ox, .inl (T.2.2.1, 1, .inr (.inl ov)))] ++ (cX T aa zw kp fp e0 e1 oF oT kt ft ks fs fc S ++ tl T S)) (vx_va (vx_runSX (As := [.ref (aa 0), .int (xs (6 * t + 1)), .int (xs (6 * t + 2)), .ref ox]) (rest := []) ⟨hx, hb, hml, hown, hw⟩ (k_L_read l hl9 D T κ ox ov aa zw kp fp e0 e1 oF oT kt ft ks fs fc S H.size (xs (6 * t + 1)) (xs (6 * t + 2)) co hR.1.1 hR.1.2.1 hR.2.1.2.1 hR.1.2.2.2.2.2.1 hR.1.2.2.2.2.2.2 hco1) (vx_cwSW 4 hw (bg_SW ml_L_102 wt_L_read wz_L wc_L_read) rfl rfl rfl (by decide +kernel) ⟨Nat.le_of_ble_eq_true rfl, Nat.le_of_ble_eq_true rfl⟩) ⟨qPf_b, qPf_p hPc hK hDc hF hS (g_free hDc hS hA)⟩ rfl rfl hl.1 rfl (lv_room (Nat.le_of_ble_eq_true rfl)) d_L_law_502 ⟨by show 40 + 8 * t + 2 ≤ 601024; omega, by show 1400 + 200 * t + 94 ≤ 7293034; omega⟩)) hP hD hS hA (fun r1 u9 H locs P1 hP hD hS => ?_)
  obtain ⟨u1, u2, u3, u4, u5, u6, u7⟩ := u9
  dsimp only at P1 hP hD
  have hP : va_P D gC (mX T o a z0 (nI pn) (nI nn) (nI sn) z18 z19 z20 z21 z24 z26 f1 f4 f5 f6 f7 f8 f9 f10 f11 f12 f13 f15 f16 f17 f22 f23 f25 f27 ++ ([(ox, .inl (T.2.2.1, 1, .inr (.inl u1)))] ++ (cX T aa zw u6 fp u2 u3 u4 u5 kt ft ks fs fc u7 ++ tl T u7))) H := hP
  have hD : va_D (fun q : Nat => s.heap.size ≤ q) (mX T o a z0 (nI pn) (nI nn) (nI sn) z18 z19 z20 z21 z24 z26 f1 f4 f5 f6 f7 f8 f9 f10 f11 f12 f13 f15 f16 f17 f22 f23 f25 f27 ++ ([(ox, .inl (T.2.2.1, 1, .inr (.inl u1)))] ++ (cX T aa zw u6 fp u2 u3 u4 u5 kt ft ks fs fc u7 ++ tl T u7))) := hD
  refine lv_istore (lv' := [(5, .int r1), (0, .ref b), (1, .ref (aa 0)), (2, .ref o), (3, .ref ox), (4, .int (nI (6 * t)))]) hx hb d_L_law_505 hl (by decide) rfl (fun ls hl => ?_)
  refine lv_aload_n hx hb d_L_law_507 rfl (lv_at hl 3 rfl) ?_
  refine lv_aload_n hx hb d_L_law_508 rfl (lv_at hl 1 rfl) ?_
  refine lv_iload hx hb d_L_law_509 (lv_at hl 5 rfl) ?_
  refine lv_iconst (v := 1) hx hb d_L_law_511 (by decide) ?_
  refine lv_iadd hx hb d_L_law_512 ?_
  rw [nI_1]
  refine va_sld hx hb hX hbl hbA hS (vp_in_nI (n := 6 * t + 1) (by omega) (by omega)) d_L_law_513 ?_
  rw [show (nI (6 * t + 1)).toNatClampNeg = 6 * t + 1 from nI_clamp (by omega)]
  refine lv_aload_n hx hb d_L_law_514 rfl (lv_at hl 1 rfl) ?_
  refine lv_iload hx hb d_L_law_515 (lv_at hl 5 rfl) ?_
  refine lv_iconst (v := 2) hx hb d_L_law_517 (by decide) ?_
  refine lv_iadd hx hb d_L_law_518 ?_
  rw [show (nI (6 * t)) + 2 = nI (6 * t + 2) from nI_add (6 * t) 2]
  refine va_sld hx hb hX hbl hbA hS (vp_in_nI (n := 6 * t + 2) (by omega) (by omega)) d_L_law_519 ?_
  rw [show (nI (6 * t + 2)).toNatClampNeg = 6 * t + 2 from nI_clamp (by omega)]
  have hPc : va_P D gC (mX T o a z0 (nI pn) (nI nn) (nI sn) z18 z19 z20 z21 z24 z26 f1 f4 f5 f6 f7 f8 f9 f10 f11 f12 f13 f15 f16 f17 f22 f23 f25 f27) H := hP.lt
  have hDc : va_D (fun q : Nat => s.heap.size ≤ q) (mX T o a z0 (nI pn) (nI nn) (nI sn) z18 z19 z20 z21 z24 z26 f1 f4 f5 f6 f7 f8 f9 f10 f11 f12 f13 f15 f16 f17 f22 f23 f25 f27) := hD.lt
  refine g_blqi (C := mX T o a z0 (nI pn) (nI nn) (nI sn) z18 z19 z20 z21 z24 z26 f1 f4 f5 f6 f7 f8 f9 f10 f11 f12 f13 f15 f16 f17 f22 f23 f25 f27) (B := [(ox, .inl (T.2.2.1, 1, .inr (.inl u1)))] ++ (cX T aa zw u6 fp u2 u3 u4 u5 kt ft ks fs fc u7 ++ tl T u7)) (va_runV (As := [.int (xs (6 * t + 1)), .int (xs (6 * t + 2))]) (rest := []) ⟨hx, hb, hml, hown, hw⟩ (k_M_read l D T o a z0 pn nn sn z18 z19 z20 z21 z24 z26 f1 f4 f5 f6 f7 f8 f9 f10 f11 f12 f13 f15 f16 f17 f22 f23 f25 f27 H.size (xs (6 * t + 1)) (xs (6 * t + 2)) ln ck co hR.pn24 hR.nn24 hR.2.1.2.2.2.2.1 hR.2.1.2.2.2.2.2.1 hR.2.1.2.2.2.2.2.2.1 hR.2.1.2.2.2.2.2.2.2.1 hco6 hco7 hco8 hR.sn60) (cwV 2 hw (bg_V ml_L_105 wi_M_read wv_M_read wz_M wc_M_read) rfl rfl rfl (by decide +kernel) ⟨Nat.le_of_ble_eq_true rfl, Nat.le_of_ble_eq_true rfl⟩) ⟨qP_b, va_recv hK hPc (ci := 6) (q0 := 0) rfl rfl, qP_p hPc hK hDc⟩ rfl rfl hl.1 rfl (lv_room (Nat.le_of_ble_eq_true rfl)) d_L_law_520 ⟨by show 40 + 8 * t + 2 + 0 ≤ 601024; omega, by show 1400 + 200 * t + 94 + 0 ≤ 7293034; omega⟩) hP hD hS hA (fun r2 u9 H locs P2 hP hD hS => ?_)
  obtain ⟨u8, u9, u10, u11, u12, u13, u14, u15, u16, u17⟩ := u9
  dsimp only at P2 hP hD
  have hP : va_P D gC (mX T o a u8 u9 (nI nn) u17 z18 u10 u11 u12 z24 z26 f1 f4 f5 f6 f7 f8 f9 f10 f11 f12 f13 u14 u15 u16 u13 f23 f25 f27 ++ ([(ox, .inl (T.2.2.1, 1, .inr (.inl u1)))] ++ (cX T aa zw u6 fp u2 u3 u4 u5 kt ft ks fs fc u7 ++ tl T u7))) H := hP
  have hD : va_D (fun q : Nat => s.heap.size ≤ q) (mX T o a u8 u9 (nI nn) u17 z18 u10 u11 u12 z24 z26 f1 f4 f5 f6 f7 f8 f9 f10 f11 f12 f13 u14 u15 u16 u13 f23 f25 f27 ++ ([(ox, .inl (T.2.2.1, 1, .inr (.inl u1)))] ++ (cX T aa zw u6 fp u2 u3 u4 u5 kt ft ks fs fc u7 ++ tl T u7))) := hD
  obtain ⟨hk, hv, pn9, sn9, e0, e1, hR⟩ := tie_read hR hcoB P1 P2
  subst e0
  subst e1
  refine lv_istore (lv' := [(6, .int r2), (5, .int r1), (0, .ref b), (1, .ref (aa 0)), (2, .ref o), (3, .ref ox), (4, .int (nI (6 * t)))]) hx hb d_L_law_523 hl (by decide) rfl (fun ls hl => ?_)
  refine lv_aload_n hx hb d_L_law_525 rfl (lv_at hl 4 rfl) ?_
  have hPc : va_P D gC (mX T o a u8 (nI pn9) (nI nn) (nI sn9) z18 u10 u11 u12 z24 z26 f1 f4 f5 f6 f7 f8 f9 f10 f11 f12 f13 u14 u15 u16 u13 f23 f25 f27) H := hP.lt
  refine vp_callSi (va_Run.run (va_runV (As := []) (rest := []) ⟨hx, hb, hml, hown, hw⟩ (k_M_thrown l D T o a u8 (nI pn9) (nI nn) (nI sn9) z18 u10 u11 u12 z24 z26 f1 f4 f5 f6 f7 f8 f9 f10 f11 f12 f13 u14 u15 u16 u13 f23 f25 f27) (cwV 0 hw (bg_V ml_L_80 wi_M_thrown wv_M_thrown wz_M wc_M_thrown) rfl rfl rfl (by decide +kernel) ⟨Nat.le_of_ble_eq_true rfl, Nat.le_of_ble_eq_true rfl⟩) ⟨sP_b, va_recv hK hPc (ci := 6) (q0 := 0) rfl rfl, sP_p hPc hK⟩ rfl rfl hl.1 rfl (lv_room (Nat.le_of_ble_eq_true rfl)) d_L_law_526 ⟨by show 40 + 8 * t + 2 + 0 + 0 ≤ 601024; omega, by show 1400 + 200 * t + 94 + 0 + 0 ≤ 7293034; omega⟩)) (fun r3 hr3 => ?_)
  replace hr3 := hr3.symm; subst hr3
  refine lv_iload hx hb d_L_law_529 (lv_at hl 1 rfl) ?_
  refine lv_icmp_eq (tgt := 536) hx hb d_L_law_531 (by decide) (fun c18 => ?_) (fun c18 => absurd (hk) c18)
  refine lv_iload hx hb d_L_law_536 (lv_at hl 1 rfl) ?_
  refine lv_if_ne (tgt := 553) hx hb d_L_law_538 (by decide) (fun c19 => ?_) (fun c19 => ?_)
  · refine lv_goto (tgt := 1268) hx hb d_L_law_553 (by decide) ?_
    refine W.widen (k := 40 + 8 * (t + 1)) (n := 1400 + 200 * (t + 1)) (by show 40 + 8 * t + 2 + 0 ≤ 40 + 8 * (t + 1); omega) (by show 1400 + 200 * t + 94 + 0 ≤ 1400 + 200 * (t + 1); omega) ?_
    exact kk H locs ls u1 zw u6 fp u2 u3 u4 u5 kt ft ks fs fc u7 u8 pn9 nn sn9 z18 u10 u11 u12 z24 z26 f1 f4 f5 f6 f7 f8 f9 f10 f11 f12 f13 u14 u15 u16 u13 f23 f25 f27 ln ck hR hP hD hS (lv_sub hl [2, 3, 4, 5, 6] rfl)
  · refine lv_aload_n hx hb d_L_law_541 rfl (lv_at hl 5 rfl) ?_
    refine lv_iconst (v := 0) hx hb d_L_law_542 (by decide) ?_
    refine va_lald hx hb hK hP 19 2 rfl rfl (vp_in_nI (n := 0) (by decide) (by decide)) d_L_law_543 ?_
    rw [show (0 : Int32).toNatClampNeg = 0 from by decide]
    refine lv_iload hx hb d_L_law_544 (lv_at hl 0 rfl) ?_
    refine lv_i2l hx hb d_L_law_546 rfl ?_
    rw [hv c19]
    refine W.lcmp hx hb d_L_law_547 ?_
    refine lv_if_eq (tgt := 553) hx hb d_L_law_548 (by decide) (fun c20 => ?_) (fun c20 => absurd (lgc _) c20)
    refine lv_goto (tgt := 1268) hx hb d_L_law_553 (by decide) ?_
    refine W.widen (k := 40 + 8 * (t + 1)) (n := 1400 + 200 * (t + 1)) (by show 40 + 8 * t + 2 + 0 ≤ 40 + 8 * (t + 1); omega) (by show 1400 + 200 * t + 94 + 0 ≤ 1400 + 200 * (t + 1); omega) ?_
    exact kk H locs ls u1 zw u6 fp u2 u3 u4 u5 kt ft ks fs fc u7 u8 pn9 nn sn9 z18 u10 u11 u12 z24 z26 f1 f4 f5 f6 f7 f8 f9 f10 f11 f12 f13 u14 u15 u16 u13 f23 f25 f27 ln ck hR hP hD hS (lv_sub hl [2, 3, 4, 5, 6] rfl)

set_option maxHeartbeats 4000000 in
set_option maxRecDepth 100000 in
theorem law_span {p : Program} {l : Launch} {e : Env} {s : State} {m : MethodId} {below : List Frame} {meth : Method} {c : Code} {b L : Nat} {xs : Nat → Int32} {D : va_G} {T : gT} {κ : gS} {aa : Nat → Nat} {ox o : Nat} {a : Nat → Nat} {t : Nat} {Q : State → Prop} {H : Heap} {locs : List Loc} {ls : Array Slot} {ov : Nat → Int64} {zw : Int32} {kp : Nat} {fp : Nat → Int32} {e0 : Int32} {e1 : Int32} {oF : Bool} {oT : Bool} {kt : Nat} {ft : Nat → Int32} {ks : Nat} {fs : Nat → Int32} {fc : Nat → Int32} {S : tS} {z0 : Int32} {pn : Nat} {nn : Nat} {sn : Nat} {z18 : Int32} {z19 : Int32} {z20 : Int32} {z21 : Int32} {z24 : Int32} {z26 : Int32} {f1 : Nat → Int32} {f4 : Nat → Int32} {f5 : Nat → Int32} {f6 : Nat → Int32} {f7 : Nat → Int32} {f8 : Nat → Int32} {f9 : Nat → Int32} {f10 : Nat → Int32} {f11 : Nat → Int32} {f12 : Nat → Int32} {f13 : Nat → Int32} {f15 : Nat → Int32} {f16 : Nat → Int32} {f17 : Nat → Int32} {f22 : Nat → Int32} {f23 : Nat → Int32} {f25 : Nat → Int32} {f27 : Nat → Int32} {ln : Nat → Nat} {ck : Nat → Nat} (hC : lawC p l s m c b L xs D T κ) (ht : 6 * t + 6 ≤ L) (hR : lawR κ zw kp fp S pn nn sn z18 f1 f4 f5 f6 f7 f8 f9 f10 f11 f12 f13 f15 f16 f17 ln ck) (hP : va_P D gC (mX T o a z0 (nI pn) (nI nn) (nI sn) z18 z19 z20 z21 z24 z26 f1 f4 f5 f6 f7 f8 f9 f10 f11 f12 f13 f15 f16 f17 f22 f23 f25 f27 ++ ([(ox, .inl (T.2.2.1, 1, .inr (.inl ov)))] ++ (cX T aa zw kp fp e0 e1 oF oT kt ft ks fs fc S ++ tl T S))) H) (hD : va_D (fun q : Nat => s.heap.size ≤ q) (mX T o a z0 (nI pn) (nI nn) (nI sn) z18 z19 z20 z21 z24 z26 f1 f4 f5 f6 f7 f8 f9 f10 f11 f12 f13 f15 f16 f17 f22 f23 f25 f27 ++ ([(ox, .inl (T.2.2.1, 1, .inr (.inl ov)))] ++ (cX T aa zw kp fp e0 e1 oF oT kt ft ks fs fc S ++ tl T S)))) (hS : va_S (fun q : Nat => s.heap.size ≤ q) s.heap H locs) (hl : lv_has ls 7 [(0, .ref b), (1, .ref (aa 0)), (2, .ref o), (3, .ref ox), (4, .int (nI (6 * t)))]) (kk : lawK p l e s m below meth c b D T κ aa ox o a t Q) : W p l e room_1 s m #[Value.ref b] below meth c H locs (40 + 8 * t) (1400 + 200 * t) Q (F0 m 556 ls []) := by
  obtain ⟨hl9, hx, hb, hml, hown, hw, hX, hbl, hK, hF, hL⟩ := hC
  have hA : ∀ q : Nat, s.heap.size ≤ q → (fun q : Nat => s.heap.size ≤ q) q := fun _ h => h
  have hbA : ¬ (fun q : Nat => s.heap.size ≤ q) b := Nat.not_le.mpr hbl
  refine lv_aload_n hx hb d_L_law_556 rfl (lv_at hl 1 rfl) ?_
  refine lv_aload_n hx hb d_L_law_557 rfl (lv_at hl 0 rfl) ?_
  refine lv_iload hx hb d_L_law_558 (lv_at hl 4 rfl) ?_
  refine lv_iconst (v := 1) hx hb d_L_law_560 (by decide) ?_
  refine lv_iadd hx hb d_L_law_561 ?_
  rw [nI_1]
  refine va_sld hx hb hX hbl hbA hS (vp_in_nI (n := 6 * t + 1) (by omega) (by omega)) d_L_law_562 ?_
  rw [show (nI (6 * t + 1)).toNatClampNeg = 6 * t + 1 from nI_clamp (by omega)]
  refine lv_aload_n hx hb d_L_law_563 rfl (lv_at hl 0 rfl) ?_
  refine lv_iload hx hb d_L_law_564 (lv_at hl 4 rfl) ?_
  refine lv_iconst (v := 2) hx hb d_L_law_566 (by decide) ?_
  refine lv_iadd hx hb d_L_law_567 ?_
  rw [show (nI (6 * t)) + 2 = nI (6 * t + 2) from nI_add (6 * t) 2]
  refine va_sld hx hb hX hbl hbA hS (vp_in_nI (n := 6 * t + 2) (by omega) (by omega)) d_L_law_568 ?_
  rw [show (nI (6 * t + 2)).toNatClampNeg = 6 * t + 2 from nI_clamp (by omega)]
  refine lv_aload_n hx hb d_L_law_569 rfl (lv_at hl 3 rfl) ?_
  have hPc : va_P D gC ([(ox, .inl (T.2.2.1, 1, .inr (.inl ov)))] ++ (cX T aa zw kp fp e0 e1 oF oT kt ft ks fs fc S ++ tl T S)) H := hP.rt
  have hDc : va_D (fun q : Nat => s.heap.size ≤ q) ([(ox, .inl (T.2.2.1, 1, .inr (.inl ov)))] ++ (cX T aa zw kp fp e0 e1 oF oT kt ft ks fs fc S ++ tl T S)) := hD.rt
  refine g_blki (B := mX T o a z0 (nI pn) (nI nn) (nI sn) z18 z19 z20 z21 z24 z26 f1 f4 f5 f6 f7 f8 f9 f10 f11 f12 f13 f15 f16 f17 f22 f23 f25 f27) (C := [(ox, .inl (T.2.2.1, 1, .inr (.inl ov)))] ++ (cX T aa zw kp fp e0 e1 oF oT kt ft ks fs fc S ++ tl T S)) (vx_va (vx_runSX (As := [.ref (aa 0), .int (xs (6 * t + 1)), .int (xs (6 * t + 2)), .ref ox]) (rest := []) ⟨hx, hb, hml, hown, hw⟩ (k_L_span l hl9 D T κ ox ov aa zw kp fp e0 e1 oF oT kt ft ks fs fc S H.size (xs (6 * t + 1)) (xs (6 * t + 2)) hR.1.1) (vx_cwSW 4 hw (bg_SW ml_L_106 wt_L_span wz_L wc_L_span) rfl rfl rfl (by decide +kernel) ⟨Nat.le_of_ble_eq_true rfl, Nat.le_of_ble_eq_true rfl⟩) ⟨qPf_b, qPf_p hPc hK hDc hF hS (g_free hDc hS hA)⟩ rfl rfl hl.1 rfl (lv_room (Nat.le_of_ble_eq_true rfl)) d_L_law_570 ⟨by show 40 + 8 * t + 2 ≤ 601024; omega, by show 1400 + 200 * t + 94 ≤ 7293034; omega⟩)) hP hD hS hA (fun r1 u9 H locs P1 hP hD hS => ?_)
  obtain ⟨u1, u2, u3, u4, u5, u6⟩ := u9
  dsimp only at P1 hP hD
  have hP : va_P D gC (mX T o a z0 (nI pn) (nI nn) (nI sn) z18 z19 z20 z21 z24 z26 f1 f4 f5 f6 f7 f8 f9 f10 f11 f12 f13 f15 f16 f17 f22 f23 f25 f27 ++ ([(ox, .inl (T.2.2.1, 1, .inr (.inl u1)))] ++ (cX T aa zw kp fp u2 u3 u4 u5 kt ft ks fs fc u6 ++ tl T u6))) H := hP
  have hD : va_D (fun q : Nat => s.heap.size ≤ q) (mX T o a z0 (nI pn) (nI nn) (nI sn) z18 z19 z20 z21 z24 z26 f1 f4 f5 f6 f7 f8 f9 f10 f11 f12 f13 f15 f16 f17 f22 f23 f25 f27 ++ ([(ox, .inl (T.2.2.1, 1, .inr (.inl u1)))] ++ (cX T aa zw kp fp u2 u3 u4 u5 kt ft ks fs fc u6 ++ tl T u6))) := hD
  refine lv_istore (lv' := [(5, .int r1), (0, .ref b), (1, .ref (aa 0)), (2, .ref o), (3, .ref ox), (4, .int (nI (6 * t)))]) hx hb d_L_law_573 hl (by decide) rfl (fun ls hl => ?_)
  refine lv_aload_n hx hb d_L_law_575 rfl (lv_at hl 3 rfl) ?_
  refine lv_aload_n hx hb d_L_law_576 rfl (lv_at hl 1 rfl) ?_
  refine lv_iload hx hb d_L_law_577 (lv_at hl 5 rfl) ?_
  refine lv_iconst (v := 1) hx hb d_L_law_579 (by decide) ?_
  refine lv_iadd hx hb d_L_law_580 ?_
  rw [nI_1]
  refine va_sld hx hb hX hbl hbA hS (vp_in_nI (n := 6 * t + 1) (by omega) (by omega)) d_L_law_581 ?_
  rw [show (nI (6 * t + 1)).toNatClampNeg = 6 * t + 1 from nI_clamp (by omega)]
  refine lv_aload_n hx hb d_L_law_582 rfl (lv_at hl 1 rfl) ?_
  refine lv_iload hx hb d_L_law_583 (lv_at hl 5 rfl) ?_
  refine lv_iconst (v := 2) hx hb d_L_law_585 (by decide) ?_
  refine lv_iadd hx hb d_L_law_586 ?_
  rw [show (nI (6 * t)) + 2 = nI (6 * t + 2) from nI_add (6 * t) 2]
  refine va_sld hx hb hX hbl hbA hS (vp_in_nI (n := 6 * t + 2) (by omega) (by omega)) d_L_law_587 ?_
  rw [show (nI (6 * t + 2)).toNatClampNeg = 6 * t + 2 from nI_clamp (by omega)]
  have hPc : va_P D gC (mX T o a z0 (nI pn) (nI nn) (nI sn) z18 z19 z20 z21 z24 z26 f1 f4 f5 f6 f7 f8 f9 f10 f11 f12 f13 f15 f16 f17 f22 f23 f25 f27) H := hP.lt
  have hDc : va_D (fun q : Nat => s.heap.size ≤ q) (mX T o a z0 (nI pn) (nI nn) (nI sn) z18 z19 z20 z21 z24 z26 f1 f4 f5 f6 f7 f8 f9 f10 f11 f12 f13 f15 f16 f17 f22 f23 f25 f27) := hD.lt
  refine g_blqi (C := mX T o a z0 (nI pn) (nI nn) (nI sn) z18 z19 z20 z21 z24 z26 f1 f4 f5 f6 f7 f8 f9 f10 f11 f12 f13 f15 f16 f17 f22 f23 f25 f27) (B := [(ox, .inl (T.2.2.1, 1, .inr (.inl u1)))] ++ (cX T aa zw kp fp u2 u3 u4 u5 kt ft ks fs fc u6 ++ tl T u6)) (va_runV (As := [.int (xs (6 * t + 1)), .int (xs (6 * t + 2))]) (rest := []) ⟨hx, hb, hml, hown, hw⟩ (k_M_span l D T o a z0 (nI pn) (nI nn) sn z18 z19 z20 z21 z24 z26 f1 f4 f5 f6 f7 f8 f9 f10 f11 f12 f13 f15 f16 f17 f22 f23 f25 f27 H.size (xs (6 * t + 1)) (xs (6 * t + 2)) hR.sn60) (cwV 2 hw (bg_V ml_L_108 wi_M_span wv_M_span wz_M wc_M_span) rfl rfl rfl (by decide +kernel) ⟨Nat.le_of_ble_eq_true rfl, Nat.le_of_ble_eq_true rfl⟩) ⟨qP_b, va_recv hK hPc (ci := 6) (q0 := 0) rfl rfl, qP_p hPc hK hDc⟩ rfl rfl hl.1 rfl (lv_room (Nat.le_of_ble_eq_true rfl)) d_L_law_588 ⟨by show 40 + 8 * t + 2 + 0 ≤ 601024; omega, by show 1400 + 200 * t + 94 + 0 ≤ 7293034; omega⟩) hP hD hS hA (fun r2 u9 H locs P2 hP hD hS => ?_)
  obtain ⟨u7, u8, u9, u10, u11, u12, u13, u14⟩ := u9
  dsimp only at P2 hP hD
  have hP : va_P D gC (mX T o a u7 (nI pn) (nI nn) u14 z18 u8 u9 u10 z24 z26 f1 f4 f5 f6 f7 f8 f9 f10 f11 f12 f13 u11 u12 u13 f22 f23 f25 f27 ++ ([(ox, .inl (T.2.2.1, 1, .inr (.inl u1)))] ++ (cX T aa zw kp fp u2 u3 u4 u5 kt ft ks fs fc u6 ++ tl T u6))) H := hP
  have hD : va_D (fun q : Nat => s.heap.size ≤ q) (mX T o a u7 (nI pn) (nI nn) u14 z18 u8 u9 u10 z24 z26 f1 f4 f5 f6 f7 f8 f9 f10 f11 f12 f13 u11 u12 u13 f22 f23 f25 f27 ++ ([(ox, .inl (T.2.2.1, 1, .inr (.inl u1)))] ++ (cX T aa zw kp fp u2 u3 u4 u5 kt ft ks fs fc u6 ++ tl T u6))) := hD
  obtain ⟨hk, hv, sn9, e0, hR⟩ := tie_span hR P1 P2
  subst e0
  refine lv_istore (lv' := [(6, .int r2), (5, .int r1), (0, .ref b), (1, .ref (aa 0)), (2, .ref o), (3, .ref ox), (4, .int (nI (6 * t)))]) hx hb d_L_law_591 hl (by decide) rfl (fun ls hl => ?_)
  refine lv_aload_n hx hb d_L_law_593 rfl (lv_at hl 4 rfl) ?_
  have hPc : va_P D gC (mX T o a u7 (nI pn) (nI nn) (nI sn9) z18 u8 u9 u10 z24 z26 f1 f4 f5 f6 f7 f8 f9 f10 f11 f12 f13 u11 u12 u13 f22 f23 f25 f27) H := hP.lt
  refine vp_callSi (va_Run.run (va_runV (As := []) (rest := []) ⟨hx, hb, hml, hown, hw⟩ (k_M_thrown l D T o a u7 (nI pn) (nI nn) (nI sn9) z18 u8 u9 u10 z24 z26 f1 f4 f5 f6 f7 f8 f9 f10 f11 f12 f13 u11 u12 u13 f22 f23 f25 f27) (cwV 0 hw (bg_V ml_L_80 wi_M_thrown wv_M_thrown wz_M wc_M_thrown) rfl rfl rfl (by decide +kernel) ⟨Nat.le_of_ble_eq_true rfl, Nat.le_of_ble_eq_true rfl⟩) ⟨sP_b, va_recv hK hPc (ci := 6) (q0 := 0) rfl rfl, sP_p hPc hK⟩ rfl rfl hl.1 rfl (lv_room (Nat.le_of_ble_eq_true rfl)) d_L_law_594 ⟨by show 40 + 8 * t + 2 + 0 + 0 ≤ 601024; omega, by show 1400 + 200 * t + 94 + 0 + 0 ≤ 7293034; omega⟩)) (fun r3 hr3 => ?_)
  replace hr3 := hr3.symm; subst hr3
  refine lv_iload hx hb d_L_law_597 (lv_at hl 1 rfl) ?_
  refine lv_icmp_eq (tgt := 604) hx hb d_L_law_599 (by decide) (fun c15 => ?_) (fun c15 => absurd (hk) c15)
  refine lv_iload hx hb d_L_law_604 (lv_at hl 1 rfl) ?_
  refine lv_if_ne (tgt := 621) hx hb d_L_law_606 (by decide) (fun c16 => ?_) (fun c16 => ?_)
  · refine lv_goto (tgt := 1268) hx hb d_L_law_621 (by decide) ?_
    refine W.widen (k := 40 + 8 * (t + 1)) (n := 1400 + 200 * (t + 1)) (by show 40 + 8 * t + 2 + 0 ≤ 40 + 8 * (t + 1); omega) (by show 1400 + 200 * t + 94 + 0 ≤ 1400 + 200 * (t + 1); omega) ?_
    exact kk H locs ls u1 zw kp fp u2 u3 u4 u5 kt ft ks fs fc u6 u7 pn nn sn9 z18 u8 u9 u10 z24 z26 f1 f4 f5 f6 f7 f8 f9 f10 f11 f12 f13 u11 u12 u13 f22 f23 f25 f27 ln ck hR hP hD hS (lv_sub hl [2, 3, 4, 5, 6] rfl)
  · refine lv_aload_n hx hb d_L_law_609 rfl (lv_at hl 5 rfl) ?_
    refine lv_iconst (v := 0) hx hb d_L_law_610 (by decide) ?_
    refine va_lald hx hb hK hP 19 2 rfl rfl (vp_in_nI (n := 0) (by decide) (by decide)) d_L_law_611 ?_
    rw [show (0 : Int32).toNatClampNeg = 0 from by decide]
    refine lv_iload hx hb d_L_law_612 (lv_at hl 0 rfl) ?_
    refine lv_i2l hx hb d_L_law_614 rfl ?_
    rw [hv c16]
    refine W.lcmp hx hb d_L_law_615 ?_
    refine lv_if_eq (tgt := 621) hx hb d_L_law_616 (by decide) (fun c17 => ?_) (fun c17 => absurd (lgc _) c17)
    refine lv_goto (tgt := 1268) hx hb d_L_law_621 (by decide) ?_
    refine W.widen (k := 40 + 8 * (t + 1)) (n := 1400 + 200 * (t + 1)) (by show 40 + 8 * t + 2 + 0 ≤ 40 + 8 * (t + 1); omega) (by show 1400 + 200 * t + 94 + 0 ≤ 1400 + 200 * (t + 1); omega) ?_
    exact kk H locs ls u1 zw kp fp u2 u3 u4 u5 kt ft ks fs fc u6 u7 pn nn sn9 z18 u8 u9 u10 z24 z26 f1 f4 f5 f6 f7 f8 f9 f10 f11 f12 f13 u11 u12 u13 f22 f23 f25 f27 ln ck hR hP hD hS (lv_sub hl [2, 3, 4, 5, 6] rfl)

set_option maxHeartbeats 4000000 in
set_option maxRecDepth 100000 in
theorem law_end {p : Program} {l : Launch} {e : Env} {s : State} {m : MethodId} {below : List Frame} {meth : Method} {c : Code} {b L : Nat} {xs : Nat → Int32} {D : va_G} {T : gT} {κ : gS} {aa : Nat → Nat} {ox o : Nat} {a : Nat → Nat} {t : Nat} {Q : State → Prop} {H : Heap} {locs : List Loc} {ls : Array Slot} {ov : Nat → Int64} {zw : Int32} {kp : Nat} {fp : Nat → Int32} {e0 : Int32} {e1 : Int32} {oF : Bool} {oT : Bool} {kt : Nat} {ft : Nat → Int32} {ks : Nat} {fs : Nat → Int32} {fc : Nat → Int32} {S : tS} {z0 : Int32} {pn : Nat} {nn : Nat} {sn : Nat} {z18 : Int32} {z19 : Int32} {z20 : Int32} {z21 : Int32} {z24 : Int32} {z26 : Int32} {f1 : Nat → Int32} {f4 : Nat → Int32} {f5 : Nat → Int32} {f6 : Nat → Int32} {f7 : Nat → Int32} {f8 : Nat → Int32} {f9 : Nat → Int32} {f10 : Nat → Int32} {f11 : Nat → Int32} {f12 : Nat → Int32} {f13 : Nat → Int32} {f15 : Nat → Int32} {f16 : Nat → Int32} {f17 : Nat → Int32} {f22 : Nat → Int32} {f23 : Nat → Int32} {f25 : Nat → Int32} {f27 : Nat → Int32} {ln : Nat → Nat} {ck : Nat → Nat} (hC : lawC p l s m c b L xs D T κ) (ht : 6 * t + 6 ≤ L) (hR : lawR κ zw kp fp S pn nn sn z18 f1 f4 f5 f6 f7 f8 f9 f10 f11 f12 f13 f15 f16 f17 ln ck) (hP : va_P D gC (mX T o a z0 (nI pn) (nI nn) (nI sn) z18 z19 z20 z21 z24 z26 f1 f4 f5 f6 f7 f8 f9 f10 f11 f12 f13 f15 f16 f17 f22 f23 f25 f27 ++ ([(ox, .inl (T.2.2.1, 1, .inr (.inl ov)))] ++ (cX T aa zw kp fp e0 e1 oF oT kt ft ks fs fc S ++ tl T S))) H) (hD : va_D (fun q : Nat => s.heap.size ≤ q) (mX T o a z0 (nI pn) (nI nn) (nI sn) z18 z19 z20 z21 z24 z26 f1 f4 f5 f6 f7 f8 f9 f10 f11 f12 f13 f15 f16 f17 f22 f23 f25 f27 ++ ([(ox, .inl (T.2.2.1, 1, .inr (.inl ov)))] ++ (cX T aa zw kp fp e0 e1 oF oT kt ft ks fs fc S ++ tl T S)))) (hS : va_S (fun q : Nat => s.heap.size ≤ q) s.heap H locs) (hl : lv_has ls 7 [(0, .ref b), (1, .ref (aa 0)), (2, .ref o), (3, .ref ox), (4, .int (nI (6 * t)))]) (kk : lawK p l e s m below meth c b D T κ aa ox o a t Q) : W p l e room_1 s m #[Value.ref b] below meth c H locs (40 + 8 * t) (1400 + 200 * t) Q (F0 m 624 ls []) := by
  obtain ⟨hl9, hx, hb, hml, hown, hw, hX, hbl, hK, hF, hL⟩ := hC
  have hA : ∀ q : Nat, s.heap.size ≤ q → (fun q : Nat => s.heap.size ≤ q) q := fun _ h => h
  have hbA : ¬ (fun q : Nat => s.heap.size ≤ q) b := Nat.not_le.mpr hbl
  refine lv_aload_n hx hb d_L_law_624 rfl (lv_at hl 1 rfl) ?_
  refine lv_aload_n hx hb d_L_law_625 rfl (lv_at hl 0 rfl) ?_
  refine lv_iload hx hb d_L_law_626 (lv_at hl 4 rfl) ?_
  refine lv_iconst (v := 1) hx hb d_L_law_628 (by decide) ?_
  refine lv_iadd hx hb d_L_law_629 ?_
  rw [nI_1]
  refine va_sld hx hb hX hbl hbA hS (vp_in_nI (n := 6 * t + 1) (by omega) (by omega)) d_L_law_630 ?_
  rw [show (nI (6 * t + 1)).toNatClampNeg = 6 * t + 1 from nI_clamp (by omega)]
  refine lv_aload_n hx hb d_L_law_631 rfl (lv_at hl 0 rfl) ?_
  refine lv_iload hx hb d_L_law_632 (lv_at hl 4 rfl) ?_
  refine lv_iconst (v := 2) hx hb d_L_law_634 (by decide) ?_
  refine lv_iadd hx hb d_L_law_635 ?_
  rw [show (nI (6 * t)) + 2 = nI (6 * t + 2) from nI_add (6 * t) 2]
  refine va_sld hx hb hX hbl hbA hS (vp_in_nI (n := 6 * t + 2) (by omega) (by omega)) d_L_law_636 ?_
  rw [show (nI (6 * t + 2)).toNatClampNeg = 6 * t + 2 from nI_clamp (by omega)]
  refine lv_aload_n hx hb d_L_law_637 rfl (lv_at hl 3 rfl) ?_
  have hPc : va_P D gC ([(ox, .inl (T.2.2.1, 1, .inr (.inl ov)))] ++ (cX T aa zw kp fp e0 e1 oF oT kt ft ks fs fc S ++ tl T S)) H := hP.rt
  have hDc : va_D (fun q : Nat => s.heap.size ≤ q) ([(ox, .inl (T.2.2.1, 1, .inr (.inl ov)))] ++ (cX T aa zw kp fp e0 e1 oF oT kt ft ks fs fc S ++ tl T S)) := hD.rt
  refine g_blki (B := mX T o a z0 (nI pn) (nI nn) (nI sn) z18 z19 z20 z21 z24 z26 f1 f4 f5 f6 f7 f8 f9 f10 f11 f12 f13 f15 f16 f17 f22 f23 f25 f27) (C := [(ox, .inl (T.2.2.1, 1, .inr (.inl ov)))] ++ (cX T aa zw kp fp e0 e1 oF oT kt ft ks fs fc S ++ tl T S)) (vx_va (vx_runSX (As := [.ref (aa 0), .int (xs (6 * t + 1)), .int (xs (6 * t + 2)), .ref ox]) (rest := []) ⟨hx, hb, hml, hown, hw⟩ (k_L_end l hl9 D T κ ox ov aa zw kp fp e0 e1 oF oT kt ft ks fs fc S H.size (xs (6 * t + 1)) (xs (6 * t + 2)) hR.1.1) (vx_cwSW 4 hw (bg_SW ml_L_109 wt_L_end wz_L wc_L_end) rfl rfl rfl (by decide +kernel) ⟨Nat.le_of_ble_eq_true rfl, Nat.le_of_ble_eq_true rfl⟩) ⟨qPf_b, qPf_p hPc hK hDc hF hS (g_free hDc hS hA)⟩ rfl rfl hl.1 rfl (lv_room (Nat.le_of_ble_eq_true rfl)) d_L_law_638 ⟨by show 40 + 8 * t + 1 ≤ 601024; omega, by show 1400 + 200 * t + 6 ≤ 7293034; omega⟩)) hP hD hS hA (fun r1 u1 H locs P1 hP hD hS => ?_)
  have hP : va_P D gC (mX T o a z0 (nI pn) (nI nn) (nI sn) z18 z19 z20 z21 z24 z26 f1 f4 f5 f6 f7 f8 f9 f10 f11 f12 f13 f15 f16 f17 f22 f23 f25 f27 ++ ([(ox, .inl (T.2.2.1, 1, .inr (.inl u1)))] ++ (cX T aa zw kp fp e0 e1 oF oT kt ft ks fs fc S ++ tl T S))) H := hP
  have hD : va_D (fun q : Nat => s.heap.size ≤ q) (mX T o a z0 (nI pn) (nI nn) (nI sn) z18 z19 z20 z21 z24 z26 f1 f4 f5 f6 f7 f8 f9 f10 f11 f12 f13 f15 f16 f17 f22 f23 f25 f27 ++ ([(ox, .inl (T.2.2.1, 1, .inr (.inl u1)))] ++ (cX T aa zw kp fp e0 e1 oF oT kt ft ks fs fc S ++ tl T S))) := hD
  refine lv_istore (lv' := [(5, .int r1), (0, .ref b), (1, .ref (aa 0)), (2, .ref o), (3, .ref ox), (4, .int (nI (6 * t)))]) hx hb d_L_law_641 hl (by decide) rfl (fun ls hl => ?_)
  refine lv_aload_n hx hb d_L_law_643 rfl (lv_at hl 3 rfl) ?_
  refine lv_aload_n hx hb d_L_law_644 rfl (lv_at hl 1 rfl) ?_
  refine lv_iload hx hb d_L_law_645 (lv_at hl 5 rfl) ?_
  refine lv_iconst (v := 1) hx hb d_L_law_647 (by decide) ?_
  refine lv_iadd hx hb d_L_law_648 ?_
  rw [nI_1]
  refine va_sld hx hb hX hbl hbA hS (vp_in_nI (n := 6 * t + 1) (by omega) (by omega)) d_L_law_649 ?_
  rw [show (nI (6 * t + 1)).toNatClampNeg = 6 * t + 1 from nI_clamp (by omega)]
  refine lv_aload_n hx hb d_L_law_650 rfl (lv_at hl 1 rfl) ?_
  refine lv_iload hx hb d_L_law_651 (lv_at hl 5 rfl) ?_
  refine lv_iconst (v := 2) hx hb d_L_law_653 (by decide) ?_
  refine lv_iadd hx hb d_L_law_654 ?_
  rw [show (nI (6 * t)) + 2 = nI (6 * t + 2) from nI_add (6 * t) 2]
  refine va_sld hx hb hX hbl hbA hS (vp_in_nI (n := 6 * t + 2) (by omega) (by omega)) d_L_law_655 ?_
  rw [show (nI (6 * t + 2)).toNatClampNeg = 6 * t + 2 from nI_clamp (by omega)]
  have hPc : va_P D gC (mX T o a z0 (nI pn) (nI nn) (nI sn) z18 z19 z20 z21 z24 z26 f1 f4 f5 f6 f7 f8 f9 f10 f11 f12 f13 f15 f16 f17 f22 f23 f25 f27) H := hP.lt
  have hDc : va_D (fun q : Nat => s.heap.size ≤ q) (mX T o a z0 (nI pn) (nI nn) (nI sn) z18 z19 z20 z21 z24 z26 f1 f4 f5 f6 f7 f8 f9 f10 f11 f12 f13 f15 f16 f17 f22 f23 f25 f27) := hD.lt
  refine g_blqi (C := mX T o a z0 (nI pn) (nI nn) (nI sn) z18 z19 z20 z21 z24 z26 f1 f4 f5 f6 f7 f8 f9 f10 f11 f12 f13 f15 f16 f17 f22 f23 f25 f27) (B := [(ox, .inl (T.2.2.1, 1, .inr (.inl u1)))] ++ (cX T aa zw kp fp e0 e1 oF oT kt ft ks fs fc S ++ tl T S)) (va_runV (As := [.int (xs (6 * t + 1)), .int (xs (6 * t + 2))]) (rest := []) ⟨hx, hb, hml, hown, hw⟩ (k_M_end l D T o a z0 (nI pn) (nI nn) sn z18 z19 z20 z21 z24 z26 f1 f4 f5 f6 f7 f8 f9 f10 f11 f12 f13 f15 f16 f17 f22 f23 f25 f27 H.size (xs (6 * t + 1)) (xs (6 * t + 2)) hR.sn60) (cwV 2 hw (bg_V ml_L_111 wi_M_end wv_M_end wz_M wc_M_end) rfl rfl rfl (by decide +kernel) ⟨Nat.le_of_ble_eq_true rfl, Nat.le_of_ble_eq_true rfl⟩) ⟨qP_b, va_recv hK hPc (ci := 6) (q0 := 0) rfl rfl, qP_p hPc hK hDc⟩ rfl rfl hl.1 rfl (lv_room (Nat.le_of_ble_eq_true rfl)) d_L_law_656 ⟨by show 40 + 8 * t + 1 + 0 ≤ 601024; omega, by show 1400 + 200 * t + 6 + 0 ≤ 7293034; omega⟩) hP hD hS hA (fun r2 u2 H locs P2 hP hD hS => ?_)
  have hP : va_P D gC (mX T o a u2 (nI pn) (nI nn) (nI sn) z18 z19 z20 z21 z24 z26 f1 f4 f5 f6 f7 f8 f9 f10 f11 f12 f13 f15 f16 f17 f22 f23 f25 f27 ++ ([(ox, .inl (T.2.2.1, 1, .inr (.inl u1)))] ++ (cX T aa zw kp fp e0 e1 oF oT kt ft ks fs fc S ++ tl T S))) H := hP
  have hD : va_D (fun q : Nat => s.heap.size ≤ q) (mX T o a u2 (nI pn) (nI nn) (nI sn) z18 z19 z20 z21 z24 z26 f1 f4 f5 f6 f7 f8 f9 f10 f11 f12 f13 f15 f16 f17 f22 f23 f25 f27 ++ ([(ox, .inl (T.2.2.1, 1, .inr (.inl u1)))] ++ (cX T aa zw kp fp e0 e1 oF oT kt ft ks fs fc S ++ tl T S))) := hD
  obtain ⟨hk, hv, hR⟩ := tie_end hR P1 P2
  refine lv_istore (lv' := [(6, .int r2), (5, .int r1), (0, .ref b), (1, .ref (aa 0)), (2, .ref o), (3, .ref ox), (4, .int (nI (6 * t)))]) hx hb d_L_law_659 hl (by decide) rfl (fun ls hl => ?_)
  refine lv_aload_n hx hb d_L_law_661 rfl (lv_at hl 4 rfl) ?_
  have hPc : va_P D gC (mX T o a u2 (nI pn) (nI nn) (nI sn) z18 z19 z20 z21 z24 z26 f1 f4 f5 f6 f7 f8 f9 f10 f11 f12 f13 f15 f16 f17 f22 f23 f25 f27) H := hP.lt
  refine vp_callSi (va_Run.run (va_runV (As := []) (rest := []) ⟨hx, hb, hml, hown, hw⟩ (k_M_thrown l D T o a u2 (nI pn) (nI nn) (nI sn) z18 z19 z20 z21 z24 z26 f1 f4 f5 f6 f7 f8 f9 f10 f11 f12 f13 f15 f16 f17 f22 f23 f25 f27) (cwV 0 hw (bg_V ml_L_80 wi_M_thrown wv_M_thrown wz_M wc_M_thrown) rfl rfl rfl (by decide +kernel) ⟨Nat.le_of_ble_eq_true rfl, Nat.le_of_ble_eq_true rfl⟩) ⟨sP_b, va_recv hK hPc (ci := 6) (q0 := 0) rfl rfl, sP_p hPc hK⟩ rfl rfl hl.1 rfl (lv_room (Nat.le_of_ble_eq_true rfl)) d_L_law_662 ⟨by show 40 + 8 * t + 1 + 0 + 0 ≤ 601024; omega, by show 1400 + 200 * t + 6 + 0 + 0 ≤ 7293034; omega⟩)) (fun r3 hr3 => ?_)
  replace hr3 := hr3.symm; subst hr3
  refine lv_iload hx hb d_L_law_665 (lv_at hl 1 rfl) ?_
  refine lv_icmp_eq (tgt := 672) hx hb d_L_law_667 (by decide) (fun c3 => ?_) (fun c3 => absurd (hk) c3)
  refine lv_iload hx hb d_L_law_672 (lv_at hl 1 rfl) ?_
  refine lv_if_ne (tgt := 689) hx hb d_L_law_674 (by decide) (fun c4 => ?_) (fun c4 => ?_)
  · refine lv_goto (tgt := 1268) hx hb d_L_law_689 (by decide) ?_
    refine W.widen (k := 40 + 8 * (t + 1)) (n := 1400 + 200 * (t + 1)) (by show 40 + 8 * t + 1 + 0 ≤ 40 + 8 * (t + 1); omega) (by show 1400 + 200 * t + 6 + 0 ≤ 1400 + 200 * (t + 1); omega) ?_
    exact kk H locs ls u1 zw kp fp e0 e1 oF oT kt ft ks fs fc S u2 pn nn sn z18 z19 z20 z21 z24 z26 f1 f4 f5 f6 f7 f8 f9 f10 f11 f12 f13 f15 f16 f17 f22 f23 f25 f27 ln ck hR hP hD hS (lv_sub hl [2, 3, 4, 5, 6] rfl)
  · refine lv_aload_n hx hb d_L_law_677 rfl (lv_at hl 5 rfl) ?_
    refine lv_iconst (v := 0) hx hb d_L_law_678 (by decide) ?_
    refine va_lald hx hb hK hP 19 2 rfl rfl (vp_in_nI (n := 0) (by decide) (by decide)) d_L_law_679 ?_
    rw [show (0 : Int32).toNatClampNeg = 0 from by decide]
    refine lv_iload hx hb d_L_law_680 (lv_at hl 0 rfl) ?_
    refine lv_i2l hx hb d_L_law_682 rfl ?_
    rw [hv c4]
    refine W.lcmp hx hb d_L_law_683 ?_
    refine lv_if_eq (tgt := 689) hx hb d_L_law_684 (by decide) (fun c5 => ?_) (fun c5 => absurd (lgc _) c5)
    refine lv_goto (tgt := 1268) hx hb d_L_law_689 (by decide) ?_
    refine W.widen (k := 40 + 8 * (t + 1)) (n := 1400 + 200 * (t + 1)) (by show 40 + 8 * t + 1 + 0 ≤ 40 + 8 * (t + 1); omega) (by show 1400 + 200 * t + 6 + 0 ≤ 1400 + 200 * (t + 1); omega) ?_
    exact kk H locs ls u1 zw kp fp e0 e1 oF oT kt ft ks fs fc S u2 pn nn sn z18 z19 z20 z21 z24 z26 f1 f4 f5 f6 f7 f8 f9 f10 f11 f12 f13 f15 f16 f17 f22 f23 f25 f27 ln ck hR hP hD hS (lv_sub hl [2, 3, 4, 5, 6] rfl)
